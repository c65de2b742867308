/-! ===== lacks: what is offered, the class's total ===== -/
section
def yBt (B n : Nat) (c : Int → Prop) : Prop := B < 2 ^ 34 ∧ ∀ j : Nat, B.testBit j = true ↔ j < n ∧ c j
theorem yBt_0 {c : Int → Prop} : yBt 0 0 c := ⟨by decide, fun j => by rw [Nat.zero_testBit]; exact ⟨fun h => absurd h (by decide), fun h => absurd h.1 (Nat.not_lt_zero j)⟩⟩
theorem yBt_n {B n : Nat} {c : Int → Prop} (h : yBt B n c) (hn : ¬ c n) : yBt B (n + 1) c := by
  refine ⟨h.1, fun j => ?_⟩
  rw [h.2 j]
  constructor
  · rintro ⟨a, b⟩; exact ⟨by omega, b⟩
  · rintro ⟨a, b⟩
    refine ⟨?_, b⟩
    have : j ≠ n := fun z => by subst z; exact hn b
    omega
theorem yBt_y {B n : Nat} {c : Int → Prop} (h : yBt B n c) (hn : c n) (h34 : n < 34) : jshll 1 (n : Int) = ((2 ^ n : Nat) : Int) ∧ jorl (B : Int) ((2 ^ n : Nat) : Int) = ((B ||| 2 ^ n : Nat) : Int) ∧ yBt (B ||| 2 ^ n) (n + 1) c := by
  have p : (2 : Nat) ^ n < 2 ^ 34 := Nat.pow_lt_pow_right (by decide) h34
  have p62 : (2 : Nat) ^ 34 < 2 ^ 62 := by decide
  have hB := h.1
  refine ⟨?_, jorl_n (by omega) (by omega), Nat.or_lt_two_pow hB p, fun j => ?_⟩
  · have := jshll_n (x := 1) (k := n) (by omega) (by omega)
    rw [Nat.one_mul] at this
    exact this
  · rw [Nat.testBit_or, Bool.or_eq_true, h.2 j, Nat.testBit_two_pow]
    constructor
    · rintro (⟨a, b⟩ | a)
      · exact ⟨by omega, b⟩
      · have : n = j := by simpa using a
        subst this; exact ⟨by omega, hn⟩
    · rintro ⟨a, b⟩
      by_cases e : n = j
      · exact Or.inr (by simpa using e)
      · exact Or.inl ⟨by omega, b⟩
theorem zX4_helpersOfSeven {r : Int} {h : Int → Int} {s : jMem} (hk : jik r = 34) (hl : jln r = 34) (hh : ∀ q : Int, 0 ≤ q → q < 34 → s r q = h q) : ∃ B : Nat, fX4_helpersOfSeven r s = some ((B : Int), s) ∧ yBt B 34 (yh7 h) := by
  have main : jHo (fun v t => (∃ B : Nat, v = B ∧ yBt B 34 (yh7 h)) ∧ t = s) (fX4_helpersOfSeven r s) := by
    unfold fX4_helpersOfSeven
    refine gHo_gd (by omega) (gHo_let ?_)
    rw [hl]
    refine gIt6 (fun a1 a2 a3 a4 a5 t => a1 = r ∧ a3 = r ∧ a4 = 34 ∧ t = s ∧ ∃ n : Nat, a5 = n ∧ n ≤ 34 ∧ a2 = jSum (fun q => if 1 ≤ h q then 1 else 0) n) (fun _ _ _ _ a5 => (34 - a5).toNat) ?_ 1000 r 0 r 34 0 s ⟨rfl, rfl, rfl, rfl, 0, rfl, by omega, rfl⟩ (by decide)
    rintro rec a1 a2 a3 a4 a5 t ⟨rfl, rfl, rfl, rfl, n, rfl, hn, rfl⟩ ih
    have b2 := yc_bd (P := fun q => 1 ≤ h q) n
    unfold bX4_helpersOfSeven_10
    refine gHo_if (fun hc => ?_) (fun hc => ?_)
    · have e : n = 34 := by omega
      subst e
      have eu : jSum (fun q => if 1 ≤ h q then 1 else 0) 34 = yUn h := rfl
      rw [eu]
      unfold bX4_helpersOfSeven_42
      refine gIt5 (fun c1 c2 c3 c4 t2 => c1 = a3 ∧ c2 = yUn h ∧ t2 = t ∧ ∃ i B : Nat, c4 = i ∧ i ≤ 34 ∧ c3 = B ∧ yBt B i (yh7 h)) (fun _ _ _ c4 => (34 - c4).toNat) ?_ 1000 a3 _ 0 0 t ⟨rfl, rfl, rfl, 0, 0, rfl, by omega, rfl, yBt_0⟩ (by decide)
      rintro rec2 c1 c2 c3 c4 t2 ⟨rfl, rfl, rfl, i, B, rfl, hi, rfl, hB⟩ ih2
      unfold bX4_helpersOfSeven_47
      refine gHo_if (fun e2 => ?_) (fun e2 => ?_)
      · have ei : i = 34 := by omega
        subst ei
        exact gHo_ret ⟨⟨B, rfl, hB⟩, rfl⟩
      · have no : ¬ yh7 h i → jHo (fun v t => (∃ B : Nat, v = B ∧ yBt B 34 (yh7 h)) ∧ t = t2) (bX4_helpersOfSeven_82 rec2 c1 (yUn h) B i t2) := by
          intro k
          unfold bX4_helpersOfSeven_82
          exact gHo_l32 (by omega) (by omega) (ih2 _ _ _ _ _ ⟨rfl, rfl, rfl, i + 1, B, by omega, by omega, rfl, yBt_n hB k⟩ (by omega))
        have yes : yh7 h i → jHo (fun v t => (∃ B : Nat, v = B ∧ yBt B 34 (yh7 h)) ∧ t = t2) (bX4_helpersOfSeven_75 (bX4_helpersOfSeven_82 rec2) c1 (yUn h) B i t2) := by
          intro k
          obtain ⟨k1, k2, k3⟩ := yBt_y hB k (by omega)
          unfold bX4_helpersOfSeven_75 bX4_helpersOfSeven_82
          refine gHo_let ?_
          rw [k1]
          refine gHo_let ?_
          rw [k2]
          exact gHo_l32 (by omega) (by omega) (ih2 _ _ _ _ _ ⟨rfl, rfl, rfl, i + 1, _, by omega, by omega, rfl, k3⟩ (by omega))
        refine gHo_gd ⟨by omega, by omega⟩ (gHo_let ?_)
        have ehi := hh i (by omega) (by omega)
        rw [ehi]
        refine gHo_if (fun e3 => yes (Or.inl e3)) (fun e3 => gHo_gd ⟨by omega, by omega⟩ (gHo_let ?_))
        refine gHo_if (fun e4 => gHo_if (fun e5 => no ?_) (fun e5 => yes (Or.inr ⟨e4, by omega⟩))) (fun e4 => no ?_)
        · rintro (z | z)
          · exact e3 z
          · have := z.2; omega
        · rintro (z | z)
          · exact e3 z
          · exact e4 z.1
    · have next : ∀ x : Int, x = (if 1 ≤ h n then 1 else 0) → jHo (fun v t' => (∃ B : Nat, v = B ∧ yBt B 34 (yh7 h)) ∧ t' = t) (bX4_helpersOfSeven_34 rec a3 a3 34 n (jSum (fun q => if 1 ≤ h q then 1 else 0) n) x t) := by
        intro x hx
        have : 0 ≤ x ∧ x ≤ 1 := by rw [hx]; exact y01
        unfold bX4_helpersOfSeven_34
        refine gHo_l32 (by omega) (by omega) (gHo_l32 (by omega) (by omega) (ih _ _ _ _ _ _ ⟨rfl, rfl, rfl, rfl, n + 1, by omega, by omega, by rw [hx]; rfl⟩ (by omega)))
      refine gHo_gd ⟨by omega, by omega⟩ (gHo_let ?_)
      rw [hh n (by omega) (by omega)]
      refine gHo_if (fun e => next 0 (by rw [if_neg (by omega)])) (fun e => next 1 (by rw [if_pos (by omega)]))
  obtain ⟨v, t, e, ⟨B, rfl, hB⟩, rfl⟩ := main
  exact ⟨B, e, hB⟩
theorem zX4_helpersOfOuter {r : Int} {h : Int → Int} {s : jMem} (hk : jik r = 34) (hh : ∀ q : Int, 0 ≤ q → q < 34 → s r q = h q) : ∃ B : Nat, fX4_helpersOfOuter r s = some ((B : Int), s) ∧ yBt B 34 (yh13 h) := by
  have main : jHo (fun v t => (∃ B : Nat, v = B ∧ yBt B 34 (yh13 h)) ∧ t = s) (fX4_helpersOfOuter r s) := by
    unfold fX4_helpersOfOuter
    rw [zX4_hasOuterPair hk hh, jBd_s]
    have go : ∀ d : Int, d = (if 0 < yOq h then 1 else 2) → jHo (fun v t => (∃ B : Nat, v = B ∧ yBt B 34 (yh13 h)) ∧ t = s) (bX4_helpersOfOuter_12 r d s) := by
      intro d hd
      unfold bX4_helpersOfOuter_12
      refine gIt5 (fun c1 c2 c3 c4 t2 => c1 = r ∧ c2 = d ∧ t2 = s ∧ ∃ i B : Nat, c4 = i ∧ i ≤ 34 ∧ c3 = B ∧ yBt B i (yh13 h)) (fun _ _ _ c4 => (34 - c4).toNat) ?_ 1000 r _ 0 0 s ⟨rfl, rfl, rfl, 0, 0, rfl, by omega, rfl, yBt_0⟩ (by decide)
      rintro rec2 c1 c2 c3 c4 t2 ⟨rfl, rfl, rfl, i, B, rfl, hi, rfl, hB⟩ ih2
      unfold bX4_helpersOfOuter_18
      refine gHo_if (fun e2 => ?_) (fun e2 => ?_)
      · have ei : i = 34 := by omega
        subst ei
        exact gHo_ret ⟨⟨B, rfl, hB⟩, rfl⟩
      · have no : ¬ yh13 h i → jHo (fun v t => (∃ B : Nat, v = B ∧ yBt B 34 (yh13 h)) ∧ t = t2) (bX4_helpersOfOuter_48 rec2 c1 c2 B i t2) := by
          intro k
          unfold bX4_helpersOfOuter_48
          exact gHo_l32 (by omega) (by omega) (ih2 _ _ _ _ _ ⟨rfl, rfl, rfl, i + 1, B, by omega, by omega, rfl, yBt_n hB k⟩ (by omega))
        rw [zX8_isOuter (by omega) (by omega), jBd_s]
        by_cases o : yO (i : Int)
        · rw [jb_1 o, if_neg (show ¬ (1 : Int) = 0 by decide)]
          refine gHo_gd ⟨by omega, by omega⟩ (gHo_let ?_)
          rw [hh i (by omega) (by omega)]
          refine gHo_if (fun e3 => no (fun z => ?_)) (fun e3 => ?_)
          · have := z.2
            rw [← hd] at this; omega
          · obtain ⟨k1, k2, k3⟩ := yBt_y hB (show yh13 h i from ⟨o, by rw [← hd]; omega⟩) (by omega)
            unfold bX4_helpersOfOuter_48
            refine gHo_let ?_
            rw [k1]
            refine gHo_let ?_
            rw [k2]
            exact gHo_l32 (by omega) (by omega) (ih2 _ _ _ _ _ ⟨rfl, rfl, rfl, i + 1, _, by omega, by omega, rfl, k3⟩ (by omega))
        · rw [jb_0 o, if_pos (show (0 : Int) = 0 from rfl)]
          exact no (fun z => o z.1)
    by_cases o : 0 < yOq h
    · rw [jb_1 o, if_neg (show ¬ (1 : Int) = 0 by decide)]
      exact go 1 (by rw [if_pos o])
    · rw [jb_0 o, if_pos (show (0 : Int) = 0 from rfl)]
      exact go 2 (by rw [if_neg o])
  obtain ⟨v, t, e, ⟨B, rfl, hB⟩, rfl⟩ := main
  exact ⟨B, e, hB⟩
/-- what the class has found up to its limit -/
def yRep (lim : Nat) (c : Int) (B : Nat) (v : Int) (P : Int → Int → Prop) : Prop := B < 2 ^ 34 ∧ (v ≤ lim → c = v ∧ ∀ q : Nat, q < 34 → (B.testBit q = true ↔ P v q)) ∧ ((lim : Int) < v → (lim : Int) < c) ∧ (v = 99 → c = 99) ∧ v ≤ 99 ∧ c ≤ 99 ∧ ∀ y q : Int, y < v → 0 ≤ q → q < 34 → ¬ P y q
theorem yRep_cg {lim : Nat} {c v : Int} {B : Nat} {P Q : Int → Int → Prop} (h : ∀ y q : Int, y ≤ v → 0 ≤ q → q < 34 → (P y q ↔ Q y q)) (k : yRep lim c B v P) : yRep lim c B v Q := by
  obtain ⟨k1, k2, k3, k4, k5, k6, k7⟩ := k
  exact ⟨k1, fun z => ⟨(k2 z).1, fun q hq => by rw [(k2 z).2 q hq]; exact h v q (by omega) (by omega) (by omega)⟩, k3, k4, k5, k6, fun y q a b d e => k7 y q a b d ((h y q (by omega) b d).mpr e)⟩
theorem zX3_offer {s : jMem} {x : Int} {b B lim : Nat} {v : Int} {P : Int → Int → Prop} {D : Int → Prop} (hr : yRep lim (s 7 12) B v P) (hB : s 7 13 = B) (hb : yBt b 34 D) : jHo (fun _ t => (∀ y : Int, y ≠ 7 → t y = s y) ∧ (∀ y : Int, y ≠ 12 → y ≠ 13 → t 7 y = s 7 y) ∧ ∃ B' : Nat, t 7 13 = (B' : Int) ∧ yRep lim (t 7 12) B' (if x < v then x else v) (fun y q => P y q ∨ (x = y ∧ D q))) (fX3_offer x b s) := by
  obtain ⟨h1, h2, h3, h4, h5, h6, h7⟩ := hr
  have p62 : (2 : Nat) ^ 34 < 2 ^ 62 := by decide
  have hb1 := hb.1
  have bt : ∀ q : Nat, q < 34 → (b.testBit q = true ↔ D q) := fun q hq => by
    rw [hb.2 q]; exact ⟨fun z => z.2, fun z => ⟨hq, z⟩⟩
  unfold fX3_offer
  refine gHo_let (gHo_if (fun e1 => gHo_let (gHo_if (fun e2 => ?_) (fun e2 => ?_))) (fun e1 => ?_))
  · refine gHo_let (gHo_let ?_)
    rw [hB, jorl_n (by omega) (by omega)]
    refine gHo_nm fun t ht => gHo_ret ⟨fun y hy => by rw [ht, jU_row hy], fun y y1 y2 => by rw [ht, jU_at, if_neg y2], B ||| b, by rw [ht, jU_at, if_pos rfl], ?_⟩
    have e11 : t 7 12 = s 7 12 := by rw [ht, jU_at, if_neg (by decide)]
    rw [e11]
    refine ⟨Nat.or_lt_two_pow h1 hb1, fun z => ?_, fun z => ?_, fun z => ?_, ?_, h6, fun y q y1 q0 q4 => ?_⟩
    · by_cases c : x < v
      · rw [if_pos c] at z ⊢
        exfalso
        by_cases d : v ≤ lim
        · have := (h2 d).1; omega
        · have := h3 (by omega); omega
      · rw [if_neg c] at z ⊢
        obtain ⟨a1, a2⟩ := h2 z
        refine ⟨a1, fun q hq => ?_⟩
        rw [Nat.testBit_or, Bool.or_eq_true, a2 q hq, bt q hq]
        exact ⟨fun k => k.elim Or.inl (fun k => Or.inr ⟨by omega, k⟩), fun k => k.elim Or.inl (fun k => Or.inr k.2)⟩
    · by_cases c : x < v
      · rw [if_pos c] at z; omega
      · rw [if_neg c] at z; exact h3 z
    · by_cases c : x < v
      · rw [if_pos c] at z; omega
      · rw [if_neg c] at z; exact h4 z
    · split <;> omega
    · by_cases c : x < v
      · rw [if_pos c] at y1
        rintro (k | k)
        · exact h7 y q (by omega) q0 q4 k
        · have := k.1; omega
      · rw [if_neg c] at y1
        rintro (k | k)
        · exact h7 y q y1 q0 q4 k
        · have := k.1; omega
  · refine gHo_ret ⟨fun _ _ => rfl, fun _ _ _ => rfl, B, hB, h1, fun z => ?_, fun z => ?_, fun z => ?_, ?_, h6, fun y q y1 q0 q4 => ?_⟩
    · by_cases c : x < v
      · rw [if_pos c] at z ⊢
        exfalso
        by_cases d : v ≤ lim
        · have := (h2 d).1; omega
        · have := h3 (by omega); omega
      · rw [if_neg c] at z ⊢
        obtain ⟨a1, a2⟩ := h2 z
        refine ⟨a1, fun q hq => ?_⟩
        rw [a2 q hq]
        exact ⟨Or.inl, fun k => k.elim id (fun k => by have := k.1; omega)⟩
    · by_cases c : x < v
      · by_cases d : v ≤ lim
        · have := (h2 d).1; omega
        · exact h3 (by omega)
      · rw [if_neg c] at z; exact h3 z
    · by_cases c : x < v
      · rw [if_pos c] at z; omega
      · rw [if_neg c] at z; exact h4 z
    · split <;> omega
    · by_cases c : x < v
      · rw [if_pos c] at y1
        rintro (k | k)
        · exact h7 y q (by omega) q0 q4 k
        · have := k.1; omega
      · rw [if_neg c] at y1
        rintro (k | k)
        · exact h7 y q y1 q0 q4 k
        · have := k.1; omega
  · refine gHo_nm fun t1 ht1 => gHo_nm fun t ht => gHo_ret ⟨fun y hy => by rw [ht, jU_row hy, ht1, jU_row hy], fun y y1 y2 => by rw [ht, jU_at, if_neg y2, ht1, jU_at, if_neg y1], b, by rw [ht, jU_at, if_pos rfl], ?_⟩
    have e11 : t 7 12 = x := by rw [ht, jU_at, if_neg (by decide), ht1, jU_at, if_pos rfl]
    rw [e11]
    refine ⟨hb1, fun z => ?_, fun z => ?_, fun z => ?_, ?_, by omega, fun y q y1 q0 q4 => ?_⟩
    · by_cases c : x < v
      · rw [if_pos c] at z ⊢
        refine ⟨rfl, fun q hq => ?_⟩
        rw [bt q hq]
        exact ⟨fun k => Or.inr ⟨rfl, k⟩, fun k => k.elim (fun k => absurd k (h7 x q c (by omega) (by omega))) (fun k => k.2)⟩
      · rw [if_neg c] at z ⊢
        have := (h2 z).1; omega
    · by_cases c : x < v
      · rw [if_pos c] at z; exact z
      · rw [if_neg c] at z; omega
    · by_cases c : x < v
      · rw [if_pos c] at z; exact z
      · rw [if_neg c] at z; omega
    · split <;> omega
    · by_cases c : x < v
      · rw [if_pos c] at y1
        rintro (k | k)
        · exact h7 y q (by omega) q0 q4 k
        · have := k.1; omega
      · rw [if_neg c] at y1
        rintro (k | k)
        · exact h7 y q y1 q0 q4 k
        · have := k.1; omega
end

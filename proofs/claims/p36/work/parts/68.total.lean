/-! ===== lacks: the class's total ===== -/
section
theorem yTP_K {L : Int → Int} (hL : ∀ q : Int, 0 ≤ q → q < 34 → 0 ≤ L q) : ∀ R : Nat, R ≤ 4 → ∀ (g p : Int) (n : Int → Int), yTP L 2 R g p n ↔ yTP L 4 R g p n := by
  intro R
  induction R with
  | zero => intro _ g p n; exact Iff.rfl
  | succ R ih =>
    intro hR g p n
    have k : ∀ g p, yRw L R 2 g p n ↔ yRw L R 4 g p n := fun g p => yRw_K (fun j hj => by
      have := yLn_r (r := (R : Int)) (by omega) (by omega) hj
      exact hL _ this.1 this.2)
    simp only [yTP]
    constructor
    · rintro ⟨a, b, c, d⟩; exact ⟨a, b, (ih (by omega) _ _ _).mp c, (k _ _).mp d⟩
    · rintro ⟨a, b, c, d⟩; exact ⟨a, b, (ih (by omega) _ _ _).mpr c, (k _ _).mpr d⟩
theorem yLE_ex {S : Int → Prop} (h0 : ∀ c, S c → 0 ≤ c) : ∃ v, yLE v S := by
  have ind : ∀ k : Nat, k ≤ 99 → (∃ c, S c ∧ c < k) → ∃ v, yLE v S := by
    intro k
    induction k with
    | zero => intro _ ⟨c, a, b⟩; have := h0 c a; omega
    | succ k ih =>
      intro hk ⟨c, a, b⟩
      by_cases e : ∃ c, S c ∧ c < k
      · exact ih (by omega) e
      · have ec : c = k := by
          have := fun z => e ⟨c, a, z⟩
          by_cases z : c < k
          · exact absurd z this
          · omega
        refine ⟨k, by omega, fun _ => by rw [← ec]; exact a, fun d hd => ?_⟩
        by_cases z : d < k
        · exact absurd ⟨d, hd, z⟩ e
        · omega
  by_cases e : ∃ c, S c ∧ c < (99 : Nat)
  · exact ind 99 (Nat.le_refl _) e
  · refine ⟨99, Int.le_refl _, fun z => absurd z (by decide), fun d hd => ?_⟩
    by_cases z : d < (99 : Nat)
    · exact absurd ⟨d, hd, z⟩ e
    · omega
/-- the class's answer up to a limit: the lack, and what helps -/
def yCl (lim : Nat) (f7 f13 w : Int) (H L : Int → Int) (c b : Int) : Prop := ∃ (v : Int) (B : Nat), yLack f7 f13 w H L v ∧ b = (B : Int) ∧ yRep lim c B v (fun y q => yHc f7 f13 w H L y q)
theorem zX3_tilesOf {s : jMem} {v : Int} {T m : Nat} (h : yVl v T m) : fX3_tilesOf v s = some ((T : Int), s) := by
  have := h.2.2
  unfold fX3_tilesOf
  rw [jLet_e, yVl_sh h, j32_id (by omega) (by omega)]
  rfl
theorem zX3_total {s : jMem} {lim c : Nat} {w : Int} (hc : c < 4) (h11 : s 7 11 = c) (hw : 0 ≤ w ∧ w ≤ 4) (h10 : s 7 10 = w) (h7 : s 7 9 = lim) (h14 : lim ≤ 14) (hb : ∀ q : Int, 0 ≤ q → q < 34 → 0 ≤ s 8 q ∧ s 8 q ≤ 4 ∧ 0 ≤ s 9 q ∧ s 9 q ≤ 4) (hlane : yRwL lim (s 8) (s 9) (s 10) c) (hs : ySms lim w c (s 8) (s 9) (s 13)) : jHo (fun _ t => (∀ x : Int, x ≠ 7 → t x = s x) ∧ (∀ y : Int, y ≠ 12 → y ≠ 13 → t 7 y = s 7 y) ∧ yCl lim (s 6 0) (s 6 1) w (s 8) (s 9) (t 7 12) (t 7 13)) (fX3_total s) := by
  obtain ⟨w1, w2, w3, w4, w5, w6⟩ := jjk_t
  obtain ⟨u1, u2, u3, u4, u5, u6, u7, u8, u9⟩ := jik_t
  obtain ⟨v1, v2, v3, v4, v5, v6, v7, v8, v9, v10⟩ := jln_t
  obtain ⟨Q, hQ⟩ : ∃ Q : Int → jMem → Prop, Q = fun _ t => (∀ x : Int, x ≠ 7 → t x = s x) ∧ (∀ y : Int, y ≠ 12 → y ≠ 13 → t 7 y = s 7 y) ∧ yCl lim (s 6 0) (s 6 1) w (s 8) (s 9) (t 7 12) (t 7 13) := ⟨_, rfl⟩
  rw [← hQ]
  unfold fX3_total
  refine gHo_let (gHo_let ?_)
  rw [h11, h10]
  refine gHo_l32 (by omega) (by omega) (gHo_l32 (by omega) (by omega) ?_)
  have e3 : yRq c 3 = c := rfl
  have key := zX3_leastWith (s := s) (ρ := yRq c) (k := 3) (lim := lim) (y := 2 * w + 1) (by rw [e3]; exact hc) (yRq_i hc (by decide)) h7 h14 hb (by rw [e3]; exact hlane) (by omega) (by omega) (fun z z0 z1 => hs z z0 (by omega))
  rw [e3] at key
  refine gHo_bd key (fun x6 t ht => ?_)
  obtain ⟨et, tot⟩ := ht
  have tot := yLs1_all hc tot
  rw [show (2 * w + 1) / 2 = w by omega, show (2 * w + 1) % 2 = 1 by omega] at tot
  have tot2 : yBst lim (yPn (s 9) w) (fun n => yTC (s 8) n 4) (yNg (s 8) 4) x6 := yBst_cg (fun n => yTP_K (fun q q0 q4 => (hb q q0 q4).2.2.1) 4 (Nat.le_refl _) _ _ n) (fun _ => rfl) (fun _ _ => Iff.rfl) tot
  have fr : ∀ x : Int, x ≠ 7 → t x = s x := fun x _ => by rw [et]
  obtain ⟨Cs, hCs⟩ : ∃ Cs : Int → Prop, Cs = fun c => ∃ n, yPn (s 9) w n ∧ c = yTC (s 8) n 4 := ⟨_, rfl⟩
  obtain ⟨lw, hlw⟩ := yLE_ex (S := Cs) (fun c hc => by
    rw [hCs] at hc
    obtain ⟨n, -, rfl⟩ := hc
    exact yTC_nn 4)
  obtain ⟨Pw, hPw⟩ : ∃ Pw : Int → Int → Prop, Pw = fun y q => ∃ n, yPn (s 9) w n ∧ yTC (s 8) n 4 = y ∧ s 8 q < n q := ⟨_, rfl⟩
  have t7 : t 7 = s 7 := by rw [et]
  have hlw2 : yLE lw (fun c => ∃ n, yPn (s 9) w n ∧ c = yTC (s 8) n 4) := by rw [← hCs]; exact hlw
  have min : ∀ y q : Int, y < lw → 0 ≤ q → q < 34 → ¬ Pw y q := by
    intro y q hy _ _ k
    rw [hPw] at k
    obtain ⟨n, n1, n2, n3⟩ := k
    have := hlw2.2.2 _ ⟨n, n1, rfl⟩
    omega
  -- the flags' part
  have e6 : ∀ z : jMem, (∀ x : Int, x ≠ 7 → z x = t x) → z 6 = s 6 ∧ z 8 = s 8 := fun z hz => ⟨by rw [hz 6 (by decide), fr 6 (by decide)], by rw [hz 8 (by decide), fr 8 (by decide)]⟩
  obtain ⟨vv, hvv⟩ : ∃ vv : Int, vv = if w = 4 ∧ s 6 0 ≠ 0 ∧ yL7 (s 8) < lw then yL7 (s 8) else lw := ⟨_, rfl⟩
  obtain ⟨P1, hP1⟩ : ∃ P1 : Int → Int → Prop, P1 = fun y q => Pw y q ∨ (w = 4 ∧ s 6 0 ≠ 0 ∧ yL7 (s 8) = y ∧ yh7 (s 8) q) := ⟨_, rfl⟩
  have fin : ∀ z : jMem, (∀ x : Int, x ≠ 7 → z x = t x) → (∀ y : Int, y ≠ 12 → y ≠ 13 → z 7 y = t 7 y) → (∃ B : Nat, z 7 13 = B ∧ yRep lim (z 7 12) B (if w = 4 ∧ s 6 1 ≠ 0 ∧ yL13 (s 8) < vv then yL13 (s 8) else vv) (fun y q => P1 y q ∨ (w = 4 ∧ s 6 1 ≠ 0 ∧ yL13 (s 8) = y ∧ yh13 (s 8) q))) → jHo Q (jRet 0 z) := by
    rintro z z1 z2 ⟨B, z3, z4⟩
    refine gHo_ret ?_
    rw [hQ]
    refine ⟨fun x x1 => by rw [z1 x x1]; exact fr x x1, fun y y1 y2 => by rw [z2 y y1 y2, t7], _, B, ⟨lw, hlw2, rfl⟩, z3, ?_⟩
    unfold yLk
    rw [← hvv]
    refine yRep_cg (fun y q _ _ _ => ?_) z4
    rw [hP1, hPw]
    unfold yHc
    constructor
    · rintro ((k | k) | k)
      · exact Or.inl k
      · exact Or.inr (Or.inl k)
      · exact Or.inr (Or.inr k)
    · rintro (k | k | k)
      · exact Or.inl (Or.inl k)
      · exact Or.inl (Or.inr k)
      · exact Or.inr k
  have outer : ∀ (d : Int) (z : jMem), (d = 1 ∧ w = 4 ∨ d = 0 ∧ w ≠ 4) → (∀ x : Int, x ≠ 7 → z x = t x) → (∀ y : Int, y ≠ 12 → y ≠ 13 → z 7 y = t 7 y) → (∃ B : Nat, z 7 13 = B ∧ yRep lim (z 7 12) B vv P1) → jHo Q (bX3_total_95 d z) := by
    rintro d z hd z1 z2 ⟨B, z3, z4⟩
    have no : ¬ (w = 4 ∧ s 6 1 ≠ 0) → jHo Q (jRet 0 z) := by
      intro k
      refine fin z z1 z2 ⟨B, z3, ?_⟩
      rw [if_neg (fun c => k ⟨c.1, c.2.1⟩)]
      exact yRep_cg (fun y q _ _ _ => ⟨Or.inl, fun c => c.elim id (fun c => absurd ⟨c.1, c.2.1⟩ k)⟩) z4
    unfold bX3_total_95
    obtain ⟨g6, g8⟩ := e6 z z1
    refine gHo_if (fun e1 => no (fun c => by omega)) (fun e1 => gHo_let ?_)
    rw [g6]
    refine gHo_if (fun e2 => no (fun c => c.2 e2)) (fun e2 => ?_)
    have hh : ∀ q : Int, 0 ≤ q → q < 34 → z 8 q = s 8 q := fun q _ _ => by rw [g8]
    obtain ⟨bb, b1, b2⟩ := zX4_helpersOfOuter (r := 8) (h := s 8) (s := z) (by omega) hh
    rw [zX4_lackOfOuter (r := 8) (h := s 8) (by omega) hh, jBd_s, b1, jBd_s]
    refine gHo_bd (zX3_offer z4 z3 b2) (fun _ z' hz' => ?_)
    obtain ⟨k1, k2, B', k3, k4⟩ := hz'
    refine fin z' (fun x hx => by rw [k1 x hx]; exact z1 x hx) (fun y y1 y2 => by rw [k2 y y1 y2]; exact z2 y y1 y2) ⟨B', k3, ?_⟩
    have w4 : w = 4 := by omega
    by_cases c : yL13 (s 8) < vv
    · rw [if_pos c] at k4
      rw [if_pos ⟨w4, e2, c⟩]
      exact yRep_cg (fun y q _ _ _ => ⟨fun c => c.elim Or.inl (fun c => Or.inr ⟨w4, e2, c.1, c.2⟩), fun c => c.elim Or.inl (fun c => Or.inr ⟨c.2.2.1, c.2.2.2⟩)⟩) k4
    · rw [if_neg c] at k4
      rw [if_neg (fun z => c z.2.2)]
      exact yRep_cg (fun y q _ _ _ => ⟨fun c => c.elim Or.inl (fun c => Or.inr ⟨w4, e2, c.1, c.2⟩), fun c => c.elim Or.inl (fun c => Or.inr ⟨c.2.2.1, c.2.2.2⟩)⟩) k4
  have seven : ∀ (d : Int) (z : jMem), (d = 1 ∧ w = 4 ∨ d = 0 ∧ w ≠ 4) → (∀ x : Int, x ≠ 7 → z x = t x) → (∀ y : Int, y ≠ 12 → y ≠ 13 → z 7 y = t 7 y) → (∃ B : Nat, z 7 13 = B ∧ yRep lim (z 7 12) B lw Pw) → jHo Q (bX3_total_62 d z) := by
    rintro d z hd z1 z2 ⟨B, z3, z4⟩
    have no : ¬ (w = 4 ∧ s 6 0 ≠ 0) → jHo Q (bX3_total_95 d z) := by
      intro k
      refine outer d z hd z1 z2 ⟨B, z3, ?_⟩
      rw [hvv, hP1, if_neg (fun c => k ⟨c.1, c.2.1⟩)]
      exact yRep_cg (fun y q _ _ _ => ⟨Or.inl, fun c => c.elim id (fun c => absurd ⟨c.1, c.2.1⟩ k)⟩) z4
    unfold bX3_total_62
    obtain ⟨g6, g8⟩ := e6 z z1
    refine gHo_if (fun e1 => no (fun c => by omega)) (fun e1 => gHo_let ?_)
    rw [g6]
    refine gHo_if (fun e2 => no (fun c => c.2 e2)) (fun e2 => ?_)
    have hh : ∀ q : Int, 0 ≤ q → q < 34 → z 8 q = s 8 q := fun q _ _ => by rw [g8]
    obtain ⟨bb, b1, b2⟩ := zX4_helpersOfSeven (r := 8) (h := s 8) (s := z) (by omega) (by omega) hh
    rw [zX4_lackOfSeven (r := 8) (h := s 8) (by omega) (by omega) hh, jBd_s, b1, jBd_s]
    refine gHo_bd (zX3_offer z4 z3 b2) (fun _ z' hz' => ?_)
    obtain ⟨k1, k2, B', k3, k4⟩ := hz'
    refine outer d z' hd (fun x hx => by rw [k1 x hx]; exact z1 x hx) (fun y y1 y2 => by rw [k2 y y1 y2]; exact z2 y y1 y2) ⟨B', k3, ?_⟩
    have w4 : w = 4 := by omega
    rw [hvv, hP1]
    by_cases c : yL7 (s 8) < lw
    · rw [if_pos c] at k4
      rw [if_pos ⟨w4, e2, c⟩]
      exact yRep_cg (fun y q _ _ _ => ⟨fun c => c.elim Or.inl (fun c => Or.inr ⟨w4, e2, c.1, c.2⟩), fun c => c.elim Or.inl (fun c => Or.inr ⟨c.2.2.1, c.2.2.2⟩)⟩) k4
    · rw [if_neg c] at k4
      rw [if_neg (fun z => c z.2.2)]
      exact yRep_cg (fun y q _ _ _ => ⟨fun c => c.elim Or.inl (fun c => Or.inr ⟨w4, e2, c.1, c.2⟩), fun c => c.elim Or.inl (fun c => Or.inr ⟨c.2.2.1, c.2.2.2⟩)⟩) k4
  have flags : ∀ z : jMem, (∀ x : Int, x ≠ 7 → z x = t x) → (∀ y : Int, y ≠ 12 → y ≠ 13 → z 7 y = t 7 y) → (∃ B : Nat, z 7 13 = B ∧ yRep lim (z 7 12) B lw Pw) → jHo Q (bX3_total_49 z) := by
    intro z z1 z2 z3
    unfold bX3_total_49
    refine gHo_let ?_
    rw [z2 10 (by decide) (by decide), t7, h10]
    exact gHo_if (fun e => seven 1 z (Or.inl ⟨rfl, e⟩) z1 z2 z3) (fun e => seven 0 z (Or.inr ⟨rfl, e⟩) z1 z2 z3)
  -- the ways' part
  refine gHo_nm fun z1 hz1 => gHo_nm fun z2 hz2 => gHo_let ?_
  have n1 : ∀ x : Int, x ≠ 7 → z2 x = t x := fun x hx => by rw [hz2, jU_row hx, hz1, jU_row hx]
  have n2 : ∀ y : Int, y ≠ 12 → y ≠ 13 → z2 7 y = t 7 y := fun y y1 y2 => by rw [hz2, jU_at, if_neg y2, hz1, jU_at, if_neg y1]
  have n3 : z2 7 13 = ((0 : Nat) : Int) := by rw [hz2, jU_at, if_pos rfl]; rfl
  have n4 : z2 7 12 = 99 := by rw [hz2, jU_at, if_neg (by decide), hz1, jU_at, if_pos rfl]
  obtain ⟨T, m, hv, hcase⟩ := tot2
  refine gHo_if (fun e1 => ?_) (fun e1 => ?_)
  · have eNW : x6 = 1099511627776 := by
      unfold jcmp at e1
      split at e1
      · exact absurd e1 (by decide)
      · split at e1
        · assumption
        · exact absurd e1 (by decide)
    subst eNW
    obtain ⟨eT, em⟩ := yVl_u hv yVl_nw
    have far : ∀ n, yPn (s 9) w n → (lim : Int) < yTC (s 8) n 4 := by
      rcases hcase with ⟨-, -, c⟩ | ⟨c, -⟩
      · exact c
      · omega
    refine flags z2 n1 n2 ⟨0, n3, ?_⟩
    rw [n4]
    have lim_lw : (lim : Int) < lw := by
      by_cases c : lw < 99
      · obtain ⟨n, k1, k2⟩ := hlw2.2.1 c
        have := far n k1
        omega
      · omega
    exact ⟨by decide, fun z => by omega, fun _ => by omega, fun _ => rfl, hlw.1, by omega, min⟩
  · rw [zX3_tilesOf hv, jBd_s]
    refine gHo_let ?_
    rw [yVl_mask hv]
    have cc : T ≤ lim ∧ (∃ n, yPn (s 9) w n ∧ yTC (s 8) n 4 = (T : Int)) ∧ (∀ n, yPn (s 9) w n → (T : Int) ≤ yTC (s 8) n 4) ∧ ∀ j : Nat, m.testBit j = true ↔ ∃ n, yPn (s 9) w n ∧ yTC (s 8) n 4 = (T : Int) ∧ yNg (s 8) 4 n j := by
      rcases hcase with ⟨c1, c2, -⟩ | c
      · exfalso
        subst c1 c2
        apply e1
        rw [hv.1]
        decide
      · exact c
    obtain ⟨c1, ⟨n, c2, c2'⟩, c3, c4⟩ := cc
    have eT : lw = T := by
      have a := hlw2.2.2 _ ⟨n, c2, rfl⟩
      have : lw < 99 := by omega
      obtain ⟨n', k1, k2⟩ := hlw2.2.1 this
      have := c3 n' k1
      omega
    have bt : yBt m 34 (fun q => Pw T q) := by
      refine ⟨hv.2.1, fun j => ?_⟩
      rw [c4 j, hPw]
      constructor
      · rintro ⟨n, a, b, c⟩; exact ⟨c.2.1, n, a, b, c.2.2⟩
      · rintro ⟨a, n, b, c, d⟩; exact ⟨n, b, c, by omega, a, d⟩
    have r0 : yRep lim (z2 7 12) 0 99 (fun _ _ => False) := by
      rw [n4]
      exact ⟨by decide, fun z => by omega, fun _ => by omega, fun _ => rfl, by omega, by omega, fun _ _ _ _ _ => id⟩
    refine gHo_bd (zX3_offer r0 n3 bt) (fun _ z' hz' => ?_)
    obtain ⟨k1, k2, B', k3, k4⟩ := hz'
    refine flags z' (fun x hx => by rw [k1 x hx]; exact n1 x hx) (fun y y1 y2 => by rw [k2 y y1 y2]; exact n2 y y1 y2) ⟨B', k3, ?_⟩
    rw [if_pos (by omega), ← eT] at k4
    refine yRep_cg (fun y q hy q0 q4 => ⟨?_, fun k => ?_⟩) k4
    · rintro (k | ⟨k, k'⟩)
      · exact absurd k id
      · rw [k] at k'; exact k'
    · by_cases e : y = lw
      · subst e; exact Or.inr ⟨rfl, k⟩
      · exact absurd k (min y q (by omega) q0 q4)
end

/-! ===== worth: sums, tries, seven ===== -/
section
abbrev yIn (c b : Int) : Prop := jand (jshr b c) 1 = 1
abbrev yCt (N : Nat) (C O : Int → Int) (b k : Int) : Prop := yIn (C k) b ∧ ∀ j : Nat, j < N → ¬ ((j : Int) ≠ k ∧ O j = C k ∧ yIn (C j) b)
def ySm (N : Nat) (C P O : Int → Int) (b : Int) (n : Nat) : Int := jSum (fun k => if yCt N C O b k then P k else 0) n
theorem ySm_bd {N : Nat} {C P O : Int → Int} {b : Int} (hP : ∀ k : Nat, k < N → 0 ≤ P k ∧ P k ≤ 1000) {n : Nat} (hn : n ≤ N) : 0 ≤ ySm N C P O b n ∧ ySm N C P O b n ≤ 1000 * n := by
  refine jSum_bd (fun i hi => ?_)
  have := hP i (by omega)
  split <;> omega
theorem zX6_isIn {c b : Int} {s : jMem} : fX6_isIn c b s = some (jb (yIn c b), s) := by
  unfold fX6_isIn
  simp only [jLet_e, jRet]
  by_cases e : yIn c b
  · rw [if_pos e, jb_1 e]
  · rw [if_neg e, jb_0 e]
theorem zX6_isPutOut {N k : Nat} {C O : Int → Int} {b : Int} {s : jMem} (hN : s 21 3 = N) (N20 : N ≤ 20) (hk : k < N) (hC : ∀ i : Nat, i < N → s 22 i = C i ∧ s 24 i = O i) : ∃ v, fX6_isPutOut k b s = some (v, s) ∧ (v = 1 ∨ v = 0) ∧ (v = 0 ↔ ∀ j : Nat, j < N → ¬ ((j : Int) ≠ k ∧ O j = C k ∧ yIn (C j) b)) := by
  obtain ⟨-, -, -, -, -, -, -, -, u9, u10, u11⟩ := jik_t
  have main : jHo (fun v t => t = s ∧ (v = 1 ∨ v = 0) ∧ (v = 0 ↔ ∀ j : Nat, j < N → ¬ ((j : Int) ≠ k ∧ O j = C k ∧ yIn (C j) b))) (fX6_isPutOut k b s) := by
    unfold fX6_isPutOut
    refine gIt4 (fun a1 a2 a3 t => a1 = k ∧ a2 = b ∧ t = s ∧ ∃ n : Nat, a3 = n ∧ n ≤ N ∧ ∀ j : Nat, j < n → ¬ ((j : Int) ≠ k ∧ O j = C k ∧ yIn (C j) b)) (fun _ _ a3 => (20 - a3).toNat) ?_ 1000 k b 0 s ⟨rfl, rfl, rfl, 0, rfl, by omega, fun j hj => by omega⟩ (by decide)
    rintro rec a1 a2 a3 t ⟨rfl, rfl, rfl, n, rfl, hn, hb⟩ ih
    unfold bX6_isPutOut_2
    refine gHo_let ?_
    rw [hN]
    refine gHo_if (fun e => ?_) (fun e => ?_)
    · have : n = N := by omega
      subst this
      exact gHo_ret ⟨rfl, Or.inr rfl, fun _ => hb, fun _ => rfl⟩
    · have next : ¬ ((n : Int) ≠ k ∧ O n = C k ∧ yIn (C n) a2) → jHo (fun v t' => t' = t ∧ (v = 1 ∨ v = 0) ∧ (v = 0 ↔ ∀ j : Nat, j < N → ¬ ((j : Int) ≠ k ∧ O j = C k ∧ yIn (C j) a2))) (bX6_isPutOut_45 rec k a2 n t) := by
        intro hx
        unfold bX6_isPutOut_45
        refine gHo_l32 (by omega) (by omega) (ih _ _ _ _ ⟨rfl, rfl, rfl, n + 1, by omega, by omega, fun j hj => ?_⟩ (by omega))
        by_cases ej : j = n
        · subst ej; exact hx
        · exact hb j (by omega)
      refine gHo_if (fun e1 => next (fun z => z.1 e1)) (fun e1 => ?_)
      refine gHo_gd ⟨by omega, by omega⟩ (gHo_let (gHo_gd ⟨by omega, by omega⟩ (gHo_let ?_)))
      rw [(hC n (by omega)).2, (hC k hk).1]
      refine gHo_if (fun e2 => ?_) (fun e2 => next (fun z => e2 z.2.1))
      refine gHo_gd ⟨by omega, by omega⟩ (gHo_let ?_)
      rw [(hC n (by omega)).1, zX6_isIn, jBd_s]
      by_cases e3 : yIn (C n) a2
      · rw [jb_1 e3, if_neg (by decide)]
        exact gHo_ret ⟨rfl, Or.inl rfl, fun z => absurd z (by decide), fun z => absurd ⟨e1, e2, e3⟩ (z n (by omega))⟩
      · rw [jb_0 e3, if_pos rfl]
        exact next (fun z => e3 z.2.2)
  obtain ⟨v, t, e, rfl, k1, k2⟩ := main
  exact ⟨v, e, k1, k2⟩
theorem zX6_sumOf {N : Nat} {C P O : Int → Int} {b : Int} {s : jMem} (hN : s 21 3 = N) (N20 : N ≤ 20) (hC : ∀ i : Nat, i < N → s 22 i = C i ∧ s 23 i = P i ∧ s 24 i = O i ∧ 0 ≤ P i ∧ P i ≤ 1000) : fX6_sumOf b s = some (ySm N C P O b N, s) := by
  obtain ⟨-, -, -, -, -, -, -, -, u9, u10, u11⟩ := jik_t
  have main : jHo (fun v t => v = ySm N C P O b N ∧ t = s) (fX6_sumOf b s) := by
    unfold fX6_sumOf
    refine gIt4 (fun a1 a2 a3 t => a1 = b ∧ t = s ∧ ∃ n : Nat, a3 = n ∧ n ≤ N ∧ a2 = ySm N C P O b n) (fun _ _ a3 => (20 - a3).toNat) ?_ 1000 b 0 0 s ⟨rfl, rfl, 0, rfl, by omega, rfl⟩ (by decide)
    rintro rec a1 a2 a3 t ⟨rfl, rfl, n, rfl, hn, rfl⟩ ih
    have sb := ySm_bd (C := C) (P := P) (O := O) (b := a1) (N := N) (fun k hk => (hC k hk).2.2.2) hn
    unfold bX6_sumOf_4
    refine gHo_let ?_
    rw [hN]
    refine gHo_if (fun e => ?_) (fun e => ?_)
    · have : n = N := by omega
      subst this
      exact gHo_ret ⟨rfl, rfl⟩
    · obtain ⟨c1, c2, c3, c4, c5⟩ := hC n (by omega)
      have es : ySm N C P O a1 (n + 1) = ySm N C P O a1 n + (if yCt N C O a1 n then P n else 0) := rfl
      have next : ∀ x : Int, x = ySm N C P O a1 (n + 1) → jHo (fun v t' => v = ySm N C P O a1 N ∧ t' = t) (bX6_sumOf_43 rec a1 x n t) := by
        intro x hx
        unfold bX6_sumOf_43
        exact gHo_l32 (by omega) (by omega) (ih _ _ _ _ ⟨rfl, rfl, n + 1, by omega, by omega, hx⟩ (by omega))
      refine gHo_gd ⟨by omega, by omega⟩ (gHo_let ?_)
      rw [c1, zX6_isIn, jBd_s]
      by_cases e1 : yIn (C n) a1
      · rw [jb_1 e1, if_neg (by decide)]
        obtain ⟨v, hv, v1, v2⟩ := zX6_isPutOut (k := n) (C := C) (O := O) (b := a1) hN N20 (by omega) (fun i hi => ⟨(hC i hi).1, (hC i hi).2.2.1⟩)
        rw [hv, jBd_s]
        refine gHo_if (fun e2 => ?_) (fun e2 => ?_)
        · refine gHo_gd ⟨by omega, by omega⟩ (gHo_let ?_)
          rw [c2]
          exact gHo_l32 (by omega) (by omega) (next _ (by rw [es, if_pos ⟨e1, v2.mp e2⟩]))
        · exact next _ (by rw [es, if_neg (fun z => e2 (v2.mpr z.2))]; omega)
      · rw [jb_0 e1, if_pos rfl]
        exact next _ (by rw [es, if_neg (fun z => e1 z.1)]; omega)
  obtain ⟨v, t, e, rfl, rfl⟩ := main
  exact e
theorem zX11_sumOf {N : Nat} {C P O : Int → Int} {b : Int} {s : jMem} (hN : s 53 12 = N) (N20 : N ≤ 20) (hC : ∀ i : Nat, i < N → s 63 i = C i ∧ s 64 i = P i ∧ s 65 i = O i ∧ 0 ≤ P i ∧ P i ≤ 1000) : fX11_sumOf b s = some (ySm N C P O b N, s) := by
  have u := jik_m
  have main : jHo (fun v t => v = ySm N C P O b N ∧ t = s) (fX11_sumOf b s) := by
    unfold fX11_sumOf
    refine gIt4 (fun a1 a2 a3 t => a1 = b ∧ t = s ∧ ∃ n : Nat, a3 = n ∧ n ≤ N ∧ a2 = ySm N C P O b n) (fun _ _ a3 => (20 - a3).toNat) ?_ 1000 b 0 0 s ⟨rfl, rfl, 0, rfl, by omega, rfl⟩ (by decide)
    rintro rec a1 a2 a3 t ⟨rfl, rfl, n, rfl, hn, rfl⟩ ih
    have sb := ySm_bd (C := C) (P := P) (O := O) (b := a1) (N := N) (fun k hk => (hC k hk).2.2.2) hn
    unfold bX11_sumOf_4
    refine gHo_let ?_
    rw [hN]
    refine gHo_if (fun e => ?_) (fun e => ?_)
    · have : n = N := by omega
      subst this
      exact gHo_ret ⟨rfl, rfl⟩
    · obtain ⟨c1, c2, c3, c4, c5⟩ := hC n (by omega)
      have es : ySm N C P O a1 (n + 1) = ySm N C P O a1 n + (if yCt N C O a1 n then P n else 0) := rfl
      have fin : ∀ x : Int, (x = 1 ∨ x = 0) → (x = 1 ↔ yCt N C O a1 n) → jHo (fun v t' => v = ySm N C P O a1 N ∧ t' = t) (bX11_sumOf_100 rec a1 (ySm N C P O a1 n) n x t) := by
        intro x h1 h2
        have tail : ∀ y : Int, y = (if yCt N C O a1 n then P n else 0) → jHo (fun v t' => v = ySm N C P O a1 N ∧ t' = t) (bX11_sumOf_116 rec a1 n (ySm N C P O a1 n) y t) := by
          intro y hy
          have : 0 ≤ y ∧ y ≤ 1000 := by rw [hy]; split <;> omega
          unfold bX11_sumOf_116
          exact gHo_l32 (by omega) (by omega) (gHo_l32 (by omega) (by omega) (ih _ _ _ _ ⟨rfl, rfl, n + 1, by omega, by omega, by rw [es, hy]⟩ (by omega)))
        unfold bX11_sumOf_100
        refine gHo_if (fun e0 => tail 0 (by rw [if_neg (fun z => absurd (e0.symm.trans (h2.mpr z)) (by decide))])) (fun e0 => ?_)
        refine gHo_gd ⟨by omega, by omega⟩ (gHo_let ?_)
        rw [c2]
        exact tail _ (by rw [if_pos (h2.mp (h1.resolve_right e0))])
      have inner : ∀ x : Int, (x = 1 ∨ x = 0) → (x = 1 ↔ yIn (C n) a1) → jHo (fun v t' => v = ySm N C P O a1 N ∧ t' = t) (bX11_sumOf_31 rec a1 (ySm N C P O a1 n) n x t) := by
        intro x h1 h2
        unfold bX11_sumOf_31
        refine gIt6 (fun b1 b2 b3 b4 b5 z => b1 = a1 ∧ b2 = ySm N C P O a1 n ∧ b3 = n ∧ z = t ∧ ∃ m : Nat, b5 = m ∧ m ≤ N ∧ (b4 = 1 ∨ b4 = 0) ∧ (b4 = 1 ↔ yIn (C n) a1 ∧ ∀ j : Nat, j < m → ¬ ((j : Int) ≠ n ∧ O j = C n ∧ yIn (C j) a1))) (fun _ _ _ _ b5 => (20 - b5).toNat) ?_ 1000 a1 _ n x 0 t ⟨rfl, rfl, rfl, rfl, 0, rfl, by omega, h1, h2.trans ⟨fun z => ⟨z, fun j hj => by omega⟩, fun z => z.1⟩⟩ (by decide)
        rintro rec2 b1 b2 b3 b4 b5 z ⟨rfl, rfl, rfl, rfl, m, rfl, hm, k1, k2⟩ ih2
        unfold bX11_sumOf_36
        refine gHo_let ?_
        rw [hN]
        refine gHo_if (fun e0 => ?_) (fun e0 => ?_)
        · have : m = N := by omega
          subst this
          exact fin b4 k1 k2
        · obtain ⟨d1, d2, d3, -⟩ := hC m (by omega)
          have no : (b4 = 0 ∨ ((m : Int) ≠ n ∧ O m = C n ∧ yIn (C m) b1)) → jHo (fun v t' => v = ySm N C P O b1 N ∧ t' = z) (bX11_sumOf_91 (bX11_sumOf_92 rec2) b1 (ySm N C P O b1 n) n m z) := by
            intro hx
            unfold bX11_sumOf_91 bX11_sumOf_92
            refine gHo_l32 (by omega) (by omega) (ih2 _ _ _ _ _ _ ⟨rfl, rfl, rfl, rfl, m + 1, by omega, by omega, Or.inr rfl, fun y => absurd y (by decide), fun y => ?_⟩ (by omega))
            rcases hx with hx | hx
            · exact absurd (hx.symm.trans (k2.mpr ⟨y.1, fun j hj => y.2 j (by omega)⟩)) (by decide)
            · exact absurd hx (y.2 m (by omega))
          have yes : ¬ b4 = 0 → ¬ ((m : Int) ≠ n ∧ O m = C n ∧ yIn (C m) b1) → jHo (fun v t' => v = ySm N C P O b1 N ∧ t' = z) (bX11_sumOf_87 (bX11_sumOf_92 rec2) b1 (ySm N C P O b1 n) n m z) := by
            intro hx hy
            unfold bX11_sumOf_87 bX11_sumOf_92
            refine gHo_l32 (by omega) (by omega) (ih2 _ _ _ _ _ _ ⟨rfl, rfl, rfl, rfl, m + 1, by omega, by omega, Or.inl rfl, fun _ => ?_, fun _ => rfl⟩ (by omega))
            have k3 := k2.mp (k1.resolve_right hx)
            refine ⟨k3.1, fun j hj => ?_⟩
            by_cases ej : j = m
            · subst ej; exact hy
            · exact k3.2 j (by omega)
          refine gHo_if (fun z0 => no (Or.inl z0)) (fun z0 => gHo_if (fun z1 => yes z0 (fun y => y.1 z1)) (fun z1 => ?_))
          refine gHo_gd ⟨by omega, by omega⟩ (gHo_let (gHo_gd ⟨by omega, by omega⟩ (gHo_let ?_)))
          rw [d3, c1]
          refine gHo_if (fun z2 => ?_) (fun z2 => yes z0 (fun y => z2 y.2.1))
          refine gHo_gd ⟨by omega, by omega⟩ (gHo_let (gHo_let (gHo_let ?_)))
          rw [d1]
          exact gHo_if (fun z3 => no (Or.inr ⟨z1, z2, z3⟩)) (fun z3 => yes z0 (fun y => z3 y.2.2))
      refine gHo_gd ⟨by omega, by omega⟩ (gHo_let (gHo_let (gHo_let ?_)))
      rw [c1]
      exact gHo_if (fun z => inner 1 (Or.inl rfl) ⟨fun _ => z, fun _ => rfl⟩) (fun z => inner 0 (Or.inr rfl) ⟨fun y => absurd y (by decide), fun y => absurd y z⟩)
  obtain ⟨v, t, e, rfl, rfl⟩ := main
  exact e
/-- the best there is so far: its sum, where it comes from, its bits -/
def yTr (U : Int → Int) (st : Int × Int × Int) (b f : Int) : Int × Int × Int := if st.1 < U b then (U b, f, b) else st
/-- what the class has of it -/
def yCs (t : jMem) (st : Int × Int × Int) : Prop := t 16 3 = st.1 ∧ (0 ≤ st.1 → t 16 4 = st.2.1 ∧ t 16 5 = st.2.2)
def yMs (t : jMem) (m : Int) (st : Int × Int × Int) : Prop := m = st.1 ∧ (0 ≤ st.1 → t 53 29 = st.2.1 ∧ t 53 30 = st.2.2)
theorem zX2_consider {U : Int → Int} {b f : Int} {st : Int × Int × Int} {s : jMem} (hU : fX6_sumOf b s = some (U b, s)) (hc : yCs s st) : jHo (fun _ t => (∀ x : Int, x ≠ 16 → t x = s x) ∧ yCs t (yTr U st b f)) (fX2_consider b f s) := by
  unfold fX2_consider
  rw [hU, jBd_s]
  refine gHo_let ?_
  rw [hc.1]
  unfold yTr
  by_cases e : U b ≤ st.1
  · rw [if_pos e, if_neg (show ¬ st.1 < U b by omega)]
    exact gHo_ret ⟨fun _ _ => rfl, hc⟩
  · rw [if_neg e, if_pos (show st.1 < U b by omega)]
    refine gHo_nm fun t1 h1 => gHo_nm fun t2 h2 => gHo_nm fun t3 h3 => gHo_ret ⟨fun x hx => ?_, ?_, fun _ => ⟨?_, ?_⟩⟩
    · rw [h3, jU_row hx, h2, jU_row hx, h1, jU_row hx]
    · rw [h3, jU_at, if_neg (by decide), h2, jU_at, if_neg (by decide), h1, jU_at, if_pos rfl]
    · rw [h3, jU_at, if_neg (by decide), h2, jU_at, if_pos rfl]
    · rw [h3, jU_at, if_pos rfl]
theorem zX11_tries {U : Int → Int} {b f m : Int} {st : Int × Int × Int} {s : jMem} (hU : fX11_sumOf b s = some (U b, s)) (hc : yMs s m st) : jHo (fun _ t => (∀ x : Int, x ≠ 53 → t x = s x) ∧ (∀ y : Int, y ≠ 29 → y ≠ 30 → y ≠ 31 → t 53 y = s 53 y) ∧ yMs t (t 53 31) (yTr U st b f)) (fX11_tries f b m s) := by
  unfold fX11_tries
  rw [hU, jBd_s]
  refine gHo_nm fun t1 h1 => ?_
  have hm := hc.1
  unfold yTr
  by_cases e : U b ≤ m
  · rw [if_pos e, if_neg (show ¬ st.1 < U b by omega)]
    refine gHo_ret ⟨fun x hx => ?_, fun y _ _ h31 => ?_, ?_, fun z => ?_⟩
    · rw [h1, jU_row hx]
    · rw [h1, jU_at, if_neg h31]
    · rw [h1, jU_at, if_pos rfl]; exact hm
    · have := hc.2 z
      rw [h1, jU_at, if_neg (by decide), jU_at, if_neg (by decide)]
      exact this
  · rw [if_neg e, if_pos (show st.1 < U b by omega)]
    refine gHo_nm fun t2 h2 => gHo_nm fun t3 h3 => gHo_nm fun t4 h4 => gHo_ret ⟨fun x hx => ?_, fun y a1 a2 a3 => ?_, ?_, fun _ => ⟨?_, ?_⟩⟩
    · rw [h4, jU_row hx, h3, jU_row hx, h2, jU_row hx, h1, jU_row hx]
    · rw [h4, jU_at, if_neg a2, h3, jU_at, if_neg a1, h2, jU_at, if_neg a3, h1, jU_at, if_neg a3]
    · rw [h4, jU_at, if_neg (by decide), h3, jU_at, if_neg (by decide), h2, jU_at, if_pos rfl]
    · rw [h4, jU_at, if_neg (by decide), h3, jU_at, if_pos rfl]
    · rw [h4, jU_at, if_pos rfl]
def yB7 (eo one : Int) : Int := (if eo ≠ 0 then 12 else 0) + (if one ≠ 0 then 16 else 0) + 288
def yE7 (h : Int → Int) (n : Nat) : Prop := ∀ q : Nat, q < n → 0 < h q → yO q
def yR7 (h : Int → Int) (n : Nat) : Prop := ∀ q p : Nat, q < n → p < n → 0 < h q → 0 < h p → q / 9 = p / 9
theorem zX2_conditionsOfSeven {r : Int} {h : Int → Int} {s : jMem} (hk : jik r = 34) (hh : ∀ q : Int, 0 ≤ q → q < 34 → s r q = h q) : ∃ eo one : Int, fX2_conditionsOfSeven r s = some (yB7 eo one, s) ∧ (eo = 1 ∨ eo = 0) ∧ (eo = 1 ↔ yE7 h 34) ∧ (one = 1 ∨ one = 0) ∧ (one = 1 ↔ yR7 h 34) := by
  have main : jHo (fun v t => t = s ∧ ∃ eo one : Int, v = yB7 eo one ∧ (eo = 1 ∨ eo = 0) ∧ (eo = 1 ↔ yE7 h 34) ∧ (one = 1 ∨ one = 0) ∧ (one = 1 ↔ yR7 h 34)) (fX2_conditionsOfSeven r s) := by
    unfold fX2_conditionsOfSeven
    refine gIt6 (fun a1 a2 a3 a4 a5 t => a1 = r ∧ t = s ∧ ∃ n : Nat, a5 = n ∧ n ≤ 34 ∧ (a2 = 1 ∨ a2 = 0) ∧ (a2 = 1 ↔ yE7 h n) ∧ (a3 = 1 ∨ a3 = 0) ∧ (a3 = 1 ↔ yR7 h n) ∧ ((a4 = -1 ∧ ∀ q : Nat, q < n → ¬ 0 < h q) ∨ ∃ q : Nat, q < n ∧ 0 < h q ∧ a4 = ((q / 9 : Nat) : Int))) (fun _ _ _ _ a5 => (34 - a5).toNat) ?_ 1000 r 1 1 (-1) 0 s ⟨rfl, rfl, 0, rfl, by omega, Or.inl rfl, ⟨fun _ q hq => by omega, fun _ => rfl⟩, Or.inl rfl, ⟨fun _ q p hq => by omega, fun _ => rfl⟩, Or.inl ⟨rfl, fun q hq => by omega⟩⟩ (by decide)
    rintro rec a1 a2 a3 a4 a5 t ⟨rfl, rfl, n, rfl, hn, e1, e2, o1, o2, l⟩ ih
    unfold bX2_conditionsOfSeven_9
    refine gHo_if (fun hc => ?_) (fun hc => ?_)
    · have e : n = 34 := by omega
      subst e
      have b2 : ∀ b : Int, fX6_bit 2 b t = some (if b ≠ 0 then 4 else 0, t) := fun b => zX6_bit (k := 2) (by decide)
      have b3 : ∀ b : Int, fX6_bit 3 b t = some (if b ≠ 0 then 8 else 0, t) := fun b => zX6_bit (k := 3) (by decide)
      have b4 : ∀ b : Int, fX6_bit 4 b t = some (if b ≠ 0 then 16 else 0, t) := fun b => zX6_bit (k := 4) (by decide)
      have b5 : ∀ b : Int, fX6_bit 5 b t = some (if b ≠ 0 then 32 else 0, t) := fun b => zX6_bit (k := 5) (by decide)
      have b8 : ∀ b : Int, fX6_bit 8 b t = some (if b ≠ 0 then 256 else 0, t) := fun b => zX6_bit (k := 8) (by decide)
      unfold bX2_conditionsOfSeven_76
      rw [b2, jBd_s, b3, jBd_s, jLet_e, b4, jBd_s, jLet_e, b5, jBd_s, jLet_e, b8, jBd_s, jLet_e]
      refine gHo_ret ⟨rfl, a2, a3, ?_, e1, e2, o1, o2⟩
      rcases e1 with rfl | rfl <;> rcases o1 with rfl | rfl <;> decide +kernel
    · -- a sort that isn't there
      have skip : ¬ 0 < h n → jHo (fun v t' => t' = t ∧ ∃ eo one : Int, v = yB7 eo one ∧ (eo = 1 ∨ eo = 0) ∧ (eo = 1 ↔ yE7 h 34) ∧ (one = 1 ∨ one = 0) ∧ (one = 1 ↔ yR7 h 34)) (bX2_conditionsOfSeven_70 rec a1 a2 a3 a4 n t) := by
        intro hz
        unfold bX2_conditionsOfSeven_70
        refine gHo_l32 (by omega) (by omega) (ih _ _ _ _ _ _ ⟨rfl, rfl, n + 1, by omega, by omega, e1, e2.trans ⟨fun z q hq hp => ?_, fun z q hq => z q (by omega)⟩, o1, o2.trans ⟨fun z q p hq hp h1 h2 => ?_, fun z q p hq hp => z q p (by omega) (by omega)⟩, ?_⟩ (by omega))
        · by_cases eq : q = n
          · subst eq; exact absurd hp hz
          · exact z q (by omega) hp
        · by_cases eq : q = n
          · subst eq; exact absurd h1 hz
          · by_cases ep : p = n
            · subst ep; exact absurd h2 hz
            · exact z q p (by omega) (by omega) h1 h2
        · rcases l with ⟨l1, l2⟩ | ⟨q, l1, l2, l3⟩
          · refine Or.inl ⟨l1, fun q hq => ?_⟩
            by_cases eq : q = n
            · subst eq; exact hz
            · exact l2 q (by omega)
          · exact Or.inr ⟨q, by omega, l2, l3⟩
      -- one that is
      have take : 0 < h n → ∀ x : Int, (x = 1 ∨ x = 0) → (x = 1 ↔ yE7 h (n + 1)) → jHo (fun v t' => t' = t ∧ ∃ eo one : Int, v = yB7 eo one ∧ (eo = 1 ∨ eo = 0) ∧ (eo = 1 ↔ yE7 h 34) ∧ (one = 1 ∨ one = 0) ∧ (one = 1 ↔ yR7 h 34)) (bX2_conditionsOfSeven_40 (bX2_conditionsOfSeven_70 rec) a1 a3 a4 n x t) := by
        intro hp x x1 x2
        have fin : ∀ y : Int, (y = 1 ∨ y = 0) → (y = 1 ↔ yR7 h (n + 1)) → jHo (fun v t' => t' = t ∧ ∃ eo one : Int, v = yB7 eo one ∧ (eo = 1 ∨ eo = 0) ∧ (eo = 1 ↔ yE7 h 34) ∧ (one = 1 ∨ one = 0) ∧ (one = 1 ↔ yR7 h 34)) (bX2_conditionsOfSeven_63 (bX2_conditionsOfSeven_70 rec) a1 x n y t) := by
          intro y y1 y2
          unfold bX2_conditionsOfSeven_63
          rw [zX8_rowOf (by omega) (by omega), jBd_s]
          unfold bX2_conditionsOfSeven_70
          refine gHo_l32 (by omega) (by omega) (ih _ _ _ _ _ _ ⟨rfl, rfl, n + 1, by omega, by omega, x1, x2, y1, y2, Or.inr ⟨n, by omega, hp, by omega⟩⟩ (by omega))
        have yes : yR7 h (n + 1) → jHo (fun v t' => t' = t ∧ ∃ eo one : Int, v = yB7 eo one ∧ (eo = 1 ∨ eo = 0) ∧ (eo = 1 ↔ yE7 h 34) ∧ (one = 1 ∨ one = 0) ∧ (one = 1 ↔ yR7 h 34)) (bX2_conditionsOfSeven_58 (bX2_conditionsOfSeven_63 (bX2_conditionsOfSeven_70 rec)) a1 x n t) := fun z => by
          unfold bX2_conditionsOfSeven_58
          exact fin 1 (Or.inl rfl) ⟨fun _ => z, fun _ => rfl⟩
        have no : ¬ yR7 h (n + 1) → jHo (fun v t' => t' = t ∧ ∃ eo one : Int, v = yB7 eo one ∧ (eo = 1 ∨ eo = 0) ∧ (eo = 1 ↔ yE7 h 34) ∧ (one = 1 ∨ one = 0) ∧ (one = 1 ↔ yR7 h 34)) (bX2_conditionsOfSeven_62 (bX2_conditionsOfSeven_63 (bX2_conditionsOfSeven_70 rec)) a1 x n t) := fun z => by
          unfold bX2_conditionsOfSeven_62
          exact fin 0 (Or.inr rfl) ⟨fun y => absurd y (by decide), fun y => absurd y z⟩
        have drop : yR7 h (n + 1) → yR7 h n := fun z q p hq hp => z q p (by omega) (by omega)
        unfold bX2_conditionsOfSeven_40
        refine gHo_if (fun z0 => no (fun z => absurd (z0.symm.trans (o2.mpr (drop z))) (by decide))) (fun z0 => ?_)
        have old := o2.mp (o1.resolve_right z0)
        refine gHo_if (fun z1 => yes ?_) (fun z1 => ?_)
        · rcases l with ⟨l1, l2⟩ | ⟨q, l1, l2, l3⟩
          · intro q p hq hp' h1 h2
            by_cases eq : q = n
            · by_cases ep : p = n
              · rw [eq, ep]
              · exact absurd h2 (l2 p (by omega))
            · exact absurd h1 (l2 q (by omega))
          · omega
        · rcases l with ⟨l1, l2⟩ | ⟨q0, l1, l2, l3⟩
          · omega
          · rw [zX8_rowOf (by omega) (by omega), jBd_s]
            refine gHo_if (fun z2 => yes ?_) (fun z2 => no ?_)
            · intro q p hq hp' h1 h2
              by_cases eq : q = n
              · by_cases ep : p = n
                · rw [eq, ep]
                · have := old p q0 (by omega) l1 h2 l2
                  omega
              · by_cases ep : p = n
                · have := old q q0 (by omega) l1 h1 l2
                  omega
                · exact old q p (by omega) (by omega) h1 h2
            · intro z
              have := z q0 n (by omega) (by omega) l2 hp
              omega
      refine gHo_gd ⟨by omega, by omega⟩ (gHo_let ?_)
      rw [hh n (by omega) (by omega)]
      refine gHo_if (fun z => skip (by omega)) (fun z => ?_)
      have hp : 0 < h n := by omega
      have dropE : yE7 h (n + 1) → yE7 h n := fun z q hq => z q (by omega)
      refine gHo_if (fun z0 => ?_) (fun z0 => ?_)
      · unfold bX2_conditionsOfSeven_39
        exact take hp 0 (Or.inr rfl) ⟨fun y => absurd y (by decide), fun y => absurd (z0.symm.trans (e2.mpr (dropE y))) (by decide)⟩
      · have old := e2.mp (e1.resolve_right z0)
        rw [zX8_isOuter (by omega) (by omega), jBd_s]
        by_cases o : yO (n : Int)
        · rw [jb_1 o, if_neg (by decide)]
          refine take hp 1 (Or.inl rfl) ⟨fun _ q hq h1 => ?_, fun _ => rfl⟩
          by_cases eq : q = n
          · subst eq; exact o
          · exact old q (by omega) h1
        · rw [jb_0 o, if_pos rfl]
          unfold bX2_conditionsOfSeven_39
          exact take hp 0 (Or.inr rfl) ⟨fun y => absurd y (by decide), fun y => absurd (y n (by omega) hp) o⟩
  obtain ⟨v, t, e, rfl, eo, one, rfl, k⟩ := main
  exact ⟨eo, one, e, k⟩
theorem zX11_conditionsOfSeven {f g : Int → Int} {s : jMem} (hf : ∀ q : Int, 0 ≤ q → q < 34 → s 68 q = f q ∧ 0 ≤ f q ∧ f q ≤ 100 ∧ s 69 q = g q ∧ 0 ≤ g q ∧ g q ≤ 100) : ∃ eo one : Int, fX11_conditionsOfSeven s = some (yB7 eo one, s) ∧ (eo = 1 ∨ eo = 0) ∧ (eo = 1 ↔ yE7 f 34) ∧ (one = 1 ∨ one = 0) ∧ (one = 1 ↔ yOne (fun q => f q + g q)) := by
  have u := jik_m
  obtain ⟨one, ho, o1, o2⟩ := zX11_isOneRow hf
  have main : jHo (fun v t => t = s ∧ ∃ eo : Int, v = yB7 eo one ∧ (eo = 1 ∨ eo = 0) ∧ (eo = 1 ↔ yE7 f 34)) (fX11_conditionsOfSeven s) := by
    unfold fX11_conditionsOfSeven
    refine gIt3 (fun a1 a2 t => t = s ∧ ∃ n : Nat, a2 = n ∧ n ≤ 34 ∧ (a1 = 1 ∨ a1 = 0) ∧ (a1 = 1 ↔ yE7 f n)) (fun _ a2 => (34 - a2).toNat) ?_ 1000 1 0 s ⟨rfl, 0, rfl, by omega, Or.inl rfl, ⟨fun _ q hq => by omega, fun _ => rfl⟩⟩ (by decide)
    rintro rec a1 a2 t ⟨rfl, n, rfl, hn, e1, e2⟩ ih
    unfold bX11_conditionsOfSeven_4
    refine gHo_if (fun hc => ?_) (fun hc => ?_)
    · have e : n = 34 := by omega
      subst e
      have fin : ∀ x : Int, x = (if a1 ≠ 0 then 12 else 0) → jHo (fun v t' => t' = t ∧ ∃ eo : Int, v = yB7 eo one ∧ (eo = 1 ∨ eo = 0) ∧ (eo = 1 ↔ yE7 f 34)) (bX11_conditionsOfSeven_52 x t) := by
        intro x hx
        have fin2 : ∀ y : Int, y = (if one ≠ 0 then 16 else 0) → jHo (fun v t' => t' = t ∧ ∃ eo : Int, v = yB7 eo one ∧ (eo = 1 ∨ eo = 0) ∧ (eo = 1 ↔ yE7 f 34)) (bX11_conditionsOfSeven_65 x y t) := by
          intro y hy
          unfold bX11_conditionsOfSeven_65
          refine gHo_let (gHo_let (gHo_let (gHo_ret ⟨rfl, a1, ?_, e1, e2⟩)))
          rw [hx, hy]
          rcases e1 with rfl | rfl <;> rcases o1 with rfl | rfl <;> decide +kernel
        unfold bX11_conditionsOfSeven_52
        rw [ho, jBd_s]
        exact gHo_if (fun z => fin2 0 (by rw [if_neg (fun y => y z)])) (fun z => fin2 16 (by rw [if_pos z]))
      unfold bX11_conditionsOfSeven_42
      exact gHo_if (fun z => fin 0 (by rw [if_neg (fun y => y z)])) (fun z => fin 12 (by rw [if_pos z]))
    · have hq := hf n (by omega) (by omega)
      have dropE : yE7 f (n + 1) → yE7 f n := fun z q hq => z q (by omega)
      have fin : ∀ x : Int, (x = 1 ∨ x = 0) → (x = 1 ↔ yE7 f (n + 1)) → jHo (fun v t' => t' = t ∧ ∃ eo : Int, v = yB7 eo one ∧ (eo = 1 ∨ eo = 0) ∧ (eo = 1 ↔ yE7 f 34)) (bX11_conditionsOfSeven_35 rec n x t) := by
        intro x x1 x2
        unfold bX11_conditionsOfSeven_35
        exact gHo_l32 (by omega) (by omega) (ih _ _ _ ⟨rfl, n + 1, by omega, by omega, x1, x2⟩ (by omega))
      have yes : yE7 f (n + 1) → jHo (fun v t' => t' = t ∧ ∃ eo : Int, v = yB7 eo one ∧ (eo = 1 ∨ eo = 0) ∧ (eo = 1 ↔ yE7 f 34)) (bX11_conditionsOfSeven_30 (bX11_conditionsOfSeven_35 rec) n t) := fun z => by
        unfold bX11_conditionsOfSeven_30
        exact fin 1 (Or.inl rfl) ⟨fun _ => z, fun _ => rfl⟩
      have no : ¬ yE7 f (n + 1) → jHo (fun v t' => t' = t ∧ ∃ eo : Int, v = yB7 eo one ∧ (eo = 1 ∨ eo = 0) ∧ (eo = 1 ↔ yE7 f 34)) (bX11_conditionsOfSeven_34 (bX11_conditionsOfSeven_35 rec) n t) := fun z => by
        unfold bX11_conditionsOfSeven_34
        exact fin 0 (Or.inr rfl) ⟨fun y => absurd y (by decide), fun y => absurd y z⟩
      refine gHo_if (fun z0 => no (fun z => absurd (z0.symm.trans (e2.mpr (dropE z))) (by decide))) (fun z0 => ?_)
      have old := e2.mp (e1.resolve_right z0)
      have ext : (0 < f n → yO n) → yE7 f (n + 1) := fun z q hq h1 => by
        by_cases eq : q = n
        · subst eq; exact z h1
        · exact old q (by omega) h1
      refine gHo_gd ⟨by omega, by omega⟩ (gHo_let ?_)
      rw [hq.1]
      refine gHo_if (fun z1 => yes (ext (fun y => by omega))) (fun z1 => ?_)
      rw [zX11_isOuter (by omega) (by omega), jBd_s]
      by_cases o : yO (n : Int)
      · rw [jb_1 o, if_neg (by decide)]; exact yes (ext (fun _ => o))
      · rw [jb_0 o, if_pos rfl]; exact no (fun y => o (y n (by omega) (by omega)))
  obtain ⟨v, t, e, rfl, eo, rfl, k⟩ := main
  exact ⟨eo, one, e, k.1, k.2, o1, o2⟩
end

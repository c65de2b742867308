/-! ===== lacks: the class's rows added ===== -/
section
theorem yPar2 : ∀ a : Nat, a < 10 → ∀ b : Nat, b < 10 → jand (jand (a : Int) (b : Int)) 1 = if a % 2 = 1 ∧ b % 2 = 1 then 1 else 0 := by decide +kernel
/-- what a cell covers -/
def yCv (C : (Int → Int) → Int) (N : (Int → Int) → Nat → Prop) (T m : Nat) (n : Int → Int) : Prop := (T : Int) ≤ C n ∧ ((T : Int) = C n → ∀ j : Nat, N n j → m.testBit j = true)
theorem yCv_ls {C : (Int → Int) → Int} {N : (Int → Int) → Nat → Prop} {T m T' m' : Nat} {n : Int → Int} (h : yLs T m T' m') (k : yCv C N T' m' n) : yCv C N T m n := by
  obtain ⟨k1, k2⟩ := k
  rcases h with h | ⟨h1, h2⟩
  · exact ⟨by omega, fun z => by omega⟩
  · subst h1
    exact ⟨k1, fun z j hj => h2 j (k2 z j hj)⟩
theorem yBst_T {lim : Nat} {P : (Int → Int) → Prop} {C : (Int → Int) → Int} {N : (Int → Int) → Nat → Prop} {v : Int} {T m : Nat} (h : yBst lim P C N v) (hv : yVl v T m) : (T = 64 ∧ m = 0) ∨ T ≤ lim := by
  obtain ⟨T', m', hv', h⟩ := h
  obtain ⟨rfl, rfl⟩ := yVl_u hv hv'
  rcases h with ⟨a, b, -⟩ | ⟨a, -⟩
  · exact Or.inl ⟨a, b⟩
  · exact Or.inr a
/-- a lane of the sums of the first k rows of an order -/
def yLs1 (lim : Nat) (ρ : Nat → Nat) (k : Nat) (H L : Int → Int) (y v : Int) : Prop := yBst lim (yQP L ρ k (y / 2) (y % 2)) (fun n => yQC H ρ n k) (yQN H ρ k) v
def yRwL (lim : Nat) (H L X : Int → Int) (R : Int) : Prop := ∀ g p : Int, 0 ≤ g → g ≤ 4 → 0 ≤ p → p ≤ 1 → yBst lim (yRw L R 2 g p) (fun n => yCo H R n (yLn R)) (yNd H R (yLn R)) (X (10 * R + 2 * g + p))
def yHL (H L : Int → Int) : Prop := ∀ q : Int, 0 ≤ q → q < 34 → 0 ≤ H q ∧ H q ≤ 4 ∧ 0 ≤ L q ∧ L q ≤ 4
/-- one row more, lane by lane -/
theorem yLs1_step {H L X S : Int → Int} {ρ : Nat → Nat} {k lim : Nat} {y : Int} (hR : ρ k < 4) (hi : ∀ i : Nat, i < k → ρ i ≠ ρ k) (h14 : lim ≤ 14) (hlane : yRwL lim H L X (ρ k)) (hsum : ∀ z : Int, 0 ≤ z → z ≤ y → yLs1 lim ρ k H L z (S z)) {g p : Int} (g0 : 0 ≤ g) (g4 : g ≤ 4) (p0 : 0 ≤ p) (p1 : p ≤ 1) (hz : 0 ≤ y - (2 * g + p)) (np : ¬ ((y - (2 * g + p)) % 2 = 1 ∧ p = 1)) : ∃ T1 m1 T2 m2 : Nat, yVl (S (y - (2 * g + p))) T1 m1 ∧ yVl (X (10 * (ρ k : Int) + 2 * g + p)) T2 m2 ∧ m1 + 2 ^ (9 * ρ k) * m2 < 2 ^ 34 ∧ 2 ^ (9 * ρ k) * m2 < 2 ^ 34 ∧ T1 ≤ 64 ∧ T2 ≤ 64 ∧ (T1 + T2 ≤ lim → yGd lim (yQP L ρ (k + 1) (y / 2) (y % 2)) (fun n => yQC H ρ n (k + 1)) (yQN H ρ (k + 1)) (T1 + T2) (m1 + 2 ^ (9 * ρ k) * m2)) ∧ ∀ n, yQP L ρ k (y / 2 - g) (y % 2 - p) n → yRw L (ρ k) 2 g p n → yQC H ρ n (k + 1) ≤ (lim : Int) → T2 ≤ lim ∧ T1 + T2 ≤ lim ∧ yCv (fun n => yQC H ρ n (k + 1)) (yQN H ρ (k + 1)) (T1 + T2) (m1 + 2 ^ (9 * ρ k) * m2) n := by
  have h := yBst_addq hR hi h14 (hsum (y - (2 * g + p)) hz (by omega)) (hlane g p g0 g4 p0 p1)
  rw [show (y - (2 * g + p)) / 2 + g = y / 2 by omega, show (y - (2 * g + p)) % 2 + p = y % 2 by omega, show (y - (2 * g + p)) / 2 = y / 2 - g by omega, show (y - (2 * g + p)) % 2 = y % 2 - p by omega] at h
  obtain ⟨T1, m1, T2, m2, v1, v2, b1, b2, t1, t2, q1, q2⟩ := h
  refine ⟨T1, m1, T2, m2, v1, v2, b1, b2, t1, t2, q1, fun n n1 n2 n3 => ?_⟩
  obtain ⟨r0, r1, r2, r3⟩ := q2 n n1 n2 n3
  exact ⟨r0, r1, r2, r3⟩
theorem yRw_H {H L : Int → Int} (hb : yHL H L) {R : Nat} (hR : R < 4) : (∀ j : Nat, j < yLn (R : Int) → 0 ≤ H (9 * (R : Int) + j)) ∧ ∀ j : Nat, j < yLn (R : Int) → L (9 * (R : Int) + j) ≤ 4 := by
  refine ⟨fun j hj => ?_, fun j hj => ?_⟩
  · have := yLn_r (r := (R : Int)) (by omega) (by omega) hj
    exact (hb _ this.1 this.2).1
  · have := yLn_r (r := (R : Int)) (by omega) (by omega) hj
    exact (hb _ this.1 this.2).2.2.2
/-- nothing of the row that is added -/
theorem yLs1_base {H L X S : Int → Int} {ρ : Nat → Nat} {k lim : Nat} {y : Int} (hR : ρ k < 4) (hi : ∀ i : Nat, i < k → ρ i ≠ ρ k) (h14 : lim ≤ 14) (hb : yHL H L) (hlane : yRwL lim H L X (ρ k)) (hsum : ∀ z : Int, 0 ≤ z → z ≤ y → yLs1 lim ρ k H L z (S z)) (y0 : 0 ≤ y) : yNv (S y) ∧ yGd lim (yQP L ρ (k + 1) (y / 2) (y % 2)) (fun n => yQC H ρ n (k + 1)) (yQN H ρ (k + 1)) (yDT (S y)) (yDm (S y)) ∧ ∀ n, yQP L ρ k (y / 2 - 0) (y % 2 - 0) n → yRw L (ρ k) 2 0 0 n → yQC H ρ n (k + 1) ≤ (lim : Int) → yCv (fun n => yQC H ρ n (k + 1)) (yQN H ρ (k + 1)) (yDT (S y)) (yDm (S y)) n := by
  obtain ⟨T1, m1, T2, m2, v1, v2, b1, b2, t1, t2, q1, q2⟩ := yLs1_step (X := X) (S := S) (y := y) (g := 0) (p := 0) hR hi h14 hlane hsum (by omega) (by omega) (by omega) (by omega) (by omega) (by omega)
  obtain ⟨hHr, hLr⟩ := yRw_H hb hR
  have z00 := yBst_00 hHr hLr (hlane 0 0 (by omega) (by omega) (by omega) (by omega))
  obtain ⟨rfl, rfl⟩ := yVl_u v2 z00
  rw [show y - (2 * 0 + 0) = y by omega] at v1
  obtain ⟨dT, dm⟩ := yVl_d v1
  rw [Nat.mul_zero] at q1 q2
  refine ⟨yNv_i v1, ?_, fun n n1 n2 n3 => ?_⟩
  · rw [dT, dm]
    rcases yBst_T (hsum y y0 (by omega)) v1 with ⟨a, b⟩ | a
    · exact Or.inl ⟨a, b⟩
    · exact q1 (by omega)
  · rw [dT, dm]
    exact (q2 n n1 n2 n3).2.2
/-- lane 0 stays -/
theorem yLs1_zero {H L X S : Int → Int} {ρ : Nat → Nat} {k lim : Nat} (hR : ρ k < 4) (hi : ∀ i : Nat, i < k → ρ i ≠ ρ k) (h14 : lim ≤ 14) (hb : yHL H L) (hlane : yRwL lim H L X (ρ k)) (h0 : yLs1 lim ρ k H L 0 (S 0)) : yLs1 lim ρ (k + 1) H L 0 (S 0) := by
  obtain ⟨b1, b2, b3⟩ := yLs1_base (S := S) (y := 0) hR hi h14 hb hlane (fun z z0 z1 => by rw [show z = 0 by omega]; exact h0) (by omega)
  refine yBst_i (by omega) b1 b2 (fun n hn hl => ?_)
  obtain ⟨g, p, n1, n2⟩ := hn
  have bd := yRw_bd (by decide) n2
  have bd2 := yQP_bd _ _ _ _ n1
  have eg : g = 0 := by omega
  have ep : p = 0 := by omega
  subst eg ep
  exact b3 n n1 n2 hl
theorem zX3_leastWith {s : jMem} {ρ : Nat → Nat} {k lim : Nat} {y : Int} (hR : ρ k < 4) (hi : ∀ i : Nat, i < k → ρ i ≠ ρ k) (h7 : s 7 9 = lim) (h14 : lim ≤ 14) (hb : yHL (s 8) (s 9)) (hlane : yRwL lim (s 8) (s 9) (s 10) (ρ k)) (y0 : 0 ≤ y) (y9 : y ≤ 9) (hsum : ∀ z : Int, 0 ≤ z → z ≤ y → yLs1 lim ρ k (s 8) (s 9) z (s 13 z)) : jHo (fun v t => t = s ∧ yLs1 lim ρ (k + 1) (s 8) (s 9) y v) (fX3_leastWith (ρ k) y s) := by
  obtain ⟨w1, w2, w3, w4, w5, w6⟩ := jjk_t
  obtain ⟨P, hP⟩ : ∃ P : (Int → Int) → Prop, P = yQP (s 9) ρ (k + 1) (y / 2) (y % 2) := ⟨_, rfl⟩
  obtain ⟨C, hC⟩ : ∃ C : (Int → Int) → Int, C = fun n => yQC (s 8) ρ n (k + 1) := ⟨_, rfl⟩
  obtain ⟨N, hN⟩ : ∃ N : (Int → Int) → Nat → Prop, N = yQN (s 8) ρ (k + 1) := ⟨_, rfl⟩
  have Sm : ∀ v, yLs1 lim ρ (k + 1) (s 8) (s 9) y v ↔ yBst lim P C N v := fun v => by rw [hP, hC, hN]; exact Iff.rfl
  have eC : ∀ n, yQC (s 8) ρ n (k + 1) = C n := fun n => by rw [hC]
  obtain ⟨b1, b2, b3⟩ := yLs1_base (S := s 13) hR hi h14 hb hlane hsum y0
  rw [← hP, ← hC, ← hN] at b2
  simp only [← hC, ← hN] at b3
  have step := fun (g p : Int) g0 g4 p0 p1 hz np => yLs1_step (S := s 13) (g := g) (p := p) hR hi h14 hlane hsum g0 g4 p0 p1 hz np
  rw [← hP, ← hC, ← hN] at step
  obtain ⟨r, hr⟩ : ∃ r, r = ρ k := ⟨_, rfl⟩
  simp only [← hr] at step b3 hR ⊢
  unfold fX3_leastWith
  refine gHo_gd ⟨y0, by omega⟩ (gHo_let ?_)
  refine gIt5 (fun a1 a2 v l t => a1 = r ∧ a2 = y ∧ t = s ∧ 1 ≤ l ∧ l ≤ y + 1 ∧ yNv v ∧ yGd lim P C N (yDT v) (yDm v) ∧ ∀ (n : Int → Int) (g p : Int), 0 ≤ g → g ≤ 4 → 0 ≤ p → p ≤ 1 → 2 * g + p < l → yQP (s 9) ρ k (y / 2 - g) (y % 2 - p) n → yRw (s 9) r 2 g p n → C n ≤ (lim : Int) → yCv C N (yDT v) (yDm v) n) (fun _ _ _ l => (y + 1 - l).toNat) ?_ 1000 r y _ 1 s ⟨rfl, rfl, rfl, by omega, by omega, b1, b2, fun n g p g0 g4 p0 p1 hk n1 n2 n3 => ?_⟩ (by omega)
  · rintro rec a1 a2 v l t ⟨rfl, rfl, rfl, l1, l2, nv, gd, cv⟩ ih
    unfold bX3_leastWith_10
    refine gHo_if (fun e2 => ?_) (fun e2 => ?_)
    · refine gHo_ret ⟨rfl, (Sm v).mpr (yBst_i (by omega) nv gd (fun n hn hl => ?_))⟩
      rw [hP] at hn
      obtain ⟨g, p, n1, n2⟩ := hn
      rw [← hr] at n2
      have bd := yRw_bd (by decide) n2
      have bd2 := yQP_bd _ _ _ _ n1
      exact cv n g p bd.1 bd.2.1 bd.2.2.1 bd.2.2.2 (by omega) n1 n2 hl
    · have par := yPar2 (a2 - l).toNat (by omega) l.toNat (by omega)
      rw [show (((a2 - l).toNat : Nat) : Int) = a2 - l by omega, show ((l.toNat : Nat) : Int) = l by omega] at par
      refine gHo_l32 (by omega) (by omega) (gHo_l32 (by omega) (by omega) (gHo_gd ⟨by omega, by omega⟩ (gHo_nm fun x hx => gHo_l32 (by omega) (by omega) (gHo_let (gHo_let ?_)))))
      rw [par]
      have next : ∀ v' : Int, yNv v' → yGd lim P C N (yDT v') (yDm v') → yLs (yDT v') (yDm v') (yDT v) (yDm v) → (∀ (n : Int → Int) (g p : Int), 0 ≤ g → g ≤ 4 → 0 ≤ p → p ≤ 1 → 2 * g + p = l → yQP (t 9) ρ k (a2 / 2 - g) (a2 % 2 - p) n → yRw (t 9) r 2 g p n → C n ≤ (lim : Int) → yCv C N (yDT v') (yDm v') n) → jHo (fun v z => z = t ∧ yLs1 lim ρ (k + 1) (t 8) (t 9) a2 v) (bX3_leastWith_102 rec r a2 v' l t) := by
        intro v' r3 r4 r5 r6
        unfold bX3_leastWith_102
        refine gHo_l32 (by omega) (by omega) (ih _ _ _ _ _ ⟨rfl, rfl, rfl, by omega, by omega, r3, r4, fun n g p g0 g4 p0 p1 hk n1 n2 n3 => ?_⟩ (by omega))
        by_cases ek : 2 * g + p = l
        · exact r6 n g p g0 g4 p0 p1 ek n1 n2 n3
        · exact yCv_ls r5 (cv n g p g0 g4 p0 p1 (by omega) n1 n2 n3)
      by_cases pq : (a2 - l).toNat % 2 = 1 ∧ l.toNat % 2 = 1
      · have keep : jHo (fun v z => z = t ∧ yLs1 lim ρ (k + 1) (t 8) (t 9) a2 v) (bX3_leastWith_102 rec r a2 v l t) := by
          refine next v nv gd (yLs_rf _ _) (fun n g p g0 g4 p0 p1 hk n1 n2 n3 => ?_)
          have bd2 := yQP_bd _ _ _ _ n1
          omega
        rw [if_pos pq, if_pos (show (1 : Int) = 1 from rfl)]
        unfold bX3_leastWith_48
        refine gHo_let (gHo_if (fun _ => keep) (fun _ => ?_))
        rw [if_neg (show ¬ (1 : Int) = 0 by decide)]
        exact keep
      · rw [if_neg pq, if_neg (show ¬ (0 : Int) = 1 by decide)]
        unfold bX3_leastWith_48
        obtain ⟨T1, m1, T2, m2, v1, v2, mb1, mb2, t1, t2', q1, q2⟩ := step (l / 2) (l % 2) (by omega) (by omega) (by omega) (by omega) (by omega) (by omega)
        rw [show a2 - (2 * (l / 2) + l % 2) = a2 - l by omega] at v1
        rw [show 10 * (r : Int) + 2 * (l / 2) + l % 2 = r * 10 + l by omega, ← hx] at v2
        refine gHo_let (gHo_if (fun e3 => ?_) (fun e3 => ?_))
        · have eNW : x = 1099511627776 := by
            unfold jcmp at e3
            split at e3
            · exact absurd e3 (by decide)
            · split at e3
              · assumption
              · exact absurd e3 (by decide)
          rw [eNW] at v2
          obtain ⟨eT, em⟩ := yVl_u v2 yVl_nw
          refine next v nv gd (yLs_rf _ _) (fun n g p g0 g4 p0 p1 hk n1 n2 n3 => ?_)
          have eg : l / 2 = g := by omega
          have ep : l % 2 = p := by omega
          rw [eg, ep] at q2
          have := (q2 n n1 n2 (by rw [eC]; exact n3)).1
          omega
        · rw [if_pos (show (0 : Int) = 0 from rfl)]
          have p62 : (2 : Nat) ^ 34 < 2 ^ 62 := by decide
          have p34 : (2 : Nat) ^ 34 = 17179869184 := by decide
          refine gHo_let (gHo_l32 (by omega) (by omega) (gHo_let ?_))
          rw [yVl_mask v2, show 9 * (r : Int) = ((9 * r : Nat) : Int) by omega, jshll_n (x := m2) (k := 9 * r) (by omega) (by rw [Nat.mul_comm]; omega)]
          refine gHo_l32 (by omega) (by omega) (gHo_gd ⟨by omega, by omega⟩ (gHo_let (gHo_let ?_)))
          rw [yVl_hi v2]
          obtain ⟨M, hM⟩ : ∃ M : Nat, M = 2 ^ (9 * r) * m2 := ⟨_, rfl⟩
          rw [Nat.mul_comm m2, ← hM]
          rw [← hM] at mb1 mb2 q1 q2
          have ev1 := v1.1
          have m1b := v1.2.1
          rw [p34] at ev1 mb1 mb2 m1b
          rw [p34]
          refine gHo_l64 (by omega) (by omega) (gHo_l64 (by omega) (by omega) ?_)
          have val : yVl (t 13 (a2 - l) + ((17179869184 * T2 : Nat) : Int) + (M : Int)) (T1 + T2) (m1 + M) := by
            refine ⟨?_, by rw [p34]; exact mb1, by omega⟩
            rw [p34, ev1]; omega
          refine gHo_bd (zX3_less (s := t) (lim := lim) h7 (by omega) nv val) (fun v' t3 ht3 => ?_)
          obtain ⟨et3, n3⟩ := ht3
          rw [et3]
          obtain ⟨dT, dm⟩ := yVl_d n3
          refine next v' (yNv_i n3) ?_ ?_ ?_
          · rw [dT, dm]
            exact yMg_G (G := yGd lim P C N) (fun T a b => yGd_or (by omega)) gd q1
          · rw [dT, dm]; exact yMg_old _ _ _ _ _
          · intro n g p g0 g4 p0 p1 hk h1 h2 h3
            have eg : l / 2 = g := by omega
            have ep : l % 2 = p := by omega
            rw [eg, ep] at q2
            obtain ⟨-, r1, r2⟩ := q2 n h1 h2 (by rw [eC]; exact h3)
            rw [dT, dm]
            exact yCv_ls (yMg_new r1) r2
  · have eg : g = 0 := by omega
    have ep : p = 0 := by omega
    subst eg ep
    exact b3 n n1 n2 (by rw [eC]; exact n3)
theorem zX3_addRow {s : jMem} {ρ : Nat → Nat} {k lim : Nat} {w : Int} (hR : ρ k < 4) (hi : ∀ i : Nat, i < k → ρ i ≠ ρ k) (hw : 0 ≤ w ∧ w ≤ 4) (h10 : s 7 10 = w) (h7 : s 7 9 = lim) (h14 : lim ≤ 14) (hb : yHL (s 8) (s 9)) (hlane : yRwL lim (s 8) (s 9) (s 10) (ρ k)) (hsum : ∀ y : Int, 0 ≤ y → y ≤ 2 * w + 1 → yLs1 lim ρ k (s 8) (s 9) y (s 13 y)) : jHo (fun _ t => (∀ x : Int, x ≠ 13 → t x = s x) ∧ ∀ y : Int, 0 ≤ y → y ≤ 2 * w + 1 → yLs1 lim ρ (k + 1) (s 8) (s 9) y (t 13 y)) (fX3_addRow (ρ k) s) := by
  obtain ⟨w1, w2, w3, w4, w5, w6⟩ := jjk_t
  have zero := yLs1_zero (S := s 13) hR hi h14 hb hlane (hsum 0 (by omega) (by omega))
  unfold fX3_addRow
  refine gHo_let ?_
  rw [h10]
  refine gHo_l32 (by omega) (by omega) (gHo_l32 (by omega) (by omega) ?_)
  refine gIt3 (fun a1 y t => a1 = ρ k ∧ 0 ≤ y ∧ y ≤ 2 * w + 1 ∧ (∀ x : Int, x ≠ 13 → t x = s x) ∧ (∀ z : Int, 0 ≤ z → z ≤ y → t 13 z = s 13 z) ∧ ∀ z : Int, y < z → z ≤ 2 * w + 1 → yLs1 lim ρ (k + 1) (s 8) (s 9) z (t 13 z)) (fun _ y => (y + 1).toNat) ?_ 1000 _ _ s ⟨rfl, by omega, by omega, fun _ _ => rfl, fun _ _ _ => rfl, fun z z1 z2 => by omega⟩ (by omega)
  rintro rec a1 y t ⟨rfl, y0, y1, fr, fl, fb⟩ ih
  unfold bX3_addRow_9
  refine gHo_if (fun e1 => gHo_ret ⟨fr, fun z z0 z2 => ?_⟩) (fun e1 => ?_)
  · by_cases ez : z = 0
    · rw [ez, fl 0 (by omega) (by omega)]; exact zero
    · exact fb z (by omega) z2
  · have e8 := fr 8 (by decide)
    have e9 := fr 9 (by decide)
    have e10 := fr 10 (by decide)
    refine gHo_bd (zX3_leastWith (s := t) (ρ := ρ) (k := k) (lim := lim) (y := y) hR hi (by rw [fr 7 (by decide)]; exact h7) h14 (by rw [e8, e9]; exact hb) (by rw [e8, e9, e10]; exact hlane) y0 (by omega) (fun z z0 z1 => by rw [e8, e9, fl z z0 z1]; exact hsum z z0 (by omega))) (fun v t2 ht2 => ?_)
    obtain ⟨et2, hv⟩ := ht2
    rw [et2]
    rw [e8, e9] at hv
    refine gHo_gd ⟨y0, by omega⟩ (gHo_nm fun t3 ht3 => gHo_l32 (by omega) (by omega) (ih _ _ _ ⟨rfl, by omega, by omega, fun x hx => by rw [ht3, jU_row hx]; exact fr x hx, fun z z0 z1 => by rw [ht3, jU_at, if_neg (by omega)]; exact fl z z0 (by omega), fun z z0 z1 => ?_⟩ (by omega)))
    rw [ht3, jU_at]
    by_cases ez : z = y
    · rw [if_pos ez, ez]; exact hv
    · rw [if_neg ez]; exact fb z (by omega) z1
/-- the sums of all rows but one lie ready -/
def ySms (lim : Nat) (w : Int) (c : Nat) (H L S : Int → Int) : Prop := ∀ y : Int, 0 ≤ y → y ≤ 2 * w + 1 → yLs1 lim (yRq c) 3 H L y (S y)
theorem yRq_k {c R : Nat} (h : R ≠ c) (hR : R < 4) (hc : c < 4) : yRq c (if R < c then R else R - 1) = R := by
  unfold yRq
  by_cases e : R < c
  · rw [if_pos e, if_neg (by omega), if_pos e]
  · rw [if_neg e, if_neg (by omega), if_neg (by omega)]; omega
theorem yRq_i {c k : Nat} (hc : c < 4) (hk : k < 4) : ∀ i : Nat, i < k → yRq c i ≠ yRq c k := by
  intro i hi
  unfold yRq
  split <;> split <;> (try split) <;> (try split) <;> omega
theorem yLs1_0 {lim : Nat} {ρ : Nat → Nat} {H L : Int → Int} : yLs1 lim ρ 0 H L 0 0 ∧ ∀ y : Int, 0 < y → yLs1 lim ρ 0 H L y 1099511627776 := by
  refine ⟨⟨0, 0, ⟨by decide, by decide, by decide⟩, Or.inr ⟨Nat.zero_le _, ⟨fun _ => 0, ⟨rfl, rfl⟩, rfl⟩, fun n _ => Int.le_refl 0, fun j => ⟨fun h => by rw [Nat.zero_testBit] at h; exact absurd h (by decide), fun ⟨n, _, _, ⟨i, hi, _⟩, _⟩ => absurd hi (by omega)⟩⟩⟩, fun y y0 => ⟨64, 0, yVl_nw, Or.inl ⟨rfl, rfl, fun n hn => ?_⟩⟩⟩
  have a := hn.1
  have b := hn.2
  omega
theorem zX3_addAllBut {s : jMem} {c lim : Nat} {w : Int} (hc : c < 4) (hw : 0 ≤ w ∧ w ≤ 4) (h10 : s 7 10 = w) (h7 : s 7 9 = lim) (h14 : lim ≤ 14) (hb : yHL (s 8) (s 9)) (hlane : ∀ R : Nat, R < 4 → R ≠ c → yRwL lim (s 8) (s 9) (s 10) R) : jHo (fun _ t => (∀ x : Int, x ≠ 7 → x ≠ 13 → t x = s x) ∧ (∀ y : Int, y ≠ 11 → t 7 y = s 7 y) ∧ t 7 11 = c ∧ ySms lim w c (t 8) (t 9) (t 13)) (fX3_addAllBut c s) := by
  obtain ⟨w1, w2, w3, w4, w5, w6⟩ := jjk_t
  obtain ⟨v1, v2, v3, v4, v5, v6, v7, v8, v9, v10⟩ := jln_t
  unfold fX3_addAllBut
  refine gHo_nm fun s0 hs0 => ?_
  rw [sJ7_filll 13 1099511627776 10 s0 (by omega) (by omega) (by decide), jBd_s]
  refine gHo_gd ⟨by omega, by omega⟩ (gHo_nm fun s1 hs1 => ?_)
  have f1 : ∀ x : Int, x ≠ 13 → s1 x = s0 x := fun x hx => by rw [hs1, jU_row hx, jFill_row hx]
  have f0 : ∀ x : Int, x ≠ 7 → s0 x = s x := fun x hx => by rw [hs0, jU_row hx]
  have f7 : ∀ y : Int, y ≠ 11 → s0 7 y = s 7 y := fun y hy => by rw [hs0, jU_at, if_neg hy]
  have f11 : s0 7 11 = c := by rw [hs0, jU_at, if_pos rfl]
  have sum0 : ∀ y : Int, 0 ≤ y → y ≤ 2 * w + 1 → yLs1 lim (yRq c) 0 (s 8) (s 9) y (s1 13 y) := by
    intro y y0 y1
    by_cases e : y = 0
    · subst e
      rw [show s1 13 0 = 0 by rw [hs1, jU_at, if_pos rfl]]
      exact yLs1_0.1
    · rw [show s1 13 y = 1099511627776 by rw [hs1, jU_at, if_neg e]; exact jFill_at (n := ((10 : Nat) : Int)) (by omega) (by omega)]
      exact yLs1_0.2 y (by omega)
  refine gIt3 (fun a1 a t => a1 = c ∧ ∃ R : Nat, a = R ∧ R ≤ 4 ∧ (∀ x : Int, x ≠ 13 → t x = s0 x) ∧ ∀ y : Int, 0 ≤ y → y ≤ 2 * w + 1 → yLs1 lim (yRq c) (if R ≤ c then R else R - 1) (s 8) (s 9) y (t 13 y)) (fun _ a => (4 - a).toNat) ?_ 1000 _ 0 s1 ⟨rfl, 0, rfl, by omega, f1, fun y y0 y1 => by rw [if_pos (Nat.zero_le _)]; exact sum0 y y0 y1⟩ (by decide)
  rintro rec a1 a t ⟨rfl, R, rfl, hR, fr, fs⟩ ih
  unfold bX3_addAllBut_24
  have e8 : t 8 = s 8 := by rw [fr 8 (by decide), f0 8 (by decide)]
  have e9 : t 9 = s 9 := by rw [fr 9 (by decide), f0 9 (by decide)]
  have e10 : t 10 = s 10 := by rw [fr 10 (by decide), f0 10 (by decide)]
  refine gHo_if (fun e => gHo_ret ⟨fun x x1 x2 => by rw [fr x x2, f0 x x1], fun y hy => by rw [fr 7 (by decide), f7 y hy], by rw [fr 7 (by decide)]; exact f11, fun y y0 y1 => ?_⟩) (fun e => gHo_if (fun e2 => ?_) (fun e2 => ?_))
  · have := fs y y0 y1
    have eR : R = 4 := by omega
    rw [if_neg (by omega), eR] at this
    rw [e8, e9]; exact this
  · unfold bX3_addAllBut_39
    refine gHo_l32 (by omega) (by omega) (ih _ _ _ ⟨rfl, R + 1, by omega, by omega, fr, fun y y0 y1 => ?_⟩ (by omega))
    have := fs y y0 y1
    rw [if_pos (by omega)] at this
    rw [if_neg (by omega)]
    exact this
  · have eR := yRq_k (c := c) (R := R) (by omega) (by omega) hc
    have ek : (if R ≤ c then R else R - 1) = if R < c then R else R - 1 := by
      by_cases z : R < c
      · rw [if_pos z, if_pos (by omega)]
      · rw [if_neg z, if_neg (by omega)]
    rw [ek] at fs
    obtain ⟨k, hk⟩ : ∃ k, k = if R < c then R else R - 1 := ⟨_, rfl⟩
    rw [← hk] at fs eR
    have hk3 : k < 4 := by rw [hk]; split <;> omega
    have key := zX3_addRow (s := t) (ρ := yRq c) (k := k) (lim := lim) (w := w) (by rw [eR]; omega) (yRq_i hc hk3) hw (by rw [fr 7 (by decide), f7 10 (by decide)]; exact h10) (by rw [fr 7 (by decide), f7 9 (by decide)]; exact h7) h14 (by rw [e8, e9]; exact hb) (by rw [e8, e9, e10, eR]; exact hlane R (by omega) (by omega)) (by rw [e8, e9]; exact fs)
    rw [eR] at key
    refine gHo_bd key (fun _ t2 ht2 => ?_)
    obtain ⟨k1, k2⟩ := ht2
    unfold bX3_addAllBut_39
    refine gHo_l32 (by omega) (by omega) (ih _ _ _ ⟨rfl, R + 1, by omega, by omega, fun x hx => by rw [k1 x hx]; exact fr x hx, fun y y0 y1 => ?_⟩ (by omega))
    have := k2 y y0 y1
    rw [e8, e9] at this
    rw [show (if R + 1 ≤ c then R + 1 else R + 1 - 1) = k + 1 by rw [hk]; by_cases z : R < c; (rw [if_pos z, if_pos (by omega)]); (rw [if_neg z, if_neg (by omega)]; omega)]
    exact this
/-- all rows, in whichever order -/
theorem yQP_ex {L : Int → Int} {ρ : Nat → Nat} {g p : Int} {n : Int → Int} : yQP L ρ 4 g p n ↔ ∃ g0 p0 g1 p1 g2 p2 g3 p3 : Int, yRw L (ρ 0) 2 g0 p0 n ∧ yRw L (ρ 1) 2 g1 p1 n ∧ yRw L (ρ 2) 2 g2 p2 n ∧ yRw L (ρ 3) 2 g3 p3 n ∧ g0 + g1 + g2 + g3 = g ∧ p0 + p1 + p2 + p3 = p := by
  simp only [yQP]
  constructor
  · rintro ⟨g3, p3, ⟨g2, p2, ⟨g1, p1, ⟨g0, p0, ⟨a, b⟩, r0⟩, r1⟩, r2⟩, r3⟩
    exact ⟨g0, p0, g1, p1, g2, p2, g3, p3, r0, r1, r2, r3, by omega, by omega⟩
  · rintro ⟨g0, p0, g1, p1, g2, p2, g3, p3, r0, r1, r2, r3, a, b⟩
    exact ⟨g3, p3, ⟨g2, p2, ⟨g1, p1, ⟨g0, p0, ⟨by omega, by omega⟩, r0⟩, r1⟩, r2⟩, r3⟩
theorem yTP_ex {L : Int → Int} {g p : Int} {n : Int → Int} : yTP L 2 4 g p n ↔ yQP L (fun k => k) 4 g p n := by
  simp only [yTP, yQP]
theorem yQP_all {L : Int → Int} {c : Nat} (hc : c < 4) {g p : Int} {n : Int → Int} : yQP L (yRq c) 4 g p n ↔ yTP L 2 4 g p n := by
  rw [yTP_ex, yQP_ex, yQP_ex]
  rcases (by omega : c = 0 ∨ c = 1 ∨ c = 2 ∨ c = 3) with rfl | rfl | rfl | rfl
  · constructor
    · rintro ⟨g0, p0, g1, p1, g2, p2, g3, p3, r0, r1, r2, r3, a, b⟩
      exact ⟨g3, p3, g0, p0, g1, p1, g2, p2, r3, r0, r1, r2, by omega, by omega⟩
    · rintro ⟨g0, p0, g1, p1, g2, p2, g3, p3, r0, r1, r2, r3, a, b⟩
      exact ⟨g1, p1, g2, p2, g3, p3, g0, p0, r1, r2, r3, r0, by omega, by omega⟩
  · constructor
    · rintro ⟨g0, p0, g1, p1, g2, p2, g3, p3, r0, r1, r2, r3, a, b⟩
      exact ⟨g0, p0, g3, p3, g1, p1, g2, p2, r0, r3, r1, r2, by omega, by omega⟩
    · rintro ⟨g0, p0, g1, p1, g2, p2, g3, p3, r0, r1, r2, r3, a, b⟩
      exact ⟨g0, p0, g2, p2, g3, p3, g1, p1, r0, r2, r3, r1, by omega, by omega⟩
  · constructor
    · rintro ⟨g0, p0, g1, p1, g2, p2, g3, p3, r0, r1, r2, r3, a, b⟩
      exact ⟨g0, p0, g1, p1, g3, p3, g2, p2, r0, r1, r3, r2, by omega, by omega⟩
    · rintro ⟨g0, p0, g1, p1, g2, p2, g3, p3, r0, r1, r2, r3, a, b⟩
      exact ⟨g0, p0, g1, p1, g3, p3, g2, p2, r0, r1, r3, r2, by omega, by omega⟩
  · exact Iff.rfl
theorem yQC_all {H n : Int → Int} {c : Nat} (hc : c < 4) : yQC H (yRq c) n 4 = yTC H n 4 := by
  have e : yQC H (yRq c) n 4 = 0 + yCo H (yRq c 0) n (yLn (yRq c 0)) + yCo H (yRq c 1) n (yLn (yRq c 1)) + yCo H (yRq c 2) n (yLn (yRq c 2)) + yCo H (yRq c 3) n (yLn (yRq c 3)) := rfl
  have e2 : yTC H n 4 = 0 + yCo H (0 : Nat) n (yLn (0 : Nat)) + yCo H (1 : Nat) n (yLn (1 : Nat)) + yCo H (2 : Nat) n (yLn (2 : Nat)) + yCo H (3 : Nat) n (yLn (3 : Nat)) := rfl
  rw [e, e2]
  rcases (by omega : c = 0 ∨ c = 1 ∨ c = 2 ∨ c = 3) with rfl | rfl | rfl | rfl
  · simp only [show yRq 0 0 = 1 from rfl, show yRq 0 1 = 2 from rfl, show yRq 0 2 = 3 from rfl, show yRq 0 3 = 0 from rfl]; omega
  · simp only [show yRq 1 0 = 0 from rfl, show yRq 1 1 = 2 from rfl, show yRq 1 2 = 3 from rfl, show yRq 1 3 = 1 from rfl]; omega
  · simp only [show yRq 2 0 = 0 from rfl, show yRq 2 1 = 1 from rfl, show yRq 2 2 = 3 from rfl, show yRq 2 3 = 2 from rfl]; omega
  · rfl
theorem yQN_all {H n : Int → Int} {c j : Nat} (hc : c < 4) : yQN H (yRq c) 4 n j ↔ yNg H 4 n j := by
  unfold yQN yNg
  constructor
  · rintro ⟨-, b, d⟩; exact ⟨by omega, b, d⟩
  · rintro ⟨-, b, d⟩
    refine ⟨?_, b, d⟩
    by_cases e : j / 9 = c
    · exact ⟨3, by omega, by rw [e]; rfl⟩
    · exact ⟨if j / 9 < c then j / 9 else j / 9 - 1, by split <;> omega, (yRq_k e (by omega) hc).symm⟩
theorem yLs1_all {lim c : Nat} {H L : Int → Int} {y v : Int} (hc : c < 4) (h : yLs1 lim (yRq c) 4 H L y v) : yBst lim (yTP L 2 4 (y / 2) (y % 2)) (fun n => yTC H n 4) (yNg H 4) v := yBst_cg (fun _ => yQP_all hc) (fun _ => yQC_all hc) (fun _ _ => yQN_all hc) h
/-- the row that is not among them may change -/
theorem ySms_ch {lim c : Nat} {w x v : Int} {H L S : Int → Int} (hc : c < 4) (hx : x / 9 = c) (h : ySms lim w c H L S) : ySms lim w c (yUp H x v) L S := by
  intro y y0 y1
  have ne : ∀ q : Int, (∃ i : Nat, i < 3 ∧ q / 9 = yRq c i) → H q = yUp H x v q := by
    rintro q ⟨i, i1, i2⟩
    have := yRq_i hc (show 3 < 4 by decide) i i1
    have e3 : yRq c 3 = c := rfl
    rw [e3] at this
    rw [yUp_o (by rintro rfl; omega)]
  refine yBst_cg (fun _ => Iff.rfl) (fun n => yQC_H 3 ne) (fun n j => ?_) (h y y0 y1)
  unfold yQN
  constructor
  · rintro ⟨⟨i, i1, i2⟩, b, d⟩
    exact ⟨⟨i, i1, i2⟩, b, by rw [← ne j ⟨i, i1, by omega⟩]; exact d⟩
  · rintro ⟨⟨i, i1, i2⟩, b, d⟩
    exact ⟨⟨i, i1, i2⟩, b, by rw [ne j ⟨i, i1, by omega⟩]; exact d⟩
end

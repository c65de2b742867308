/-! ===== lacks: the class's rows added ===== -/
section
theorem yPar2 : ∀ a : Nat, a < 10 → ∀ b : Nat, b < 10 → jand (jand (a : Int) (b : Int)) 1 = if a % 2 = 1 ∧ b % 2 = 1 then 1 else 0 := by decide +kernel
theorem yMixb {m1 m2 a b : Nat} (h1 : m1 < 2 ^ a) (h2 : m2 < 2 ^ b) (h : a + b ≤ 34) : m1 + 2 ^ a * m2 < 2 ^ 34 ∧ 2 ^ a * m2 < 2 ^ 34 := by
  have k1 : m1 + 2 ^ a * m2 < 2 ^ a * (m2 + 1) := by rw [Nat.mul_add]; omega
  have k2 : 2 ^ a * (m2 + 1) ≤ 2 ^ a * 2 ^ b := Nat.mul_le_mul_left _ (by omega)
  have k3 : 2 ^ a * 2 ^ b = 2 ^ (a + b) := by rw [Nat.pow_add]
  have k4 : 2 ^ (a + b) ≤ 2 ^ 34 := Nat.pow_le_pow_right (by decide) h
  exact ⟨by omega, by omega⟩
/-- what a cell covers -/
def yCv (C : (Int → Int) → Int) (N : (Int → Int) → Nat → Prop) (T m : Nat) (n : Int → Int) : Prop := (T : Int) ≤ C n ∧ ((T : Int) = C n → ∀ j : Nat, N n j → m.testBit j = true)
theorem yCv_ls {C : (Int → Int) → Int} {N : (Int → Int) → Nat → Prop} {T m T' m' : Nat} {n : Int → Int} (h : yLs T m T' m') (k : yCv C N T' m' n) : yCv C N T m n := by
  obtain ⟨k1, k2⟩ := k
  rcases h with h | ⟨h1, h2⟩
  · exact ⟨by omega, fun z => by omega⟩
  · subst h1
    exact ⟨k1, fun z j hj => h2 j (k2 z j hj)⟩
theorem yBst_T {lim : Nat} {P : (Int → Int) → Prop} {C : (Int → Int) → Int} {N : (Int → Int) → Nat → Prop} {v : Int} {T m : Nat} (h : yBst lim P C N v) (hv : yVl v T m) : (T = 64 ∧ m = 0) ∨ T ≤ lim := by
  obtain ⟨T', m', hv', h⟩ := h
  obtain ⟨rfl, rfl⟩ := yVl_u hv hv'
  rcases h with ⟨a, b, -⟩ | ⟨a, -⟩
  · exact Or.inl ⟨a, b⟩
  · exact Or.inr a
theorem zX3_addRow {s : jMem} {R lim : Nat} {w : Int} (hR : R < 4) (hw : 0 ≤ w ∧ w ≤ 4) (h10 : s 7 10 = w) (h7 : s 7 9 = lim) (h14 : lim ≤ 14) (hb : ∀ q : Int, 0 ≤ q → q < 34 → 0 ≤ s 8 q ∧ s 8 q ≤ 4 ∧ 0 ≤ s 9 q ∧ s 9 q ≤ 4) (hlane : ∀ g p : Int, 0 ≤ g → g ≤ 4 → 0 ≤ p → p ≤ 1 → yBst lim (yRw (s 9) R 2 g p) (fun n => yCo (s 8) R n (yLn R)) (yNd (s 8) R (yLn R)) (s 10 (10 * R + 2 * g + p))) (hsum : ∀ y : Int, 0 ≤ y → y ≤ 2 * w + 1 → yBst lim (yTP (s 9) 2 R (y / 2) (y % 2)) (fun n => yTC (s 8) n R) (yNg (s 8) R) (s 13 y)) : jHo (fun _ t => (∀ x : Int, x ≠ 13 → t x = s x) ∧ ∀ y : Int, 0 ≤ y → y ≤ 2 * w + 1 → (R = 3 → y = 2 * w + 1) → yBst lim (yTP (s 9) 2 (R + 1) (y / 2) (y % 2)) (fun n => yTC (s 8) n (R + 1)) (yNg (s 8) (R + 1)) (t 13 y)) (fX3_addRow R s) := by
  obtain ⟨w1, w2, w3, w4, w5, w6⟩ := jjk_t
  have ln34 : 9 * R + yLn (R : Int) ≤ 34 := by unfold yLn; split <;> omega
  have hHr : ∀ j : Nat, j < yLn (R : Int) → 0 ≤ s 8 (9 * (R : Int) + j) := fun j hj => by
    have := yLn_r (r := (R : Int)) (by omega) (by omega) hj
    exact (hb _ this.1 this.2).1
  have hLr : ∀ j : Nat, j < yLn (R : Int) → s 9 (9 * (R : Int) + j) ≤ 4 := fun j hj => by
    have := yLn_r (r := (R : Int)) (by omega) (by omega) hj
    exact (hb _ this.1 this.2).2.2.2
  obtain ⟨Bo, hBo⟩ : ∃ Bo : Int → Int → Prop, Bo = fun y v => yBst lim (yTP (s 9) 2 R (y / 2) (y % 2)) (fun n => yTC (s 8) n R) (yNg (s 8) R) v := ⟨_, rfl⟩
  obtain ⟨Bn, hBn⟩ : ∃ Bn : Int → Int → Prop, Bn = fun y v => yBst lim (yTP (s 9) 2 (R + 1) (y / 2) (y % 2)) (fun n => yTC (s 8) n (R + 1)) (yNg (s 8) (R + 1)) v := ⟨_, rfl⟩
  have main : ∀ low : Int, 0 ≤ low → low ≤ 2 * w + 1 → jHo (fun _ t => (∀ x : Int, x ≠ 13 → t x = s x) ∧ ∀ y : Int, low ≤ y → y ≤ 2 * w + 1 → Bn y (t 13 y)) (jIt (fun _ _ _ _ => none) (bX3_addRow_23) 1000 R low (2 * w + 1) s) := by
    intro low lo hi
    refine gIt4 (fun a1 a2 y t => a1 = R ∧ a2 = low ∧ low ≤ y + 1 ∧ y ≤ 2 * w + 1 ∧ (∀ x : Int, x ≠ 13 → t x = s x) ∧ (∀ z : Int, 0 ≤ z → z ≤ y → t 13 z = s 13 z) ∧ ∀ z : Int, y < z → z ≤ 2 * w + 1 → Bn z (t 13 z)) (fun _ _ y => (y + 1).toNat) ?_ 1000 R low _ s ⟨rfl, rfl, by omega, by omega, fun _ _ => rfl, fun _ _ _ => rfl, fun z z1 z2 => by omega⟩ (by omega)
    rintro rec a1 a2 y t ⟨rfl, rfl, y0, y1, fr, fl, fb⟩ ih
    unfold bX3_addRow_23
    refine gHo_if (fun e1 => gHo_ret ⟨fr, fun z z1 z2 => fb z (by omega) z2⟩) (fun e1 => ?_)
    obtain ⟨P, hP⟩ : ∃ P : (Int → Int) → Prop, P = yTP (s 9) 2 (R + 1) (y / 2) (y % 2) := ⟨_, rfl⟩
    obtain ⟨C, hC⟩ : ∃ C : (Int → Int) → Int, C = fun n => yTC (s 8) n (R + 1) := ⟨_, rfl⟩
    obtain ⟨N, hN⟩ : ∃ N : (Int → Int) → Nat → Prop, N = yNg (s 8) (R + 1) := ⟨_, rfl⟩
    have Bn_y : ∀ v, Bn y v ↔ yBst lim P C N v := fun v => by rw [hBn, hP, hC, hN]
    have old : ∀ z : Int, 0 ≤ z → z ≤ y → yBst lim (yTP (s 9) 2 R (z / 2) (z % 2)) (fun n => yTC (s 8) n R) (yNg (s 8) R) (t 13 z) := fun z z0 z1 => by rw [fl z z0 z1]; exact hsum z z0 (by omega)
    have step : ∀ g p : Int, 0 ≤ g → g ≤ 4 → 0 ≤ p → p ≤ 1 → 0 ≤ y - (2 * g + p) → ¬ ((y - (2 * g + p)) % 2 = 1 ∧ p = 1) → ∃ T1 m1 T2 m2 : Nat, yVl (s 13 (y - (2 * g + p))) T1 m1 ∧ yVl (s 10 (10 * R + 2 * g + p)) T2 m2 ∧ m1 < 2 ^ (9 * R) ∧ m2 < 2 ^ yLn R ∧ T1 ≤ 64 ∧ T2 ≤ 64 ∧ (T1 + T2 ≤ lim → yGd lim P C N (T1 + T2) (m1 + 2 ^ (9 * R) * m2)) ∧ ∀ n, yTP (s 9) 2 R (y / 2 - g) (y % 2 - p) n → yRw (s 9) R 2 g p n → C n ≤ (lim : Int) → T1 + T2 ≤ lim ∧ yCv C N (T1 + T2) (m1 + 2 ^ (9 * R) * m2) n := by
      intro g p g0 g4 p0 p1 hz np
      have h := yBst_add hR h14 (hsum (y - (2 * g + p)) hz (by omega)) (hlane g p g0 g4 p0 p1)
      rw [show (y - (2 * g + p)) / 2 + g = y / 2 by omega, show (y - (2 * g + p)) % 2 + p = y % 2 by omega, show (y - (2 * g + p)) / 2 = y / 2 - g by omega, show (y - (2 * g + p)) % 2 = y % 2 - p by omega, ← hP, ← hC, ← hN] at h
      obtain ⟨T1, m1, T2, m2, v1, v2, b1, b2, t1, t2, q1, q2⟩ := h
      refine ⟨T1, m1, T2, m2, v1, v2, b1, b2, t1, t2, q1, fun n n1 n2 n3 => ?_⟩
      have eC : yTC (s 8) n (R + 1) = C n := by rw [hC]
      rw [← eC] at n3
      obtain ⟨r1, r2, r3⟩ := q2 n n1 n2 n3
      rw [eC] at r2 r3
      exact ⟨r1, r2, r3⟩
    -- lane 0
    obtain ⟨T1, m1, T2, m2, v1, v2, b1, b2, t1, t2, q1, q2⟩ := step 0 0 (by omega) (by omega) (by omega) (by omega) (by omega) (by omega)
    have z00 := yBst_00 hHr hLr (hlane 0 0 (by omega) (by omega) (by omega) (by omega))
    obtain ⟨rfl, rfl⟩ := yVl_u v2 z00
    rw [show y - (2 * 0 + 0) = y by omega] at v1
    have v1' : yVl (t 13 y) T1 m1 := by rw [fl y (by omega) (by omega)]; exact v1
    have g1 : yGd lim P C N T1 m1 := by
      rcases yBst_T (old y (by omega) (by omega)) v1' with ⟨a, b⟩ | a
      · exact Or.inl ⟨a, b⟩
      · have := q1 (by omega)
        rw [Nat.mul_zero] at this
        exact this
    have go : jHo (fun _ t => (∀ x : Int, x ≠ 13 → t x = s x) ∧ ∀ y : Int, a2 ≤ y → y ≤ 2 * w + 1 → Bn y (t 13 y)) (jIt (fun _ _ _ _ _ => none) (bX3_addRow_32 (bX3_addRow_128 rec)) 1000 R a2 y 1 t) := by
      refine gIt5 (fun c1 c2 c3 k t2 => c1 = R ∧ c2 = a2 ∧ c3 = y ∧ 1 ≤ k ∧ k ≤ y + 1 ∧ (∀ x : Int, x ≠ 13 → t2 x = t x) ∧ (∀ z : Int, z ≠ y → t2 13 z = t 13 z) ∧ yNv (t2 13 y) ∧ yGd lim P C N (yDT (t2 13 y)) (yDm (t2 13 y)) ∧ ∀ (n : Int → Int) (g p : Int), 0 ≤ g → g ≤ 4 → 0 ≤ p → p ≤ 1 → 2 * g + p < k → yTP (s 9) 2 R (y / 2 - g) (y % 2 - p) n → yRw (s 9) R 2 g p n → C n ≤ (lim : Int) → yCv C N (yDT (t2 13 y)) (yDm (t2 13 y)) n) (fun _ _ _ k => (y + 1 - k).toNat) ?_ 1000 R a2 y 1 t ⟨rfl, rfl, rfl, by omega, by omega, fun _ _ => rfl, fun _ _ => rfl, yNv_i v1', ?_, ?_⟩ (by omega)
      · rintro rec2 c1 c2 c3 k t2 ⟨rfl, rfl, rfl, k1, k2, f1, f2, nv, gd, cv⟩ ih2
        unfold bX3_addRow_32
        refine gHo_if (fun e2 => ?_) (fun e2 => ?_)
        · unfold bX3_addRow_128
          refine gHo_l32 (by omega) (by omega) (ih _ _ _ _ ⟨rfl, rfl, by omega, by omega, fun x hx => by rw [f1 x hx]; exact fr x hx, fun z z0 z1 => by rw [f2 z (by omega)]; exact fl z z0 (by omega), fun z z0 z1 => ?_⟩ (by omega))
          by_cases ez : z = c3
          · subst ez
            rw [Bn_y]
            refine yBst_i (by omega) nv gd (fun n hn hl => ?_)
            have hn' := hn
            rw [hP] at hn'
            obtain ⟨g, p, n1, n2⟩ := hn'
            have bd := yRw_bd (by decide) n2
            have bd2 := yTP_bd (by decide) _ _ _ _ n1
            exact cv n g p bd.1 bd.2.1 bd.2.2.1 bd.2.2.2 (by omega) n1 n2 hl
          · rw [f2 z ez]; exact fb z (by omega) z1
        · have par := yPar2 (c3 - k).toNat (by omega) k.toNat (by omega)
          rw [show (((c3 - k).toNat : Nat) : Int) = c3 - k by omega, show ((k.toNat : Nat) : Int) = k by omega] at par
          refine gHo_l32 (by omega) (by omega) (gHo_let (gHo_let ?_))
          rw [par]
          have next : ∀ t3 : jMem, (∀ x : Int, x ≠ 13 → t3 x = t x) → (∀ z : Int, z ≠ c3 → t3 13 z = t 13 z) → yNv (t3 13 c3) → yGd lim P C N (yDT (t3 13 c3)) (yDm (t3 13 c3)) → yLs (yDT (t3 13 c3)) (yDm (t3 13 c3)) (yDT (t2 13 c3)) (yDm (t2 13 c3)) → (∀ (n : Int → Int) (g p : Int), 0 ≤ g → g ≤ 4 → 0 ≤ p → p ≤ 1 → 2 * g + p = k → yTP (s 9) 2 R (c3 / 2 - g) (c3 % 2 - p) n → yRw (s 9) R 2 g p n → C n ≤ (lim : Int) → yCv C N (yDT (t3 13 c3)) (yDm (t3 13 c3)) n) → jHo (fun _ t => (∀ x : Int, x ≠ 13 → t x = s x) ∧ ∀ y : Int, c2 ≤ y → y ≤ 2 * w + 1 → Bn y (t 13 y)) (bX3_addRow_122 rec2 R c2 c3 k t3) := by
            intro t3 r1 r2 r3 r4 r5 r6
            unfold bX3_addRow_122
            refine gHo_l32 (by omega) (by omega) (ih2 _ _ _ _ _ ⟨rfl, rfl, rfl, by omega, by omega, r1, r2, r3, r4, fun n g p g0 g4 p0 p1 hk n1 n2 n3 => ?_⟩ (by omega))
            by_cases ek : 2 * g + p = k
            · exact r6 n g p g0 g4 p0 p1 ek n1 n2 n3
            · exact yCv_ls r5 (cv n g p g0 g4 p0 p1 (by omega) n1 n2 n3)
          by_cases pq : (c3 - k).toNat % 2 = 1 ∧ k.toNat % 2 = 1
          · rw [if_pos pq, if_pos (show (1 : Int) = 1 from rfl)]
            unfold bX3_addRow_58
            rw [if_neg (show ¬ (1 : Int) = 0 by decide)]
            refine next t2 f1 f2 nv gd (yLs_rf _ _) (fun n g p g0 g4 p0 p1 hk n1 n2 n3 => ?_)
            have bd2 := yTP_bd (by decide) _ _ _ _ n1
            omega
          · rw [if_neg pq, if_neg (show ¬ (0 : Int) = 1 by decide)]
            unfold bX3_addRow_58
            rw [if_pos (show (0 : Int) = 0 from rfl)]
            obtain ⟨T1, m1, T2, m2, v1, v2, b1, b2, t1, t2', q1, q2⟩ := step (k / 2) (k % 2) (by omega) (by omega) (by omega) (by omega) (by omega) (by omega)
            rw [show c3 - (2 * (k / 2) + k % 2) = c3 - k by omega] at v1
            rw [show 10 * (R : Int) + 2 * (k / 2) + k % 2 = R * 10 + k by omega] at v2
            have e10 : t2 10 = s 10 := by rw [f1 10 (by decide), fr 10 (by decide)]
            have ec : t2 13 (c3 - k) = s 13 (c3 - k) := by rw [f2 _ (by omega), fl _ (by omega) (by omega)]
            have mb := yMixb b1 b2 ln34
            have p62 : (2 : Nat) ^ 34 < 2 ^ 62 := by decide
            have p34 : (2 : Nat) ^ 34 = 17179869184 := by decide
            refine gHo_l32 (by omega) (by omega) (gHo_l32 (by omega) (by omega) (gHo_gd ⟨by omega, by omega⟩ (gHo_let ?_)))
            rw [e10]
            refine gHo_let (gHo_l32 (by omega) (by omega) (gHo_let ?_))
            rw [yVl_mask v2, show 9 * (R : Int) = ((9 * R : Nat) : Int) by omega, jshll_n (x := m2) (k := 9 * R) (by omega) (by rw [Nat.mul_comm]; omega)]
            refine gHo_l32 (by omega) (by omega) (gHo_gd ⟨by omega, by omega⟩ (gHo_let (gHo_let ?_)))
            rw [ec, yVl_hi v2]
            obtain ⟨M, hM⟩ : ∃ M : Nat, M = 2 ^ (9 * R) * m2 := ⟨_, rfl⟩
            rw [Nat.mul_comm m2, ← hM]
            rw [← hM] at mb q1 q2
            have ev1 := v1.1
            have m1b := v1.2.1
            rw [p34] at ev1 mb m1b
            rw [p34]
            refine gHo_l64 (by omega) (by omega) (gHo_l64 (by omega) (by omega) ?_)
            have val : yVl (s 13 (c3 - k) + ((17179869184 * T2 : Nat) : Int) + (M : Int)) (T1 + T2) (m1 + M) := by
              refine ⟨?_, by rw [p34]; exact mb.1, by omega⟩
              rw [p34, ev1]; omega
            refine gHo_bd (zX3_merge (s := t2) (r := 13) (x := c3) (lim := lim) ⟨by omega, by omega⟩ (by decide) (by rw [f1 7 (by decide), fr 7 (by decide)]; exact h7) (by omega) nv val) (fun _ t3 ht3 => ?_)
            obtain ⟨n1, n2, n3⟩ := ht3
            obtain ⟨dT, dm⟩ := yVl_d n3
            refine next t3 (fun x hx => by rw [n1 x hx]; exact f1 x hx) (fun z hz => by rw [n2 z hz]; exact f2 z hz) (yNv_i n3) ?_ ?_ ?_
            · rw [dT, dm]
              exact yMg_G (G := yGd lim P C N) (fun T a b => yGd_or (by omega)) gd q1
            · rw [dT, dm]; exact yMg_old _ _ _ _ _
            · intro n g p g0 g4 p0 p1 hk h1 h2 h3
              have eg : k / 2 = g := by omega
              have ep : k % 2 = p := by omega
              rw [eg, ep] at q2
              obtain ⟨r1, r2⟩ := q2 n h1 h2 h3
              rw [dT, dm]
              exact yCv_ls (yMg_new r1) r2
      · obtain ⟨dT, dm⟩ := yVl_d v1'
        rw [dT, dm]; exact g1
      · intro n g p g0 g4 p0 p1 hk n1 n2 n3
        have eg : g = 0 := by omega
        have ep : p = 0 := by omega
        subst eg ep
        obtain ⟨dT, dm⟩ := yVl_d v1'
        rw [dT, dm]
        have := (q2 n n1 n2 n3).2
        rw [Nat.mul_zero] at this
        exact this
    exact go
  unfold fX3_addRow
  refine gHo_let ?_
  rw [h10]
  refine gHo_l32 (by omega) (by omega) (gHo_l32 (by omega) (by omega) (gHo_if (fun e => ?_) (fun e => ?_)))
  · unfold bX3_addRow_19
    refine gHo_mono (main (2 * w + 1) (by omega) (by omega)) (fun _ t ht => ⟨ht.1, fun y y0 y1 y3 => ?_⟩)
    have := ht.2 y (by have := y3 (by omega); omega) y1
    rw [hBn] at this
    exact this
  · unfold bX3_addRow_19
    refine gHo_mono (main 0 (by omega) (by omega)) (fun _ t ht => ⟨ht.1, fun y y0 y1 _ => ?_⟩)
    have := ht.2 y y0 y1
    rw [hBn] at this
    exact this
end

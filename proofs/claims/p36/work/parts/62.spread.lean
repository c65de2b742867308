/-! ===== lacks: the class's spread ===== -/
section
def yDT (v : Int) : Nat := (v / 17179869184).toNat
def yDm (v : Int) : Nat := (v % 17179869184).toNat
theorem yVl_d {v : Int} {T m : Nat} (h : yVl v T m) : yDT v = T ∧ yDm v = m := by
  have p : (2 : Nat) ^ 34 = 17179869184 := by decide
  obtain ⟨h1, h2, h3⟩ := h
  rw [p] at h1 h2
  unfold yDT yDm
  omega
/-- a number is one of tiles and bits -/
def yNv (v : Int) : Prop := yVl v (yDT v) (yDm v)
theorem yNv_i {v : Int} {T m : Nat} (h : yVl v T m) : yNv v := by
  obtain ⟨a, b⟩ := yVl_d h
  unfold yNv
  rw [a, b]; exact h
/-- not worse: fewer tiles, or as many and all the bits -/
def yLs (T m T' m' : Nat) : Prop := T < T' ∨ T = T' ∧ ∀ j : Nat, m'.testBit j = true → m.testBit j = true
theorem yLs_rf (T m : Nat) : yLs T m T m := Or.inr ⟨rfl, fun _ h => h⟩
theorem yLs_tr {a b c d e f : Nat} (h : yLs a b c d) (k : yLs c d e f) : yLs a b e f := by
  rcases h with h | ⟨h1, h2⟩ <;> rcases k with k | ⟨k1, k2⟩
  · exact Or.inl (by omega)
  · exact Or.inl (by omega)
  · exact Or.inl (by omega)
  · exact Or.inr ⟨by omega, fun j hj => h2 j (k2 j hj)⟩
theorem yMg_old (lim T m T' m' : Nat) : yLs (yMg lim T m T' m').1 (yMg lim T m T' m').2 T m := by
  unfold yMg
  split
  · exact yLs_rf T m
  · split
    · exact Or.inr ⟨rfl, fun j hj => by rw [Nat.testBit_or, hj]; rfl⟩
    · exact Or.inl (by show T' < T; omega)
theorem yMg_new {lim T m T' m' : Nat} (h : T' ≤ lim) : yLs (yMg lim T m T' m').1 (yMg lim T m T' m').2 T' m' := by
  unfold yMg
  split
  · rename_i c; exact Or.inl (by show T < T'; omega)
  · split
    · rename_i c; exact Or.inr ⟨c, fun j hj => by rw [Nat.testBit_or, hj, Bool.or_true]⟩
    · exact yLs_rf T' m'
theorem yMg_G {G : Nat → Nat → Prop} (hG : ∀ T a b : Nat, G T a → G T b → G T (a ||| b)) {lim T m T' m' : Nat} (h : G T m) (k : T' ≤ lim → G T' m') : G (yMg lim T m T' m').1 (yMg lim T m T' m').2 := by
  unfold yMg
  split
  · exact h
  · rename_i c
    have k := k (by omega)
    split
    · rename_i e; subst e; exact hG _ _ _ h k
    · exact k
/-- what may be taken of a sort, behind b and c runs begun, from a lane; where it goes -/
def yAc (b c lane m l x e : Int) : Prop := 0 ≤ x ∧ x ≤ m ∧ 0 ≤ e ∧ e ≤ 2 ∧ b + c + x + (if e = 0 then 0 else e + 1) + l ≤ 4 ∧ lane + 2 * x + e < 10 ∧ ¬ (lane % 2 = 1 ∧ e = 1)
def yTc (b lane x e : Int) : Int := 10 * (3 * x + b) + (lane + 2 * x + e)
def yUse2 (b c x e : Int) : Int := b + c + x + (if e = 0 then 0 else e + 1)
/-- the tiles, the bits behind it -/
def yBn (i : Nat) (u h : Int) : Nat := if 0 < yMx (u - h) then 2 ^ i else 0
theorem yPar : ∀ l : Nat, l < 10 → ∀ e : Nat, e < 3 → jand (jand (l : Int) (e : Int)) 1 = if l % 2 = 1 ∧ e = 1 then 1 else 0 := by decide +kernel
theorem yBitk : ∀ i : Nat, i < 9 → jshll 1 (i : Int) = ((2 ^ i : Nat) : Int) := by decide +kernel
theorem zX3_spread {s : jMem} {b c lane v x0 m h l : Int} {T0 m0 lim i : Nat} {G : Int → Nat → Nat → Prop} (hG : ∀ (y : Int) (T a b : Nat), G y T a → G y T b → G y T (a ||| b)) (hx : 0 ≤ x0 ∧ x0 < 34) (hi : x0 % 9 = i) (hb : 0 ≤ b ∧ b ≤ 2) (hc : 0 ≤ c ∧ c ≤ 2) (hl : 0 ≤ lane ∧ lane < 10) (hm : m = if x0 < 27 ∧ x0 % 9 ≤ 6 then 2 else 0) (hv : yVl v T0 m0) (hT0 : T0 ≤ 100) (hlim : s 7 9 = lim) (hl100 : lim ≤ 100) (hh : s 8 x0 = h ∧ 0 ≤ h ∧ h ≤ 100) (hla : s 9 x0 = l ∧ 0 ≤ l ∧ l ≤ 100) (hcell : ∀ y : Int, 0 ≤ y → y < 90 → yNv (s 12 y) ∧ G y (yDT (s 12 y)) (yDm (s 12 y))) (hgood : ∀ x e : Int, yAc b c lane m l x e → T0 + (yMx (yUse2 b c x e - h)).toNat ≤ lim → G (yTc b lane x e) (T0 + (yMx (yUse2 b c x e - h)).toNat) (m0 ||| yBn i (yUse2 b c x e) h)) : jHo (fun _ t => (∀ y : Int, y ≠ 12 → t y = s y) ∧ (∀ y : Int, 0 ≤ y → y < 90 → yNv (t 12 y) ∧ G y (yDT (t 12 y)) (yDm (t 12 y)) ∧ yLs (yDT (t 12 y)) (yDm (t 12 y)) (yDT (s 12 y)) (yDm (s 12 y))) ∧ ∀ x e : Int, yAc b c lane m l x e → T0 + (yMx (yUse2 b c x e - h)).toNat ≤ lim → yLs (yDT (t 12 (yTc b lane x e))) (yDm (t 12 (yTc b lane x e))) (T0 + (yMx (yUse2 b c x e - h)).toNat) (m0 ||| yBn i (yUse2 b c x e) h)) (fX3_spread (3 * b + c) lane v x0 s) := by
  obtain ⟨u1, u2, u3, u4, u5, u6, u7, u8, u9⟩ := jik_t
  obtain ⟨w1, w2, w3, w4, w5, w6⟩ := jjk_t
  have i9 : i < 9 := by omega
  have mb : 0 ≤ m ∧ m ≤ 2 := by rw [hm]; split <;> omega
  obtain ⟨Q, hQ⟩ : ∃ Q : Int → jMem → Prop, Q = fun _ t => (∀ y : Int, y ≠ 12 → t y = s y) ∧ (∀ y : Int, 0 ≤ y → y < 90 → yNv (t 12 y) ∧ G y (yDT (t 12 y)) (yDm (t 12 y)) ∧ yLs (yDT (t 12 y)) (yDm (t 12 y)) (yDT (s 12 y)) (yDm (s 12 y))) ∧ ∀ x e : Int, yAc b c lane m l x e → T0 + (yMx (yUse2 b c x e - h)).toNat ≤ lim → yLs (yDT (t 12 (yTc b lane x e))) (yDm (t 12 (yTc b lane x e))) (T0 + (yMx (yUse2 b c x e - h)).toNat) (m0 ||| yBn i (yUse2 b c x e) h) := ⟨_, rfl⟩
  rw [← hQ]
  obtain ⟨Iv, hIv⟩ : ∃ Iv : Int → Int → jMem → Prop, Iv = fun x e t => (∀ y : Int, y ≠ 12 → t y = s y) ∧ (∀ y : Int, 0 ≤ y → y < 90 → yNv (t 12 y) ∧ G y (yDT (t 12 y)) (yDm (t 12 y)) ∧ yLs (yDT (t 12 y)) (yDm (t 12 y)) (yDT (s 12 y)) (yDm (s 12 y))) ∧ ∀ x' e' : Int, (x' < x ∨ x' = x ∧ e' < e) → yAc b c lane m l x' e' → T0 + (yMx (yUse2 b c x' e' - h)).toNat ≤ lim → yLs (yDT (t 12 (yTc b lane x' e'))) (yDm (t 12 (yTc b lane x' e'))) (T0 + (yMx (yUse2 b c x' e' - h)).toNat) (m0 ||| yBn i (yUse2 b c x' e') h) := ⟨_, rfl⟩
  have mono : ∀ (x e x2 e2 : Int) (t : jMem), Iv x e t → (∀ x' e' : Int, (x' < x2 ∨ x' = x2 ∧ e' < e2) → yAc b c lane m l x' e' → (x' < x ∨ x' = x ∧ e' < e)) → Iv x2 e2 t := by
    intro x e x2 e2 t ht hx
    rw [hIv] at ht ⊢
    exact ⟨ht.1, ht.2.1, fun x' e' a1 a2 a3 => ht.2.2 x' e' (hx x' e' a1 a2) a2 a3⟩
  have go : jHo Q (bX3_spread_33 (3 * b + c) lane v x0 (b + c) (4 - l) m s) := by
    unfold bX3_spread_33
    refine gIt9 (fun d1 d2 d3 d4 d5 d6 d7 x t => d1 = 3 * b + c ∧ d2 = lane ∧ d3 = v ∧ d4 = x0 ∧ d5 = b + c ∧ d6 = 4 - l ∧ d7 = m ∧ 0 ≤ x ∧ x ≤ 3 ∧ Iv x 0 t) (fun _ _ _ _ _ _ _ x => (3 - x).toNat) ?_ 1000 _ lane v x0 _ _ m 0 s ⟨rfl, rfl, rfl, rfl, rfl, rfl, rfl, by omega, by omega, ?_⟩ (by decide)
    · rintro rec d1 d2 d3 d4 d5 d6 d7 x t ⟨rfl, rfl, rfl, rfl, rfl, rfl, rfl, xp, x3, ht⟩ ih
      unfold bX3_spread_38
      refine gHo_if (fun e1 => ?_) (fun e1 => ?_)
      · refine gHo_ret ?_
        rw [hQ]
        rw [hIv] at ht
        exact ⟨ht.1, ht.2.1, fun x' e' a2 a3 => ht.2.2 x' e' (Or.inl (by have := a2.2.1; omega)) a2 a3⟩
      · refine gIt10 (fun f1 f2 f3 f4 f5 f6 f7 f8 e t => f1 = 3 * b + c ∧ f2 = d2 ∧ f3 = d3 ∧ f4 = d4 ∧ f5 = b + c ∧ f6 = 4 - l ∧ f7 = d7 ∧ f8 = x ∧ 0 ≤ e ∧ e ≤ 3 ∧ Iv x e t) (fun _ _ _ _ _ _ _ _ e => (3 - e).toNat) ?_ 1000 _ d2 d3 d4 _ _ d7 x 0 t ⟨rfl, rfl, rfl, rfl, rfl, rfl, rfl, rfl, by omega, by omega, ht⟩ (by decide)
        rintro rec2 f1 f2 f3 f4 f5 f6 f7 f8 e t2 ⟨rfl, rfl, rfl, rfl, rfl, rfl, rfl, rfl, e0, e3, ht2⟩ ih2
        unfold bX3_spread_48
        refine gHo_if (fun e4 => ?_) (fun e4 => ?_)
        · unfold bX3_spread_207
          refine gHo_l32 (by omega) (by omega) (ih _ _ _ _ _ _ _ _ _ ⟨rfl, rfl, rfl, rfl, rfl, rfl, rfl, by omega, by omega, mono f8 e _ _ t2 ht2 (fun x' e' a1 a2 => ?_)⟩ (by omega))
          have := a2.2.2.2.1
          have := a2.2.2.1
          omega
        · have skip : ¬ yAc b c f2 f7 l f8 e → jHo Q (bX3_spread_201 rec2 (3 * b + c) f2 f3 f4 (b + c) (4 - l) f7 f8 e t2) := by
            intro nk
            unfold bX3_spread_201
            refine gHo_l32 (by omega) (by omega) (ih2 _ _ _ _ _ _ _ _ _ _ ⟨rfl, rfl, rfl, rfl, rfl, rfl, rfl, rfl, by omega, by omega, mono f8 e _ _ t2 ht2 (fun x' e' a1 a2 => ?_)⟩ (by omega))
            by_cases z : x' = f8 ∧ e' = e
            · obtain ⟨rfl, rfl⟩ := z; exact absurd a2 nk
            · omega
          have ht2' := ht2
          rw [hIv] at ht2'
          obtain ⟨g1, g2, g3⟩ := ht2'
          -- with the use reckoned
          have use : ∀ y : Int, y = (if e = 0 then 0 else e + 1) → jHo Q (bX3_spread_72 rec2 (3 * b + c) f2 f3 f4 (b + c) (4 - l) f7 f8 e (b + c + f8) y t2) := by
            intro y hy
            have yb : 0 ≤ y ∧ y ≤ 3 := by rw [hy]; split <;> omega
            have eu : b + c + f8 + y = yUse2 b c f8 e := by rw [hy]; rfl
            have ub : 0 ≤ yUse2 b c f8 e ∧ yUse2 b c f8 e ≤ 9 := by rw [← eu]; omega
            unfold bX3_spread_72
            refine gHo_l32 (by omega) (by omega) (gHo_l32 (by omega) (by omega) (gHo_l32 (by omega) (by omega) (gHo_l32 (by omega) (by omega) (gHo_let (gHo_let ?_)))))
            have par := yPar f2.toNat (by omega) e.toNat (by omega)
            rw [show ((f2.toNat : Nat) : Int) = f2 by omega, show ((e.toNat : Nat) : Int) = e by omega] at par
            rw [par, eu]
            have fin : ∀ p : Int, (p = 1 ↔ f2 % 2 = 1 ∧ e = 1) → (p = 0 ∨ p = 1) → jHo Q (bX3_spread_101 rec2 (3 * b + c) f2 f3 f4 (b + c) (4 - l) f7 f8 e (yUse2 b c f8 e) (f2 + 2 * f8 + e) p t2) := by
              intro p hp hp01
              unfold bX3_spread_101
              refine gHo_if (fun q1 => skip (fun k => by
                have k5 := k.2.2.2.2.1
                have : yUse2 b c f8 e = b + c + f8 + (if e = 0 then 0 else e + 1) := rfl
                omega)) (fun q1 => gHo_if (fun q2 => skip (fun k => by have := k.2.2.2.2.2.1; omega)) (fun q2 => gHo_if (fun q3 => ?_) (fun q3 => skip (fun k => k.2.2.2.2.2.2 (hp.mp (by omega))))))
              have al : yAc b c f2 f7 l f8 e := ⟨xp, by omega, e0, by omega, by have : yUse2 b c f8 e = b + c + f8 + (if e = 0 then 0 else e + 1) := rfl; omega, by omega, fun z => by have := hp.mpr z; omega⟩
              have take : ∀ co bi : Int, co = yMx (yUse2 b c f8 e - h) → bi = ((yBn i (yUse2 b c f8 e) h : Nat) : Int) → jHo Q (bX3_spread_154 (bX3_spread_201 rec2) (3 * b + c) f2 f3 f4 (b + c) (4 - l) f7 f8 e (f2 + 2 * f8 + e) co bi t2) := by
                intro co bi hco hbi
                have cb : 0 ≤ co ∧ co ≤ 9 := by rw [hco]; unfold yMx; split <;> omega
                unfold bX3_spread_154
                refine gHo_l32 (by omega) (by omega) (gHo_gd (by decide) (gHo_let ?_))
                rw [jdiv_c (x := 3 * b + c) (y := 3) ⟨by omega, by omega⟩ ⟨by decide, by decide⟩, show (3 * b + c) / 3 = b by omega]
                have tb : 0 ≤ yTc b f2 f8 e ∧ yTc b f2 f8 e < 90 := by unfold yTc; omega
                have et : (3 * f8 + b) * 10 + (f2 + 2 * f8 + e) = yTc b f2 f8 e := by unfold yTc; omega
                refine gHo_l32 (by omega) (by omega) (gHo_l32 (by omega) (by omega) (gHo_l32 (by omega) (by omega) ?_))
                rw [et]
                refine gHo_gd ⟨tb.1, by omega⟩ (gHo_let (gHo_let ?_))
                have sh : jshll co 34 = (((co.toNat) * 2 ^ 34 : Nat) : Int) := by
                  have := jshll_n (x := co.toNat) (k := 34) (by decide) (by
                    have : co.toNat * 2 ^ 34 ≤ 9 * 2 ^ 34 := Nat.mul_le_mul_right _ (by omega)
                    exact Nat.lt_of_le_of_lt this (by decide))
                  rw [show ((co.toNat : Nat) : Int) = co by omega] at this
                  exact this
                rw [sh]
                have p34 : (2 : Nat) ^ 34 = 17179869184 := by decide
                have val : yVl (f3 + ((co.toNat * 2 ^ 34 : Nat) : Int)) (T0 + co.toNat) m0 := by
                  refine ⟨?_, hv.2.1, by omega⟩
                  rw [hv.1, p34]
                  omega
                have vlt := yVl_lt val
                have vb : 0 ≤ f3 + ((co.toNat * 2 ^ 34 : Nat) : Int) ∧ f3 + ((co.toNat * 2 ^ 34 : Nat) : Int) < 9223372036854775808 := by
                  rw [val.1]
                  have : (2 : Nat) ^ 62 = 4611686018427387904 := by decide
                  rw [this] at vlt
                  omega
                refine gHo_l64 (by omega) (by omega) (gHo_let ?_)
                rw [hbi]
                have bb : yBn i (yUse2 b c f8 e) h < 2 ^ 34 := by
                  unfold yBn
                  split
                  · exact Nat.pow_lt_pow_right (by decide) (by omega)
                  · exact Nat.two_pow_pos 34
                have val2 := yVl_bit val bb
                have cell := g2 _ tb.1 tb.2
                refine gHo_bd (zX3_less (s := t2) (lim := lim) (by rw [g1 7 (by decide)]; exact hlim) hl100 cell.1 val2) (fun r t3' ht3 => ?_)
                obtain ⟨et3, n0⟩ := ht3
                rw [et3]
                refine gHo_gd ⟨tb.1, by omega⟩ (gHo_nm fun t3 ht3 => ?_)
                have n1 : ∀ y : Int, y ≠ 12 → t3 y = t2 y := fun y hy => by rw [ht3, jU_row hy]
                have n2 : ∀ y : Int, y ≠ yTc b f2 f8 e → t3 12 y = t2 12 y := fun y hy => by rw [ht3, jU_at, if_neg hy]
                have n3 := n0
                rw [show r = t3 12 (yTc b f2 f8 e) by rw [ht3, jU_at, if_pos rfl]] at n3
                obtain ⟨dT, dm⟩ := yVl_d n3
                have eco : (yMx (yUse2 b c f8 e - h)).toNat = co.toNat := by rw [hco]
                unfold bX3_spread_201
                refine gHo_l32 (by omega) (by omega) (ih2 _ _ _ _ _ _ _ _ _ _ ⟨rfl, rfl, rfl, rfl, rfl, rfl, rfl, rfl, by omega, by omega, ?_⟩ (by omega))
                rw [hIv]
                have le : ∀ y : Int, 0 ≤ y → y < 90 → yLs (yDT (t3 12 y)) (yDm (t3 12 y)) (yDT (t2 12 y)) (yDm (t2 12 y)) := by
                  intro y y0 y1
                  by_cases ey : y = yTc b f2 f8 e
                  · rw [ey, dT, dm]; exact yMg_old _ _ _ _ _
                  · rw [n2 y ey]; exact yLs_rf _ _
                refine ⟨fun y hy => (n1 y hy).trans (g1 y hy), fun y y0 y1 => ⟨?_, ?_, yLs_tr (le y y0 y1) (g2 y y0 y1).2.2⟩, fun x' e' a1 a2 a3 => ?_⟩
                · by_cases ey : y = yTc b f2 f8 e
                  · rw [ey]; exact yNv_i n3
                  · rw [n2 y ey]; exact (g2 y y0 y1).1
                · by_cases ey : y = yTc b f2 f8 e
                  · rw [ey, dT, dm]
                    refine yMg_G (hG _) cell.2.1 (fun z => ?_)
                    have := hgood f8 e al (by rw [eco]; exact z)
                    rw [eco] at this
                    exact this
                  · rw [n2 y ey]; exact (g2 y y0 y1).2.1
                · by_cases z : x' = f8 ∧ e' = e
                  · obtain ⟨rfl, rfl⟩ := z
                    rw [dT, dm, eco]
                    exact yMg_new (by rw [← eco]; exact a3)
                  · have tb' : 0 ≤ yTc b f2 x' e' ∧ yTc b f2 x' e' < 90 := by
                      obtain ⟨k1, k2, k3, k4, k5, k6, k7⟩ := a2
                      unfold yTc; omega
                    exact yLs_tr (le _ tb'.1 tb'.2) (g3 x' e' (by omega) a2 a3)
              refine gHo_gd ⟨hx.1, by omega⟩ (gHo_let ?_)
              rw [g1 8 (by decide), hh.1]
              refine gHo_l32 (by omega) (by omega) (gHo_let ?_)
              have em : jmax 0 (yUse2 b c f8 e - h) = yMx (yUse2 b c f8 e - h) := by
                unfold jmax yMx
                split <;> rfl
              rw [em]
              refine gHo_if (fun q4 => ?_) (fun q4 => ?_)
              · exact take _ 0 rfl (by unfold yBn; rw [if_neg (by omega)]; rfl)
              · refine gHo_gd (by decide) (gHo_let (gHo_let ?_))
                rw [jrem_9 hx.1 (by omega), hi, yBitk i i9]
                exact take _ _ rfl (by unfold yBn; rw [if_pos (by omega)])
            by_cases pq : f2.toNat % 2 = 1 ∧ e.toNat = 1
            · rw [if_pos pq, if_pos (show (1 : Int) = 1 from rfl)]
              exact fin 1 ⟨fun _ => by omega, fun _ => rfl⟩ (Or.inr rfl)
            · rw [if_neg pq, if_neg (show ¬ (0 : Int) = 1 by decide)]
              exact fin 0 ⟨fun z => absurd z (by decide), fun z => absurd (by omega) pq⟩ (Or.inl rfl)
          refine gHo_l32 (by omega) (by omega) (gHo_if (fun e5 => use 0 (by rw [if_pos e5])) (fun e5 => gHo_l32 (by omega) (by omega) (use _ (by rw [if_neg e5]))))
    · rw [hIv]
      exact ⟨fun _ _ => rfl, fun y y0 y1 => ⟨(hcell y y0 y1).1, (hcell y y0 y1).2, yLs_rf _ _⟩, fun x' e' a1 a2 => by
        obtain ⟨k1, k2, k3, -⟩ := a2
        omega⟩
  unfold fX3_spread
  refine gHo_gd (by decide) (gHo_let (gHo_gd (by decide) (gHo_let ?_)))
  rw [jdiv_c (x := 3 * b + c) (y := 3) ⟨by omega, by omega⟩ ⟨by decide, by decide⟩, jrem_c (x := 3 * b + c) (y := 3) ⟨by omega, by omega⟩ ⟨by decide, by decide⟩, show (3 * b + c) / 3 = b by omega, show (3 * b + c) % 3 = c by omega]
  refine gHo_l32 (by omega) (by omega) (gHo_gd ⟨hx.1, by omega⟩ (gHo_let ?_))
  rw [hla.1]
  refine gHo_l32 (by omega) (by omega) ?_
  rw [zX8_startsRun hx.1 (by omega), jBd_s]
  by_cases st : x0 < 27 ∧ x0 % 9 ≤ 6
  · rw [jb_1 st, if_neg (show ¬ (1 : Int) = 0 by decide)]
    rw [if_pos st] at hm
    rw [← hm]; exact go
  · rw [jb_0 st, if_pos (show (0 : Int) = 0 from rfl)]
    rw [if_neg st] at hm
    rw [← hm]; exact go
end

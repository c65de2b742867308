/-! ===== lacks: the class's rows, kept ===== -/
section
theorem jushrl_55 (x : Int) : 0 ≤ jushrl x 55 ∧ jushrl x 55 < 512 := by
  have e : ((Int32.ofInt 55).toInt64.toUInt64 &&& Int64.toUInt64 63) = 55 := by decide +kernel
  unfold jushrl
  rw [e]
  obtain ⟨y, hy⟩ : ∃ y, y = (Int64.ofInt x).toUInt64 := ⟨_, rfl⟩
  rw [← hy]
  have lt : (y >>> 55).toNat < 512 := by
    rw [UInt64.toNat_shiftRight]
    have h1 : (55 : UInt64).toNat % 64 = 55 := by decide
    rw [h1, Nat.shiftRight_eq_div_pow]
    have := y.toNat_lt
    omega
  have e2 : ((y >>> 55).toInt64).toInt = ((y >>> 55).toNat : Int) := by
    show (y >>> 55).toBitVec.toInt = _
    rw [BitVec.toInt_eq_toNat_of_lt]
    · rfl
    · show 2 * (y >>> 55).toNat < 2 ^ 64
      omega
  rw [e2]
  omega
/-- a row's key -/
def yKy (lim : Int) (H L : Int → Int) (r : Int) : Nat → Int
  | 0 => lim
  | i + 1 => yKy lim H L r i * 25 + H (9 * r + i) * 5 + L (9 * r + i)
def yDg (H L : Int → Int) (r : Int) (i : Nat) : Prop := ∀ j : Nat, j < i → 0 ≤ H (9 * r + j) ∧ H (9 * r + j) ≤ 4 ∧ 0 ≤ L (9 * r + j) ∧ L (9 * r + j) ≤ 4
theorem yKy_bd {lim : Int} {H L : Int → Int} {r : Int} (hl : 1 ≤ lim ∧ lim ≤ 14) {i : Nat} (hd : yDg H L r i) : (25 : Int) ^ i ≤ yKy lim H L r i ∧ yKy lim H L r i < 15 * 25 ^ i := by
  induction i with
  | zero => simp only [yKy, Int.pow_zero]; omega
  | succ i ih =>
    have a := ih (fun j hj => hd j (by omega))
    have b := hd i (by omega)
    simp only [yKy, Int.pow_succ]
    omega
theorem yP25 : ∀ i : Nat, i ≤ 9 → (25 : Int) ^ i ≤ 3814697265625 := by
  intro i hi
  rcases (by omega : i = 0 ∨ i = 1 ∨ i = 2 ∨ i = 3 ∨ i = 4 ∨ i = 5 ∨ i = 6 ∨ i = 7 ∨ i = 8 ∨ i = 9) with rfl | rfl | rfl | rfl | rfl | rfl | rfl | rfl | rfl | rfl <;> decide
theorem yKy_inj {lim lim' : Int} {H L H' L' : Int → Int} {r r' : Int} : ∀ {i : Nat}, yDg H L r i → yDg H' L' r' i → yKy lim H L r i = yKy lim' H' L' r' i → lim = lim' ∧ ∀ j : Nat, j < i → H (9 * r + j) = H' (9 * r' + j) ∧ L (9 * r + j) = L' (9 * r' + j) := by
  intro i
  induction i with
  | zero => intro _ _ e; exact ⟨e, fun j hj => by omega⟩
  | succ i ih =>
    intro h h' e
    have a := h i (by omega)
    have b := h' i (by omega)
    simp only [yKy] at e
    obtain ⟨k1, k2⟩ := ih (fun j hj => h j (by omega)) (fun j hj => h' j (by omega)) (by omega)
    refine ⟨k1, fun j hj => ?_⟩
    by_cases ej : j = i
    · subst ej; omega
    · exact k2 j (by omega)
theorem zX8_lengthOf {r : Int} {s : jMem} : fX8_lengthOf r s = some ((yLn r : Int), s) := by
  unfold fX8_lengthOf yLn
  by_cases e : 3 ≤ r
  · rw [if_pos e, if_neg (by omega)]; rfl
  · rw [if_neg e, if_pos (by omega)]; rfl
theorem yLn_r {r : Int} (r0 : 0 ≤ r) (r4 : r < 4) {j : Nat} (hj : j < yLn r) : 0 ≤ 9 * r + (j : Int) ∧ 9 * r + (j : Int) < 34 := by
  unfold yLn at hj
  split at hj <;> omega
theorem zX3_keyOf {s : jMem} {r : Int} (r0 : 0 ≤ r) (r4 : r < 4) (hl : 1 ≤ s 7 9 ∧ s 7 9 ≤ 14) (hd : yDg (s 8) (s 9) r (yLn r)) : fX3_keyOf r s = some (yKy (s 7 9) (s 8) (s 9) r (yLn r), s) := by
  obtain ⟨u1, u2, u3, u4, u5, u6, u7, u8, u9⟩ := jik_t
  have l9 : yLn r ≤ 9 := by unfold yLn; split <;> omega
  have main : jHo (fun v t => v = yKy (s 7 9) (s 8) (s 9) r (yLn r) ∧ t = s) (fX3_keyOf r s) := by
    unfold fX3_keyOf
    refine gHo_let ?_
    refine gIt4 (fun a1 a2 a3 t => a1 = r ∧ t = s ∧ ∃ i : Nat, a3 = i ∧ i ≤ yLn r ∧ a2 = yKy (s 7 9) (s 8) (s 9) r i) (fun _ _ a3 => (9 - a3).toNat) ?_ 1000 r _ 0 s ⟨rfl, rfl, 0, rfl, by omega, rfl⟩ (by decide)
    rintro rec a1 a2 a3 t ⟨rfl, rfl, i, rfl, hi, rfl⟩ ih
    unfold bX3_keyOf_9
    rw [zX8_lengthOf, jBd_s]
    refine gHo_if (fun e => ?_) (fun e => ?_)
    · have ei : i = yLn a1 := by omega
      rw [ei]
      exact gHo_ret ⟨rfl, rfl⟩
    · have hi' : i < yLn a1 := by omega
      have xr := yLn_r r0 r4 hi'
      have kb := yKy_bd hl (i := i) (fun j hj => hd j (by omega))
      have p := yP25 i (by omega)
      have p0 : (0 : Int) ≤ 25 ^ i := Int.pow_nonneg (by decide)
      have b := hd i hi'
      refine gHo_l32 (by omega) (by omega) (gHo_l32 (by omega) (by omega) (gHo_l64 (by omega) (by omega) ?_))
      rw [show a1 * 9 + (i : Int) = 9 * a1 + i by omega]
      refine gHo_gd ⟨xr.1, by omega⟩ (gHo_let (gHo_l32 (by omega) (by omega) (gHo_l64 (by omega) (by omega) (gHo_gd ⟨xr.1, by omega⟩ (gHo_let (gHo_l64 (by omega) (by omega) (gHo_l32 (by omega) (by omega) (ih _ _ _ _ ⟨rfl, rfl, i + 1, by omega, by omega, rfl⟩ (by omega)))))))))
  obtain ⟨v, t, e, rfl, rfl⟩ := main
  exact e
theorem yBst_map {lim : Nat} {P Q : (Int → Int) → Prop} {C D : (Int → Int) → Int} {N M : (Int → Int) → Nat → Prop} {v : Int} (h : ∀ n, P n → ∃ n', Q n' ∧ D n' = C n ∧ ∀ j, M n' j ↔ N n j) (k : ∀ n, Q n → ∃ n', P n' ∧ C n' = D n ∧ ∀ j, N n' j ↔ M n j) (b : yBst lim P C N v) : yBst lim Q D M v := by
  obtain ⟨T, m, hv, b⟩ := b
  refine ⟨T, m, hv, ?_⟩
  rcases b with ⟨b1, b2, b3⟩ | ⟨b1, ⟨n, b2, b3⟩, b4, b5⟩
  · refine Or.inl ⟨b1, b2, fun n hn => ?_⟩
    obtain ⟨n', p, c, -⟩ := k n hn
    rw [← c]; exact b3 n' p
  · refine Or.inr ⟨b1, ?_, fun n hn => ?_, fun j => ?_⟩
    · obtain ⟨n', p, c, -⟩ := h n b2
      exact ⟨n', p, by rw [c]; exact b3⟩
    · obtain ⟨n', p, c, -⟩ := k n hn
      rw [← c]; exact b4 n' p
    · rw [b5 j]
      constructor
      · rintro ⟨n, a1, a2, a3⟩
        obtain ⟨n', p, c, d⟩ := h n a1
        exact ⟨n', p, by rw [c]; exact a2, (d j).mpr a3⟩
      · rintro ⟨n, a1, a2, a3⟩
        obtain ⟨n', p, c, d⟩ := k n a1
        exact ⟨n', p, by rw [c]; exact a2, (d j).mpr a3⟩
/-- a row's plan, on another row alike -/
theorem yRP_sh {L L' : Int → Int} {r r' K : Int} (h3 : r < 3 ↔ r' < 3) : ∀ (i : Nat) (a b g p : Int) (n n' : Int → Int), (∀ j : Nat, j < i → L (9 * r + j) = L' (9 * r' + j)) → (∀ j : Nat, j < i → n (9 * r + j) = n' (9 * r' + j)) → yRP L r K i a b g p n → yRP L' r' K i a b g p n' := by
  intro i
  induction i with
  | zero => intro a b g p n n' _ _ h; exact h
  | succ i ih =>
    intro a b g p n n' hL hn ⟨c, t, q, k1, k2, k3, k4, k5, k6, k7, k8, k9⟩
    have e1 := hL i (by omega)
    have e2 := hn i (by omega)
    refine ⟨c, t, q, ih _ _ _ _ n n' (fun j hj => hL j (by omega)) (fun j hj => hn j (by omega)) k1, k2, ?_, k4, k5, k6, k7, by rw [← e2]; exact k8, by rw [← e2, ← e1]; exact k9⟩
    by_cases c1 : r < 3 ∧ i < 7
    · rw [if_pos c1] at k3; rw [if_pos ⟨h3.mp c1.1, c1.2⟩]; exact k3
    · rw [if_neg c1] at k3; rw [if_neg (fun z => c1 ⟨h3.mpr z.1, z.2⟩)]; exact k3
theorem yBst_sh {H L H' L' : Int → Int} {r r' g p v : Int} {lim : Nat} (hln : yLn r = yLn r') (h3 : r < 3 ↔ r' < 3) (hd : ∀ j : Nat, j < yLn r → H (9 * r + j) = H' (9 * r' + j) ∧ L (9 * r + j) = L' (9 * r' + j)) (b : yBst lim (yRw L r 2 g p) (fun n => yCo H r n (yLn r)) (yNd H r (yLn r)) v) : yBst lim (yRw L' r' 2 g p) (fun n => yCo H' r' n (yLn r')) (yNd H' r' (yLn r')) v := by
  have fwd : ∀ (H L H' L' : Int → Int) (r r' : Int), yLn r = yLn r' → (r < 3 ↔ r' < 3) → (∀ j : Nat, j < yLn r → H (9 * r + j) = H' (9 * r' + j) ∧ L (9 * r + j) = L' (9 * r' + j)) → ∀ n, yRw L r 2 g p n → ∃ n', yRw L' r' 2 g p n' ∧ yCo H' r' n' (yLn r') = yCo H r n (yLn r) ∧ ∀ j, yNd H' r' (yLn r') n' j ↔ yNd H r (yLn r) n j := by
    intro H L H' L' r r' hln h3 hd n hn
    have en : ∀ j : Nat, n (9 * r + j) = (fun q => n (q - 9 * r' + 9 * r)) (9 * r' + j) := fun j => by
      dsimp only
      congr 1; omega
    refine ⟨fun q => n (q - 9 * r' + 9 * r), ?_, ?_, fun j => ?_⟩
    · unfold yRw at hn ⊢
      rw [← hln]
      exact yRP_sh h3 _ _ _ _ _ n _ (fun j hj => (hd j hj).2) (fun j _ => en j) hn
    · rw [← hln]
      unfold yCo
      exact jSum_cg (fun j hj => by rw [← en j, (hd j hj).1])
    · unfold yNd
      rw [← hln]
      constructor
      · rintro ⟨a, c⟩
        rw [← en j, ← (hd j a).1] at c
        exact ⟨a, c⟩
      · rintro ⟨a, c⟩
        refine ⟨a, ?_⟩
        rw [← en j, ← (hd j a).1]; exact c
  exact yBst_map (fwd H L H' L' r r' hln h3 hd) (fwd H' L' H L r' r hln.symm h3.symm (fun j hj => by have := hd j (by omega); exact ⟨this.1.symm, this.2.symm⟩)) b
/-- what is kept is right -/
def yCch (s : jMem) : Prop := ∀ x : Int, 0 ≤ x → x < 512 → s 14 x = -1 ∨ ∃ (lim : Nat) (H L : Int → Int) (r : Int), (1 ≤ lim ∧ lim ≤ 14) ∧ (0 ≤ r ∧ r < 4) ∧ yDg H L r (yLn r) ∧ s 14 x = yKy lim H L r (yLn r) ∧ ∀ g p : Int, 0 ≤ g → g ≤ 4 → 0 ≤ p → p ≤ 1 → yBst lim (yRw L r 2 g p) (fun n => yCo H r n (yLn r)) (yNd H r (yLn r)) (s 15 (10 * x + 2 * g + p))
theorem zX3_workOut {s : jMem} {r : Int} {lim : Nat} (r0 : 0 ≤ r) (r4 : r < 4) (h7 : s 7 9 = lim) (hl : 1 ≤ lim ∧ lim ≤ 14) (hb : ∀ q : Int, 0 ≤ q → q < 34 → 0 ≤ s 8 q ∧ s 8 q ≤ 4 ∧ 0 ≤ s 9 q ∧ s 9 q ≤ 4) (hch : yCch s) : jHo (fun _ t => (∀ x : Int, x ≠ 10 → x ≠ 11 → x ≠ 12 → x ≠ 14 → x ≠ 15 → t x = s x) ∧ (∀ y : Int, ¬ (10 * r ≤ y ∧ y < 10 * r + 10) → t 10 y = s 10 y) ∧ yCch t ∧ ∀ g p : Int, 0 ≤ g → g ≤ 4 → 0 ≤ p → p ≤ 1 → yBst lim (yRw (s 9) r 2 g p) (fun n => yCo (s 8) r n (yLn r)) (yNd (s 8) r (yLn r)) (t 10 (10 * r + 2 * g + p))) (fX3_workOut r s) := by
  obtain ⟨w1, w2, w3, w4, w5, w6⟩ := jjk_t
  have hd : yDg (s 8) (s 9) r (yLn r) := fun j hj => by
    have x := yLn_r r0 r4 hj
    exact hb _ x.1 x.2
  have l9 : yLn r ≤ 9 := by unfold yLn; split <;> omega
  have kb := yKy_bd (lim := (lim : Int)) ⟨by omega, by omega⟩ hd
  have p25 := yP25 (yLn r) l9
  have p250 : (1 : Int) ≤ 25 ^ yLn r := by
    have : (0 : Int) < 25 ^ yLn r := Int.pow_pos (by decide)
    omega
  obtain ⟨key, hk⟩ : ∃ key, key = yKy (lim : Int) (s 8) (s 9) r (yLn r) := ⟨_, rfl⟩
  rw [← hk] at kb
  unfold fX3_workOut
  rw [zX3_keyOf r0 r4 (by omega) hd, jBd_s, h7, ← hk]
  refine gHo_nm fun z hz => gHo_let ?_
  have jb := jushrl_55 z
  obtain ⟨x, hx⟩ : ∃ x, x = jushrl z 55 := ⟨_, rfl⟩
  rw [← hx] at jb ⊢
  refine gHo_l32 (by omega) (by omega) (gHo_gd ⟨jb.1, by omega⟩ (gHo_let (gHo_let ?_)))
  -- the lanes go over
  have copy : ∀ t : jMem, (∀ y : Int, y ≠ 10 → y ≠ 11 → y ≠ 12 → y ≠ 14 → y ≠ 15 → t y = s y) → t 10 = s 10 → yCch t → (∀ g p : Int, 0 ≤ g → g ≤ 4 → 0 ≤ p → p ≤ 1 → yBst lim (yRw (s 9) r 2 g p) (fun n => yCo (s 8) r n (yLn r)) (yNd (s 8) r (yLn r)) (t 15 (10 * x + 2 * g + p))) → jHo (fun _ t => (∀ x : Int, x ≠ 10 → x ≠ 11 → x ≠ 12 → x ≠ 14 → x ≠ 15 → t x = s x) ∧ (∀ y : Int, ¬ (10 * r ≤ y ∧ y < 10 * r + 10) → t 10 y = s 10 y) ∧ yCch t ∧ ∀ g p : Int, 0 ≤ g → g ≤ 4 → 0 ≤ p → p ≤ 1 → yBst lim (yRw (s 9) r 2 g p) (fun n => yCo (s 8) r n (yLn r)) (yNd (s 8) r (yLn r)) (t 10 (10 * r + 2 * g + p))) (bX3_workOut_61 r x t) := by
    intro t f1 f2 f3 f4
    unfold bX3_workOut_61
    refine gHo_l32 (by omega) (by omega) (gHo_l32 (by omega) (by omega) (gHo_gd ⟨by omega, by omega, by omega, by omega, by omega, by omega, by omega⟩ (gHo_nm fun t2 ht2 => gHo_ret ?_)))
    have g2 : ∀ y : Int, y ≠ 10 → t2 y = t y := fun y hy => by rw [ht2]; funext j; unfold jCp; rw [if_neg (fun z => hy z.1)]
    refine ⟨fun y y1 y2 y3 y4 y5 => by rw [g2 y y1]; exact f1 y y1 y2 y3 y4 y5, fun y hy => ?_, ?_, fun g p g0 g4 p0 p1 => ?_⟩
    · rw [ht2]; unfold jCp; rw [if_neg (by omega), f2]
    · intro y y0 y1
      rw [g2 14 (by decide), g2 15 (by decide)]; exact f3 y y0 y1
    · have : t2 10 (10 * r + 2 * g + p) = t 15 (10 * x + 2 * g + p) := by
        rw [ht2]; unfold jCp; rw [if_pos (by omega)]; congr 1; omega
      rw [this]; exact f4 g p g0 g4 p0 p1
  refine gHo_if (fun e => ?_) (fun e => ?_)
  · have eq : s 14 x = key := by
      unfold jcmp at e
      split at e
      · exact absurd e (by decide)
      · split at e
        · assumption
        · exact absurd e (by decide)
    refine copy s (fun _ _ _ _ _ _ => rfl) rfl hch (fun g p g0 g4 p0 p1 => ?_)
    rcases hch x jb.1 jb.2 with h | ⟨lim', H, L, r', b1, b2, b3, b4, b5⟩
    · rw [eq] at h; omega
    · have e2 : yKy (lim' : Int) H L r' (yLn r') = yKy (lim : Int) (s 8) (s 9) r (yLn r) := by rw [← b4, eq, hk]
      have kb' := yKy_bd (lim := (lim' : Int)) ⟨by omega, by omega⟩ b3
      rw [hk] at kb
      -- rows of one length
      have hln : yLn r' = yLn r ∧ (r' < 3 ↔ r < 3) := by
        have v7 : (25 : Int) ^ 7 = 6103515625 := by decide
        have v9 : (25 : Int) ^ 9 = 3814697265625 := by decide
        by_cases c1 : r < 3
        · by_cases c2 : r' < 3
          · unfold yLn; rw [if_pos c1, if_pos c2]; exact ⟨rfl, fun _ => c1, fun _ => c2⟩
          · exfalso
            have l1 : yLn r = 9 := by unfold yLn; rw [if_pos c1]
            have l2 : yLn r' = 7 := by unfold yLn; rw [if_neg c2]
            rw [l1, l2] at e2
            rw [l1, v9] at kb
            rw [l2, v7] at kb'
            omega
        · by_cases c2 : r' < 3
          · exfalso
            have l1 : yLn r = 7 := by unfold yLn; rw [if_neg c1]
            have l2 : yLn r' = 9 := by unfold yLn; rw [if_pos c2]
            rw [l1, l2] at e2
            rw [l1, v7] at kb
            rw [l2, v9] at kb'
            omega
          · unfold yLn; rw [if_neg c1, if_neg c2]; exact ⟨rfl, fun z => absurd z c2, fun z => absurd z c1⟩
      rw [hln.1] at e2 b3
      obtain ⟨q1, q2⟩ := yKy_inj b3 hd e2
      have : lim' = lim := by omega
      subst this
      exact yBst_sh hln.1 hln.2 (fun j hj => q2 j (by omega)) (b5 g p g0 g4 p0 p1)
  · refine gHo_bd (zX3_goThrough r0 r4 h7 hl.2 (fun q q0 q4 => by have := hb q q0 q4; omega)) (fun _ t ht => ?_)
    obtain ⟨m1, m2⟩ := ht
    refine gHo_gd ⟨jb.1, by omega⟩ (gHo_nm fun t1 ht1 => gHo_l32 (by omega) (by omega) (gHo_gd ⟨by omega, by omega, by omega, by omega, by omega, by omega, by omega⟩ (gHo_nm fun t2 ht2 => ?_)))
    have g2 : ∀ y : Int, y ≠ 15 → t2 y = t1 y := fun y hy => by rw [ht2]; funext j; unfold jCp; rw [if_neg (fun z => hy z.1)]
    have g1 : ∀ y : Int, y ≠ 14 → t1 y = t y := fun y hy => by rw [ht1, jU_row hy]
    have new : ∀ g p : Int, 0 ≤ g → g ≤ 4 → 0 ≤ p → p ≤ 1 → yBst lim (yRw (s 9) r 2 g p) (fun n => yCo (s 8) r n (yLn r)) (yNd (s 8) r (yLn r)) (t2 15 (10 * x + 2 * g + p)) := by
      intro g p g0 g4 p0 p1
      have : t2 15 (10 * x + 2 * g + p) = t 11 (2 * g + p) := by
        rw [ht2]
        unfold jCp
        rw [if_pos (by omega), g1 11 (by decide)]
        congr 1; omega
      rw [this]
      have := m2 0 0 g p (by omega) (by omega) (by omega) (by omega) g0 g4 p0 p1
      rw [show 10 * (3 * 0 + 0) + 2 * g + p = 2 * g + p by omega] at this
      exact this
    refine copy t2 (fun y y1 y2 y3 y4 y5 => by rw [g2 y y5, g1 y y4]; exact m1 y y2 y3) (by rw [g2 10 (by decide), g1 10 (by decide)]; exact m1 10 (by decide) (by decide)) (fun y y0 y1 => ?_) new
    rw [g2 14 (by decide), ht1, jU_at]
    by_cases ey : y = x
    · rw [if_pos ey]
      refine Or.inr ⟨lim, s 8, s 9, r, hl, ⟨r0, r4⟩, hd, hk, fun g p g0 g4 p0 p1 => ?_⟩
      rw [ey]; exact new g p g0 g4 p0 p1
    · rw [if_neg ey, m1 14 (by decide) (by decide)]
      rcases hch y y0 y1 with h | ⟨lim', H, L, r', b1, b2, b3, b4, b5⟩
      · exact Or.inl h
      · refine Or.inr ⟨lim', H, L, r', b1, b2, b3, b4, fun g p g0 g4 p0 p1 => ?_⟩
        have : t2 15 (10 * y + 2 * g + p) = s 15 (10 * y + 2 * g + p) := by
          rw [ht2]
          unfold jCp
          rw [if_neg (by omega), g1 15 (by decide), m1 15 (by decide) (by decide)]
        rw [this]; exact b5 g p g0 g4 p0 p1
end

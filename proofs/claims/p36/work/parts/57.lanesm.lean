/-! ===== lacks: the reference's table ===== -/
section
/-- what may be taken of a sort, behind b and c runs begun -/
def yAl (b c g p m l r t q : Int) : Prop := 0 ≤ r ∧ r ≤ m ∧ (t = 0 ∨ t = 1) ∧ (q = 0 ∨ q = 1) ∧ g + r + t ≤ 4 ∧ p + q ≤ 1 ∧ r + b + c + 3 * t + 2 * q + l ≤ 4
def yTg (b g p r t q : Int) : Int := 50 * r + 10 * b + 2 * (g + r + t) + (p + q)
theorem zX11_step {s : jMem} {x b c g p m co h l : Int} (x0 : 0 ≤ x ∧ x < 34) (hb : 0 ≤ b ∧ b ≤ 4) (hc : 0 ≤ c ∧ c ≤ 4) (hg : 0 ≤ g ∧ g ≤ 4) (hp : 0 ≤ p ∧ p ≤ 1) (hm : 0 ≤ m ∧ m ≤ 4) (hco : 0 ≤ co ∧ co ≤ 1000) (hh : s 68 x = h ∧ 0 ≤ h ∧ h ≤ 100) (hl : s 69 x = l ∧ 0 ≤ l ∧ l ≤ 100) : jHo (fun _ z => (∀ y : Int, y ≠ 73 → z y = s y) ∧ (∀ y : Int, z 73 y ≤ s 73 y) ∧ (∀ y : Int, z 73 y = s 73 y ∨ ∃ r t q : Int, yAl b c g p m l r t q ∧ y = yTg b g p r t q ∧ z 73 y = co + yMx (r + b + c + 3 * t + 2 * q - h)) ∧ ∀ r t q : Int, yAl b c g p m l r t q → z 73 (yTg b g p r t q) ≤ co + yMx (r + b + c + 3 * t + 2 * q - h)) (fX11_step x b c g p m co s) := by
  obtain ⟨u1, u2, u3, u4, u5, u6, u7, u8, u9, u10, u11, u12, u13, u14, u15, u16, u17, u18, u19, u20, u21, u22⟩ := jik_m
  -- what holds at a point of the three loops, all ahead of (r, t, q) being done
  obtain ⟨Iv, hIv⟩ : ∃ Iv : Int → Int → Int → jMem → Prop, Iv = fun r t q z => (∀ y : Int, y ≠ 73 → z y = s y) ∧ (∀ y : Int, z 73 y ≤ s 73 y) ∧ (∀ y : Int, z 73 y = s 73 y ∨ ∃ r t q : Int, yAl b c g p m l r t q ∧ y = yTg b g p r t q ∧ z 73 y = co + yMx (r + b + c + 3 * t + 2 * q - h)) ∧ ∀ r' t' q' : Int, (r' < r ∨ r' = r ∧ (t' < t ∨ t' = t ∧ q' < q)) → yAl b c g p m l r' t' q' → z 73 (yTg b g p r' t' q') ≤ co + yMx (r' + b + c + 3 * t' + 2 * q' - h) := ⟨_, rfl⟩
  have mono : ∀ (r t q r2 t2 q2 : Int) (z : jMem), Iv r t q z → (∀ r' t' q' : Int, (r' < r2 ∨ r' = r2 ∧ (t' < t2 ∨ t' = t2 ∧ q' < q2)) → yAl b c g p m l r' t' q' → (r' < r ∨ r' = r ∧ (t' < t ∨ t' = t ∧ q' < q))) → Iv r2 t2 q2 z := by
    intro r t q r2 t2 q2 z hz hx
    rw [hIv] at hz ⊢
    exact ⟨hz.1, hz.2.1, hz.2.2.1, fun r' t' q' h1 h2 => hz.2.2.2 r' t' q' (hx r' t' q' h1 h2) h2⟩
  unfold fX11_step
  refine gIt9 (fun a1 a2 a3 a4 a5 a6 a7 r z => a1 = x ∧ a2 = b ∧ a3 = c ∧ a4 = g ∧ a5 = p ∧ a6 = m ∧ a7 = co ∧ 0 ≤ r ∧ r ≤ 5 ∧ Iv r 0 0 z) (fun _ _ _ _ _ _ _ r => (5 - r).toNat) ?_ 1000 x b c g p m co 0 s ⟨rfl, rfl, rfl, rfl, rfl, rfl, rfl, by omega, by omega, ?_⟩ (by decide)
  · rintro rec a1 a2 a3 a4 a5 a6 a7 r z ⟨rfl, rfl, rfl, rfl, rfl, rfl, rfl, r0, r5, hz⟩ ih
    have fin : (∀ r' t' q' : Int, yAl a2 a3 a4 a5 a6 l r' t' q' → r' < r) → jHo (fun _ z => (∀ y : Int, y ≠ 73 → z y = s y) ∧ (∀ y : Int, z 73 y ≤ s 73 y) ∧ (∀ y : Int, z 73 y = s 73 y ∨ ∃ r t q : Int, yAl a2 a3 a4 a5 a6 l r t q ∧ y = yTg a2 a4 a5 r t q ∧ z 73 y = a7 + yMx (r + a2 + a3 + 3 * t + 2 * q - h)) ∧ ∀ r t q : Int, yAl a2 a3 a4 a5 a6 l r t q → z 73 (yTg a2 a4 a5 r t q) ≤ a7 + yMx (r + a2 + a3 + 3 * t + 2 * q - h)) (jRet 0 z) := by
      intro hx
      rw [hIv] at hz
      exact gHo_ret ⟨hz.1, hz.2.1, hz.2.2.1, fun r' t' q' h1 => hz.2.2.2 r' t' q' (Or.inl (hx r' t' q' h1)) h1⟩
    unfold bX11_step_3
    refine gHo_if (fun e => fin (fun r' t' q' k => by have := k.2.1; omega)) (fun e => ?_)
    refine gHo_l32 (by omega) (by omega) (gHo_if (fun e2 => fin (fun r' t' q' k => by obtain ⟨k1, k2, k3, k4, k5, -⟩ := k; omega)) (fun e2 => ?_))
    -- threes
    refine gIt10 (fun c1 c2 c3 c4 c5 c6 c7 c8 t z => c1 = a1 ∧ c2 = a2 ∧ c3 = a3 ∧ c4 = a4 ∧ c5 = a5 ∧ c6 = a6 ∧ c7 = a7 ∧ c8 = r ∧ 0 ≤ t ∧ t ≤ 2 ∧ Iv r t 0 z) (fun _ _ _ _ _ _ _ _ t => (2 - t).toNat) ?_ 1000 a1 a2 a3 a4 a5 a6 a7 r 0 z ⟨rfl, rfl, rfl, rfl, rfl, rfl, rfl, rfl, by omega, by omega, hz⟩ (by decide)
    rintro rec2 c1 c2 c3 c4 c5 c6 c7 c8 t z2 ⟨rfl, rfl, rfl, rfl, rfl, rfl, rfl, rfl, t0, t2, hz2⟩ ih2
    have out : (∀ t' q' : Int, yAl c2 c3 c4 c5 c6 l c8 t' q' → t' < t) → jHo (fun _ z => (∀ y : Int, y ≠ 73 → z y = s y) ∧ (∀ y : Int, z 73 y ≤ s 73 y) ∧ (∀ y : Int, z 73 y = s 73 y ∨ ∃ r t q : Int, yAl c2 c3 c4 c5 c6 l r t q ∧ y = yTg c2 c4 c5 r t q ∧ z 73 y = c7 + yMx (r + c2 + c3 + 3 * t + 2 * q - h)) ∧ ∀ r t q : Int, yAl c2 c3 c4 c5 c6 l r t q → z 73 (yTg c2 c4 c5 r t q) ≤ c7 + yMx (r + c2 + c3 + 3 * t + 2 * q - h)) (bX11_step_163 rec c1 c2 c3 c4 c5 c6 c7 c8 z2) := by
      intro hx
      unfold bX11_step_163
      refine gHo_l32 (by omega) (by omega) (ih _ _ _ _ _ _ _ _ _ ⟨rfl, rfl, rfl, rfl, rfl, rfl, rfl, by omega, by omega, mono c8 t 0 _ _ _ z2 hz2 (fun r' t' q' h1 h2 => ?_)⟩ (by omega))
      obtain ⟨k1, k2, k3, k4, k5⟩ := id h2
      by_cases er : r' = c8
      · subst er; exact Or.inr ⟨rfl, Or.inl (hx t' q' h2)⟩
      · omega
    unfold bX11_step_22
    refine gHo_if (fun e3 => out (fun t' q' k => by have := k.2.2.1; omega)) (fun e3 => ?_)
    refine gHo_l32 (by omega) (by omega) (gHo_l32 (by omega) (by omega) (gHo_if (fun e4 => out (fun t' q' k => by have := k.2.2.2.2.1; omega)) (fun e4 => ?_)))
    -- pairs
    refine gIt11 (fun d1 d2 d3 d4 d5 d6 d7 d8 d9 q z => d1 = c1 ∧ d2 = c2 ∧ d3 = c3 ∧ d4 = c4 ∧ d5 = c5 ∧ d6 = c6 ∧ d7 = c7 ∧ d8 = c8 ∧ d9 = t ∧ 0 ≤ q ∧ q ≤ 2 ∧ Iv c8 t q z) (fun _ _ _ _ _ _ _ _ _ q => (2 - q).toNat) ?_ 1000 c1 c2 c3 c4 c5 c6 c7 c8 t 0 z2 ⟨rfl, rfl, rfl, rfl, rfl, rfl, rfl, rfl, rfl, by omega, by omega, hz2⟩ (by decide)
    rintro rec3 d1 d2 d3 d4 d5 d6 d7 d8 d9 q z3 ⟨rfl, rfl, rfl, rfl, rfl, rfl, rfl, rfl, rfl, q0, q2, hz3⟩ ih3
    have out3 : (∀ q' : Int, yAl d2 d3 d4 d5 d6 l d8 d9 q' → q' < q) → jHo (fun _ z => (∀ y : Int, y ≠ 73 → z y = s y) ∧ (∀ y : Int, z 73 y ≤ s 73 y) ∧ (∀ y : Int, z 73 y = s 73 y ∨ ∃ r t q : Int, yAl d2 d3 d4 d5 d6 l r t q ∧ y = yTg d2 d4 d5 r t q ∧ z 73 y = d7 + yMx (r + d2 + d3 + 3 * t + 2 * q - h)) ∧ ∀ r t q : Int, yAl d2 d3 d4 d5 d6 l r t q → z 73 (yTg d2 d4 d5 r t q) ≤ d7 + yMx (r + d2 + d3 + 3 * t + 2 * q - h)) (bX11_step_157 rec2 d1 d2 d3 d4 d5 d6 d7 d8 d9 z3) := by
      intro hx
      unfold bX11_step_157
      refine gHo_l32 (by omega) (by omega) (ih2 _ _ _ _ _ _ _ _ _ _ ⟨rfl, rfl, rfl, rfl, rfl, rfl, rfl, rfl, by omega, by omega, mono d8 d9 q _ _ _ z3 hz3 (fun r' t' q' h1 h2 => ?_)⟩ (by omega))
      obtain ⟨k1, k2, k3, k4, k5⟩ := id h2
      by_cases er : r' = d8
      · by_cases et : t' = d9
        · subst er et; exact Or.inr ⟨rfl, Or.inr ⟨rfl, hx q' h2⟩⟩
        · omega
      · omega
    have hz3' := hz3
    rw [hIv] at hz3'
    obtain ⟨j1, j2, j3, j4⟩ := hz3'
    have e68 := j1 68 (by decide)
    have e69 := j1 69 (by decide)
    have skip : q < 2 → ¬ yAl d2 d3 d4 d5 d6 l d8 d9 q → jHo (fun _ z => (∀ y : Int, y ≠ 73 → z y = s y) ∧ (∀ y : Int, z 73 y ≤ s 73 y) ∧ (∀ y : Int, z 73 y = s 73 y ∨ ∃ r t q : Int, yAl d2 d3 d4 d5 d6 l r t q ∧ y = yTg d2 d4 d5 r t q ∧ z 73 y = d7 + yMx (r + d2 + d3 + 3 * t + 2 * q - h)) ∧ ∀ r t q : Int, yAl d2 d3 d4 d5 d6 l r t q → z 73 (yTg d2 d4 d5 r t q) ≤ d7 + yMx (r + d2 + d3 + 3 * t + 2 * q - h)) (bX11_step_151 rec3 d1 d2 d3 d4 d5 d6 d7 d8 d9 q z3) := by
      intro q3 nk
      unfold bX11_step_151
      refine gHo_l32 (by omega) (by omega) (ih3 _ _ _ _ _ _ _ _ _ _ _ ⟨rfl, rfl, rfl, rfl, rfl, rfl, rfl, rfl, rfl, by omega, by omega, mono d8 d9 q _ _ _ z3 hz3 (fun r' t' q' h1 h2 => ?_)⟩ (by omega))
      by_cases e : r' = d8 ∧ t' = d9 ∧ q' = q
      · obtain ⟨rfl, rfl, rfl⟩ := e; exact absurd h2 nk
      · omega
    unfold bX11_step_43
    refine gHo_if (fun e5 => out3 (fun q' k => by have := k.2.2.2.1; omega)) (fun e5 => ?_)
    refine gHo_l32 (by omega) (by omega) (gHo_if (fun e6 => out3 (fun q' k => by have := k.2.2.2.2.2.1; omega)) (fun e6 => ?_))
    refine gHo_l32 (by omega) (by omega) (gHo_l32 (by omega) (by omega) (gHo_l32 (by omega) (by omega) (gHo_l32 (by omega) (by omega) (gHo_l32 (by omega) (by omega) (gHo_l32 (by omega) (by omega) (gHo_gd ⟨x0.1, by omega⟩ (gHo_let ?_)))))))
    rw [e69, hl.1]
    refine gHo_l32 (by omega) (by omega) (gHo_if (fun e7 => skip (by omega) (fun k => by have := k.2.2.2.2.2.2; omega)) (fun e7 => ?_))
    have al : yAl d2 d3 d4 d5 d6 l d8 d9 q := ⟨r0, by omega, by omega, by omega, by omega, by omega, by omega⟩
    have take : ∀ v : Int, v = yMx (d8 + d2 + d3 + 3 * d9 + 2 * q - h) → jHo (fun _ z => (∀ y : Int, y ≠ 73 → z y = s y) ∧ (∀ y : Int, z 73 y ≤ s 73 y) ∧ (∀ y : Int, z 73 y = s 73 y ∨ ∃ r t q : Int, yAl d2 d3 d4 d5 d6 l r t q ∧ y = yTg d2 d4 d5 r t q ∧ z 73 y = d7 + yMx (r + d2 + d3 + 3 * t + 2 * q - h)) ∧ ∀ r t q : Int, yAl d2 d3 d4 d5 d6 l r t q → z 73 (yTg d2 d4 d5 r t q) ≤ d7 + yMx (r + d2 + d3 + 3 * t + 2 * q - h)) (bX11_step_113 (bX11_step_151 rec3) d1 d2 d3 d4 d5 d6 d7 d8 d9 q v z3) := by
      intro v hv
      have vb : 0 ≤ v ∧ v ≤ 4 := by
        rw [hv]; unfold yMx; split <;> omega
      unfold bX11_step_113
      refine gHo_l32 (by omega) (by omega) (gHo_l32 (by omega) (by omega) (gHo_l32 (by omega) (by omega) (gHo_l32 (by omega) (by omega) (gHo_l32 (by omega) (by omega) (gHo_l32 (by omega) (by omega) (gHo_l32 (by omega) (by omega) (gHo_l32 (by omega) (by omega) (gHo_l32 (by omega) (by omega) (gHo_l32 (by omega) (by omega) ?_)))))))))
      have et : 50 * d8 + 10 * d2 + 2 * (d4 + d8 + d9) + d5 + q = yTg d2 d4 d5 d8 d9 q := by unfold yTg; omega
      rw [et]
      have tb : 0 ≤ yTg d2 d4 d5 d8 d9 q ∧ yTg d2 d4 d5 d8 d9 q < 250 := by unfold yTg; omega
      -- the better one
      have bet : jHo (fun _ z' => (∀ y : Int, y ≠ 73 → z' y = z3 y) ∧ ∀ y : Int, z' 73 y = if y = yTg d2 d4 d5 d8 d9 q then (if d7 + v < z3 73 y then d7 + v else z3 73 y) else z3 73 y) (fX11_better (yTg d2 d4 d5 d8 d9 q) (d7 + v) z3) := by
        unfold fX11_better
        refine gHo_gd ⟨tb.1, by omega⟩ (gHo_let (gHo_if (fun e8 => ?_) (fun e8 => ?_)))
        · refine gHo_gd ⟨tb.1, by omega⟩ (gHo_let (gHo_gd ⟨tb.1, by omega⟩ (gHo_nm fun z' hz' => gHo_ret ⟨fun y hy => by rw [hz', jU_row hy], fun y => ?_⟩)))
          rw [hz', jU_at]
          by_cases ey : y = yTg d2 d4 d5 d8 d9 q
          · rw [if_pos ey, if_pos ey, ey, if_neg (by omega)]
          · rw [if_neg ey, if_neg ey]
        · refine gHo_gd ⟨tb.1, by omega⟩ (gHo_nm fun z' hz' => gHo_ret ⟨fun y hy => by rw [hz', jU_row hy], fun y => ?_⟩)
          rw [hz', jU_at]
          by_cases ey : y = yTg d2 d4 d5 d8 d9 q
          · rw [if_pos ey, if_pos ey, ey, if_pos (by omega)]
          · rw [if_neg ey, if_neg ey]
      refine gHo_bd bet (fun _ z' hz' => ?_)
      obtain ⟨n1, n2⟩ := hz'
      unfold bX11_step_151
      refine gHo_l32 (by omega) (by omega) (ih3 _ _ _ _ _ _ _ _ _ _ _ ⟨rfl, rfl, rfl, rfl, rfl, rfl, rfl, rfl, rfl, by omega, by omega, ?_⟩ (by omega))
      rw [hIv]
      have le : ∀ y : Int, z' 73 y ≤ z3 73 y := fun y => by
        rw [n2]
        split
        · split <;> omega
        · omega
      refine ⟨fun y hy => (n1 y hy).trans (j1 y hy), fun y => Int.le_trans (le y) (j2 y), fun y => ?_, fun r' t' q' h1 h2 => ?_⟩
      · rw [n2]
        by_cases ey : y = yTg d2 d4 d5 d8 d9 q
        · rw [if_pos ey]
          by_cases e8 : d7 + v < z3 73 y
          · rw [if_pos e8]
            exact Or.inr ⟨d8, d9, q, al, ey, by rw [hv]⟩
          · rw [if_neg e8]; exact j3 y
        · rw [if_neg ey]; exact j3 y
      · by_cases e : r' = d8 ∧ t' = d9 ∧ q' = q
        · obtain ⟨rfl, rfl, rfl⟩ := e
          rw [n2, if_pos rfl, ← hv]
          split <;> omega
        · exact Int.le_trans (le _) (j4 r' t' q' (by omega) h2)
    refine gHo_gd ⟨x0.1, by omega⟩ (gHo_let ?_)
    rw [e68, hh.1]
    refine gHo_if (fun e8 => ?_) (fun e8 => ?_)
    · exact take 0 (by unfold yMx; rw [if_neg (by omega)])
    · refine gHo_gd ⟨x0.1, by omega⟩ (gHo_let ?_)
      refine gHo_l32 (by omega) (by omega) (take _ ?_)
      unfold yMx
      rw [if_pos (by omega)]; omega
  · rw [hIv]
    exact ⟨fun _ _ => rfl, fun y => Int.le_refl _, fun y => Or.inl rfl, fun r' t' q' h1 h2 => by
      obtain ⟨k1, k2, k3, k4, -⟩ := h2
      omega⟩
/-- the least of a set, or 99 -/
def yLE (v : Int) (S : Int → Prop) : Prop := v ≤ 99 ∧ (v < 99 → S v) ∧ ∀ c, S c → v ≤ c
theorem yLE_cg {v : Int} {S T : Int → Prop} (h : ∀ c, S c ↔ T c) (k : yLE v S) : yLE v T := ⟨k.1, fun z => (h v).mp (k.2.1 z), fun c hc => k.2.2 c ((h c).mpr hc)⟩
/-- the states' table behind i places -/
def yTbR (H L : Int → Int) (r : Int) (i : Nat) (T : Int → Int) : Prop := ∀ a b g p : Int, 0 ≤ a → a ≤ 4 → 0 ≤ b → b ≤ 4 → 0 ≤ g → g ≤ 4 → 0 ≤ p → p ≤ 1 → yLE (T (50 * a + 10 * b + 2 * g + p)) (fun c => ∃ n, yRP L r 4 i a b g p n ∧ c = yCo H r n i)
theorem zX11_move {s : jMem} : jHo (fun _ t => (∀ x : Int, x ≠ 72 → x ≠ 73 → t x = s x) ∧ ∀ k : Int, 0 ≤ k → k < 250 → t 72 k = s 73 k ∧ t 73 k = 99) (fX11_move s) := by
  obtain ⟨u1, u2, u3, u4, u5, u6, u7, u8, u9, u10, u11, u12, u13, u14, u15, u16, u17, u18, u19, u20, u21, u22⟩ := jik_m
  unfold fX11_move
  refine gIt2 (fun k t => 0 ≤ k ∧ k ≤ 250 ∧ (∀ x : Int, x ≠ 72 → x ≠ 73 → t x = s x) ∧ (∀ j : Int, 0 ≤ j → j < k → t 72 j = s 73 j ∧ t 73 j = 99) ∧ ∀ j : Int, k ≤ j → t 73 j = s 73 j) (fun k => (250 - k).toNat) ?_ 1000 0 s ⟨by omega, by omega, fun _ _ _ => rfl, fun j a b => by omega, fun _ _ => rfl⟩ (by decide)
  rintro rec k t ⟨k0, k1, fr, lo, hi⟩ ih
  unfold bX11_move_2
  refine gHo_if (fun e => gHo_ret ⟨fr, fun j a b => lo j a (by omega)⟩) (fun e => ?_)
  refine gHo_gd ⟨k0, by omega⟩ (gHo_let (gHo_gd ⟨k0, by omega⟩ (gHo_nm fun t1 h1 => gHo_gd ⟨k0, by omega⟩ (gHo_nm fun t2 h2 => gHo_l32 (by omega) (by omega) (ih _ _ ⟨by omega, by omega, fun x x1 x2 => ?_, fun j a b => ?_, fun j a => ?_⟩ (by omega))))))
  · rw [h2, jU_row x2, h1, jU_row x1]; exact fr x x1 x2
  · rw [h2, jU_row (r' := 72) (by decide), jU_at, h1, jU_at, jU_row (r' := 73) (by decide)]
    by_cases e2 : j = k
    · subst e2; rw [if_pos rfl, if_pos rfl]; exact ⟨hi j (Int.le_refl j), rfl⟩
    · rw [if_neg e2, if_neg e2]; exact lo j a (by omega)
  · rw [h2, jU_at, if_neg (by omega), h1, jU_row (by decide)]; exact hi j (by omega)
theorem jdiv_c {x y : Int} (hx : 0 ≤ x ∧ x < 1000) (hy : 0 < y ∧ y < 1000) : jdiv x y = x / y := jdiv_nn ⟨hx.1, by omega⟩ ⟨hy.1, by omega⟩
theorem jrem_c {x y : Int} (hx : 0 ≤ x ∧ x < 1000) (hy : 0 < y ∧ y < 1000) : jrem x y = x % y := jrem_nn ⟨hx.1, by omega⟩ ⟨hy.1, by omega⟩
/-- a place more -/
theorem yTbR_s {H L : Int → Int} {r m : Int} {i : Nat} {T U : Int → Int} (hm : m = if r < 3 ∧ i < 7 then 4 else 0) (hH : ∀ j : Nat, j < i → 0 ≤ H (9 * r + j)) (hT : yTbR H L r i T) (h99 : ∀ k : Int, 0 ≤ k → k < 250 → U k ≤ 99) (hB : ∀ y : Int, 0 ≤ y → y < 250 → U y = 99 ∨ ∃ k : Int, 0 ≤ k ∧ k < 250 ∧ T k < 99 ∧ ∃ x t q : Int, yAl (k / 50) (k / 10 % 5) (k / 2 % 5) (k % 2) m (L (9 * r + i)) x t q ∧ y = yTg (k / 50) (k / 2 % 5) (k % 2) x t q ∧ U y = T k + yMx (x + k / 50 + k / 10 % 5 + 3 * t + 2 * q - H (9 * r + i))) (hC : ∀ k : Int, 0 ≤ k → k < 250 → T k < 99 → ∀ x t q : Int, yAl (k / 50) (k / 10 % 5) (k / 2 % 5) (k % 2) m (L (9 * r + i)) x t q → U (yTg (k / 50) (k / 2 % 5) (k % 2) x t q) ≤ T k + yMx (x + k / 50 + k / 10 % 5 + 3 * t + 2 * q - H (9 * r + i))) : yTbR H L r (i + 1) U := by
  intro a b g p a0 a4 b0 b4 g0 g4 p0 p1
  have mb : 0 ≤ m ∧ m ≤ 4 := by rw [hm]; split <;> omega
  refine ⟨h99 _ (by omega) (by omega), fun hlt => ?_, ?_⟩
  · rcases hB (50 * a + 10 * b + 2 * g + p) (by omega) (by omega) with e | ⟨k, k0, k1, k2, x, t, q, al, ey, ev⟩
    · omega
    · obtain ⟨al1, al2, al3, al4, al5, al6, al7⟩ := al
      unfold yTg at ey
      have d1 : x = a := by omega
      have d2 : k / 50 = b := by omega
      have d3 : k / 2 % 5 + x + t = g := by omega
      have d4 : k % 2 + q = p := by omega
      have hk := hT (k / 50) (k / 10 % 5) (k / 2 % 5) (k % 2) (by omega) (by omega) (by omega) (by omega) (by omega) (by omega) (by omega) (by omega)
      rw [show 50 * (k / 50) + 10 * (k / 10 % 5) + 2 * (k / 2 % 5) + k % 2 = k by omega] at hk
      obtain ⟨n, hn, hc⟩ := hk.2.1 k2
      have on := yRP_on (a := x) (t := t) (q := q) hn ⟨al1, by rw [← hm]; exact al2⟩ al3 al4 (by omega) (by omega) (by omega)
      refine ⟨yUp n (9 * r + i) (x + k / 50 + k / 10 % 5 + 3 * t + 2 * q), ?_, ?_⟩
      · rw [← d1, ← d2, ← d3, ← d4]; exact on
      · rw [yCo_on, ev, hc]
  · rintro c ⟨n, ⟨c', t, q, h1, h2, h3, h4, h5, h6, h7, h8, h9⟩, rfl⟩
    obtain ⟨bd1, bd2, bd3, bd4, bd5, bd6⟩ := yRP_bd (by decide) _ _ _ _ _ n h1
    have cb := yCo_bd (H := H) (by decide) hH h1
    have hk := (hT b c' (g - a - t) (p - q) b0 b4 bd2.1 bd2.2 (by omega) (by omega) (by omega) (by omega)).2.2 _ ⟨n, h1, rfl⟩
    obtain ⟨k, hkd⟩ : ∃ k, k = 50 * b + 10 * c' + 2 * (g - a - t) + (p - q) := ⟨_, rfl⟩
    rw [← hkd] at hk
    have e1 : k / 50 = b := by omega
    have e2 : k / 10 % 5 = c' := by omega
    have e3 : k / 2 % 5 = g - a - t := by omega
    have e4 : k % 2 = p - q := by omega
    have := hC k (by omega) (by omega) (by omega) a t q ⟨h2, by rw [hm]; exact h3, h4, h5, by omega, by omega, by rw [e1, e2]; omega⟩
    rw [e1, e2, e3, e4] at this
    rw [show yTg b (g - a - t) (p - q) a t q = 50 * a + 10 * b + 2 * g + p by unfold yTg; omega] at this
    rw [yCo_s, h8]
    have e5 : a + b + c' + 3 * t + 2 * q - H (9 * r + ↑i) = a + b + c' + 3 * t + 2 * q - H (9 * r + i) := rfl
    omega
theorem zX11_layLacks {s : jMem} {r : Int} (r0 : 0 ≤ r) (r4 : r < 4) (hb : ∀ q : Int, 0 ≤ q → q < 34 → 0 ≤ s 68 q ∧ s 68 q ≤ 100 ∧ 0 ≤ s 69 q ∧ s 69 q ≤ 100) : jHo (fun _ t => (∀ x : Int, x ≠ 72 → x ≠ 73 → x ≠ 74 → t x = s x) ∧ (∀ y : Int, ¬ (10 * r ≤ y ∧ y < 10 * r + 10) → t 74 y = s 74 y) ∧ ∀ g p : Int, 0 ≤ g → g ≤ 4 → 0 ≤ p → p ≤ 1 → yLE (t 74 (10 * r + 2 * g + p)) (fun c => ∃ n, yRw (s 69) r 4 g p n ∧ c = yCo (s 68) r n (yLn r))) (fX11_layLacks r s) := by
  obtain ⟨u1, u2, u3, u4, u5, u6, u7, u8, u9, u10, u11, u12, u13, u14, u15, u16, u17, u18, u19, u20, u21, u22⟩ := jik_m
  have lnb : yLn r = (if r < 3 then 9 else 7) := rfl
  have inr : ∀ j : Nat, j < yLn r → 0 ≤ 9 * r + (j : Int) ∧ 9 * r + (j : Int) < 34 := fun j hj => by
    unfold yLn at hj
    split at hj <;> omega
  unfold fX11_layLacks
  refine gIt3 (fun a1 k t => a1 = r ∧ 0 ≤ k ∧ k ≤ 250 ∧ (∀ x : Int, x ≠ 73 → t x = s x) ∧ ∀ j : Int, 0 ≤ j → j < k → t 73 j = 99) (fun _ k => (250 - k).toNat) ?_ 1000 r 0 s ⟨rfl, by omega, by omega, fun _ _ => rfl, fun j a b => by omega⟩ (by decide)
  rintro rec a1 k t ⟨rfl, k0, k1, fr, lo⟩ ih
  unfold bX11_layLacks_2
  refine gHo_if (fun e => ?_) (fun e => ?_)
  · have e250 : k = 250 := by omega
    subst e250
    unfold bX11_layLacks_23
    refine gHo_gd ⟨by omega, by omega⟩ (gHo_nm fun t1 h1 => gHo_bd zX11_move (fun _ t2 h2 => ?_))
    obtain ⟨m1, m2⟩ := h2
    have f2 : ∀ x : Int, x ≠ 72 → x ≠ 73 → t2 x = s x := fun x x1 x2 => by rw [m1 x x1 x2, h1, jU_row x2]; exact fr x x2
    have tab0 : yTbR (s 68) (s 69) a1 0 (t2 72) := by
      intro a b g p a0 a4 b0 b4 g0 g4 p0 p1
      have v := (m2 (50 * a + 10 * b + 2 * g + p) (by omega) (by omega)).1
      rw [h1, jU_at] at v
      by_cases z : a = 0 ∧ b = 0 ∧ g = 0 ∧ p = 0
      · rw [if_pos (by omega)] at v
        rw [v]
        exact ⟨by omega, fun _ => ⟨fun _ => 0, z, rfl⟩, fun c ⟨n, _, hc⟩ => by rw [hc]; exact Int.le_refl 0⟩
      · rw [if_neg (by omega), lo _ (by omega) (by omega)] at v
        rw [v]
        exact ⟨by omega, fun y => by omega, fun c ⟨n, hn, _⟩ => absurd hn z⟩
    -- place by place
    have go : ∀ wd : Int, wd = (yLn a1 : Int) → jHo (fun _ t => (∀ x : Int, x ≠ 72 → x ≠ 73 → x ≠ 74 → t x = s x) ∧ (∀ y : Int, ¬ (10 * a1 ≤ y ∧ y < 10 * a1 + 10) → t 74 y = s 74 y) ∧ ∀ g p : Int, 0 ≤ g → g ≤ 4 → 0 ≤ p → p ≤ 1 → yLE (t 74 (10 * a1 + 2 * g + p)) (fun c => ∃ n, yRw (s 69) a1 4 g p n ∧ c = yCo (s 68) a1 n (yLn a1))) (bX11_layLacks_46 a1 wd t2) := by
      intro wd hwd
      have l9 : yLn a1 ≤ 9 := by unfold yLn; split <;> omega
      unfold bX11_layLacks_46
      refine gIt4 (fun b1 b2 b3 z => b1 = a1 ∧ b2 = wd ∧ ∃ i : Nat, b3 = i ∧ i ≤ yLn a1 ∧ (∀ x : Int, x ≠ 72 → x ≠ 73 → z x = s x) ∧ (∀ j : Int, 0 ≤ j → j < 250 → z 73 j = 99) ∧ yTbR (s 68) (s 69) a1 i (z 72)) (fun _ _ b3 => (9 - b3).toNat) ?_ 1000 a1 wd 0 t2 ⟨rfl, rfl, 0, rfl, by omega, f2, fun j a b => (m2 j a b).2, tab0⟩ (by decide)
      rintro rec2 b1 b2 b3 z ⟨rfl, rfl, i, rfl, hi, fz, h99, hT⟩ ih2
      unfold bX11_layLacks_49
      refine gHo_if (fun e2 => ?_) (fun e2 => ?_)
      · have ei : i = yLn b1 := by omega
        rw [ei] at hT
        -- the lanes go over
        unfold bX11_layLacks_152
        refine gIt3 (fun c1 g y => c1 = b1 ∧ 0 ≤ g ∧ g ≤ 5 ∧ (∀ x : Int, x ≠ 74 → y x = z x) ∧ ∀ j : Int, y 74 j = if 10 * b1 ≤ j ∧ j < 10 * b1 + 2 * g then z 72 (j - 10 * b1) else z 74 j) (fun _ g => (5 - g).toNat) ?_ 1000 b1 0 z ⟨rfl, by omega, by omega, fun _ _ => rfl, fun j => by rw [if_neg (by omega)]⟩ (by decide)
        rintro rec3 c1 g y ⟨rfl, g0, g5, fy, hy⟩ ih3
        unfold bX11_layLacks_154
        refine gHo_if (fun e3 => ?_) (fun e3 => ?_)
        · have eg : g = 5 := by omega
          subst eg
          refine gHo_ret ⟨fun x x1 x2 x3 => by rw [fy x x3]; exact fz x x1 x2, fun j hj => by rw [hy, if_neg (by omega), fz 74 (by decide) (by decide)], fun g p g0 g4 p0 p1 => ?_⟩
          rw [hy, if_pos (by omega), show 10 * c1 + 2 * g + p - 10 * c1 = 50 * 0 + 10 * 0 + 2 * g + p by omega]
          exact hT 0 0 g p (by omega) (by omega) (by omega) (by omega) g0 g4 p0 p1
        · refine gIt4 (fun d1 d2 p w => d1 = c1 ∧ d2 = g ∧ 0 ≤ p ∧ p ≤ 2 ∧ (∀ x : Int, x ≠ 74 → w x = z x) ∧ ∀ j : Int, w 74 j = if 10 * c1 ≤ j ∧ j < 10 * c1 + 2 * g + p then z 72 (j - 10 * c1) else z 74 j) (fun _ _ p => (2 - p).toNat) ?_ 1000 c1 g 0 y ⟨rfl, rfl, by omega, by omega, fy, fun j => by rw [hy, show 10 * c1 + 2 * g + 0 = 10 * c1 + 2 * g by omega]⟩ (by decide)
          rintro rec4 d1 d2 p w ⟨rfl, rfl, p0, p2, fw, hw⟩ ih4
          unfold bX11_layLacks_162
          refine gHo_if (fun e4 => ?_) (fun e4 => ?_)
          · have ep : p = 2 := by omega
            subst ep
            unfold bX11_layLacks_201
            exact gHo_l32 (by omega) (by omega) (ih3 _ _ _ ⟨rfl, by omega, by omega, fw, fun j => by rw [hw, show 10 * d1 + 2 * d2 + 2 = 10 * d1 + 2 * (d2 + 1) by omega]⟩ (by omega))
          · refine gHo_l32 (by omega) (by omega) (gHo_l32 (by omega) (by omega) (gHo_l32 (by omega) (by omega) (gHo_l32 (by omega) (by omega) (gHo_l32 (by omega) (by omega) (gHo_l32 (by omega) (by omega) (gHo_gd ⟨by omega, by omega⟩ (gHo_let (gHo_gd ⟨by omega, by omega⟩ (gHo_nm fun w' hw' => gHo_l32 (by omega) (by omega) (ih4 _ _ _ _ ⟨rfl, rfl, by omega, by omega, fun x hx => by rw [hw', jU_row hx]; exact fw x hx, fun j => ?_⟩ (by omega)))))))))))
            rw [hw', jU_at, fw 72 (by decide)]
            by_cases ej : j = 10 * d1 + 2 * d2 + p
            · rw [if_pos ej, if_pos (by omega)]; congr 1; omega
            · rw [if_neg ej, hw]
              by_cases ek : 10 * d1 ≤ j ∧ j < 10 * d1 + 2 * d2 + p
              · rw [if_pos ek, if_pos (by omega)]
              · rw [if_neg ek, if_neg (by omega)]
      · have hi' : i < yLn b1 := by omega
        have xr := inr i hi'
        have z68 := fz 68 (by decide) (by decide)
        have z69 := fz 69 (by decide) (by decide)
        have hbx := hb (9 * b1 + i) xr.1 xr.2
        have states : ∀ m : Int, m = (if b1 < 3 ∧ i < 7 then 4 else 0) → jHo (fun _ t => (∀ x : Int, x ≠ 72 → x ≠ 73 → x ≠ 74 → t x = s x) ∧ (∀ y : Int, ¬ (10 * b1 ≤ y ∧ y < 10 * b1 + 10) → t 74 y = s 74 y) ∧ ∀ g p : Int, 0 ≤ g → g ≤ 4 → 0 ≤ p → p ≤ 1 → yLE (t 74 (10 * b1 + 2 * g + p)) (fun c => ∃ n, yRw (s 69) b1 4 g p n ∧ c = yCo (s 68) b1 n (yLn b1))) (bX11_layLacks_70 rec2 b1 b2 i m z) := by
          intro m hm
          have mb : 0 ≤ m ∧ m ≤ 4 := by rw [hm]; split <;> omega
          unfold bX11_layLacks_70
          refine gIt6 (fun c1 c2 c3 c4 k w => c1 = b1 ∧ c2 = b2 ∧ c3 = i ∧ c4 = m ∧ 0 ≤ k ∧ k ≤ 250 ∧ (∀ x : Int, x ≠ 73 → w x = z x) ∧ (∀ y : Int, 0 ≤ y → y < 250 → w 73 y ≤ 99) ∧ (∀ y : Int, 0 ≤ y → y < 250 → w 73 y = 99 ∨ ∃ k : Int, 0 ≤ k ∧ k < 250 ∧ z 72 k < 99 ∧ ∃ x t q : Int, yAl (k / 50) (k / 10 % 5) (k / 2 % 5) (k % 2) m (s 69 (9 * b1 + i)) x t q ∧ y = yTg (k / 50) (k / 2 % 5) (k % 2) x t q ∧ w 73 y = z 72 k + yMx (x + k / 50 + k / 10 % 5 + 3 * t + 2 * q - s 68 (9 * b1 + i))) ∧ ∀ j : Int, 0 ≤ j → j < k → z 72 j < 99 → ∀ x t q : Int, yAl (j / 50) (j / 10 % 5) (j / 2 % 5) (j % 2) m (s 69 (9 * b1 + i)) x t q → w 73 (yTg (j / 50) (j / 2 % 5) (j % 2) x t q) ≤ z 72 j + yMx (x + j / 50 + j / 10 % 5 + 3 * t + 2 * q - s 68 (9 * b1 + i))) (fun _ _ _ _ k => (250 - k).toNat) ?_ 1000 b1 b2 i m 0 z ⟨rfl, rfl, rfl, rfl, by omega, by omega, fun _ _ => rfl, fun y y0 y1 => by rw [h99 y y0 y1]; omega, fun y y0 y1 => Or.inl (h99 y y0 y1), fun j j0 j1 => by omega⟩ (by decide)
          rintro rec3 c1 c2 c3 c4 k w ⟨rfl, rfl, rfl, rfl, k0, k1, fw, w99, wB, wC⟩ ih3
          unfold bX11_layLacks_75
          refine gHo_if (fun e3 => ?_) (fun e3 => ?_)
          · have ek : k = 250 := by omega
            subst ek
            unfold bX11_layLacks_142
            refine gHo_bd zX11_move (fun _ w2 hw2 => ?_)
            obtain ⟨n1, n2⟩ := hw2
            refine gHo_l32 (by omega) (by omega) (ih2 _ _ _ _ ⟨rfl, rfl, i + 1, by omega, by omega, fun x x1 x2 => by rw [n1 x x1 x2, fw x x2]; exact fz x x1 x2, fun j a b => (n2 j a b).2, ?_⟩ (by omega))
            have tb := yTbR_s (U := w 73) hm (fun j hj => by have := inr j (by omega); exact (hb _ this.1 this.2).1) hT w99 wB wC
            intro a b g p a0 a4 b0 b4 g0 g4 p0 p1
            rw [(n2 _ (by omega) (by omega)).1]
            exact tb a b g p a0 a4 b0 b4 g0 g4 p0 p1
          · have w72 := fw 72 (by decide)
            have next : ∀ w2 : jMem, (∀ x : Int, x ≠ 73 → w2 x = z x) → (∀ y : Int, 0 ≤ y → y < 250 → w2 73 y ≤ w 73 y) → (∀ y : Int, 0 ≤ y → y < 250 → w2 73 y = w 73 y ∨ ∃ k : Int, 0 ≤ k ∧ k < 250 ∧ z 72 k < 99 ∧ ∃ x t q : Int, yAl (k / 50) (k / 10 % 5) (k / 2 % 5) (k % 2) c4 (s 69 (9 * c1 + i)) x t q ∧ y = yTg (k / 50) (k / 2 % 5) (k % 2) x t q ∧ w2 73 y = z 72 k + yMx (x + k / 50 + k / 10 % 5 + 3 * t + 2 * q - s 68 (9 * c1 + i))) → (z 72 k < 99 → ∀ x t q : Int, yAl (k / 50) (k / 10 % 5) (k / 2 % 5) (k % 2) c4 (s 69 (9 * c1 + i)) x t q → w2 73 (yTg (k / 50) (k / 2 % 5) (k % 2) x t q) ≤ z 72 k + yMx (x + k / 50 + k / 10 % 5 + 3 * t + 2 * q - s 68 (9 * c1 + i))) → jHo (fun _ t => (∀ x : Int, x ≠ 72 → x ≠ 73 → x ≠ 74 → t x = s x) ∧ (∀ y : Int, ¬ (10 * c1 ≤ y ∧ y < 10 * c1 + 10) → t 74 y = s 74 y) ∧ ∀ g p : Int, 0 ≤ g → g ≤ 4 → 0 ≤ p → p ≤ 1 → yLE (t 74 (10 * c1 + 2 * g + p)) (fun c => ∃ n, yRw (s 69) c1 4 g p n ∧ c = yCo (s 68) c1 n (yLn c1))) (bX11_layLacks_136 rec3 c1 c2 i c4 k w2) := by
              intro w2 g1 g2 g3 g4
              unfold bX11_layLacks_136
              refine gHo_l32 (by omega) (by omega) (ih3 _ _ _ _ _ _ ⟨rfl, rfl, rfl, rfl, by omega, by omega, g1, fun y y0 y1 => Int.le_trans (g2 y y0 y1) (w99 y y0 y1), fun y y0 y1 => ?_, fun j j0 j1 hlt x t q al => ?_⟩ (by omega))
              · rcases g3 y y0 y1 with h | h
                · rw [h]; exact wB y y0 y1
                · exact Or.inr h
              · by_cases ej : j = k
                · subst ej; exact g4 hlt x t q al
                · have tb : 0 ≤ yTg (j / 50) (j / 2 % 5) (j % 2) x t q ∧ yTg (j / 50) (j / 2 % 5) (j % 2) x t q < 250 := by
                    obtain ⟨a1, a2, a3, a4, a5, a6, a7⟩ := al
                    unfold yTg; omega
                  exact Int.le_trans (g2 _ tb.1 tb.2) (wC j j0 (by omega) hlt x t q al)
            refine gHo_gd ⟨k0, by omega⟩ (gHo_let ?_)
            rw [w72]
            refine gHo_if (fun e4 => next w fw (fun _ _ _ => Int.le_refl _) (fun _ _ _ => Or.inl rfl) (fun z => by omega)) (fun e4 => ?_)
            have T0 : 0 ≤ z 72 k := by
              have hk := hT (k / 50) (k / 10 % 5) (k / 2 % 5) (k % 2) (by omega) (by omega) (by omega) (by omega) (by omega) (by omega) (by omega) (by omega)
              rw [show 50 * (k / 50) + 10 * (k / 10 % 5) + 2 * (k / 2 % 5) + k % 2 = k by omega] at hk
              obtain ⟨n, hn, hc⟩ := hk.2.1 (by omega)
              rw [hc]
              have ge := jSum_le (f := fun _ => 0) (g := fun j => yMx (n (9 * c1 + j) - s 68 (9 * c1 + j))) (n := i) (fun j hj => yMx_bd.1)
              rw [jSum_0] at ge
              exact ge
            refine gHo_l32 (by omega) (by omega) (gHo_l32 (by omega) (by omega) (gHo_gd (by decide) (gHo_let (gHo_gd (by decide) (gHo_let (gHo_gd (by decide) (gHo_let (gHo_gd (by decide) (gHo_let (gHo_gd (by decide) (gHo_let (gHo_gd (by decide) (gHo_let (gHo_gd ⟨k0, by omega⟩ (gHo_let ?_)))))))))))))))
            rw [jdiv_c (y := 50) ⟨k0, by omega⟩ ⟨by decide, by decide⟩, jdiv_c (y := 10) ⟨k0, by omega⟩ ⟨by decide, by decide⟩, jrem_c (x := k / 10) (y := 5) ⟨by omega, by omega⟩ ⟨by decide, by decide⟩, jdiv_c (y := 2) ⟨k0, by omega⟩ ⟨by decide, by decide⟩, jrem_c (x := k / 2) (y := 5) ⟨by omega, by omega⟩ ⟨by decide, by decide⟩, jrem_c (y := 2) ⟨k0, by omega⟩ ⟨by decide, by decide⟩]
            refine gHo_bd (zX11_step (x := 9 * c1 + i) (h := s 68 (9 * c1 + i)) (l := s 69 (9 * c1 + i)) xr (by omega) (by omega) (by omega) (by omega) mb (by omega) ⟨by rw [fw 68 (by decide), z68], hbx.1, hbx.2.1⟩ ⟨by rw [fw 69 (by decide), z69], hbx.2.2.1, hbx.2.2.2⟩) (fun _ w2 hw2 => ?_)
            obtain ⟨s1, s2, s3, s4⟩ := hw2
            refine next w2 (fun x hx => by rw [s1 x hx]; exact fw x hx) (fun y _ _ => s2 y) (fun y y0 y1 => ?_) (fun _ => s4)
            rcases s3 y with h | h
            · exact Or.inl h
            · exact Or.inr ⟨k, k0, by omega, by omega, h⟩
        refine gHo_if (fun e3 => ?_) (fun e3 => gHo_if (fun e4 => ?_) (fun e4 => ?_))
        · unfold bX11_layLacks_69
          exact states 0 (by rw [if_neg (by omega)])
        · unfold bX11_layLacks_69
          exact states 0 (by rw [if_neg (by omega)])
        · exact states 4 (by rw [if_pos (by omega)])
    refine gHo_if (fun e2 => go 7 ?_) (fun e2 => go 9 ?_)
    · unfold yLn; rw [if_neg (by omega)]; rfl
    · unfold yLn; rw [if_pos (by omega)]; rfl
  · refine gHo_gd ⟨k0, by omega⟩ (gHo_nm fun t1 h1 => gHo_l32 (by omega) (by omega) (ih _ _ _ ⟨rfl, by omega, by omega, fun x hx => by rw [h1, jU_row hx]; exact fr x hx, fun j a b => ?_⟩ (by omega)))
    rw [h1, jU_at]
    by_cases e2 : j = k
    · rw [if_pos e2]
    · rw [if_neg e2]; exact lo j a (by omega)
end

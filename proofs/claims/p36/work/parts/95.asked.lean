/-! ===== the second desk is asked ===== -/
section
theorem fC_v {s t : jMem} (h : fC s t) : t 53 = s 53 ∧ t 58 = s 58 ∧ (∀ g, vH t g = vH s g) ∧ (∀ g, vL t g = vL s g) ∧ (∀ g, tZ t g = tZ s g) ∧ ∀ g, yWn t g = yWn s g := by
  have e53 := h 53 (by decide) (by decide)
  have e58 := h 58 (by decide) (by decide)
  have e56 := h 56 (by decide) (by decide)
  have e57 := h 57 (by decide) (by decide)
  have eH : ∀ g, vH t g = vH s g := fun g => by funext q; unfold vH; rw [e56]
  refine ⟨e53, e58, eH, fun g => by funext q; unfold vL; rw [e57], fun g => by unfold tZ; rw [eH, e58], fun g => by unfold yWn; rw [e58]⟩
theorem yDone_nn {f7 f13 : Int} {w : Nat} {h : Int → Int} : 0 ≤ yDone f7 f13 w h := by
  unfold yDone
  split
  · decide
  · split
    · decide
    · split <;> decide
theorem cl_fC17 {s t : jMem} (h : ∀ x : Int, ¬ (17 ≤ x ∧ x ≤ 20) → t x = s x) (k : yCch s) : fC s t ∧ yCch t := ⟨fun x _ hx => h x (by omega), yCch_eq (h 14 (by decide)) (h 15 (by decide)) k⟩
/-- asked and answered as it should be: 1, and nothing that is seen has changed -/
theorem p_asked (x : Int) {s : jMem} (hJ : iJ s) : ∃ s1, fL_asked x s = some (1, s1) ∧ fC s s1 ∧ yCch s1 := by
  obtain ⟨g, hg⟩ : ∃ g, g = jand x 3 := ⟨_, rfl⟩
  have gb := jand_nn (x := x) (n := 3) (by decide) (by decide)
  rw [← hg] at gb
  obtain ⟨g0, g3⟩ := gb
  have g4 : g < 4 := by omega
  obtain ⟨hI, hF, hC, hS⟩ := iJ_T5 hJ
  obtain ⟨Q, hQ⟩ : ∃ Q : Int → jMem → Prop, Q = fun v t => v = 1 ∧ fC s t ∧ yCch t := ⟨_, rfl⟩
  obtain ⟨Z, hZ⟩ : ∃ Z, Z = tZ s g := ⟨_, rfl⟩
  obtain ⟨l, yl⟩ := yLack_ex (f7 := s 53 10) (f13 := s 53 11) (w := 4 - s 58 g) (H := vH s g) (L := vL s g)
  have lb := iT_lack hI g0 g4 yl
  obtain ⟨a1, a2, a3, a4, a5, a6⟩ := hI.2.1 g g0 g4
  -- a question, at a desk that has been asked before
  have qd : ∀ {t : jMem} {K : Int → jMem → jO}, fC s t → yCch t → (∀ t', fC s t' → yCch t' → ∀ v : Int, (13 ≤ Z → v = jmax l 1 - 1) → (¬ 13 ≤ Z → v = -2) → jHo Q (K v t')) → jHo Q (jBd (fX10_distance g t) K) := by
    intro t K f c k
    have hJt := iJ_q hJ f c
    obtain ⟨i1, i2, i3, -⟩ := iJ_T5 hJt
    obtain ⟨e53, e58, eH, eL, eZ, eW⟩ := fC_v f
    obtain ⟨v, t', e, f', c', k1, k2⟩ := cl_distance i1 i2 i3 g0 g4
    rw [e, jBd_s]
    refine k t' (fC_tr f f') c' v (fun z => ?_) (fun z => k2 (by rw [eZ, ← hZ]; exact z))
    obtain ⟨l', yl', rfl⟩ := k1 (by rw [eZ, ← hZ]; exact z)
    rw [e53, e58, eH, eL] at yl'
    rw [yLack_u yl' yl]
  have qdo : ∀ {t : jMem} {K : Int → jMem → jO}, fC s t → yCch t → (∀ t', fC s t' → yCch t' → jHo Q (K (if Z = 14 then yDone (s 53 10) (s 53 11) (yWn s g) (vH s g) else -2) t')) → jHo Q (jBd (fX10_done g t) K) := by
    intro t K f c k
    have hJt := iJ_q hJ f c
    obtain ⟨i1, i2, i3, -⟩ := iJ_T5 hJt
    obtain ⟨e53, e58, eH, eL, eZ, eW⟩ := fC_v f
    obtain ⟨v, t', e, f', rfl⟩ := cl_done i1 i2 g0 g4
    obtain ⟨f2, c2⟩ := cl_fC17 f' i3
    rw [e, jBd_s, e53, eZ, eW, eH, ← hZ]
    exact k t' (fC_tr f f2) c2
  have zero : l ≤ 1 → jmax l 1 - 1 = 0 := fun z => by unfold jmax; split <;> omega
  have q213 : ∀ {t : jMem}, fC s t → yCch t → jHo Q (bL_asked_213 g t) := by
    intro t f c
    unfold bL_asked_213
    rw [cl_alike (iJ_T5 (iJ_q hJ f c)).1 g0 g4, jBd_s, if_pos rfl]
    exact gHo_ret (by rw [hQ]; exact ⟨rfl, f, c⟩)
  have q187 : ∀ {t : jMem}, fC s t → yCch t → jHo Q (bL_asked_187 g Z t) := by
    intro t f c
    unfold bL_asked_187
    refine gHo_if (fun z => ?_) (fun _ => q213 f c)
    have hJt := iJ_q hJ f c
    obtain ⟨i1, i2, i3, -⟩ := iJ_T5 hJt
    obtain ⟨e53, e58, eH, eL, eZ, eW⟩ := fC_v f
    obtain ⟨v, t', e, f', c', k⟩ := cl_waits i1 i2 i3 g0 g4 (by rw [eZ, ← hZ]; exact z)
    rw [e, jBd_s]
    refine gHo_if (fun _ => q213 (fC_tr f f') c') (fun n => qd (fC_tr f f') c' (fun t2 f2 c2 d d1 _ => ?_))
    obtain ⟨l', yl', l1⟩ := k n
    rw [e53, e58, eH, eL] at yl'
    have el := yLack_u yl' yl
    rw [d1 (by omega), zero (by omega), if_pos rfl]
    exact q213 f2 c2
  have q157 : ∀ {t : jMem}, fC s t → yCch t → jHo Q (bL_asked_157 g Z 1 t) := by
    intro t f c
    unfold bL_asked_157
    rw [if_neg (by decide)]
    refine gHo_if (fun z => ?_) (fun _ => q187 f c)
    refine qdo f c (fun t2 f2 c2 => ?_)
    rw [if_pos z]
    refine gHo_if (fun _ => q187 f2 c2) (fun n => qd f2 c2 (fun t3 f3 c3 d d1 _ => ?_))
    obtain ⟨hf, hw⟩ := iH_full hI g0 g4 (by rw [hZ] at z; exact z)
    have dl := (yDone_lack hf (fun q q0 q4 => by
      have := a1 q q0 q4
      have := iT_bd hI g0 g4 q0 q4
      have := hI.1 q q0 q4
      have b0 := (hI.2.1 0 (by decide) (by decide)).1 q q0 q4
      have b1 := (hI.2.1 1 (by decide) (by decide)).1 q q0 q4
      have b2 := (hI.2.1 2 (by decide) (by decide)).1 q q0 q4
      have b3 := (hI.2.1 3 (by decide) (by decide)).1 q q0 q4
      rcases (by omega : g = 0 ∨ g = 1 ∨ g = 2 ∨ g = 3) with e | e | e | e <;> subst e <;> omega) (iT_room hI g0 g4) (by rw [← (show 4 - s 58 g = (yWn s g : Int) by rw [hw]; omega)]; exact yl)).2
    have nn := yDone_nn (f7 := s 53 10) (f13 := s 53 11) (w := yWn s g) (h := vH s g)
    have l0 : l = 0 := dl.mp (by omega)
    rw [d1 (by omega), zero (by omega), if_pos rfl]
    exact q187 f3 c3
  have q68 : ∀ {t : jMem} (v : Int), fC s t → yCch t → jHo Q (bL_asked_68 (bL_asked_156 bL_asked_157) bL_asked_157 g Z v v t) := by
    intro t v f c
    obtain ⟨r1, r2, r3, r4, r5, r6, r7⟩ := cl_refused (s := t)
    unfold bL_asked_68
    rw [if_pos rfl, cl_tiles34, jBd_s, if_pos rfl, r1, jBd_s, if_pos rfl, r2, jBd_s, if_pos rfl, r3, jBd_s, if_pos rfl, r4, jBd_s, if_pos rfl, r5, jBd_s, if_pos rfl, r6, jBd_s, if_pos rfl, r7, jBd_s, if_pos rfl]
    exact q157 f c
  have q46 : ∀ {t : jMem}, fC s t → yCch t → jHo Q (bL_asked_46 (bL_asked_156 bL_asked_157) bL_asked_157 g Z t) := by
    intro t f c
    unfold bL_asked_46
    refine qdo f c (fun t2 f2 c2 => ?_)
    refine gHo_if (fun z => qdo f2 c2 (fun t3 f3 c3 => q68 _ f3 c3)) (fun z => ?_)
    rw [if_neg z]
    exact q68 _ f2 c2
  have main : jHo Q (fL_asked x s) := by
    unfold fL_asked
    rw [jLet_e, ← hg]
    refine qd (fC_rf s) hC (fun t f c d d1 d2 => ?_)
    have it := (iJ_T5 (iJ_q hJ f c)).1
    obtain ⟨e53, e58, eH, eL, eZ, eW⟩ := fC_v f
    have ea := cl_about0 it g0 g4
    have eZ2 : jSum (vH t g) 34 + 3 * t 58 g = Z := by rw [hZ, ← eZ]; rfl
    rw [eZ2] at ea
    rw [ea, jBd_s]
    have pos : 0 ≤ jmax l 1 - 1 := by unfold jmax; split <;> omega
    refine gHo_if (fun z => ?_) (fun z => ?_)
    · have dd := d1 z
      unfold bL_asked_32
      rw [if_pos rfl, if_neg (by omega), if_neg (by omega)]
      exact q46 f c
    · rw [d2 z]
      unfold bL_asked_32
      rw [if_pos rfl, if_pos (by omega)]
      exact q46 f c
  obtain ⟨v, s1, e, h⟩ := main
  rw [hQ] at h
  obtain ⟨rfl, f, c⟩ := h
  exact ⟨s1, e, f, c⟩
end

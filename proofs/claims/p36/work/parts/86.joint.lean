/-! ===== the law's loop ===== -/
section
/-- all that holds between two calls -/
def iJ (s : jMem) : Prop := iR s ∧ iF s ∧ iS s ∧ iU s ∧ iT s ∧ yCch s
theorem iR_eq {s t : jMem} (h : ∀ x : Int, (25 ≤ x ∧ x < 37) ∨ x = 60 ∨ x = 61 ∨ x = 62 → t x = s x) (k : iR s) : iR t := by
  intro r r0 r6
  have a := k r r0 r6
  rw [h (25 + 2 * r) (Or.inl ⟨by omega, by omega⟩), h (26 + 2 * r) (Or.inl ⟨by omega, by omega⟩), h 60 (by omega), h 61 (by omega), h 62 (by omega)]
  exact a
theorem iF_eq {s t : jMem} (h : t 6 = s 6) (h1 : t 53 10 = s 53 10) (h2 : t 53 11 = s 53 11) (k : iF s) : iF t := by
  unfold iF at k ⊢
  rw [h, h1, h2]; exact k
theorem iS_eq {s t : jMem} (h : t 0 8 = s 0 8) (h1 : t 53 6 = s 53 6) (k : iS s) : iS t := by
  unfold iS at k ⊢
  rw [h, h1]; exact k
theorem iU_eq {s t : jMem} (h : t 21 3 = s 21 3) (h1 : t 53 12 = s 53 12) (h2 : ∀ x : Int, x = 22 ∨ x = 23 ∨ x = 24 ∨ x = 63 ∨ x = 64 ∨ x = 65 → t x = s x) (k : iU s) : iU t := by
  unfold iU at k ⊢
  rw [h, h1, h2 22 (by omega), h2 23 (by omega), h2 24 (by omega), h2 63 (by omega), h2 64 (by omega), h2 65 (by omega)]; exact k
theorem yCch_eq {s t : jMem} (h : t 14 = s 14) (h1 : t 15 = s 15) (k : yCch s) : yCch t := by
  intro x x0 x1
  rw [h, h1]; exact k x x0 x1
theorem iJ_R {s t : jMem} (h : iJ s) (k : iR t) (f : fR s t) : iJ t := by
  obtain ⟨h1, h2, h3, h4, h5, h6⟩ := h
  have g : ∀ x : Int, ¬ (25 ≤ x ∧ x < 37) → x ≠ 60 → x ≠ 61 → x ≠ 62 → x ≠ 66 → t x = s x := f
  have g53 := g 53 (by decide) (by decide) (by decide) (by decide) (by decide)
  refine ⟨k, iF_eq (g 6 (by decide) (by decide) (by decide) (by decide) (by decide)) (by rw [g53]) (by rw [g53]) h2, iS_eq (by rw [g 0 (by decide) (by decide) (by decide) (by decide) (by decide)]) (by rw [g53]) h3, iU_eq (by rw [g 21 (by decide) (by decide) (by decide) (by decide) (by decide)]) (by rw [g53]) (fun x hx => g x (by omega) (by omega) (by omega) (by omega) (by omega)) h4, iT_eq h5 (fun x hx => g x (by omega) (by omega) (by omega) (by omega) (by omega)), yCch_eq (g 14 (by decide) (by decide) (by decide) (by decide) (by decide)) (g 15 (by decide) (by decide) (by decide) (by decide) (by decide)) h6⟩
theorem iJ_F {s t : jMem} (h : iJ s) (k : iF t) (f : ∀ x y : Int, x ≠ 6 → (x ≠ 53 ∨ (y ≠ 10 ∧ y ≠ 11)) → t x y = s x y) : iJ t := by
  obtain ⟨h1, h2, h3, h4, h5, h6⟩ := h
  have g : ∀ x : Int, x ≠ 6 → x ≠ 53 → t x = s x := fun x a b => funext fun y => f x y a (Or.inl b)
  refine ⟨iR_eq (fun x hx => g x (by omega) (by omega)) h1, k, iS_eq (f 0 8 (by decide) (by omega)) (f 53 6 (by decide) (by omega)) h3, iU_eq (f 21 3 (by decide) (by omega)) (f 53 12 (by decide) (by omega)) (fun x hx => g x (by omega) (by omega)) h4, iT_eq h5 (fun x hx => g x (by omega) (by omega)), yCch_eq (g 14 (by decide) (by decide)) (g 15 (by decide) (by decide)) h6⟩
theorem iJ_S {s t : jMem} (h : iJ s) (k : iS t) (f : ∀ x y : Int, (x ≠ 0 ∨ y ≠ 8) → (x ≠ 53 ∨ y ≠ 6) → t x y = s x y) : iJ t := by
  obtain ⟨h1, h2, h3, h4, h5, h6⟩ := h
  have g : ∀ x : Int, x ≠ 0 → x ≠ 53 → t x = s x := fun x a b => funext fun y => f x y (Or.inl a) (Or.inl b)
  refine ⟨iR_eq (fun x hx => g x (by omega) (by omega)) h1, iF_eq (g 6 (by decide) (by decide)) (f 53 10 (by omega) (by omega)) (f 53 11 (by omega) (by omega)) h2, k, iU_eq (f 21 3 (by omega) (by omega)) (f 53 12 (by omega) (by omega)) (fun x hx => g x (by omega) (by omega)) h4, iT_eq h5 (fun x hx => g x (by omega) (by omega)), yCch_eq (g 14 (by decide) (by decide)) (g 15 (by decide) (by decide)) h6⟩
theorem iJ_U {s t : jMem} (h : iJ s) (k : iU t) (f : fU s t) : iJ t := by
  obtain ⟨h1, h2, h3, h4, h5, h6⟩ := h
  have g : ∀ x : Int, x ≠ 21 → x ≠ 53 → ¬ (22 ≤ x ∧ x ≤ 24) → ¬ (63 ≤ x ∧ x ≤ 65) → t x = s x := fun x a b c d => funext fun y => f x y (Or.inl a) (Or.inl b) (by omega) (by omega) (by omega) (by omega) (by omega) (by omega)
  have g53 : ∀ y : Int, y ≠ 12 → t 53 y = s 53 y := fun y hy => f 53 y (by omega) (by omega) (by omega) (by omega) (by omega) (by omega) (by omega) (by omega)
  refine ⟨iR_eq (fun x hx => g x (by omega) (by omega) (by omega) (by omega)) h1, iF_eq (g 6 (by decide) (by decide) (by decide) (by decide)) (g53 10 (by decide)) (g53 11 (by decide)) h2, iS_eq (by rw [g 0 (by decide) (by decide) (by decide) (by decide)]) (g53 6 (by decide)) h3, k, iT_eq h5 (fun x hx => g x (by omega) (by omega) (by omega) (by omega)), yCch_eq (g 14 (by decide) (by decide) (by decide) (by decide)) (g 15 (by decide) (by decide) (by decide) (by decide)) h6⟩
theorem iJ_D {s t : jMem} (h : iJ s) (k : iT t) (k2 : iS t) (f : fD s t) : iJ t := by
  obtain ⟨h1, h2, h3, h4, h5, h6⟩ := h
  have g : ∀ x : Int, x ≠ 0 → x ≠ 53 → x ≠ 3 → x ≠ 4 → ¬ (37 ≤ x ∧ x < 53) → (x < 54 ∨ 59 < x) → t x = s x := fun x a b c d e i => funext fun y => f x y (Or.inl a) (Or.inl b) c d e i
  have g53 : ∀ y : Int, y ≠ 6 → t 53 y = s 53 y := fun y hy => f 53 y (by omega) (by omega) (by omega) (by omega) (by omega) (by omega)
  refine ⟨iR_eq (fun x hx => g x (by omega) (by omega) (by omega) (by omega) (by omega) (by omega)) h1, iF_eq (g 6 (by decide) (by decide) (by decide) (by decide) (by decide) (by decide)) (g53 10 (by decide)) (g53 11 (by decide)) h2, k2, iU_eq (by rw [g 21 (by decide) (by decide) (by decide) (by decide) (by decide) (by decide)]) (g53 12 (by decide)) (fun x hx => g x (by omega) (by omega) (by omega) (by omega) (by omega) (by omega)) h4, k, yCch_eq (g 14 (by decide) (by decide) (by decide) (by decide) (by decide) (by decide)) (g 15 (by decide) (by decide) (by decide) (by decide) (by decide) (by decide)) h6⟩
theorem iJ_T {s t : jMem} (h : iJ s) (k : iT t) (f : fT s t) : iJ t := by
  have h3 := h.2.2.1
  refine iJ_D h k (iS_eq (f 0 8 (by decide) (by decide) (by decide) (by decide)) (f 53 6 (by decide) (by decide) (by decide) (by decide)) h3) (fun x y _ _ c d e i => f x y c d e i)
theorem iJ_C {s t u : jMem} (h : iJ s) (f : fC s t) (g : fM t u) (k : yCch t) : iJ u := by
  obtain ⟨h1, h2, h3, h4, h5, h6⟩ := h
  have e : ∀ x y : Int, x ≠ 5 → ¬ (7 ≤ x ∧ x ≤ 20) → x < 66 → (x ≠ 53 ∨ y = 6 ∨ y = 10 ∨ y = 11 ∨ y = 12) → u x y = s x y := fun x y a b c d => by rw [g x y c d, f x a b]
  have e2 : ∀ x : Int, x ≠ 5 → ¬ (7 ≤ x ∧ x ≤ 20) → x < 66 → x ≠ 53 → u x = s x := fun x a b c d => funext fun y => e x y a b c (Or.inl d)
  refine ⟨iR_eq (fun x hx => e2 x (by omega) (by omega) (by omega) (by omega)) h1, iF_eq (e2 6 (by decide) (by decide) (by decide) (by decide)) (e 53 10 (by decide) (by decide) (by decide) (by omega)) (e 53 11 (by decide) (by decide) (by decide) (by omega)) h2, iS_eq (e 0 8 (by decide) (by decide) (by decide) (by omega)) (e 53 6 (by decide) (by decide) (by decide) (by omega)) h3, iU_eq (e 21 3 (by decide) (by decide) (by decide) (by omega)) (e 53 12 (by decide) (by decide) (by decide) (by omega)) (fun x hx => e2 x (by omega) (by omega) (by omega) (by omega)) h4, iT_eq h5 (fun x hx => e2 x (by omega) (by omega) (by omega) (by omega)), yCch_eq (funext fun y => g 14 y (by decide) (by omega)) (funext fun y => g 15 y (by decide) (by omega)) k⟩
theorem fJ_C {s t : jMem} (h : fJ s t) : fC s t := fun x _ hx => h x (by omega)
theorem yCch_J {s t : jMem} (h : fJ s t) (k : yCch s) : yCch t := yCch_eq (h 14 (by decide)) (h 15 (by decide)) k
theorem kJ {o : jO} {s s1 : jMem} {v : Int} (h : jHo (fun _ t => fJ s t) o) (e : o = some (v, s1)) : fJ s s1 := by
  obtain ⟨v', t, e', k⟩ := h
  rw [e] at e'
  injection e' with e'
  injection e' with _ e'
  rw [e']; exact k
theorem k_done {h : Int} {s : jMem} (hI : iT s) (hF : iF s) : jHo (fun _ t => fJ s t) (fX10_done h s) := by
  have w := jrk_t
  by_cases hh : 0 ≤ h ∧ h < 4
  · obtain ⟨h0, h4⟩ := hh
    obtain ⟨t0, t1, -⟩ := jh_t h0 h4
    rw [fX10_done, sX10_isHand, jBd_s, jb_1 ⟨h0, h4⟩, if_neg (show ¬ (1 : Int) = 0 by decide), jGd_e ⟨h0, by omega⟩, jLet_e, t0]
    exact gHo_bd (zX2_howDone hI hF h0 h4) (fun _ t ht => gHo_ret (fun x hx => ht.1 x (by omega)))
  · rw [fX10_done, sX10_isHand, jBd_s, jb_0 hh, if_pos (show (0 : Int) = 0 from rfl)]
    exact gHo_ret (fJ_rf s)
theorem k_ways {h : Int} {s : jMem} (hI : iT s) : jHo (fun _ t => fJ s t) (fX10_ways h s) := by
  have w := jrk_t
  by_cases hh : 0 ≤ h ∧ h < 4
  · obtain ⟨h0, h4⟩ := hh
    obtain ⟨t0, t1, -⟩ := jh_t h0 h4
    obtain ⟨a1, a2, a3, a4, a5, a6⟩ := hI.2.1 h h0 h4
    rw [fX10_ways, sX10_isHand, jBd_s, jb_1 ⟨h0, h4⟩, if_neg (show ¬ (1 : Int) = 0 by decide), jGd_e ⟨h0, by omega⟩, jLet_e, t0, jGd_e t1, (zX1_size hI h0 h4).1, jBd_s]
    by_cases hs : jSum (vH s h) 34 + 3 * s 58 h = 14
    · obtain ⟨hf, hw⟩ := iH_full hI h0 h4 hs
      rw [jb_1 hs, if_neg (show ¬ (1 : Int) = 0 by decide), jGd_e ⟨h0, by omega⟩, jLet_e]
      exact gHo_bd (zX9_find h0 h4 hf (by rw [a2]; exact hw) (fun q q0 q4 => (a1 q q0 q4).1)) (fun _ t ht => gHo_let (gHo_ret (fun x hx => ht.1 x (by omega))))
    · rw [jb_0 hs, if_pos (show (0 : Int) = 0 from rfl)]
      exact gHo_ret (fJ_rf s)
  · rw [fX10_ways, sX10_isHand, jBd_s, jb_0 hh, if_pos (show (0 : Int) = 0 from rfl)]
    exact gHo_ret (fJ_rf s)

end

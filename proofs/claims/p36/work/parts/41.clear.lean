/-! ===== clear ===== -/
section
theorem zX1_giveBack {s : jMem} {h : Int} (h0 : 0 ≤ h) (h4 : h < 4) (hb : ∀ q : Int, 0 ≤ q → q < 34 → 0 ≤ s 3 q ∧ s 3 q ≤ 100 ∧ 0 ≤ s (38 + 4 * h) q ∧ s (38 + 4 * h) q ≤ 4 ∧ 0 ≤ s (39 + 4 * h) q ∧ s (39 + 4 * h) q ≤ 4) : jHo (fun v t => v = jSum (s (38 + 4 * h)) 34 + jSum (s (39 + 4 * h)) 34 ∧ (∀ x : Int, x ≠ 3 → ¬ (37 + 4 * h ≤ x ∧ x < 40 + 4 * h) → t x = s x) ∧ (∀ q : Int, 0 ≤ q → q < 34 → t 3 q = s 3 q + (s (38 + 4 * h) q + s (39 + 4 * h) q) ∧ t (38 + 4 * h) q = 0 ∧ t (39 + 4 * h) q = 0) ∧ t (37 + 4 * h) 3 = 0 ∧ t (37 + 4 * h) 4 = 0) (fX1_giveBack (37 + 4 * h) 3 s) := by
  obtain ⟨t0, t1, t2, t3, t4, t5, t6, t7, t8, t9⟩ := jh_t h0 h4
  have u := jik_t
  have ul := jln_t
  have sb := jSum_bd (f := s (38 + 4 * h)) (n := 34) (fun i hi => by have := hb i (by omega) (by omega); omega)
  have sb2 := jSum_bd (f := s (39 + 4 * h)) (n := 34) (fun i hi => by have := hb i (by omega) (by omega); omega)
  unfold fX1_giveBack
  refine gHo_gd t1 (gHo_let ?_)
  rw [t2, sX8_sum _ 34 s (by omega) (by omega) (by decide) (fun i hi => by have := hb i (by omega) (by omega); omega), jBd_s]
  refine gHo_let ?_
  rw [t3, sX8_sum _ 34 s (by omega) (by omega) (by decide) (fun i hi => by have := hb i (by omega) (by omega); omega), jBd_s]
  obtain ⟨a, ha⟩ : ∃ a, a = jSum (s (38 + 4 * h)) 34 + jSum (s (39 + 4 * h)) 34 := ⟨_, rfl⟩
  rw [← ha]
  refine gHo_l32 (by omega) (by omega) ?_
  refine gIt5 (fun a1 a2 a3 a4 t => a1 = 37 + 4 * h ∧ a2 = 3 ∧ a3 = a ∧ 0 ≤ a4 ∧ a4 ≤ 34 ∧ (∀ x : Int, x ≠ 3 → t x = s x) ∧ (∀ q : Int, 0 ≤ q → q < a4 → t 3 q = s 3 q + (s (38 + 4 * h) q + s (39 + 4 * h) q)) ∧ ∀ q : Int, a4 ≤ q → t 3 q = s 3 q) (fun _ _ _ a4 => (34 - a4).toNat) ?_ 1000 _ 3 a 0 s ⟨rfl, rfl, rfl, by omega, by omega, fun _ _ => rfl, fun i i0 i4 => by omega, fun _ _ => rfl⟩ (by decide)
  rintro rec a1 a2 a3 q t ⟨rfl, rfl, rfl, q0, q34, fr, hv, hw⟩ ih
  unfold bX1_giveBack_18
  refine gHo_if (fun hc => ?_) (fun hc => ?_)
  · have e : q = 34 := by omega
    subst e
    unfold bX1_giveBack_49
    refine gHo_gd t1 (gHo_let ?_)
    rw [t2, sJ7_filli _ 0 34 t t8 t5 (by decide), jBd_s]
    refine gHo_let ?_
    rw [t3, sJ7_filli _ 0 34 _ t9 t6 (by decide), jBd_s]
    refine gHo_let (gHo_let (gHo_ret ⟨rfl, fun x h3 hx => ?_, fun p p0 p4 => ⟨?_, ?_, ?_⟩, ?_, ?_⟩))
    · rw [jU_row (by omega), jU_row (by omega), jFill_row (by omega), jFill_row (by omega)]; exact fr x h3
    · rw [jU_row (by omega), jU_row (by omega), jFill_row (by omega), jFill_row (by omega)]; exact hv p p0 p4
    · rw [jU_row (by omega), jU_row (by omega), jFill_row (by omega), jFill_at (n := ((34 : Nat) : Int)) p0 p4]
    · rw [jU_row (by omega), jU_row (by omega), jFill_at (n := ((34 : Nat) : Int)) p0 p4]
    · rw [jU_at, if_neg (by decide), jU_at, if_pos rfl]
    · rw [jU_at, if_pos rfl]
  · have q4 : q < 34 := by omega
    have b := hb q q0 q4
    have e3 := hw q (by omega)
    have f38 := fr (38 + 4 * h) (by omega)
    have f39 := fr (39 + 4 * h) (by omega)
    refine gHo_gd ⟨q0, by omega⟩ (gHo_let (gHo_gd t1 (gHo_let ?_)))
    rw [t2]
    refine gHo_gd ⟨q0, by omega⟩ (gHo_let (gHo_let ?_))
    rw [t3]
    refine gHo_gd ⟨q0, by omega⟩ (gHo_let ?_)
    rw [f38, f39, e3]
    refine gHo_l32 (by omega) (by omega) (gHo_l32 (by omega) (by omega) (gHo_gd ⟨q0, by omega⟩ (gHo_nm fun t' ht' => gHo_l32 (by omega) (by omega) (ih _ _ _ _ _ ⟨rfl, rfl, rfl, by omega, by omega, fun x hx => ?_, fun p p0 p4 => ?_, fun p hp => ?_⟩ (by omega)))))
    · rw [ht', jU_row hx]; exact fr x hx
    · rw [ht', jU_at]
      by_cases e : p = q
      · subst e; rw [if_pos rfl]
      · rw [if_neg e]; exact hv p p0 (by omega)
    · rw [ht', jU_at, if_neg (by omega)]; exact hw p (by omega)
theorem zX11_gather {s : jMem} {h : Int} (h0 : 0 ≤ h) (h4 : h < 4) (hb : ∀ q : Int, 0 ≤ q → q < 34 → 0 ≤ s 54 q ∧ s 54 q ≤ 100 ∧ 0 ≤ vH s h q ∧ vH s h q ≤ 4 ∧ 0 ≤ vL s h q ∧ vL s h q ≤ 4) : jHo (fun v t => v = jSum (vH s h) 34 + jSum (vL s h) 34 ∧ (∀ x : Int, x ≠ 54 → x ≠ 56 → x ≠ 57 → x ≠ 58 → t x = s x) ∧ (∀ q : Int, 0 ≤ q → q < 34 → t 54 q = s 54 q + (vH s h q + vL s h q)) ∧ (∀ g q : Int, 0 ≤ q → q < 34 → vH t g q = (if g = h then 0 else vH s g q) ∧ vL t g q = (if g = h then 0 else vL s g q)) ∧ t 58 h = 0 ∧ ∀ g : Int, g ≠ h → t 58 g = s 58 g) (fX11_gather h s) := by
  have u := jik_m
  have sb : ∀ n : Nat, n ≤ 34 → 0 ≤ jSum (vH s h) n ∧ jSum (vH s h) n ≤ 1000 * n := fun n hn => jSum_bd (fun i hi => by have := hb i (by omega) (by omega); omega)
  have sb2 : ∀ n : Nat, n ≤ 34 → 0 ≤ jSum (vL s h) n ∧ jSum (vL s h) n ≤ 1000 * n := fun n hn => jSum_bd (fun i hi => by have := hb i (by omega) (by omega); omega)
  unfold fX11_gather
  refine gIt4 (fun a1 a2 a3 t => a1 = h ∧ 0 ≤ a3 ∧ a3 ≤ 34 ∧ (∀ n : Nat, n = a3.toNat → a2 = jSum (vH s h) n + jSum (vL s h) n) ∧ (∀ x : Int, x ≠ 54 → x ≠ 56 → x ≠ 57 → t x = s x) ∧ (∀ q : Int, 0 ≤ q → q < a3 → t 54 q = s 54 q + (vH s h q + vL s h q)) ∧ (∀ q : Int, a3 ≤ q → t 54 q = s 54 q) ∧ ∀ g q : Int, 0 ≤ q → q < 34 → vH t g q = (if g = h ∧ q < a3 then 0 else vH s g q) ∧ vL t g q = (if g = h ∧ q < a3 then 0 else vL s g q)) (fun _ _ a3 => (34 - a3).toNat) ?_ 1000 h 0 0 s ⟨rfl, by omega, by omega, fun n hn => by subst hn; rfl, fun _ _ _ _ => rfl, fun q a b => by omega, fun _ _ => rfl, fun g q q0 q4 => ⟨by rw [if_neg (by omega)], by rw [if_neg (by omega)]⟩⟩ (by decide)
  rintro rec a1 acc q t ⟨rfl, q0, q34, ha, fr, hv, hw, hg⟩ ih
  unfold bX11_gather_4
  refine gHo_if (fun hc => ?_) (fun hc => ?_)
  · have e : q = 34 := by omega
    subst e
    refine gHo_gd ⟨h0, by omega⟩ (gHo_nm fun t' ht' => gHo_ret ⟨ha 34 (by decide), fun x x1 x2 x3 x4 => ?_, fun p p0 p4 => ?_, fun g p p0 p4 => ?_, ?_, fun g hgn => ?_⟩)
    · rw [ht', jU_row x4]; exact fr x x1 x2 x3
    · rw [ht', jU_row (by decide)]; exact hv p p0 p4
    · have := hg g p p0 p4
      have e1 : vH t' g p = vH t g p := by unfold vH; rw [ht', jU_row (by decide)]
      have e2 : vL t' g p = vL t g p := by unfold vL; rw [ht', jU_row (by decide)]
      rw [e1, e2, this.1, this.2]
      by_cases e : g = a1
      · simp [e, p4]
      · simp [e]
    · rw [ht', jU_at, if_pos rfl]
    · rw [ht', jU_at, if_neg hgn, fr 58 (by decide) (by decide) (by decide)]
  · have q4 : q < 34 := by omega
    have b := hb q q0 q4
    have hh := hg a1 q q0 q4
    rw [if_neg (by omega), if_neg (by omega)] at hh
    have e1 : t 56 (34 * a1 + q) = vH s a1 q := hh.1
    have e2 : t 57 (34 * a1 + q) = vL s a1 q := hh.2
    have e3 := hw q (by omega)
    have bs : 0 ≤ acc ∧ acc ≤ 80000 := by
      have h1 := sb q.toNat (by omega)
      have h2 := sb2 q.toNat (by omega)
      have h3 := ha q.toNat rfl
      omega
    refine gHo_l32 (by omega) (by omega) (gHo_l32 (by omega) (by omega) (gHo_gd ⟨by omega, by omega⟩ (gHo_let ?_)))
    refine gHo_l32 (by omega) (by omega) (gHo_l32 (by omega) (by omega) (gHo_gd ⟨by omega, by omega⟩ (gHo_let ?_)))
    rw [e1, e2]
    refine gHo_l32 (by omega) (by omega) (gHo_gd ⟨q0, by omega⟩ (gHo_let ?_))
    rw [e3]
    refine gHo_l32 (by omega) (by omega) (gHo_gd ⟨q0, by omega⟩ (gHo_nm fun t1 ht1 => gHo_l32 (by omega) (by omega) ?_))
    refine gHo_l32 (by omega) (by omega) (gHo_l32 (by omega) (by omega) (gHo_gd ⟨by omega, by omega⟩ (gHo_nm fun t2 ht2 => ?_)))
    refine gHo_l32 (by omega) (by omega) (gHo_l32 (by omega) (by omega) (gHo_gd ⟨by omega, by omega⟩ (gHo_nm fun t3 ht3 => ?_)))
    refine gHo_l32 (by omega) (by omega) (ih _ _ _ _ ⟨rfl, by omega, by omega, fun n hn => ?_, fun x x1 x2 x3 => ?_, fun p p0 p4 => ?_, fun p hp => ?_, fun g p p0 p4 => ?_⟩ (by omega))
    · have e1 : n = q.toNat + 1 := by omega
      have e2 : ((q.toNat : Nat) : Int) = q := by omega
      rw [e1]
      show acc + (vH s a1 q + vL s a1 q) = jSum (vH s a1) q.toNat + vH s a1 (q.toNat : Int) + (jSum (vL s a1) q.toNat + vL s a1 (q.toNat : Int))
      rw [ha q.toNat rfl, e2]; omega
    · rw [ht3, jU_row x3, ht2, jU_row x2, ht1, jU_row x1]; exact fr x x1 x2 x3
    · rw [ht3, jU_row (by decide), ht2, jU_row (by decide), ht1, jU_at]
      by_cases e : p = q
      · subst e; rw [if_pos rfl]
      · rw [if_neg e]; exact hv p p0 (by omega)
    · rw [ht3, jU_row (by decide), ht2, jU_row (by decide), ht1, jU_at, if_neg (by omega)]; exact hw p (by omega)
    · have o := hg g p p0 p4
      unfold vH vL at o ⊢
      rw [ht3, jU_row (r' := 56) (by decide), ht2, jU_at, jU_at, jU_row (r' := 57) (by decide), ht1, jU_row (by decide), jU_row (by decide), o.1, o.2]
      have c1 : (34 * g + p = 34 * a1 + q) ↔ (g = a1 ∧ p = q) := by omega
      have c2 : (g = a1 ∧ p < q + 1) ↔ ((g = a1 ∧ p = q) ∨ (g = a1 ∧ p < q)) := by omega
      simp only [c1, c2]
      by_cases e1 : g = a1 ∧ p = q <;> by_cases e2 : g = a1 ∧ p < q <;> simp [e1, e2]
theorem iT_clr {s t : jMem} {h : Int} (hI : iT s) (h0 : 0 ≤ h) (h4 : h < 4) (c3 : ∀ q : Int, 0 ≤ q → q < 34 → t 3 q = s 54 q + (vH s h q + vL s h q) ∧ t (38 + 4 * h) q = 0 ∧ t (39 + 4 * h) q = 0) (c37 : t (37 + 4 * h) 3 = 0 ∧ t (37 + 4 * h) 4 = 0) (co : ∀ x : Int, x = 4 ∨ (37 ≤ x ∧ x < 53 ∧ ¬ (37 + 4 * h ≤ x ∧ x < 40 + 4 * h)) ∨ x = 55 ∨ x = 59 → t x = s x) (m54 : ∀ q : Int, 0 ≤ q → q < 34 → t 54 q = s 54 q + (vH s h q + vL s h q)) (mH : ∀ g q : Int, 0 ≤ q → q < 34 → vH t g q = (if g = h then 0 else vH s g q) ∧ vL t g q = (if g = h then 0 else vL s g q)) (m58 : t 58 h = 0) (o58 : ∀ g : Int, g ≠ h → t 58 g = s 58 g) : iT t := by
  obtain ⟨hW, hH, hG⟩ := id hI
  refine ⟨fun q q0 q4 => ?_, fun g g0 g4 => ?_, fun g g0 g4 => ?_⟩
  · obtain ⟨w1, w2, w3, w4, w5⟩ := hW q q0 q4
    obtain ⟨d1, d2, d3⟩ := c3 q q0 q4
    have e := m54 q q0 q4
    have n0 := mH 0 q q0 q4
    have n1 := mH 1 q q0 q4
    have n2 := mH 2 q q0 q4
    have n3 := mH 3 q q0 q4
    have b := (hH h h0 h4).1 q q0 q4
    rw [co 4 (by omega), co 55 (by omega)]
    refine ⟨by omega, w2, by omega, w4, ?_⟩
    rw [n0.1, n1.1, n2.1, n3.1, n0.2, n1.2, n2.2, n3.2, e]
    rcases (by omega : h = 0 ∨ h = 1 ∨ h = 2 ∨ h = 3) with rfl | rfl | rfl | rfl <;> simp <;> omega
  · obtain ⟨a1, a2, a3, a4, a5, a6⟩ := hH g g0 g4
    by_cases e : g = h
    · subst e
      have z : jSum (vH t g) 34 = 0 := by
        rw [jSum_cg (g := fun _ => 0) (fun i hi => by have := (mH g i (by omega) (by omega)).1; rw [if_pos rfl] at this; exact this), jSum_0]
      refine ⟨fun q q0 q4 => ?_, by omega, by omega, by omega, by omega, by omega⟩
      obtain ⟨d1, d2, d3⟩ := c3 q q0 q4
      have n0 := mH g q q0 q4
      rw [if_pos rfl, if_pos rfl] at n0
      omega
    · have z : jSum (vH t g) 34 = jSum (vH s g) 34 := jSum_cg (fun i hi => by have := (mH g i (by omega) (by omega)).1; rw [if_neg e] at this; exact this)
      have e58 := o58 g e
      have e37 := co (37 + 4 * g) (by omega)
      refine ⟨fun q q0 q4 => ?_, ?_, by omega, by omega, ?_, by omega⟩
      · have n0 := mH g q q0 q4
        rw [if_neg e, if_neg e] at n0
        rw [co (38 + 4 * g) (by omega), co (39 + 4 * g) (by omega), n0.1, n0.2]
        exact a1 q q0 q4
      · rw [e37, e58]; exact a2
      · rw [e37, z]; exact a5
  · obtain ⟨g1, g2⟩ := hG g g0 g4
    by_cases e : g = h
    · subst e
      refine ⟨fun k k0 k4 => by omega, fun q q0 q4 => ?_⟩
      have n0 := (mH g q q0 q4).2
      rw [if_pos rfl] at n0
      rw [n0, m58]; rfl
    · unfold iG
      rw [o58 g e, co 59 (by omega), co (40 + 4 * g) (by omega)]
      refine ⟨g1, fun q q0 q4 => ?_⟩
      have n0 := (mH g q q0 q4).2
      rw [if_neg e] at n0
      rw [n0]; exact g2 q q0 q4
theorem op_clear {h : Int} {s : jMem} (hI : iT s) : ∃ v s1 s2, fX10_clear h s = some (v, s1) ∧ fX11_clear h s1 = some (v, s2) ∧ iT s2 ∧ fT s s2 := by
  have w := jrk_t
  by_cases hh : 0 ≤ h ∧ h < 4
  · obtain ⟨h0, h4⟩ := hh
    obtain ⟨t0, t1, t2, t3, t4, t5, t6, t7, t8, t9⟩ := jh_t h0 h4
    obtain ⟨hW, hH, hG⟩ := id hI
    have hb := (hH h h0 h4).1
    have hb2 : ∀ q : Int, 0 ≤ q → q < 34 → s 3 q = s 54 q ∧ 0 ≤ s 54 q ∧ s 54 q ≤ 100 := fun q q0 q4 => by
      have := iT_bd hI h0 h4 q0 q4
      have := (hW q q0 q4).1
      omega
    obtain ⟨v, s1, e1, hv, fr, hq, z3, z4⟩ := zX1_giveBack (s := s) h0 h4 (fun q q0 q4 => by have := hb q q0 q4; have := hb2 q q0 q4; omega)
    have r54 := fr 54 (by omega) (by omega)
    have r55 := fr 55 (by omega) (by omega)
    have r56 := fr 56 (by omega) (by omega)
    have r57 := fr 57 (by omega) (by omega)
    have r58 := fr 58 (by omega) (by omega)
    have r59 := fr 59 (by omega) (by omega)
    have eH : ∀ g, vH s1 g = vH s g := fun g => by funext p; unfold vH; rw [r56]
    have eL : ∀ g, vL s1 g = vL s g := fun g => by funext p; unfold vL; rw [r57]
    obtain ⟨v2, s2, e2, hv2, fr2, m54, mH, m58, o58⟩ := zX11_gather (s := s1) h0 h4 (fun q q0 q4 => by rw [eH, eL, r54]; have := hb q q0 q4; have := hb2 q q0 q4; omega)
    have ev : v2 = v := by
      rw [hv2, hv, eH, eL]
      rw [jSum_cg (f := s (38 + 4 * h)) (g := vH s h) (fun i hi => (hb i (by omega) (by omega)).1), jSum_cg (f := s (39 + 4 * h)) (g := vL s h) (fun i hi => (hb i (by omega) (by omega)).2.1)]
    subst ev
    refine ⟨v2, s1, s2, ?_, ?_, ?_, ?_⟩
    · rw [fX10_clear, sX10_isHand, jBd_s, jb_1 ⟨h0, h4⟩, if_neg (by decide), jGd_e ⟨h0, by omega⟩, jLet_e, t0, jGd_e t1, e1, jBd_s]; rfl
    · rw [fX11_clear, sX11_isHand, jBd_s, jb_1 ⟨h0, by omega⟩, if_neg (by decide), e2, jBd_s]; rfl
    · rw [r54] at m54
      simp only [eH, eL] at m54 mH
      rw [r58] at o58
      refine iT_clr hI h0 h4 (fun q q0 q4 => ?_) ?_ (fun x hx => ?_) m54 mH m58 o58
      · rw [fr2 3 (by decide) (by decide) (by decide) (by decide), fr2 (38 + 4 * h) (by omega) (by omega) (by omega) (by omega), fr2 (39 + 4 * h) (by omega) (by omega) (by omega) (by omega)]
        obtain ⟨x1, x2, x3⟩ := hq q q0 q4
        have := hb q q0 q4
        have := hb2 q q0 q4
        omega
      · rw [fr2 (37 + 4 * h) (by omega) (by omega) (by omega) (by omega)]; exact ⟨z3, z4⟩
      · rw [fr2 x (by omega) (by omega) (by omega) (by omega)]; exact fr x (by omega) (by omega)
    · intro x y x3 x4 x5 x6
      rw [fr2 x (by omega) (by omega) (by omega) (by omega), fr x (by omega) (by omega)]
  · refine ⟨-1, s, s, ?_, ?_, hI, fT_rf s⟩
    · rw [fX10_clear, sX10_isHand, jBd_s, jb_0 hh, if_pos rfl]; rfl
    · rw [fX11_clear, sX11_isHand, jBd_s, jb_0 (by omega), if_pos rfl]; rfl
end

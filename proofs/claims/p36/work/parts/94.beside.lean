/-! ===== two desks side by side: an act on both, a question to one ===== -/
section
theorem jand_nn {x n : Int} (h0 : 0 ≤ n) (h1 : n < 2147483648) : 0 ≤ jand x n ∧ jand x n ≤ n := by
  unfold jand
  show 0 ≤ ((Int32.ofInt x).toBitVec &&& (Int32.ofInt n).toBitVec).toInt ∧ ((Int32.ofInt x).toBitVec &&& (Int32.ofInt n).toBitVec).toInt ≤ n
  obtain ⟨k, rfl⟩ : ∃ k : Nat, n = k := ⟨n.toNat, by omega⟩
  have e : (Int32.ofInt (k : Int)).toBitVec.toNat = k := by
    show (BitVec.ofInt 32 (k : Int)).toNat = k
    rw [BitVec.ofInt_natCast, BitVec.toNat_ofNat, Nat.mod_eq_of_lt (by omega)]
  have le : ((Int32.ofInt x).toBitVec &&& (Int32.ofInt (k : Int)).toBitVec).toNat ≤ k := by
    rw [BitVec.toNat_and, e]; exact Nat.and_le_right
  rw [BitVec.toInt_eq_toNat_of_lt (by omega)]
  omega
/-- side by side -/
def pI (s t : jMem) : Prop := iJ s ∧ iJ t ∧ qR s t ∧ s 6 0 = t 6 0 ∧ s 6 1 = t 6 1
theorem iJ_T5 {s : jMem} (h : iJ s) : iT s ∧ iF s ∧ yCch s ∧ iS s := ⟨h.2.2.2.2.1, h.2.1, h.2.2.2.2.2, h.2.2.1⟩
theorem pI_v {s t : jMem} (h : pI s t) : (∀ g : Int, 0 ≤ g → g < 4 → s 58 g = t 58 g ∧ tZ s g = tZ t g ∧ ∀ q : Int, 0 ≤ q → q < 34 → vH s g q = vH t g q ∧ vL s g q = vL t g q) ∧ (∀ q : Int, 0 ≤ q → q < 34 → s 54 q = t 54 q ∧ s 55 q = t 55 q) ∧ s 53 10 = t 53 10 ∧ s 53 11 = t 53 11 := by
  obtain ⟨h1, h2, h3, h4, h5⟩ := h
  obtain ⟨a1, a2, a3, a4⟩ := iJ_T5 h1
  obtain ⟨b1, b2, b3, b4⟩ := iJ_T5 h2
  have hv : ∀ g : Int, 0 ≤ g → g < 4 → ∀ q : Int, 0 ≤ q → q < 34 → vH s g q = vH t g q ∧ vL s g q = vL t g q := fun g g0 g4 q q0 q4 => by
    have x := (a1.2.1 g g0 g4).1 q q0 q4
    have y := (b1.2.1 g g0 g4).1 q q0 q4
    have z := (h3.2.2 g g0 g4).2.2 q q0 q4
    exact ⟨by rw [← x.1, ← y.1]; exact z.1, by rw [← x.2.1, ← y.2.1]; exact z.2⟩
  refine ⟨fun g g0 g4 => ?_, fun q q0 q4 => ?_, ?_, ?_⟩
  · have e58 : s 58 g = t 58 g := by
      rw [← (a1.2.1 g g0 g4).2.1, ← (b1.2.1 g g0 g4).2.1]; exact (h3.2.2 g g0 g4).2.1
    refine ⟨e58, ?_, hv g g0 g4⟩
    unfold tZ
    rw [e58, jSum_cg (f := vH s g) (g := vH t g) (fun i hi => (hv g g0 g4 i (by omega) (by omega)).1)]
  · have x := a1.1 q q0 q4
    have y := b1.1 q q0 q4
    have z := h3.2.1 q q0 q4
    exact ⟨by rw [← x.1, ← y.1]; exact z.1, by rw [← x.2.1, ← y.2.1]; exact z.2⟩
  · rw [← a2.1, ← b2.1]; exact h4
  · rw [← a2.2.1, ← b2.2.1]; exact h5
theorem pI_sy {s t : jMem} (h : pI s t) : pI t s := ⟨h.2.1, h.1, qR_sy h.2.2.1, h.2.2.2.1.symm, h.2.2.2.2.symm⟩
theorem iJ_q {s t : jMem} (h : iJ s) (f : fC s t) (k : yCch t) : iJ t := iJ_C h f (fM_rf t) k
theorem pI_C1 {s t u : jMem} (h : pI s t) (f : fC s u) (k : yCch u) : pI u t := by
  refine ⟨iJ_q h.1 f k, h.2.1, qR_tr (qR_eq (fun x hx => f x (by omega) (by omega))) h.2.2.1, ?_, ?_⟩
  · rw [f 6 (by decide) (by decide)]; exact h.2.2.2.1
  · rw [f 6 (by decide) (by decide)]; exact h.2.2.2.2
theorem pI_C2 {s t u : jMem} (h : pI s t) (f : fC t u) (k : yCch u) : pI s u := pI_sy (pI_C1 (pI_sy h) f k)
theorem qR_can {s t : jMem} (h : qR s t) : qR (jCan s) (jCan t) := qR_tr (qR_eq (fun x hx => jCan_lt s (by omega))) (qR_tr h (qR_sy (qR_eq (fun x hx => jCan_lt t (by omega)))))
theorem pI_can {s t : jMem} (h : pI s t) : pI (jCan s) (jCan t) := ⟨iJ_can (fun _ _ => rfl) h.1, iJ_can (fun _ _ => rfl) h.2.1, qR_can h.2.2.1, by rw [jCan_lt s (by decide), jCan_lt t (by decide)]; exact h.2.2.2.1, by rw [jCan_lt s (by decide), jCan_lt t (by decide)]; exact h.2.2.2.2⟩
/-- an act -/
theorem p_mut {f g : jMem → jO} (hop : ∀ s, iJ s → ∃ v s1 u, f s = some (v, s1) ∧ g s1 = some (v, u) ∧ iJ u ∧ u 6 = s 6) (hk : ∀ s, kP s (g s)) (hr : ∀ s t, qR s t → oR (f s) (f t)) {s t : jMem} (h : pI s t) : ∃ v s1 t1, f s = some (v, s1) ∧ f t = some (v, t1) ∧ pI (jCan s1) (jCan t1) := by
  obtain ⟨v, s1, u, e1, e2, i1, f1⟩ := hop s h.1
  obtain ⟨w, t1, z, e3, e4, i2, f2⟩ := hop t h.2.1
  have k1 := hk s1 v u e2
  have k2 := hk t1 w z e4
  obtain ⟨t1', e5, r⟩ := hr s t h.2.2.1 v s1 e1
  rw [e3] at e5
  injection e5 with e5
  injection e5 with ev et
  subst ev et
  refine ⟨w, s1, t1, e1, e3, iJ_can (fun x hx => (k1 x hx).symm) i1, iJ_can (fun x hx => (k2 x hx).symm) i2, qR_can r, ?_, ?_⟩
  · rw [jCan_lt s1 (by decide), jCan_lt t1 (by decide), ← k1 6 (by decide), ← k2 6 (by decide), f1, f2]; exact h.2.2.2.1
  · rw [jCan_lt s1 (by decide), jCan_lt t1 (by decide), ← k1 6 (by decide), ← k2 6 (by decide), f1, f2]; exact h.2.2.2.2
theorem fT_6 {s t : jMem} (h : fT s t) : t 6 = s 6 := funext fun y => h 6 y (by decide) (by decide) (by decide) (by decide)
theorem fD_6 {s t : jMem} (h : fD s t) : t 6 = s 6 := funext fun y => h 6 y (Or.inl (by decide)) (Or.inl (by decide)) (by decide) (by decide) (by decide) (by decide)
variable {s t : jMem}
theorem p_take (a b : Int) (h : pI s t) : ∃ v s1 t1, fX10_take a b s = some (v, s1) ∧ fX10_take a b t = some (v, t1) ∧ pI (jCan s1) (jCan t1) :=
  p_mut (f := fX10_take a b) (g := fX11_take a b) (fun s hJ => by
    obtain ⟨v, s1, u, e1, e2, i, f⟩ := op_take (h := a) (q := b) (iJ_T5 hJ).1
    exact ⟨v, s1, u, e1, e2, iJ_T hJ i f, fT_6 f⟩) (k11_take a b) (fun _ _ => rX10_take a b) h
theorem p_discard (a b : Int) (h : pI s t) : ∃ v s1 t1, fX10_discard a b s = some (v, s1) ∧ fX10_discard a b t = some (v, t1) ∧ pI (jCan s1) (jCan t1) :=
  p_mut (f := fX10_discard a b) (g := fX11_discard a b) (fun s hJ => by
    obtain ⟨v, s1, u, e1, e2, i, f⟩ := op_discard (h := a) (q := b) (iJ_T5 hJ).1
    exact ⟨v, s1, u, e1, e2, iJ_T hJ i f, fT_6 f⟩) (k11_discard a b) (fun _ _ => rX10_discard a b) h
theorem p_open (a b c : Int) (h : pI s t) : ∃ v s1 t1, fX10_open a b c s = some (v, s1) ∧ fX10_open a b c t = some (v, t1) ∧ pI (jCan s1) (jCan t1) :=
  p_mut (f := fX10_open a b c) (g := fX11_open a b c) (fun s hJ => by
    obtain ⟨v, s1, u, e1, e2, i, f⟩ := op_open (h := a) (k := b) (q := c) (iJ_T5 hJ).1
    exact ⟨v, s1, u, e1, e2, iJ_T hJ i f, fT_6 f⟩) (k11_open a b c) (fun _ _ => rX10_open a b c) h
theorem p_clear (a : Int) (h : pI s t) : ∃ v s1 t1, fX10_clear a s = some (v, s1) ∧ fX10_clear a t = some (v, t1) ∧ pI (jCan s1) (jCan t1) :=
  p_mut (f := fX10_clear a) (g := fX11_clear a) (fun s hJ => by
    obtain ⟨v, s1, u, e1, e2, i, f⟩ := op_clear (h := a) (iJ_T5 hJ).1
    exact ⟨v, s1, u, e1, e2, iJ_T hJ i f, fT_6 f⟩) (k11_clear a) (fun _ _ => rX10_clear a) h
theorem p_draw (a : Int) (h : pI s t) : ∃ v s1 t1, fX10_draw a s = some (v, s1) ∧ fX10_draw a t = some (v, t1) ∧ pI (jCan s1) (jCan t1) :=
  p_mut (f := fX10_draw a) (g := fX11_draw a) (fun s hJ => by
    obtain ⟨v, s1, u, e1, e2, i, i2, f⟩ := op_draw (h := a) (iJ_T5 hJ).1 (iJ_T5 hJ).2.2.2
    exact ⟨v, s1, u, e1, e2, iJ_D hJ i i2 f, fD_6 f⟩) (k11_draw a) (fun _ _ => rX10_draw a) h
theorem cl_out {a : Int} (ha : ¬ (0 ≤ a ∧ a < 4)) : fX10_best a s = some (-1, s) ∧ fX10_distance a s = some (-1, s) := by
  constructor
  · rw [fX10_best, sX10_isHand, jBd_s, jb_0 ha, if_pos rfl]; rfl
  · rw [fX10_distance, sX10_isHand, jBd_s, jb_0 ha, if_pos rfl]; rfl
theorem yFm_cg {f7 f13 w : Int} {H L u H' L' u' f m : Int → Int} (e : ∀ q : Int, 0 ≤ q → q < 34 → H q = H' q ∧ L q = L' q ∧ u q = u' q) (h : yFm f7 f13 w H L u f m) : yFm f7 f13 w H' L' u' f m := by
  intro q q0 q4 h1
  have eq := e q q0 q4
  have up : ∀ p : Int, 0 ≤ p → p < 34 → yUp H q (H q + -1) p = yUp H' q (H' q + -1) p ∧ L p = L' p := fun p p0 p4 => by
    refine ⟨?_, (e p p0 p4).2.1⟩
    by_cases c : p = q
    · subst c; rw [yUp_at, yUp_at, eq.1]
    · rw [yUp_o c, yUp_o c]; exact (e p p0 p4).1
  obtain ⟨a1, a2, a3, b, a4, a5⟩ := h q q0 q4 (by omega)
  refine ⟨yLack_cg up a1, a2, a3, b, ?_, fun p p0 p4 => ⟨(a5 p p0 p4).1, ?_⟩⟩
  · rw [a4]
    exact jSum_cg (fun i hi => by rw [(e i (by omega) (by omega)).2.2])
  · rw [(a5 p p0 p4).2]; exact yHc_cg up p0 p4
theorem yIc_cg {H H' f m : Int → Int} {l b x : Int} (e : ∀ q : Int, 0 ≤ q → q < 34 → H q = H' q) (h : yIc H f m l 34 b x) : yIc H' f m l 34 b x := by
  rcases h with ⟨h1, h2, h3⟩ | ⟨h1, h2, h3, h4, h5⟩
  · exact Or.inl ⟨h1, h2, fun q q0 q4 => by rw [← e q q0 (by omega)]; exact h3 q q0 q4⟩
  · exact Or.inr ⟨h1, by rw [← e b h1.1 (by omega)]; exact h2, h3, h4, fun q q0 q4 k => h5 q q0 q4 (by rw [e q q0 (by omega)]; exact k)⟩
theorem p_best (a : Int) (h : pI s t) : ∃ v s1 t1, fX10_best a s = some (v, s1) ∧ fX10_best a t = some (v, t1) ∧ pI s1 t1 := by
  by_cases ha : 0 ≤ a ∧ a < 4
  · obtain ⟨a0, a4⟩ := ha
    obtain ⟨i1, i2, i3, -⟩ := iJ_T5 h.1
    obtain ⟨j1, j2, j3, -⟩ := iJ_T5 h.2.1
    obtain ⟨hv, h54, h10, h11⟩ := pI_v h
    obtain ⟨e58, ez, eq⟩ := hv a a0 a4
    obtain ⟨v, s1, e1, f1, c1, k1, n1⟩ := cl_best i1 i2 i3 a0 a4
    obtain ⟨w, t1, e2, f2, c2, k2, n2⟩ := cl_best j1 j2 j3 a0 a4
    have hp : pI s1 t1 := pI_C2 (pI_C1 h f1 c1) f2 c2
    have evw : v = w := by
      by_cases hz : tZ s a = 14
      · obtain ⟨f, m, hfm⟩ := yFm_ex (f7 := s 53 10) (f13 := s 53 11) i1 a0 a4 hz
        obtain ⟨l, yl⟩ := yLack_ex (f7 := s 53 10) (f13 := s 53 11) (w := 4 - s 58 a) (H := vH s a) (L := vL s a)
        obtain ⟨x, ic⟩ := k1 hz f m l hfm yl
        have hfm2 := yFm_cg (H' := vH t a) (L' := vL t a) (u' := vU t a) (fun q q0 q4 => ⟨(eq q q0 q4).1, (eq q q0 q4).2, by
          unfold vU
          rw [(eq q q0 q4).1, (h54 q q0 q4).2, ((hv 0 (by decide) (by decide)).2.2 q q0 q4).2, ((hv 1 (by decide) (by decide)).2.2 q q0 q4).2, ((hv 2 (by decide) (by decide)).2.2 q q0 q4).2, ((hv 3 (by decide) (by decide)).2.2 q q0 q4).2]⟩) hfm
        have yl2 := yLack_cg (H' := vH t a) (L' := vL t a) eq yl
        rw [h10, h11, e58] at hfm2 yl2
        obtain ⟨x2, ic2⟩ := k2 (by rw [← ez]; exact hz) f m l hfm2 yl2
        exact yIc_u (yIc_cg (fun q q0 q4 => (eq q q0 q4).1) ic) ic2
      · rw [n1 hz, n2 (by rw [← ez]; exact hz)]
    subst evw
    exact ⟨v, s1, t1, e1, e2, hp⟩
  · exact ⟨-1, s, t, (cl_out ha).1, (cl_out ha).1, h⟩
theorem p_distance (a : Int) (h : pI s t) : ∃ v s1 t1, fX10_distance a s = some (v, s1) ∧ fX10_distance a t = some (v, t1) ∧ pI s1 t1 := by
  by_cases ha : 0 ≤ a ∧ a < 4
  · obtain ⟨a0, a4⟩ := ha
    obtain ⟨i1, i2, i3, -⟩ := iJ_T5 h.1
    obtain ⟨j1, j2, j3, -⟩ := iJ_T5 h.2.1
    obtain ⟨hv, h54, h10, h11⟩ := pI_v h
    obtain ⟨e58, ez, eq⟩ := hv a a0 a4
    obtain ⟨v, s1, e1, f1, c1, k1, n1⟩ := cl_distance i1 i2 i3 a0 a4
    obtain ⟨w, t1, e2, f2, c2, k2, n2⟩ := cl_distance j1 j2 j3 a0 a4
    have hp : pI s1 t1 := pI_C2 (pI_C1 h f1 c1) f2 c2
    have evw : v = w := by
      by_cases hz : 13 ≤ tZ s a
      · obtain ⟨l, yl, rfl⟩ := k1 hz
        obtain ⟨l2, yl2, rfl⟩ := k2 (by rw [← ez]; exact hz)
        have yl3 := yLack_cg (H' := vH t a) (L' := vL t a) eq yl
        rw [h10, h11, e58] at yl3
        rw [yLack_u yl3 yl2]
      · rw [n1 hz, n2 (by rw [← ez]; exact hz)]
    subst evw
    exact ⟨v, s1, t1, e1, e2, hp⟩
  · exact ⟨-1, s, t, (cl_out ha).2, (cl_out ha).2, h⟩
theorem cl_some (x n : Int) (hn : ¬ n = 0) : ∃ y, ∀ s, fL_some x n s = some (y, s) := by
  refine ⟨jrem (jand x 2147483647) n, fun s => ?_⟩
  rw [fL_some, jLet_e, jGd_e hn, jLet_e]; rfl
theorem p_act (x : Int) (h : pI s t) : ∃ v s1 t1, fL_act x s = some (v, s1) ∧ fL_act x t = some (v, t1) ∧ pI (jCan s1) (jCan t1) := by
  obtain ⟨y, hy⟩ := cl_some (jshr x 5) 34 (by decide)
  obtain ⟨y3, hy3⟩ := cl_some (jshr x 12) 3 (by decide)
  obtain ⟨y4, hy4⟩ := cl_some (jshr x 12) 34 (by decide)
  unfold fL_act
  simp only [jLet_e, hy, jBd_s]
  obtain ⟨g, hg⟩ : ∃ g, g = jand (jshr x 3) 3 := ⟨_, rfl⟩
  rw [← hg]
  split
  · obtain ⟨v, s1, t1, e1, e2, k⟩ := p_draw g h
    rw [e1, e2, jBd_s, jBd_s]; exact ⟨v, s1, t1, rfl, rfl, k⟩
  split
  · obtain ⟨v, s1, t1, e1, e2, k⟩ := p_take g y h
    rw [e1, e2, jBd_s, jBd_s]; exact ⟨v, s1, t1, rfl, rfl, k⟩
  split
  · obtain ⟨v, s1, t1, e1, e2, k⟩ := p_discard g y h
    rw [e1, e2, jBd_s, jBd_s]; exact ⟨v, s1, t1, rfl, rfl, k⟩
  split
  · obtain ⟨v, s1, t1, e1, e2, k⟩ := p_discard g y h
    rw [e1, e2, jBd_s, jBd_s]; exact ⟨v, s1, t1, rfl, rfl, k⟩
  split
  · simp only [hy3, jBd_s]
    obtain ⟨v, s1, t1, e1, e2, k⟩ := p_open g (j32 (1 + y3)) y h
    rw [e1, e2, jBd_s, jBd_s]; exact ⟨v, s1, t1, rfl, rfl, k⟩
  split
  · obtain ⟨v, s1, t1, e1, e2, k⟩ := p_best g h
    rw [e1, e2, jBd_s, jBd_s]
    by_cases c : 0 ≤ v
    · rw [if_pos c, if_pos c]
      obtain ⟨v2, s2, t2, e3, e4, k2⟩ := p_best g k
      rw [e3, e4, jBd_s, jBd_s]
      obtain ⟨v3, s3, t3, e5, e6, k3⟩ := p_discard g v2 k2
      rw [e5, e6, jBd_s, jBd_s]; exact ⟨v3, s3, t3, rfl, rfl, k3⟩
    · rw [if_neg c, if_neg c]
      obtain ⟨v3, s3, t3, e5, e6, k3⟩ := p_draw g k
      rw [e5, e6, jBd_s, jBd_s]; exact ⟨v3, s3, t3, rfl, rfl, k3⟩
  split
  · split
    · obtain ⟨v, s1, t1, e1, e2, k⟩ := p_clear g h
      rw [e1, e2, jBd_s, jBd_s]; exact ⟨v, s1, t1, rfl, rfl, k⟩
    · simp only [hy4, jBd_s]
      obtain ⟨v, s1, t1, e1, e2, k⟩ := p_discard g y4 h
      rw [e1, e2, jBd_s, jBd_s]; exact ⟨v, s1, t1, rfl, rfl, k⟩
  · obtain ⟨v, s1, t1, e1, e2, k⟩ := p_distance g h
    rw [e1, e2, jBd_s, jBd_s]; exact ⟨v, s1, t1, rfl, rfl, pI_can k⟩
end

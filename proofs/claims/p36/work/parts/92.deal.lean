/-! ===== what is dealt ===== -/
section
/-- the desk cleared, ahead of the draws -/
def dC (v : Int) (c : jMem) : Prop := c 0 8 = v ∧ (∀ q : Int, 0 ≤ q → q < 34 → c 3 q = 4 ∧ c 4 q = 0) ∧ ∀ g : Int, 0 ≤ g → g < 4 → c (37 + 4 * g) 3 = 0 ∧ c (37 + 4 * g) 4 = 0 ∧ ∀ q : Int, 0 ≤ q → q < 34 → c (38 + 4 * g) q = 0 ∧ c (39 + 4 * g) q = 0
theorem dC_R {v : Int} {c d : jMem} (h : dC v c) (k : dC v d) : qR c d := ⟨by rw [h.1, k.1], fun q a b => ⟨by rw [(h.2.1 q a b).1, (k.2.1 q a b).1], by rw [(h.2.1 q a b).2, (k.2.1 q a b).2]⟩, fun g a b => ⟨by rw [(h.2.2 g a b).1, (k.2.2 g a b).1], by rw [(h.2.2 g a b).2.1, (k.2.2 g a b).2.1], fun q x y => ⟨by rw [((h.2.2 g a b).2.2 q x y).1, ((k.2.2 g a b).2.2 q x y).1], by rw [((h.2.2 g a b).2.2 q x y).2, ((k.2.2 g a b).2.2 q x y).2]⟩⟩⟩
theorem cl_deal0 {v : Int} {s : jMem} (hI : iT s) (v0 : 0 ≤ v) (v1 : v < 2147483648) : ∃ s1, fX10_deal v s = some (0, s1) ∧ (∃ c, dC v c ∧ jIt (fun _ _ => none) (bX10_deal_56) 1000 0 c = some (0, s1)) ∧ ∃ m : jMem, iT (jMix s1 m) ∧ (∀ g : Int, 0 ≤ g → g < 4 → jSum (vH m g) 34 = 13 ∧ m 58 g = 0) ∧ jSum (m 54) 34 = 84 := by
  have w := jrk_t
  have sum4 : ∀ {m : jMem}, (∀ q : Int, 0 ≤ q → q < 34 → m 54 q = 4 ∧ m 55 q = 0) → jSum (m 54) 34 = 136 := by
    intro m h
    rw [jSum_cg (f := m 54) (g := fun _ => 4) (fun i hi => (h i (by omega) (by omega)).1)]
    rfl
  have sum0 : ∀ {m : jMem}, (∀ g : Int, 0 ≤ g → g < 4 → m 58 g = 0 ∧ ∀ q : Int, 0 ≤ q → q < 34 → vH m g q = 0 ∧ vL m g q = 0) → ∀ g : Int, 0 ≤ g → g < 4 → jSum (vH m g) 34 = 0 ∧ m 58 g = 0 := by
    intro m h g g0 g4
    refine ⟨?_, (h g g0 g4).1⟩
    rw [jSum_cg (g := fun _ => 0) (fun i hi => ((h g g0 g4).2 i (by omega) (by omega)).1), jSum_0]
  have mk : ∃ m : jMem, m 53 6 = v ∧ (∀ q : Int, 0 ≤ q → q < 34 → m 54 q = 4 ∧ m 55 q = 0) ∧ ∀ g : Int, 0 ≤ g → g < 4 → m 58 g = 0 ∧ ∀ q : Int, 0 ≤ q → q < 34 → vH m g q = 0 ∧ vL m g q = 0 :=
    ⟨fun x y => if x = 53 then v else if x = 54 then 4 else 0, rfl, fun q _ _ => ⟨rfl, rfl⟩, fun g _ _ => ⟨rfl, fun q _ _ => ⟨rfl, rfl⟩⟩⟩
  obtain ⟨m0, mv, m5, mh⟩ := mk
  have cls : jHo (fun w1 s1 => w1 = 0 ∧ (∃ c, dC v c ∧ jIt (fun _ _ => none) (bX10_deal_56) 1000 0 c = some (0, s1)) ∧ ∃ m : jMem, iT (jMix s1 m) ∧ (∀ g : Int, 0 ≤ g → g < 4 → jSum (vH m g) 34 = 13 ∧ m 58 g = 0) ∧ jSum (m 54) 34 = 84) (fX10_deal v s) := by
    refine zX10_deal hI v0 (fun c fr cv c3 ch => ?_)
    have i1 : iT (jMix c m0) := iT_new c3 ch m5 mh
    have i2 : iS (jMix c m0) := by unfold iS; rw [jMix_c (by decide), jMix_m (by decide)]; omega
    obtain ⟨C, M, N, hC, hM, hst, j1, j2, -, j4, j5, j6⟩ := jSeq i1 i2 (sum0 mh) (sum4 m5) 52 (Nat.le_refl 52)
    have run : jHo (fun w1 s1 => w1 = 0 ∧ s1 = C 52) (jIt (fun _ _ => none) (bX10_deal_56) 1000 0 c) := by
      refine gIt2 (fun a z => ∃ h : Nat, a = h ∧ h ≤ 4 ∧ z = C (13 * h)) (fun a => (4 - a).toNat) ?_ 1000 0 c ⟨0, rfl, by omega, hC.symm⟩ (by decide)
      rintro rec a z ⟨h, rfl, h4, rfl⟩ ih
      unfold bX10_deal_56
      refine gHo_if (fun hc => ?_) (fun hc => ?_)
      · have e : h = 4 := by omega
        subst e
        exact gHo_ret ⟨rfl, rfl⟩
      · refine gIt3 (fun a1 a2 z => a1 = h ∧ ∃ n : Nat, a2 = n ∧ n ≤ 13 ∧ z = C (13 * h + n)) (fun _ a2 => (13 - a2).toNat) ?_ 1000 _ 0 _ ⟨rfl, 0, rfl, by omega, rfl⟩ (by decide)
        rintro rec2 a1 a2 z ⟨rfl, n, rfl, hn, rfl⟩ ih2
        unfold bX10_deal_63
        refine gHo_if (fun hc2 => ?_) (fun hc2 => ?_)
        · have e : n = 13 := by omega
          subst e
          unfold bX10_deal_86
          refine gHo_l32 (by omega) (by omega) (ih _ _ ⟨h + 1, by omega, by omega, rfl⟩ (by omega))
        · have hk := (hst (13 * h + n) (by omega)).2.1
          rw [show (13 * h + n) / 13 = h by omega] at hk
          obtain ⟨t0, t1, -⟩ := jh_t (h := (h : Int)) (by omega) (by omega)
          refine gHo_gd ⟨by omega, by omega⟩ (gHo_let ?_)
          rw [t0, hk, jBd_s]
          refine gHo_l32 (by omega) (by omega) (ih2 _ _ _ ⟨rfl, n + 1, by omega, by omega, rfl⟩ (by omega))
    obtain ⟨w1, s1, e, rfl, rfl⟩ := run
    refine ⟨0, C 52, e, rfl, ⟨c, ⟨cv, c3, ch⟩, e⟩, M 52, j1, fun g g0 g4 => ⟨?_, ?_⟩, by rw [j6]; rfl⟩
    · rw [j4 g g0 g4, if_neg (by omega)]
      split <;> omega
    · rw [j5]; exact (mh g g0 g4).1
  obtain ⟨w1, s1, e, rfl, k⟩ := cls
  exact ⟨s1, e, k⟩
theorem jSum_nn0 {f : Int → Int} {n : Nat} (h0 : ∀ i : Nat, i < n → 0 ≤ f i) (hs : jSum f n = 0) : ∀ i : Nat, i < n → f i = 0 := by
  have pt := jSum_pt (f := fun _ => (0 : Int)) (g := f) (n := n) h0 (by rw [jSum_0]; omega)
  exact fun i hi => (pt i hi).symm
/-- the desk behind a deal -/
def dZ (s : jMem) : Prop := (∀ g : Int, 0 ≤ g → g < 4 → jSum (vH s g) 34 = 13 ∧ s 58 g = 0 ∧ ∀ q : Int, 0 ≤ q → q < 34 → vL s g q = 0) ∧ ∀ q : Int, 0 ≤ q → q < 34 → s 55 q = 0
theorem cl_deal {v : Int} {s : jMem} (hJ : iJ s) (v0 : 0 ≤ v) (v1 : v < 2147483648) : ∃ s1, fX10_deal v s = some (0, s1) ∧ (∃ c, dC v c ∧ jIt (fun _ _ => none) (bX10_deal_56) 1000 0 c = some (0, s1)) ∧ iJ (jCan s1) ∧ dZ (jCan s1) := by
  have hI := hJ.2.2.2.2.1
  obtain ⟨s1, e1, kc, m, hT, hm, h54⟩ := cl_deal0 hI v0 v1
  obtain ⟨w, t1, t2, e2, e3, iT2, iS2, f2⟩ := op_deal hI hJ.2.2.1 (v := v) ⟨by omega, by omega⟩
  rw [e1] at e2
  injection e2 with e2
  injection e2 with _ e2
  subst e2
  have fr := k11_deal v s1 _ _ e3
  refine ⟨s1, e1, kc, iJ_can (fun x hx => (fr x hx).symm) (iJ_D hJ iT2 iS2 f2), ?_⟩
  -- what is where
  have cl : ∀ x : Int, x < 53 → jMix s1 m x = s1 x := fun x hx => jMix_c hx
  obtain ⟨hW, hH, hG⟩ := id hT
  have c58 : ∀ g : Int, 0 ≤ g → g < 4 → jMix s1 m 58 g = 0 := fun g g0 g4 => by rw [jMix_m (by decide)]; exact (hm g g0 g4).2
  have vHm : ∀ g, vH (jMix s1 m) g = vH m g := fun g => by funext q; unfold vH; rw [jMix_m (by decide)]
  have L0 : ∀ g : Int, 0 ≤ g → g < 4 → ∀ q : Int, 0 ≤ q → q < 34 → vL (jMix s1 m) g q = 0 := fun g g0 g4 q q0 q4 => by
    rw [(hG g g0 g4).2 q q0 q4, c58 g g0 g4]; rfl
  have T0 : ∀ q : Int, 0 ≤ q → q < 34 → jMix s1 m 55 q = 0 := by
    have s13 : ∀ g : Int, 0 ≤ g → g < 4 → jSum (vH (jMix s1 m) g) 34 = 13 := fun g g0 g4 => by rw [vHm]; exact (hm g g0 g4).1
    have s84 : jSum (jMix s1 m 54) 34 = 84 := by rw [jMix_m (by decide)]; exact h54
    have tot : jSum (jMix s1 m 55) 34 = 0 := by
      have e : jSum (fun q => jMix s1 m 54 q + jMix s1 m 55 q + vH (jMix s1 m) 0 q + vH (jMix s1 m) 1 q + vH (jMix s1 m) 2 q + vH (jMix s1 m) 3 q) 34 = jSum (fun _ => 4) 34 := jSum_cg (fun i hi => by
        have a := (hW i (by omega) (by omega)).2.2.2.2
        rw [L0 0 (by decide) (by decide) i (by omega) (by omega), L0 1 (by decide) (by decide) i (by omega) (by omega), L0 2 (by decide) (by decide) i (by omega) (by omega), L0 3 (by decide) (by decide) i (by omega) (by omega)] at a
        omega)
      have e4 : jSum (fun _ => (4 : Int)) 34 = 136 := rfl
      have a := s13 0 (by decide) (by decide)
      have b := s13 1 (by decide) (by decide)
      have c := s13 2 (by decide) (by decide)
      have d := s13 3 (by decide) (by decide)
      have ad : ∀ f g : Int → Int, ∀ n : Nat, jSum (fun q => f q + g q) n = jSum f n + jSum g n := by
        intro f g n
        induction n with
        | zero => rfl
        | succ n ih => simp only [jSum]; rw [ih]; omega
      rw [ad, ad, ad, ad, ad] at e
      omega
    have nn := jSum_nn0 (f := jMix s1 m 55) (n := 34) (fun i hi => (hW i (by omega) (by omega)).2.2.2.1) tot
    intro q q0 q4
    have := nn q.toNat (by omega)
    rw [show ((q.toNat : Nat) : Int) = q by omega] at this
    exact this
  refine ⟨fun g g0 g4 => ⟨?_, ?_, fun q q0 q4 => ?_⟩, fun q q0 q4 => ?_⟩
  · rw [← (hm g g0 g4).1]
    exact jSum_cg (fun i hi => by
      rw [(jCan_56 s1 (by omega) (by omega)).1, ← cl _ (by omega), ((hH g g0 g4).1 i (by omega) (by omega)).1, vHm])
  · show s1 (37 + 4 * g) 4 = 0
    rw [← cl _ (by omega), (hH g g0 g4).2.1]; exact c58 g g0 g4
  · rw [(jCan_56 s1 q0 q4).2, ← cl _ (by omega), ((hH g g0 g4).1 q q0 q4).2.1]; exact L0 g g0 g4 q q0 q4
  · show s1 4 q = 0
    rw [← cl 4 (by decide), (hW q q0 q4).2.1]; exact T0 q q0 q4
/-- a deal of one seed is one deal -/
theorem cl_deal_u {v : Int} {c d s t : jMem} (hc : dC v c) (hd : dC v d) (es : jIt (fun _ _ => none) (bX10_deal_56) 1000 0 c = some (0, s)) (et : jIt (fun _ _ => none) (bX10_deal_56) 1000 0 d = some (0, t)) : qR s t := by
  obtain ⟨t', e, k⟩ := rX10_deal56 (dC_R hc hd) 0 s es
  rw [et] at e
  injection e with e
  injection e with _ e
  subst e; exact k
end

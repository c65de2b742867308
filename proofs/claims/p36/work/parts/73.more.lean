/-! ===== lacks: more, lack ===== -/
section
theorem zX11_helping {s : jMem} {w : Int} (hr : yRdy s w) (hs : jSum (s 68) 34 ≤ 14) (hu : ∀ q : Int, 0 ≤ q → q < 34 → 0 ≤ s 76 q ∧ s 76 q ≤ 1000) : jHo (fun r t => (∀ y : Int, y ≠ 53 → y ≠ 72 → y ≠ 73 → y ≠ 74 → y ≠ 75 → t y = s y) ∧ (∀ y : Int, y ≠ 27 → t 53 y = s 53 y) ∧ yRdy t w ∧ ∃ v, yLack (s 53 10) (s 53 11) w (s 68) (s 69) v ∧ ∃ b : Int → Int, r = jSum (fun q => if b q = 0 then 0 else s 76 q) 34 ∧ ∀ q : Int, 0 ≤ q → q < 34 → (b q = 1 ∨ b q = 0) ∧ (b q = 1 ↔ yHc (s 53 10) (s 53 11) w (s 68) (s 69) v q)) (fX11_helping s) := by
  have jz := jzk_75
  have u := jik_m
  have u76 : jik 76 = 34 := by decide +kernel
  unfold fX11_helping
  refine gHo_bd (zX11_layHelps hr hs) (fun _ t ht => ?_)
  obtain ⟨k1, k2, k3, k4, k5⟩ := ht
  obtain ⟨r1, r2, r3, r4, r5⟩ := hr
  have e68 := k1 68 (by decide) (by decide) (by decide) (by decide) (by decide)
  have e69 := k1 69 (by decide) (by decide) (by decide) (by decide) (by decide)
  have e76 := k1 76 (by decide) (by decide) (by decide) (by decide) (by decide)
  have rdy : yRdy t w := ⟨r1, by rw [k2 20 (by decide)]; exact r2, by rw [e68, e69]; exact r3, by rw [e69]; exact r4, k3⟩
  obtain ⟨S, hS⟩ : ∃ S : Nat → Int, S = jSum (fun q => if t 75 q = 0 then 0 else s 76 q) := ⟨_, rfl⟩
  have hSs : ∀ n : Nat, S (n + 1) = S n + (if t 75 n = 0 then 0 else s 76 n) := fun n => by rw [hS]; rfl
  refine gIt3 (fun a1 a2 z => z = t ∧ ∃ n : Nat, a2 = n ∧ n ≤ 34 ∧ a1 = S n ∧ 0 ≤ a1 ∧ a1 ≤ 1000 * (n : Int)) (fun _ a2 => (34 - a2).toNat) ?_ 1000 0 0 t ⟨rfl, 0, rfl, by omega, by rw [hS]; rfl, by omega, by omega⟩ (by decide)
  rintro rec a1 a2 z ⟨rfl, n, rfl, hn, ha, a0, a4⟩ ih
  unfold bX11_helping_8
  refine gHo_if (fun c => ?_) (fun c => ?_)
  · have : n = 34 := by omega
    subst this
    exact gHo_ret ⟨k1, k2, rdy, _, k4, z 75, by rw [ha, hS], k5⟩
  · have hu' := hu n (by omega) (by omega)
    have st := hSs n
    refine gHo_gd ⟨by omega, by omega⟩ (gHo_let (gHo_if (fun e => ?_) (fun e => gHo_gd ⟨by omega, by omega⟩ (gHo_let ?_))))
    · rw [if_pos e] at st
      unfold bX11_helping_34
      exact gHo_l32 (by omega) (by omega) (gHo_l32 (by omega) (by omega) (ih _ _ _ ⟨rfl, n + 1, by omega, by omega, by omega, by omega, by omega⟩ (by omega)))
    · rw [if_neg e] at st
      rw [e76]
      unfold bX11_helping_34
      exact gHo_l32 (by omega) (by omega) (gHo_l32 (by omega) (by omega) (ih _ _ _ ⟨rfl, n + 1, by omega, by omega, by omega, by omega, by omega⟩ (by omega)))
/-- what helps, counted: the class as the reference -/
theorem yHelp_same {s1 : jMem} {lim : Nat} {w f7 f13 v : Int} {H L H' L' u u' b : Int → Int} (ans : yAns lim w s1) (e7 : s1 6 0 = f7) (e13 : s1 6 1 = f13) (hq : ∀ q : Int, 0 ≤ q → q < 34 → s1 8 q = H q ∧ s1 9 q = L q) (hh : ∀ q : Int, 0 ≤ q → q < 34 → H' q = H q ∧ L' q = L q) (k : yLack f7 f13 w H' L' v) (hv : v ≤ lim) (hb : ∀ q : Int, 0 ≤ q → q < 34 → (b q = 1 ∨ b q = 0) ∧ (b q = 1 ↔ yHc f7 f13 w H' L' v q)) (hu : ∀ q : Int, 0 ≤ q → q < 34 → s1 5 q = u q ∧ 0 ≤ u q ∧ u q ≤ 1000) (hu' : ∀ q : Int, 0 ≤ q → q < 34 → u' q = u q) : s1 7 12 = v ∧ fX3_helpingOf 5 s1 = some (jSum (fun q => if b q = 0 then 0 else u' q) 34, s1) := by
  have yl := yLack_cg hh k
  obtain ⟨c1, B, b1, b2, b3⟩ := (yAns_v ans e7 e13 hq yl).1 hv
  refine ⟨c1, ?_⟩
  have u5 : jik 5 = 34 := by decide +kernel
  rw [zX3_helpingOf (r := 5) (u := u) (b := b) b2 b1 u5 hu (fun q hq' => ?_)]
  · rw [jSum_cg (g := fun q => if b q = 0 then 0 else u' q) (fun i hi => by rw [hu' i (by omega) (by omega)])]
  · have := hb q (by omega) (by omega)
    have e := yHc_cg (f7 := f7) (f13 := f13) (w := w) (v := v) (q := (q : Int)) hh (by omega) (by omega)
    rw [b3 q hq', ← e, ← this.2]
    have := this.1
    constructor
    · intro z z1; omega
    · intro z; omega
theorem op_more {h q : Int} {s : jMem} (hI : iT s) (hF : iF s) (hch : yCch s) : ∃ v s1 s2, fX10_more h q s = some (v, s1) ∧ fX11_more h q s1 = some (v, s2) ∧ fC s s1 ∧ fM s1 s2 ∧ yCch s1 := by
  have w := jrk_t
  obtain ⟨c, c1, -, c3⟩ := zX10_refusal (h := h) (q := q) hI (fC_rf s)
  by_cases hc : c = 0
  · obtain ⟨⟨h0, h4⟩, ⟨q0, q4⟩, hs, h1⟩ := c3 hc
    obtain ⟨t0, t1, -⟩ := jh_t h0 h4
    obtain ⟨n0, s0, e0, rfl, fr0, u0⟩ := zX10_countHidden hI h0 h4
    have fc0 : fC s s0 := fun x hx _ => fr0 x hx
    have hI0 := iT_C hI fc0
    have ch0 : yCch s0 := fun x x0 x1 => by rw [fr0 14 (by decide), fr0 15 (by decide)]; exact hch x x0 x1
    have vh0 := vH_C fc0 h
    have vl0 : vL s0 h = vL s h := by funext q; unfold vL; rw [fr0 57 (by decide)]
    have e58 := fr0 58 (by decide)
    obtain ⟨v0, s1, e1, fk, hq, tb, ans⟩ := zX10_reckonWithout hI0 ch0 h0 h4 q0 q4 (by rw [vh0]; exact h1)
    rw [vh0, vl0] at hq
    rw [e58] at tb ans
    have fc := fC_tr fc0 (fK_C fk)
    have hI1 := iT_C hI fc
    have e6 := fk 6 (by decide)
    have e53 := fk 53 (by decide)
    rw [fr0 6 (by decide)] at e6
    rw [fr0 53 (by decide)] at e53
    have eU : vU s1 h = vU s h := by
      funext q
      unfold vU vH vL
      rw [fc 55 (by decide) (by decide), fc 56 (by decide) (by decide), fc 57 (by decide) (by decide)]
    have m : jHo (fun r t => fX3_helpingOf 5 s1 = some (r, s1) ∧ fM s1 t) (fX11_more h q s1) := by
      have d2 := zX10_refusal_u hI fc c1
      rw [hc] at d2
      unfold fX11_more
      rw [d2, jBd_s, if_pos (show (0 : Int) = 0 from rfl)]
      refine gHo_bd (zX11_layUnseen hI1 h0 h4) (fun _ s2 hs2 => ?_)
      obtain ⟨-, fr2, u2⟩ := hs2
      rw [eU] at u2
      have fc2 : ∀ x : Int, x ≠ 5 → ¬ (7 ≤ x ∧ x ≤ 20) → x ≠ 76 → s2 x = s x := fun x x1 x2 x3 => by rw [fr2 x x3, fc x x1 x2]
      have fc12 : fC s2 s2 := fC_rf s2
      have hI2 : iT s2 := iT_eq hI1 (fun x hx => fr2 x (by omega))
      have vh2 : vH s2 h = vH s h := by funext q; unfold vH; rw [fc2 56 (by decide) (by decide) (by decide)]
      have vl2 : vL s2 h = vL s h := by funext q; unfold vL; rw [fc2 57 (by decide) (by decide) (by decide)]
      have e582 := fc2 58 (by decide) (by decide) (by decide)
      refine zX11_rdy hI2 fc12 h0 h4 (fun t k1 k2 k3 k4 k5 => ?_)
      rw [vh2, vl2] at k3
      rw [e582] at k4
      rw [vh2] at k5
      have kq := k3 q q0 q4
      refine gHo_bd (zX11_less k4 q0 q4 (by omega)) (fun _ t2 ht2 => ?_)
      obtain ⟨m1, m2, m3⟩ := ht2
      have f53 := m1 53 (by decide) (by decide) (by decide) (by decide)
      have t76 : ∀ p : Int, 0 ≤ p → p < 34 → t2 76 p = vU s h p := fun p p0 p4 => by
        rw [m1 76 (by decide) (by decide) (by decide) (by decide), k1 76 (by decide) (by decide) (by decide) (by decide) (by decide) (by decide)]
        exact u2 p p0 p4
      have ub : ∀ p : Int, 0 ≤ p → p < 34 → 0 ≤ vU s h p ∧ vU s h p ≤ 1000 := fun p p0 p4 => by
        have a := iT_U hI h0 h4 p0 p4
        have b := ((hI.2.1 h h0 h4).1 p p0 p4).2.2
        omega
      have a6 := (hI.2.1 h h0 h4).2.2.2.2.2
      have a3 := (hI.2.1 h h0 h4).2.2.1
      refine gHo_bd (zX11_helping m3 (by rw [m2, yUp_sum q0 q4]; omega) (fun p p0 p4 => by rw [t76 p p0 p4]; exact ub p p0 p4)) (fun r t3 ht3 => gHo_ret ?_)
      obtain ⟨n1, n2, -, v, yl, b, rfl, hb⟩ := ht3
      rw [f53, k2 10 (by decide), k2 11 (by decide), fc2 53 (by decide) (by decide) (by decide)] at yl hb
      have hh : ∀ p : Int, 0 ≤ p → p < 34 → t2 68 p = yUp (vH s h) q (vH s h q + -1) p ∧ t2 69 p = vL s h p := fun p p0 p4 => ⟨by rw [m2]; exact yUp_cg q0 q4 (fun p p0 p4 => (k3 p p0 p4).1) p p0 p4, by rw [m1 69 (by decide) (by decide) (by decide) (by decide)]; exact (k3 p p0 p4).2⟩
      have bd := iT_less hI h0 h4 q0 q4 h1 hs (yLack_cg hh yl)
      refine ⟨(yHelp_same ans (by rw [e6]; exact hF.1) (by rw [e6]; exact hF.2.1) hq hh yl bd.2 hb (fun p p0 p4 => ⟨by rw [fk 5 (by decide)]; exact u0 p p0 p4, ub p p0 p4⟩) t76).2, fun x y hx hy => ?_⟩
      by_cases e : x = 53
      · subst e
        rw [n2 y (by omega), f53, k2 y (by omega), fr2 53 (by decide)]
      · rw [n1 x e (by omega) (by omega) (by omega) (by omega), m1 x (by omega) (by omega) (by omega) (by omega), k1 x e (by omega) (by omega) (by omega) (by omega) (by omega), fr2 x (by omega)]
    obtain ⟨v, s2, e2, e3, fm⟩ := m
    refine ⟨v, s1, s2, ?_, e2, fc, fm, tb.1.2.2.2.2.2⟩
    rw [fX10_more, c1, jBd_s, if_pos hc, jGd_e ⟨h0, by omega⟩, jLet_e, t0, e0, jBd_s, jGd_e ⟨h0, by omega⟩, jLet_e, e1, jBd_s, e3, jBd_s]
    rfl
  · have c2' := zX10_refusal_u hI (fC_rf s) c1
    refine ⟨c, s, s, ?_, ?_, fC_rf s, fM_rf s, hch⟩
    · rw [fX10_more, c1, jBd_s, if_neg hc]; rfl
    · rw [fX11_more, c2', jBd_s, if_neg hc]; rfl
end

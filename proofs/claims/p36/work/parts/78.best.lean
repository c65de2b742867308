/-! ===== best, the call ===== -/
section
theorem yLack_ex {f7 f13 w : Int} {H L : Int → Int} : ∃ v, yLack f7 f13 w H L v := by
  obtain ⟨lw, hlw⟩ := yLE_ex (S := fun c => ∃ n, yPn L w n ∧ c = yTC H n 4) (fun c ⟨n, _, hc⟩ => by rw [hc]; exact yTC_nn 4)
  exact ⟨_, lw, hlw, rfl⟩
/-- the least lack behind a removal is reached -/
theorem yLeast {s : jMem} {h v f7 f13 : Int} {u f m : Int → Int} (hI : iT s) (h0 : 0 ≤ h) (h4 : h < 4) (hs : jSum (vH s h) 34 + 3 * s 58 h = 14) (yl : yLack f7 f13 (4 - s 58 h) (vH s h) (vL s h) v) (hfm : yFm f7 f13 (4 - s 58 h) (vH s h) (vL s h) u f m) : (∃ q : Int, 0 ≤ q ∧ q < 34 ∧ 1 ≤ vH s h q ∧ f q = if v < 1 then 1 else v) ∧ ∀ q : Int, 0 ≤ q → q < 34 → 1 ≤ vH s h q → (if v < 1 then 1 else v) ≤ f q := by
  obtain ⟨a1, a2, a3, a4, a5, a6⟩ := hI.2.1 h h0 h4
  have bd := iT_lack hI h0 h4 yl
  have nn : ∀ q : Int, 0 ≤ q → q < 34 → 0 ≤ vH s h q := fun q q0 q4 => (a1 q q0 q4).2.2.1
  have up : ∀ q : Int, 0 ≤ q → q < 34 → 1 ≤ vH s h q → f q - 1 ≤ v ∧ v ≤ f q := by
    intro q q0 q4 h1
    obtain ⟨y1, y2, -⟩ := hfm q q0 q4 h1
    exact yLack_up (H := yUp (vH s h) q (vH s h q + -1)) q0 q4 (fun p p0 p4 => by
      by_cases e : p = q
      · subst e; rw [yUp_at]; omega
      · rw [yUp_o e]; exact nn p p0 p4) (by rw [yUp_sum q0 q4]; omega) y1 (by rw [yUp_back]; exact yl)
  refine ⟨?_, fun q q0 q4 h1 => ?_⟩
  · by_cases c : v < 1
    · rw [if_pos c]
      have pos : 0 < jSum (vH s h) 34 := by omega
      obtain ⟨k, k34, hk⟩ := jSum_pos pos
      have a := up k (by omega) (by omega) (by omega)
      have b := (hfm k (by omega) (by omega) (by omega)).2.1
      exact ⟨k, by omega, by omega, by omega, by omega⟩
    · rw [if_neg c]
      obtain ⟨q, q0, q4, h1, h2⟩ := yKeep (w := 4 - s 58 h) ⟨by omega, by omega⟩ nn (by omega) yl (by omega) (by omega)
      exact ⟨q, q0, q4, h1, h2 _ (hfm q q0 q4 h1).1⟩
  · have a := up q q0 q4 h1
    have b := (hfm q q0 q4 h1).2.1
    split <;> omega
theorem op_best {h : Int} {s : jMem} (hI : iT s) (hF : iF s) (hch : yCch s) : ∃ v s1 s2, fX10_best h s = some (v, s1) ∧ fX11_best h s1 = some (v, s2) ∧ fC s s1 ∧ fM s1 s2 ∧ yCch s1 := by
  have w := jrk_t
  by_cases hh : 0 ≤ h ∧ h < 4
  · obtain ⟨h0, h4⟩ := hh
    obtain ⟨t0, t1, -⟩ := jh_t h0 h4
    obtain ⟨a1, a2, a3, a4, a5, a6⟩ := hI.2.1 h h0 h4
    obtain ⟨full, rests⟩ := zX1_size hI h0 h4
    by_cases hs : jSum (vH s h) 34 + 3 * s 58 h = 14
    · obtain ⟨f, m, hfm⟩ := yFm_ex (f7 := s 53 10) (f13 := s 53 11) hI h0 h4 hs
      obtain ⟨v, yl⟩ := yLack_ex (f7 := s 53 10) (f13 := s 53 11) (w := 4 - s 58 h) (H := vH s h) (L := vL s h)
      obtain ⟨b, s1, e1, fc, ch1, x, ic⟩ := zX10_bestThrow hI hch h0 h4 hfm hF.1 hF.2.1 yl
      obtain ⟨l1, l2⟩ := yLeast hI h0 h4 hs yl hfm
      have hI1 := iT_C hI fc
      have eU : vU s1 h = vU s h := by
        funext q
        unfold vU vH vL
        rw [fc 55 (by decide) (by decide), fc 56 (by decide) (by decide), fc 57 (by decide) (by decide)]
      have mm : jHo (fun r t => r = b ∧ fM s1 t) (fX11_best h s1) := by
        rw [fX11_best, sX11_isHand, jBd_s, jb_1 ⟨h0, by omega⟩, if_neg (show ¬ (1 : Int) = 0 by decide), sX11_isFull_C hI fc h0 h4, jBd_s, jb_1 hs, if_neg (show ¬ (1 : Int) = 0 by decide)]
        refine gHo_bd (zX11_layUnseen hI1 h0 h4) (fun _ s2 hs2 => ?_)
        obtain ⟨-, fr2, u2⟩ := hs2
        rw [eU] at u2
        have fc2 : ∀ x : Int, x ≠ 5 → ¬ (7 ≤ x ∧ x ≤ 20) → x ≠ 76 → s2 x = s x := fun x x1 x2 x3 => by rw [fr2 x x3, fc x x1 x2]
        have hI2 : iT s2 := iT_eq hI1 (fun x hx => fr2 x (by omega))
        have vh2 : vH s2 h = vH s h := by funext q; unfold vH; rw [fc2 56 (by decide) (by decide) (by decide)]
        have vl2 : vL s2 h = vL s h := by funext q; unfold vL; rw [fc2 57 (by decide) (by decide) (by decide)]
        have e582 := fc2 58 (by decide) (by decide) (by decide)
        refine zX11_rdy hI2 (fC_rf s2) h0 h4 (fun t k1 k2 k3 k4 k5 => ?_)
        rw [vh2, vl2] at k3
        rw [e582] at k4
        rw [vh2] at k5
        have e53 := fc2 53 (by decide) (by decide) (by decide)
        refine gHo_mono (zX11_bestLoop hfm k4 (by rw [k2 10 (by decide), e53]) (by rw [k2 11 (by decide), e53]) k3 (by omega) (fun p p0 p4 => ?_)) (fun r t3 ht3 => ?_)
        · rw [k1 76 (by decide) (by decide) (by decide) (by decide) (by decide) (by decide), u2 p p0 p4]
          have a := iT_U hI h0 h4 p0 p4
          have b := (a1 p p0 p4).2.2
          exact ⟨rfl, by omega, by omega⟩
        · obtain ⟨n1, n2, l, x', ir⟩ := ht3
          refine ⟨(yIcr ic ir l1 l2).symm, fun x y hx hy => ?_⟩
          by_cases e : x = 53
          · subst e
            rw [n2 y (by omega), k2 y (by omega), fr2 53 (by decide)]
          · rw [n1 x e (by omega) (by omega) (by omega) (by omega) (by omega), k1 x e (by omega) (by omega) (by omega) (by omega) (by omega), fr2 x (by omega)]
      obtain ⟨r, s2, e2, rfl, fm⟩ := mm
      refine ⟨r, s1, s2, ?_, e2, fc, fm, ch1⟩
      rw [fX10_best, sX10_isHand, jBd_s, jb_1 ⟨h0, h4⟩, if_neg (by decide), jGd_e ⟨h0, by omega⟩, jLet_e, t0, jGd_e t1, full, jBd_s, jb_1 hs, if_neg (by decide), jGd_e ⟨h0, by omega⟩, jLet_e, e1, jBd_s]
      rfl
    · refine ⟨-2, s, s, ?_, ?_, fC_rf s, fM_rf s, hch⟩
      · rw [fX10_best, sX10_isHand, jBd_s, jb_1 ⟨h0, h4⟩, if_neg (by decide), jGd_e ⟨h0, by omega⟩, jLet_e, t0, jGd_e t1, full, jBd_s, jb_0 hs, if_pos rfl]; rfl
      · rw [fX11_best, sX11_isHand, jBd_s, jb_1 ⟨h0, by omega⟩, if_neg (by decide), sX11_isFull_C hI (fC_rf s) h0 h4, jBd_s, jb_0 hs, if_pos rfl]; rfl
  · refine ⟨-1, s, s, ?_, ?_, fC_rf s, fM_rf s, hch⟩
    · rw [fX10_best, sX10_isHand, jBd_s, jb_0 hh, if_pos rfl]; rfl
    · rw [fX11_best, sX11_isHand, jBd_s, jb_0 (by omega), if_pos rfl]; rfl
end

/-! ===== odds, the call ===== -/
section
theorem op_odds {h d : Int} {s : jMem} (hI : iT s) (hF : iF s) (hch : yCch s) : ∃ v s1 s2, fX10_odds h d s = some (v, s1) ∧ fX11_odds h d s1 = some (v, s2) ∧ fC s s1 ∧ fM s1 s2 ∧ yCch s1 := by
  have w0 := jrk_t
  by_cases hh : 0 ≤ h ∧ h < 4
  · obtain ⟨h0, h4⟩ := hh
    obtain ⟨t0, t1, -⟩ := jh_t h0 h4
    obtain ⟨a1, a2, a3, a4, a5, a6⟩ := hI.2.1 h h0 h4
    obtain ⟨full, rests⟩ := zX1_size hI h0 h4
    by_cases hd : 1 ≤ d ∧ d ≤ 2
    · by_cases hs : jSum (vH s h) 34 + 3 * s 58 h = 13
      · obtain ⟨w, hw⟩ : ∃ w : Nat, (w : Int) = 4 - s 58 h := ⟨(4 - s 58 h).toNat, by omega⟩
        have w4 : w ≤ 4 := by omega
        obtain ⟨H, hH⟩ : ∃ H, H = vH s h := ⟨_, rfl⟩
        obtain ⟨L, hL⟩ : ∃ L, L = vL s h := ⟨_, rfl⟩
        obtain ⟨u, hu⟩ : ∃ u, u = vU s h := ⟨_, rfl⟩
        obtain ⟨f7, e7⟩ : ∃ f7, f7 = s 53 10 := ⟨_, rfl⟩
        obtain ⟨f13, e13⟩ : ∃ f13, f13 = s 53 11 := ⟨_, rfl⟩
        have hro : yRoom L := by rw [hL]; exact iT_room hI h0 h4
        have hb : ∀ q : Int, 0 ≤ q → q < 34 → 0 ≤ H q ∧ 0 ≤ L q ∧ 0 ≤ u q ∧ u q + H q + L q ≤ 4 := fun q q0 q4 => by
          have a := iT_U hI h0 h4 q0 q4
          have b := (a1 q q0 q4).2.2
          rw [hH, hL, hu]; omega
        have hs' : jSum H 34 = 3 * (w : Int) + 1 := by rw [hH]; omega
        obtain ⟨S, hS⟩ : ∃ S, S = jSum u 34 := ⟨_, rfl⟩
        have S136 : 0 ≤ S ∧ S ≤ 136 := by
          have a := jSum_le (f := fun _ => 0) (g := u) (n := 34) (fun i hi => (hb i (by omega) (by omega)).2.2.1)
          have b := jSum_le (f := u) (g := fun _ => 4) (n := 34) (fun i hi => by have := hb i (by omega) (by omega); omega)
          have e : jSum (fun _ => (4 : Int)) 34 = 136 := by decide
          rw [e, ← hS] at b
          rw [jSum_0, ← hS] at a
          exact ⟨a, b⟩
        obtain ⟨G, hG⟩ := yGp_ex (f7 := f7) (f13 := f13) w4 hb hs' hro hS
        obtain ⟨v, yl⟩ := yLack_ex (f7 := f7) (f13 := f13) (w := (w : Int)) (H := H) (L := L)
        -- the reference
        have ref : ∀ s1 : jMem, fC s s1 → jHo (fun r t => r = (if d = 1 then yMk f7 f13 w H u else yOd u G 34) ∧ fM s1 t) (fX11_odds h d s1) := by
          intro s1 fc
          have hI1 := iT_C hI fc
          have eU : vU s1 h = u := by
            rw [hu]
            funext q
            unfold vU vH vL
            rw [fc 55 (by decide) (by decide), fc 56 (by decide) (by decide), fc 57 (by decide) (by decide)]
          rw [fX11_odds, sX11_isHand, jBd_s, jb_1 ⟨h0, by omega⟩, if_neg (show ¬ (1 : Int) = 0 by decide), sX11_in, jBd_s, jb_1 hd, if_neg (show ¬ (1 : Int) = 0 by decide), sX11_sizeOf_C hI fc h0 h4, jBd_s, if_pos hs]
          refine gHo_bd (zX11_layUnseen hI1 h0 h4) (fun x13 s2 hs2 => ?_)
          obtain ⟨ex, fr2, u2⟩ := hs2
          rw [eU] at u2 ex
          rw [← hS] at ex
          refine gHo_bd (zX11_look h0 h4) (fun _ t ht => ?_)
          obtain ⟨k1, k2, k3, k4⟩ := ht
          have vh2 : vH s2 h = H := by rw [hH]; funext q; unfold vH; rw [fr2 56 (by decide), fc 56 (by decide) (by decide)]
          have vl2 : vL s2 h = L := by rw [hL]; funext q; unfold vL; rw [fr2 57 (by decide), fc 57 (by decide) (by decide)]
          rw [vh2, vl2] at k4
          have e53 : ∀ y : Int, y ≠ 20 → t 53 y = s 53 y := fun y hy => by rw [k2 y hy, fr2 53 (by decide), fc 53 (by decide) (by decide)]
          have e20 : t 53 20 = 4 - (w : Int) := by rw [k3, fr2 58 (by decide), fc 58 (by decide) (by decide)]; omega
          have t76 : ∀ q : Int, 0 ≤ q → q < 34 → t 76 q = u q ∧ 0 ≤ u q ∧ u q ≤ 4 := fun q q0 q4 => by
            have := hb q q0 q4
            rw [k1 76 (by decide) (by decide) (by decide)]
            exact ⟨u2 q q0 q4, by omega, by omega⟩
          have fm : ∀ z : jMem, (∀ x : Int, x ≠ 68 → x ≠ 70 → x ≠ 71 → x ≠ 72 → x ≠ 73 → x ≠ 74 → x ≠ 76 → z x = t x) → fM s1 z := fun z hz x y hx hy => by
            rw [hz x (by omega) (by omega) (by omega) (by omega) (by omega) (by omega) (by omega)]
            by_cases e : x = 53
            · subst e; rw [k2 y (by omega), fr2 53 (by decide)]
            · rw [k1 x e (by omega) (by omega), fr2 x (by omega)]
          refine gHo_if (fun c => ?_) (fun c => ?_)
          · refine gHo_bd (zX11_making (s := t) (w := w) (f7 := f7) (f13 := f13) (h := H) (u := u) w4 (by rw [e53 10 (by decide), e7]) (by rw [e53 11 (by decide), e13]) e20 (fun p p0 p4 => ⟨(k4 p p0 p4).1, by have := hb p p0 p4; omega⟩) hs' t76) (fun r z hz => gHo_ret ?_)
            obtain ⟨z1, z2, -⟩ := hz
            exact ⟨by rw [if_pos c]; exact z1, fm z (fun x x1 x2 x3 _ _ _ _ => z2 x x1 x2 x3)⟩
          · rw [ex]
            refine gHo_mono (zX11_oddsLoop (s := t) w4 (by rw [e53 10 (by decide), e7]) (by rw [e53 11 (by decide), e13]) e20 k4 t76 hb hs' S136 hG) (fun r z hz => ?_)
            exact ⟨by rw [if_neg c]; exact hz.1, fm z hz.2⟩
        -- the class
        have cls : jHo (fun r t => r = (if d = 1 then yMk f7 f13 w H u else yOd u G 34) ∧ fC s t ∧ yCch t) (fX10_odds h d s) := by
          rw [fX10_odds, sX10_isHand, jBd_s, jb_1 ⟨h0, h4⟩, if_neg (show ¬ (1 : Int) = 0 by decide), if_neg (show ¬ d < 1 by omega), if_pos hd.2, jGd_e ⟨h0, by omega⟩, jLet_e, t0, jGd_e t1, rests, jBd_s, jb_1 hs, if_neg (show ¬ (1 : Int) = 0 by decide), jGd_e ⟨h0, by omega⟩, jLet_e]
          refine gHo_bd (zX10_countHidden hI h0 h4) (fun x16 s1 hs1 => ?_)
          obtain ⟨ex, fr1, u1⟩ := hs1
          rw [← hu, ← hS] at ex
          rw [← hu] at u1
          have fc1 : fC s s1 := fun x hx _ => fr1 x hx
          have hI1 := iT_C hI fc1
          have ch1 : yCch s1 := fun x x0 x1 => by rw [fr1 14 (by decide), fr1 15 (by decide)]; exact hch x x0 x1
          have vh1 : vH s1 h = H := by rw [hH]; exact vH_C fc1 h
          have vl1 : vL s1 h = L := by rw [hL]; funext q; unfold vL; rw [fr1 57 (by decide)]
          rw [ex]
          refine gHo_l32 (by omega) (by omega) (gHo_gd ⟨h0, by omega⟩ (gHo_let ?_))
          have rk := zX3_reckon (lim := d.toNat) ⟨by omega, by omega⟩ hI1 ch1 h0 h4
          rw [show ((d.toNat : Nat) : Int) = d by omega, vh1, vl1, fr1 58 (by decide), ← hw] at rk
          refine gHo_bd rk (fun _ s2 hs2 => ?_)
          obtain ⟨k1, k2, k3, k4⟩ := hs2
          have fc2 := fC_tr fc1 (fK_C k1)
          have g6 : s2 6 = s 6 := by rw [k1 6 (by decide), fr1 6 (by decide)]
          have c7 : s2 6 0 = f7 := by rw [g6, e7]; exact hF.1
          have c13 : s2 6 1 = f13 := by rw [g6, e13]; exact hF.2.1
          have s25 : ∀ q : Int, 0 ≤ q → q < 34 → s2 5 q = u q := fun q q0 q4 => by rw [k1 5 (by decide)]; exact u1 q q0 q4
          obtain ⟨q1, q2⟩ := yAns_v k4 c7 c13 k2 yl
          refine gHo_let ?_
          by_cases d1 : d = 1
          · subst d1
            rw [if_pos (show (1 : Int) = 1 from rfl), if_pos (show (1 : Int) = 1 from rfl)]
            obtain ⟨m1, m2, m3⟩ := yMk_ans (z := s2) (f7 := f7) (f13 := f13) (w := w) (h := H) (L := L) (u := u) w4 k4 c7 c13 k2 s25 hb hs' hro
            refine gHo_if (fun c => ?_) (fun c => ?_)
            · rw [m1 (by omega), jBd_s]
              exact gHo_ret ⟨rfl, fc2, k3.1.2.2.2.2.2⟩
            · exact gHo_ret ⟨(m2 (by omega)).symm, fc2, k3.1.2.2.2.2.2⟩
          · have d2 : d = 2 := by omega
            subst d2
            rw [if_neg d1]
            refine gHo_if (fun c => ?_) (fun c => ?_)
            · rw [if_neg d1]
              refine gHo_gd ⟨h0, by omega⟩ (gHo_let ?_)
              have hI2 := iT_C hI fc2
              have vh2 : vH s2 h = H := by rw [hH]; exact vH_C fc2 h
              have vl2 : vL s2 h = L := by rw [hL]; funext q; unfold vL; rw [fc2 57 (by decide) (by decide)]
              have rk2 := zX3_reckon (lim := 1) ⟨by decide, by decide⟩ hI2 k3.1.2.2.2.2.2 h0 h4
              rw [show ((1 : Nat) : Int) = 1 from rfl, vh2, vl2, fc2 58 (by decide) (by decide), ← hw] at rk2
              refine gHo_bd rk2 (fun _ s3 hs3 => ?_)
              obtain ⟨n1, n2, n3, -⟩ := hs3
              refine gHo_mono (zX10_oddsLoop (s := s3) w4 n3 (by rw [n1 6 (by decide)]; exact c7) (by rw [n1 6 (by decide)]; exact c13) n2 (fun q q0 q4 => ⟨by rw [n1 5 (by decide)]; exact s25 q q0 q4, by have := hb q q0 q4; omega, by have := hb q q0 q4; omega⟩) hb hs' hro hG) (fun r t ht => ?_)
              obtain ⟨p1, p2, p3⟩ := ht
              exact ⟨p1, fC_tr fc2 (fC_tr (fK_C n1) (fun x x1 x2 => p2 x x1 (by omega))), p3⟩
            · refine gHo_ret ⟨?_, fc2, k3.1.2.2.2.2.2⟩
              have far : 2 < v := by
                by_cases e : v ≤ 2
                · have := (q1 (by omega)).1; omega
                · omega
              symm
              refine jSum_zero (fun i hi => ?_)
              by_cases e : u i ≤ 0
              · rw [if_pos e]
              · rw [if_neg e]
                obtain ⟨-, v', yl', -, -, hg⟩ := hG i (by omega) (by omega) (by omega)
                have up := yLack_up (q := (i : Int)) (by omega) (by omega) (fun p p0 p4 => (hb p p0 p4).1) (by omega) yl yl'
                rw [hg, if_neg (by omega), if_neg (by omega), Int.mul_zero]
        obtain ⟨r, s1, e1, hr, fc, ch1⟩ := cls
        obtain ⟨r', s2, e2, hr', fm⟩ := ref s1 fc
        exact ⟨r, s1, s2, e1, by rw [hr, ← hr']; exact e2, fc, fm, ch1⟩
      · refine ⟨-2, s, s, ?_, ?_, fC_rf s, fM_rf s, hch⟩
        · rw [fX10_odds, sX10_isHand, jBd_s, jb_1 ⟨h0, h4⟩, if_neg (by decide), if_neg (by omega), if_pos hd.2, jGd_e ⟨h0, by omega⟩, jLet_e, t0, jGd_e t1, rests, jBd_s, jb_0 hs, if_pos rfl]; rfl
        · rw [fX11_odds, sX11_isHand, jBd_s, jb_1 ⟨h0, by omega⟩, if_neg (by decide), sX11_in, jBd_s, jb_1 hd, if_neg (by decide), sX11_sizeOf_C hI (fC_rf s) h0 h4, jBd_s, if_neg hs]; rfl
    · refine ⟨-1, s, s, ?_, ?_, fC_rf s, fM_rf s, hch⟩
      · rw [fX10_odds, sX10_isHand, jBd_s, jb_1 ⟨h0, h4⟩, if_neg (by decide)]
        by_cases c : d < 1
        · rw [if_pos c]; rfl
        · rw [if_neg c, if_neg (by omega)]; rfl
      · rw [fX11_odds, sX11_isHand, jBd_s, jb_1 ⟨h0, by omega⟩, if_neg (by decide), sX11_in, jBd_s, jb_0 hd, if_pos rfl]; rfl
  · refine ⟨-1, s, s, ?_, ?_, fC_rf s, fM_rf s, hch⟩
    · rw [fX10_odds, sX10_isHand, jBd_s, jb_0 hh, if_pos rfl]; rfl
    · rw [fX11_odds, sX11_isHand, jBd_s, jb_0 (by omega), if_pos rfl]; rfl
end

/-! ===== the law's loop: every call; the end ===== -/
section
theorem k_inj {v v' : Int} {s s' : jMem} (e : some (v, s) = some (v', s')) : s' = s := by
  injection e with e
  injection e with _ e
  exact e.symm
theorem k_way {h i k v : Int} {s s1 : jMem} (hI : iT s) (e : fX10_way h i k s = some (v, s1)) : fJ s s1 := by
  have w := jrk_t
  by_cases hh : 0 ≤ h ∧ h < 4
  · obtain ⟨h0, h4⟩ := hh
    obtain ⟨t0, t1, -⟩ := jh_t h0 h4
    obtain ⟨a1, a2, a3, a4, a5, a6⟩ := hI.2.1 h h0 h4
    rw [fX10_way, sX10_isHand, jBd_s, jb_1 ⟨h0, h4⟩, if_neg (show ¬ (1 : Int) = 0 by decide)] at e
    by_cases c1 : k < 0
    · rw [if_pos c1] at e
      rw [k_inj e]; exact fJ_rf s
    · rw [if_neg c1] at e
      by_cases c2 : k < 5
      · rw [if_pos c2, jGd_e ⟨h0, by omega⟩, jLet_e, t0, jGd_e t1, (zX1_size hI h0 h4).1, jBd_s] at e
        by_cases hs : jSum (vH s h) 34 + 3 * s 58 h = 14
        · obtain ⟨hf, hw⟩ := iH_full hI h0 h4 hs
          obtain ⟨vf, t, ef, fr, -⟩ := zX9_find (s := s) h0 h4 hf (by rw [a2]; exact hw) (fun q q0 q4 => (a1 q q0 q4).1)
          have fj : fJ s t := fun x hx => fr x (by omega)
          rw [jb_1 hs, if_neg (show ¬ (1 : Int) = 0 by decide), jGd_e ⟨h0, by omega⟩, jLet_e, ef, jBd_s] at e
          by_cases c3 : i < 0
          · rw [if_pos c3] at e
            rw [k_inj e]; exact fj
          · rw [if_neg c3, jLet_e] at e
            by_cases c4 : t 17 4 ≤ i
            · rw [if_pos c4] at e
              rw [k_inj e]; exact fj
            · rw [if_neg c4, fX9_codeAt, jLet_e, jLet_e] at e
              by_cases c5 : (0 : Int) ≤ j32 (j32 (5 * i) + k) ∧ j32 (j32 (5 * i) + k) < jik 20
              · rw [jGd_e c5, jLet_e] at e
                rw [k_inj e]; exact fj
              · unfold jGd at e
                rw [if_neg c5] at e
                exact absurd e (by intro z; cases z)
        · rw [jb_0 hs, if_pos (show (0 : Int) = 0 from rfl)] at e
          rw [k_inj e]; exact fJ_rf s
      · rw [if_neg c2] at e
        rw [k_inj e]; exact fJ_rf s
  · rw [fX10_way, sX10_isHand, jBd_s, jb_0 hh, if_pos (show (0 : Int) = 0 from rfl)] at e
    rw [k_inj e]; exact fJ_rf s
theorem j_rack {a1 a2 a3 : Int} {s : jMem} (hJ : iJ s) : ∃ v s1 s2, fX10_rack a1 a2 a3 s = some (v, s1) ∧ fX11_rack a1 a2 a3 s1 = some (v, s2) ∧ iJ s2 := by
  obtain ⟨v, s1, s2, e1, e2, hI, f⟩ := op_rack (r := a1) (k := a2) (n := a3) hJ.1
  exact ⟨v, s1, s2, e1, e2, iJ_R hJ hI f⟩
theorem j_place {a1 a2 a3 : Int} {s : jMem} (hJ : iJ s) : ∃ v s1 s2, fX10_place a1 a2 a3 s = some (v, s1) ∧ fX11_place a1 a2 a3 s1 = some (v, s2) ∧ iJ s2 := by
  obtain ⟨v, s1, s2, e1, e2, hI, f⟩ := op_place (r := a1) (i := a2) (v := a3) hJ.1
  exact ⟨v, s1, s2, e1, e2, iJ_R hJ hI f⟩
theorem j_copy {a1 a2 a3 a4 a5 : Int} {s : jMem} (hJ : iJ s) (r2 : jR 1 a2) (r4 : jR 1 a4) (r5 : jR 1 a5) : ∃ v s1 s2, fX10_copy a1 a2 a3 a4 a5 s = some (v, s1) ∧ fX11_copy a1 a2 a3 a4 a5 s1 = some (v, s2) ∧ iJ s2 := by
  obtain ⟨v, s1, s2, e1, e2, hI, f⟩ := op_copy (r := a1) (i := a2) (t := a3) (j := a4) (n := a5) hJ.1 r2 r4 r5
  exact ⟨v, s1, s2, e1, e2, iJ_R hJ hI f⟩
theorem j_told {a1 a2 : Int} {s : jMem} (hJ : iJ s) : ∃ v s1 s2, fX10_told a1 a2 s = some (v, s1) ∧ fX11_told a1 a2 s1 = some (v, s2) ∧ iJ s2 := by
  obtain ⟨v, e1, e2⟩ := op_told (r := a1) (i := a2) hJ.1
  exact ⟨v, s, s, e1, e2, hJ⟩
theorem j_read {a1 a2 a3 a4 : Int} {s : jMem} (hJ : iJ s) (r3 : jR 1 a3) (r4 : jR 1 a4) : ∃ v s1 s2, fX10_read a1 a2 a3 a4 s = some (v, s1) ∧ fX11_read a1 a2 a3 a4 s1 = some (v, s2) ∧ iJ s2 := by
  obtain ⟨v, s1, s2, e1, e2, hI, f⟩ := op_read (h := a1) (r := a2) (i := a3) (n := a4) hJ.2.2.2.2.1 hJ.1 r3 r4
  refine ⟨v, s1, s2, e1, e2, ?_⟩
  obtain ⟨h1, h2, h3, h4, h5, h6⟩ := hJ
  exact ⟨iR_eq (fun x hx => f x (by omega) (by omega) (by omega) (by omega) (by omega)) h1, iF_eq (f 6 (by decide) (by decide) (by decide) (by decide) (by decide)) (by rw [f 53 (by decide) (by decide) (by decide) (by decide) (by decide)]) (by rw [f 53 (by decide) (by decide) (by decide) (by decide) (by decide)]) h2, iS_eq (by rw [f 0 (by decide) (by decide) (by decide) (by decide) (by decide)]) (by rw [f 53 (by decide) (by decide) (by decide) (by decide) (by decide)]) h3, iU_eq (by rw [f 21 (by decide) (by decide) (by decide) (by decide) (by decide)]) (by rw [f 53 (by decide) (by decide) (by decide) (by decide) (by decide)]) (fun x hx => f x (by omega) (by omega) (by omega) (by omega) (by omega)) h4, hI, yCch_eq (f 14 (by decide) (by decide) (by decide) (by decide) (by decide)) (f 15 (by decide) (by decide) (by decide) (by decide) (by decide)) h6⟩
theorem j_take {a1 a2 : Int} {s : jMem} (hJ : iJ s) : ∃ v s1 s2, fX10_take a1 a2 s = some (v, s1) ∧ fX11_take a1 a2 s1 = some (v, s2) ∧ iJ s2 := by
  obtain ⟨v, s1, s2, e1, e2, hI, f⟩ := op_take (h := a1) (q := a2) hJ.2.2.2.2.1
  exact ⟨v, s1, s2, e1, e2, iJ_T hJ hI f⟩
theorem j_seed {a1 : Int} {s : jMem} (hJ : iJ s) (r1 : jR 1 a1) : ∃ v s1 s2, fX10_seed a1 s = some (v, s1) ∧ fX11_seed a1 s1 = some (v, s2) ∧ iJ s2 := by
  obtain ⟨v, s1, s2, e1, e2, hI, f⟩ := op_seed (v := a1) hJ.2.2.1 r1
  exact ⟨v, s1, s2, e1, e2, iJ_S hJ hI f⟩
theorem j_draw {a1 : Int} {s : jMem} (hJ : iJ s) : ∃ v s1 s2, fX10_draw a1 s = some (v, s1) ∧ fX11_draw a1 s1 = some (v, s2) ∧ iJ s2 := by
  obtain ⟨v, s1, s2, e1, e2, hI, hS, f⟩ := op_draw (h := a1) hJ.2.2.2.2.1 hJ.2.2.1
  exact ⟨v, s1, s2, e1, e2, iJ_D hJ hI hS f⟩
theorem j_deal {a1 : Int} {s : jMem} (hJ : iJ s) (r1 : jR 1 a1) : ∃ v s1 s2, fX10_deal a1 s = some (v, s1) ∧ fX11_deal a1 s1 = some (v, s2) ∧ iJ s2 := by
  obtain ⟨v, s1, s2, e1, e2, hI, hS, f⟩ := op_deal (v := a1) hJ.2.2.2.2.1 hJ.2.2.1 r1
  exact ⟨v, s1, s2, e1, e2, iJ_D hJ hI hS f⟩
theorem j_discard {a1 a2 : Int} {s : jMem} (hJ : iJ s) : ∃ v s1 s2, fX10_discard a1 a2 s = some (v, s1) ∧ fX11_discard a1 a2 s1 = some (v, s2) ∧ iJ s2 := by
  obtain ⟨v, s1, s2, e1, e2, hI, f⟩ := op_discard (h := a1) (q := a2) hJ.2.2.2.2.1
  exact ⟨v, s1, s2, e1, e2, iJ_T hJ hI f⟩
theorem j_open {a1 a2 a3 : Int} {s : jMem} (hJ : iJ s) : ∃ v s1 s2, fX10_open a1 a2 a3 s = some (v, s1) ∧ fX11_open a1 a2 a3 s1 = some (v, s2) ∧ iJ s2 := by
  obtain ⟨v, s1, s2, e1, e2, hI, f⟩ := op_open (h := a1) (k := a2) (q := a3) hJ.2.2.2.2.1
  exact ⟨v, s1, s2, e1, e2, iJ_T hJ hI f⟩
theorem j_clear {a1 : Int} {s : jMem} (hJ : iJ s) : ∃ v s1 s2, fX10_clear a1 s = some (v, s1) ∧ fX11_clear a1 s1 = some (v, s2) ∧ iJ s2 := by
  obtain ⟨v, s1, s2, e1, e2, hI, f⟩ := op_clear (h := a1) hJ.2.2.2.2.1
  exact ⟨v, s1, s2, e1, e2, iJ_T hJ hI f⟩
theorem j_tiles {a1 a2 : Int} {s : jMem} (hJ : iJ s) : ∃ v s1 s2, fX10_tiles a1 a2 s = some (v, s1) ∧ fX11_tiles a1 a2 s1 = some (v, s2) ∧ iJ s2 := by
  obtain ⟨v, e1, e2⟩ := op_tiles (q := a1) (pl := a2) hJ.2.2.2.2.1
  exact ⟨v, s, s, e1, e2, hJ⟩
theorem j_about {a1 a2 : Int} {s : jMem} (hJ : iJ s) : ∃ v s1 s2, fX10_about a1 a2 s = some (v, s1) ∧ fX11_about a1 a2 s1 = some (v, s2) ∧ iJ s2 := by
  obtain ⟨v, e1, e2⟩ := op_about (h := a1) (a := a2) hJ.2.2.2.2.1
  exact ⟨v, s, s, e1, e2, hJ⟩
theorem j_count {a1 a2 : Int} {s : jMem} (hJ : iJ s) (hb : 0 ≤ a2 ∧ a2 ≤ 1) : ∃ v s1 s2, fX10_count a1 a2 s = some (v, s1) ∧ fX11_count a1 a2 s1 = some (v, s2) ∧ iJ s2 := by
  obtain ⟨v, s1, s2, e1, e2, hI, f⟩ := op_count (w := a1) (b := a2) hJ.2.1 hb
  exact ⟨v, s1, s2, e1, e2, iJ_F hJ hI f⟩
theorem j_done {a1 : Int} {s : jMem} (hJ : iJ s) : ∃ v s1 s2, fX10_done a1 s = some (v, s1) ∧ fX11_done a1 s1 = some (v, s2) ∧ iJ s2 := by
  obtain ⟨v, s1, s2, e1, e2, f, g⟩ := op_done (h := a1) hJ.2.2.2.2.1 hJ.2.1
  exact ⟨v, s1, s2, e1, e2, iJ_C hJ f g (yCch_J (kJ (k_done hJ.2.2.2.2.1 hJ.2.1) e1) hJ.2.2.2.2.2)⟩
theorem j_ways {a1 : Int} {s : jMem} (hJ : iJ s) : ∃ v s1 s2, fX10_ways a1 s = some (v, s1) ∧ fX11_ways a1 s1 = some (v, s2) ∧ iJ s2 := by
  obtain ⟨v, s1, s2, e1, e2, f, g⟩ := op_ways (h := a1) hJ.2.2.2.2.1
  exact ⟨v, s1, s2, e1, e2, iJ_C hJ f g (yCch_J (kJ (k_ways hJ.2.2.2.2.1) e1) hJ.2.2.2.2.2)⟩
theorem j_way {a1 a2 a3 : Int} {s : jMem} (hJ : iJ s) (r2 : jR 1 a2) : ∃ v s1 s2, fX10_way a1 a2 a3 s = some (v, s1) ∧ fX11_way a1 a2 a3 s1 = some (v, s2) ∧ iJ s2 := by
  obtain ⟨v, s1, s2, e1, e2, f, g⟩ := op_way (h := a1) (i := a2) (k := a3) hJ.2.2.2.2.1 r2
  exact ⟨v, s1, s2, e1, e2, iJ_C hJ f g (yCch_J (k_way hJ.2.2.2.2.1 e1) hJ.2.2.2.2.2)⟩
theorem j_distance {a1 : Int} {s : jMem} (hJ : iJ s) : ∃ v s1 s2, fX10_distance a1 s = some (v, s1) ∧ fX11_distance a1 s1 = some (v, s2) ∧ iJ s2 := by
  obtain ⟨v, s1, s2, e1, e2, f, g, k⟩ := op_distance (h := a1) hJ.2.2.2.2.1 hJ.2.1 hJ.2.2.2.2.2
  exact ⟨v, s1, s2, e1, e2, iJ_C hJ f g k⟩
theorem j_waits {a1 a2 : Int} {s : jMem} (hJ : iJ s) (r2 : jR 1 a2) : ∃ v s1 s2, fX10_waits a1 a2 s = some (v, s1) ∧ fX11_waits a1 a2 s1 = some (v, s2) ∧ iJ s2 := by
  obtain ⟨v, s1, s2, e1, e2, f, g, k⟩ := op_waits (h := a1) (i := a2) hJ.2.2.2.2.1 hJ.2.1 hJ.2.2.2.2.2 r2.2
  exact ⟨v, s1, s2, e1, e2, iJ_C hJ f g k⟩
theorem j_helps {a1 a2 : Int} {s : jMem} (hJ : iJ s) (r2 : jR 1 a2) : ∃ v s1 s2, fX10_helps a1 a2 s = some (v, s1) ∧ fX11_helps a1 a2 s1 = some (v, s2) ∧ iJ s2 := by
  obtain ⟨v, s1, s2, e1, e2, f, g, k⟩ := op_helps (h := a1) (i := a2) hJ.2.2.2.2.1 hJ.2.1 hJ.2.2.2.2.2 r2.2
  exact ⟨v, s1, s2, e1, e2, iJ_C hJ f g k⟩
theorem j_without {a1 a2 : Int} {s : jMem} (hJ : iJ s) : ∃ v s1 s2, fX10_without a1 a2 s = some (v, s1) ∧ fX11_without a1 a2 s1 = some (v, s2) ∧ iJ s2 := by
  obtain ⟨v, s1, s2, e1, e2, f, g, k⟩ := op_without (h := a1) (q := a2) hJ.2.2.2.2.1 hJ.2.1 hJ.2.2.2.2.2
  exact ⟨v, s1, s2, e1, e2, iJ_C hJ f g k⟩
theorem j_more {a1 a2 : Int} {s : jMem} (hJ : iJ s) : ∃ v s1 s2, fX10_more a1 a2 s = some (v, s1) ∧ fX11_more a1 a2 s1 = some (v, s2) ∧ iJ s2 := by
  obtain ⟨v, s1, s2, e1, e2, f, g, k⟩ := op_more (h := a1) (q := a2) hJ.2.2.2.2.1 hJ.2.1 hJ.2.2.2.2.2
  exact ⟨v, s1, s2, e1, e2, iJ_C hJ f g k⟩
theorem j_best {a1 : Int} {s : jMem} (hJ : iJ s) : ∃ v s1 s2, fX10_best a1 s = some (v, s1) ∧ fX11_best a1 s1 = some (v, s2) ∧ iJ s2 := by
  obtain ⟨v, s1, s2, e1, e2, f, g, k⟩ := op_best (h := a1) hJ.2.2.2.2.1 hJ.2.1 hJ.2.2.2.2.2
  exact ⟨v, s1, s2, e1, e2, iJ_C hJ f g k⟩
theorem j_lack {a1 a2 a3 a4 : Int} {s : jMem} (hJ : iJ s) : ∃ v s1 s2, fX10_lack a1 a2 a3 a4 s = some (v, s1) ∧ fX11_lack a1 a2 a3 a4 s1 = some (v, s2) ∧ iJ s2 := by
  obtain ⟨v, s1, s2, e1, e2, f, g, k⟩ := op_lack (h := a1) (r := a2) (g := a3) (p := a4) hJ.2.2.2.2.1 hJ.2.2.2.2.2
  exact ⟨v, s1, s2, e1, e2, iJ_C hJ f g k⟩
theorem j_odds {a1 a2 : Int} {s : jMem} (hJ : iJ s) : ∃ v s1 s2, fX10_odds a1 a2 s = some (v, s1) ∧ fX11_odds a1 a2 s1 = some (v, s2) ∧ iJ s2 := by
  obtain ⟨v, s1, s2, e1, e2, f, g, k⟩ := op_odds (h := a1) (d := a2) hJ.2.2.2.2.1 hJ.2.1 hJ.2.2.2.2.2
  exact ⟨v, s1, s2, e1, e2, iJ_C hJ f g k⟩
theorem j_unseen {a1 : Int} {s : jMem} (hJ : iJ s) : ∃ v s1 s2, fX10_unseen a1 s = some (v, s1) ∧ fX11_unseen a1 s1 = some (v, s2) ∧ iJ s2 := by
  obtain ⟨v, s1, s2, e1, e2, f, g⟩ := op_unseen (h := a1) hJ.2.2.2.2.1
  exact ⟨v, s1, s2, e1, e2, iJ_C hJ (fun x a _ => f x a) g (yCch_eq (f 14 (by decide)) (f 15 (by decide)) hJ.2.2.2.2.2)⟩
theorem j_alike {a1 a2 : Int} {s : jMem} (hJ : iJ s) : ∃ v s1 s2, fX10_alike a1 a2 s = some (v, s1) ∧ fX11_alike a1 a2 s1 = some (v, s2) ∧ iJ s2 := by
  obtain ⟨v, e1, e2⟩ := op_alike (h := a1) (g := a2) hJ.2.2.2.2.1
  exact ⟨v, s, s, e1, e2, hJ⟩
theorem j_rule {a1 a2 a3 : Int} {s : jMem} (hJ : iJ s) : ∃ v s1 s2, fX10_rule a1 a2 a3 s = some (v, s1) ∧ fX11_rule a1 a2 a3 s1 = some (v, s2) ∧ iJ s2 := by
  obtain ⟨v, s1, s2, e1, e2, hI, f⟩ := op_rule (c := a1) (n := a2) (o := a3) hJ.2.2.2.1
  exact ⟨v, s1, s2, e1, e2, iJ_U hJ hI f⟩
theorem j_clearRules {s : jMem} (hJ : iJ s) : ∃ v s1 s2, fX10_clearRules s = some (v, s1) ∧ fX11_clearRules s1 = some (v, s2) ∧ iJ s2 := by
  obtain ⟨v, s1, s2, e1, e2, hI, f⟩ := op_clearRules hJ.2.2.2.1
  exact ⟨v, s1, s2, e1, e2, iJ_U hJ hI f⟩
theorem j_worth {a1 : Int} {s : jMem} (hJ : iJ s) : ∃ v s1 s2, fX10_worth a1 s = some (v, s1) ∧ fX11_worth a1 s1 = some (v, s2) ∧ iJ s2 := by
  obtain ⟨v, s1, s2, e1, e2, f, g⟩ := op_worth (h := a1) hJ.2.2.2.2.1 hJ.2.1 hJ.2.2.2.1
  exact ⟨v, s1, s2, e1, e2, iJ_C hJ (fJ_C f) g (yCch_J f hJ.2.2.2.2.2)⟩
theorem j_by {a1 : Int} {s : jMem} (hJ : iJ s) : ∃ v s1 s2, fX10_by a1 s = some (v, s1) ∧ fX11_by a1 s1 = some (v, s2) ∧ iJ s2 := by
  obtain ⟨v, s1, s2, e1, e2, f, g⟩ := op_by (h := a1) hJ.2.2.2.2.1 hJ.2.1 hJ.2.2.2.1
  exact ⟨v, s1, s2, e1, e2, iJ_C hJ (fJ_C f) g (yCch_J f hJ.2.2.2.2.2)⟩
theorem j_holds {a1 a2 : Int} {s : jMem} (hJ : iJ s) : ∃ v s1 s2, fX10_holds a1 a2 s = some (v, s1) ∧ fX11_holds a1 a2 s1 = some (v, s2) ∧ iJ s2 := by
  obtain ⟨v, s1, s2, e1, e2, f, g⟩ := op_holds (h := a1) (c := a2) hJ.2.2.2.2.1 hJ.2.1 hJ.2.2.2.1
  exact ⟨v, s1, s2, e1, e2, iJ_C hJ (fJ_C f) g (yCch_J f hJ.2.2.2.2.2)⟩
theorem iJ_0 : iJ jm0 := by
  have z : ∀ (r j : Int), r ≠ 3 → r ≠ 54 → r ≠ 14 → r ≠ 60 → r ≠ 0 → r ≠ 53 → r ≠ 7 → ¬ (25 ≤ r ∧ r < 37) → jm0 r j = 0 := by
    intro r j h1 h2 h3 h4 h5 h6 h7 h8
    unfold jm0
    rw [if_neg h1, if_neg h2, if_neg h3, if_neg h4, if_neg h5, if_neg h6, if_neg h7, if_neg (by omega)]
  have e3 : ∀ j, jm0 3 j = 4 := fun j => rfl
  have e54 : ∀ j, jm0 54 j = 4 := fun j => rfl
  have e14 : ∀ j, jm0 14 j = -1 := fun j => rfl
  have e60 : ∀ j, jm0 60 j = -1 := fun j => rfl
  have vh : ∀ g q : Int, vH jm0 g q = 0 := fun g q => z 56 _ (by decide) (by decide) (by decide) (by decide) (by decide) (by decide) (by decide) (by decide)
  have vl : ∀ g q : Int, vL jm0 g q = 0 := fun g q => z 57 _ (by decide) (by decide) (by decide) (by decide) (by decide) (by decide) (by decide) (by decide)
  have e58 : ∀ j, jm0 58 j = 0 := fun j => z 58 j (by decide) (by decide) (by decide) (by decide) (by decide) (by decide) (by decide) (by decide)
  have e55 : ∀ j, jm0 55 j = 0 := fun j => z 55 j (by decide) (by decide) (by decide) (by decide) (by decide) (by decide) (by decide) (by decide)
  have e4 : ∀ j, jm0 4 j = 0 := fun j => z 4 j (by decide) (by decide) (by decide) (by decide) (by decide) (by decide) (by decide) (by decide)
  have e61 : ∀ j, jm0 61 j = 0 := fun j => z 61 j (by decide) (by decide) (by decide) (by decide) (by decide) (by decide) (by decide) (by decide)
  have e62 : ∀ j, jm0 62 j = 0 := fun j => z 62 j (by decide) (by decide) (by decide) (by decide) (by decide) (by decide) (by decide) (by decide)
  refine ⟨fun r r0 r6 => ?_, ⟨rfl, rfl, by decide, by decide, by decide, by decide⟩, ⟨rfl, by decide, by decide⟩, ⟨rfl, by decide, by decide, fun i i0 i1 => ?_⟩, ⟨fun q q0 q4 => ?_, fun g g0 g4 => ?_, fun g g0 g4 => ?_⟩, fun x _ _ => Or.inl (e14 x)⟩
  · rw [e60, e61]
    refine ⟨?_, ?_, by decide, by decide, by decide, by decide, fun _ => rfl, fun i i0 i4 => ?_⟩
    · rcases (by omega : r = 0 ∨ r = 1 ∨ r = 2 ∨ r = 3 ∨ r = 4 ∨ r = 5) with rfl | rfl | rfl | rfl | rfl | rfl <;> rfl
    · rcases (by omega : r = 0 ∨ r = 1 ∨ r = 2 ∨ r = 3 ∨ r = 4 ∨ r = 5) with rfl | rfl | rfl | rfl | rfl | rfl <;> rfl
    · rw [e62]
      rcases (by omega : r = 0 ∨ r = 1 ∨ r = 2 ∨ r = 3 ∨ r = 4 ∨ r = 5) with rfl | rfl | rfl | rfl | rfl | rfl <;> rfl
  · have : jm0 53 12 = 0 := rfl
    omega
  · rw [e3, e54, e4, e55, vh, vh, vh, vh, vl, vl, vl, vl]
    decide
  · have s0 : jSum (vH jm0 g) 34 = 0 := jSum_zero (fun i hi => vh g i)
    have e37 : ∀ j, jm0 (37 + 4 * g) j = 0 := fun j => z _ j (by omega) (by omega) (by omega) (by omega) (by omega) (by omega) (by omega) (by omega)
    refine ⟨fun q q0 q4 => ?_, ?_, ?_, ?_, ?_, ?_⟩
    · rw [vh, vl, z (38 + 4 * g) q (by omega) (by omega) (by omega) (by omega) (by omega) (by omega) (by omega) (by omega), z (39 + 4 * g) q (by omega) (by omega) (by omega) (by omega) (by omega) (by omega) (by omega) (by omega)]
      decide
    · rw [e37, e58]
    · rw [e58]; decide
    · rw [e58]; decide
    · rw [e37, s0]
    · rw [s0, e58]; decide
  · refine ⟨fun k k0 k1 => ?_, fun q q0 q4 => ?_⟩
    · rw [e58] at k1; omega
    · rw [vl, e58]; rfl
end

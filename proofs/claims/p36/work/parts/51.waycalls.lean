/-! ===== done, ways, way: the calls ===== -/
section
theorem fC_17 {s t : jMem} (h : ∀ x : Int, ¬ (17 ≤ x ∧ x ≤ 20) → t x = s x) : fC s t := fun x _ h2 => h x (by omega)
theorem vH_C {s t : jMem} (h : fC s t) (g : Int) : vH t g = vH s g := by
  funext q; unfold vH; rw [h 56 (by omega) (by omega)]
theorem vH_M {s t : jMem} (h : fM s t) (g : Int) : vH t g = vH s g := by
  funext q; unfold vH; exact h 56 _ (by omega) (by omega)
theorem sX11_isFull_C {s t : jMem} {h : Int} (hI : iT s) (hC : fC s t) (h0 : 0 ≤ h) (h4 : h < 4) : fX11_isFull h t = some (jb (jSum (vH s h) 34 + 3 * s 58 h = 14), t) := by
  have hh := (iT_C hI hC).2.1 h h0 h4
  rw [sX11_isFull h0 h4 (vH_bd hh) (iH_gb hh), vH_C hC, hC 58 (by omega) (by omega)]
theorem op_done {h : Int} {s : jMem} (hI : iT s) (hF : iF s) : ∃ v s1 s2, fX10_done h s = some (v, s1) ∧ fX11_done h s1 = some (v, s2) ∧ fC s s1 ∧ fM s1 s2 := by
  have w := jrk_t
  by_cases hh : 0 ≤ h ∧ h < 4
  · obtain ⟨h0, h4⟩ := hh
    obtain ⟨t0, t1, -⟩ := jh_t h0 h4
    obtain ⟨v, s1, e1, fr, hv, -⟩ := zX2_howDone hI hF h0 h4
    have fc := fC_17 fr
    have m : jHo (fun w t => w = v ∧ fM s1 t) (fX11_done h s1) := by
      rw [fX11_done, sX11_isHand, jBd_s, jb_1 ⟨h0, by omega⟩, if_neg (by decide), sX11_isFull_C hI fc h0 h4, jBd_s]
      by_cases hs : jSum (vH s h) 34 + 3 * s 58 h = 14
      · obtain ⟨hf, hw⟩ := iH_full hI h0 h4 hs
        rw [jb_1 hs, if_neg (by decide)]
        rw [if_pos hs] at hv
        refine gHo_bd (zX11_look h0 h4) (fun _ t ht => ?_)
        obtain ⟨p1, p2, p3, p4⟩ := ht
        refine gHo_bd (zX11_doneBy (h := vH s h) (w := yWn s h) hf (fun q q0 q4 => by rw [(p4 q q0 q4).1, vH_C fc]) (by rw [p3, fc 58 (by omega) (by omega), hw])) (fun r u hu => gHo_ret ⟨?_, fun x y hx hy => ?_⟩)
        · rw [hu.1, hv, p2 10 (by decide), p2 11 (by decide), fc 53 (by omega) (by omega)]
        · rw [hu.2 x (by omega) (by omega)]
          by_cases e : x = 53
          · subst e; exact p2 y (by omega)
          · rw [p1 x e (by omega) (by omega)]
      · rw [jb_0 hs, if_pos rfl]
        rw [if_neg hs] at hv
        exact gHo_ret ⟨hv.symm, fM_rf _⟩
    obtain ⟨w2, s2, e2, rfl, fm⟩ := m
    refine ⟨w2, s1, s2, ?_, e2, fc, fm⟩
    rw [fX10_done, sX10_isHand, jBd_s, jb_1 ⟨h0, h4⟩, if_neg (by decide), jGd_e ⟨h0, by omega⟩, jLet_e, t0, e1, jBd_s]; rfl
  · refine ⟨-1, s, s, ?_, ?_, fC_rf s, fM_rf s⟩
    · rw [fX10_done, sX10_isHand, jBd_s, jb_0 hh, if_pos rfl]; rfl
    · rw [fX11_done, sX11_isHand, jBd_s, jb_0 (by omega), if_pos rfl]; rfl
theorem op_ways {h : Int} {s : jMem} (hI : iT s) : ∃ v s1 s2, fX10_ways h s = some (v, s1) ∧ fX11_ways h s1 = some (v, s2) ∧ fC s s1 ∧ fM s1 s2 := by
  have w := jrk_t
  by_cases hh : 0 ≤ h ∧ h < 4
  · obtain ⟨h0, h4⟩ := hh
    obtain ⟨t0, t1, -⟩ := jh_t h0 h4
    have ih := hI.2.1 h h0 h4
    obtain ⟨a1, a2, a3, a4, a5, a6⟩ := id ih
    by_cases hs : jSum (vH s h) 34 + 3 * s 58 h = 14
    · obtain ⟨hf, hw⟩ := iH_full hI h0 h4 hs
      obtain ⟨v, s1, e1, fr, tab, -⟩ := zX9_find (s := s) h0 h4 hf (by rw [a2]; exact hw) (fun q q0 q4 => (a1 q q0 q4).1)
      have fc := fC_17 fr
      have m : jHo (fun w t => w = ((yAll (vH s h) (yWn s h) 34).length : Int) ∧ fM s1 t) (fX11_ways h s1) := by
        rw [fX11_ways, sX11_isHand, jBd_s, jb_1 ⟨h0, by omega⟩, if_neg (by decide), sX11_isFull_C hI fc h0 h4, jBd_s, jb_1 hs, if_neg (by decide)]
        refine gHo_bd (zX11_look h0 h4) (fun _ t ht => ?_)
        obtain ⟨p1, p2, p3, p4⟩ := ht
        refine gHo_bd (zX11_findWay (i := -1) (h := vH s h) (w := yWn s h) hf ⟨by omega, by omega⟩ (fun q q0 q4 => by rw [(p4 q q0 q4).1, vH_C fc]) (by rw [p3, fc 58 (by omega) (by omega), hw])) (fun r u hu => gHo_ret ⟨?_, fun x y hx hy => ?_⟩)
        · rcases hu.2 with k | k
          · omega
          · exact k.2
        · rw [hu.1 x (by omega) (by omega)]
          by_cases e : x = 53
          · subst e; exact p2 y (by omega)
          · rw [p1 x e (by omega) (by omega)]
      obtain ⟨w2, s2, e2, rfl, fm⟩ := m
      refine ⟨_, s1, s2, ?_, e2, fc, fm⟩
      rw [fX10_ways, sX10_isHand, jBd_s, jb_1 ⟨h0, h4⟩, if_neg (by decide), jGd_e ⟨h0, by omega⟩, jLet_e, t0, jGd_e t1, sX1_isFull h0 h4 (iH_cb ih), jBd_s, iH_sz ih, jb_1 hs, if_neg (by decide), jGd_e ⟨h0, by omega⟩, jLet_e, e1, jBd_s, jLet_e, tab.1]; rfl
    · refine ⟨-2, s, s, ?_, ?_, fC_rf s, fM_rf s⟩
      · rw [fX10_ways, sX10_isHand, jBd_s, jb_1 ⟨h0, h4⟩, if_neg (by decide), jGd_e ⟨h0, by omega⟩, jLet_e, t0, jGd_e t1, sX1_isFull h0 h4 (iH_cb ih), jBd_s, iH_sz ih, jb_0 hs, if_pos rfl]; rfl
      · rw [fX11_ways, sX11_isHand, jBd_s, jb_1 ⟨h0, by omega⟩, if_neg (by decide), sX11_isFull_C hI (fC_rf s) h0 h4, jBd_s, jb_0 hs, if_pos rfl]; rfl
  · refine ⟨-1, s, s, ?_, ?_, fC_rf s, fM_rf s⟩
    · rw [fX10_ways, sX10_isHand, jBd_s, jb_0 hh, if_pos rfl]; rfl
    · rw [fX11_ways, sX11_isHand, jBd_s, jb_0 (by omega), if_pos rfl]; rfl
theorem yV_in : ∀ (w : Nat) (H : Int → Int) (f rf : Int) (c : List Int), c ∈ yV w H f rf → c.length = w := by
  intro w
  induction w with
  | zero =>
    intro H f rf c hc
    have : c = [] := by simpa [yV] using hc
    rw [this]; rfl
  | succ w ih =>
    intro H f rf c hc
    by_cases e : 34 ≤ yFs H f
    · rw [yV_e w H f rf e] at hc; simp at hc
    · rw [yV_s w H f rf rfl (by omega), List.mem_append] at hc
      rcases hc with hc | hc
      · split at hc
        · obtain ⟨d, hd, rfl⟩ := List.mem_map.mp hc
          rw [List.length_cons, ih _ _ _ d hd]
        · simp at hc
      · split at hc
        · obtain ⟨d, hd, rfl⟩ := List.mem_map.mp hc
          rw [List.length_cons, ih _ _ _ d hd]
        · simp at hc
theorem yAll_in (h : Int → Int) (w : Nat) : ∀ (n : Nat) (c : List Int), c ∈ yAll h w n → c.length = 1 + w := by
  intro n
  induction n with
  | zero => intro c hc; simp [yAll] at hc
  | succ n ih =>
    intro c hc
    simp only [yAll, List.mem_append] at hc
    rcases hc with hc | hc
    · exact ih c hc
    · unfold yL at hc
      split at hc
      · obtain ⟨d, hd, rfl⟩ := List.mem_map.mp hc
        rw [List.length_cons, yV_in w _ _ _ d hd]; omega
      · simp at hc
/-- a kept way's code, by the reference's picture of it -/
theorem yRow_at {L : List (List Int)} {w j : Nat} {k : Nat} {P : Int → Int} (hL : ∀ c, c ∈ L → c.length = 1 + w) (hj : j < L.length) : (L.getD j []).getD k (P k) = if k < 1 + w then (L.getD j []).getD k 0 else P k := by
  have hm : L.getD j [] ∈ L := by
    have : L.getD j [] = L[j] := by simp [List.getD, List.getElem?_eq_getElem hj]
    rw [this]; exact List.getElem_mem hj
  have hl := hL _ hm
  by_cases e : k < 1 + w
  · rw [if_pos e]; exact ygd_i (by omega)
  · rw [if_neg e]; exact ygd_d (by omega)
theorem op_way {h i k : Int} {s : jMem} (hI : iT s) (hi : jR 1 i) : ∃ v s1 s2, fX10_way h i k s = some (v, s1) ∧ fX11_way h i k s1 = some (v, s2) ∧ fC s s1 ∧ fM s1 s2 := by
  have w := jrk_t
  have u := jik_m
  have u2 := jik_t
  by_cases hh : 0 ≤ h ∧ h < 4
  · obtain ⟨h0, h4⟩ := hh
    obtain ⟨t0, t1, -⟩ := jh_t h0 h4
    have ih := hI.2.1 h h0 h4
    obtain ⟨a1, a2, a3, a4, a5, a6⟩ := id ih
    have i1 := hi.1
    have i2 := hi.2
    by_cases hk : 0 ≤ k ∧ k ≤ 4
    · by_cases hs : jSum (vH s h) 34 + 3 * s 58 h = 14
      · obtain ⟨hf, hw⟩ := iH_full hI h0 h4 hs
        have w4 := hf.1
        have h8 := yAll_8 hf
        obtain ⟨v, s1, e1, fr, tab, -⟩ := zX9_find (s := s) h0 h4 hf (by rw [a2]; exact hw) (fun q q0 q4 => (a1 q q0 q4).1)
        have fc := fC_17 fr
        obtain ⟨L, hL⟩ : ∃ L, L = yAll (vH s h) (yWn s h) 34 := ⟨_, rfl⟩
        have hLl : ∀ c, c ∈ L → c.length = 1 + yWn s h := by rw [hL]; exact yAll_in _ _ 34
        rw [← hL] at tab h8
        have ec : fX10_way h i k s = (if i < 0 then (jRet (-3) s1) else (jLet (s1 17 4) fun x21 => if x21 ≤ i then (jRet (-3) s1) else (jBd (fX9_codeAt i k s1) fun x25 s26 => jRet x25 s26))) := by
          rw [fX10_way, sX10_isHand, jBd_s, jb_1 ⟨h0, h4⟩, if_neg (by decide), if_neg (by omega), if_pos (by omega), jGd_e ⟨h0, by omega⟩, jLet_e, t0, jGd_e t1, sX1_isFull h0 h4 (iH_cb ih), jBd_s, iH_sz ih, jb_1 hs, if_neg (by decide), jGd_e ⟨h0, by omega⟩, jLet_e, e1, jBd_s]
        obtain ⟨n, hn⟩ : ∃ n : Nat, k = (n : Int) := ⟨k.toNat, by omega⟩
        have val : ∃ v, fX10_way h i k s = some (v, s1) ∧ v = if 0 ≤ i ∧ i < (L.length : Int) then (if k < 1 + (yWn s h : Int) then (L.getD i.toNat []).getD n 0 else s (40 + 4 * h) (k - 1 - yWn s h)) else -3 := by
          rw [ec]
          by_cases e0 : i < 0
          · rw [if_pos e0]
            exact ⟨-3, rfl, by rw [if_neg (by omega)]⟩
          · rw [if_neg e0, jLet_e, tab.1]
            by_cases e2 : (L.length : Int) ≤ i
            · rw [if_pos e2]
              exact ⟨-3, rfl, by rw [if_neg (by omega)]⟩
            · rw [if_neg e2]
              have ti : ((i.toNat : Nat) : Int) = i := by omega
              have cell := tab.2 i.toNat (by omega) n (by omega)
              rw [yRow_at (P := fun k => s (40 + 4 * h) (k - 1 - (yWn s h : Int))) hLl (by omega), ti, ← hn] at cell
              unfold fX9_codeAt
              simp only [jLet_e, jRet]
              rw [j32_id (x := 5 * i) (by omega) (by omega), j32_id (x := 5 * i + k) (by omega) (by omega), jGd_e ⟨by omega, by omega⟩, jBd_s, cell]
              refine ⟨_, rfl, ?_⟩
              rw [if_pos (show 0 ≤ i ∧ i < (L.length : Int) by omega)]
              by_cases e3 : n < 1 + yWn s h
              · rw [if_pos e3, if_pos (by omega)]
              · rw [if_neg e3, if_neg (by omega)]
        obtain ⟨v', ev, hv'⟩ := val
        have m : jHo (fun w t => w = v' ∧ fM s1 t) (fX11_way h i k s1) := by
          rw [fX11_way, sX11_isHand, jBd_s, jb_1 ⟨h0, by omega⟩, if_neg (by decide), sX11_in, jBd_s, jb_1 hk, if_neg (by decide), sX11_isFull_C hI fc h0 h4, jBd_s, jb_1 hs, if_neg (by decide)]
          refine gHo_bd (zX11_look h0 h4) (fun _ t ht => ?_)
          obtain ⟨p1, p2, p3, p4⟩ := ht
          have fm1 : fM s1 t := fun x y hx hy => by
            by_cases e : x = 53
            · subst e; exact p2 y (by omega)
            · rw [p1 x e (by omega) (by omega)]
          refine gHo_if (fun e0 => ?_) (fun e0 => ?_)
          · refine gHo_ret ⟨?_, fm1⟩
            rw [hv', if_neg (by omega)]
          · refine gHo_bd (zX11_findWay (i := i) (h := vH s h) (w := yWn s h) hf ⟨by omega, by omega⟩ (fun q q0 q4 => by rw [(p4 q q0 q4).1, vH_C fc]) (by rw [p3, fc 58 (by omega) (by omega), hw])) (fun r u hu => ?_)
            obtain ⟨fu, hu⟩ := hu
            rw [← hL] at hu
            have fm2 : fM s1 u := fM_tr fm1 (fun x y hx hy => by rw [fu x (by omega) (by omega)])
            refine gHo_let ?_
            rcases hu with ⟨k1, k2, rfl, k4⟩ | ⟨k1, rfl⟩
            · have e5 : j32 (i + 1) = i + 1 := j32_id (by omega) (by omega)
              rw [e5, if_pos rfl]
              refine gHo_bd (zX11_addOpen (w := yWn s h) h0 h4 w4 (by rw [fm2 58 h (by omega) (by omega), fc 58 (by omega) (by omega), hw])) (fun _ z hz => ?_)
              obtain ⟨z1, z2, z3⟩ := hz
              refine gHo_gd ⟨by omega, by omega⟩ (gHo_let (gHo_ret ⟨?_, fM_tr fm2 (fun x y hx hy => by rw [z1 x (by omega)])⟩))
              rw [hv', if_pos ⟨k1, k2⟩]
              by_cases e3 : k < 1 + (yWn s h : Int)
              · rw [if_pos e3, z2 k e3, hn, k4 n (by omega)]
              · have g1 := (hI.2.2 h h0 h4).1 (k - 1 - yWn s h) (by omega) (by omega)
                rw [if_neg e3, z3 k (by omega) (by omega), fm2 59 _ (by omega) (by omega), fc 59 (by omega) (by omega)]
                exact g1.1.symm
            · have e5 : ¬ (L.length : Int) = j32 (i + 1) := by unfold j32; omega
              rw [if_neg e5]
              refine gHo_ret ⟨?_, fm2⟩
              rw [hv', if_neg (by omega)]
        obtain ⟨w2, s2, e2, rfl, fm⟩ := m
        exact ⟨_, s1, s2, ev, e2, fc, fm⟩
      · refine ⟨-2, s, s, ?_, ?_, fC_rf s, fM_rf s⟩
        · rw [fX10_way, sX10_isHand, jBd_s, jb_1 ⟨h0, h4⟩, if_neg (by decide), if_neg (by omega), if_pos (by omega), jGd_e ⟨h0, by omega⟩, jLet_e, t0, jGd_e t1, sX1_isFull h0 h4 (iH_cb ih), jBd_s, iH_sz ih, jb_0 hs, if_pos rfl]; rfl
        · rw [fX11_way, sX11_isHand, jBd_s, jb_1 ⟨h0, by omega⟩, if_neg (by decide), sX11_in, jBd_s, jb_1 hk, if_neg (by decide), sX11_isFull_C hI (fC_rf s) h0 h4, jBd_s, jb_0 hs, if_pos rfl]; rfl
    · refine ⟨-1, s, s, ?_, ?_, fC_rf s, fM_rf s⟩
      · rw [fX10_way, sX10_isHand, jBd_s, jb_1 ⟨h0, h4⟩, if_neg (by decide)]
        by_cases e : k < 0
        · rw [if_pos e]; rfl
        · rw [if_neg e, if_neg (by omega)]; rfl
      · rw [fX11_way, sX11_isHand, jBd_s, jb_1 ⟨h0, by omega⟩, if_neg (by decide), sX11_in, jBd_s, jb_0 hk, if_pos rfl]; rfl
  · refine ⟨-1, s, s, ?_, ?_, fC_rf s, fM_rf s⟩
    · rw [fX10_way, sX10_isHand, jBd_s, jb_0 hh, if_pos rfl]; rfl
    · rw [fX11_way, sX11_isHand, jBd_s, jb_0 (by omega), if_pos rfl]; rfl
end

/-! ===== ways: the class's ===== -/
section
theorem ygd_l {l m : List Int} {k : Nat} {d : Int} (h : k < l.length) : (l ++ m).getD k d = l.getD k d := by
  simp only [List.getD, List.getElem?_append_left h]
theorem ygd_r {l m : List Int} {k : Nat} {d : Int} (h : l.length ≤ k) : (l ++ m).getD k d = m.getD (k - l.length) d := by
  simp only [List.getD, List.getElem?_append_right h]
theorem ygd_d {l : List Int} {k : Nat} {d : Int} (h : l.length ≤ k) : l.getD k d = d := by
  simp only [List.getD, List.getElem?_eq_none h, Option.getD]
theorem ygd_i {l : List Int} {k : Nat} {d e : Int} (h : k < l.length) : l.getD k d = l.getD k e := by
  simp only [List.getD, List.getElem?_eq_getElem h, Option.getD]
theorem ygD_l {l m : List (List Int)} {k : Nat} {d : List Int} (h : k < l.length) : (l ++ m).getD k d = l.getD k d := by
  simp only [List.getD, List.getElem?_append_left h]
theorem ygD_r {l m : List (List Int)} {k : Nat} {d : List Int} (h : l.length ≤ k) : (l ++ m).getD k d = m.getD (k - l.length) d := by
  simp only [List.getD, List.getElem?_append_right h]
/-- the ways kept: cell 20, five numbers each; what stands behind the groups is open -/
def yTab (s : jMem) (Ls : List (List Int)) (P : Int → Int) : Prop := s 17 4 = (Ls.length : Int) ∧ ∀ j : Nat, j < Ls.length → ∀ k : Nat, k < 5 → s 20 (5 * (j : Int) + k) = (Ls.getD j []).getD k (P k)
/-- what a search leaves -/
def ySk (s : jMem) (d W : Int) (Ls : List (List Int)) (P : Int → Int) (t : jMem) : Prop := (∀ x : Int, ¬ (17 ≤ x ∧ x ≤ 20) → t x = s x) ∧ (∀ y : Int, y ≠ 4 → t 17 y = s 17 y) ∧ (∀ q : Int, t 18 q = s 18 q) ∧ (∀ k : Int, k < d ∨ 1 + W ≤ k → t 19 k = s 19 k) ∧ yTab t Ls P
theorem ySk_tr {s t u : jMem} {d d' W : Int} {L1 L2 : List (List Int)} {P : Int → Int} (h1 : ySk s d W L1 P t) (h2 : ySk t d' W L2 P u) (hd : d ≤ d') : ySk s d W L2 P u :=
  ⟨fun x hx => (h2.1 x hx).trans (h1.1 x hx), fun y hy => (h2.2.1 y hy).trans (h1.2.1 y hy), fun q => (h2.2.2.1 q).trans (h1.2.2.1 q), fun k hk => (h2.2.2.2.1 k (by omega)).trans (h1.2.2.2.1 k hk), h2.2.2.2.2⟩
theorem yOk_le {w : Nat} {H : Int → Int} (h : yOk w H) (q : Int) (q0 : 0 ≤ q) (q4 : q < 34) : H q ≤ 3 * (w : Int) := by
  have z := jSum_le (f := fun p => if p = q then H q else 0) (g := H) (n := 34) (fun i hi => by
    have := h.1 i (by omega) (by omega)
    by_cases e : (i : Int) = q
    · rw [if_pos e, e]; omega
    · rw [if_neg e]; exact this)
  have k := jSum_one q (H q) 34
  rw [if_pos (by omega)] at k
  have := h.2
  omega
theorem zX9_keepPath {s : jMem} {pre : List Int} {Ls : List (List Int)} {P : Int → Int} {W : Int} (hW : 0 ≤ W ∧ W ≤ 4) (hl : (pre.length : Int) = 1 + W) (hp : ∀ k : Nat, k < pre.length → s 19 k = pre.getD k 0) (hP : ∀ k : Int, 1 + W ≤ k → k < 5 → s 19 k = P k) (ht : yTab s Ls P) (h8 : Ls.length < 8) : jHo (fun _ t => ySk s (1 + W) W (Ls ++ [pre]) P t) (fX9_keepPath s) := by
  obtain ⟨u1, u2, u3, u4, u5, u6, u7, u8, u9⟩ := jik_t
  unfold fX9_keepPath
  refine gHo_let ?_
  rw [ht.1, if_neg (by omega)]
  refine gHo_let (gHo_l32 (by omega) (by omega) (gHo_gd ⟨by omega, by omega, by omega, by omega, by omega, by omega, by omega⟩ (gHo_nm fun t ht' => gHo_let ?_)))
  have r17 : t 17 = s 17 := by rw [ht']; funext y; unfold jCp; rw [if_neg (by omega)]
  rw [r17, ht.1]
  refine gHo_l32 (by omega) (by omega) (gHo_nm fun t2 ht2 => gHo_ret ⟨fun x hx => ?_, fun y hy => ?_, fun q => ?_, fun k hk => ?_, ?_, fun j hj k hk => ?_⟩)
  · rw [ht2, jU_row (by omega), ht']; funext y; unfold jCp; rw [if_neg (by omega)]
  · rw [ht2, jU_at, if_neg hy, r17]
  · rw [ht2, jU_row (by decide), ht']; unfold jCp; rw [if_neg (by omega)]
  · rw [ht2, jU_row (by decide), ht']; unfold jCp; rw [if_neg (by omega)]
  · rw [ht2, jU_at, if_pos rfl, List.length_append, List.length_singleton]; omega
  · rw [List.length_append, List.length_singleton] at hj
    rw [ht2, jU_row (by decide), ht']
    unfold jCp
    by_cases e : j = Ls.length
    · subst e
      rw [if_pos (by omega), show (0 : Int) + (5 * (Ls.length : Int) + k - 5 * (Ls.length : Int)) = k by omega, ygD_r (Nat.le_refl _), Nat.sub_self]
      show s 19 k = pre.getD k (P k)
      by_cases e2 : k < pre.length
      · rw [hp k e2]; exact ygd_i e2
      · rw [hP k (by omega) (by omega), ygd_d (by omega)]
    · rw [if_neg (by omega), ygD_l (by omega)]
      exact ht.2 j (by omega) k hk
theorem zX0_code {k q : Int} {s : jMem} (hk : 0 ≤ k ∧ k ≤ 3) (hq : 0 ≤ q ∧ q < 100) : fX0_code k q s = some (100 * k + q, s) := by
  unfold fX0_code
  simp only [jLet_e, jRet]
  rw [j32_id (x := 100 * k) (by omega) (by omega), j32_id (by omega) (by omega)]
/-- the search among runs from s -/
theorem zX9_seek : ∀ (w n : Nat) (H : Int → Int) (f rf rfc d W : Int) (pre : List Int) (Ls : List (List Int)) (P : Int → Int) (s : jMem), w < n → w ≤ 4 → yOk w H → 0 ≤ f → f ≤ 34 → (rfc = rf ∨ rf = -1 ∧ rfc < f) → rfc ≤ f → s 17 3 = W → d + w = 1 + W → 1 ≤ d → W ≤ 4 → (pre.length : Int) = d → (∀ q : Int, 0 ≤ q → q < 34 → s 18 q = H q) → (∀ k : Nat, k < pre.length → s 19 k = pre.getD k 0) → (∀ k : Int, 1 + W ≤ k → k < 5 → s 19 k = P k) → yTab s Ls P → Ls.length + (yV w H f rf).length ≤ 8 → jHo (fun _ t => ySk s d W (Ls ++ (yV w H f rf).map (fun c => pre ++ c)) P t) (jIt (fun _ _ _ _ => none) fX9_seek n d f rfc s) := by
  obtain ⟨u1, u2, u3, u4, u5, u6, u7, u8, u9⟩ := jik_t
  intro w
  induction w with
  | zero =>
    intro n H f rf rfc d W pre Ls P s hn hw hok f0 f34 hr hrf h17 hd hd1 hW hl h18 h19 hP ht h8
    obtain ⟨n', rfl⟩ : ∃ n', n = n' + 1 := ⟨n - 1, by omega⟩
    show jHo _ (fX9_seek _ d f rfc s)
    unfold fX9_seek
    refine gHo_let ?_
    rw [h17, if_neg (by omega)]
    have h8' : Ls.length + 1 ≤ 8 := h8
    refine gHo_bd (zX9_keepPath (W := W) ⟨by omega, hW⟩ (by omega) h19 hP ht (by omega)) (fun v t hk => gHo_ret ?_)
    have e : Ls ++ (yV 0 H f rf).map (fun c => pre ++ c) = Ls ++ [pre] := by
      show Ls ++ [pre ++ []] = _
      rw [List.append_nil]
    rw [e, show d = 1 + W by omega]
    exact hk
  | succ w ih =>
    intro n H f rf rfc d W pre Ls P s hn hw hok f0 f34 hr hrf h17 hd hd1 hW hl h18 h19 hP ht h8
    obtain ⟨n', rfl⟩ : ∃ n', n = n' + 1 := ⟨n - 1, by omega⟩
    show jHo _ (fX9_seek (jIt (fun _ _ _ _ => none) fX9_seek n') d f rfc s)
    unfold fX9_seek
    refine gHo_let ?_
    rw [h17, if_pos (by omega)]
    obtain ⟨a, b, c, e0⟩ := yFs_p H f34
    obtain ⟨x, hx⟩ : ∃ x, x = yFs H f := ⟨_, rfl⟩
    rw [← hx] at a b c e0
    refine gIt4 (fun a1 a2 a3 t => a1 = d ∧ a2 = rfc ∧ t = s ∧ f ≤ a3 ∧ a3 ≤ x) (fun _ _ a3 => (34 - a3).toNat) ?_ 1000 d rfc f s ⟨rfl, rfl, rfl, Int.le_refl _, a⟩ (by omega)
    rintro rec a1 a2 q t ⟨rfl, rfl, rfl, q1, q2⟩ ihl
    -- behind the first sort there is
    have main : q = x → jHo (fun _ t' => ySk t a1 W (Ls ++ (yV (w + 1) H f rf).map (fun c => pre ++ c)) P t') (bX9_seek_43 (jIt (fun _ _ _ _ => none) fX9_seek n') a1 a2 q t) := by
      intro eq
      subst eq
      unfold bX9_seek_43
      by_cases x4 : q < 34
      · have x0 : 0 ≤ q := by omega
        have hn0 := e0 x4
        have hq := h18 q x0 x4
        have hle := yOk_le hok q x0 x4
        have hnn := hok.1 q x0 x4
        rw [yV_s w H f rf hx x4, List.map_append, ← List.append_assoc] 
        rw [yV_s w H f rf hx x4, List.length_append] at h8
        -- the runs
        have runs : ∀ (L : List (List Int)) (t' : jMem), ySk t a1 W L P t' → L.length + (if yCr H q then (yV w (yR H q) q q).map (fun c => (100 + q) :: c) else []).length ≤ 8 → jHo (fun _ u => ySk t a1 W (L ++ (if yCr H q then (yV w (yR H q) q q).map (fun c => (100 + q) :: c) else []).map (fun c => pre ++ c)) P u) (bX9_seek_106 (jIt (fun _ _ _ _ => none) fX9_seek n') a1 q t') := by
          intro L t' hsk hlen
          obtain ⟨k1, k2, k3, k4, k5⟩ := id hsk
          unfold bX9_seek_106
          rw [zX8_startsRun x0 (by omega), jBd_s]
          by_cases hst : q < 27 ∧ q % 9 ≤ 6
          · rw [jb_1 hst, if_neg (show ¬ (1 : Int) = 0 by decide)]
            have l1 := yOk_le hok (q + 1) (by omega) (by omega)
            have l2 := yOk_le hok (q + 2) (by omega) (by omega)
            have m1 := h18 (q + 1) (by omega) (by omega)
            have m2 := h18 (q + 2) (by omega) (by omega)
            refine gHo_l32 (by omega) (by omega) (gHo_gd ⟨by omega, by omega⟩ (gHo_let ?_))
            rw [k3, m1]
            by_cases c1 : H (q + 1) ≤ 0
            · have nc : ¬ yCr H q := fun z => by have := z.2.1; omega
              rw [if_pos c1]
              rw [if_neg nc]
              refine gHo_ret ?_
              rw [List.map_nil, List.append_nil]; exact hsk
            · rw [if_neg c1]
              refine gHo_l32 (by omega) (by omega) (gHo_gd ⟨by omega, by omega⟩ (gHo_let ?_))
              rw [k3, m2]
              by_cases c2 : H (q + 2) ≤ 0
              · have nc : ¬ yCr H q := fun z => by have := z.2.2; omega
                rw [if_pos c2]
                rw [if_neg nc]
                refine gHo_ret ?_
                rw [List.map_nil, List.append_nil]; exact hsk
              · rw [if_neg c2]
                have cr : yCr H q := ⟨hst, by omega, by omega⟩
                rw [if_pos cr] at hlen ⊢
                rw [List.length_map] at hlen
                have okR := yOk_R hok x0 hn0 cr
                -- a run's tiles go
                have shift : ∀ (z : jMem) (by_ : Int), -1 ≤ by_ → by_ ≤ 1 → (∀ p : Int, 0 ≤ p → p < 34 → -100 ≤ z 18 p ∧ z 18 p ≤ 100) → jHo (fun _ z' => (∀ y : Int, y ≠ 18 → z' y = z y) ∧ ∀ p : Int, z' 18 p = if p = q ∨ p = q + 1 ∨ p = q + 2 then z 18 p + by_ else z 18 p) (fX9_shiftRun q by_ z) := by
                  intro z by_ b0 b1 hz
                  have z0 := hz q x0 x4
                  have z1 := hz (q + 1) (by omega) (by omega)
                  have z2 := hz (q + 2) (by omega) (by omega)
                  unfold fX9_shiftRun
                  refine gHo_gd ⟨x0, by omega⟩ (gHo_let (gHo_l32 (by omega) (by omega) (gHo_gd ⟨x0, by omega⟩ (gHo_nm fun w1 hw1 => gHo_l32 (by omega) (by omega) (gHo_gd ⟨by omega, by omega⟩ (gHo_let ?_))))))
                  have y1 : w1 18 (q + 1) = z 18 (q + 1) := by rw [hw1, jU_at, if_neg (by omega)]
                  rw [y1]
                  refine gHo_l32 (by omega) (by omega) (gHo_gd ⟨by omega, by omega⟩ (gHo_nm fun w2 hw2 => gHo_l32 (by omega) (by omega) (gHo_gd ⟨by omega, by omega⟩ (gHo_let ?_))))
                  have y2 : w2 18 (q + 2) = z 18 (q + 2) := by rw [hw2, jU_at, if_neg (by omega), hw1, jU_at, if_neg (by omega)]
                  rw [y2]
                  refine gHo_l32 (by omega) (by omega) (gHo_gd ⟨by omega, by omega⟩ (gHo_nm fun w3 hw3 => gHo_ret ⟨fun y hy => ?_, fun p => ?_⟩))
                  · rw [hw3, jU_row hy, hw2, jU_row hy, hw1, jU_row hy]
                  · rw [hw3, jU_at, hw2, jU_at, hw1, jU_at]
                    by_cases p2 : p = q + 2
                    · rw [if_pos p2, if_pos (Or.inr (Or.inr p2)), p2]
                    · rw [if_neg p2]
                      by_cases p1 : p = q + 1
                      · rw [if_pos p1, if_pos (Or.inr (Or.inl p1)), p1]
                      · rw [if_neg p1]
                        by_cases p0 : p = q
                        · rw [if_pos p0, if_pos (Or.inl p0), p0]
                        · rw [if_neg p0, if_neg (by omega)]
                have hb18 : ∀ p : Int, 0 ≤ p → p < 34 → -100 ≤ t' 18 p ∧ t' 18 p ≤ 100 := fun p p0 p4 => by
                  rw [k3, h18 p p0 p4]
                  have := hok.1 p p0 p4
                  have := yOk_le hok p p0 p4
                  omega
                refine gHo_bd (shift t' (-1) (by omega) (by omega) hb18) (fun _ z1 hz1 => ?_)
                obtain ⟨g1, g2⟩ := hz1
                rw [zX0_code (by omega) (by omega), jBd_s]
                refine gHo_gd ⟨by omega, by omega⟩ (gHo_nm fun z2 hz2 => gHo_l32 (by omega) (by omega) ?_)
                have i18 : ∀ p : Int, 0 ≤ p → p < 34 → z2 18 p = yR H q p := fun p p0 p4 => by
                  rw [hz2, jU_row (by decide), g2, k3, h18 p p0 p4]
                  unfold yR
                  by_cases ep : p = q ∨ p = q + 1 ∨ p = q + 2
                  · rw [if_pos ep, if_pos ep]; omega
                  · rw [if_neg ep, if_neg ep]
                have i19 : ∀ k : Int, z2 19 k = if k = a1 then 100 + q else t' 19 k := fun k => by
                  rw [hz2, jU_at, g1 19 (by decide)]
                  by_cases ek : k = a1
                  · rw [if_pos ek, if_pos ek]; omega
                  · rw [if_neg ek, if_neg ek]
                have step := ih n' (yR H q) q q q (a1 + 1) W (pre ++ [100 + q]) L P z2 (by omega) (by omega) okR x0 b (Or.inl rfl) (Int.le_refl _) (by rw [hz2, jU_row (by decide), g1 17 (by decide), k2 3 (by decide)]; exact h17) (by omega) (by omega) hW (by rw [List.length_append, List.length_singleton]; omega) i18 (fun k hk => by
                  rw [List.length_append, List.length_singleton] at hk
                  rw [i19]
                  by_cases ek : (k : Int) = a1
                  · rw [if_pos ek, ygd_r (by omega), show k - pre.length = 0 by omega]; rfl
                  · rw [if_neg ek, k4 k (by omega), h19 k (by omega), ygd_l (by omega)]) (fun k h1 h2 => by rw [i19, if_neg (by omega), k4 k (by omega)]; exact hP k h1 h2) (by
                  refine ⟨?_, fun j hj k hk => ?_⟩
                  · rw [hz2, jU_row (by decide), g1 17 (by decide)]; exact k5.1
                  · rw [hz2, jU_row (by decide), g1 20 (by decide)]; exact k5.2 j hj k hk) hlen
                refine gHo_bd step (fun _ z3 hz3 => ?_)
                obtain ⟨o1, o2, o3, o4, o5⟩ := hz3
                have hb3 : ∀ p : Int, 0 ≤ p → p < 34 → -100 ≤ z3 18 p ∧ z3 18 p ≤ 100 := fun p p0 p4 => by
                  rw [o3, i18 p p0 p4]
                  have := okR.1 p p0 p4
                  have := yOk_le okR p p0 p4
                  omega
                refine gHo_bd (shift z3 1 (by omega) (by omega) hb3) (fun _ z4 hz4 => ?_)
                obtain ⟨g3, g4⟩ := hz4
                have em : ((yV w (yR H q) q q).map (fun c => (100 + q) :: c)).map (fun c => pre ++ c) = (yV w (yR H q) q q).map (fun c => (pre ++ [100 + q]) ++ c) := by
                  rw [List.map_map]
                  exact List.map_congr_left (fun c _ => by simp)
                rw [em]
                refine gHo_ret ⟨fun y hy => ?_, fun y hy => ?_, fun p => ?_, fun k hk => ?_, ?_, fun j hj k hk => ?_⟩
                · rw [g3 y (by omega), o1 y hy, hz2, jU_row (by omega), g1 y (by omega)]; exact k1 y hy
                · rw [g3 17 (by decide), o2 y hy, hz2, jU_row (by decide), g1 17 (by decide)]; exact k2 y hy
                · rw [g4, o3, hz2, jU_row (by decide), g2]
                  by_cases ep : p = q ∨ p = q + 1 ∨ p = q + 2
                  · rw [if_pos ep, if_pos ep, k3]; omega
                  · rw [if_neg ep, if_neg ep, k3]
                · rw [g3 19 (by decide), o4 k (by omega), i19, if_neg (by omega)]; exact k4 k hk
                · rw [g3 17 (by decide)]; exact o5.1
                · rw [g3 20 (by decide)]; exact o5.2 j hj k hk
          · rw [jb_0 hst, if_pos (show (0 : Int) = 0 from rfl)]
            have nc : ¬ yCr H q := fun z => hst z.1
            rw [if_neg nc]
            refine gHo_ret ?_
            rw [List.map_nil, List.append_nil]; exact hsk
        have self : ySk t a1 W Ls P t := ⟨fun _ _ => rfl, fun _ _ => rfl, fun _ => rfl, fun _ _ => rfl, ht⟩
        rw [if_pos x4]
        refine gHo_gd ⟨x0, by omega⟩ (gHo_let ?_)
        rw [hq]
        have nth : ¬ (3 ≤ H q ∧ q ≠ rf) → jHo (fun _ t' => ySk t a1 W (Ls ++ (if 3 ≤ H q ∧ q ≠ rf then (yV w (yT H q) q (-1)).map (fun c => (200 + q) :: c) else []).map (fun c => pre ++ c) ++ (if yCr H q then (yV w (yR H q) q q).map (fun c => (100 + q) :: c) else []).map (fun c => pre ++ c)) P t') (bX9_seek_106 (jIt (fun _ _ _ _ => none) fX9_seek n') a1 q t) := by
          intro nk
          rw [if_neg nk, List.length_nil] at h8
          rw [if_neg nk, List.map_nil, List.append_nil]
          exact runs Ls t self (by omega)
        refine gHo_if (fun hlt => ?_) (fun hlt => ?_)
        · exact nth (by omega)
        · refine gHo_if (fun he => ?_) (fun he => ?_)
          · exact nth (by omega)
          · have k3 : 3 ≤ H q ∧ q ≠ rf := by omega
            rw [if_pos k3] at h8 ⊢
            rw [List.length_map] at h8
            have okT := yOk_T hok ⟨x0, x4⟩ k3.1
            refine gHo_gd ⟨x0, by omega⟩ (gHo_let ?_)
            refine gHo_l32 (by omega) (by omega) (gHo_gd ⟨x0, by omega⟩ (gHo_nm fun z1 hz1 => ?_))
            rw [zX0_code (by omega) (by omega), jBd_s]
            refine gHo_gd ⟨by omega, by omega⟩ (gHo_nm fun z2 hz2 => gHo_l32 (by omega) (by omega) ?_)
            have i18 : ∀ p : Int, z2 18 p = if p = q then H q - 3 else t 18 p := fun p => by
              rw [hz2, jU_row (by decide), hz1, jU_at]
            have i18' : ∀ p : Int, 0 ≤ p → p < 34 → z2 18 p = yT H q p := fun p p0 p4 => by
              rw [i18]
              unfold yT
              by_cases ep : p = q
              · rw [if_pos ep, if_pos ep, ep]
              · rw [if_neg ep, if_neg ep, h18 p p0 p4]
            have i19 : ∀ k : Int, z2 19 k = if k = a1 then 200 + q else t 19 k := fun k => by
              rw [hz2, jU_at, hz1, jU_row (by decide)]
              by_cases ek : k = a1
              · rw [if_pos ek, if_pos ek]; omega
              · rw [if_neg ek, if_neg ek]
            have step := ih n' (yT H q) q (-1) a2 (a1 + 1) W (pre ++ [200 + q]) Ls P z2 (by omega) (by omega) okT x0 b (by omega) (by omega) (by rw [hz2, jU_row (by decide), hz1, jU_row (by decide)]; exact h17) (by omega) (by omega) hW (by rw [List.length_append, List.length_singleton]; omega) i18' (fun k hk => by
              rw [List.length_append, List.length_singleton] at hk
              rw [i19]
              by_cases ek : (k : Int) = a1
              · rw [if_pos ek, ygd_r (by omega), show k - pre.length = 0 by omega]; rfl
              · rw [if_neg ek, h19 k (by omega), ygd_l (by omega)]) (fun k h1 h2 => by rw [i19, if_neg (by omega)]; exact hP k h1 h2) (by
              refine ⟨?_, fun j hj k hk => ?_⟩
              · rw [hz2, jU_row (by decide), hz1, jU_row (by decide)]; exact ht.1
              · rw [hz2, jU_row (by decide), hz1, jU_row (by decide)]; exact ht.2 j hj k hk) (by omega)
            refine gHo_bd step (fun _ z3 hz3 => ?_)
            obtain ⟨o1, o2, o3, o4, o5⟩ := hz3
            have m3 : z3 18 q = H q - 3 := by rw [o3, i18, if_pos rfl]
            refine gHo_gd ⟨x0, by omega⟩ (gHo_let (gHo_l32 (by rw [m3]; omega) (by rw [m3]; omega) (gHo_gd ⟨x0, by omega⟩ (gHo_nm fun z4 hz4 => ?_))))
            rw [m3] at hz4
            have em : ((yV w (yT H q) q (-1)).map (fun c => (200 + q) :: c)).map (fun c => pre ++ c) = (yV w (yT H q) q (-1)).map (fun c => (pre ++ [200 + q]) ++ c) := by
              rw [List.map_map]
              exact List.map_congr_left (fun c _ => by simp)
            rw [em]
            refine runs _ z4 ⟨fun y hy => ?_, fun y hy => ?_, fun p => ?_, fun k hk => ?_, ?_, fun j hj k hk => ?_⟩ ?_
            · rw [hz4, jU_row (by omega), o1 y hy, hz2, jU_row (by omega), hz1, jU_row (by omega)]
            · rw [hz4, jU_row (by decide), o2 y hy, hz2, jU_row (by decide), hz1, jU_row (by decide)]
            · rw [hz4, jU_at]
              by_cases ep : p = q
              · rw [if_pos ep, ep, hq]; omega
              · rw [if_neg ep, o3, i18, if_neg ep]
            · rw [hz4, jU_row (by decide), o4 k (by omega), i19, if_neg (by omega)]
            · rw [hz4, jU_row (by decide)]; exact o5.1
            · rw [hz4, jU_row (by decide)]; exact o5.2 j hj k hk
            · rw [List.length_append, List.length_map]; omega
      · rw [if_neg x4]
        rw [yV_e w H f rf (by omega)]
        refine gHo_ret ⟨fun _ _ => rfl, fun _ _ => rfl, fun _ => rfl, fun _ _ => rfl, ?_⟩
        rw [List.map_nil, List.append_nil]; exact ht
    unfold bX9_seek_22
    refine gHo_if (fun hc => ?_) (fun hc => ?_)
    · exact main (by omega)
    · have hq := h18 q (by omega) (by omega)
      refine gHo_gd ⟨by omega, by omega⟩ (gHo_let ?_)
      rw [hq]
      refine gHo_if (fun hz => ?_) (fun hz => ?_)
      · have lt : q < x := by
          by_cases e : q = x
          · subst e; exact absurd hz (e0 (by omega))
          · omega
        exact gHo_l32 (by omega) (by omega) (ihl _ _ _ _ ⟨rfl, rfl, rfl, by omega, by omega⟩ (by omega))
      · refine main ?_
        by_cases e : q = x
        · exact e
        · exact absurd (c q q1 (by omega)) hz
theorem yAll_mono (h : Int → Int) (w : Nat) (n : Nat) : ∀ m : Nat, (yAll h w n).length ≤ (yAll h w (n + m)).length := by
  intro m
  induction m with
  | zero => exact Nat.le_refl _
  | succ m ih =>
    rw [show n + (m + 1) = n + m + 1 from rfl]
    simp only [yAll, List.length_append]
    omega
theorem zX9_find {s : jMem} {h : Int} {w : Nat} {H : Int → Int} (h0 : 0 ≤ h) (h4 : h < 4) (hf : yFull w H) (hg : s (37 + 4 * h) 4 = 4 - (w : Int)) (hH : ∀ q : Int, 0 ≤ q → q < 34 → s (38 + 4 * h) q = H q) : jHo (fun _ t => (∀ x : Int, ¬ (17 ≤ x ∧ x ≤ 20) → t x = s x) ∧ yTab t (yAll H w 34) (fun k => s (40 + 4 * h) (k - 1 - (w : Int))) ∧ t 17 3 = (w : Int)) (fX9_find (37 + 4 * h) s) := by
  obtain ⟨t0, t1, t2, t3, t4, t5, t6, t7, t8, t9⟩ := jh_t h0 h4
  obtain ⟨u1, u2, u3, u4, u5, u6, u7, u8, u9⟩ := jik_t
  have w4 := hf.1
  have h8 := yAll_8 hf
  obtain ⟨P, hP⟩ : ∃ P : Int → Int, P = fun k => s (40 + 4 * h) (k - 1 - (w : Int)) := ⟨_, rfl⟩
  rw [← hP]
  unfold fX9_find
  refine gHo_nm fun s1 hs1 => gHo_gd t1 (gHo_let ?_)
  have r37 : s1 (37 + 4 * h) = s (37 + 4 * h) := by rw [hs1, jU_row (by omega)]
  rw [r37, hg]
  refine gHo_l32 (by omega) (by omega) (gHo_nm fun s2 hs2 => gHo_let ?_)
  rw [t2]
  refine gHo_gd ⟨by omega, by omega, by omega, by omega, by omega, by omega, by omega⟩ (gHo_nm fun s3 hs3 => ?_)
  have f3 : ∀ x : Int, ¬ (17 ≤ x ∧ x ≤ 20) → s3 x = s x := fun x hx => by
    have : s3 x = s2 x := by rw [hs3]; funext y; unfold jCp; rw [if_neg (by omega)]
    rw [this, hs2, jU_row (by omega), hs1, jU_row (by omega)]
  have i18 : ∀ q : Int, 0 ≤ q → q < 34 → s3 18 q = H q := fun q q0 q4 => by
    rw [hs3]
    unfold jCp
    rw [if_pos (by omega), hs2, jU_row (by omega), hs1, jU_row (by omega), ← hH q q0 q4]
    congr 1; omega
  have i17 : s3 17 = s2 17 := by rw [hs3]; funext y; unfold jCp; rw [if_neg (by omega)]
  have i173 : s3 17 3 = (w : Int) := by rw [i17, hs2, jU_at, if_pos rfl]; omega
  have i174 : s3 17 4 = 0 := by rw [i17, hs2, jU_at, if_neg (by decide), hs1, jU_at, if_pos rfl]
  refine gIt3 (fun a1 a2 t => a1 = 37 + 4 * h ∧ 0 ≤ a2 ∧ a2 ≤ 4 - (w : Int) ∧ (∀ x : Int, x ≠ 19 → t x = s3 x) ∧ ∀ k : Int, 1 + (w : Int) ≤ k → k < 1 + w + a2 → t 19 k = P k) (fun _ a2 => (5 - a2).toNat) ?_ 1000 _ 0 s3 ⟨rfl, by omega, by omega, fun _ _ => rfl, fun k k1 k2 => by omega⟩ (by decide)
  rintro rec a1 a2 t ⟨rfl, b0, b4, fr, hp⟩ ih
  unfold bX9_find_32
  have r37t : t (37 + 4 * h) 4 = 4 - (w : Int) := by rw [fr _ (by omega), f3 _ (by omega), hg]
  refine gHo_gd t1 (gHo_let ?_)
  rw [r37t]
  refine gHo_if (fun hc => ?_) (fun hc => ?_)
  · unfold bX9_find_65
    refine gIt2 (fun n z => ∃ N : Nat, n = N ∧ N ≤ 34 ∧ (∀ x : Int, ¬ (17 ≤ x ∧ x ≤ 20) → z x = s x) ∧ z 17 3 = w ∧ (∀ q : Int, 0 ≤ q → q < 34 → z 18 q = H q) ∧ (∀ k : Int, 1 + (w : Int) ≤ k → k < 5 → z 19 k = P k) ∧ yTab z (yAll H w N) P) (fun n => (34 - n).toNat) ?_ 1000 0 t ⟨0, rfl, by omega, fun x hx => by rw [fr x (by omega)]; exact f3 x hx, by rw [fr 17 (by decide)]; exact i173, fun q q0 q4 => by rw [fr 18 (by decide)]; exact i18 q q0 q4, fun k k1 k2 => hp k k1 (by omega), ⟨by rw [fr 17 (by decide)]; exact i174, fun j hj => by simp [yAll] at hj⟩⟩ (by decide)
    rintro rec2 n z ⟨N, rfl, hN, frz, z17, z18, z19, zt⟩ ih2
    unfold bX9_find_67
    refine gHo_if (fun hc2 => ?_) (fun hc2 => ?_)
    · have e : N = 34 := by omega
      subst e
      exact gHo_ret ⟨frz, zt, z17⟩
    · have hN4 : N < 34 := by omega
      have hq := z18 N (by omega) (by omega)
      have nn := hf.2.1 N (by omega) (by omega)
      refine gHo_gd ⟨by omega, by omega⟩ (gHo_let ?_)
      rw [hq]
      refine gHo_if (fun hlt => ?_) (fun hlt => ?_)
      · unfold bX9_find_121
        refine gHo_l32 (by omega) (by omega) (ih2 _ _ ⟨N + 1, by omega, by omega, frz, z17, z18, z19, ?_⟩ (by omega))
        have e : yL H w N = [] := by unfold yL; rw [if_neg (by omega)]
        show yTab z (yAll H w N ++ yL H w N) P
        rw [e, List.append_nil]; exact zt
      · have ok := yFull_P hf (p := (N : Int)) ⟨by omega, by omega⟩ (by omega)
        have eL : yL H w N = (yV w (yP H N) 0 (-1)).map (fun c => (N : Int) :: c) := by unfold yL; rw [if_pos (by omega)]
        have le : H N ≤ 14 := by
          have := yOk_le ok N (by omega) (by omega)
          unfold yP at this
          rw [if_pos rfl] at this
          omega
        refine gHo_gd ⟨by omega, by omega⟩ (gHo_let ?_)
        refine gHo_l32 (by omega) (by omega) (gHo_gd ⟨by omega, by omega⟩ (gHo_nm fun z1 hz1 => ?_))
        rw [zX0_code (by omega) (by omega), jBd_s]
        refine gHo_gd ⟨by omega, by omega⟩ (gHo_nm fun z2 hz2 => ?_)
        have len := yAll_mono H w (N + 1) (34 - (N + 1))
        rw [show N + 1 + (34 - (N + 1)) = 34 by omega] at len
        have len2 : (yAll H w (N + 1)).length = (yAll H w N).length + (yL H w N).length := List.length_append
        have j18 : ∀ q : Int, z2 18 q = if q = N then H N - 2 else z 18 q := fun q => by
          rw [hz2, jU_row (by decide), hz1, jU_at]
        have step := zX9_seek w 6 (yP H N) 0 (-1) (-1) 1 w [(N : Int)] (yAll H w N) P z2 (by omega) w4 ok (by omega) (by omega) (Or.inl rfl) (by omega) (by rw [hz2, jU_row (by decide), hz1, jU_row (by decide)]; exact z17) (by omega) (by omega) (by omega) rfl (fun q q0 q4 => by
          rw [j18]
          unfold yP
          by_cases e : q = N
          · rw [if_pos e, if_pos e, e]
          · rw [if_neg e, if_neg e]; exact z18 q q0 q4) (fun k hk => by
          have : k = 0 := by simp at hk; omega
          subst this
          rw [hz2, jU_at, if_pos (show ((0 : Nat) : Int) = 0 from rfl)]
          show _ = (N : Int)
          omega) (fun k k1 k2 => by rw [hz2, jU_at, if_neg (by omega), hz1, jU_row (by decide)]; exact z19 k k1 k2) (by
          refine ⟨?_, fun j hj k hk => ?_⟩
          · rw [hz2, jU_row (by decide), hz1, jU_row (by decide)]; exact zt.1
          · rw [hz2, jU_row (by decide), hz1, jU_row (by decide)]; exact zt.2 j hj k hk) (by
          rw [eL, List.length_map] at len2
          omega)
        refine gHo_bd step (fun _ z3 hz3 => ?_)
        obtain ⟨o1, o2, o3, o4, o5⟩ := hz3
        have m3 : z3 18 N = H N - 2 := by rw [o3, j18, if_pos rfl]
        refine gHo_gd ⟨by omega, by omega⟩ (gHo_let ?_)
        rw [m3]
        refine gHo_l32 (by omega) (by omega) (gHo_gd ⟨by omega, by omega⟩ (gHo_nm fun z4 hz4 => ?_))
        unfold bX9_find_121
        refine gHo_l32 (by omega) (by omega) (ih2 _ _ ⟨N + 1, by omega, by omega, fun x hx => ?_, ?_, fun q q0 q4 => ?_, fun k k1 k2 => ?_, ?_⟩ (by omega))
        · rw [hz4, jU_row (by omega), o1 x hx, hz2, jU_row (by omega), hz1, jU_row (by omega)]; exact frz x hx
        · rw [hz4, jU_row (by decide), o2 3 (by decide), hz2, jU_row (by decide), hz1, jU_row (by decide)]; exact z17
        · rw [hz4, jU_at]
          by_cases e : q = N
          · rw [if_pos e, e]; omega
          · rw [if_neg e, o3, j18, if_neg e]; exact z18 q q0 q4
        · rw [hz4, jU_row (by decide), o4 k (by omega), hz2, jU_at, if_neg (by omega), hz1, jU_row (by decide)]; exact z19 k k1 k2
        · have em : yAll H w N ++ yL H w N = yAll H w N ++ (yV w (yP H N) 0 (-1)).map (fun c => [(N : Int)] ++ c) := by rw [eL]; rfl
          show yTab z4 (yAll H w N ++ yL H w N) P
          rw [em]
          refine ⟨?_, fun j hj k hk => ?_⟩
          · rw [hz4, jU_row (by decide)]; exact o5.1
          · rw [hz4, jU_row (by decide)]; exact o5.2 j hj k hk
  · have r173 : t 17 3 = (w : Int) := by rw [fr 17 (by decide)]; exact i173
    refine gHo_let ?_
    rw [r173]
    refine gHo_l32 (by omega) (by omega) (gHo_l32 (by omega) (by omega) (gHo_let ?_))
    rw [t4]
    refine gHo_gd ⟨b0, by omega⟩ (gHo_let (gHo_gd ⟨by omega, by omega⟩ (gHo_nm fun z1 hz1 => gHo_l32 (by omega) (by omega) (ih _ _ _ ⟨rfl, by omega, by omega, fun x hx => ?_, fun k k1 k2 => ?_⟩ (by omega)))))
    · rw [hz1, jU_row hx]; exact fr x hx
    · rw [hz1, jU_at]
      by_cases e : k = 1 + (w : Int) + a2
      · rw [if_pos e, fr _ (by omega), f3 _ (by omega), hP]
        dsimp only
        congr 1; omega
      · rw [if_neg e]; exact hp k k1 (by omega)
end

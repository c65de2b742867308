/-! ===== ways: the reference's ===== -/
section
theorem zX11_look {s : jMem} {h : Int} (h0 : 0 ≤ h) (h4 : h < 4) : jHo (fun _ t => (∀ x : Int, x ≠ 53 → x ≠ 68 → x ≠ 69 → t x = s x) ∧ (∀ y : Int, y ≠ 20 → t 53 y = s 53 y) ∧ t 53 20 = s 58 h ∧ ∀ q : Int, 0 ≤ q → q < 34 → t 68 q = vH s h q ∧ t 69 q = vL s h q) (fX11_look h s) := by
  have u := jik_m
  unfold fX11_look
  refine gIt3 (fun a1 q t => a1 = h ∧ 0 ≤ q ∧ q ≤ 34 ∧ (∀ x : Int, x ≠ 68 → x ≠ 69 → t x = s x) ∧ ∀ p : Int, 0 ≤ p → p < q → t 68 p = vH s h p ∧ t 69 p = vL s h p) (fun _ q => (34 - q).toNat) ?_ 1000 h 0 s ⟨rfl, by omega, by omega, fun _ _ _ => rfl, fun p a b => by omega⟩ (by decide)
  rintro rec a1 q t ⟨rfl, q0, q34, fr, hv⟩ ih
  unfold bX11_look_2
  refine gHo_if (fun hc => ?_) (fun hc => ?_)
  · have e : q = 34 := by omega
    subst e
    refine gHo_gd ⟨h0, by omega⟩ (gHo_let (gHo_nm fun t' ht' => gHo_ret ⟨fun x x1 x2 x3 => ?_, fun y hy => ?_, ?_, fun p p0 p4 => ?_⟩))
    · rw [ht', jU_row x1]; exact fr x x2 x3
    · rw [ht', jU_at, if_neg hy, fr 53 (by decide) (by decide)]
    · rw [ht', jU_at, if_pos rfl, fr 58 (by decide) (by decide)]
    · rw [ht', jU_row (by decide), jU_row (by decide)]; exact hv p p0 p4
  · have f56 := fr 56 (by decide) (by decide)
    have f57 := fr 57 (by decide) (by decide)
    refine gHo_l32 (by omega) (by omega) (gHo_l32 (by omega) (by omega) (gHo_gd ⟨by omega, by omega⟩ (gHo_let (gHo_gd ⟨q0, by omega⟩ (gHo_nm fun t1 ht1 => ?_)))))
    refine gHo_l32 (by omega) (by omega) (gHo_l32 (by omega) (by omega) (gHo_gd ⟨by omega, by omega⟩ (gHo_let (gHo_gd ⟨q0, by omega⟩ (gHo_nm fun t2 ht2 => gHo_l32 (by omega) (by omega) (ih _ _ _ ⟨rfl, by omega, by omega, fun x x1 x2 => ?_, fun p p0 p4 => ?_⟩ (by omega)))))))
    · rw [ht2, jU_row x2, ht1, jU_row x1]; exact fr x x1 x2
    · rw [ht2, jU_row (r' := 68) (by decide), jU_at, ht1, jU_at, jU_row (r' := 57) (by decide), jU_row (r' := 69) (by decide), f56, f57]
      by_cases e : p = q
      · subst e; rw [if_pos rfl, if_pos rfl]; exact ⟨rfl, rfl⟩
      · rw [if_neg e, if_neg e]; exact hv p p0 (by omega)
theorem jSum_zero {f : Int → Int} {n : Nat} (h : ∀ i : Nat, i < n → f i = 0) : jSum f n = 0 := by
  rw [jSum_cg (g := fun _ => 0) h, jSum_0]
theorem jSum_tail {f : Int → Int} {n : Nat} : ∀ m : Nat, (∀ i : Nat, n ≤ i → i < n + m → f i = 0) → jSum f (n + m) = jSum f n := by
  intro m
  induction m with
  | zero => intro _; rfl
  | succ m ih =>
    intro h
    rw [show n + (m + 1) = n + m + 1 from rfl]
    simp only [jSum]
    rw [ih (fun i a b => h i a (by omega)), h (n + m) (by omega) (by omega)]
    omega
theorem zX11_mayBe {s : jMem} {p : Int} {h : Int → Int} (p0 : 0 ≤ p) (p4 : p < 34) (hh : ∀ q : Int, 0 ≤ q → q < 34 → s 68 q = h q ∧ 0 ≤ h q ∧ h q ≤ 14) : jHo (fun v t => t = s ∧ (v = 0 ∨ v = 1) ∧ (v = 0 → ¬ (2 ≤ h p ∧ ∀ r : Int, 0 ≤ r → r < 4 → (yRs h r - (if p / 9 = r then 2 else 0)) % 3 = 0))) (fX11_mayBe p s) := by
  have u := jik_m
  have hp := hh p p0 p4
  have go : ∀ b : Int, (b = 0 ∨ b = 1) → (b = 0 → ¬ 2 ≤ h p) → (b = 1 → 2 ≤ h p) → jHo (fun v t => t = s ∧ (v = 0 ∨ v = 1) ∧ (v = 0 → ¬ (2 ≤ h p ∧ ∀ r : Int, 0 ≤ r → r < 4 → (yRs h r - (if p / 9 = r then 2 else 0)) % 3 = 0))) (bX11_mayBe_15 p b s) := by
    intro b hb hb0 hb1
    unfold bX11_mayBe_15
    refine gIt4 (fun a1 a2 r t => a1 = p ∧ t = s ∧ 0 ≤ r ∧ r ≤ 4 ∧ (a2 = 0 ∨ a2 = 1) ∧ (a2 = 1 → 2 ≤ h p) ∧ (a2 = 0 → ¬ (2 ≤ h p ∧ ∀ r : Int, 0 ≤ r → r < 4 → (yRs h r - (if p / 9 = r then 2 else 0)) % 3 = 0))) (fun _ _ r => (4 - r).toNat) ?_ 1000 p b 0 s ⟨rfl, rfl, by omega, by omega, hb, hb1, fun z y => hb0 z y.1⟩ (by decide)
    rintro rec a1 a2 r t ⟨rfl, rfl, r0, r4, h1, h2, h3⟩ ih
    unfold bX11_mayBe_18
    refine gHo_if (fun hc => ?_) (fun hc => ?_)
    · exact gHo_gd ⟨by omega, by omega⟩ (gHo_ret ⟨rfl, h1, h3⟩)
    · have rowOf : fX11_rowOf a1 t = some (a1 / 9, t) := by
        unfold fX11_rowOf
        rw [jGd_e (by decide), jLet_e, jdiv_9 p0 (by omega)]
        rfl
      rw [rowOf, jBd_s]
      have row : ∀ c : Int, c = (if a1 / 9 = r then -2 else 0) → jHo (fun v t' => t' = t ∧ (v = 0 ∨ v = 1) ∧ (v = 0 → ¬ (2 ≤ h a1 ∧ ∀ r : Int, 0 ≤ r → r < 4 → (yRs h r - (if a1 / 9 = r then 2 else 0)) % 3 = 0))) (bX11_mayBe_37 rec a1 a2 r c t) := by
        intro c hcc
        unfold bX11_mayBe_37
        refine gHo_l32 (by omega) (by omega) ?_
        have cb : -2 ≤ c ∧ c ≤ 0 := by rw [hcc]; split <;> omega
        have fz : ∀ i : Nat, (i : Int) / 9 ≠ r → (if (i : Int) / 9 = r then 1 else 0) * h i = 0 := fun i hi => by
          rw [if_neg hi, Int.zero_mul]
        have fo : ∀ i : Nat, (i : Int) / 9 = r → (if (i : Int) / 9 = r then 1 else 0) * h i = h i := fun i hi => by
          rw [if_pos hi, Int.one_mul]
        have fb : ∀ n : Nat, n ≤ 34 → 0 ≤ jSum (fun q => (if q / 9 = r then 1 else 0) * h q) n ∧ jSum (fun q => (if q / 9 = r then 1 else 0) * h q) n ≤ 1000 * n := fun n hn => jSum_bd (fun i hi => by
          by_cases e : (i : Int) / 9 = r
          · rw [fo i e]; have := hh i (by omega) (by omega); omega
          · rw [fz i e]; omega)
        refine gIt6 (fun b1 b2 b3 b4 b5 z => b1 = a1 ∧ b2 = a2 ∧ b3 = r ∧ z = t ∧ ∃ n : Nat, b5 = n ∧ 9 * r ≤ n ∧ (n : Int) ≤ 9 * r + 9 ∧ n ≤ 34 ∧ b4 = c + jSum (fun q => (if q / 9 = r then 1 else 0) * h q) n) (fun _ _ _ _ b5 => (34 - b5).toNat) ?_ 1000 a1 a2 r c (9 * r) t ⟨rfl, rfl, rfl, rfl, (9 * r).toNat, by omega, by omega, by omega, by omega, ?_⟩ (by omega)
        · rintro rec2 b1 b2 b3 b4 b5 z ⟨rfl, rfl, rfl, rfl, n, rfl, n1, n2, n3, rfl⟩ ih2
          have fbn := fb n n3
          have ex : (9 * b3 + 9 ≤ (n : Int) ∨ 34 ≤ (n : Int)) → jHo (fun v t' => t' = z ∧ (v = 0 ∨ v = 1) ∧ (v = 0 → ¬ (2 ≤ h b1 ∧ ∀ r : Int, 0 ≤ r → r < 4 → (yRs h r - (if b1 / 9 = r then 2 else 0)) % 3 = 0))) (bX11_mayBe_82 rec b1 b2 b3 (c + jSum (fun q => (if q / 9 = b3 then 1 else 0) * h q) n) z) := by
            intro hx
            have tail : jSum (fun q => (if q / 9 = b3 then 1 else 0) * h q) n = yRs h b3 := by
              unfold yRs
              have := jSum_tail (f := fun q => (if q / 9 = b3 then 1 else 0) * h q) (n := n) (34 - n) (fun i i1 i2 => fz i (by omega))
              rw [show n + (34 - n) = 34 by omega] at this
              exact this.symm
            unfold bX11_mayBe_82
            refine gHo_if (fun z0 => ?_) (fun z0 => ?_)
            · unfold bX11_mayBe_97 bX11_mayBe_98
              refine gHo_l32 (by omega) (by omega) (ih _ _ _ _ ⟨rfl, rfl, by omega, by omega, Or.inl rfl, fun y => absurd y (by decide), fun _ => h3 z0⟩ (by omega))
            · have a21 : b2 = 1 := h1.resolve_left z0
              have h2' := h2 a21
              have nn : 0 ≤ c + jSum (fun q => (if q / 9 = b3 then 1 else 0) * h q) n := by
                rw [hcc]
                by_cases e : b1 / 9 = b3
                · rw [if_pos e, tail]
                  have k := jSum_one b1 (h b1) 34
                  rw [if_pos (by omega)] at k
                  have le := jSum_le (f := fun p => if p = b1 then h b1 else 0) (g := fun q => (if q / 9 = b3 then 1 else 0) * h q) (n := 34) (fun i hi => by
                    by_cases ei : (i : Int) = b1
                    · rw [if_pos ei, ei, if_pos e]; omega
                    · rw [if_neg ei]
                      have := hh i (by omega) (by omega)
                      split <;> omega)
                  unfold yRs
                  omega
                · rw [if_neg e]; omega
              refine gHo_gd (by decide) (gHo_let ?_)
              rw [jrem_nn ⟨nn, by omega⟩ ⟨by decide, by decide⟩]
              have cc : c + jSum (fun q => (if q / 9 = b3 then 1 else 0) * h q) n = yRs h b3 - (if b1 / 9 = b3 then 2 else 0) := by
                rw [tail, hcc]; split <;> omega
              rw [cc]
              refine gHo_if (fun z1 => ?_) (fun z1 => ?_)
              · unfold bX11_mayBe_98
                refine gHo_l32 (by omega) (by omega) (ih _ _ _ _ ⟨rfl, rfl, by omega, by omega, Or.inr rfl, fun _ => h2', fun y => absurd y (by decide)⟩ (by omega))
              · unfold bX11_mayBe_97 bX11_mayBe_98
                refine gHo_l32 (by omega) (by omega) (ih _ _ _ _ ⟨rfl, rfl, by omega, by omega, Or.inl rfl, fun y => absurd y (by decide), fun _ y => z1 (y.2 b3 r0 (by omega))⟩ (by omega))
          unfold bX11_mayBe_45
          refine gHo_l32 (by omega) (by omega) (gHo_l32 (by omega) (by omega) (gHo_if (fun e1 => ex (Or.inl e1)) (fun e1 => gHo_if (fun e2 => ex (Or.inr e2)) (fun e2 => ?_))))
          have hn := hh n (by omega) (by omega)
          refine gHo_gd ⟨by omega, by omega⟩ (gHo_let ?_)
          rw [hn.1]
          refine gHo_l32 (by omega) (by omega) (gHo_l32 (by omega) (by omega) (ih2 _ _ _ _ _ _ ⟨rfl, rfl, rfl, rfl, n + 1, by omega, by omega, by omega, by omega, ?_⟩ (by omega)))
          have := fo n (by omega)
          simp only [jSum]
          rw [if_pos (by omega), Int.one_mul]
          omega
        · rw [jSum_zero (fun i hi => fz i (by omega))]; omega
      refine gHo_if (fun e => ?_) (fun e => ?_)
      · exact row (-2) (by rw [if_pos e])
      · exact row 0 (by rw [if_neg e])
  unfold fX11_mayBe
  refine gHo_gd ⟨p0, by omega⟩ (gHo_let ?_)
  rw [hp.1]
  refine gHo_if (fun e => ?_) (fun e => ?_)
  · exact go 0 (Or.inl rfl) (fun _ => by omega) (fun y => absurd y (by decide))
  · exact go 1 (Or.inr rfl) (fun y => absurd y (by decide)) (fun _ => by omega)
theorem yBit : ∀ b : Nat, b < 16 → ∀ i : Nat, i < 4 → jand (jshr (b : Int) (i : Int)) 1 = (((b / 2 ^ i) % 2 : Nat) : Int) := by decide +kernel
/-- the step of yB, its first sort named -/
theorem yB_s (w : Nat) (H : Int → Int) (f pv : Int) (b : Nat) {s : Int} (hs : s = yFs H f) (h : s < 34) : yB (w + 1) H f pv b = if (b / 2 ^ w) % 2 = 1 then (if yCr H s then (yB w (yR H s) s (100 + s) b).map (fun c => (100 + s) :: c) else none) else (if 3 ≤ H s ∧ pv ≠ 100 + s then (yB w (yT H s) s (200 + s) b).map (fun c => (200 + s) :: c) else none) := by
  subst hs
  show (if 34 ≤ yFs H f then none else _) = _
  rw [if_neg (by omega)]
theorem yB_e (w : Nat) (H : Int → Int) (f pv : Int) (b : Nat) (h : 34 ≤ yFs H f) : yB (w + 1) H f pv b = none := by
  show (if 34 ≤ yFs H f then none else _) = _
  rw [if_pos h]
theorem zX11_isWay {s : jMem} {p : Int} {h : Int → Int} {w b : Nat} (p0 : 0 ≤ p) (p4 : p < 34) (hf : yFull w h) (hb : b < 16) (hh : ∀ q : Int, 0 ≤ q → q < 34 → s 68 q = h q) (hw : s 53 20 = 4 - (w : Int)) : jHo (fun v t => (∀ x : Int, x ≠ 70 → x ≠ 71 → t x = s x) ∧ ((v = 1 ∧ ∃ c : List Int, 2 ≤ h p ∧ yB w (yP h p) 0 p b = some c ∧ c.length = w ∧ ∀ k : Nat, k < 1 + w → t 71 k = (p :: c).getD k 0) ∨ (v = 0 ∧ (2 ≤ h p → yB w (yP h p) 0 p b = none)))) (fX11_isWay p b s) := by
  have u := jik_m
  have w4 := hf.1
  unfold fX11_isWay
  refine gHo_gd ⟨p0, by omega⟩ (gHo_let ?_)
  rw [hh p p0 p4]
  refine gHo_if (fun h2 => ?_) (fun h2 => gHo_ret ⟨fun _ _ _ => rfl, Or.inr ⟨rfl, fun z => absurd z h2⟩⟩)
  have ok := yFull_P hf ⟨p0, p4⟩ h2
  refine gIt4 (fun a1 a2 q t => a1 = p ∧ a2 = b ∧ 0 ≤ q ∧ q ≤ 34 ∧ (∀ x : Int, x ≠ 70 → t x = s x) ∧ ∀ i : Int, 0 ≤ i → i < q → t 70 i = h i) (fun _ _ q => (34 - q).toNat) ?_ 1000 p b 0 s ⟨rfl, rfl, by omega, by omega, fun _ _ => rfl, fun i a b => by omega⟩ (by decide)
  rintro rec a1 a2 q t ⟨rfl, rfl, q0, q34, fr, hv⟩ ih
  unfold bX11_isWay_14
  refine gHo_if (fun hc => ?_) (fun hc => ?_)
  · have e : q = 34 := by omega
    subst e
    have hle : ∀ i : Int, 0 ≤ i → i < 34 → 0 ≤ h i ∧ h i ≤ 14 := fun i i0 i4 => by
      have a := ok.1 i i0 i4
      have b := yOk_le ok i i0 i4
      have c := hf.2.1 i i0 i4
      unfold yP at a b
      by_cases e : i = a1
      · rw [if_pos e] at a b; omega
      · rw [if_neg e] at a b; omega
    have hpb := hle a1 p0 p4
    unfold bX11_isWay_38
    refine gHo_gd ⟨p0, by omega⟩ (gHo_let ?_)
    rw [hv a1 p0 p4]
    refine gHo_l32 (by omega) (by omega) (gHo_gd ⟨p0, by omega⟩ (gHo_nm fun t1 ht1 => gHo_gd ⟨by omega, by omega⟩ (gHo_nm fun t2 ht2 => gHo_let ?_)))
    have r53 : t2 53 20 = 4 - (w : Int) := by rw [ht2, jU_row (by decide), ht1, jU_row (by decide), fr 53 (by decide), hw]
    rw [r53]
    refine gHo_l32 (by omega) (by omega) ?_
    rw [show 4 - (4 - (w : Int)) = w by omega]
    refine gIt5 (fun b1 b2 b3 b4 z => b1 = b ∧ b2 = w ∧ ∃ (k w' : Nat) (H : Int → Int) (pv : Int) (done : List Int), b4 = k ∧ k + w' = w ∧ done.length = k ∧ yOk w' H ∧ 0 ≤ b3 ∧ b3 ≤ 34 ∧ (∀ x : Int, x ≠ 70 → x ≠ 71 → z x = s x) ∧ (∀ i : Int, 0 ≤ i → i < 34 → z 70 i = H i) ∧ (∀ j : Nat, j < k + 1 → z 71 j = (a1 :: done).getD j 0) ∧ (k = 0 → pv = a1) ∧ (0 < k → z 71 k = pv) ∧ yB w (yP h a1) 0 a1 b = (yB w' H b3 pv b).map (fun c => done ++ c)) (fun _ _ _ b4 => (5 - b4).toNat) ?_ 1000 b w 0 0 t2 ⟨rfl, rfl, 0, w, yP h a1, a1, [], rfl, by omega, rfl, ok, by omega, by omega, fun x x1 x2 => ?_, fun i i0 i4 => ?_, fun j hj => ?_, fun _ => rfl, fun z => by omega, ?_⟩ (by omega)
    · rintro rec2 b1 b2 f b4 z ⟨rfl, rfl, k, w', H, pv, done, rfl, hkw, hdl, okH, f0, f34, frz, z70, z71, hpv0, hpv, hB⟩ ih2
      unfold bX11_isWay_68
      refine gHo_if (fun hc2 => ?_) (fun hc2 => ?_)
      · have e : w' = 0 := by omega
        subst e
        have hz := jSum_z okH.1 (by have := okH.2; omega)
        unfold bX11_isWay_289
        refine gIt3 (fun c1 c2 z' => z' = z ∧ c1 = 1 ∧ 0 ≤ c2 ∧ c2 ≤ 34) (fun _ c2 => (34 - c2).toNat) ?_ 1000 1 0 z ⟨rfl, rfl, by omega, by omega⟩ (by decide)
        rintro rec3 c1 c2 z' ⟨rfl, rfl, c0, c34⟩ ih3
        unfold bX11_isWay_295
        refine gHo_if (fun hc3 => ?_) (fun hc3 => ?_)
        · refine gHo_gd ⟨by decide, by decide⟩ (gHo_ret ⟨frz, Or.inl ⟨rfl, done, h2, ?_, by omega, fun j hj => z71 j (by omega)⟩⟩)
          rw [hB]
          show some (done ++ []) = some done
          rw [List.append_nil]
        · rw [if_neg (by decide)]
          refine gHo_gd ⟨c0, by omega⟩ (gHo_let ?_)
          rw [z70 c2 c0 (by omega), hz c2 c0 (by omega), if_pos rfl]
          unfold bX11_isWay_322
          exact gHo_l32 (by omega) (by omega) (ih3 _ _ _ ⟨rfl, rfl, by omega, by omega⟩ (by omega))
      · obtain ⟨v, rfl⟩ : ∃ v, w' = v + 1 := ⟨w' - 1, by omega⟩
        obtain ⟨xa, xb, xc, xd⟩ := yFs_p H f34
        obtain ⟨x, hx⟩ : ∃ x, x = yFs H f := ⟨_, rfl⟩
        rw [← hx] at xa xb xc xd
        -- no way on
        have fail : yB (v + 1) H f pv b = none → ∀ z' : jMem, (∀ x : Int, x ≠ 70 → x ≠ 71 → z' x = s x) → jHo (fun v' t => (∀ x : Int, x ≠ 70 → x ≠ 71 → t x = s x) ∧ ((v' = 1 ∧ ∃ c : List Int, 2 ≤ h a1 ∧ yB w (yP h a1) 0 a1 b = some c ∧ c.length = w ∧ ∀ k : Nat, k < 1 + w → t 71 k = (a1 :: c).getD k 0) ∨ (v' = 0 ∧ (2 ≤ h a1 → yB w (yP h a1) 0 a1 b = none)))) (jRet 0 z') := by
          intro hn z' hz'
          refine gHo_ret ⟨hz', Or.inr ⟨rfl, fun _ => ?_⟩⟩
          rw [hB, hn]; rfl
        refine gIt5 (fun c1 c2 c3 c4 z' => c1 = b ∧ c2 = w ∧ c4 = k ∧ z' = z ∧ f ≤ c3 ∧ c3 ≤ x) (fun _ _ c3 _ => (34 - c3).toNat) ?_ 1000 b w f k z ⟨rfl, rfl, rfl, rfl, Int.le_refl _, xa⟩ (by omega)
        rintro rec3 c1 c2 c3 c4 z' ⟨rfl, rfl, rfl, rfl, c3a, c3b⟩ ih3
        have main : c3 = x → jHo (fun v' t => (∀ x : Int, x ≠ 70 → x ≠ 71 → t x = s x) ∧ ((v' = 1 ∧ ∃ c : List Int, 2 ≤ h a1 ∧ yB w (yP h a1) 0 a1 b = some c ∧ c.length = w ∧ ∀ k : Nat, k < 1 + w → t 71 k = (a1 :: c).getD k 0) ∨ (v' = 0 ∧ (2 ≤ h a1 → yB w (yP h a1) 0 a1 b = none)))) (bX11_isWay_97 rec2 b w c3 k z') := by
          intro ec
          subst ec
          unfold bX11_isWay_97
          refine gHo_if (fun e34 => ?_) (fun e34 => ?_)
          · exact fail (yB_e v H f pv b (by omega)) z' frz
          · have x4 : c3 < 34 := by omega
            have x0 : 0 ≤ c3 := by omega
            have hn := xd x4
            have hs := yB_s v H f pv b hx x4
            have z7x := z70 c3 x0 x4
            have ble := yOk_le okH c3 x0 x4
            have bnn := okH.1 c3 x0 x4
            have bit := yBit b hb v (by omega)
            refine gHo_l32 (by omega) (by omega) (gHo_l32 (by omega) (by omega) (gHo_let (gHo_let ?_)))
            rw [show (w : Int) - 1 - k = v by omega, bit]
            -- the group goes; what comes behind it
            have next : ∀ (r : Bool) (H' : Int → Int) (z1 : jMem), H' = (if r then yR H c3 else yT H c3) → yOk v H' → yB (v + 1) H f pv b = (yB v H' c3 ((if r then 100 else 200) + c3) b).map (fun c => ((if r then 100 else 200) + c3) :: c) → (∀ x : Int, x ≠ 70 → z1 x = z' x) → (∀ i : Int, 0 ≤ i → i < 34 → z1 70 i = H' i) → jHo (fun v' t => (∀ x : Int, x ≠ 70 → x ≠ 71 → t x = s x) ∧ ((v' = 1 ∧ ∃ c : List Int, 2 ≤ h a1 ∧ yB w (yP h a1) 0 a1 b = some c ∧ c.length = w ∧ ∀ k : Nat, k < 1 + w → t 71 k = (a1 :: c).getD k 0) ∨ (v' = 0 ∧ (2 ≤ h a1 → yB w (yP h a1) 0 a1 b = none)))) (bX11_isWay_258 rec2 b w c3 k (if r then 1 else 0) z1) := by
              intro r H' z1 eH okH' eB fz1 h70
              have fin : ∀ m : Int, 100 * m + c3 = (if r then 100 else 200) + c3 → 1 ≤ m → m ≤ 2 → jHo (fun v' t => (∀ x : Int, x ≠ 70 → x ≠ 71 → t x = s x) ∧ ((v' = 1 ∧ ∃ c : List Int, 2 ≤ h a1 ∧ yB w (yP h a1) 0 a1 b = some c ∧ c.length = w ∧ ∀ k : Nat, k < 1 + w → t 71 k = (a1 :: c).getD k 0) ∨ (v' = 0 ∧ (2 ≤ h a1 → yB w (yP h a1) 0 a1 b = none)))) (bX11_isWay_278 rec2 b w c3 k (1 + k) 100 m z1) := by
                intro m em m1 m2
                unfold bX11_isWay_278
                refine gHo_l32 (by omega) (by omega) (gHo_l32 (by omega) (by omega) (gHo_gd ⟨by omega, by omega⟩ (gHo_nm fun z2 hz2 => gHo_l32 (by omega) (by omega) (ih2 _ _ _ _ _ ⟨rfl, rfl, k + 1, v, H', (if r then 100 else 200) + c3, done ++ [(if r then 100 else 200) + c3], by omega, by omega, ?_, okH', x0, by omega, fun x x1 x2 => ?_, fun i i0 i4 => ?_, fun j hj => ?_, fun z => by omega, fun _ => ?_, ?_⟩ (by omega)))))
                · rw [List.length_append, List.length_singleton, hdl]
                · rw [hz2, jU_row x2, fz1 x x1]; exact frz x x1 x2
                · rw [hz2, jU_row (by decide)]; exact h70 i i0 i4
                · rw [hz2, jU_at, fz1 71 (by decide)]
                  by_cases ej : (j : Int) = 1 + k
                  · rw [if_pos ej, em, show a1 :: (done ++ [(if r then 100 else 200) + c3]) = (a1 :: done) ++ [(if r then 100 else 200) + c3] from rfl, ygd_r (by rw [List.length_cons]; omega), show j - (a1 :: done).length = 0 by rw [List.length_cons]; omega]
                    rfl
                  · rw [if_neg ej, z71 j (by omega), show a1 :: (done ++ [(if r then 100 else 200) + c3]) = (a1 :: done) ++ [(if r then 100 else 200) + c3] from rfl, ygd_l (by rw [List.length_cons]; omega)]
                · rw [hz2, jU_at, if_pos (by omega), em]
                · rw [hB, eB, Option.map_map]
                  congr 1
                  funext c
                  show done ++ _ :: c = (done ++ [_]) ++ c
                  simp
              unfold bX11_isWay_258
              refine gHo_l32 (by omega) (by omega) ?_
              cases r with
              | true =>
                rw [if_neg (show ¬ (if true = true then (1 : Int) else 0) = 0 by decide)]
                exact fin 1 (by simp) (by omega) (by omega)
              | false =>
                rw [if_pos (show (if false = true then (1 : Int) else 0) = 0 by decide)]
                exact fin 2 (by simp) (by omega) (by omega)
            by_cases hbit : (b / 2 ^ v) % 2 = 1
            · rw [hbit, if_pos (by decide)]
              rw [if_pos hbit] at hs
              unfold bX11_isWay_125
              rw [if_neg (by decide), zX11_begins x0 (by omega), jBd_s]
              by_cases hst : c3 < 27 ∧ c3 % 9 ≤ 6
              · have z71' := z70 (c3 + 1) (by omega) (by omega)
                have z72' := z70 (c3 + 2) (by omega) (by omega)
                have n1 := okH.1 (c3 + 1) (by omega) (by omega)
                have n2 := okH.1 (c3 + 2) (by omega) (by omega)
                have l1 := yOk_le okH (c3 + 1) (by omega) (by omega)
                have l2 := yOk_le okH (c3 + 2) (by omega) (by omega)
                rw [jb_1 hst, if_neg (by decide)]
                refine gHo_l32 (by omega) (by omega) (gHo_gd ⟨by omega, by omega⟩ (gHo_let ?_))
                rw [z71']
                refine gHo_if (fun e1 => ?_) (fun e1 => ?_)
                · exact fail (by rw [hs, if_neg (fun y => by have := y.2.1; omega)]) z' frz
                · refine gHo_l32 (by omega) (by omega) (gHo_gd ⟨by omega, by omega⟩ (gHo_let ?_))
                  rw [z72']
                  refine gHo_if (fun e2 => ?_) (fun e2 => ?_)
                  · exact fail (by rw [hs, if_neg (fun y => by have := y.2.2; omega)]) z' frz
                  · have cr : yCr H c3 := ⟨hst, by omega, by omega⟩
                    rw [if_pos cr] at hs
                    have okR := yOk_R okH x0 hn cr
                    unfold bX11_isWay_180
                    rw [if_neg (by decide)]
                    unfold bX11_isWay_207
                    refine gHo_gd ⟨x0, by omega⟩ (gHo_let ?_)
                    rw [z7x, if_neg (by decide)]
                    unfold bX11_isWay_225
                    refine gHo_l32 (by omega) (by omega) (gHo_gd ⟨x0, by omega⟩ (gHo_nm fun z1 hz1 => ?_))
                    rw [if_neg (by decide)]
                    have y1 : z1 70 (c3 + 1) = H (c3 + 1) := by rw [hz1, jU_at, if_neg (by omega)]; exact z71'
                    refine gHo_l32 (by omega) (by omega) (gHo_gd ⟨by omega, by omega⟩ (gHo_let ?_))
                    rw [y1]
                    refine gHo_l32 (by omega) (by omega) (gHo_gd ⟨by omega, by omega⟩ (gHo_nm fun z2 hz2 => ?_))
                    have y2 : z2 70 (c3 + 2) = H (c3 + 2) := by rw [hz2, jU_at, if_neg (by omega), hz1, jU_at, if_neg (by omega)]; exact z72'
                    refine gHo_l32 (by omega) (by omega) (gHo_gd ⟨by omega, by omega⟩ (gHo_let ?_))
                    rw [y2]
                    refine gHo_l32 (by omega) (by omega) (gHo_gd ⟨by omega, by omega⟩ (gHo_nm fun z3 hz3 => ?_))
                    refine next true (yR H c3) z3 (by simp) okR hs (fun y hy => ?_) (fun i i0 i4 => ?_)
                    · rw [hz3, jU_row hy, hz2, jU_row hy, hz1, jU_row hy]
                    · rw [hz3, jU_at, hz2, jU_at, hz1, jU_at]
                      unfold yR
                      by_cases p2 : i = c3 + 2
                      · rw [if_pos p2, if_pos (Or.inr (Or.inr p2)), p2]
                      · rw [if_neg p2]
                        by_cases p1 : i = c3 + 1
                        · rw [if_pos p1, if_pos (Or.inr (Or.inl p1)), p1]
                        · rw [if_neg p1]
                          by_cases pp : i = c3
                          · rw [if_pos pp, if_pos (Or.inl pp), pp]
                          · rw [if_neg pp, if_neg (by omega)]; exact z70 i i0 i4
              · rw [jb_0 hst, if_pos rfl]
                exact fail (by rw [hs, if_neg (fun y => hst y.1)]) z' frz
            · have hbit0 : (b / 2 ^ v) % 2 = 0 := by omega
              rw [hbit0, if_neg (by decide)]
              rw [if_neg hbit] at hs
              unfold bX11_isWay_125
              rw [if_pos rfl]
              refine gHo_gd ⟨x0, by omega⟩ (gHo_let ?_)
              rw [z7x]
              refine gHo_if (fun e3 => ?_) (fun e3 => ?_)
              · have okT := yOk_T okH ⟨x0, x4⟩ e3
                have take : pv ≠ 100 + c3 → jHo (fun v' t => (∀ x : Int, x ≠ 70 → x ≠ 71 → t x = s x) ∧ ((v' = 1 ∧ ∃ c : List Int, 2 ≤ h a1 ∧ yB w (yP h a1) 0 a1 b = some c ∧ c.length = w ∧ ∀ k : Nat, k < 1 + w → t 71 k = (a1 :: c).getD k 0) ∨ (v' = 0 ∧ (2 ≤ h a1 → yB w (yP h a1) 0 a1 b = none)))) (bX11_isWay_207 rec2 b w c3 k 0 z') := by
                  intro hne
                  rw [if_pos ⟨e3, hne⟩] at hs
                  unfold bX11_isWay_207
                  refine gHo_gd ⟨x0, by omega⟩ (gHo_let ?_)
                  rw [z7x, if_pos rfl]
                  unfold bX11_isWay_225
                  refine gHo_l32 (by omega) (by omega) (gHo_gd ⟨x0, by omega⟩ (gHo_nm fun z1 hz1 => ?_))
                  rw [if_pos rfl]
                  refine next false (yT H c3) z1 (by simp) okT hs (fun y hy => ?_) (fun i i0 i4 => ?_)
                  · rw [hz1, jU_row hy]
                  · rw [hz1, jU_at]
                    unfold yT
                    by_cases pp : i = c3
                    · rw [if_pos pp, if_pos pp, pp]
                    · rw [if_neg pp, if_neg pp]; exact z70 i i0 i4
                unfold bX11_isWay_180
                rw [if_pos rfl]
                refine gHo_if (fun ek => ?_) (fun ek => ?_)
                · exact take (by have := hpv0 (by omega); omega)
                · refine gHo_gd ⟨by omega, by omega⟩ (gHo_let (gHo_l32 (by omega) (by omega) ?_))
                  rw [hpv (by omega)]
                  refine gHo_if (fun ep => ?_) (fun ep => take ep)
                  exact fail (by rw [hs, if_neg (fun y => y.2 ep)]) z' frz
              · exact fail (by rw [hs, if_neg (fun y => e3 y.1)]) z' frz
        unfold bX11_isWay_74
        refine gHo_if (fun e4 => main (by omega)) (fun e4 => ?_)
        refine gHo_gd ⟨by omega, by omega⟩ (gHo_let ?_)
        rw [z70 c3 (by omega) (by omega)]
        refine gHo_if (fun ez => ?_) (fun ez => ?_)
        · have lt : c3 < x := by
            by_cases e : c3 = x
            · subst e; exact absurd ez (xd (by omega))
            · omega
          exact gHo_l32 (by omega) (by omega) (ih3 _ _ _ _ _ ⟨rfl, rfl, rfl, rfl, by omega, by omega⟩ (by omega))
        · refine main ?_
          by_cases e : c3 = x
          · exact e
          · exact absurd (xc c3 c3a (by omega)) ez
    · rw [ht2, jU_row x2, ht1, jU_row x1]; exact fr x x1
    · rw [ht2, jU_row (by decide), ht1, jU_at]
      unfold yP
      by_cases e : i = a1
      · rw [if_pos e, if_pos e, e]
      · rw [if_neg e, if_neg e]; exact hv i i0 i4
    · have : j = 0 := by omega
      subst this
      rw [ht2, jU_at, if_pos (show ((0 : Nat) : Int) = 0 from rfl)]
      rfl
    · cases yB w (yP h a1) 0 a1 b <;> rfl
  · refine gHo_gd ⟨q0, by omega⟩ (gHo_let ?_)
    rw [fr 68 (by decide), hh q q0 (by omega)]
    refine gHo_gd ⟨q0, by omega⟩ (gHo_nm fun t1 ht1 => gHo_l32 (by omega) (by omega) (ih _ _ _ _ ⟨rfl, rfl, by omega, by omega, fun x hx => ?_, fun i i0 i4 => ?_⟩ (by omega)))
    · rw [ht1, jU_row hx]; exact fr x hx
    · rw [ht1, jU_at]
      by_cases e : i = q
      · rw [if_pos e, e]
      · rw [if_neg e]; exact hv i i0 (by omega)
/-- the way of a pair that bits tell -/
def yBp (h : Int → Int) (w : Nat) (p : Int) (b : Nat) : Option (List Int) := if 2 ≤ h p then (yB w (yP h p) 0 p b).map (fun c => p :: c) else none
theorem yL_yBp {h : Int → Int} {w : Nat} {p : Int} (p4 : p < 34) : yL h w p = (List.range (2 ^ w)).filterMap (yBp h w p) := by
  unfold yL
  by_cases h2 : 2 ≤ h p
  · have e : yBp h w p = fun b => (yB w (yP h p) 0 p b).map (fun c => p :: c) := by funext b; unfold yBp; rw [if_pos h2]
    rw [if_pos h2, yV_yB w (yP h p) 0 p (-1) (by omega) (by omega) (fun s s0 s4 => by omega), List.map_filterMap, e]
  · have e : yBp h w p = fun _ => none := by funext b; unfold yBp; rw [if_neg h2]
    rw [if_neg h2, e]
    exact (List.filterMap_eq_nil_iff.mpr (fun _ _ => rfl)).symm
theorem yAll_pre (h : Int → Int) (w : Nat) (n : Nat) : ∀ m : Nat, ∃ R, yAll h w (n + m) = yAll h w n ++ R := by
  intro m
  induction m with
  | zero => exact ⟨[], by rw [List.append_nil]; rfl⟩
  | succ m ih =>
    obtain ⟨R, hR⟩ := ih
    refine ⟨R ++ yL h w ((n + m : Nat) : Int), ?_⟩
    rw [show n + (m + 1) = n + m + 1 from rfl]
    simp only [yAll]
    rw [hR, List.append_assoc]
theorem zX11_findWay {s : jMem} {i : Int} {h : Int → Int} {w : Nat} (hf : yFull w h) (hi : -1 ≤ i ∧ i < 2147483648) (hh : ∀ q : Int, 0 ≤ q → q < 34 → s 68 q = h q) (hw : s 53 20 = 4 - (w : Int)) : jHo (fun v t => (∀ x : Int, x ≠ 70 → x ≠ 71 → t x = s x) ∧ ((0 ≤ i ∧ i < ((yAll h w 34).length : Int) ∧ v = i + 1 ∧ ∀ k : Nat, k < 1 + w → t 71 k = ((yAll h w 34).getD i.toNat []).getD k 0) ∨ ((i < 0 ∨ ((yAll h w 34).length : Int) ≤ i) ∧ v = ((yAll h w 34).length : Int)))) (fX11_findWay i s) := by
  have w4 := hf.1
  have h8 := yAll_8 hf
  have pw : jshl 1 (w : Int) = ((2 ^ w : Nat) : Int) ∧ 2 ^ w ≤ 16 := by
    rcases (by omega : w = 0 ∨ w = 1 ∨ w = 2 ∨ w = 3 ∨ w = 4) with rfl | rfl | rfl | rfl | rfl <;> decide +kernel
  have nx : ∀ n : Int, 0 ≤ n → n ≤ 8 → (n + 1 = j32 (i + 1) ↔ n = i) := by
    intro n n0 n8
    unfold j32
    omega
  unfold fX11_findWay
  refine gIt4 (fun a1 a2 a3 t => a1 = i ∧ ∃ p : Nat, a3 = p ∧ p ≤ 34 ∧ a2 = ((yAll h w p).length : Int) ∧ (i < 0 ∨ a2 ≤ i) ∧ ∀ x : Int, x ≠ 70 → x ≠ 71 → t x = s x) (fun _ _ a3 => (34 - a3).toNat) ?_ 1000 i 0 0 s ⟨rfl, 0, rfl, by omega, rfl, by omega, fun _ _ _ => rfl⟩ (by decide)
  rintro rec a1 a2 a3 t ⟨rfl, p, rfl, hp, rfl, hn, fr⟩ ih
  have mono := yAll_mono h w p (34 - p)
  rw [show p + (34 - p) = 34 by omega] at mono
  unfold bX11_findWay_4
  refine gHo_if (fun hc => ?_) (fun hc => ?_)
  · have e : p = 34 := by omega
    subst e
    exact gHo_ret ⟨fr, Or.inr ⟨hn, rfl⟩⟩
  · have hp4 : p < 34 := by omega
    have hle : ∀ q : Int, 0 ≤ q → q < 34 → t 68 q = h q ∧ 0 ≤ h q ∧ h q ≤ 14 := fun q q0 q4 => by
      have z := jSum_le (f := fun p => if p = q then h q else 0) (g := h) (n := 34) (fun i hi => by
        have := hf.2.1 i (by omega) (by omega)
        by_cases e : (i : Int) = q
        · rw [if_pos e, e]; omega
        · rw [if_neg e]; exact this)
      have k := jSum_one q (h q) 34
      rw [if_pos (by omega)] at k
      have := hf.2.1 q q0 q4
      have := hf.2.2
      rw [fr 68 (by decide) (by decide)]
      exact ⟨hh q q0 q4, by omega, by omega⟩
    refine gHo_bd (zX11_mayBe (by omega) (by omega) hle) (fun m t' hm => ?_)
    obtain ⟨rfl, hm01, hm0⟩ := hm
    have len1 : (yAll h w (p + 1)).length = (yAll h w p).length + (yL h w p).length := List.length_append
    have mono2 := yAll_mono h w (p + 1) (34 - (p + 1))
    rw [show p + 1 + (34 - (p + 1)) = 34 by omega] at mono2
    refine gIt6 (fun b1 b2 b3 b4 b5 z => b1 = a1 ∧ b3 = p ∧ b4 = m ∧ ∃ b : Nat, b5 = b ∧ b ≤ 2 ^ w ∧ b2 = (((yAll h w p).length + ((List.range b).filterMap (yBp h w p)).length : Nat) : Int) ∧ (a1 < 0 ∨ b2 ≤ a1) ∧ ∀ x : Int, x ≠ 70 → x ≠ 71 → z x = s x) (fun _ _ _ _ b5 => (100 - b5).toNat) ?_ 1000 a1 _ p m 0 t' ⟨rfl, rfl, rfl, 0, rfl, Nat.zero_le _, rfl, hn, fr⟩ (by omega)
    rintro rec2 b1 b2 b3 b4 b5 z ⟨rfl, rfl, rfl, b, rfl, hb, rfl, hnb, frz⟩ ih2
    have r53 : z 53 20 = 4 - (w : Int) := by rw [frz 53 (by decide) (by decide), hw]
    -- the pair is through
    have thru : (b4 = 0 ∨ b = 2 ^ w) → (b4 = 0 → b = 0 ∨ True) → ∀ n : Int, n = (((yAll h w p).length + ((List.range b).filterMap (yBp h w p)).length : Nat) : Int) → (b4 = 0 → yL h w p = []) → jHo (fun v t => (∀ x : Int, x ≠ 70 → x ≠ 71 → t x = s x) ∧ ((0 ≤ b1 ∧ b1 < ((yAll h w 34).length : Int) ∧ v = b1 + 1 ∧ ∀ k : Nat, k < 1 + w → t 71 k = ((yAll h w 34).getD b1.toNat []).getD k 0) ∨ ((b1 < 0 ∨ ((yAll h w 34).length : Int) ≤ b1) ∧ v = ((yAll h w 34).length : Int)))) (bX11_findWay_66 rec b1 n p z) := by
      intro hx _ n hnn hL
      have en : n = ((yAll h w (p + 1)).length : Int) := by
        rw [hnn, len1]
        rcases hx with hx | hx
        · have e0 := hL hx
          have e1 : (List.range (2 ^ w)).filterMap (yBp h w p) = [] := by rw [← yL_yBp (by omega)]; exact e0
          have e2 : (List.range b).filterMap (yBp h w p) = [] := by
            rw [List.filterMap_eq_nil_iff] at e1 ⊢
            intro x hx'
            exact e1 x (List.mem_range.mpr (by have := List.mem_range.mp hx'; omega))
          rw [e0, e2]
        · subst hx
          rw [← yL_yBp (by omega)]
      unfold bX11_findWay_66
      refine gHo_l32 (by omega) (by omega) (ih _ _ _ _ ⟨rfl, p + 1, by omega, by omega, en, ?_, frz⟩ (by omega))
      rw [hnn]; exact hnb
    have hL0 : b4 = 0 → yL h w p = [] := by
      intro z0
      by_cases e : yL h w p = []
      · exact e
      · obtain ⟨m1, m2, -⟩ := yL_mod hf (p := (p : Int)) ⟨by omega, by omega⟩ e
        exact absurd ⟨m1, fun r _ _ => m2 r⟩ (hm0 z0)
    unfold bX11_findWay_20
    refine gHo_let ?_
    rw [r53]
    refine gHo_l32 (by omega) (by omega) (gHo_let ?_)
    rw [show 4 - (4 - (w : Int)) = w by omega, pw.1]
    refine gHo_if (fun e1 => ?_) (fun e1 => ?_)
    · exact thru (Or.inr (by omega)) (fun _ => Or.inr trivial) _ rfl hL0
    · refine gHo_if (fun e2 => ?_) (fun e2 => ?_)
      · exact thru (Or.inl e2) (fun _ => Or.inr trivial) _ rfl hL0
      · have hb2 : b < 2 ^ w := by omega
        -- what comes with the next bits
        have eL : yL h w p = (List.range b).filterMap (yBp h w p) ++ (List.filterMap (yBp h w p) [b] ++ (List.range (2 ^ w - (b + 1))).filterMap (yBp h w p ∘ fun x => (b + 1) + x)) := by
          rw [yL_yBp (by omega)]
          have : 2 ^ w = (b + 1) + (2 ^ w - (b + 1)) := by omega
          rw [this, List.range_add, List.range_succ, List.filterMap_append, List.filterMap_append, List.filterMap_map, List.append_assoc]
          rw [show b + 1 + (2 ^ w - (b + 1)) - (b + 1) = 2 ^ w - (b + 1) by omega]
        have eN : (List.range (b + 1)).filterMap (yBp h w p) = (List.range b).filterMap (yBp h w p) ++ List.filterMap (yBp h w p) [b] := by
          rw [List.range_succ, List.filterMap_append]
        have lL := congrArg List.length eL
        rw [List.length_append, List.length_append] at lL
        refine gHo_bd (zX11_isWay (p := (p : Int)) (b := b) (by omega) (by omega) hf (by omega) (fun q q0 q4 => by rw [frz 68 (by decide) (by decide)]; exact hh q q0 q4) r53) (fun v z1 hv => ?_)
        obtain ⟨fz1, hv⟩ := hv
        have frz1 : ∀ x : Int, x ≠ 70 → x ≠ 71 → z1 x = s x := fun x x1 x2 => (fz1 x x1 x2).trans (frz x x1 x2)
        rcases hv with ⟨rfl, c, h2, hB, hcl, h71⟩ | ⟨rfl, hB⟩
        · have eb : yBp h w p b = some ((p : Int) :: c) := by unfold yBp; rw [if_pos h2, hB]; rfl
          have e1b : List.filterMap (yBp h w p) [b] = [(p : Int) :: c] := by simp [List.filterMap_cons, eb]
          rw [e1b] at eL eN
          rw [e1b, List.length_singleton] at lL
          rw [if_neg (by decide)]
          obtain ⟨n, hnn⟩ : ∃ n : Nat, n = (yAll h w p).length + ((List.range b).filterMap (yBp h w p)).length := ⟨_, rfl⟩
          rw [← hnn] at hnb ⊢
          have n8 : n < 8 ∧ n < (yAll h w 34).length := by omega
          have nxn := nx n (by omega) (by omega)
          refine gHo_l32 (by omega) (by omega) (gHo_let (gHo_if (fun e => ?_) (fun e => ?_)))
          · have ei := nxn.mp e
            refine gHo_ret ⟨frz1, Or.inl ⟨by omega, by omega, by omega, fun k hk => ?_⟩⟩
            obtain ⟨R, hR⟩ := yAll_pre h w (p + 1) (34 - (p + 1))
            rw [show p + 1 + (34 - (p + 1)) = 34 by omega] at hR
            have e3 : yAll h w (p + 1) = (yAll h w p ++ (List.range b).filterMap (yBp h w p)) ++ ([(p : Int) :: c] ++ (List.range (2 ^ w - (b + 1))).filterMap (yBp h w p ∘ fun x => (b + 1) + x)) := by
              show yAll h w p ++ yL h w p = _
              rw [eL, List.append_assoc]
            have lp : (yAll h w p ++ (List.range b).filterMap (yBp h w p)).length = n := by rw [List.length_append, hnn]
            rw [h71 k hk, ← ei, Int.toNat_natCast, hR, e3, List.append_assoc, ygD_r (by omega), lp, Nat.sub_self]
            rfl
          · have ne : ¬ (n : Int) = b1 := fun y => e (nxn.mpr y)
            unfold bX11_findWay_60
            refine gHo_l32 (by omega) (by omega) (ih2 _ _ _ _ _ _ ⟨rfl, rfl, rfl, b + 1, by omega, by omega, ?_, ?_, frz1⟩ (by omega))
            · rw [eN, List.length_append, List.length_singleton, ← Nat.add_assoc, ← hnn]; omega
            · omega
        · have eb : yBp h w p b = none := by
            unfold yBp
            by_cases h2 : 2 ≤ h p
            · rw [if_pos h2, hB h2]; rfl
            · rw [if_neg h2]
          have e1b : List.filterMap (yBp h w p) [b] = [] := by simp [List.filterMap_cons, eb]
          rw [e1b, List.append_nil] at eN
          rw [if_pos rfl]
          unfold bX11_findWay_60
          refine gHo_l32 (by omega) (by omega) (ih2 _ _ _ _ _ _ ⟨rfl, rfl, rfl, b + 1, by omega, by omega, ?_, hnb, frz1⟩ (by omega))
          rw [eN]
theorem zX11_addOpen {s : jMem} {h : Int} {w : Nat} (h0 : 0 ≤ h) (h4 : h < 4) (w4 : w ≤ 4) (hg : s 58 h = 4 - (w : Int)) : jHo (fun _ t => (∀ x : Int, x ≠ 71 → t x = s x) ∧ (∀ k : Int, k < 1 + (w : Int) → t 71 k = s 71 k) ∧ ∀ k : Int, 1 + (w : Int) ≤ k → k < 5 → t 71 k = s 59 (5 * h + (k - 1 - w))) (fX11_addOpen h s) := by
  have u := jik_m
  unfold fX11_addOpen
  refine gIt3 (fun a1 j t => a1 = h ∧ 0 ≤ j ∧ j ≤ 4 - (w : Int) ∧ (∀ x : Int, x ≠ 71 → t x = s x) ∧ (∀ k : Int, k < 1 + (w : Int) → t 71 k = s 71 k) ∧ ∀ k : Int, 1 + (w : Int) ≤ k → k < 1 + w + j → t 71 k = s 59 (5 * h + (k - 1 - w))) (fun _ j => (5 - j).toNat) ?_ 1000 h 0 s ⟨rfl, by omega, by omega, fun _ _ => rfl, fun _ _ => rfl, fun k a b => by omega⟩ (by decide)
  rintro rec a1 j t ⟨rfl, j0, j4, fr, lo, hi⟩ ih
  have r58 := fr 58 (by decide)
  have r59 := fr 59 (by decide)
  unfold bX11_addOpen_2
  refine gHo_gd ⟨h0, by omega⟩ (gHo_let ?_)
  rw [r58, hg]
  refine gHo_if (fun hc => ?_) (fun hc => ?_)
  · exact gHo_ret ⟨fr, lo, fun k k1 k2 => hi k k1 (by omega)⟩
  · refine gHo_gd ⟨h0, by omega⟩ (gHo_let (gHo_l32 (by omega) (by omega) (gHo_l32 (by omega) (by omega) (gHo_l32 (by omega) (by omega) (gHo_l32 (by omega) (by omega) (gHo_gd ⟨by omega, by omega⟩ (gHo_let (gHo_gd ⟨by omega, by omega⟩ (gHo_nm fun t1 ht1 => gHo_l32 (by omega) (by omega) (ih _ _ _ ⟨rfl, by omega, by omega, fun x hx => ?_, fun k hk => ?_, fun k k1 k2 => ?_⟩ (by omega)))))))))))
    · rw [ht1, jU_row hx]; exact fr x hx
    · rw [ht1, jU_at, if_neg (by omega)]; exact lo k hk
    · rw [ht1, jU_at, r59]
      by_cases e : k = 5 - (4 - (w : Int)) + j
      · rw [if_pos e]; congr 1; omega
      · rw [if_neg e]; exact hi k k1 (by omega)
end

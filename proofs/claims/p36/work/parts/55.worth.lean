/-! ===== worth, by, holds ===== -/
section
theorem yAll_mem (h : Int → Int) (w : Nat) : ∀ (n : Nat) (x : List Int), x ∈ yAll h w n → ∃ (p : Nat) (c : List Int), p < n ∧ x = (p : Int) :: c ∧ 2 ≤ h p ∧ c ∈ yV w (yP h p) 0 (-1) := by
  intro n
  induction n with
  | zero => intro x hx; simp [yAll] at hx
  | succ n ih =>
    intro x hx
    simp only [yAll, List.mem_append] at hx
    rcases hx with hx | hx
    · obtain ⟨p, c, a, b⟩ := ih x hx
      exact ⟨p, c, by omega, b⟩
    · unfold yL at hx
      by_cases h2 : 2 ≤ h n
      · rw [if_pos h2] at hx
        obtain ⟨c, hc, rfl⟩ := List.mem_map.mp hx
        exact ⟨n, c, by omega, rfl, h2, hc⟩
      · rw [if_neg h2] at hx; simp at hx
theorem jSum_ge {f : Int → Int} {n : Nat} (hf : ∀ i : Nat, i < n → 0 ≤ f i) {k : Nat} (hk : k < n) : f k ≤ jSum f n := by
  have z := jSum_le (f := fun p => if p = (k : Int) then f k else 0) (g := f) (n := n) (fun i hi => by
    have := hf i hi
    by_cases e : (i : Int) = k
    · rw [if_pos e, e]; omega
    · rw [if_neg e]; exact this)
  have a := jSum_one (k : Int) (f k) n
  rw [if_pos (by omega)] at a
  omega
theorem jSum_pos {f : Int → Int} {n : Nat} (h : 0 < jSum f n) : ∃ k : Nat, k < n ∧ 0 < f k := by
  induction n with
  | zero => simp [jSum] at h
  | succ n ih =>
    simp only [jSum] at h
    by_cases e : 0 < f n
    · exact ⟨n, by omega, e⟩
    · obtain ⟨k, a, b⟩ := ih (by omega)
      exact ⟨k, by omega, b⟩
/-- the codes of the j-th way of a hand -/
def yCj (s : jMem) (h : Int) (j : Nat) : Int → Int := fun k => if k < 1 + (yWn s h : Int) then ((yAll (vH s h) (yWn s h) 34).getD j []).getD k.toNat 0 else s 59 (5 * h + (k - 1 - (yWn s h : Int)))
theorem yCj_ok {s : jMem} {h : Int} (hI : iT s) (h0 : 0 ≤ h) (h4 : h < 4) (hs : jSum (vH s h) 34 + 3 * s 58 h = 14) {j : Nat} (hj : j < (yAll (vH s h) (yWn s h) 34).length) : yC5 (yCj s h j) ∧ (yEr (yCj s h j) 5 ↔ yOne (fun q => vH s h q + vL s h q)) := by
  obtain ⟨hf, hw⟩ := iH_full hI h0 h4 hs
  have w4 := hf.1
  obtain ⟨hc1, hc2⟩ := hI.2.2 h h0 h4
  have hhb := (hI.2.1 h h0 h4).1
  obtain ⟨w, hwe⟩ : ∃ w, w = yWn s h := ⟨_, rfl⟩
  obtain ⟨H, hH⟩ : ∃ H, H = vH s h := ⟨_, rfl⟩
  have eC : yCj s h j = fun k => if k < 1 + (w : Int) then ((yAll H w 34).getD j []).getD k.toNat 0 else s 59 (5 * h + (k - 1 - (w : Int))) := by rw [hwe, hH]; rfl
  rw [← hwe] at hf hw w4 hj
  rw [← hH] at hf hj hhb
  rw [← hH]
  have hm : (yAll H w 34).getD j [] ∈ yAll H w 34 := by
    have : (yAll H w 34).getD j [] = (yAll H w 34)[j] := by simp [List.getD, List.getElem?_eq_getElem hj]
    rw [this]; exact List.getElem_mem hj
  obtain ⟨p, c, p4, ex, p2, hc⟩ := yAll_mem H w 34 _ hm
  rw [ex] at eC
  obtain ⟨C, hC⟩ : ∃ C, C = yCj s h j := ⟨_, rfl⟩
  rw [← hC] at eC ⊢
  have ok := yFull_P hf (p := (p : Int)) ⟨by omega, by omega⟩ p2
  have hl := yV_in w _ _ _ c hc
  obtain ⟨us, cd⟩ := yV_us w (yP H p) 0 (-1) c ok (by omega) (by omega) hc
  have c0 : ∀ x, x ∈ c → 0 ≤ x := fun x hx => by
    obtain ⟨k, q, rfl, a, b, d, e, -⟩ := cd x hx
    omega
  -- the codes by place
  have at0 : C 0 = p := by
    rw [eC]; dsimp only; rw [if_pos (by omega)]; rfl
  have atk : ∀ k : Nat, k < w → ∃ x, x ∈ c ∧ C ((k + 1 : Nat) : Int) = x ∧ c[k]? = some x := by
    intro k hk
    have hk' : k < c.length := by omega
    refine ⟨c[k], List.getElem_mem hk', ?_, List.getElem?_eq_getElem hk'⟩
    rw [eC]; dsimp only; rw [if_pos (by omega), Int.toNat_natCast]
    simp [List.getD, List.getElem?_eq_getElem hk']
  have ato : ∀ k : Int, 1 + (w : Int) ≤ k → C k = s 59 (5 * h + (k - 1 - (w : Int))) := fun k hk => by rw [eC]; dsimp only; rw [if_neg (by omega)]
  have g0 : ∀ k : Int, 0 ≤ k → k < s 58 h → 0 ≤ s 59 (5 * h + k) := fun k a b => by
    obtain ⟨m, q, e, a1, b1, d, e1, -⟩ := (hc1 k a b).2
    omega
  have vLge : ∀ q : Int, 0 ≤ q → q < 34 → ∀ k : Int, 0 ≤ k → k < s 58 h → jUse (s 59 (5 * h + k)) q ≤ vL s h q := by
    intro q q0 q4 k k0 k4
    rw [hc2 q q0 q4]
    have := jSum_ge (f := fun k => jUse (s 59 (5 * h + k)) q) (n := (s 58 h).toNat) (fun i hi => jUse_nn (g0 i (by omega) (by omega))) (k := k.toNat) (by omega)
    rw [show ((k.toNat : Nat) : Int) = k by omega] at this
    exact this
  have hpu : 2 ≤ H p := p2
  refine ⟨⟨by rw [at0]; omega, fun k k1 k5 => ?_⟩, ?_⟩
  · by_cases e : k < 1 + (w : Int)
    · obtain ⟨x, hx, hv, -⟩ := atk (k.toNat - 1) (by omega)
      rw [show ((k.toNat - 1 + 1 : Nat) : Int) = k by omega] at hv
      rw [hv]; exact cd x hx
    · rw [ato k (by omega)]
      exact (hc1 _ (by omega) (by omega)).2
  · have ro0 : yRo (p : Int) = (p : Int) / 9 := by unfold yRo; rw [show (p : Int) % 100 = p by omega]
    unfold yEr yOne
    dsimp only
    constructor
    · intro er
      have e0 : ∀ k : Nat, k < 5 → yRo (C k) = (p : Int) / 9 := fun k hk => by
        have := er k hk
        rw [at0, ro0] at this
        exact this
      refine ⟨(p : Int) / 9, by omega, by omega, ⟨p, by omega, by omega, by have := (hhb p (by omega) (by omega)); omega, rfl⟩, fun q q0 q4 qu => ?_⟩
      have hq := hhb q q0 q4
      by_cases e1 : 0 < H q
      · by_cases e2 : q = p
        · rw [e2]
        · have := us q q0 q4
          unfold yP at this
          rw [if_neg e2] at this
          obtain ⟨x, hx, xu⟩ := yUs_in c0 q (by omega)
          obtain ⟨k, hk, ek⟩ := List.getElem_of_mem hx
          obtain ⟨x', hx', hv, hk'⟩ := atk k (by omega)
          rw [List.getElem?_eq_getElem hk, ek] at hk'
          have exx : x = x' := Option.some.inj hk'
          have := e0 (k + 1) (by omega)
          rw [hv, ← exx] at this
          rw [jUse_row (cd x hx) xu, this]
      · have vp : 0 < vL s h q := by omega
        rw [hc2 q q0 q4] at vp
        obtain ⟨k, hk, ku⟩ := jSum_pos vp
        have := e0 (k + 1 + w) (by omega)
        rw [ato _ (by omega), show ((k + 1 + w : Nat) : Int) - 1 - w = k by omega] at this
        rw [jUse_row (hc1 k (by omega) (by omega)).2 ku, this]
    · rintro ⟨r, r0, r4, -, all⟩ k hk
      have hp := all p (by omega) (by omega) (by have := (hhb p (by omega) (by omega)); omega)
      rw [at0, ro0, hp]
      by_cases e : k = 0
      · subst e
        rw [show C ((0 : Nat) : Int) = p from at0, ro0, hp]
      · by_cases e1 : (k : Int) < 1 + (w : Int)
        · obtain ⟨x, hx, hv, -⟩ := atk (k - 1) (by omega)
          rw [show k - 1 + 1 = k by omega] at hv
          rw [hv]
          obtain ⟨xu, x0, x4⟩ := jUse_at (cd x hx)
          have ge := yUs_ge c0 (x % 100) hx
          have u := us (x % 100) x0 x4
          have hb := hhb (x % 100) x0 x4
          have : 0 < H (x % 100) := by
            unfold yP at u
            by_cases e2 : x % 100 = p
            · rw [e2]; omega
            · rw [if_neg e2] at u; omega
          exact all (x % 100) x0 x4 (by omega)
        · rw [ato _ (by omega)]
          have hx := (hc1 ((k : Int) - 1 - w) (by omega) (by omega)).2
          obtain ⟨xu, x0, x4⟩ := jUse_at hx
          have ge := vLge _ x0 x4 ((k : Int) - 1 - w) (by omega) (by omega)
          have hb := hhb _ x0 x4
          exact all _ x0 x4 (by omega)
/-- the bits of a way, by what they say -/
def yIsB (c : Int → Int) (w : Nat) (R : Prop) (v : Int) : Prop := ∃ tw eo er : Int, v = yBits (yRn c 5) (yTh c w 5) tw eo er (c 0) w ∧ (tw = 1 ∨ tw = 0) ∧ (tw = 1 ↔ yTw c 5) ∧ (eo = 1 ∨ eo = 0) ∧ (eo = 1 ↔ yEo c 5) ∧ (er = 1 ∨ er = 0) ∧ (er = 1 ↔ R)
theorem yIsB_u {c : Int → Int} {w : Nat} {R S : Prop} {v v' : Int} (hRS : R ↔ S) (h : yIsB c w R v) (h' : yIsB c w S v') : v = v' := by
  obtain ⟨a, b, d, rfl, a1, a2, b1, b2, d1, d2⟩ := h
  obtain ⟨a', b', d', rfl, a1', a2', b1', b2', d1', d2'⟩ := h'
  rw [yFlag a1 a1' a2 a2', yFlag b1 b1' b2 b2', yFlag d1 d1' d2 (d2'.trans hRS.symm)]
theorem yFl (P : Prop) : ∃ a : Int, (a = 1 ∨ a = 0) ∧ (a = 1 ↔ P) := by
  by_cases h : P
  · exact ⟨1, Or.inl rfl, fun _ => h, fun _ => rfl⟩
  · exact ⟨0, Or.inr rfl, fun z => absurd z (by decide), fun z => absurd z h⟩
theorem yIsB_ex (c : Int → Int) (w : Nat) (R : Prop) : ∃ v, yIsB c w R v := by
  obtain ⟨a, a1, a2⟩ := yFl (yTw c 5)
  obtain ⟨b, b1, b2⟩ := yFl (yEo c 5)
  obtain ⟨d, d1, d2⟩ := yFl R
  exact ⟨_, a, b, d, rfl, a1, a2, b1, b2, d1, d2⟩
/-- the best of the first n ways; of all there is -/
def yFo (U B : Int → Int) : Nat → Int × Int × Int
  | 0 => (-1, 0, 0)
  | n + 1 => yTr U (yFo U B n) (B n) n
theorem yTr_0 {U : Int → Int} {st : Int × Int × Int} {b f : Int} (h : 0 ≤ U b) : 0 ≤ (yTr U st b f).1 := by
  unfold yTr
  split
  · exact h
  · omega
theorem yTr_m {U : Int → Int} {st : Int × Int × Int} {b f : Int} : st.1 ≤ (yTr U st b f).1 := by
  unfold yTr
  split
  · show st.1 ≤ U b; omega
  · omega
theorem yFo_0 {U B : Int → Int} (h : ∀ b, 0 ≤ U b) {n : Nat} (hn : 0 < n) : 0 ≤ (yFo U B n).1 := by
  match n, hn with
  | n + 1, _ => exact yTr_0 (h _)
theorem zX2_isSeven {h : Int} {w : Nat} {H : Int → Int} {f7 : Int} {t : jMem} (h0 : 0 ≤ h) (h4 : h < 4) (h6 : t 6 0 = f7) (hg : t (37 + 4 * h) 4 = 4 - (w : Int)) (hH : ∀ q : Int, 0 ≤ q → q < 34 → t (38 + 4 * h) q = H q) : fX2_isSeven (37 + 4 * h) t = some (jb (f7 ≠ 0 ∧ w = 4 ∧ yL7 H = 0), t) := by
  obtain ⟨t0, t1, t2, t3, t4, t5, t6, t7, t8, t9⟩ := jh_t h0 h4
  unfold fX2_isSeven
  rw [jLet_e, h6]
  by_cases z : f7 = 0
  · rw [if_pos z, jb_0 (fun y => y.1 z)]; rfl
  · rw [if_neg z, jGd_e t1, jLet_e, hg]
    by_cases e4 : w = 4
    · rw [if_pos (by omega), jLet_e, t2, zX4_lackOfSeven t5 t8 hH, jBd_s]
      by_cases c : yL7 H = 0
      · rw [if_pos c, jb_1 ⟨z, e4, c⟩]; rfl
      · rw [if_neg c, jb_0 (fun y => c y.2.2)]; rfl
    · rw [if_neg (by omega), jb_0 (fun y => e4 y.2.1)]; rfl
theorem zX2_isOuterOnes {h : Int} {w : Nat} {H : Int → Int} {f13 : Int} {t : jMem} (h0 : 0 ≤ h) (h4 : h < 4) (h6 : t 6 1 = f13) (hg : t (37 + 4 * h) 4 = 4 - (w : Int)) (hH : ∀ q : Int, 0 ≤ q → q < 34 → t (38 + 4 * h) q = H q) : fX2_isOuterOnes (37 + 4 * h) t = some (jb (f13 ≠ 0 ∧ w = 4 ∧ yL13 H = 0), t) := by
  obtain ⟨t0, t1, t2, t3, t4, t5, t6, t7, t8, t9⟩ := jh_t h0 h4
  unfold fX2_isOuterOnes
  rw [jLet_e, h6]
  by_cases z : f13 = 0
  · rw [if_pos z, jb_0 (fun y => y.1 z)]; rfl
  · rw [if_neg z, jGd_e t1, jLet_e, hg]
    by_cases e4 : w = 4
    · rw [if_pos (by omega), jLet_e, t2, zX4_lackOfOuter t5 hH, jBd_s]
      by_cases c : yL13 H = 0
      · rw [if_pos c, jb_1 ⟨z, e4, c⟩]; rfl
      · rw [if_neg c, jb_0 (fun y => c y.2.2)]; rfl
    · rw [if_neg (by omega), jb_0 (fun y => e4 y.2.1)]; rfl
/-- the end of it -/
def yFi (U : Int → Int) (st : Int × Int × Int) (c7 : Prop) [Decidable c7] (b7 : Int) (c13 : Prop) [Decidable c13] : Int × Int × Int := if c13 then yTr U (if c7 then yTr U st b7 1000 else st) 552 1001 else (if c7 then yTr U st b7 1000 else st)
theorem zX2_weigh {s : jMem} {h : Int} {U B : Int → Int} {b7 dn : Int} {N w : Nat} {c7 c13 : Prop} [Decidable c7] [Decidable c13] (hI : iT s) (hF : iF s) (h0 : 0 ≤ h) (h4 : h < 4) (hU : ∀ (b : Int) (t : jMem), (∀ x : Int, 21 ≤ x → x ≤ 24 → t x = s x) → fX6_sumOf b t = some (U b, t)) (hw : w = yWn s h) (hN : N = (yAll (vH s h) w 34).length) (hdn : dn = yDone (s 53 10) (s 53 11) w (vH s h)) (hc7 : c7 ↔ s 53 10 ≠ 0 ∧ w = 4 ∧ yL7 (vH s h) = 0) (hc13 : c13 ↔ s 53 11 ≠ 0 ∧ w = 4 ∧ yL13 (vH s h) = 0) (hB : ∀ j : Nat, j < N → yIsB (yCj s h j) w (yOne (fun q => vH s h q + vL s h q)) (B j)) (h7 : ∀ eo one : Int, (eo = 1 ∨ eo = 0) → (eo = 1 ↔ yE7 (vH s h) 34) → (one = 1 ∨ one = 0) → (one = 1 ↔ yR7 (vH s h) 34) → b7 = yB7 eo one) : jHo (fun v t => (∀ x : Int, ¬ (16 ≤ x ∧ x ≤ 20) → t x = s x) ∧ ((¬ (jSum (vH s h) 34 + 3 * s 58 h = 14 ∧ 0 < dn) ∧ v = 0) ∨ ((jSum (vH s h) 34 + 3 * s 58 h = 14 ∧ 0 < dn) ∧ v = 1 ∧ yCs t (yFi U (yFo U B N) c7 b7 c13)))) (fX2_weigh (37 + 4 * h) s) := by
  obtain ⟨t0, t1, t2, t3, t4, t5, t6, t7, t8, t9⟩ := jh_t h0 h4
  obtain ⟨a1, a2, a3, a4, a5, a6⟩ := hI.2.1 h h0 h4
  obtain ⟨f1, f2, f3⟩ := id hF
  have hd := zX2_howDone hI hF h0 h4
  rw [← hw] at hd
  rw [← hdn] at hd
  unfold fX2_weigh
  refine gHo_bd hd (fun v s4 hv => ?_)
  obtain ⟨fr, hv, tab⟩ := hv
  by_cases hs : jSum (vH s h) 34 + 3 * s 58 h = 14
  · rw [if_pos hs] at hv
    obtain ⟨tab, t173⟩ := tab hs
    have hcj := fun j => @yCj_ok s h hI h0 h4 hs j
    obtain ⟨hf, hwn⟩ := iH_full hI h0 h4 hs
    have eCj : ∀ j : Nat, yCj s h j = fun k => if k < 1 + (w : Int) then ((yAll (vH s h) w 34).getD j []).getD k.toNat 0 else s 59 (5 * h + (k - 1 - (w : Int))) := fun j => by rw [hw]; rfl
    rw [← hw] at hf hwn
    have w4 := hf.1
    have h8 := yAll_8 hf
    have hLl := yAll_in (vH s h) w 34
    rw [← hw] at hcj
    obtain ⟨L, hL⟩ : ∃ L, L = yAll (vH s h) w 34 := ⟨_, rfl⟩
    rw [← hL] at tab hcj eCj hN hLl h8
    subst hN
    clear hdn hL hd
    refine gHo_if (fun vp => ?_) (fun vp => ?_)
    · have dnp : jSum (vH s h) 34 + 3 * s 58 h = 14 ∧ 0 < dn := ⟨hs, by omega⟩
      refine gHo_nm fun s5 hs5 => ?_
      have f5 : ∀ x : Int, x ≠ 16 → s5 x = s4 x := fun x hx => by rw [hs5, jU_row hx]
      have cells : ∀ t : jMem, (∀ x : Int, x ≠ 16 → t x = s5 x) → (∀ x : Int, ¬ (16 ≤ x ∧ x ≤ 20) → t x = s x) := fun t ft x hx => by
        rw [ft x (by omega), f5 x (by omega)]; exact fr x (by omega)
      obtain ⟨Q, hQ⟩ : ∃ Q : Int → jMem → Prop, Q = fun v t => (∀ x : Int, ¬ (16 ≤ x ∧ x ≤ 20) → t x = s x) ∧ ((¬ (jSum (vH s h) 34 + 3 * s 58 h = 14 ∧ 0 < dn) ∧ v = 0) ∨ ((jSum (vH s h) 34 + 3 * s 58 h = 14 ∧ 0 < dn) ∧ v = 1 ∧ yCs t (yFi U (yFo U B L.length) c7 b7 c13))) := ⟨_, rfl⟩
      rw [← hQ]
      have fin : ∀ t : jMem, (∀ x : Int, x ≠ 16 → t x = s5 x) → yCs t (yFi U (yFo U B L.length) c7 b7 c13) → jHo Q (jRet 1 t) := by
        intro t ft hc
        refine gHo_ret ?_
        rw [hQ]
        exact ⟨cells t ft, Or.inr ⟨dnp, rfl, hc⟩⟩
      have ini : yCs s5 (yFo U B 0) := ⟨by rw [hs5, jU_at, if_pos rfl]; rfl, fun z => absurd (show (0 : Int) ≤ -1 from z) (by decide)⟩
      refine gIt3 (fun b1 b2 t => b1 = 37 + 4 * h ∧ ∃ j : Nat, b2 = j ∧ j ≤ L.length ∧ (∀ x : Int, x ≠ 16 → t x = s5 x) ∧ yCs t (yFo U B j)) (fun _ b2 => (10 - b2).toNat) ?_ 1000 _ 0 s5 ⟨rfl, 0, rfl, by omega, fun _ _ => rfl, ini⟩ (by decide)
      rintro rec b1 b2 t ⟨rfl, j, rfl, hj, ft, hc⟩ ih
      have r17 : t 17 = s4 17 := by rw [ft 17 (by decide), f5 17 (by decide)]
      have r20 : t 20 = s4 20 := by rw [ft 20 (by decide), f5 20 (by decide)]
      have ct := cells t ft
      unfold bX2_weigh_17
      refine gHo_let ?_
      rw [r17, tab.1]
      refine gHo_if (fun e => ?_) (fun e => ?_)
      · have ej : j = L.length := by omega
        rw [ej] at hc
        have is7 := zX2_isSeven (h := h) (w := w) (H := vH s h) (f7 := s 53 10) (t := t) h0 h4 (by rw [ct 6 (by decide), f1]) (by rw [ct _ (by omega), a2, hwn]) (fun q q0 q4 => by rw [ct _ (by omega)]; exact (a1 q q0 q4).1)
        have out : ∀ t' : jMem, (∀ x : Int, x ≠ 16 → t' x = s5 x) → yCs t' (if c7 then yTr U (yFo U B L.length) b7 1000 else yFo U B L.length) → jHo Q (bX2_weigh_69 (37 + 4 * h) t') := by
          intro t' ft' hc'
          have ct' := cells t' ft'
          have is13 := zX2_isOuterOnes (h := h) (w := w) (H := vH s h) (f13 := s 53 11) (t := t') h0 h4 (by rw [ct' 6 (by decide), f2]) (by rw [ct' _ (by omega), a2, hwn]) (fun q q0 q4 => by rw [ct' _ (by omega)]; exact (a1 q q0 q4).1)
          unfold bX2_weigh_69
          rw [is13, jBd_s]
          by_cases k13 : c13
          · rw [jb_1 (hc13.mp k13), if_neg (show ¬ (1 : Int) = 0 by decide), show fX6_bit 3 1 t' = some (8, t') from zX6_bit (k := 3) (by decide), jBd_s, show fX6_bit 5 1 t' = some (32, t') from zX6_bit (k := 5) (by decide), jBd_s, jLet_e, show fX6_bit 9 1 t' = some (512, t') from zX6_bit (k := 9) (by decide), jBd_s, jLet_e, show jor (jor 8 32) 512 = 552 by decide +kernel]
            refine gHo_bd (zX2_consider (f := 1001) (hU 552 t' (fun x x1 x2 => ct' x (by omega))) hc') (fun _ t2 ht2 => ?_)
            refine fin t2 (fun x hx => by rw [ht2.1 x hx]; exact ft' x hx) ?_
            unfold yFi; rw [if_pos k13]; exact ht2.2
          · rw [jb_0 (fun z => k13 (hc13.mpr z)), if_pos (show (0 : Int) = 0 from rfl)]
            refine fin t' ft' ?_
            unfold yFi; rw [if_neg k13]; exact hc'
        unfold bX2_weigh_47
        rw [is7, jBd_s]
        by_cases k7 : c7
        · rw [jb_1 (hc7.mp k7), if_neg (show ¬ (1 : Int) = 0 by decide)]
          refine gHo_gd t1 (gHo_let ?_)
          rw [t2]
          obtain ⟨eo, one, e7, x1, x2, x3, x4⟩ := zX2_conditionsOfSeven (r := 38 + 4 * h) (h := vH s h) (s := t) t5 (fun q q0 q4 => by rw [ct _ (by omega)]; exact (a1 q q0 q4).1)
          rw [e7, jBd_s, ← h7 eo one x1 x2 x3 x4]
          refine gHo_bd (zX2_consider (f := 1000) (hU b7 t (fun x y1 y2 => ct x (by omega))) hc) (fun _ t2 ht2 => ?_)
          refine out t2 (fun x hx => by rw [ht2.1 x hx]; exact ft x hx) ?_
          rw [if_pos k7]; exact ht2.2
        · rw [jb_0 (fun z => k7 (hc7.mpr z)), if_pos (show (0 : Int) = 0 from rfl)]
          refine out t ft ?_
          rw [if_neg k7]; exact hc
      · have hj' : j < L.length := by omega
        have ok := hcj j hj'
        have rowc : ∀ k : Int, 0 ≤ k → k < 5 → t 20 (5 * (j : Int) + k) = yCj s h j k := by
          intro k k0 k5
          have cell := tab.2 j hj' k.toNat (by omega)
          rw [yRow_at (P := fun k => s (40 + 4 * h) (k - 1 - (w : Int))) hLl hj', show ((k.toNat : Nat) : Int) = k by omega] at cell
          rw [r20, cell, eCj]
          dsimp only
          by_cases ek : k < 1 + (w : Int)
          · rw [if_pos ek, if_pos (by omega)]
          · rw [if_neg ek, if_neg (by omega)]
            exact ((hI.2.2 h h0 h4).1 (k - 1 - (w : Int)) (by omega) (by omega)).1
        obtain ⟨tw, eo, er, eB, q1, q2, q3, q4, q5, q6⟩ := zX9_conditionsOf (i := (j : Int)) (c := yCj s h j) (w := w) (s := t) (by omega) (by omega) ok.1 rowc (by rw [r17]; exact t173)
        rw [eB, jBd_s]
        have eqB : yBits (yRn (yCj s h j) 5) (yTh (yCj s h j) w 5) tw eo er (yCj s h j 0) w = B j := yIsB_u ok.2 ⟨tw, eo, er, rfl, q1, q2, q3, q4, q5, q6⟩ (hB j hj')
        rw [eqB]
        refine gHo_bd (zX2_consider (f := (j : Int)) (hU (B j) t (fun x y1 y2 => ct x (by omega))) hc) (fun _ t2 ht2 => ?_)
        refine gHo_l32 (by omega) (by omega) (ih _ _ _ ⟨rfl, j + 1, by omega, by omega, fun x hx => by rw [ht2.1 x hx]; exact ft x hx, ht2.2⟩ (by omega))
    · refine gHo_ret ⟨fun x hx => fr x (by omega), Or.inl ⟨fun z => ?_, rfl⟩⟩
      omega
  · rw [if_neg hs] at hv
    rw [if_neg (by omega)]
    exact gHo_ret ⟨fun x hx => fr x (by omega), Or.inl ⟨fun z => hs z.1, rfl⟩⟩
theorem zX11_worthOf {s : jMem} {h : Int} {U B : Int → Int} {b7 : Int} {N w : Nat} {c7 c13 : Prop} [Decidable c7] [Decidable c13] (hI : iT s) (h0 : 0 ≤ h) (h4 : h < 4) (hU : ∀ (b : Int) (t : jMem), t 53 12 = s 53 12 → (∀ x : Int, 63 ≤ x → x ≤ 65 → t x = s x) → fX11_sumOf b t = some (U b, t)) (hU0 : ∀ b, 0 ≤ U b) (hw : w = yWn s h) (hN : N = (yAll (vH s h) w 34).length) (hc7 : c7 ↔ s 53 10 ≠ 0 ∧ w = 4 ∧ yL7 (vH s h) = 0) (hc13 : c13 ↔ s 53 11 ≠ 0 ∧ w = 4 ∧ yL13 (vH s h) = 0) (hB : ∀ j : Nat, j < N → yIsB (yCj s h j) w (yOne (fun q => vH s h q + vL s h q)) (B j)) (h7 : c7 → ∀ eo one : Int, (eo = 1 ∨ eo = 0) → (eo = 1 ↔ yE7 (vH s h) 34) → (one = 1 ∨ one = 0) → (one = 1 ↔ yOne (fun q => vH s h q + vL s h q)) → b7 = yB7 eo one) : jHo (fun v t => fM s t ∧ ((¬ (jSum (vH s h) 34 + 3 * s 58 h = 14) ∧ v = -2) ∨ (jSum (vH s h) 34 + 3 * s 58 h = 14 ∧ v = (if 0 ≤ (yFi U (yFo U B N) c7 b7 c13).1 then (yFi U (yFo U B N) c7 b7 c13).1 else -2) ∧ (0 ≤ (yFi U (yFo U B N) c7 b7 c13).1 → t 53 29 = (yFi U (yFo U B N) c7 b7 c13).2.1 ∧ t 53 30 = (yFi U (yFo U B N) c7 b7 c13).2.2)))) (fX11_worthOf h s) := by
  unfold fX11_worthOf
  rw [sX11_isHand, jBd_s, jb_1 ⟨h0, by omega⟩, if_neg (show ¬ (1 : Int) = 0 by decide), sX11_isFull_C hI (fC_rf s) h0 h4, jBd_s]
  by_cases hs : jSum (vH s h) 34 + 3 * s 58 h = 14
  · obtain ⟨hf, hwn⟩ := iH_full hI h0 h4 hs
    have hcj := fun j => @yCj_ok s h hI h0 h4 hs j
    have eCj : ∀ j : Nat, yCj s h j = fun k => if k < 1 + (w : Int) then ((yAll (vH s h) w 34).getD j []).getD k.toNat 0 else s 59 (5 * h + (k - 1 - (w : Int))) := fun j => by rw [hw]; rfl
    have bounds : ∀ q : Int, 0 ≤ q → q < 34 → 0 ≤ vH s h q ∧ vH s h q ≤ 100 ∧ 0 ≤ vL s h q ∧ vL s h q ≤ 100 := fun q q0 q4 => by
      have := (hI.2.1 h h0 h4).1 q q0 q4
      omega
    have sev : w = 4 → (yL7 (vH s h) = 0 ↔ jSum (fun q => if vH s h q = 2 then 1 else 0) 34 = 7) := fun z => yL7_0 hf.2.1 (by omega)
    have out : w = 4 → (yL13 (vH s h) = 0 ↔ ∀ i : Nat, i < 34 → if yO i then 0 < vH s h i else vH s h i = 0) := fun z => yL13_0 hf.2.1 (by omega)
    rw [← hw] at hf hwn hcj
    have w4 := hf.1
    have h8 := yAll_8 hf
    rw [jb_1 hs, if_neg (show ¬ (1 : Int) = 0 by decide)]
    obtain ⟨Q, hQ⟩ : ∃ Q : Int → jMem → Prop, Q = fun v t => fM s t ∧ ((¬ (jSum (vH s h) 34 + 3 * s 58 h = 14) ∧ v = -2) ∨ (jSum (vH s h) 34 + 3 * s 58 h = 14 ∧ v = (if 0 ≤ (yFi U (yFo U B N) c7 b7 c13).1 then (yFi U (yFo U B N) c7 b7 c13).1 else -2) ∧ (0 ≤ (yFi U (yFo U B N) c7 b7 c13).1 → t 53 29 = (yFi U (yFo U B N) c7 b7 c13).2.1 ∧ t 53 30 = (yFi U (yFo U B N) c7 b7 c13).2.2))) := ⟨_, rfl⟩
    rw [← hQ]
    refine gHo_bd (zX11_look h0 h4) (fun _ t ht => ?_)
    obtain ⟨p1, p2, p3, p4⟩ := ht
    have fm1 : fM s t := fun x y hx hy => by
      by_cases e : x = 53
      · subst e; exact p2 y (by omega)
      · rw [p1 x e (by omega) (by omega)]
    have t68 : ∀ q : Int, 0 ≤ q → q < 34 → t 68 q = vH s h q := fun q q0 q4 => (p4 q q0 q4).1
    have t20 : t 53 20 = 4 - (w : Int) := by rw [p3, hwn]
    have fw := fun (i : Int) (hi : -1 ≤ i ∧ i < 2147483648) (z : jMem) (z68 : ∀ q : Int, 0 ≤ q → q < 34 → z 68 q = vH s h q) (z20 : z 53 20 = 4 - (w : Int)) => zX11_findWay (s := z) (i := i) hf hi z68 z20
    rw [← hN] at fw h8
    obtain ⟨L, hL⟩ : ∃ L, L = yAll (vH s h) w 34 := ⟨_, rfl⟩
    rw [← hL] at fw eCj hcj hN
    clear hL
    refine gHo_bd (fw (-1) ⟨by omega, by omega⟩ t t68 t20) (fun v0 t0 ht0 => ?_)
    obtain ⟨g1, g2⟩ := ht0
    have ev0 : v0 = (N : Int) := by
      rcases g2 with g2 | g2
      · omega
      · exact g2.2
    subst ev0
    -- what stays while the ways are gone through
    obtain ⟨S, hS⟩ : ∃ S : jMem → Prop, S = fun z => (∀ x : Int, x ≠ 53 → x ≠ 70 → x ≠ 71 → z x = t x) ∧ ∀ y : Int, y ≠ 29 → y ≠ 30 → y ≠ 31 → z 53 y = t 53 y := ⟨_, rfl⟩
    have S0 : S t0 := by rw [hS]; exact ⟨fun x _ x2 x3 => g1 x x2 x3, fun y _ _ _ => by rw [g1 53 (by decide) (by decide)]⟩
    have SM : ∀ z, S z → fM s z := fun z hz => by
      rw [hS] at hz
      intro x y hx hy
      by_cases e : x = 53
      · subst e; rw [hz.2 y (by omega) (by omega) (by omega)]; exact p2 y (by omega)
      · rw [hz.1 x e (by omega) (by omega), p1 x e (by omega) (by omega)]
    have S68 : ∀ z, S z → (∀ q : Int, 0 ≤ q → q < 34 → z 68 q = vH s h q ∧ 0 ≤ vH s h q ∧ vH s h q ≤ 100 ∧ z 69 q = vL s h q ∧ 0 ≤ vL s h q ∧ vL s h q ≤ 100) := fun z hz q q0 q4 => by
      rw [hS] at hz
      rw [hz.1 68 (by decide) (by decide) (by decide), hz.1 69 (by decide) (by decide) (by decide), (p4 q q0 q4).1, (p4 q q0 q4).2]
      have := bounds q q0 q4
      exact ⟨rfl, this.1, this.2.1, rfl, this.2.2.1, this.2.2.2⟩
    have S20 : ∀ z, S z → z 53 20 = 4 - (w : Int) := fun z hz => by
      rw [hS] at hz
      rw [hz.2 20 (by decide) (by decide) (by decide)]; exact t20
    have S53 : ∀ z, S z → ∀ y : Int, y = 10 ∨ y = 11 ∨ y = 12 → z 53 y = s 53 y := fun z hz y hy => by
      rw [hS] at hz
      rw [hz.2 y (by omega) (by omega) (by omega)]; exact p2 y (by omega)
    have S58 : ∀ z, S z → ∀ x : Int, x ≤ 65 → x ≠ 53 → z x = s x := fun z hz x hx hn => by
      rw [hS] at hz
      rw [hz.1 x hn (by omega) (by omega)]; exact p1 x hn (by omega) (by omega)
    have SU : ∀ z, S z → ∀ b, fX11_sumOf b z = some (U b, z) := fun z hz b => hU b z (S53 z hz 12 (by omega)) (fun x x1 x2 => S58 z hz x (by omega) (by omega))
    have Str : ∀ z z', S z → (∀ x : Int, x ≠ 53 → z' x = z x) → (∀ y : Int, y ≠ 29 → y ≠ 30 → y ≠ 31 → z' 53 y = z 53 y) → S z' := fun z z' hz h1 h2 => by
      rw [hS] at hz ⊢
      exact ⟨fun x x1 x2 x3 => by rw [h1 x x1]; exact hz.1 x x1 x2 x3, fun y y1 y2 y3 => by rw [h2 y y1 y2 y3]; exact hz.2 y y1 y2 y3⟩
    have S71 : ∀ z z', S z → (∀ x : Int, x ≠ 70 → x ≠ 71 → z' x = z x) → S z' := fun z z' hz h1 => by
      rw [hS] at hz ⊢
      exact ⟨fun x x1 x2 x3 => by rw [h1 x x2 x3]; exact hz.1 x x1 x2 x3, fun y y1 y2 y3 => by rw [h1 53 (by decide) (by decide)]; exact hz.2 y y1 y2 y3⟩
    -- the end
    have e138 : ∀ z, S z → ∀ m : Int, yMs z m (yFi U (yFo U B N) c7 b7 c13) → jHo Q (bX11_worthOf_138 m z) := by
      intro z hz m hm
      unfold bX11_worthOf_138
      rw [hm.1]
      by_cases e : 0 ≤ (yFi U (yFo U B N) c7 b7 c13).1
      · rw [if_pos e]
        refine gHo_ret ?_
        rw [hQ]
        exact ⟨SM z hz, Or.inr ⟨hs, by rw [if_pos e], hm.2⟩⟩
      · rw [if_neg e]
        refine gHo_ret ?_
        rw [hQ]
        exact ⟨SM z hz, Or.inr ⟨hs, by rw [if_neg e], hm.2⟩⟩
    have e108 : ∀ z, S z → ∀ m : Int, yMs z m (if c7 then yTr U (yFo U B N) b7 1000 else yFo U B N) → jHo Q (bX11_worthOf_108 m z) := by
      intro z hz m hm
      have no13 : ¬ c13 → jHo Q (bX11_worthOf_138 m z) := fun k => e138 z hz m (by unfold yFi; rw [if_neg k]; exact hm)
      unfold bX11_worthOf_108
      refine gHo_let ?_
      rw [S53 z hz 11 (by omega)]
      refine gHo_if (fun z0 => no13 (fun k => (hc13.mp k).1 z0)) (fun z0 => ?_)
      rw [zX11_isOuterHand (h := vH s h) (fun q q0 q4 => by have := S68 z hz q q0 q4; exact ⟨this.1, this.2.1, this.2.2.1⟩), jBd_s, S20 z hz]
      by_cases c : 4 - (w : Int) = 0 ∧ (∀ i : Nat, i < 34 → if yO i then 0 < vH s h i else vH s h i = 0) ∧ jSum (vH s h) 34 = 14
      · have e4 : w = 4 := by omega
        have k13 : c13 := hc13.mpr ⟨z0, e4, (out e4).mpr c.2.1⟩
        rw [jb_1 c, if_neg (show ¬ (1 : Int) = 0 by decide)]
        refine gHo_bd (zX11_tries (f := 1001) (SU z hz 552) hm) (fun _ z' hz' => gHo_let ?_)
        refine e138 z' (Str z z' hz hz'.1 hz'.2.1) _ ?_
        unfold yFi; rw [if_pos k13]; exact hz'.2.2
      · rw [jb_0 c, if_pos (show (0 : Int) = 0 from rfl)]
        exact no13 (fun k => by
          have k' := hc13.mp k
          exact c ⟨by omega, (out k'.2.1).mp k'.2.2, by omega⟩)
    have e77 : ∀ z, S z → ∀ m : Int, yMs z m (yFo U B N) → jHo Q (bX11_worthOf_77 m z) := by
      intro z hz m hm
      have no7 : ¬ c7 → jHo Q (bX11_worthOf_108 m z) := fun k => e108 z hz m (by rw [if_neg k]; exact hm)
      unfold bX11_worthOf_77
      refine gHo_let ?_
      rw [S53 z hz 10 (by omega)]
      refine gHo_if (fun z0 => no7 (fun k => (hc7.mp k).1 z0)) (fun z0 => ?_)
      rw [zX11_isSeven (h := vH s h) (fun q q0 q4 => (S68 z hz q q0 q4).1), jBd_s, S20 z hz]
      by_cases c : 4 - (w : Int) = 0 ∧ jSum (fun q => if vH s h q = 2 then 1 else 0) 34 = 7
      · have e4 : w = 4 := by omega
        have k7 : c7 := hc7.mpr ⟨z0, e4, (sev e4).mpr c.2⟩
        rw [jb_1 c, if_neg (show ¬ (1 : Int) = 0 by decide)]
        obtain ⟨eo, one, e7, x1, x2, x3, x4⟩ := zX11_conditionsOfSeven (f := vH s h) (g := vL s h) (s := z) (S68 z hz)
        rw [e7, jBd_s, ← h7 k7 eo one x1 x2 x3 x4]
        refine gHo_bd (zX11_tries (f := 1000) (SU z hz b7) hm) (fun _ z' hz' => gHo_let ?_)
        refine e108 z' (Str z z' hz hz'.1 hz'.2.1) _ ?_
        rw [if_pos k7]; exact hz'.2.2
      · rw [jb_0 c, if_pos (show (0 : Int) = 0 from rfl)]
        exact no7 (fun k => by
          have k' := hc7.mp k
          exact c ⟨by omega, (sev k'.2.1).mp k'.2.2⟩)
    have ini : yMs t0 (-1) (yFo U B 0) := ⟨rfl, fun z => absurd (show (0 : Int) ≤ -1 from z) (by decide)⟩
    refine gIt5 (fun b1 b2 b3 b4 z => b1 = h ∧ b3 = N ∧ S z ∧ ∃ j : Nat, b4 = j ∧ j ≤ N ∧ yMs z b2 (yFo U B j)) (fun _ _ _ b4 => (10 - b4).toNat) ?_ 1000 h (-1) N 0 t0 ⟨rfl, rfl, S0, 0, rfl, by omega, ini⟩ (by decide)
    rintro rec b1 b2 b3 b4 z ⟨rfl, rfl, hz, j, rfl, hj, hm⟩ ih
    unfold bX11_worthOf_36
    refine gHo_if (fun e => ?_) (fun e => ?_)
    · have ej : j = N := by omega
      rw [ej] at hm
      exact e77 z hz _ hm
    · have hj' : j < N := by omega
      refine gHo_bd (fw (j : Int) ⟨by omega, by omega⟩ z (fun q q0 q4 => (S68 z hz q q0 q4).1) (S20 z hz)) (fun v1 z1 hz1 => ?_)
      obtain ⟨k1, k2⟩ := hz1
      have k3 : ∀ k : Nat, k < 1 + w → z1 71 k = (L.getD j []).getD k 0 := by
        rcases k2 with ⟨-, -, -, k2⟩ | ⟨k2, -⟩
        · rw [Int.toNat_natCast] at k2; exact k2
        · omega
      have Sz1 := S71 z z1 hz k1
      refine gHo_bd (zX11_addOpen (w := w) h0 h4 w4 (by rw [S58 z1 Sz1 58 (by omega) (by omega), hwn])) (fun _ z2 hz2 => ?_)
      obtain ⟨m1, m2, m3⟩ := hz2
      have Sz2 := S71 z1 z2 Sz1 (fun x x1 x2 => m1 x x2)
      have ok := hcj j (by omega)
      have rowc : ∀ k : Int, 0 ≤ k → k < 5 → z2 71 k = yCj s b1 j k := by
        intro k k0 k5
        rw [eCj]
        dsimp only
        by_cases ek : k < 1 + (w : Int)
        · rw [if_pos ek, m2 k ek]
          have := k3 k.toNat (by omega)
          rw [show ((k.toNat : Nat) : Int) = k by omega] at this
          exact this
        · rw [if_neg ek, m3 k (by omega) k5, S58 z1 Sz1 59 (by omega) (by omega)]
      obtain ⟨tw, eo, one, eB, q1, q2, q3, q4, q5, q6⟩ := zX11_conditionsOfWay (c := yCj s b1 j) (w := w) (f := vH s b1) (g := vL s b1) (s := z2) ok.1 w4 rowc (S20 z2 Sz2) (S68 z2 Sz2)
      rw [eB, jBd_s]
      have eqB : yBits (yRn (yCj s b1 j) 5) (yTh (yCj s b1 j) w 5) tw eo one (yCj s b1 j 0) w = B j := yIsB_u Iff.rfl ⟨tw, eo, one, rfl, q1, q2, q3, q4, q5, q6⟩ (hB j hj')
      rw [eqB]
      have hm2 : yMs z2 b2 (yFo U B j) := by
        refine ⟨hm.1, fun k => ?_⟩
        rw [m1 53 (by decide), k1 53 (by decide) (by decide)]; exact hm.2 k
      refine gHo_bd (zX11_tries (f := (j : Int)) (SU z2 Sz2 (B j)) hm2) (fun _ z3 hz3 => gHo_let ?_)
      exact gHo_l32 (by omega) (by omega) (ih _ _ _ _ _ ⟨rfl, rfl, Str z2 z3 Sz2 hz3.1 hz3.2.1, j + 1, by omega, by omega, hz3.2.2⟩ (by omega))
  · rw [jb_0 hs, if_pos (show (0 : Int) = 0 from rfl)]
    exact gHo_ret ⟨fM_rf s, Or.inl ⟨hs, rfl⟩⟩
theorem yOne_R7 {f g : Int → Int} (hg : ∀ q : Int, 0 ≤ q → q < 34 → g q = 0) (hf : ∀ q : Int, 0 ≤ q → q < 34 → 0 ≤ f q) (hs : 0 < jSum f 34) : yOne (fun q => f q + g q) ↔ yR7 f 34 := by
  unfold yOne yR7
  dsimp only
  constructor
  · rintro ⟨r, r0, r4, -, all⟩ q p hq hp h1 h2
    have a := all q (by omega) (by omega) (by rw [hg q (by omega) (by omega)]; omega)
    have b := all p (by omega) (by omega) (by rw [hg p (by omega) (by omega)]; omega)
    omega
  · intro z
    obtain ⟨k, hk, ku⟩ := jSum_pos hs
    refine ⟨((k / 9 : Nat) : Int), by omega, by omega, ⟨k, by omega, by omega, by rw [hg k (by omega) (by omega)]; omega, by omega⟩, fun q q0 q4 qu => ?_⟩
    rw [hg q q0 q4] at qu
    have := z q.toNat k (by omega) hk (by rw [show ((q.toNat : Nat) : Int) = q by omega]; omega) ku
    omega
/-- the frame of the judge's work -/
def fJ (s t : jMem) : Prop := ∀ x : Int, ¬ (16 ≤ x ∧ x ≤ 20) → t x = s x
theorem fJ_rf (s : jMem) : fJ s s := fun _ _ => rfl
theorem yWo {s : jMem} {h : Int} (hI : iT s) (hF : iF s) (hU : iU s) (h0 : 0 ≤ h) (h4 : h < 4) : ∃ (v1 v2 : Int) (s1 s2 : jMem) (st : Int × Int × Int), fX2_weigh (37 + 4 * h) s = some (v1, s1) ∧ fX11_worthOf h s1 = some (v2, s2) ∧ fJ s s1 ∧ fM s1 s2 ∧ ((v1 = 0 ∧ v2 = -2) ∨ (v1 = 1 ∧ 0 ≤ st.1 ∧ v2 = st.1 ∧ yCs s1 st ∧ s2 53 29 = st.2.1 ∧ s2 53 30 = st.2.2)) := by
  obtain ⟨u1, u2, u3, u4⟩ := hU
  obtain ⟨n, hn⟩ : ∃ n : Nat, s 53 12 = (n : Int) := ⟨(s 53 12).toNat, by omega⟩
  obtain ⟨U, hUd⟩ : ∃ U : Int → Int, U = fun b => ySm n (s 63) (s 64) (s 65) b n := ⟨_, rfl⟩
  have rules : ∀ i : Nat, i < n → s 22 i = s 63 i ∧ s 23 i = s 64 i ∧ s 24 i = s 65 i ∧ 0 ≤ s 64 i ∧ s 64 i ≤ 1000 := fun i hi => by
    have := u4 i (by omega) (by omega)
    exact ⟨this.1, this.2.1, this.2.2.1, this.2.2.2.2.2.1, this.2.2.2.2.2.2.1⟩
  have U0 : ∀ b, 0 ≤ U b := fun b => by
    rw [hUd]
    exact (ySm_bd (fun k hk => (rules k hk).2.2.2) (Nat.le_refl n)).1
  have UC : ∀ (b : Int) (t : jMem), (∀ x : Int, 21 ≤ x → x ≤ 24 → t x = s x) → fX6_sumOf b t = some (U b, t) := fun b t ht => by
    rw [hUd]
    exact zX6_sumOf (by rw [ht 21 (by omega) (by omega), u1, hn]) (by omega) (fun i hi => by rw [ht 22 (by omega) (by omega), ht 23 (by omega) (by omega), ht 24 (by omega) (by omega)]; exact rules i hi)
  have UM : ∀ (b : Int) (t : jMem), t 53 12 = s 53 12 → (∀ x : Int, 63 ≤ x → x ≤ 65 → t x = s x) → fX11_sumOf b t = some (U b, t) := fun b t h12 ht => by
    rw [hUd]
    exact zX11_sumOf (by rw [h12, hn]) (by omega) (fun i hi => by rw [ht 63 (by omega) (by omega), ht 64 (by omega) (by omega), ht 65 (by omega) (by omega)]; exact ⟨rfl, rfl, rfl, (rules i hi).2.2.2⟩)
  obtain ⟨w, hw⟩ : ∃ w, w = yWn s h := ⟨_, rfl⟩
  obtain ⟨N, hN⟩ : ∃ N, N = (yAll (vH s h) w 34).length := ⟨_, rfl⟩
  obtain ⟨f, hf⟩ := Classical.axiomOfChoice (fun j : Nat => yIsB_ex (yCj s h j) w (yOne (fun q => vH s h q + vL s h q)))
  obtain ⟨B, hBd⟩ : ∃ B : Int → Int, B = fun k => f k.toNat := ⟨_, rfl⟩
  have hB : ∀ j : Nat, j < N → yIsB (yCj s h j) w (yOne (fun q => vH s h q + vL s h q)) (B j) := fun j _ => by
    rw [hBd]; dsimp only; rw [Int.toNat_natCast]; exact hf j
  obtain ⟨eo, eo1, eo2⟩ := yFl (yE7 (vH s h) 34)
  obtain ⟨on, on1, on2⟩ := yFl (yR7 (vH s h) 34)
  obtain ⟨dn, hdn⟩ : ∃ dn, dn = yDone (s 53 10) (s 53 11) w (vH s h) := ⟨_, rfl⟩
  have cls := zX2_weigh (U := U) (B := B) (b7 := yB7 eo on) (dn := dn) (N := N) (w := w) (c7 := s 53 10 ≠ 0 ∧ w = 4 ∧ yL7 (vH s h) = 0) (c13 := s 53 11 ≠ 0 ∧ w = 4 ∧ yL13 (vH s h) = 0) hI hF h0 h4 UC hw hN hdn Iff.rfl Iff.rfl hB (fun a b a1 a2 b1 b2 => by rw [yFlag a1 eo1 a2 eo2, yFlag b1 on1 b2 on2])
  have ed : 0 < dn ↔ (0 < N ∨ (s 53 10 ≠ 0 ∧ w = 4 ∧ yL7 (vH s h) = 0) ∨ (s 53 11 ≠ 0 ∧ w = 4 ∧ yL13 (vH s h) = 0)) := by
    rw [hdn]
    unfold yDone
    rw [← hN]
    by_cases n0 : 0 < N
    · rw [if_pos n0]; exact ⟨fun _ => Or.inl n0, fun _ => by decide⟩
    · rw [if_neg n0]
      by_cases a : s 53 10 ≠ 0 ∧ w = 4 ∧ yL7 (vH s h) = 0
      · rw [if_pos a]; exact ⟨fun _ => Or.inr (Or.inl a), fun _ => by decide⟩
      · rw [if_neg a]
        by_cases b : s 53 11 ≠ 0 ∧ w = 4 ∧ yL13 (vH s h) = 0
        · rw [if_pos b]; exact ⟨fun _ => Or.inr (Or.inr b), fun _ => by decide⟩
        · rw [if_neg b]
          exact ⟨fun z => absurd z (by decide), fun z => z.elim (fun y => absurd y n0) (fun y => y.elim (fun x => absurd x a) (fun x => absurd x b))⟩
  obtain ⟨st, hst⟩ : ∃ st, st = yFi U (yFo U B N) (s 53 10 ≠ 0 ∧ w = 4 ∧ yL7 (vH s h) = 0) (yB7 eo on) (s 53 11 ≠ 0 ∧ w = 4 ∧ yL13 (vH s h) = 0) := ⟨_, rfl⟩
  rw [← hst] at cls
  have es : 0 < dn ↔ 0 ≤ st.1 := by
    rw [ed, hst]
    unfold yFi
    by_cases b : s 53 11 ≠ 0 ∧ w = 4 ∧ yL13 (vH s h) = 0
    · rw [if_pos b]; exact ⟨fun _ => yTr_0 (U0 _), fun _ => Or.inr (Or.inr b)⟩
    · rw [if_neg b]
      by_cases a : s 53 10 ≠ 0 ∧ w = 4 ∧ yL7 (vH s h) = 0
      · rw [if_pos a]; exact ⟨fun _ => yTr_0 (U0 _), fun _ => Or.inr (Or.inl a)⟩
      · rw [if_neg a]
        by_cases n0 : 0 < N
        · exact ⟨fun _ => yFo_0 U0 n0, fun _ => Or.inl n0⟩
        · have : N = 0 := by omega
          rw [this]
          exact ⟨fun z => z.elim (fun y => absurd y (by decide)) (fun y => y.elim (fun x => absurd x a) (fun x => absurd x b)), fun z => absurd (show (0 : Int) ≤ -1 from z) (by decide)⟩
  obtain ⟨v1, s1, e1, fr, p1⟩ := cls
  have fc : fC s s1 := fun x _ hx => fr x (by omega)
  have eH : vH s1 h = vH s h := vH_C fc h
  have e57 := fc 57 (by omega) (by omega)
  have e58 := fc 58 (by omega) (by omega)
  have e59 := fc 59 (by omega) (by omega)
  have e53 := fc 53 (by omega) (by omega)
  have eL : vL s1 h = vL s h := by funext q; unfold vL; rw [e57]
  have eW : yWn s1 h = yWn s h := by unfold yWn; rw [e58]
  have eC : ∀ j, yCj s1 h j = yCj s h j := fun j => by unfold yCj; rw [eH, eW, e59]
  have ref := zX11_worthOf (s := s1) (h := h) (U := U) (B := B) (b7 := yB7 eo on) (N := N) (w := w) (c7 := s 53 10 ≠ 0 ∧ w = 4 ∧ yL7 (vH s h) = 0) (c13 := s 53 11 ≠ 0 ∧ w = 4 ∧ yL13 (vH s h) = 0) (iT_C hI fc) h0 h4 (fun b t h12 ht => UM b t (by rw [h12, e53]) (fun x x1 x2 => by rw [ht x x1 x2]; exact fc x (by omega) (by omega))) U0 (by rw [eW]; exact hw) (by rw [eH]; exact hN) (by rw [e53, eH]) (by rw [e53, eH]) (by rw [eH, eL]; intro j hj; rw [eC]; exact hB j hj) (by
    rw [eH, eL]
    intro c7 a b a1 a2 b1 b2
    obtain ⟨a1', a2', a3', a4', a5', a6'⟩ := hI.2.1 h h0 h4
    have g0 : s 58 h = 0 := by
      have : ((yWn s h : Nat) : Int) = 4 - s 58 h := by unfold yWn; omega
      omega
    by_cases hs : jSum (vH s h) 34 + 3 * s 58 h = 14
    · have eq := yOne_R7 (f := vH s h) (g := vL s h) (fun q q0 q4 => by rw [(hI.2.2 h h0 h4).2 q q0 q4, g0]; rfl) (fun q q0 q4 => (a1' q q0 q4).2.2.1) (by omega)
      rw [yFlag a1 eo1 a2 eo2, yFlag b1 on1 (b2.trans eq) on2]
    · have c7' := c7.2.2
      have sz : jSum (vH s h) 34 < 14 := by omega
      exfalso
      -- seven pairs are fourteen tiles
      have le := jSum_le (f := fun q => 2 * (if 2 ≤ vH s h q then (1 : Int) else 0)) (g := vH s h) (n := 34) (fun i hi => by
        have := a1' i (by omega) (by omega)
        split <;> omega)
      rw [jSum_2 (f := fun q => if 2 ≤ vH s h q then (1 : Int) else 0)] at le
      have e7 : yL7 (vH s h) = 14 - jmin (jSum (fun q => if 2 ≤ vH s h q then (1 : Int) else 0) 34) 7 - jmin (yUn (vH s h)) 7 := rfl
      rw [e7] at c7'
      unfold jmin at c7'
      split at c7' <;> split at c7' <;> omega)
  rw [← hst, eH, e58] at ref
  obtain ⟨v2, s2, e2, fm, p2⟩ := ref
  refine ⟨v1, v2, s1, s2, st, e1, e2, fr, fm, ?_⟩
  rcases p1 with ⟨n1, rfl⟩ | ⟨y1, rfl, cs⟩
  · refine Or.inl ⟨rfl, ?_⟩
    rcases p2 with ⟨-, rfl⟩ | ⟨hs, hv, -⟩
    · rfl
    · rw [hv, if_neg (fun z => n1 ⟨hs, es.mpr z⟩)]
  · have k := es.mp y1.2
    refine Or.inr ⟨rfl, k, ?_⟩
    rcases p2 with ⟨hs, -⟩ | ⟨hs, hv, hb⟩
    · exact absurd y1.1 hs
    · rw [if_pos k] at hv
      exact ⟨hv, cs, hb k⟩
theorem op_worth {h : Int} {s : jMem} (hI : iT s) (hF : iF s) (hU : iU s) : ∃ v s1 s2, fX10_worth h s = some (v, s1) ∧ fX11_worth h s1 = some (v, s2) ∧ fJ s s1 ∧ fM s1 s2 := by
  have w := jrk_t
  by_cases hh : 0 ≤ h ∧ h < 4
  · obtain ⟨h0, h4⟩ := hh
    obtain ⟨t0, t1, -⟩ := jh_t h0 h4
    obtain ⟨v1, v2, s1, s2, st, e1, e2, fc, fm, p⟩ := yWo hI hF hU h0 h4
    refine ⟨v2, s1, s2, ?_, ?_, fc, fm⟩
    · rw [fX10_worth, sX10_isHand, jBd_s, jb_1 ⟨h0, h4⟩, if_neg (by decide), jGd_e ⟨h0, by omega⟩, jLet_e, t0, e1, jBd_s]
      rcases p with ⟨rfl, rfl⟩ | ⟨rfl, k, rfl, cs, -⟩
      · rw [if_pos rfl]; rfl
      · rw [if_neg (by decide), jLet_e, cs.1]; rfl
    · rw [fX11_worth, e2, jBd_s]; rfl
  · refine ⟨-1, s, s, ?_, ?_, fJ_rf s, fM_rf s⟩
    · rw [fX10_worth, sX10_isHand, jBd_s, jb_0 hh, if_pos rfl]; rfl
    · rw [fX11_worth, fX11_worthOf, sX11_isHand, jBd_s, jb_0 (by omega), if_pos rfl]; rfl
theorem op_by {h : Int} {s : jMem} (hI : iT s) (hF : iF s) (hU : iU s) : ∃ v s1 s2, fX10_by h s = some (v, s1) ∧ fX11_by h s1 = some (v, s2) ∧ fJ s s1 ∧ fM s1 s2 := by
  have w := jrk_t
  by_cases hh : 0 ≤ h ∧ h < 4
  · obtain ⟨h0, h4⟩ := hh
    obtain ⟨t0, t1, -⟩ := jh_t h0 h4
    obtain ⟨v1, v2, s1, s2, st, e1, e2, fc, fm, p⟩ := yWo hI hF hU h0 h4
    rcases p with ⟨rfl, rfl⟩ | ⟨rfl, k, rfl, cs, m1, m2⟩
    · refine ⟨-2, s1, s2, ?_, ?_, fc, fm⟩
      · rw [fX10_by, sX10_isHand, jBd_s, jb_1 ⟨h0, h4⟩, if_neg (by decide), jGd_e ⟨h0, by omega⟩, jLet_e, t0, e1, jBd_s, if_pos rfl]; rfl
      · rw [fX11_by, e2, jBd_s, if_neg (by decide)]; rfl
    · refine ⟨st.2.1, s1, s2, ?_, ?_, fc, fm⟩
      · rw [fX10_by, sX10_isHand, jBd_s, jb_1 ⟨h0, h4⟩, if_neg (by decide), jGd_e ⟨h0, by omega⟩, jLet_e, t0, e1, jBd_s, if_neg (by decide), jLet_e, (cs.2 k).1]; rfl
      · rw [fX11_by, e2, jBd_s, if_pos k, jLet_e, m1]; rfl
  · refine ⟨-1, s, s, ?_, ?_, fJ_rf s, fM_rf s⟩
    · rw [fX10_by, sX10_isHand, jBd_s, jb_0 hh, if_pos rfl]; rfl
    · rw [fX11_by, fX11_worthOf, sX11_isHand, jBd_s, jb_0 (by omega), if_pos rfl]; rfl
theorem op_holds {h c : Int} {s : jMem} (hI : iT s) (hF : iF s) (hU : iU s) : ∃ v s1 s2, fX10_holds h c s = some (v, s1) ∧ fX11_holds h c s1 = some (v, s2) ∧ fJ s s1 ∧ fM s1 s2 := by
  have w := jrk_t
  by_cases hh : 0 ≤ h ∧ h < 4
  · obtain ⟨h0, h4⟩ := hh
    obtain ⟨t0, t1, -⟩ := jh_t h0 h4
    by_cases hc : 0 ≤ c ∧ c < 10
    · obtain ⟨v1, v2, s1, s2, st, e1, e2, fc, fm, p⟩ := yWo hI hF hU h0 h4
      rcases p with ⟨rfl, rfl⟩ | ⟨rfl, k, rfl, cs, m1, m2⟩
      · refine ⟨-2, s1, s2, ?_, ?_, fc, fm⟩
        · rw [fX10_holds, sX10_isHand, jBd_s, jb_1 ⟨h0, h4⟩, if_neg (by decide), sX6_isCondition, jBd_s, jb_1 hc, if_neg (by decide), jGd_e ⟨h0, by omega⟩, jLet_e, t0, e1, jBd_s, if_pos rfl]; rfl
        · rw [fX11_holds, sX11_isHand, jBd_s, jb_1 ⟨h0, by omega⟩, if_neg (by decide), sX11_in, jBd_s, jb_1 ⟨hc.1, by omega⟩, if_neg (by decide), e2, jBd_s, if_neg (by decide)]; rfl
      · refine ⟨jand (jshr st.2.2 c) 1, s1, s2, ?_, ?_, fc, fm⟩
        · rw [fX10_holds, sX10_isHand, jBd_s, jb_1 ⟨h0, h4⟩, if_neg (by decide), sX6_isCondition, jBd_s, jb_1 hc, if_neg (by decide), jGd_e ⟨h0, by omega⟩, jLet_e, t0, e1, jBd_s, if_neg (by decide), jLet_e, (cs.2 k).2, zX6_isIn, jBd_s]
          rcases jand_1 (jshr st.2.2 c) with e | e
          · rw [jb_0 (show ¬ yIn c st.2.2 by unfold yIn; omega), if_pos rfl, e]; rfl
          · rw [jb_1 (show yIn c st.2.2 from e), if_neg (by decide), e]; rfl
        · rw [fX11_holds, sX11_isHand, jBd_s, jb_1 ⟨h0, by omega⟩, if_neg (by decide), sX11_in, jBd_s, jb_1 ⟨hc.1, by omega⟩, if_neg (by decide), e2, jBd_s, if_pos k, jLet_e, m2]; rfl
    · refine ⟨-1, s, s, ?_, ?_, fJ_rf s, fM_rf s⟩
      · rw [fX10_holds, sX10_isHand, jBd_s, jb_1 ⟨h0, h4⟩, if_neg (by decide), sX6_isCondition, jBd_s, jb_0 hc, if_pos rfl]; rfl
      · rw [fX11_holds, sX11_isHand, jBd_s, jb_1 ⟨h0, by omega⟩, if_neg (by decide), sX11_in, jBd_s, jb_0 (by omega), if_pos rfl]; rfl
  · refine ⟨-1, s, s, ?_, ?_, fJ_rf s, fM_rf s⟩
    · rw [fX10_holds, sX10_isHand, jBd_s, jb_0 hh, if_pos rfl]; rfl
    · rw [fX11_holds, sX11_isHand, jBd_s, jb_0 (by omega), if_pos rfl]; rfl
end

/-! ===== lacks: the reference's helpers ===== -/
section
theorem zX11_change {s : jMem} {x d : Int} (x0 : 0 ≤ x) (x4 : x < 34) (hb : ∀ q : Int, 0 ≤ q → q < 34 → 0 ≤ s 68 q ∧ s 68 q ≤ 50 ∧ 0 ≤ s 69 q ∧ s 69 q ≤ 50) (hd : 0 ≤ s 68 x + d ∧ s 68 x + d ≤ 50) (hdb : -50 ≤ d ∧ d ≤ 50) (hl : yLanes s) : jHo (fun _ t => (∀ y : Int, y ≠ 68 → y ≠ 72 → y ≠ 73 → y ≠ 74 → t y = s y) ∧ t 68 = yUp (s 68) x (s 68 x + d) ∧ yLanes t) (fX11_change x d s) := by
  obtain ⟨u1, u2, u3, u4, u5, u6, u7, u8, u9, u10, u11, u12, u13, u14, u15, u16, u17, u18, u19, u20, u21, u22⟩ := jik_m
  have hx := hb x x0 x4
  unfold fX11_change
  refine gHo_gd ⟨x0, by omega⟩ (gHo_let (gHo_l32 (by omega) (by omega) (gHo_gd ⟨x0, by omega⟩ (gHo_nm fun t1 h1 => ?_))))
  have rowOf : fX11_rowOf x t1 = some (x / 9, t1) := by
    unfold fX11_rowOf
    rw [jGd_e (by decide), jLet_e, jdiv_9 x0 (by omega)]
    rfl
  have e68 : t1 68 = yUp (s 68) x (s 68 x + d) := by
    funext y
    rw [h1, jU_at]
    rfl
  have f1 : ∀ y : Int, y ≠ 68 → t1 y = s y := fun y hy => by rw [h1, jU_row hy]
  rw [rowOf, jBd_s]
  refine gHo_bd (zX11_layLacks (s := t1) (r := x / 9) (by omega) (by omega) (fun q q0 q4 => ?_)) (fun _ t2 h2 => gHo_ret ?_)
  · have := hb q q0 q4
    rw [e68, f1 69 (by decide)]
    unfold yUp
    split <;> omega
  · obtain ⟨m1, m2, m3⟩ := h2
    have r68 := m1 68 (by decide) (by decide) (by decide)
    have r69 := m1 69 (by decide) (by decide) (by decide)
    refine ⟨fun y y1 y2 y3 y4 => by rw [m1 y y2 y3 y4]; exact f1 y y1, by rw [r68]; exact e68, ?_⟩
    intro r g p r0 r4 g0 g4 p0 p1
    by_cases e : r = x / 9
    · have := m3 g p g0 g4 p0 p1
      rw [← e] at this
      rw [r68, r69]; exact this
    · have := hl r g p r0 r4 g0 g4 p0 p1
      rw [m2 _ (by omega), f1 74 (by decide), r68, r69, f1 69 (by decide), e68]
      refine yLE_cg (fun c => ?_) this
      constructor
      · rintro ⟨n, hn, hc⟩
        exact ⟨n, hn, by rw [hc]; exact yCo_cgH (fun q hq => (yUp_o (fun z => e (by rw [← hq, z]))).symm)⟩
      · rintro ⟨n, hn, hc⟩
        exact ⟨n, hn, by rw [hc]; exact yCo_cgH (fun q hq => yUp_o (fun z => e (by rw [← hq, z])))⟩
theorem zX11_layAll {s : jMem} (hb : ∀ q : Int, 0 ≤ q → q < 34 → 0 ≤ s 68 q ∧ s 68 q ≤ 100 ∧ 0 ≤ s 69 q ∧ s 69 q ≤ 100) : jHo (fun _ t => (∀ y : Int, y ≠ 72 → y ≠ 73 → y ≠ 74 → t y = s y) ∧ yLanes t) (fX11_layAll s) := by
  unfold fX11_layAll
  refine gIt2 (fun k t => 0 ≤ k ∧ k ≤ 4 ∧ (∀ y : Int, y ≠ 72 → y ≠ 73 → y ≠ 74 → t y = s y) ∧ ∀ r g p : Int, 0 ≤ r → r < k → 0 ≤ g → g ≤ 4 → 0 ≤ p → p ≤ 1 → yLE (t 74 (10 * r + 2 * g + p)) (fun c => ∃ n, yRw (s 69) r 4 g p n ∧ c = yCo (s 68) r n (yLn r))) (fun k => (4 - k).toNat) ?_ 1000 0 s ⟨by omega, by omega, fun _ _ _ _ => rfl, fun r g p r0 r4 => by omega⟩ (by decide)
  rintro rec k t ⟨k0, k4, fr, hl⟩ ih
  have r68 := fr 68 (by decide) (by decide) (by decide)
  have r69 := fr 69 (by decide) (by decide) (by decide)
  unfold bX11_layAll_2
  refine gHo_if (fun e => ?_) (fun e => ?_)
  · refine gHo_ret ⟨fr, fun r g p r0 r4 g0 g4 p0 p1 => ?_⟩
    rw [r68, r69]; exact hl r g p r0 (by omega) g0 g4 p0 p1
  · refine gHo_bd (zX11_layLacks (s := t) (r := k) k0 (by omega) (fun q q0 q4 => by rw [r68, r69]; exact hb q q0 q4)) (fun _ t2 h2 => ?_)
    obtain ⟨m1, m2, m3⟩ := h2
    rw [r68, r69] at m3
    refine gHo_l32 (by omega) (by omega) (ih _ _ ⟨by omega, by omega, fun y y1 y2 y3 => by rw [m1 y y1 y2 y3]; exact fr y y1 y2 y3, fun r g p r0 r4 g0 g4 p0 p1 => ?_⟩ (by omega))
    by_cases e2 : r = k
    · subst e2; exact m3 g p g0 g4 p0 p1
    · rw [m2 _ (by omega)]; exact hl r g p r0 (by omega) g0 g4 p0 p1
/-- what is looked at, ready -/
def yRdy (s : jMem) (w : Int) : Prop := (0 ≤ w ∧ w ≤ 4) ∧ s 53 20 = 4 - w ∧ (∀ q : Int, 0 ≤ q → q < 34 → 0 ≤ s 68 q ∧ s 68 q ≤ 14 ∧ 0 ≤ s 69 q ∧ s 69 q ≤ 4) ∧ (w = 4 → ∀ q : Int, 0 ≤ q → q < 34 → s 69 q = 0) ∧ yLanes s
theorem yUp_up {f : Int → Int} {x a b : Int} : yUp (yUp f x a) x b = yUp f x b := by
  funext q
  unfold yUp
  split <;> rfl
theorem yUp_id {f : Int → Int} {x a : Int} (h : a = f x) : yUp f x a = f := by
  funext q
  unfold yUp
  by_cases e : q = x
  · rw [if_pos e, h, e]
  · rw [if_neg e]
theorem jzk_75 : jzk 75 = 34 := by decide +kernel
theorem zX11_layHelps {s : jMem} {w : Int} (hr : yRdy s w) (hs : jSum (s 68) 34 ≤ 14) : jHo (fun _ t => (∀ y : Int, y ≠ 53 → y ≠ 72 → y ≠ 73 → y ≠ 74 → y ≠ 75 → t y = s y) ∧ (∀ y : Int, y ≠ 27 → t 53 y = s 53 y) ∧ yLanes t ∧ yLack (s 53 10) (s 53 11) w (s 68) (s 69) (t 53 27) ∧ ∀ q : Int, 0 ≤ q → q < 34 → (t 75 q = 1 ∨ t 75 q = 0) ∧ (t 75 q = 1 ↔ yHc (s 53 10) (s 53 11) w (s 68) (s 69) (t 53 27) q)) (fX11_layHelps s) := by
  obtain ⟨hw, h20, hb, hL, hl⟩ := hr
  obtain ⟨u1, u2, u3, u4, u5, u6, u7, u8, u9, u10, u11, u12, u13, u14, u15, u16, u17, u18, u19, u20, u21, u22⟩ := jik_m
  have jz := jzk_75
  obtain ⟨v, e, hv, v1, v2⟩ := zX11_lackOf hw h20 (fun q q0 q4 => (hb q q0 q4).1) hl
  unfold fX11_layHelps
  rw [e, jBd_s]
  refine gHo_nm fun s1 h1 => ?_
  have hh := fun q q0 q4 => (hb q q0 q4).1
  refine gIt2 (fun k t => 0 ≤ k ∧ k ≤ 34 ∧ (∀ y : Int, y ≠ 53 → y ≠ 72 → y ≠ 73 → y ≠ 74 → y ≠ 75 → t y = s y) ∧ (∀ y : Int, y ≠ 27 → t 53 y = s 53 y) ∧ t 53 27 = v ∧ yLanes t ∧ ∀ q : Int, 0 ≤ q → q < k → (t 75 q = 1 ∨ t 75 q = 0) ∧ (t 75 q = 1 ↔ yHc (s 53 10) (s 53 11) w (s 68) (s 69) v q)) (fun k => (34 - k).toNat) ?_ 1000 0 s1 ⟨by omega, by omega, fun y y1 _ _ _ _ => by rw [h1, jU_row y1], fun y y1 => by rw [h1, jU_at, if_neg y1], by rw [h1, jU_at, if_pos rfl], ?_, fun q a b => by omega⟩ (by decide)
  · rintro rec k t ⟨k0, k4, fr, f53, f27, tl, hq⟩ ih
    have r68 := fr 68 (by decide) (by decide) (by decide) (by decide) (by decide)
    have r69 := fr 69 (by decide) (by decide) (by decide) (by decide) (by decide)
    unfold bX11_layHelps_10
    refine gHo_if (fun c => ?_) (fun c => ?_)
    · have ek : k = 34 := by omega
      subst ek
      refine gHo_ret ⟨fr, f53, tl, by rw [f27]; exact hv, ?_⟩
      rw [f27]; exact hq
    · have k34 : k < 34 := by omega
      have hk := hb k k0 k34
      refine gHo_gd ⟨k0, by omega⟩ (gHo_nm fun t1 ht1 => gHo_gd ⟨k0, by omega⟩ (gHo_let (gHo_gd ⟨k0, by omega⟩ (gHo_let ?_))))
      have g1 : ∀ y : Int, y ≠ 75 → t1 y = t y := fun y hy => by rw [ht1, jU_row hy]
      have t168 : t1 68 = s 68 := by rw [g1 68 (by decide), r68]
      have t169 : t1 69 = s 69 := by rw [g1 69 (by decide), r69]
      have t1l : yLanes t1 := by
        intro r g p r0 r4 g0 g4 p0 p1
        rw [g1 74 (by decide), g1 69 (by decide), g1 68 (by decide)]; exact tl r g p r0 r4 g0 g4 p0 p1
      rw [t168, t169]
      refine gHo_l32 (by omega) (by omega) (gHo_if (fun c4 => ?_) (fun c4 => ?_))
      · unfold bX11_layHelps_76
        refine gHo_l32 (by omega) (by omega) (ih _ _ ⟨by omega, by omega, fun y y1 y2 y3 y4 y5 => by rw [g1 y y5]; exact fr y y1 y2 y3 y4 y5, fun y hy => by rw [g1 53 (by decide)]; exact f53 y hy, by rw [g1 53 (by decide)]; exact f27, t1l, fun q q0 q4 => ?_⟩ (by omega))
        rw [ht1, jU_at]
        by_cases eq : q = k
        · rw [if_pos eq]
          refine ⟨Or.inr rfl, fun z => absurd z (by decide), fun z => ?_⟩
          have := yHc_4 q0 (by omega) hL z
          rw [eq] at this; omega
        · rw [if_neg eq]; exact hq q q0 (by omega)
      · refine gHo_bd (zX11_change (s := t1) (d := 1) k0 k34 (fun q q0 q4 => by rw [t168, t169]; have := hb q q0 q4; omega) (by rw [t168]; omega) (by omega) t1l) (fun _ t2 ht2 => ?_)
        obtain ⟨c1, c2, c3⟩ := ht2
        rw [t168] at c2
        have t269 : t2 69 = s 69 := by rw [c1 69 (by decide) (by decide) (by decide) (by decide), t169]
        have t253 : t2 53 = t 53 := by rw [c1 53 (by decide) (by decide) (by decide) (by decide), g1 53 (by decide)]
        obtain ⟨v', e', hv', w1, w2⟩ := zX11_lackOf (s := t2) hw (by rw [t253, f53 20 (by decide), h20]) (fun q q0 q4 => by
          rw [c2]; unfold yUp
          have := hb q q0 q4
          split <;> omega) c3
        rw [c2, t269, t253, f53 10 (by decide), f53 11 (by decide)] at hv'
        have key := yHelp k0 k34 hh hs hv hv'
        rw [e', jBd_s]
        refine gHo_let ?_
        rw [t253, f27]
        refine gHo_l32 (by omega) (by omega) ?_
        have fin : ∀ b : Int, (b = 1 ∨ b = 0) → (b = 1 ↔ yHc (s 53 10) (s 53 11) w (s 68) (s 69) v k) → jHo (fun _ t => (∀ y : Int, y ≠ 53 → y ≠ 72 → y ≠ 73 → y ≠ 74 → y ≠ 75 → t y = s y) ∧ (∀ y : Int, y ≠ 27 → t 53 y = s 53 y) ∧ yLanes t ∧ yLack (s 53 10) (s 53 11) w (s 68) (s 69) (t 53 27) ∧ ∀ q : Int, 0 ≤ q → q < 34 → (t 75 q = 1 ∨ t 75 q = 0) ∧ (t 75 q = 1 ↔ yHc (s 53 10) (s 53 11) w (s 68) (s 69) (t 53 27) q)) (bX11_layHelps_69 (bX11_layHelps_76 rec) k k b t2) := by
          intro b b1 b2
          unfold bX11_layHelps_69
          refine gHo_gd ⟨by omega, by omega⟩ (gHo_gd ⟨k0, by omega⟩ (gHo_nm fun t3 ht3 => ?_))
          have g3 : ∀ y : Int, y ≠ 75 → t3 y = t2 y := fun y hy => by rw [ht3, jU_row hy]
          refine gHo_bd (zX11_change (s := t3) (d := -1) k0 k34 (fun q q0 q4 => by
            rw [g3 68 (by decide), g3 69 (by decide), c2, t269]
            unfold yUp
            have := hb q q0 q4
            split <;> omega) (by rw [g3 68 (by decide), c2, yUp_at]; omega) (by omega) (by
            intro r g p r0 r4 g0 g4 p0 p1
            rw [g3 74 (by decide), g3 69 (by decide), g3 68 (by decide)]; exact c3 r g p r0 r4 g0 g4 p0 p1)) (fun _ t4 ht4 => ?_)
          obtain ⟨d1, d2, d3⟩ := ht4
          have t468 : t4 68 = s 68 := by
            rw [d2, g3 68 (by decide), c2, yUp_at, yUp_up]
            exact yUp_id (by omega)
          have t453 : t4 53 = t 53 := by rw [d1 53 (by decide) (by decide) (by decide) (by decide), g3 53 (by decide), t253]
          unfold bX11_layHelps_76
          refine gHo_l32 (by omega) (by omega) (ih _ _ ⟨by omega, by omega, fun y y1 y2 y3 y4 y5 => ?_, fun y hy => by rw [t453]; exact f53 y hy, by rw [t453]; exact f27, d3, fun q q0 q4 => ?_⟩ (by omega))
          · by_cases e6 : y = 68
            · subst e6; exact t468
            · rw [d1 y e6 y2 y3 y4, g3 y y5, c1 y e6 y2 y3 y4, g1 y y5]; exact fr y y1 y2 y3 y4 y5
          · rw [d1 75 (by decide) (by decide) (by decide) (by decide), ht3, jU_at]
            by_cases eq : q = k
            · rw [if_pos eq, eq]; exact ⟨b1, b2⟩
            · rw [if_neg eq, c1 75 (by decide) (by decide) (by decide) (by decide), ht1, jU_at, if_neg eq]; exact hq q q0 (by omega)
        exact gHo_if (fun c5 => fin 1 (Or.inl rfl) ⟨fun _ => key.mp c5, fun _ => rfl⟩) (fun c5 => fin 0 (Or.inr rfl) ⟨fun z => absurd z (by decide), fun z => absurd (key.mpr z) c5⟩)
  · intro r g p r0 r4 g0 g4 p0 p1
    rw [h1, jU_row (by decide), jU_row (by decide), jU_row (by decide)]; exact hl r g p r0 r4 g0 g4 p0 p1
/-- the i-th of those that are marked -/
def yNt (b : Int → Int) : Nat → Int → Int → Int
  | 0, _, _ => -3
  | k + 1, q, l => if b q = 0 then yNt b k (q + 1) l else if l = 0 then q else yNt b k (q + 1) (l - 1)
theorem yNt_cg {b c : Int → Int} : ∀ (k : Nat) (q l : Int), (∀ p : Int, q ≤ p → p < q + k → b p = c p) → yNt b k q l = yNt c k q l := by
  intro k
  induction k with
  | zero => intro q l _; rfl
  | succ k ih =>
    intro q l h
    simp only [yNt]
    rw [h q (by omega) (by omega), ih (q + 1) l (fun p a b => h p (by omega) (by omega)), ih (q + 1) (l - 1) (fun p a b => h p (by omega) (by omega))]
theorem yNt_s (b : Int → Int) (k : Nat) (q l : Int) : yNt b (k + 1) q l = if b q = 0 then yNt b k (q + 1) l else if l = 0 then q else yNt b k (q + 1) (l - 1) := rfl
theorem zX11_helpAt {s : jMem} {i : Int} {b : Int → Int} (hi : 0 ≤ i ∧ i < 2147483648) (hb : ∀ q : Int, 0 ≤ q → q < 34 → s 75 q = b q) : fX11_helpAt i s = some (yNt b 34 0 i, s) := by
  have jz := jzk_75
  obtain ⟨R, hR⟩ : ∃ R, R = yNt b 34 0 i := ⟨_, rfl⟩
  rw [← hR]
  have main : jHo (fun v t => v = R ∧ t = s) (fX11_helpAt i s) := by
    unfold fX11_helpAt
    refine gIt3 (fun l q t => t = s ∧ 0 ≤ q ∧ q ≤ 34 ∧ 0 ≤ l ∧ l ≤ i ∧ ∀ n : Nat, n = (34 - q).toNat → yNt b n q l = R) (fun _ q => (34 - q).toNat) ?_ 1000 i 0 s ⟨rfl, by omega, by omega, by omega, by omega, fun n hn => by rw [hR, show n = 34 by omega]⟩ (by decide)
    rintro rec l q t ⟨rfl, q0, q4, l0, l1, hn⟩ ih
    unfold bX11_helpAt_4
    refine gHo_if (fun c => ?_) (fun c => ?_)
    · have : q = 34 := by omega
      subst this
      exact gHo_ret ⟨hn 0 (by decide), rfl⟩
    · have st := hn ((34 - (q + 1)).toNat + 1) (by omega)
      rw [yNt_s] at st
      refine gHo_gd ⟨q0, by omega⟩ (gHo_let ?_)
      rw [hb q q0 (by omega)]
      refine gHo_if (fun z => ?_) (fun z => ?_)
      · rw [if_pos z] at st
        unfold bX11_helpAt_28
        exact gHo_l32 (by omega) (by omega) (ih _ _ _ ⟨rfl, by omega, by omega, by omega, by omega, fun n hn => by rw [hn]; exact st⟩ (by omega))
      · rw [if_neg z] at st
        refine gHo_if (fun z2 => ?_) (fun z2 => ?_)
        · rw [if_pos z2] at st
          exact gHo_ret ⟨st, rfl⟩
        · rw [if_neg z2] at st
          unfold bX11_helpAt_28
          refine gHo_l32 (by omega) (by omega) (gHo_l32 (by omega) (by omega) (ih _ _ _ ⟨rfl, by omega, by omega, by omega, by omega, fun n hn => ?_⟩ (by omega)))
          rw [hn, show l + -1 = l - 1 by omega]; exact st
  obtain ⟨v, t, e, rfl, rfl⟩ := main
  exact e
end

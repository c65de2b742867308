/-! ===== lacks: the reference's sums ===== -/
section
/-- plans of the first rows together -/
def yTP (L : Int → Int) (K : Int) : Nat → Int → Int → (Int → Int) → Prop
  | 0, g, p, _ => g = 0 ∧ p = 0
  | r + 1, g, p, n => ∃ g' p' : Int, yTP L K r (g - g') (p - p') n ∧ yRw L r K g' p' n
def yTC (H n : Int → Int) : Nat → Int
  | 0 => 0
  | r + 1 => yTC H n r + yCo H r n (yLn r)
theorem yTC4 (H n : Int → Int) : yTC H n 4 = yCo H 0 n (yLn 0) + yCo H 1 n (yLn 1) + yCo H 2 n (yLn 2) + yCo H 3 n (yLn 3) := by
  show (0 : Int) + yCo H 0 n (yLn 0) + yCo H 1 n (yLn 1) + yCo H 2 n (yLn 2) + yCo H 3 n (yLn 3) = _
  omega
theorem yRw_cg {L : Int → Int} {r K g p : Int} {n m : Int → Int} (h : ∀ q : Int, q / 9 = r → n q = m q) (k : yRw L r K g p n) : yRw L r K g p m := yRP_cg _ _ _ _ _ n m (fun j hj => h _ (by unfold yLn at hj; split at hj <;> omega)) k
theorem yCo_cgr {H : Int → Int} {r : Int} {n m : Int → Int} (h : ∀ q : Int, q / 9 = r → n q = m q) : yCo H r n (yLn r) = yCo H r m (yLn r) := yCo_cg (fun j hj => h _ (by unfold yLn at hj; split at hj <;> omega))
theorem yRw_bd {L : Int → Int} {r K g p : Int} {n : Int → Int} (hK : 0 ≤ K) (h : yRw L r K g p n) : 0 ≤ g ∧ g ≤ 4 ∧ 0 ≤ p ∧ p ≤ 1 := by
  obtain ⟨-, -, a, b, -⟩ := yRP_bd hK _ _ _ _ _ n h
  omega
/-- a hand's plans, and what is to come -/
def yPn (L : Int → Int) (w : Int) (n : Int → Int) : Prop := yTP L 4 4 w 1 n
theorem yLE_sum {H L : Int → Int} {F : Int → Int → Int → Int} {w v : Int} (hF : ∀ r g p : Int, 0 ≤ r → r < 4 → 0 ≤ g → g ≤ 4 → 0 ≤ p → p ≤ 1 → 0 ≤ F r g p ∧ yLE (F r g p) (fun c => ∃ n, yRw L r 4 g p n ∧ c = yCo H r n (yLn r))) (hw : w ≤ 4) (h1 : v ≤ 99) (h2 : v < 99 → ∃ a b c x : Int, 0 ≤ a ∧ 0 ≤ b ∧ 0 ≤ c ∧ a + b + c ≤ w ∧ 0 ≤ x ∧ x < 4 ∧ v = F 0 a (if x = 0 then 1 else 0) + F 1 b (if x = 1 then 1 else 0) + F 2 c (if x = 2 then 1 else 0) + F 3 (w - a - b - c) (if x = 3 then 1 else 0)) (h3 : ∀ a b c x : Int, 0 ≤ a → 0 ≤ b → 0 ≤ c → a + b + c ≤ w → 0 ≤ x → x < 4 → v ≤ F 0 a (if x = 0 then 1 else 0) + F 1 b (if x = 1 then 1 else 0) + F 2 c (if x = 2 then 1 else 0) + F 3 (w - a - b - c) (if x = 3 then 1 else 0)) : yLE v (fun c => ∃ n, yPn L w n ∧ c = yTC H n 4) := by
  have fl : ∀ c : Prop, [Decidable c] → 0 ≤ (if c then (1 : Int) else 0) ∧ (if c then (1 : Int) else 0) ≤ 1 := fun c _ => y01
  refine ⟨h1, fun hlt => ?_, ?_⟩
  · obtain ⟨a, b, c, x, a0, b0, c0, ac, x0, x4, e⟩ := h2 hlt
    have k0 := hF 0 a (if x = 0 then 1 else 0) (by omega) (by omega) a0 (by omega) (fl _).1 (fl _).2
    have k1 := hF 1 b (if x = 1 then 1 else 0) (by omega) (by omega) b0 (by omega) (fl _).1 (fl _).2
    have k2 := hF 2 c (if x = 2 then 1 else 0) (by omega) (by omega) c0 (by omega) (fl _).1 (fl _).2
    have k3 := hF 3 (w - a - b - c) (if x = 3 then 1 else 0) (by omega) (by omega) (by omega) (by omega) (fl _).1 (fl _).2
    obtain ⟨n0, p0, e0⟩ := k0.2.2.1 (by omega)
    obtain ⟨n1, p1, e1⟩ := k1.2.2.1 (by omega)
    obtain ⟨n2, p2, e2⟩ := k2.2.2.1 (by omega)
    obtain ⟨n3, p3, e3⟩ := k3.2.2.1 (by omega)
    obtain ⟨n, hn⟩ : ∃ n : Int → Int, n = fun q => if q / 9 = 0 then n0 q else if q / 9 = 1 then n1 q else if q / 9 = 2 then n2 q else n3 q := ⟨_, rfl⟩
    have m0 : ∀ q : Int, q / 9 = 0 → n0 q = n q := fun q hq => by rw [hn]; dsimp only; rw [if_pos hq]
    have m1 : ∀ q : Int, q / 9 = 1 → n1 q = n q := fun q hq => by rw [hn]; dsimp only; rw [if_neg (by omega), if_pos hq]
    have m2 : ∀ q : Int, q / 9 = 2 → n2 q = n q := fun q hq => by rw [hn]; dsimp only; rw [if_neg (by omega), if_neg (by omega), if_pos hq]
    have m3 : ∀ q : Int, q / 9 = 3 → n3 q = n q := fun q hq => by rw [hn]; dsimp only; rw [if_neg (by omega), if_neg (by omega), if_neg (by omega)]
    refine ⟨n, ⟨_, _, ⟨_, _, ⟨_, _, ⟨_, _, ⟨?_, ?_⟩, yRw_cg m0 p0⟩, yRw_cg m1 p1⟩, yRw_cg m2 p2⟩, yRw_cg m3 p3⟩, ?_⟩
    · omega
    · rcases (by omega : x = 0 ∨ x = 1 ∨ x = 2 ∨ x = 3) with rfl | rfl | rfl | rfl <;> decide
    · rw [e, e0, e1, e2, e3, yCo_cgr m0, yCo_cgr m1, yCo_cgr m2, yCo_cgr m3, yTC4]
  · rintro c ⟨n, ⟨g3, p3, ⟨g2, p2, ⟨g1, p1, ⟨g0, p0, ⟨z1, z2⟩, r0⟩, r1⟩, r2⟩, r3⟩, rfl⟩
    have b0 := yRw_bd (by decide) r0
    have b1 := yRw_bd (by decide) r1
    have b2 := yRw_bd (by decide) r2
    have b3 := yRw_bd (by decide) r3
    have k0 := (hF 0 g0 p0 (by omega) (by omega) b0.1 b0.2.1 b0.2.2.1 b0.2.2.2).2.2.2 _ ⟨n, r0, rfl⟩
    have k1 := (hF 1 g1 p1 (by omega) (by omega) b1.1 b1.2.1 b1.2.2.1 b1.2.2.2).2.2.2 _ ⟨n, r1, rfl⟩
    have k2 := (hF 2 g2 p2 (by omega) (by omega) b2.1 b2.2.1 b2.2.2.1 b2.2.2.2).2.2.2 _ ⟨n, r2, rfl⟩
    have k3 := (hF 3 g3 p3 (by omega) (by omega) b3.1 b3.2.1 b3.2.2.1 b3.2.2.2).2.2.2 _ ⟨n, r3, rfl⟩
    have eg : w - g0 - g1 - g2 = g3 := by omega
    have := h3 g0 g1 g2 (if p0 = 1 then 0 else if p1 = 1 then 1 else if p2 = 1 then 2 else 3) b0.1 b1.1 b2.1 (by omega) (by split <;> (try split) <;> (try split) <;> omega) (by split <;> (try split) <;> (try split) <;> omega)
    rw [eg] at this
    have px : p0 + p1 + p2 + p3 = 1 := by omega
    rw [yTC4]
    have fin : ∀ (x y z u : Int), x = F 0 g0 p0 → y = F 1 g1 p1 → z = F 2 g2 p2 → u = F 3 g3 p3 → v ≤ x + y + z + u → v ≤ yCo H 0 n (yLn 0) + yCo H 1 n (yLn 1) + yCo H 2 n (yLn 2) + yCo H 3 n (yLn 3) := by
      intro x y z u hx hy hz hu hv
      have q0 : F 0 g0 p0 ≤ yCo H 0 n (yLn 0) := k0
      have q1 : F 1 g1 p1 ≤ yCo H 1 n (yLn 1) := k1
      have q2 : F 2 g2 p2 ≤ yCo H 2 n (yLn 2) := k2
      have q3 : F 3 g3 p3 ≤ yCo H 3 n (yLn 3) := k3
      omega
    refine fin _ _ _ _ ?_ ?_ ?_ ?_ this
    · by_cases c0 : p0 = 1
      · rw [if_pos c0, if_pos rfl, c0]
      · rw [if_neg c0, if_neg (by split <;> (try split) <;> omega), show p0 = 0 by omega]
    · by_cases c0 : p0 = 1
      · rw [if_pos c0, if_neg (by decide), show p1 = 0 by omega]
      · rw [if_neg c0]
        by_cases c1 : p1 = 1
        · rw [if_pos c1, if_pos rfl, c1]
        · rw [if_neg c1, if_neg (by split <;> omega), show p1 = 0 by omega]
    · by_cases c0 : p0 = 1
      · rw [if_pos c0, if_neg (by decide), show p2 = 0 by omega]
      · rw [if_neg c0]
        by_cases c1 : p1 = 1
        · rw [if_pos c1, if_neg (by decide), show p2 = 0 by omega]
        · rw [if_neg c1]
          by_cases c2 : p2 = 1
          · rw [if_pos c2, if_pos rfl, c2]
          · rw [if_neg c2, if_neg (by decide), show p2 = 0 by omega]
    · by_cases c0 : p0 = 1
      · rw [if_pos c0, if_neg (by decide), show p3 = 0 by omega]
      · rw [if_neg c0]
        by_cases c1 : p1 = 1
        · rw [if_pos c1, if_neg (by decide), show p3 = 0 by omega]
        · rw [if_neg c1]
          by_cases c2 : p2 = 1
          · rw [if_pos c2, if_neg (by decide), show p3 = 0 by omega]
          · rw [if_neg c2, if_pos rfl, show p3 = 1 by omega]
/-- the sum of four lanes -/
def yF4 (s : jMem) (w a b c x : Int) : Int := s 74 (10 * 0 + 2 * a + (if x = 0 then 1 else 0)) + s 74 (10 * 1 + 2 * b + (if x = 1 then 1 else 0)) + s 74 (10 * 2 + 2 * c + (if x = 2 then 1 else 0)) + s 74 (10 * 3 + 2 * (w - a - b - c) + (if x = 3 then 1 else 0))
theorem zX11_lackByWay {s : jMem} {w : Int} (hw : 0 ≤ w ∧ w ≤ 4) (h20 : s 53 20 = 4 - w) (hb : ∀ y : Int, 0 ≤ y → y < 40 → 0 ≤ s 74 y ∧ s 74 y ≤ 99) : ∃ v, fX11_lackByWay s = some (v, s) ∧ 0 ≤ v ∧ v ≤ 99 ∧ (v < 99 → ∃ a b c x : Int, 0 ≤ a ∧ 0 ≤ b ∧ 0 ≤ c ∧ a + b + c ≤ w ∧ 0 ≤ x ∧ x < 4 ∧ v = yF4 s w a b c x) ∧ ∀ a b c x : Int, 0 ≤ a → 0 ≤ b → 0 ≤ c → a + b + c ≤ w → 0 ≤ x → x < 4 → v ≤ yF4 s w a b c x := by
  obtain ⟨u1, u2, u3, u4, u5, u6, u7, u8, u9, u10, u11, u12, u13, u14, u15, u16, u17, u18, u19, u20, u21, u22⟩ := jik_m
  obtain ⟨Iv, hIv⟩ : ∃ Iv : Int → Int → Int → Int → Int → Prop, Iv = fun a b c x v => 0 ≤ v ∧ v ≤ 99 ∧ (v < 99 → ∃ a b c x : Int, 0 ≤ a ∧ 0 ≤ b ∧ 0 ≤ c ∧ a + b + c ≤ w ∧ 0 ≤ x ∧ x < 4 ∧ v = yF4 s w a b c x) ∧ ∀ a' b' c' x' : Int, 0 ≤ a' → 0 ≤ b' → 0 ≤ c' → a' + b' + c' ≤ w → 0 ≤ x' → x' < 4 → (a' < a ∨ a' = a ∧ (b' < b ∨ b' = b ∧ (c' < c ∨ c' = c ∧ x' < x))) → v ≤ yF4 s w a' b' c' x' := ⟨_, rfl⟩
  have mono : ∀ (a b c x a2 b2 c2 x2 v : Int), Iv a b c x v → (∀ a' b' c' x' : Int, 0 ≤ a' → 0 ≤ b' → 0 ≤ c' → a' + b' + c' ≤ w → 0 ≤ x' → x' < 4 → (a' < a2 ∨ a' = a2 ∧ (b' < b2 ∨ b' = b2 ∧ (c' < c2 ∨ c' = c2 ∧ x' < x2))) → (a' < a ∨ a' = a ∧ (b' < b ∨ b' = b ∧ (c' < c ∨ c' = c ∧ x' < x)))) → Iv a2 b2 c2 x2 v := by
    intro a b c x a2 b2 c2 x2 v hv hx
    rw [hIv] at hv ⊢
    exact ⟨hv.1, hv.2.1, hv.2.2.1, fun a' b' c' x' p1 p2 p3 p4 p5 p6 p7 => hv.2.2.2 a' b' c' x' p1 p2 p3 p4 p5 p6 (hx a' b' c' x' p1 p2 p3 p4 p5 p6 p7)⟩
  have main : jHo (fun v t => t = s ∧ Iv 5 0 0 0 v) (fX11_lackByWay s) := by
    unfold fX11_lackByWay
    refine gHo_let ?_
    rw [h20]
    refine gHo_l32 (by omega) (by omega) ?_
    rw [show 4 - (4 - w) = w by omega]
    refine gIt4 (fun v e2 a t => e2 = w ∧ t = s ∧ 0 ≤ a ∧ a ≤ w + 1 ∧ Iv a 0 0 0 v) (fun _ _ a => (6 - a).toNat) ?_ 1000 99 w 0 s ⟨rfl, rfl, by omega, by omega, ?_⟩ (by decide)
    · rintro rec v e2 a t ⟨rfl, rfl, a0, a1, hv⟩ ih
      unfold bX11_lackByWay_12
      refine gHo_if (fun c1 => gHo_ret ⟨rfl, mono _ _ _ _ _ _ _ _ v hv (fun _ _ _ _ _ _ _ _ _ _ _ => by omega)⟩) (fun c1 => ?_)
      refine gIt5 (fun v e2' a' b t' => e2' = e2 ∧ a' = a ∧ t' = t ∧ 0 ≤ b ∧ b ≤ e2 - a + 1 ∧ Iv a b 0 0 v) (fun _ _ _ b => (6 - b).toNat) ?_ 1000 v e2 a 0 t ⟨rfl, rfl, rfl, by omega, by omega, hv⟩ (by decide)
      rintro rec2 v2 e2' a' b t' ⟨rfl, rfl, rfl, b0, b1, hv2⟩ ih2
      unfold bX11_lackByWay_20
      refine gHo_l32 (by omega) (by omega) (gHo_if (fun c2 => ?_) (fun c2 => ?_))
      · unfold bX11_lackByWay_189
        exact gHo_l32 (by omega) (by omega) (ih _ _ _ _ ⟨rfl, rfl, by omega, by omega, mono _ _ _ _ _ _ _ _ v2 hv2 (fun _ _ _ _ _ _ _ _ _ _ _ => by omega)⟩ (by omega))
      · refine gIt6 (fun v f1 f2 f3 c t'' => f1 = e2' ∧ f2 = a' ∧ f3 = b ∧ t'' = t' ∧ 0 ≤ c ∧ c ≤ e2' - a' - b + 1 ∧ Iv a' b c 0 v) (fun _ _ _ _ c => (6 - c).toNat) ?_ 1000 v2 e2' a' b 0 t' ⟨rfl, rfl, rfl, rfl, by omega, by omega, hv2⟩ (by decide)
        rintro rec3 v3 f1 f2 f3 c t'' ⟨rfl, rfl, rfl, rfl, c0, c3, hv3⟩ ih3
        unfold bX11_lackByWay_31
        refine gHo_l32 (by omega) (by omega) (gHo_l32 (by omega) (by omega) (gHo_if (fun c4 => ?_) (fun c4 => ?_)))
        · unfold bX11_lackByWay_183
          exact gHo_l32 (by omega) (by omega) (ih2 _ _ _ _ _ ⟨rfl, rfl, rfl, by omega, by omega, mono _ _ _ _ _ _ _ _ v3 hv3 (fun _ _ _ _ _ _ _ _ _ _ _ => by omega)⟩ (by omega))
        · refine gHo_l32 (by omega) (by omega) (gHo_l32 (by omega) (by omega) (gHo_l32 (by omega) (by omega) ?_))
          refine gIt8 (fun v g1 g2 g3 g4 g5 x u => g1 = f1 ∧ g2 = f2 ∧ g3 = f3 ∧ g4 = c ∧ g5 = f1 - f2 - f3 - c ∧ u = t'' ∧ 0 ≤ x ∧ x ≤ 4 ∧ Iv f2 f3 c x v) (fun _ _ _ _ _ _ x => (4 - x).toNat) ?_ 1000 v3 f1 f2 f3 c _ 0 t'' ⟨rfl, rfl, rfl, rfl, rfl, rfl, by omega, by omega, hv3⟩ (by decide)
          rintro rec4 v4 g1 g2 g3 g4 g5 x u ⟨rfl, rfl, rfl, rfl, rfl, rfl, x0, x4, hv4⟩ ih4
          have v4b : 0 ≤ v4 ∧ v4 ≤ 99 := by rw [hIv] at hv4; exact ⟨hv4.1, hv4.2.1⟩
          unfold bX11_lackByWay_56
          refine gHo_if (fun c5 => ?_) (fun c5 => ?_)
          · unfold bX11_lackByWay_177
            exact gHo_l32 (by omega) (by omega) (ih3 _ _ _ _ _ _ ⟨rfl, rfl, rfl, rfl, by omega, by omega, mono _ _ _ _ _ _ _ _ v4 hv4 (fun _ _ _ _ _ _ _ _ _ _ _ => by omega)⟩ (by omega))
          · -- one sum
            have L0 := hb (10 * 0 + 2 * g2 + (if x = 0 then 1 else 0)) (by split <;> omega) (by split <;> omega)
            have L1 := hb (10 * 1 + 2 * g3 + (if x = 1 then 1 else 0)) (by split <;> omega) (by split <;> omega)
            have L2 := hb (10 * 2 + 2 * g4 + (if x = 2 then 1 else 0)) (by split <;> omega) (by split <;> omega)
            have L3 := hb (10 * 3 + 2 * (g1 - g2 - g3 - g4) + (if x = 3 then 1 else 0)) (by split <;> omega) (by split <;> omega)
            have last : ∀ y : Int, y = (if x = 3 then 1 else 0) → jHo (fun v t => t = u ∧ Iv 5 0 0 0 v) (bX11_lackByWay_153 rec4 v4 g1 g2 g3 g4 (g1 - g2 - g3 - g4) x (u 74 (10 * 0 + 2 * g2 + (if x = 0 then 1 else 0)) + u 74 (10 * 1 + 2 * g3 + (if x = 1 then 1 else 0)) + u 74 (10 * 2 + 2 * g4 + (if x = 2 then 1 else 0))) (30 + 2 * (g1 - g2 - g3 - g4)) y u) := by
              intro y hy
              have yb : 0 ≤ y ∧ y ≤ 1 := by rw [hy]; exact y01
              unfold bX11_lackByWay_153
              refine gHo_l32 (by omega) (by omega) (gHo_gd ⟨by omega, by omega⟩ (gHo_let ?_))
              rw [hy, show 30 + 2 * (g1 - g2 - g3 - g4) + (if x = 3 then (1 : Int) else 0) = 10 * 3 + 2 * (g1 - g2 - g3 - g4) + (if x = 3 then 1 else 0) by omega]
              refine gHo_l32 (by omega) (by omega) ?_
              have es : u 74 (10 * 0 + 2 * g2 + (if x = 0 then 1 else 0)) + u 74 (10 * 1 + 2 * g3 + (if x = 1 then 1 else 0)) + u 74 (10 * 2 + 2 * g4 + (if x = 2 then 1 else 0)) + u 74 (10 * 3 + 2 * (g1 - g2 - g3 - g4) + (if x = 3 then 1 else 0)) = yF4 u g1 g2 g3 g4 x := rfl
              have e0 : 0 ≤ yF4 u g1 g2 g3 g4 x := by rw [← es]; omega
              rw [es]
              have step : ∀ v5 : Int, v5 = (if yF4 u g1 g2 g3 g4 x < v4 then yF4 u g1 g2 g3 g4 x else v4) → jHo (fun v t => t = u ∧ Iv 5 0 0 0 v) (bX11_lackByWay_170 rec4 g1 g2 g3 g4 (g1 - g2 - g3 - g4) x v5 u) := by
                intro v5 hv5
                have v5le : v5 ≤ v4 ∧ v5 ≤ yF4 u g1 g2 g3 g4 x ∧ 0 ≤ v5 := by rw [hv5]; split <;> omega
                unfold bX11_lackByWay_170
                refine gHo_l32 (by omega) (by omega) (ih4 _ _ _ _ _ _ _ _ ⟨rfl, rfl, rfl, rfl, rfl, rfl, by omega, by omega, ?_⟩ (by omega))
                rw [hIv] at hv4 ⊢
                obtain ⟨q1, q2, q3, q4⟩ := hv4
                refine ⟨v5le.2.2, by omega, fun hlt => ?_, fun a' b' c' x' p1 p2 p3 p4 p5 p6 p7 => ?_⟩
                · by_cases e5 : yF4 u g1 g2 g3 g4 x < v4
                  · exact ⟨g2, g3, g4, x, by omega, by omega, by omega, by omega, by omega, by omega, by rw [hv5, if_pos e5]⟩
                  · rw [if_neg e5] at hv5
                    rw [hv5]; exact q3 (by omega)
                · by_cases e5 : a' = g2 ∧ b' = g3 ∧ c' = g4 ∧ x' = x
                  · obtain ⟨rfl, rfl, rfl, rfl⟩ := e5
                    exact v5le.2.1
                  · exact Int.le_trans v5le.1 (q4 a' b' c' x' p1 p2 p3 p4 p5 p6 (by omega))
              refine gHo_if (fun c6 => step _ (by rw [if_neg (by omega)])) (fun c6 => step _ (by rw [if_pos (by omega)]))
            have third : ∀ y : Int, y = (if x = 2 then 1 else 0) → jHo (fun v t => t = u ∧ Iv 5 0 0 0 v) (bX11_lackByWay_128 rec4 v4 g1 g2 g3 g4 (g1 - g2 - g3 - g4) x (u 74 (10 * 0 + 2 * g2 + (if x = 0 then 1 else 0)) + u 74 (10 * 1 + 2 * g3 + (if x = 1 then 1 else 0))) (20 + 2 * g4) y u) := by
              intro y hy
              have yb : 0 ≤ y ∧ y ≤ 1 := by rw [hy]; exact y01
              unfold bX11_lackByWay_128
              refine gHo_l32 (by omega) (by omega) (gHo_gd ⟨by omega, by omega⟩ (gHo_let ?_))
              rw [hy, show 20 + 2 * g4 + (if x = 2 then (1 : Int) else 0) = 10 * 2 + 2 * g4 + (if x = 2 then 1 else 0) by omega]
              refine gHo_l32 (by omega) (by omega) (gHo_l32 (by omega) (by omega) (gHo_l32 (by omega) (by omega) ?_))
              exact gHo_if (fun c6 => last 1 (by rw [if_pos c6])) (fun c6 => last 0 (by rw [if_neg c6]))
            have second : ∀ y : Int, y = (if x = 1 then 1 else 0) → jHo (fun v t => t = u ∧ Iv 5 0 0 0 v) (bX11_lackByWay_103 rec4 v4 g1 g2 g3 g4 (g1 - g2 - g3 - g4) x (u 74 (10 * 0 + 2 * g2 + (if x = 0 then 1 else 0))) (10 + 2 * g3) y u) := by
              intro y hy
              have yb : 0 ≤ y ∧ y ≤ 1 := by rw [hy]; exact y01
              unfold bX11_lackByWay_103
              refine gHo_l32 (by omega) (by omega) (gHo_gd ⟨by omega, by omega⟩ (gHo_let ?_))
              rw [hy, show 10 + 2 * g3 + (if x = 1 then (1 : Int) else 0) = 10 * 1 + 2 * g3 + (if x = 1 then 1 else 0) by omega]
              refine gHo_l32 (by omega) (by omega) (gHo_l32 (by omega) (by omega) (gHo_l32 (by omega) (by omega) ?_))
              exact gHo_if (fun c6 => third 1 (by rw [if_pos c6])) (fun c6 => third 0 (by rw [if_neg c6]))
            have first : ∀ y : Int, y = (if x = 0 then 1 else 0) → jHo (fun v t => t = u ∧ Iv 5 0 0 0 v) (bX11_lackByWay_79 rec4 v4 g1 g2 g3 g4 (g1 - g2 - g3 - g4) x (2 * g2) y u) := by
              intro y hy
              have yb : 0 ≤ y ∧ y ≤ 1 := by rw [hy]; exact y01
              unfold bX11_lackByWay_79
              refine gHo_l32 (by omega) (by omega) (gHo_gd ⟨by omega, by omega⟩ (gHo_let ?_))
              rw [hy, show 2 * g2 + (if x = 0 then (1 : Int) else 0) = 10 * 0 + 2 * g2 + (if x = 0 then 1 else 0) by omega]
              refine gHo_l32 (by omega) (by omega) (gHo_l32 (by omega) (by omega) ?_)
              exact gHo_if (fun c6 => second 1 (by rw [if_pos c6])) (fun c6 => second 0 (by rw [if_neg c6]))
            refine gHo_l32 (by omega) (by omega) ?_
            exact gHo_if (fun c6 => first 1 (by rw [if_pos c6])) (fun c6 => first 0 (by rw [if_neg c6]))
    · rw [hIv]
      exact ⟨by omega, by omega, fun z => by omega, fun a' b' c' x' p1 p2 p3 p4 p5 p6 p7 => by omega⟩
  obtain ⟨v, t, e, rfl, hv⟩ := main
  rw [hIv] at hv
  exact ⟨v, e, hv.1, hv.2.1, hv.2.2.1, fun a b c x p1 p2 p3 p4 p5 p6 => hv.2.2.2 a b c x p1 p2 p3 p4 p5 p6 (by omega)⟩
theorem zX11_lackOfSeven {h : Int → Int} {s : jMem} (hh : ∀ q : Int, 0 ≤ q → q < 34 → s 68 q = h q) : fX11_lackOfSeven s = some (yL7 h, s) := by
  obtain ⟨u1, u2, u3, u4, u5, u6, u7, u8, u9, u10, u11, u12, u13, u14, u15, u16, u17, u18, u19, u20, u21, u22⟩ := jik_m
  have un : yUn h = yPr h + jSum (fun q => if h q = 1 then 1 else 0) 34 := by
    unfold yUn yPr
    rw [← jSum_add (f := fun q => if 2 ≤ h q then 1 else 0) (g := fun q => if h q = 1 then 1 else 0) 34]
    refine jSum_cg (fun i hi => ?_)
    by_cases a : h i = 1
    · rw [if_pos a, if_pos (by omega), if_neg (by omega)]; rfl
    · rw [if_neg a]
      by_cases b : 2 ≤ h i
      · rw [if_pos b, if_pos (by omega)]; rfl
      · rw [if_neg b, if_neg (by omega)]; rfl
  have pb := yc_bd (P := fun q => 2 ≤ h q) 34
  have sb := yc_bd (P := fun q => h q = 1) 34
  have main : jHo (fun v t => v = yL7 h ∧ t = s) (fX11_lackOfSeven s) := by
    unfold fX11_lackOfSeven
    refine gIt4 (fun a1 a2 a3 t => t = s ∧ ∃ n : Nat, a3 = n ∧ n ≤ 34 ∧ a1 = jSum (fun q => if 2 ≤ h q then 1 else 0) n ∧ a2 = jSum (fun q => if h q = 1 then 1 else 0) n) (fun _ _ a3 => (34 - a3).toNat) ?_ 1000 0 0 0 s ⟨rfl, 0, rfl, by omega, rfl, rfl⟩ (by decide)
    rintro rec a1 a2 a3 t ⟨rfl, n, rfl, hn, rfl, rfl⟩ ih
    have b1 := yc_bd (P := fun q => 2 ≤ h q) n
    have b2 := yc_bd (P := fun q => h q = 1) n
    unfold bX11_lackOfSeven_6
    refine gHo_if (fun hc => ?_) (fun hc => ?_)
    · have e : n = 34 := by omega
      subst e
      have eP : yPr h = jSum (fun q => if 2 ≤ h q then 1 else 0) 34 := rfl
      rw [← eP] at b1 ⊢
      have eL : yL7 h = 14 - jmin (yPr h) 7 - jmin (yUn h) 7 := rfl
      rw [un] at eL
      have fin : ∀ m : Int, m = (if 7 < yPr h then 0 else 7 - yPr h) → jHo (fun v t' => v = yL7 h ∧ t' = t) (bX11_lackOfSeven_68 (jSum (fun q => if h q = 1 then 1 else 0) 34) m t) := by
        intro m hm
        have mb : 0 ≤ m ∧ m ≤ 7 := by rw [hm]; split <;> omega
        unfold bX11_lackOfSeven_68
        refine gHo_if (fun c => ?_) (fun c => ?_)
        · refine gHo_l32 (by omega) (by omega) (gHo_l32 (by omega) (by omega) (gHo_ret ⟨?_, rfl⟩))
          rw [eL, hm]
          unfold jmin
          split at hm <;> split <;> split <;> omega
        · refine gHo_ret ⟨?_, rfl⟩
          rw [eL, hm]
          unfold jmin
          split at hm <;> split <;> split <;> omega
      unfold bX11_lackOfSeven_54
      refine gHo_if (fun c => ?_) (fun c => ?_)
      · exact gHo_l32 (by omega) (by omega) (fin _ (by rw [if_neg (by omega)]))
      · exact fin 0 (by rw [if_pos (by omega)])
    · have fin : ∀ x y : Int, x = (if 2 ≤ h n then 1 else 0) → y = (if h n = 1 then 1 else 0) → jHo (fun v t' => v = yL7 h ∧ t' = t) (bX11_lackOfSeven_46 rec (jSum (fun q => if 2 ≤ h q then 1 else 0) n + x) n (jSum (fun q => if h q = 1 then 1 else 0) n) y t) := by
        intro x y hx hy
        have : 0 ≤ y ∧ y ≤ 1 := by rw [hy]; exact y01
        unfold bX11_lackOfSeven_46
        exact gHo_l32 (by omega) (by omega) (gHo_l32 (by omega) (by omega) (ih _ _ _ _ ⟨rfl, n + 1, by omega, by omega, by rw [hx]; rfl, by rw [hy]; rfl⟩ (by omega)))
      have fin2 : ∀ x : Int, x = (if 2 ≤ h n then 1 else 0) → jHo (fun v t' => v = yL7 h ∧ t' = t) (bX11_lackOfSeven_28 rec (jSum (fun q => if h q = 1 then 1 else 0) n) n (jSum (fun q => if 2 ≤ h q then 1 else 0) n) x t) := by
        intro x hx
        have : 0 ≤ x ∧ x ≤ 1 := by rw [hx]; exact y01
        unfold bX11_lackOfSeven_28
        refine gHo_l32 (by omega) (by omega) (gHo_gd ⟨by omega, by omega⟩ (gHo_let ?_))
        rw [hh n (by omega) (by omega)]
        exact gHo_if (fun e => fin x 1 hx (by rw [if_pos e])) (fun e => fin x 0 hx (by rw [if_neg e]))
      refine gHo_gd ⟨by omega, by omega⟩ (gHo_let ?_)
      rw [hh n (by omega) (by omega)]
      exact gHo_if (fun e => fin2 0 (by rw [if_neg (by omega)])) (fun e => fin2 1 (by rw [if_pos (by omega)]))
  obtain ⟨v, t, e, rfl, rfl⟩ := main
  exact e
theorem zX11_lackOfOuter {h : Int → Int} {s : jMem} (hh : ∀ q : Int, 0 ≤ q → q < 34 → s 68 q = h q ∧ 0 ≤ h q) : fX11_lackOfOuter s = some (yL13 h, s) := by
  obtain ⟨u1, u2, u3, u4, u5, u6, u7, u8, u9, u10, u11, u12, u13, u14, u15, u16, u17, u18, u19, u20, u21, u22⟩ := jik_m
  have tot : jSum (fun q => if yO q ∧ h q = 0 then 1 else 0) 34 = 13 - yOu h := by
    have e : jSum (fun q => (if yO q ∧ h q = 0 then (1 : Int) else 0) + (if yO q ∧ 1 ≤ h q then 1 else 0)) 34 = 13 := by
      rw [← yO_13]
      refine jSum_cg (fun i hi => ?_)
      have := (hh i (by omega) (by omega)).2
      by_cases o : yO (i : Int)
      · rw [if_pos o]
        by_cases z : h i = 0
        · rw [if_pos ⟨o, z⟩, if_neg (by omega)]; rfl
        · rw [if_neg (fun y => z y.2), if_pos ⟨o, by omega⟩]; rfl
      · rw [if_neg o, if_neg (fun y => o y.1), if_neg (fun y => o y.1)]; rfl
    rw [jSum_add (f := fun q => if yO q ∧ h q = 0 then (1 : Int) else 0) (g := fun q => if yO q ∧ 1 ≤ h q then (1 : Int) else 0) 34] at e
    have eu : yOu h = jSum (fun q => if yO q ∧ 1 ≤ h q then (1 : Int) else 0) 34 := rfl
    omega
  have eL : yL13 h = 13 - yOu h + (if 0 < yOq h then 0 else 1) := rfl
  have ub := yc_bd (P := fun q => yO q ∧ h q = 0) 34
  have main : jHo (fun v t => v = yL13 h ∧ t = s) (fX11_lackOfOuter s) := by
    unfold fX11_lackOfOuter
    refine gIt3 (fun a1 a2 t => t = s ∧ ∃ n : Nat, a2 = n ∧ n ≤ 34 ∧ a1 = 1 + jSum (fun q => if yO q ∧ h q = 0 then 1 else 0) n) (fun _ a2 => (34 - a2).toNat) ?_ 1000 1 0 s ⟨rfl, 0, rfl, by omega, rfl⟩ (by decide)
    rintro rec a1 a2 t ⟨rfl, n, rfl, hn, rfl⟩ ih
    have b1 := yc_bd (P := fun q => yO q ∧ h q = 0) n
    unfold bX11_lackOfOuter_4
    refine gHo_if (fun hc => ?_) (fun hc => ?_)
    · have e : n = 34 := by omega
      subst e
      rw [tot]
      rw [tot] at ub
      unfold bX11_lackOfOuter_40
      refine gIt4 (fun c1 c2 c3 z => c1 = 1 + (13 - yOu h) ∧ z = t ∧ ∃ m : Nat, c3 = m ∧ m ≤ 34 ∧ (c2 = 1 ∨ c2 = 0) ∧ (c2 = 0 ↔ jSum (fun q => if yO q ∧ 2 ≤ h q then (1 : Int) else 0) m = 0)) (fun _ _ c3 => (34 - c3).toNat) ?_ 1000 _ 0 0 t ⟨rfl, rfl, 0, rfl, by omega, Or.inr rfl, fun _ => rfl, fun _ => rfl⟩ (by decide)
      rintro rec2 c1 c2 c3 z ⟨rfl, rfl, m, rfl, hm, h01, hiff⟩ ih2
      have mb := yc_bd (P := fun q => yO q ∧ 2 ≤ h q) m
      unfold bX11_lackOfOuter_44
      refine gHo_if (fun hc2 => ?_) (fun hc2 => ?_)
      · have em : m = 34 := by omega
        subst em
        have eq : yOq h = jSum (fun q => if yO q ∧ 2 ≤ h q then (1 : Int) else 0) 34 := rfl
        rw [← eq] at hiff mb
        unfold bX11_lackOfOuter_83
        refine gHo_if (fun c => ?_) (fun c => ?_)
        · refine gHo_ret ⟨?_, rfl⟩
          have := hiff.mp c
          rw [eL, if_neg (by omega)]; omega
        · refine gHo_l32 (by omega) (by omega) (gHo_ret ⟨?_, rfl⟩)
          have : ¬ yOq h = 0 := fun y => c (hiff.mpr y)
          rw [eL, if_pos (by omega)]; omega
      · have es : jSum (fun q => if yO q ∧ 2 ≤ h q then (1 : Int) else 0) (m + 1) = jSum (fun q => if yO q ∧ 2 ≤ h q then (1 : Int) else 0) m + (if yO (m : Int) ∧ 2 ≤ h m then 1 else 0) := rfl
        have yes : (¬ c2 = 0 ∨ yO (m : Int) ∧ 2 ≤ h m) → jHo (fun v t' => v = yL13 h ∧ t' = z) (bX11_lackOfOuter_71 (bX11_lackOfOuter_76 rec2) (1 + (13 - yOu h)) m z) := by
          intro hx
          unfold bX11_lackOfOuter_71 bX11_lackOfOuter_76
          refine gHo_l32 (by omega) (by omega) (ih2 _ _ _ _ ⟨rfl, rfl, m + 1, by omega, by omega, Or.inl rfl, fun y => absurd y (by decide), fun y => ?_⟩ (by omega))
          rw [es] at y
          have p := y01 (c := yO (m : Int) ∧ 2 ≤ h m)
          rcases hx with hx | hx
          · exact absurd (hiff.mpr (by omega)) hx
          · rw [if_pos hx] at y; omega
        have no : c2 = 0 → ¬ (yO (m : Int) ∧ 2 ≤ h m) → jHo (fun v t' => v = yL13 h ∧ t' = z) (bX11_lackOfOuter_75 (bX11_lackOfOuter_76 rec2) (1 + (13 - yOu h)) m z) := by
          intro hx hy
          unfold bX11_lackOfOuter_75 bX11_lackOfOuter_76
          refine gHo_l32 (by omega) (by omega) (ih2 _ _ _ _ ⟨rfl, rfl, m + 1, by omega, by omega, Or.inr rfl, fun _ => ?_, fun _ => rfl⟩ (by omega))
          rw [es, if_neg hy, hiff.mp hx]; rfl
        refine gHo_if (fun c => ?_) (fun c => yes (Or.inl c))
        rw [zX11_isOuter (by omega) (by omega), jBd_s]
        by_cases o : yO (m : Int)
        · rw [jb_1 o, if_neg (by decide)]
          refine gHo_gd ⟨by omega, by omega⟩ (gHo_let ?_)
          rw [(hh m (by omega) (by omega)).1]
          exact gHo_if (fun y => no c (fun w => by have := w.2; omega)) (fun y => yes (Or.inr ⟨o, by omega⟩))
        · rw [jb_0 o, if_pos rfl]
          exact no c (fun w => o w.1)
    · have fin : ∀ x : Int, x = (if yO (n : Int) ∧ h n = 0 then 1 else 0) → jHo (fun v t' => v = yL13 h ∧ t' = t) (bX11_lackOfOuter_32 rec n (1 + jSum (fun q => if yO q ∧ h q = 0 then 1 else 0) n) x t) := by
        intro x hx
        have : 0 ≤ x ∧ x ≤ 1 := by rw [hx]; exact y01
        have es : jSum (fun q => if yO q ∧ h q = 0 then (1 : Int) else 0) (n + 1) = jSum (fun q => if yO q ∧ h q = 0 then (1 : Int) else 0) n + (if yO (n : Int) ∧ h n = 0 then 1 else 0) := rfl
        unfold bX11_lackOfOuter_32
        exact gHo_l32 (by omega) (by omega) (gHo_l32 (by omega) (by omega) (ih _ _ _ ⟨rfl, n + 1, by omega, by omega, by rw [es, hx]; omega⟩ (by omega)))
      rw [zX11_isOuter (by omega) (by omega), jBd_s]
      by_cases o : yO (n : Int)
      · rw [jb_1 o, if_neg (by decide)]
        refine gHo_gd ⟨by omega, by omega⟩ (gHo_let ?_)
        rw [(hh n (by omega) (by omega)).1]
        refine gHo_if (fun y => fin 1 (by rw [if_pos ⟨o, y⟩])) (fun y => ?_)
        unfold bX11_lackOfOuter_31
        exact fin 0 (by rw [if_neg (fun w => y w.2)])
      · rw [jb_0 o, if_pos rfl]
        unfold bX11_lackOfOuter_31
        exact fin 0 (by rw [if_neg (fun w => o w.1)])
  obtain ⟨v, t, e, rfl, rfl⟩ := main
  exact e
/-- the lack: of ways, of seven pairs, of outer ones -/
def yLk (f7 f13 w lw : Int) (h : Int → Int) : Int := if w = 4 ∧ f13 ≠ 0 ∧ yL13 h < (if w = 4 ∧ f7 ≠ 0 ∧ yL7 h < lw then yL7 h else lw) then yL13 h else (if w = 4 ∧ f7 ≠ 0 ∧ yL7 h < lw then yL7 h else lw)
theorem yLE_u {S : Int → Prop} {v w : Int} (h : yLE v S) (k : yLE w S) : v = w := by
  obtain ⟨a1, a2, a3⟩ := h
  obtain ⟨b1, b2, b3⟩ := k
  by_cases e : v < 99
  · have := b3 _ (a2 e)
    by_cases e2 : w < 99
    · have := a3 _ (b2 e2); omega
    · omega
  · by_cases e2 : w < 99
    · have := a3 _ (b2 e2); omega
    · omega
/-- the lack of what is looked at, as a fact -/
def yLack (f7 f13 w : Int) (H L : Int → Int) (v : Int) : Prop := ∃ lw : Int, yLE lw (fun c => ∃ n, yPn L w n ∧ c = yTC H n 4) ∧ v = yLk f7 f13 w lw H
theorem yLack_u {f7 f13 w : Int} {H L : Int → Int} {v v' : Int} (h : yLack f7 f13 w H L v) (k : yLack f7 f13 w H L v') : v = v' := by
  obtain ⟨a, a1, rfl⟩ := h
  obtain ⟨b, b1, rfl⟩ := k
  rw [yLE_u a1 b1]
/-- the reference's lanes lie ready -/
def yLanes (s : jMem) : Prop := ∀ r g p : Int, 0 ≤ r → r < 4 → 0 ≤ g → g ≤ 4 → 0 ≤ p → p ≤ 1 → yLE (s 74 (10 * r + 2 * g + p)) (fun c => ∃ n, yRw (s 69) r 4 g p n ∧ c = yCo (s 68) r n (yLn r))
theorem yCo_nn {H n : Int → Int} {r : Int} {i : Nat} : 0 ≤ yCo H r n i := by
  have ge := jSum_le (f := fun _ => 0) (g := fun j => yMx (n (9 * r + j) - H (9 * r + j))) (n := i) (fun j hj => yMx_bd.1)
  rw [jSum_0] at ge
  exact ge
theorem zX11_lackOf {s : jMem} {w : Int} (hw : 0 ≤ w ∧ w ≤ 4) (h20 : s 53 20 = 4 - w) (hb : ∀ q : Int, 0 ≤ q → q < 34 → 0 ≤ s 68 q) (hl : yLanes s) : ∃ v, fX11_lackOf s = some (v, s) ∧ yLack (s 53 10) (s 53 11) w (s 68) (s 69) v ∧ -100 ≤ v ∧ v ≤ 99 := by
  have lb : ∀ y : Int, 0 ≤ y → y < 40 → 0 ≤ s 74 y ∧ s 74 y ≤ 99 := fun y y0 y4 => by
    have h := hl (y / 10) (y % 10 / 2) (y % 2) (by omega) (by omega) (by omega) (by omega) (by omega) (by omega)
    rw [show 10 * (y / 10) + 2 * (y % 10 / 2) + y % 2 = y by omega] at h
    refine ⟨?_, h.1⟩
    by_cases e : s 74 y < 99
    · obtain ⟨n, _, hc⟩ := h.2.1 e
      rw [hc]; exact yCo_nn
    · omega
  obtain ⟨lw, e, l0, l99, p1, p2⟩ := zX11_lackByWay hw h20 lb
  have hE : yLE lw (fun c => ∃ n, yPn (s 69) w n ∧ c = yTC (s 68) n 4) := yLE_sum (F := fun r g p => s 74 (10 * r + 2 * g + p)) (fun r g p r0 r4 g0 g4 q0 q1 => ⟨(lb _ (by omega) (by omega)).1, hl r g p r0 r4 g0 g4 q0 q1⟩) hw.2 l99 p1 p2
  have b7 : 0 ≤ yL7 (s 68) ∧ yL7 (s 68) ≤ 14 := by
    have a := yc_bd (P := fun q => 2 ≤ s 68 q) 34
    have b := yc_bd (P := fun q => 1 ≤ s 68 q) 34
    have eq : yL7 (s 68) = 14 - jmin (jSum (fun q => if 2 ≤ s 68 q then 1 else 0) 34) 7 - jmin (jSum (fun q => if 1 ≤ s 68 q then 1 else 0) 34) 7 := rfl
    rw [eq]; unfold jmin; split <;> split <;> omega
  have b13 : -21 ≤ yL13 (s 68) ∧ yL13 (s 68) ≤ 14 := by
    have a := yc_bd (P := fun q => yO q ∧ 1 ≤ s 68 q) 34
    have eq : yL13 (s 68) = 13 - jSum (fun q => if yO q ∧ 1 ≤ s 68 q then (1 : Int) else 0) 34 + (if 0 < yOq (s 68) then 0 else 1) := rfl
    rw [eq]; split <;> omega
  have third : ∀ v : Int, v = (if w = 4 ∧ s 53 10 ≠ 0 ∧ yL7 (s 68) < lw then yL7 (s 68) else lw) → bX11_lackOf_32 v s = some (yLk (s 53 10) (s 53 11) w lw (s 68), s) := by
    intro v hv
    unfold bX11_lackOf_32 yLk
    rw [← hv, jLet_e, h20]
    by_cases e4 : w = 4
    · rw [if_pos (show 4 - w = 0 by omega), jLet_e]
      by_cases z : s 53 11 = 0
      · rw [if_pos z, if_neg (fun y => y.2.1 z)]; rfl
      · rw [if_neg z, zX11_lackOfOuter (h := s 68) (fun q q0 q4 => ⟨rfl, hb q q0 q4⟩), jBd_s]
        by_cases c : v ≤ yL13 (s 68)
        · rw [if_pos c, if_neg (fun y => by have := y.2.2; omega)]; rfl
        · rw [if_neg c, zX11_lackOfOuter (h := s 68) (fun q q0 q4 => ⟨rfl, hb q q0 q4⟩), jBd_s, if_pos ⟨e4, z, by omega⟩]; rfl
    · rw [if_neg (show ¬ 4 - w = 0 by omega), if_neg (fun y => e4 y.1)]; rfl
  refine ⟨_, ?_, ⟨lw, hE, rfl⟩, ?_⟩
  · unfold fX11_lackOf
    rw [e, jBd_s, jLet_e, h20]
    by_cases e4 : w = 4
    · rw [if_pos (show 4 - w = 0 by omega), jLet_e]
      by_cases z : s 53 10 = 0
      · rw [if_pos z]; exact third lw (by rw [if_neg (fun y => y.2.1 z)])
      · rw [if_neg z, zX11_lackOfSeven (h := s 68) (fun q _ _ => rfl), jBd_s]
        by_cases c : lw ≤ yL7 (s 68)
        · rw [if_pos c]; exact third lw (by rw [if_neg (fun y => by have := y.2.2; omega)])
        · rw [if_neg c, zX11_lackOfSeven (h := s 68) (fun q _ _ => rfl), jBd_s]; exact third _ (by rw [if_pos ⟨e4, z, by omega⟩])
    · rw [if_neg (show ¬ 4 - w = 0 by omega)]; exact third lw (by rw [if_neg (fun y => e4 y.1)])
  · unfold yLk
    split
    · omega
    · split <;> omega
end

/-! ===== lacks: the class's look, reckoning, change ===== -/
section
theorem yTP_L {L L' : Int → Int} {K : Int} (h : ∀ q : Int, 0 ≤ q → q < 34 → L q = L' q) : ∀ R : Nat, R ≤ 4 → ∀ (g p : Int) (n : Int → Int), yTP L K R g p n → yTP L' K R g p n := by
  intro R
  induction R with
  | zero => intro _ g p n k; exact k
  | succ R ih =>
    intro hR g p n ⟨a, b, c, d⟩
    exact ⟨a, b, ih (by omega) _ _ _ c, yRP_sh Iff.rfl _ _ _ _ _ n n (fun j hj => by
      have := yLn_r (r := (R : Int)) (by omega) (by omega) hj
      exact h _ this.1 this.2) (fun _ _ => rfl) d⟩
theorem yTC_H {H H' n : Int → Int} (h : ∀ q : Int, 0 ≤ q → q < 34 → H q = H' q) : ∀ R : Nat, R ≤ 4 → yTC H n R = yTC H' n R := by
  intro R
  induction R with
  | zero => intro _; rfl
  | succ R ih =>
    intro hR
    simp only [yTC]
    rw [ih (by omega)]
    congr 1
    unfold yCo
    exact jSum_cg (fun j hj => by
      have := yLn_r (r := (R : Int)) (by omega) (by omega) hj
      rw [h _ this.1 this.2])
theorem yPn_L {L L' : Int → Int} {w : Int} {n : Int → Int} (h : ∀ q : Int, 0 ≤ q → q < 34 → L q = L' q) : yPn L w n ↔ yPn L' w n := ⟨yTP_L h 4 (Nat.le_refl _) _ _ n, yTP_L (fun q a b => (h q a b).symm) 4 (Nat.le_refl _) _ _ n⟩
theorem yL7_cg {H H' : Int → Int} (h : ∀ q : Int, 0 ≤ q → q < 34 → H q = H' q) : yL7 H = yL7 H' ∧ yUn H = yUn H' := by
  have e1 : yPr H = yPr H' := jSum_cg (fun i hi => by rw [h i (by omega) (by omega)])
  have e2 : yUn H = yUn H' := jSum_cg (fun i hi => by rw [h i (by omega) (by omega)])
  exact ⟨by unfold yL7; rw [e1, e2], e2⟩
theorem yL13_cg {H H' : Int → Int} (h : ∀ q : Int, 0 ≤ q → q < 34 → H q = H' q) : yL13 H = yL13 H' ∧ yOq H = yOq H' := by
  have e1 : yOu H = yOu H' := jSum_cg (fun i hi => by rw [h i (by omega) (by omega)])
  have e2 : yOq H = yOq H' := jSum_cg (fun i hi => by rw [h i (by omega) (by omega)])
  exact ⟨by unfold yL13; rw [e1, e2], e2⟩
theorem yLack_cg {f7 f13 w v : Int} {H L H' L' : Int → Int} (h : ∀ q : Int, 0 ≤ q → q < 34 → H q = H' q ∧ L q = L' q) (k : yLack f7 f13 w H L v) : yLack f7 f13 w H' L' v := by
  obtain ⟨lw, k1, k2⟩ := k
  have hH : ∀ q : Int, 0 ≤ q → q < 34 → H q = H' q := fun q a b => (h q a b).1
  have hL : ∀ q : Int, 0 ≤ q → q < 34 → L q = L' q := fun q a b => (h q a b).2
  refine ⟨lw, yLE_cg (fun c => ?_) k1, by rw [k2]; unfold yLk; rw [(yL7_cg hH).1, (yL13_cg hH).1]⟩
  constructor
  · rintro ⟨n, a, b⟩; exact ⟨n, (yPn_L hL).mp a, by rw [b]; exact yTC_H hH 4 (Nat.le_refl _)⟩
  · rintro ⟨n, a, b⟩; exact ⟨n, (yPn_L hL).mpr a, by rw [b]; exact (yTC_H hH 4 (Nat.le_refl _)).symm⟩
theorem yHc_cg {f7 f13 w v q : Int} {H L H' L' : Int → Int} (h : ∀ q : Int, 0 ≤ q → q < 34 → H q = H' q ∧ L q = L' q) (q0 : 0 ≤ q) (q4 : q < 34) : yHc f7 f13 w H L v q ↔ yHc f7 f13 w H' L' v q := by
  have hH : ∀ q : Int, 0 ≤ q → q < 34 → H q = H' q := fun q a b => (h q a b).1
  have hL : ∀ q : Int, 0 ≤ q → q < 34 → L q = L' q := fun q a b => (h q a b).2
  unfold yHc yh7 yh13
  rw [(yL7_cg hH).1, (yL13_cg hH).1, (yL7_cg hH).2, (yL13_cg hH).2, hH q q0 q4]
  constructor
  · rintro (⟨n, a, b, c⟩ | k | k)
    · exact Or.inl ⟨n, (yPn_L hL).mp a, by rw [← b]; exact (yTC_H hH 4 (Nat.le_refl _)).symm, c⟩
    · exact Or.inr (Or.inl k)
    · exact Or.inr (Or.inr k)
  · rintro (⟨n, a, b, c⟩ | k | k)
    · exact Or.inl ⟨n, (yPn_L hL).mpr a, by rw [← b]; exact yTC_H hH 4 (Nat.le_refl _), c⟩
    · exact Or.inr (Or.inl k)
    · exact Or.inr (Or.inr k)
/-- the class's tables lie ready, up to a limit -/
def yTbs (lim : Nat) (w : Int) (s : jMem) : Prop := (1 ≤ lim ∧ lim ≤ 14) ∧ (0 ≤ w ∧ w ≤ 4) ∧ s 7 10 = w ∧ s 7 9 = lim ∧ (∀ q : Int, 0 ≤ q → q < 34 → 0 ≤ s 8 q ∧ s 8 q ≤ 4 ∧ 0 ≤ s 9 q ∧ s 9 q ≤ 4) ∧ yCch s
def yRwR (lim : Nat) (s : jMem) (R : Int) : Prop := ∀ g p : Int, 0 ≤ g → g ≤ 4 → 0 ≤ p → p ≤ 1 → yBst lim (yRw (s 9) R 2 g p) (fun n => yCo (s 8) R n (yLn R)) (yNd (s 8) R (yLn R)) (s 10 (10 * R + 2 * g + p))
def yAllR (lim : Nat) (w : Int) (s : jMem) : Prop := yTbs lim w s ∧ (∀ R : Int, 0 ≤ R → R < 4 → yRwR lim s R) ∧ ∃ c : Nat, c < 4 ∧ s 7 11 = c ∧ ySms lim w c (s 8) (s 9) (s 13)
theorem yAllR_fr {lim : Nat} {w : Int} {s t : jMem} (h : ∀ x : Int, 7 ≤ x → x ≤ 15 → t x = s x) (k : yAllR lim w s) : yAllR lim w t := by
  unfold yAllR yTbs yRwR yCch at k ⊢
  rw [h 7 (by decide) (by decide), h 8 (by decide) (by decide), h 9 (by decide) (by decide), h 10 (by decide) (by decide), h 13 (by decide) (by decide), h 14 (by decide) (by decide), h 15 (by decide) (by decide)]
  exact k
/-- the frame of the class's lacks -/
def fK (s t : jMem) : Prop := ∀ x : Int, ¬ (7 ≤ x ∧ x ≤ 15) → t x = s x
theorem fK_tr {s t u : jMem} (h : fK s t) (k : fK t u) : fK s u := fun x hx => by rw [k x hx, h x hx]
theorem zX3_row {s : jMem} {r w : Int} {lim : Nat} (r0 : 0 ≤ r) (r4 : r < 4) (h : yTbs lim w s) : jHo (fun _ t => (∀ x : Int, x ≠ 10 → x ≠ 11 → x ≠ 12 → x ≠ 14 → x ≠ 15 → t x = s x) ∧ (∀ y : Int, ¬ (10 * r ≤ y ∧ y < 10 * r + 10) → t 10 y = s 10 y) ∧ yTbs lim w t ∧ yRwR lim t r) (fX3_workOut r s) := by
  obtain ⟨h1, h2, h3, h4, h5, h6⟩ := h
  refine gHo_mono (zX3_workOut r0 r4 h4 h1 h5 h6) (fun _ t ht => ?_)
  obtain ⟨k1, k2, k3, k4⟩ := ht
  have e7 := k1 7 (by decide) (by decide) (by decide) (by decide) (by decide)
  have e8 := k1 8 (by decide) (by decide) (by decide) (by decide) (by decide)
  have e9 := k1 9 (by decide) (by decide) (by decide) (by decide) (by decide)
  refine ⟨k1, k2, ⟨h1, h2, by rw [e7]; exact h3, by rw [e7]; exact h4, by rw [e8, e9]; exact h5, k3⟩, ?_⟩
  unfold yRwR
  rw [e8, e9]
  exact k4
theorem yRwR_eq {s t : jMem} {lim : Nat} {R : Int} (R0 : 0 ≤ R) (R4 : R < 4) (h8 : ∀ q : Int, 0 ≤ q → q < 34 → q / 9 = R → s 8 q = t 8 q ∧ s 9 q = t 9 q) (h10 : ∀ y : Int, 10 * R ≤ y → y < 10 * R + 10 → t 10 y = s 10 y) (h : yRwR lim s R) : yRwR lim t R := by
  intro g p g0 g4 p0 p1
  rw [h10 _ (by omega) (by omega)]
  exact yBst_sh rfl Iff.rfl (fun j hj => by
    have := yLn_r R0 R4 hj
    exact h8 _ this.1 this.2 (by unfold yLn at hj; split at hj <;> omega)) (h g p g0 g4 p0 p1)
/-- the class's answer lies ready -/
def yAns (lim : Nat) (w : Int) (s : jMem) : Prop := yCl lim (s 6 0) (s 6 1) w (s 8) (s 9) (s 7 12) (s 7 13)
theorem zX3_tot {s : jMem} {lim : Nat} {w : Int} (h : yAllR lim w s) : jHo (fun _ t => (∀ x : Int, x ≠ 7 → x ≠ 13 → t x = s x) ∧ yAllR lim w t ∧ yAns lim w t) (fX3_total s) := by
  obtain ⟨⟨h1, h2, h3, h4, h5, h6⟩, h7, c, c4, h11, hs⟩ := h
  refine gHo_mono (zX3_total c4 h11 h2 h3 h4 h1.2 h5 (h7 c (by omega) (by omega)) hs) (fun _ t ht => ?_)
  obtain ⟨k1, k2, k3⟩ := ht
  have e8 := k1 8 (by decide)
  have e9 := k1 9 (by decide)
  have e6 := k1 6 (by decide)
  refine ⟨fun x hx _ => k1 x hx, ⟨⟨h1, h2, by rw [k2 10 (by decide) (by decide)]; exact h3, by rw [k2 9 (by decide) (by decide)]; exact h4, by rw [e8, e9]; exact h5, fun x x0 x1 => ?_⟩, fun R R0 R4 => yRwR_eq R0 R4 (fun q _ _ _ => by rw [e8, e9]; exact ⟨rfl, rfl⟩) (fun y _ _ => by rw [k1 10 (by decide)]) (h7 R R0 R4), c, c4, by rw [k2 11 (by decide) (by decide)]; exact h11, by rw [e8, e9, k1 13 (by decide)]; exact hs⟩, ?_⟩
  · rw [k1 14 (by decide), k1 15 (by decide)]; exact h6 x x0 x1
  · unfold yAns
    rw [e6, e8, e9]; exact k3
/-- the sums laid anew -/
theorem zX3_sums {s : jMem} {c lim : Nat} {w : Int} (hc : c < 4) (hT : yTbs lim w s) (hr : ∀ R : Int, 0 ≤ R → R < 4 → yRwR lim s R) : jHo (fun _ t => (∀ x : Int, x ≠ 7 → x ≠ 13 → t x = s x) ∧ yAllR lim w t) (fX3_addAllBut c s) := by
  obtain ⟨h1, h2, h3, h4, h5, h6⟩ := hT
  refine gHo_mono (zX3_addAllBut hc h2 h3 h4 h1.2 h5 (fun R hR _ => hr R (by omega) (by omega))) (fun _ t ht => ?_)
  obtain ⟨k1, k2, k3, k4⟩ := ht
  have e8 := k1 8 (by decide) (by decide)
  have e9 := k1 9 (by decide) (by decide)
  refine ⟨k1, ⟨h1, h2, by rw [k2 10 (by decide)]; exact h3, by rw [k2 9 (by decide)]; exact h4, by rw [e8, e9]; exact h5, fun x x0 x1 => ?_⟩, fun R R0 R4 => yRwR_eq R0 R4 (fun q _ _ _ => by rw [e8, e9]; exact ⟨rfl, rfl⟩) (fun y _ _ => by rw [k1 10 (by decide) (by decide)]) (hr R R0 R4), c, hc, k3, k4⟩
  rw [k1 14 (by decide) (by decide), k1 15 (by decide) (by decide)]; exact h6 x x0 x1
theorem zX3_look {s : jMem} {h : Int} {lim : Nat} (hl : 1 ≤ lim ∧ lim ≤ 14) (hI : iT s) (hch : yCch s) (h0 : 0 ≤ h) (h4 : h < 4) : jHo (fun _ t => (∀ x : Int, x ≠ 7 → x ≠ 8 → x ≠ 9 → t x = s x) ∧ (∀ q : Int, 0 ≤ q → q < 34 → t 8 q = vH s h q ∧ t 9 q = vL s h q) ∧ yTbs lim (4 - s 58 h) t) (fX3_look (37 + 4 * h) lim s) := by
  obtain ⟨t0, t1, t2, t3, t4, t5, t6, t7, t8, t9⟩ := jh_t h0 h4
  obtain ⟨u1, u2, u3, u4, u5, u6, u7, u8, u9⟩ := jik_t
  obtain ⟨a1, a2, a3, a4, a5, a6⟩ := hI.2.1 h h0 h4
  unfold fX3_look
  refine gHo_gd t1 (gHo_let ?_)
  rw [t2]
  refine gHo_gd ⟨by omega, by omega, by omega, by omega, by omega, by omega, by omega⟩ (gHo_nm fun s1 hs1 => gHo_let ?_)
  rw [t3]
  refine gHo_gd ⟨by omega, by omega, by omega, by omega, by omega, by omega, by omega⟩ (gHo_nm fun s2 hs2 => ?_)
  have f1 : ∀ x : Int, x ≠ 8 → s1 x = s x := fun x hx => by rw [hs1]; funext y; unfold jCp; rw [if_neg (fun z => hx z.1)]
  have f2 : ∀ x : Int, x ≠ 9 → s2 x = s1 x := fun x hx => by rw [hs2]; funext y; unfold jCp; rw [if_neg (fun z => hx z.1)]
  have e8 : ∀ q : Int, 0 ≤ q → q < 34 → s2 8 q = vH s h q := fun q q0 q4 => by
    rw [f2 8 (by decide), hs1]
    unfold jCp
    rw [if_pos (by omega), show (0 : Int) + (q - 0) = q by omega]
    exact (a1 q q0 q4).1
  have e9 : ∀ q : Int, 0 ≤ q → q < 34 → s2 9 q = vL s h q := fun q q0 q4 => by
    rw [hs2]
    unfold jCp
    rw [if_pos (by omega), show (0 : Int) + (q - 0) = q by omega, f1 _ (by omega)]
    exact (a1 q q0 q4).2.1
  have e37 : s2 (37 + 4 * h) = s (37 + 4 * h) := by rw [f2 _ (by omega), f1 _ (by omega)]
  rw [e37, a2]
  refine gHo_let (gHo_l32 (by omega) (by omega) (gHo_nm fun s3 hs3 => gHo_nm fun s4 hs4 => gHo_ret ?_))
  have f4 : ∀ x : Int, x ≠ 7 → s4 x = s2 x := fun x hx => by rw [hs4, jU_row hx, hs3, jU_row hx]
  refine ⟨fun x x1 x2 x3 => by rw [f4 x x1, f2 x x3, f1 x x2], fun q q0 q4 => ?_, hl, ⟨by omega, by omega⟩, ?_, ?_, fun q q0 q4 => ?_, fun x x0 x1 => ?_⟩
  · rw [f4 8 (by decide), f4 9 (by decide)]; exact ⟨e8 q q0 q4, e9 q q0 q4⟩
  · rw [hs4, jU_at, if_neg (by decide), hs3, jU_at, if_pos rfl]
  · rw [hs4, jU_at, if_pos rfl]
  · rw [f4 8 (by decide), f4 9 (by decide), e8 q q0 q4, e9 q q0 q4]
    exact (a1 q q0 q4).2.2
  · rw [f4 14 (by decide), f2 14 (by decide), f1 14 (by decide), f4 15 (by decide), f2 15 (by decide), f1 15 (by decide)]; exact hch x x0 x1
theorem zX3_reckon {s : jMem} {h : Int} {lim : Nat} (hl : 1 ≤ lim ∧ lim ≤ 14) (hI : iT s) (hch : yCch s) (h0 : 0 ≤ h) (h4 : h < 4) : jHo (fun _ t => fK s t ∧ (∀ q : Int, 0 ≤ q → q < 34 → t 8 q = vH s h q ∧ t 9 q = vL s h q) ∧ yAllR lim (4 - s 58 h) t ∧ yAns lim (4 - s 58 h) t) (fX3_reckon (37 + 4 * h) lim s) := by
  unfold fX3_reckon
  refine gHo_bd (zX3_look hl hI hch h0 h4) (fun _ s1 hs1 => ?_)
  obtain ⟨f1, e1, tb1⟩ := hs1
  refine gIt2 (fun r t => 0 ≤ r ∧ r ≤ 4 ∧ (∀ x : Int, x ≠ 10 → x ≠ 11 → x ≠ 12 → x ≠ 14 → x ≠ 15 → t x = s1 x) ∧ yTbs lim (4 - s 58 h) t ∧ ∀ R : Int, 0 ≤ R → R < r → yRwR lim t R) (fun r => (4 - r).toNat) ?_ 1000 0 s1 ⟨by omega, by omega, fun _ _ _ _ _ _ => rfl, tb1, fun R a b => by omega⟩ (by decide)
  rintro rec r t ⟨r0, r4, fr, tb, rows⟩ ih
  unfold bX3_reckon_8
  refine gHo_if (fun e => ?_) (fun e => ?_)
  · refine gHo_bd (zX3_sums (c := 3) (by decide) tb (fun R R0 R4 => rows R R0 (by omega))) (fun _ t1 ht1 => ?_)
    obtain ⟨m1, m2⟩ := ht1
    refine gHo_bd (zX3_tot m2) (fun _ t2 ht2 => gHo_ret ?_)
    obtain ⟨k1, k2, k3⟩ := ht2
    refine ⟨fun x hx => by rw [k1 x (by omega) (by omega), m1 x (by omega) (by omega), fr x (by omega) (by omega) (by omega) (by omega) (by omega), f1 x (by omega) (by omega) (by omega)], fun q q0 q4 => ?_, k2, k3⟩
    rw [k1 8 (by decide) (by decide), k1 9 (by decide) (by decide), m1 8 (by decide) (by decide), m1 9 (by decide) (by decide), fr 8 (by decide) (by decide) (by decide) (by decide) (by decide), fr 9 (by decide) (by decide) (by decide) (by decide) (by decide)]
    exact e1 q q0 q4
  · refine gHo_bd (zX3_row r0 (by omega) tb) (fun _ t2 ht2 => ?_)
    obtain ⟨k1, k2, k3, k4⟩ := ht2
    refine gHo_l32 (by omega) (by omega) (ih _ _ ⟨by omega, by omega, fun x x1 x2 x3 x4 x5 => by rw [k1 x x1 x2 x3 x4 x5, fr x x1 x2 x3 x4 x5], k3, fun R R0 R4 => ?_⟩ (by omega))
    by_cases eR : R = r
    · subst eR; exact k4
    · exact yRwR_eq R0 (by omega) (fun q _ _ _ => by rw [k1 8 (by decide) (by decide) (by decide) (by decide) (by decide), k1 9 (by decide) (by decide) (by decide) (by decide) (by decide)]; exact ⟨rfl, rfl⟩) (fun y y0 y1 => k2 y (by omega)) (rows R R0 (by omega))
theorem zX3_change {s : jMem} {x d w : Int} {lim : Nat} (x0 : 0 ≤ x) (x4 : x < 34) (hd : 0 ≤ s 8 x + d ∧ s 8 x + d ≤ 4) (hdb : -10 ≤ d ∧ d ≤ 10) (h : yAllR lim w s) : jHo (fun _ t => (∀ y : Int, y = 9 ∨ ¬ (7 ≤ y ∧ y ≤ 15) → t y = s y) ∧ t 8 = yUp (s 8) x (s 8 x + d) ∧ yAllR lim w t) (fX3_change x d s) := by
  obtain ⟨u1, u2, u3, u4, u5, u6, u7, u8, u9⟩ := jik_t
  obtain ⟨⟨h1, h2, h3, h4, h5, h6⟩, h7, c, c4, h11, hs⟩ := h
  have hx := h5 x x0 x4
  unfold fX3_change
  rw [zX8_rowOf x0 (by omega), jBd_s]
  refine gHo_gd ⟨x0, by omega⟩ (gHo_let (gHo_l32 (by omega) (by omega) (gHo_gd ⟨x0, by omega⟩ (gHo_nm fun s1 hs1 => ?_))))
  have e8 : s1 8 = yUp (s 8) x (s 8 x + d) := by
    rw [hs1]; funext y
    rw [jU_at]
    unfold yUp
    rfl
  have f1 : ∀ y : Int, y ≠ 8 → s1 y = s y := fun y hy => by rw [hs1, jU_row hy]
  have tb1 : yTbs lim w s1 := by
    refine ⟨h1, h2, by rw [f1 7 (by decide)]; exact h3, by rw [f1 7 (by decide)]; exact h4, fun q q0 q4 => ?_, fun y y0 y1 => ?_⟩
    · rw [e8, f1 9 (by decide)]
      have := h5 q q0 q4
      by_cases e : q = x
      · subst e; rw [yUp_at]; omega
      · rw [yUp_o e]; exact this
    · rw [f1 14 (by decide), f1 15 (by decide)]; exact h6 y y0 y1
  refine gHo_bd (zX3_row (r := x / 9) (by omega) (by omega) tb1) (fun _ t ht => ?_)
  obtain ⟨k1, k2, k3, k4⟩ := ht
  have t8 := k1 8 (by decide) (by decide) (by decide) (by decide) (by decide)
  have t9 := k1 9 (by decide) (by decide) (by decide) (by decide) (by decide)
  have t7 := k1 7 (by decide) (by decide) (by decide) (by decide) (by decide)
  have t13 := k1 13 (by decide) (by decide) (by decide) (by decide) (by decide)
  have rows : ∀ R : Int, 0 ≤ R → R < 4 → yRwR lim t R := fun R R0 R4 => by
    by_cases eR : R = x / 9
    · subst eR; exact k4
    · refine yRwR_eq R0 R4 (fun q q0 q4 qR => ?_) (fun y y0 y1 => ?_) (h7 R R0 R4)
      · rw [t8, t9, e8, f1 9 (by decide), yUp_o (by rintro rfl; exact eR qR.symm)]; exact ⟨rfl, rfl⟩
      · rw [k2 y (by omega), f1 10 (by decide)]
  refine gHo_let ?_
  rw [t7, f1 7 (by decide), h11]
  refine gHo_if (fun e => gHo_ret ⟨fun y hy => by rw [k1 y (by omega) (by omega) (by omega) (by omega) (by omega), f1 y (by omega)], by rw [t8, e8], k3, rows, c, c4, by rw [t7, f1 7 (by decide)]; exact h11, ?_⟩) (fun e => ?_)
  · rw [t8, t9, t13, e8, f1 9 (by decide), f1 13 (by decide)]
    exact ySms_ch c4 e hs
  · rw [show x / 9 = (((x / 9).toNat : Nat) : Int) by omega]
    refine gHo_bd (zX3_sums (c := (x / 9).toNat) (by omega) k3 rows) (fun _ t2 ht2 => gHo_ret ?_)
    obtain ⟨m1, m2⟩ := ht2
    refine ⟨fun y hy => by rw [m1 y (by omega) (by omega), k1 y (by omega) (by omega) (by omega) (by omega) (by omega), f1 y (by omega)], by rw [m1 8 (by decide) (by decide), t8, e8], m2⟩
/-- the helpers' bits -/
theorem zX3_isHelper {s : jMem} {q : Nat} {B : Nat} (hB : B < 2 ^ 34) (h12 : s 7 13 = B) (hq : q < 34) : fX3_isHelper q s = some (jb (B.testBit q = true), s) := by
  have p62 : (2 : Nat) ^ 34 < 2 ^ 62 := by decide
  have dl : B / 2 ^ q ≤ B := Nat.div_le_self _ _
  unfold fX3_isHelper
  rw [jLet_e, h12, jLet_e, jshrl_n (by omega) (by omega), jLet_e]
  have an := jandl_n (x := B / 2 ^ q) (y := 1) (by omega) (by decide)
  rw [show ((1 : Nat) : Int) = 1 from rfl] at an
  rw [an, Nat.and_one_is_mod, jLet_e]
  have tb : B.testBit q = decide (B / 2 ^ q % 2 = 1) := Nat.testBit_eq_decide_div_mod_eq
  by_cases e : B / 2 ^ q % 2 = 1
  · have : jcmp ((B / 2 ^ q % 2 : Nat) : Int) 1 = 0 := by rw [e]; decide
    rw [this, if_pos rfl, jb_1 (by rw [tb]; simpa using e)]
    rfl
  · have e0 : B / 2 ^ q % 2 = 0 := by omega
    have : jcmp ((B / 2 ^ q % 2 : Nat) : Int) 1 = -1 := by rw [e0]; decide
    rw [this, if_neg (by decide), jb_0 (by rw [tb]; simpa using e)]
    rfl
theorem zX3_helper {s : jMem} {i : Int} {B : Nat} (hi : 0 ≤ i ∧ i < 2147483648) (hB : B < 2 ^ 34) (h12 : s 7 13 = B) {b : Int → Int} (hb : ∀ q : Nat, q < 34 → (b q = 0 ↔ ¬ B.testBit q = true)) : fX3_helper i s = some (yNt b 34 0 i, s) := by
  obtain ⟨R, hR⟩ : ∃ R, R = yNt b 34 0 i := ⟨_, rfl⟩
  rw [← hR]
  have main : jHo (fun v t => v = R ∧ t = s) (fX3_helper i s) := by
    unfold fX3_helper
    refine gIt3 (fun l q t => t = s ∧ 0 ≤ q ∧ q ≤ 34 ∧ 0 ≤ l ∧ l ≤ i ∧ ∀ n : Nat, n = (34 - q).toNat → yNt b n q l = R) (fun _ q => (34 - q).toNat) ?_ 1000 i 0 s ⟨rfl, by omega, by omega, by omega, by omega, fun n hn => by rw [hR, show n = 34 by omega]⟩ (by decide)
    rintro rec l q t ⟨rfl, q0, q4, l0, l1, hn⟩ ih
    unfold bX3_helper_4
    refine gHo_if (fun c => ?_) (fun c => ?_)
    · have : q = 34 := by omega
      subst this
      exact gHo_ret ⟨hn 0 (by decide), rfl⟩
    · have st := hn ((34 - (q + 1)).toNat + 1) (by omega)
      rw [yNt_s] at st
      have eq : q = ((q.toNat : Nat) : Int) := by omega
      have hbq := hb q.toNat (by omega)
      rw [← eq] at hbq
      have hi := zX3_isHelper (q := q.toNat) hB h12 (by omega)
      rw [← eq] at hi
      rw [hi, jBd_s]
      by_cases z : b q = 0
      · rw [if_pos z] at st
        rw [jb_0 (hbq.mp z), if_pos (show (0 : Int) = 0 from rfl)]
        unfold bX3_helper_27
        exact gHo_l32 (by omega) (by omega) (ih _ _ _ ⟨rfl, by omega, by omega, by omega, by omega, fun n hn => by rw [hn]; exact st⟩ (by omega))
      · rw [if_neg z] at st
        have tt : B.testBit q.toNat = true := by
          cases e : B.testBit q.toNat with
          | true => rfl
          | false => exact absurd (hbq.mpr (by rw [e]; decide)) z
        rw [jb_1 tt, if_neg (show ¬ (1 : Int) = 0 by decide)]
        refine gHo_if (fun z2 => ?_) (fun z2 => ?_)
        · rw [if_pos z2] at st
          exact gHo_ret ⟨st, rfl⟩
        · rw [if_neg z2] at st
          unfold bX3_helper_27
          refine gHo_l32 (by omega) (by omega) (gHo_l32 (by omega) (by omega) (ih _ _ _ ⟨rfl, by omega, by omega, by omega, by omega, fun n hn => ?_⟩ (by omega)))
          rw [hn, show l + -1 = l - 1 by omega]; exact st
  obtain ⟨v, t, e, rfl, rfl⟩ := main
  exact e
theorem zX3_helpingOf {s : jMem} {r : Int} {B : Nat} (hB : B < 2 ^ 34) (h12 : s 7 13 = B) (hk : jik r = 34) {u : Int → Int} (hu : ∀ q : Int, 0 ≤ q → q < 34 → s r q = u q ∧ 0 ≤ u q ∧ u q ≤ 1000) {b : Int → Int} (hb : ∀ q : Nat, q < 34 → (b q = 0 ↔ ¬ B.testBit q = true)) : fX3_helpingOf r s = some (jSum (fun q => if b q = 0 then 0 else u q) 34, s) := by
  have main : jHo (fun v t => v = jSum (fun q => if b q = 0 then 0 else u q) 34 ∧ t = s) (fX3_helpingOf r s) := by
    unfold fX3_helpingOf
    refine gIt4 (fun a1 a2 a3 t => a1 = r ∧ t = s ∧ ∃ n : Nat, a3 = n ∧ n ≤ 34 ∧ a2 = jSum (fun q => if b q = 0 then 0 else u q) n ∧ 0 ≤ a2 ∧ a2 ≤ 1000 * (n : Int)) (fun _ _ a3 => (34 - a3).toNat) ?_ 1000 r 0 0 s ⟨rfl, rfl, 0, rfl, by omega, rfl, by omega, by omega⟩ (by decide)
    rintro rec a1 a2 a3 t ⟨rfl, rfl, n, rfl, hn, ha, a0, a4⟩ ih
    unfold bX3_helpingOf_4
    refine gHo_if (fun c => ?_) (fun c => ?_)
    · have : n = 34 := by omega
      subst this
      exact gHo_ret ⟨ha, rfl⟩
    · have hu' := hu n (by omega) (by omega)
      rw [zX3_isHelper hB h12 (by omega), jBd_s]
      have hbq := hb n (by omega)
      by_cases z : b n = 0
      · rw [jb_0 (hbq.mp z), if_pos (show (0 : Int) = 0 from rfl)]
        unfold bX3_helpingOf_24
        refine gHo_l32 (by omega) (by omega) (ih _ _ _ _ ⟨rfl, rfl, n + 1, by omega, by omega, ?_, by omega, by omega⟩ (by omega))
        simp only [jSum]
        rw [if_pos z, ← ha]; omega
      · have tt : B.testBit n = true := by
          cases e : B.testBit n with
          | true => rfl
          | false => exact absurd (hbq.mpr (by rw [e]; decide)) z
        rw [jb_1 tt, if_neg (show ¬ (1 : Int) = 0 by decide)]
        refine gHo_gd ⟨by omega, by omega⟩ (gHo_let ?_)
        rw [hu'.1]
        unfold bX3_helpingOf_24
        refine gHo_l32 (by omega) (by omega) (gHo_l32 (by omega) (by omega) (ih _ _ _ _ ⟨rfl, rfl, n + 1, by omega, by omega, ?_, by omega, by omega⟩ (by omega)))
        simp only [jSum]
        rw [if_neg z, ← ha]
  obtain ⟨v, t, e, rfl, rfl⟩ := main
  exact e
end

/-! ===== best ===== -/
section
/-- what a tile less comes to: the lack, what helps -/
def yFm (f7 f13 w : Int) (H L u f m : Int → Int) : Prop := ∀ q : Int, 0 ≤ q → q < 34 → 1 ≤ H q → yLack f7 f13 w (yUp H q (H q + -1)) L (f q) ∧ (1 ≤ f q ∧ f q ≤ 14) ∧ 0 ≤ m q ∧ ∃ b : Int → Int, m q = jSum (fun p => if b p = 0 then 0 else u p) 34 ∧ ∀ p : Int, 0 ≤ p → p < 34 → (b p = 1 ∨ b p = 0) ∧ (b p = 1 ↔ yHc f7 f13 w (yUp H q (H q + -1)) L (f q) p)
theorem yFm_ex {s : jMem} {h f7 f13 : Int} (hI : iT s) (h0 : 0 ≤ h) (h4 : h < 4) (hs : jSum (vH s h) 34 + 3 * s 58 h = 14) : ∃ f m, yFm f7 f13 (4 - s 58 h) (vH s h) (vL s h) (vU s h) f m := by
  have hv : ∀ q : Int, ∃ v : Int, yLack f7 f13 (4 - s 58 h) (yUp (vH s h) q (vH s h q + -1)) (vL s h) v := fun q => by
    obtain ⟨lw, hlw⟩ := yLE_ex (S := fun c => ∃ n, yPn (vL s h) (4 - s 58 h) n ∧ c = yTC (yUp (vH s h) q (vH s h q + -1)) n 4) (fun c ⟨n, _, hc⟩ => by rw [hc]; exact yTC_nn 4)
    exact ⟨_, lw, hlw, rfl⟩
  obtain ⟨f, hf⟩ := Classical.axiomOfChoice hv
  have hb : ∀ q : Int, ∃ b : Int → Int, ∀ p : Int, (b p = 1 ∨ b p = 0) ∧ (b p = 1 ↔ yHc f7 f13 (4 - s 58 h) (yUp (vH s h) q (vH s h q + -1)) (vL s h) (f q) p) := fun q => by
    have hp : ∀ p : Int, ∃ x : Int, (x = 1 ∨ x = 0) ∧ (x = 1 ↔ yHc f7 f13 (4 - s 58 h) (yUp (vH s h) q (vH s h q + -1)) (vL s h) (f q) p) := fun p => by
      rcases Classical.em (yHc f7 f13 (4 - s 58 h) (yUp (vH s h) q (vH s h q + -1)) (vL s h) (f q) p) with c | c
      · exact ⟨1, Or.inl rfl, fun _ => c, fun _ => rfl⟩
      · exact ⟨0, Or.inr rfl, fun z => absurd z (by decide), fun z => absurd z c⟩
    exact Classical.axiomOfChoice hp
  obtain ⟨b, hb⟩ := Classical.axiomOfChoice hb
  refine ⟨f, fun q => jSum (fun p => if b q p = 0 then 0 else vU s h p) 34, fun q q0 q4 h1 => ⟨hf q, iT_less hI h0 h4 q0 q4 h1 hs (hf q), ?_, b q, rfl, fun p _ _ => hb q p⟩⟩
  have := jSum_le (f := fun _ => 0) (g := fun p => if b q p = 0 then 0 else vU s h p) (n := 34) (fun i hi => by
    have := (iT_U hI h0 h4 (q := (i : Int)) (by omega) (by omega)).1
    split <;> omega)
  rw [jSum_0] at this
  exact this
/-- the first that has most among those with the lack l, of the sorts below i -/
def yIc (H f m : Int → Int) (l : Int) (i : Nat) (b x : Int) : Prop := (b = -3 ∧ x = -1 ∧ ∀ q : Int, 0 ≤ q → q < i → ¬ (1 ≤ H q ∧ f q = l)) ∨ ((0 ≤ b ∧ b < i) ∧ 1 ≤ H b ∧ f b = l ∧ x = m b ∧ ∀ q : Int, 0 ≤ q → q < i → 1 ≤ H q → f q = l → m q ≤ m b ∧ (q < b → m q < m b))
theorem yIc_skip {H f m : Int → Int} {l b x : Int} {i : Nat} (h : yIc H f m l i b x) (k : ¬ (1 ≤ H i ∧ f i = l)) : yIc H f m l (i + 1) b x := by
  rcases h with ⟨h1, h2, h3⟩ | ⟨h1, h2, h3, h4, h5⟩
  · refine Or.inl ⟨h1, h2, fun q q0 q1 => ?_⟩
    by_cases e : q = i
    · subst e; exact k
    · exact h3 q q0 (by omega)
  · refine Or.inr ⟨by omega, h2, h3, h4, fun q q0 q1 a c => ?_⟩
    by_cases e : q = i
    · subst e; exact absurd ⟨a, c⟩ k
    · exact h5 q q0 (by omega) a c
theorem yIc_keep {H f m : Int → Int} {l b x : Int} {i : Nat} (h : yIc H f m l i b x) (k : 0 ≤ m i) (k2 : m i ≤ x) : yIc H f m l (i + 1) b x := by
  rcases h with ⟨h1, h2, h3⟩ | ⟨h1, h2, h3, h4, h5⟩
  · omega
  · refine Or.inr ⟨by omega, h2, h3, h4, fun q q0 q1 a c => ?_⟩
    by_cases e : q = i
    · subst e; exact ⟨by omega, fun z => by omega⟩
    · exact h5 q q0 (by omega) a c
theorem yIc_take {H f m : Int → Int} {l b x : Int} {i : Nat} (h : yIc H f m l i b x) (k : 1 ≤ H i) (k1 : f i = l) (k2 : x < m i) : yIc H f m l (i + 1) i (m i) := by
  refine Or.inr ⟨by omega, k, k1, rfl, fun q q0 q1 a c => ?_⟩
  by_cases e : q = i
  · subst e; exact ⟨Int.le_refl _, fun z => by omega⟩
  · rcases h with ⟨h1, h2, h3⟩ | ⟨h1, h2, h3, h4, h5⟩
    · exact absurd ⟨a, c⟩ (h3 q q0 (by omega))
    · have := (h5 q q0 (by omega) a c).1
      exact ⟨by omega, fun z => by omega⟩
/-- the same with the least lack so far -/
def yIr (H f m : Int → Int) (i : Nat) (b l x : Int) : Prop := (b = -3 ∧ l = 99 ∧ x = -1 ∧ ∀ q : Int, 0 ≤ q → q < i → ¬ 1 ≤ H q) ∨ ((0 ≤ b ∧ b < i) ∧ 1 ≤ H b ∧ l = f b ∧ x = m b ∧ ∀ q : Int, 0 ≤ q → q < i → 1 ≤ H q → f b ≤ f q ∧ (f q = f b → m q ≤ m b ∧ (q < b → m q < m b)))
theorem yIr_skip {H f m : Int → Int} {l b x : Int} {i : Nat} (h : yIr H f m i b l x) (k : ¬ 1 ≤ H i ∨ l < f i ∨ (l = f i ∧ m i ≤ x)) (k99 : f i ≤ 98) (k0 : 0 ≤ m i ∨ ¬ 1 ≤ H i) : yIr H f m (i + 1) b l x := by
  rcases h with ⟨h1, h2, h3, h4⟩ | ⟨h1, h2, h3, h4, h5⟩
  · refine Or.inl ⟨h1, h2, h3, fun q q0 q1 => ?_⟩
    by_cases e : q = i
    · subst e; omega
    · exact h4 q q0 (by omega)
  · refine Or.inr ⟨by omega, h2, h3, h4, fun q q0 q1 a => ?_⟩
    by_cases e : q = i
    · subst e; exact ⟨by omega, fun z => ⟨by omega, fun z => by omega⟩⟩
    · exact h5 q q0 (by omega) a
theorem yIr_take {H f m : Int → Int} {l b x : Int} {i : Nat} (h : yIr H f m i b l x) (k : 1 ≤ H i) (k2 : f i < l ∨ (f i = l ∧ x < m i)) : yIr H f m (i + 1) i (f i) (m i) := by
  refine Or.inr ⟨by omega, k, rfl, rfl, fun q q0 q1 a => ?_⟩
  by_cases e : q = i
  · subst e; exact ⟨Int.le_refl _, fun _ => ⟨Int.le_refl _, fun z => by omega⟩⟩
  · rcases h with ⟨h1, h2, h3, h4⟩ | ⟨h1, h2, h3, h4, h5⟩
    · exact absurd a (h4 q q0 (by omega))
    · obtain ⟨a1, a2⟩ := h5 q q0 (by omega) a
      refine ⟨by omega, fun z => ?_⟩
      have := (a2 (by omega)).1
      exact ⟨by omega, fun z => by omega⟩
theorem yIcr {H f m : Int → Int} {l l' b b' x x' : Int} (h : yIc H f m l 34 b x) (k : yIr H f m 34 b' l' x') (e1 : ∃ q : Int, 0 ≤ q ∧ q < 34 ∧ 1 ≤ H q ∧ f q = l) (e2 : ∀ q : Int, 0 ≤ q → q < 34 → 1 ≤ H q → l ≤ f q) : b = b' := by
  obtain ⟨q, q0, q4, q1, q2⟩ := e1
  rcases h with ⟨h1, h2, h3⟩ | ⟨h1, h2, h3, h4, h5⟩
  · exact absurd ⟨q1, q2⟩ (h3 q q0 (by omega))
  · rcases k with ⟨k1, k2, k3, k4⟩ | ⟨k1, k2, k3, k4, k5⟩
    · exact absurd q1 (k4 q q0 (by omega))
    · have a := (k5 q q0 (by omega) q1).1
      have c := e2 b' k1.1 (by omega) k2
      have ef : f b' = l := by omega
      have p1 := h5 b' k1.1 k1.2 k2 ef
      have p2 := (k5 b h1.1 h1.2 h2).2 (by omega)
      by_cases z : b < b'
      · have := p2.2 z; omega
      · by_cases z2 : b' < b
        · have := p1.2 z2; omega
        · omega
/-- a tile less and what helps then, the class -/
theorem zX10_less {t : jMem} {lim : Nat} {w f7 f13 q : Int} {H L u f m : Int → Int} (hfm : yFm f7 f13 w H L u f m) (hr : yAllR lim w t) (e7 : t 6 0 = f7) (e13 : t 6 1 = f13) (hq : ∀ p : Int, 0 ≤ p → p < 34 → t 8 p = H p ∧ t 9 p = L p) (hu : ∀ p : Int, 0 ≤ p → p < 34 → t 5 p = u p ∧ 0 ≤ u p ∧ u p ≤ 1000) (q0 : 0 ≤ q) (q4 : q < 34) (h1 : 1 ≤ H q) {P : Int → jMem → Prop} {K : jMem → jO} (hK : ∀ z : jMem, (∀ x : Int, ¬ (7 ≤ x ∧ x ≤ 15) → z x = t x) → z 8 = yUp (t 8) q (t 8 q + -1) → z 9 = t 9 → yAllR lim w z → (f q ≤ lim → z 7 12 = f q ∧ fX3_helpingOf 5 z = some (m q, z)) → ((lim : Int) < f q → (lim : Int) < z 7 12) → jHo P (K z)) : jHo P (jBd (fX3_change q (-1) t) fun _ s11 => jBd (fX3_total s11) fun _ z => K z) := by
  have tq := hq q q0 q4
  have b8 := hr.1.2.2.2.2.1 q q0 q4
  refine gHo_bd (zX3_change (d := -1) q0 q4 (by omega) (by omega) hr) (fun _ t2 ht2 => ?_)
  obtain ⟨m1, m2, m3⟩ := ht2
  refine gHo_bd (zX3_tot m3) (fun _ t3 ht3 => ?_)
  obtain ⟨n1, n2, n3⟩ := ht3
  have fr : ∀ x : Int, ¬ (7 ≤ x ∧ x ≤ 15) → t3 x = t x := fun x hx => by rw [n1 x (by omega) (by omega), m1 x (by omega)]
  have e8 : t3 8 = yUp (t 8) q (t 8 q + -1) := by rw [n1 8 (by decide) (by decide), m2]
  have e9 : t3 9 = t 9 := by rw [n1 9 (by decide) (by decide), m1 9 (by decide)]
  have hq3 : ∀ p : Int, 0 ≤ p → p < 34 → t3 8 p = yUp H q (H q + -1) p ∧ t3 9 p = L p := fun p p0 p4 => ⟨by rw [e8]; exact yUp_cg q0 q4 (fun p p0 p4 => (hq p p0 p4).1) p p0 p4, by rw [e9]; exact (hq p p0 p4).2⟩
  obtain ⟨yl, bd, m0, b, hm, hb⟩ := hfm q q0 q4 h1
  have e7' : t3 6 0 = f7 := by rw [fr 6 (by decide)]; exact e7
  have e13' : t3 6 1 = f13 := by rw [fr 6 (by decide)]; exact e13
  refine hK t3 fr e8 e9 n2 (fun z => ?_) (yAns_v n3 e7' e13' hq3 yl).2
  have := yHelp_same (u := u) (u' := u) n3 e7' e13' hq3 (fun p _ _ => ⟨rfl, rfl⟩) yl z hb (fun p p0 p4 => by rw [fr 5 (by decide)]; exact hu p p0 p4) (fun _ _ _ => rfl)
  rw [← hm] at this
  exact this
/-- and back again -/
theorem zX10_back {t z : jMem} {lim : Nat} {w q : Int} {H : Int → Int} (hr : yAllR lim w z) (e8 : z 8 = yUp (t 8) q (t 8 q + -1)) (b8 : 0 ≤ t 8 q ∧ t 8 q ≤ 4) (q0 : 0 ≤ q) (q4 : q < 34) : jHo (fun _ y => (∀ x : Int, ¬ (7 ≤ x ∧ x ≤ 15) → y x = z x) ∧ y 8 = t 8 ∧ y 9 = z 9 ∧ yAllR lim w y) (fX3_change q 1 z) := by
  have zq : z 8 q = t 8 q + -1 := by rw [e8, yUp_at]
  refine gHo_mono (zX3_change (d := 1) q0 q4 (by omega) (by omega) hr) (fun _ y hy => ?_)
  obtain ⟨m1, m2, m3⟩ := hy
  refine ⟨fun x hx => m1 x (by omega), ?_, m1 9 (by decide), m3⟩
  rw [m2, e8, yUp_back]
end

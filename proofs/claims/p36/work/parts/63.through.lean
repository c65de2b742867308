/-! ===== lacks: the class's table ===== -/
section
/-- the best of a set of plans, up to a limit: the fewest tiles, and the sorts of all that have them -/
def yBst (lim : Nat) (P : (Int → Int) → Prop) (C : (Int → Int) → Int) (N : (Int → Int) → Nat → Prop) (v : Int) : Prop := ∃ T m : Nat, yVl v T m ∧ ((T = 64 ∧ m = 0 ∧ ∀ n, P n → (lim : Int) < C n) ∨ (T ≤ lim ∧ (∃ n, P n ∧ C n = (T : Int)) ∧ (∀ n, P n → (T : Int) ≤ C n) ∧ ∀ j : Nat, m.testBit j = true ↔ ∃ n, P n ∧ C n = (T : Int) ∧ N n j))
/-- what may stand in a cell on the way -/
def yGd (lim : Nat) (P : (Int → Int) → Prop) (C : (Int → Int) → Int) (N : (Int → Int) → Nat → Prop) (T m : Nat) : Prop := (T = 64 ∧ m = 0) ∨ (T ≤ lim ∧ (∃ n, P n ∧ C n = (T : Int)) ∧ ∀ j : Nat, m.testBit j = true → ∃ n, P n ∧ C n = (T : Int) ∧ N n j)
theorem yGd_or {lim : Nat} {P : (Int → Int) → Prop} {C : (Int → Int) → Int} {N : (Int → Int) → Nat → Prop} (h64 : lim < 64) {T a b : Nat} (h : yGd lim P C N T a) (k : yGd lim P C N T b) : yGd lim P C N T (a ||| b) := by
  rcases h with ⟨h1, h2⟩ | ⟨h1, h2, h3⟩
  · rcases k with ⟨k1, k2⟩ | ⟨k1, k2, k3⟩
    · subst h2 k2; exact Or.inl ⟨h1, rfl⟩
    · omega
  · rcases k with ⟨k1, k2⟩ | ⟨k1, k2, k3⟩
    · omega
    · refine Or.inr ⟨h1, h2, fun j hj => ?_⟩
      rw [Nat.testBit_or, Bool.or_eq_true] at hj
      rcases hj with hj | hj
      · exact h3 j hj
      · exact k3 j hj
/-- from a good cell that covers every plan to the best -/
theorem yBst_i {lim : Nat} {P : (Int → Int) → Prop} {C : (Int → Int) → Int} {N : (Int → Int) → Nat → Prop} {v : Int} {T m : Nat} (h64 : lim < 64) (hv : yVl v T m) (hg : yGd lim P C N T m) (hc : ∀ n, P n → C n ≤ (lim : Int) → (T : Int) ≤ C n ∧ ((T : Int) = C n → ∀ j : Nat, N n j → m.testBit j = true)) : yBst lim P C N v := by
  refine ⟨T, m, hv, ?_⟩
  rcases hg with ⟨h1, h2⟩ | ⟨h1, h2, h3⟩
  · refine Or.inl ⟨h1, h2, fun n hn => ?_⟩
    by_cases e : C n ≤ (lim : Int)
    · have := (hc n hn e).1; omega
    · omega
  · refine Or.inr ⟨h1, h2, fun n hn => ?_, fun j => ⟨h3 j, fun ⟨n, a, b, c⟩ => (hc n a (by omega)).2 b.symm j c⟩⟩
    by_cases e : C n ≤ (lim : Int)
    · exact (hc n hn e).1
    · omega
theorem yBst_cg {lim : Nat} {P Q : (Int → Int) → Prop} {C D : (Int → Int) → Int} {N M : (Int → Int) → Nat → Prop} {v : Int} (h : ∀ n, P n ↔ Q n) (hC : ∀ n, C n = D n) (hN : ∀ n j, N n j ↔ M n j) (k : yBst lim P C N v) : yBst lim Q D M v := by
  obtain ⟨T, m, hv, k⟩ := k
  refine ⟨T, m, hv, ?_⟩
  rcases k with ⟨a, b, c⟩ | ⟨a, ⟨n, b1, b2⟩, c, d⟩
  · exact Or.inl ⟨a, b, fun n hn => by rw [← hC]; exact c n ((h n).mpr hn)⟩
  · refine Or.inr ⟨a, ⟨n, (h n).mp b1, by rw [← hC]; exact b2⟩, fun n hn => by rw [← hC]; exact c n ((h n).mpr hn), fun j => ?_⟩
    rw [d j]
    exact ⟨fun ⟨n, a, b, c⟩ => ⟨n, (h n).mp a, by rw [← hC]; exact b, (hN n j).mp c⟩, fun ⟨n, a, b, c⟩ => ⟨n, (h n).mpr a, by rw [hC]; exact b, (hN n j).mpr c⟩⟩
def yNd (H : Int → Int) (r : Int) (i : Nat) (n : Int → Int) (j : Nat) : Prop := j < i ∧ H (9 * r + j) < n (9 * r + j)
def yTbC (H L : Int → Int) (r : Int) (lim i : Nat) (U : Int → Int) : Prop := ∀ a b g p : Int, 0 ≤ a → a ≤ 2 → 0 ≤ b → b ≤ 2 → 0 ≤ g → g ≤ 4 → 0 ≤ p → p ≤ 1 → yBst lim (yRP L r 2 i a b g p) (fun n => yCo H r n i) (yNd H r i) (U (10 * (3 * a + b) + 2 * g + p))
/-- what a cell behind i places may have -/
def yGc (H L : Int → Int) (r : Int) (lim i : Nat) (y : Int) (T m : Nat) : Prop := yGd lim (yRP L r 2 i (y / 30) (y / 10 % 3) (y % 10 / 2) (y % 2)) (fun n => yCo H r n i) (yNd H r i) T m
theorem yBn_t {i j : Nat} {u h : Int} : (yBn i u h).testBit j = true ↔ h < u ∧ j = i := by
  unfold yBn yMx
  by_cases e : 0 < u - h
  · rw [if_pos e, if_pos e, Nat.testBit_two_pow]
    simp; omega
  · rw [if_neg e, if_neg (by omega), Nat.zero_testBit]
    simp; omega
theorem yDec {x b w : Int} (hx : 0 ≤ x ∧ x ≤ 2) (hb : 0 ≤ b ∧ b ≤ 2) (hw : 0 ≤ w ∧ w < 10) : (10 * (3 * x + b) + w) / 30 = x ∧ (10 * (3 * x + b) + w) / 10 % 3 = b ∧ (10 * (3 * x + b) + w) % 10 / 2 = w / 2 ∧ (10 * (3 * x + b) + w) % 2 = w % 2 := by omega
/-- a contribution is good -/
theorem yGc_on {H L : Int → Int} {r : Int} {lim i : Nat} {U : Int → Int} {b c lane m x e : Int} {T0 m0 : Nat} (h64 : lim < 64) (hm : m = if r < 3 ∧ i < 7 then 2 else 0) (hb : 0 ≤ b ∧ b ≤ 2) (hc : 0 ≤ c ∧ c ≤ 2) (hl : 0 ≤ lane ∧ lane < 10) (hT : yTbC H L r lim i U) (hv : yVl (U (10 * (3 * b + c) + lane)) T0 m0) (hn : T0 ≠ 64) (al : yAc b c lane m (L (9 * r + i)) x e) (hle : T0 + (yMx (yUse2 b c x e - H (9 * r + i))).toNat ≤ lim) : yGc H L r lim (i + 1) (yTc b lane x e) (T0 + (yMx (yUse2 b c x e - H (9 * r + i))).toNat) (m0 ||| yBn i (yUse2 b c x e) (H (9 * r + i))) := by
  obtain ⟨k1, k2, k3, k4, k5, k6, k7⟩ := al
  have mb : 0 ≤ m ∧ m ≤ 2 := by rw [hm]; split <;> omega
  have tb := hT b c (lane / 2) (lane % 2) hb.1 hb.2 hc.1 hc.2 (by omega) (by omega) (by omega) (by omega)
  rw [show 10 * (3 * b + c) + 2 * (lane / 2) + lane % 2 = 10 * (3 * b + c) + lane by omega] at tb
  obtain ⟨T, m', hv', tb⟩ := tb
  obtain ⟨rfl, rfl⟩ := yVl_u hv hv'
  obtain ⟨t, ht⟩ : ∃ t : Int, t = if e = 2 then 1 else 0 := ⟨_, rfl⟩
  obtain ⟨q, hq⟩ : ∃ q : Int, q = if e = 1 then 1 else 0 := ⟨_, rfl⟩
  have tq : (e = 0 ∧ t = 0 ∧ q = 0) ∨ (e = 1 ∧ t = 0 ∧ q = 1) ∨ (e = 2 ∧ t = 1 ∧ q = 0) := by
    rcases (by omega : e = 0 ∨ e = 1 ∨ e = 2) with rfl | rfl | rfl
    · exact Or.inl ⟨rfl, by rw [ht]; rfl, by rw [hq]; rfl⟩
    · exact Or.inr (Or.inl ⟨rfl, by rw [ht]; rfl, by rw [hq]; rfl⟩)
    · exact Or.inr (Or.inr ⟨rfl, by rw [ht]; rfl, by rw [hq]; rfl⟩)
  have ue : yUse2 b c x e = x + b + c + 3 * t + 2 * q := by
    unfold yUse2
    split <;> omega
  have u5 : x + b + c + 3 * t + 2 * q + L (9 * r + i) ≤ 4 := by
    rw [← ue]; exact k5
  have on : ∀ n, yRP L r 2 i b c (lane / 2) (lane % 2) n → yRP L r 2 (i + 1) (yTc b lane x e / 30) (yTc b lane x e / 10 % 3) (yTc b lane x e % 10 / 2) (yTc b lane x e % 2) (yUp n (9 * r + i) (yUse2 b c x e)) := by
    intro n h
    have := yRP_on (a := x) (t := t) (q := q) h ⟨k1, by rw [← hm]; exact k2⟩ (by omega) (by omega) (by omega) (by omega) u5
    rw [← ue] at this
    obtain ⟨e1, e2, e3, e4⟩ := yDec (x := x) (b := b) (w := lane + 2 * x + e) ⟨k1, by omega⟩ hb ⟨by omega, k6⟩
    unfold yTc
    rw [e1, e2, e3, e4, show (lane + 2 * x + e) / 2 = lane / 2 + x + t by omega, show (lane + 2 * x + e) % 2 = lane % 2 + q by omega]
    exact this
  have d0 := (yMx_bd (x := yUse2 b c x e - H (9 * r + i))).1
  dsimp only at tb
  rcases tb with ⟨t1, -⟩ | ⟨t1, ⟨n, t2, t3⟩, t4, t5⟩
  · exact absurd t1 hn
  · refine Or.inr ⟨hle, ⟨_, on n t2, ?_⟩, fun j hj => ?_⟩
    · dsimp only; rw [yCo_on, t3]; omega
    · rw [Nat.testBit_or, Bool.or_eq_true] at hj
      rcases hj with hj | hj
      · obtain ⟨n', a1, a2, a3⟩ := (t5 j).mp hj
        refine ⟨_, on n' a1, by dsimp only; rw [yCo_on, a2]; omega, by have := a3.1; omega, ?_⟩
        rw [yUp_o (by have := a3.1; omega)]; exact a3.2
      · obtain ⟨b1, b2⟩ := yBn_t.mp hj
        subst b2
        exact ⟨_, on n t2, by dsimp only; rw [yCo_on, t3]; omega, by omega, by rw [yUp_at]; exact b1⟩
/-- a place more -/
theorem yTbC_s {H L : Int → Int} {r m : Int} {lim i : Nat} {U V : Int → Int} (h64 : lim < 64) (hm : m = if r < 3 ∧ i < 7 then 2 else 0) (hL : 0 ≤ L (9 * r + i)) (hT : yTbC H L r lim i U) (hG : ∀ y : Int, 0 ≤ y → y < 90 → yNv (V y) ∧ yGc H L r lim (i + 1) y (yDT (V y)) (yDm (V y))) (hC : ∀ k : Int, 0 ≤ k → k < 90 → yDT (U k) ≠ 64 → ∀ x e : Int, yAc (k / 30) (k / 10 % 3) (k % 10) m (L (9 * r + i)) x e → yDT (U k) + (yMx (yUse2 (k / 30) (k / 10 % 3) x e - H (9 * r + i))).toNat ≤ lim → yLs (yDT (V (yTc (k / 30) (k % 10) x e))) (yDm (V (yTc (k / 30) (k % 10) x e))) (yDT (U k) + (yMx (yUse2 (k / 30) (k / 10 % 3) x e - H (9 * r + i))).toNat) (yDm (U k) ||| yBn i (yUse2 (k / 30) (k / 10 % 3) x e) (H (9 * r + i)))) : yTbC H L r lim (i + 1) V := by
  intro a b g p a0 a2 b0 b2 g0 g4 p0 p1
  obtain ⟨y, hy⟩ : ∃ y, y = 10 * (3 * a + b) + 2 * g + p := ⟨_, rfl⟩
  rw [← hy]
  have hg := hG y (by omega) (by omega)
  unfold yGc at hg
  rw [show y / 30 = a by omega, show y / 10 % 3 = b by omega, show y % 10 / 2 = g by omega, show y % 2 = p by omega] at hg
  refine yBst_i h64 hg.1 hg.2 (fun n hn hlim => ?_)
  obtain ⟨c, t, q, h1, h2, h3, h4, h5, h6, h7, h8, h9⟩ := hn
  obtain ⟨bd1, bd2, bd3, bd4, bd5, bd6⟩ := yRP_bd (by decide) _ _ _ _ _ n h1
  have d0 := (yMx_bd (x := n (9 * r + i) - H (9 * r + i))).1
  rw [yCo_s] at hlim ⊢
  obtain ⟨k, hk⟩ : ∃ k, k = 10 * (3 * b + c) + 2 * (g - a - t) + (p - q) := ⟨_, rfl⟩
  obtain ⟨T, m', hv, tb⟩ := hT b c (g - a - t) (p - q) b0 b2 bd2.1 bd2.2 (by omega) (by omega) (by omega) (by omega)
  rw [← hk] at hv
  obtain ⟨eT, em⟩ := yVl_d hv
  dsimp only at tb
  rcases tb with ⟨t1, -, t2⟩ | ⟨t1, -, t4, t5⟩
  · have := t2 n h1; omega
  · have le := t4 n h1
    obtain ⟨e, he⟩ : ∃ e : Int, e = if q = 1 then 1 else if t = 1 then 2 else 0 := ⟨_, rfl⟩
    have tq : (e = 0 ∧ t = 0 ∧ q = 0) ∨ (e = 1 ∧ t = 0 ∧ q = 1) ∨ (e = 2 ∧ t = 1 ∧ q = 0) := by
      by_cases q1 : q = 1
      · rw [if_pos q1] at he; omega
      · rw [if_neg q1] at he
        by_cases t1 : t = 1
        · rw [if_pos t1] at he; omega
        · rw [if_neg t1] at he; omega
    obtain ⟨k30, k103, -, -⟩ := yDec (x := b) (b := c) (w := 2 * (g - a - t) + (p - q)) ⟨b0, b2⟩ ⟨bd2.1, bd2.2⟩ (by omega)
    rw [show 10 * (3 * b + c) + (2 * (g - a - t) + (p - q)) = k by omega] at k30 k103
    have ue : yUse2 b c a e = n (9 * r + i) := by
      rw [h8]
      unfold yUse2
      split <;> omega
    have al : yAc b c (k % 10) m (L (9 * r + i)) a e := ⟨h2, by rw [hm]; exact h3, by omega, by omega, by
      have : yUse2 b c a e = b + c + a + (if e = 0 then 0 else e + 1) := rfl
      rw [← this, ue]; exact h9, by omega, by omega⟩
    have cov := hC k (by omega) (by omega) (by rw [eT]; omega) a e (by rw [k30, k103]; exact al) (by rw [k30, k103, ue, eT]; omega)
    rw [k30, k103, ue, eT, em] at cov
    have et : yTc b (k % 10) a e = y := by unfold yTc; omega
    rw [et] at cov
    rcases cov with cov | ⟨cov1, cov2⟩
    · exact ⟨by omega, fun z => by omega⟩
    · refine ⟨by omega, fun z j hj => cov2 j ?_⟩
      rw [Nat.testBit_or, Bool.or_eq_true]
      by_cases ej : j = i
      · subst ej; exact Or.inr (yBn_t.mpr ⟨hj.2, rfl⟩)
      · exact Or.inl ((t5 j).mpr ⟨n, h1, by omega, by have := hj.1; omega, hj.2⟩)
theorem yTbC_0 {H L : Int → Int} {r : Int} {lim : Nat} {U : Int → Int} (h0 : U 0 = 0) (hU : ∀ k : Int, 0 < k → k < 90 → U k = 1099511627776) : yTbC H L r lim 0 U := by
  intro a b g p a0 a2 b0 b2 g0 g4 p0 p1
  by_cases z : a = 0 ∧ b = 0 ∧ g = 0 ∧ p = 0
  · rw [show 10 * (3 * a + b) + 2 * g + p = 0 by omega, h0]
    refine ⟨0, 0, ⟨by decide, by decide, by decide⟩, Or.inr ⟨Nat.zero_le _, ⟨fun _ => 0, z, rfl⟩, fun n _ => Int.le_refl 0, fun j => ⟨fun h => by rw [Nat.zero_testBit] at h; exact absurd h (by decide), fun ⟨n, _, _, h⟩ => absurd h.1 (Nat.not_lt_zero j)⟩⟩⟩
  · rw [hU _ (by omega) (by omega)]
    exact ⟨64, 0, yVl_nw, Or.inl ⟨rfl, rfl, fun n hn => absurd hn z⟩⟩
theorem zX3_goThrough {s : jMem} {r : Int} {lim : Nat} (r0 : 0 ≤ r) (r4 : r < 4) (h7 : s 7 9 = lim) (h14 : lim ≤ 14) (hb : ∀ q : Int, 0 ≤ q → q < 34 → 0 ≤ s 8 q ∧ s 8 q ≤ 100 ∧ 0 ≤ s 9 q ∧ s 9 q ≤ 100) : jHo (fun _ t => (∀ x : Int, x ≠ 11 → x ≠ 12 → t x = s x) ∧ yTbC (s 8) (s 9) r lim (yLn r) (t 11)) (fX3_goThrough r s) := by
  obtain ⟨w1, w2, w3, w4, w5, w6⟩ := jjk_t
  obtain ⟨v1, v2, v3, v4, v5, v6, v7, v8, v9, v10⟩ := jln_t
  have inr : ∀ j : Nat, j < yLn r → 0 ≤ 9 * r + (j : Int) ∧ 9 * r + (j : Int) < 34 := fun j hj => by
    unfold yLn at hj
    split at hj <;> omega
  have l9 : yLn r ≤ 9 := by unfold yLn; split <;> omega
  unfold fX3_goThrough
  rw [sJ7_filll 11 1099511627776 90 s (by omega) (by omega) (by decide), jBd_s]
  refine gHo_gd ⟨by omega, by omega⟩ (gHo_nm fun s1 h1 => ?_)
  have f1 : ∀ x : Int, x ≠ 11 → x ≠ 12 → s1 x = s x := fun x x1 _ => by rw [h1, jU_row x1, jFill_row x1]
  have tb0 : yTbC (s 8) (s 9) r lim 0 (s1 11) := yTbC_0 (by rw [h1, jU_at, if_pos rfl]) (fun k k0 k1 => by rw [h1, jU_at, if_neg (by omega)]; exact jFill_at (n := ((90 : Nat) : Int)) (by omega) k1)
  refine gIt3 (fun a1 a2 t => a1 = r ∧ ∃ i : Nat, a2 = i ∧ i ≤ yLn r ∧ (∀ x : Int, x ≠ 11 → x ≠ 12 → t x = s x) ∧ yTbC (s 8) (s 9) r lim i (t 11)) (fun _ a2 => (9 - a2).toNat) ?_ 1000 r 0 s1 ⟨rfl, 0, rfl, by omega, f1, tb0⟩ (by decide)
  rintro rec a1 a2 t ⟨rfl, i, rfl, hi, fr, hT⟩ ih
  have elen : fX8_lengthOf a1 t = some ((yLn a1 : Int), t) := by
    unfold fX8_lengthOf yLn
    by_cases e : 3 ≤ a1
    · rw [if_pos e, if_neg (by omega)]; rfl
    · rw [if_neg e, if_pos (by omega)]; rfl
  unfold bX3_goThrough_19
  rw [elen, jBd_s]
  refine gHo_if (fun e => ?_) (fun e => ?_)
  · have ei : i = yLn a1 := by omega
    rw [ei] at hT
    exact gHo_ret ⟨fr, hT⟩
  · have hi' : i < yLn a1 := by omega
    have xr := inr i hi'
    have hbx := hb (9 * a1 + i) xr.1 xr.2
    rw [sJ7_filll 12 1099511627776 90 t (by omega) (by omega) (by decide), jBd_s]
    obtain ⟨s2, h2⟩ : ∃ s2, s2 = jFill t 12 1099511627776 ((90 : Nat) : Int) := ⟨_, rfl⟩
    rw [← h2]
    have g2 : ∀ x : Int, x ≠ 12 → s2 x = t x := fun x hx => by rw [h2, jFill_row hx]
    have c2 : ∀ k : Int, 0 ≤ k → k < 90 → s2 12 k = 1099511627776 := fun k k0 k1 => by rw [h2]; exact jFill_at (n := ((90 : Nat) : Int)) k0 k1
    refine gHo_l32 (by omega) (by omega) (gHo_l32 (by omega) (by omega) ?_)
    rw [show a1 * 9 + (i : Int) = 9 * a1 + i by omega]
    obtain ⟨m, hm⟩ : ∃ m : Int, m = if a1 < 3 ∧ i < 7 then 2 else 0 := ⟨_, rfl⟩
    have hm2 : m = if 9 * a1 + (i : Int) < 27 ∧ (9 * a1 + (i : Int)) % 9 ≤ 6 then 2 else 0 := by
      rw [hm]
      by_cases c : a1 < 3 ∧ i < 7
      · rw [if_pos c, if_pos (by omega)]
      · rw [if_neg c, if_neg (by omega)]
    have nwd := yVl_d yVl_nw
    refine gIt5 (fun b1 b2 b3 k z => b1 = a1 ∧ b2 = i ∧ b3 = 9 * a1 + i ∧ 0 ≤ k ∧ k ≤ 90 ∧ (∀ x : Int, x ≠ 12 → z x = t x) ∧ (∀ y : Int, 0 ≤ y → y < 90 → yNv (z 12 y) ∧ yGc (s 8) (s 9) a1 lim (i + 1) y (yDT (z 12 y)) (yDm (z 12 y))) ∧ ∀ j : Int, 0 ≤ j → j < k → yDT (t 11 j) ≠ 64 → ∀ x e : Int, yAc (j / 30) (j / 10 % 3) (j % 10) m (s 9 (9 * a1 + i)) x e → yDT (t 11 j) + (yMx (yUse2 (j / 30) (j / 10 % 3) x e - s 8 (9 * a1 + i))).toNat ≤ lim → yLs (yDT (z 12 (yTc (j / 30) (j % 10) x e))) (yDm (z 12 (yTc (j / 30) (j % 10) x e))) (yDT (t 11 j) + (yMx (yUse2 (j / 30) (j / 10 % 3) x e - s 8 (9 * a1 + i))).toNat) (yDm (t 11 j) ||| yBn i (yUse2 (j / 30) (j / 10 % 3) x e) (s 8 (9 * a1 + i)))) (fun _ _ _ k => (90 - k).toNat) ?_ 1000 a1 i _ 0 s2 ⟨rfl, rfl, rfl, by omega, by omega, g2, fun y y0 y1 => ?_, fun j j0 j1 => by omega⟩ (by decide)
    · rintro rec2 b1 b2 b3 k z ⟨rfl, rfl, rfl, k0, k90, fz, zc, zd⟩ ih2
      unfold bX3_goThrough_47
      refine gHo_if (fun e2 => ?_) (fun e2 => ?_)
      · have ek : k = 90 := by omega
        subst ek
        have tb := yTbC_s (V := z 12) (by omega) hm hbx.2.2.1 hT zc zd
        unfold bX3_goThrough_96
        refine gHo_gd ⟨by omega, by omega, by omega, by omega, by omega, by omega, by omega⟩ (gHo_nm fun z2 hz2 => gHo_l32 (by omega) (by omega) (ih _ _ _ ⟨rfl, i + 1, by omega, by omega, fun x x1 x2 => ?_, ?_⟩ (by omega)))
        · have : z2 x = z x := by rw [hz2]; funext y; unfold jCp; rw [if_neg (by omega)]
          rw [this, fz x x2]; exact fr x x1 x2
        · intro a b g p a0 a2 b0 b2 g0 g4 p0 p1
          have : z2 11 (10 * (3 * a + b) + 2 * g + p) = z 12 (10 * (3 * a + b) + 2 * g + p) := by
            rw [hz2]
            unfold jCp
            rw [if_pos (by omega)]
            congr 1; omega
          rw [this]
          exact tb a b g p a0 a2 b0 b2 g0 g4 p0 p1
      · have k1 : k < 90 := by omega
        have z11 := fz 11 (by decide)
        have hk := hT (k / 30) (k / 10 % 3) (k % 10 / 2) (k % 2) (by omega) (by omega) (by omega) (by omega) (by omega) (by omega) (by omega) (by omega)
        rw [show 10 * (3 * (k / 30) + k / 10 % 3) + 2 * (k % 10 / 2) + k % 2 = k by omega] at hk
        obtain ⟨T, m0, hv, hcase⟩ := hk
        obtain ⟨dT, dm⟩ := yVl_d hv
        have next : ∀ z2 : jMem, (∀ x : Int, x ≠ 12 → z2 x = t x) → (∀ y : Int, 0 ≤ y → y < 90 → yNv (z2 12 y) ∧ yGc (s 8) (s 9) b1 lim (i + 1) y (yDT (z2 12 y)) (yDm (z2 12 y)) ∧ yLs (yDT (z2 12 y)) (yDm (z2 12 y)) (yDT (z 12 y)) (yDm (z 12 y))) → (yDT (t 11 k) ≠ 64 → ∀ x e : Int, yAc (k / 30) (k / 10 % 3) (k % 10) m (s 9 (9 * b1 + i)) x e → yDT (t 11 k) + (yMx (yUse2 (k / 30) (k / 10 % 3) x e - s 8 (9 * b1 + i))).toNat ≤ lim → yLs (yDT (z2 12 (yTc (k / 30) (k % 10) x e))) (yDm (z2 12 (yTc (k / 30) (k % 10) x e))) (yDT (t 11 k) + (yMx (yUse2 (k / 30) (k / 10 % 3) x e - s 8 (9 * b1 + i))).toNat) (yDm (t 11 k) ||| yBn i (yUse2 (k / 30) (k / 10 % 3) x e) (s 8 (9 * b1 + i)))) → jHo (fun _ t => (∀ x : Int, x ≠ 11 → x ≠ 12 → t x = s x) ∧ yTbC (s 8) (s 9) b1 lim (yLn b1) (t 11)) (bX3_goThrough_90 rec2 b1 i (9 * b1 + i) k z2) := by
          intro z2 q1 q2 q3
          unfold bX3_goThrough_90
          refine gHo_l32 (by omega) (by omega) (ih2 _ _ _ _ _ ⟨rfl, rfl, rfl, by omega, by omega, q1, fun y y0 y1 => ⟨(q2 y y0 y1).1, (q2 y y0 y1).2.1⟩, fun j j0 j1 hj x e al hle => ?_⟩ (by omega))
          by_cases ej : j = k
          · subst ej; exact q3 hj x e al hle
          · have tb' : 0 ≤ yTc (j / 30) (j % 10) x e ∧ yTc (j / 30) (j % 10) x e < 90 := by
              obtain ⟨r1, r2, r3, r4, r5, r6, r7⟩ := al
              have : m ≤ 2 := by rw [hm]; split <;> omega
              unfold yTc; omega
            exact yLs_tr (q2 _ tb'.1 tb'.2).2.2 (zd j j0 (by omega) hj x e al hle)
        refine gHo_gd ⟨k0, by omega⟩ (gHo_let ?_)
        rw [z11]
        refine gHo_let (gHo_if (fun e3 => ?_) (fun e3 => ?_))
        · have eNW : t 11 k = 1099511627776 := by
            unfold jcmp at e3
            split at e3
            · exact absurd e3 (by decide)
            · split at e3
              · assumption
              · exact absurd e3 (by decide)
          refine next z fz (fun y y0 y1 => ⟨(zc y y0 y1).1, (zc y y0 y1).2, yLs_rf _ _⟩) (fun hne => ?_)
          exfalso
          apply hne
          rw [eNW, nwd.1]
        · have hne : T ≠ 64 := by
            intro z
            rcases hcase with ⟨c1, c2, -⟩ | ⟨c1, -⟩
            · subst c1 c2
              apply e3
              rw [hv.1]
              decide
            · omega
          have hTl : T ≤ lim := by
            rcases hcase with ⟨c1, -⟩ | ⟨c1, -⟩
            · exact absurd c1 hne
            · exact c1
          refine gHo_gd (by decide) (gHo_let (gHo_gd (by decide) (gHo_let (gHo_gd ⟨k0, by omega⟩ (gHo_let ?_)))))
          rw [jdiv_c (y := 10) ⟨k0, by omega⟩ ⟨by decide, by decide⟩, jrem_c (y := 10) ⟨k0, by omega⟩ ⟨by decide, by decide⟩, show k / 10 = 3 * (k / 30) + k / 10 % 3 by omega]
          have z8 : z 8 = s 8 := by rw [fz 8 (by decide), fr 8 (by decide) (by decide)]
          have z9 : z 9 = s 9 := by rw [fz 9 (by decide), fr 9 (by decide) (by decide)]
          refine gHo_bd (zX3_spread (b := k / 30) (c := k / 10 % 3) (lane := k % 10) (v := t 11 k) (x0 := 9 * b1 + i) (m := m) (h := s 8 (9 * b1 + i)) (l := s 9 (9 * b1 + i)) (T0 := T) (m0 := m0) (lim := lim) (i := i) (G := fun y => yGc (s 8) (s 9) b1 lim (i + 1) y) (fun y T a b => yGd_or (by omega)) xr (by omega) (by omega) (by omega) (by omega) hm2 hv (by omega) (by rw [fz 7 (by decide), fr 7 (by decide) (by decide)]; exact h7) (by omega) ⟨by rw [z8], hbx.1, hbx.2.1⟩ ⟨by rw [z9], hbx.2.2.1, hbx.2.2.2⟩ zc (fun x e al hle => yGc_on (U := t 11) (by omega) hm (by omega) (by omega) (by omega) hT (by rw [show 10 * (3 * (k / 30) + k / 10 % 3) + k % 10 = k by omega]; exact hv) hne al hle)) (fun _ z2 hz2 => ?_)
          obtain ⟨p1, p2, p3⟩ := hz2
          refine next z2 (fun x hx => by rw [p1 x hx]; exact fz x hx) p2 (fun _ => ?_)
          rw [dT, dm]
          exact p3
    · rw [c2 y y0 y1, nwd.1, nwd.2]
      exact ⟨yNv_i yVl_nw, Or.inl ⟨rfl, rfl⟩⟩
end

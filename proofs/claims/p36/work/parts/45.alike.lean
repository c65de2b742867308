/-! ===== alike ===== -/
section
/-- a number by digits to the base of 5 -/
def yKey (v : Int → Int) : Nat → Int
  | 0 => 0
  | n + 1 => yKey v n * 5 + v n
theorem yKey_bd {v : Int → Int} {n : Nat} (h : ∀ i : Nat, i < n → 0 ≤ v i ∧ v i ≤ 4) : 0 ≤ yKey v n ∧ yKey v n < 5 ^ n := by
  induction n with
  | zero => exact ⟨Int.le_refl 0, by show (0 : Int) < 1; decide⟩
  | succ n ih =>
    have a := ih (fun i hi => h i (by omega))
    have b := h n (by omega)
    simp only [yKey, Int.pow_succ]
    omega
theorem yKey_9 {v : Int → Int} {n : Nat} (hn : n ≤ 9) (h : ∀ i : Nat, i < n → 0 ≤ v i ∧ v i ≤ 4) : 0 ≤ yKey v n ∧ yKey v n < 1953125 := by
  have a := yKey_bd h
  have p : ∀ m : Nat, m ≤ 9 → (5 : Int) ^ m ≤ 1953125 := by
    intro m hm
    rcases (by omega : m = 0 ∨ m = 1 ∨ m = 2 ∨ m = 3 ∨ m = 4 ∨ m = 5 ∨ m = 6 ∨ m = 7 ∨ m = 8 ∨ m = 9) with rfl | rfl | rfl | rfl | rfl | rfl | rfl | rfl | rfl | rfl <;> decide
  have b := p n hn
  omega
theorem yKey_inj {v w : Int → Int} {n : Nat} (hv : ∀ i : Nat, i < n → 0 ≤ v i ∧ v i ≤ 4) (hw : ∀ i : Nat, i < n → 0 ≤ w i ∧ w i ≤ 4) (e : yKey v n = yKey w n) : ∀ i : Nat, i < n → v i = w i := by
  induction n with
  | zero => intro i hi; omega
  | succ n ih =>
    have a := hv n (by omega)
    have b := hw n (by omega)
    simp only [yKey] at e
    have k : yKey v n = yKey w n := by omega
    intro i hi
    by_cases ei : i = n
    · subst ei; omega
    · exact ih (fun i hi => hv i (by omega)) (fun i hi => hw i (by omega)) k i (by omega)
theorem yKey_cg {v w : Int → Int} {n : Nat} (h : ∀ i : Nat, i < n → v i = w i) : yKey v n = yKey w n := by
  induction n with
  | zero => rfl
  | succ n ih => simp only [yKey]; rw [ih (fun i hi => h i (by omega)), h n (by omega)]
/-- the same for a row and for that row turned -/
def yRow (f : Int → Int) (a : Int) : Int := jmax (yKey (fun i => f (9 * a + i)) 9) (yKey (fun i => f (9 * a + 8 - i)) 9)
theorem zX7_rowKey {r a : Int} {s : jMem} (hk : jik r = 34) (a0 : 0 ≤ a) (a3 : a < 3) (hb : ∀ q : Int, 0 ≤ q → q < 34 → 0 ≤ s r q ∧ s r q ≤ 4) : fX7_rowKey r a s = some (yRow (s r) a, s) := by
  have main : jHo (fun v t => v = yRow (s r) a ∧ t = s) (fX7_rowKey r a s) := by
    unfold fX7_rowKey
    refine gHo_l32 (by omega) (by omega) ?_
    refine gIt6 (fun b1 b2 b3 b4 b5 t => b1 = r ∧ b4 = a * 9 ∧ t = s ∧ ∃ n : Nat, b5 = n ∧ n ≤ 9 ∧ b2 = yKey (fun i => s r (9 * a + i)) n ∧ b3 = yKey (fun i => s r (9 * a + 8 - i)) n) (fun _ _ _ _ b5 => (9 - b5).toNat) ?_ 1000 r 0 0 _ 0 s ⟨rfl, rfl, rfl, 0, rfl, by omega, rfl, rfl⟩ (by decide)
    rintro rec b1 b2 b3 b4 b5 t ⟨rfl, rfl, rfl, n, rfl, hn, rfl, rfl⟩ ih
    have k1 := yKey_9 (v := fun i => t b1 (9 * a + i)) hn (fun i hi => hb _ (by omega) (by omega))
    have k2 := yKey_9 (v := fun i => t b1 (9 * a + 8 - i)) hn (fun i hi => hb _ (by omega) (by omega))
    unfold bX7_rowKey_13
    refine gHo_if (fun hc => ?_) (fun hc => ?_)
    · have e : n = 9 := by omega
      subst e
      exact gHo_ret ⟨rfl, rfl⟩
    · have b1' := hb (a * 9 + n) (by omega) (by omega)
      have b2' := hb (a * 9 + 9 - 1 - n) (by omega) (by omega)
      refine gHo_l32 (by omega) (by omega) (gHo_l32 (by omega) (by omega) (gHo_gd ⟨by omega, by omega⟩ (gHo_let (gHo_l32 (by omega) (by omega) ?_))))
      refine gHo_l32 (by omega) (by omega) (gHo_l32 (by omega) (by omega) (gHo_l32 (by omega) (by omega) (gHo_l32 (by omega) (by omega) (gHo_gd ⟨by omega, by omega⟩ (gHo_let (gHo_l32 (by omega) (by omega) ?_))))))
      refine gHo_l32 (by omega) (by omega) (ih _ _ _ _ _ _ ⟨rfl, rfl, rfl, n + 1, by omega, by omega, ?_, ?_⟩ (by omega))
      · simp only [yKey]
        rw [show 9 * a + (n : Int) = a * 9 + n by omega]
      · simp only [yKey]
        rw [show 9 * a + 8 - (n : Int) = a * 9 + 9 - 1 - n by omega]
  obtain ⟨v, t, e, rfl, rfl⟩ := main
  exact e
/-- a row of one hand is one of the other's, as it stands or turned -/
def yAs (f g : Int → Int) (a b : Int) : Prop := (∀ i : Nat, i < 9 → f (9 * a + i) = g (9 * b + i)) ∨ ∀ i : Nat, i < 9 → f (9 * a + i) = g (9 * b + (8 - i))
theorem yRow_as {f g : Int → Int} {a b : Int} (hf : ∀ q : Int, 0 ≤ q → q < 34 → 0 ≤ f q ∧ f q ≤ 4) (hg : ∀ q : Int, 0 ≤ q → q < 34 → 0 ≤ g q ∧ g q ≤ 4) (a0 : 0 ≤ a) (a3 : a < 3) (b0 : 0 ≤ b) (b3 : b < 3) : yRow f a = yRow g b ↔ yAs f g a b := by
  have f1 : ∀ i : Nat, i < 9 → 0 ≤ f (9 * a + i) ∧ f (9 * a + i) ≤ 4 := fun i hi => hf _ (by omega) (by omega)
  have f2 : ∀ i : Nat, i < 9 → 0 ≤ f (9 * a + 8 - i) ∧ f (9 * a + 8 - i) ≤ 4 := fun i hi => hf _ (by omega) (by omega)
  have g1 : ∀ i : Nat, i < 9 → 0 ≤ g (9 * b + i) ∧ g (9 * b + i) ≤ 4 := fun i hi => hg _ (by omega) (by omega)
  have g2 : ∀ i : Nat, i < 9 → 0 ≤ g (9 * b + 8 - i) ∧ g (9 * b + 8 - i) ≤ 4 := fun i hi => hg _ (by omega) (by omega)
  unfold yRow yAs
  constructor
  · intro e
    have cases4 : ∀ x y z w : Int, jmax x y = jmax z w → x = z ∨ x = w ∨ y = z ∨ y = w := by
      intro x y z w
      unfold jmax
      split <;> split <;> omega
    rcases cases4 _ _ _ _ e with h | h | h | h
    · exact Or.inl (yKey_inj (v := fun i => f (9 * a + i)) (w := fun i => g (9 * b + i)) f1 g1 h)
    · refine Or.inr (fun i hi => ?_)
      have := yKey_inj (v := fun i => f (9 * a + i)) (w := fun i => g (9 * b + 8 - i)) f1 g2 h i hi
      rw [this, show 9 * b + 8 - (i : Int) = 9 * b + (8 - i) by omega]
    · refine Or.inr (fun i hi => ?_)
      have := yKey_inj (v := fun i => f (9 * a + 8 - i)) (w := fun i => g (9 * b + i)) f2 g1 h (8 - i) (by omega)
      rw [show 9 * a + 8 - ((8 - i : Nat) : Int) = 9 * a + i by omega] at this
      rw [this, show ((8 - i : Nat) : Int) = 8 - (i : Int) by omega]
    · refine Or.inl (fun i hi => ?_)
      have := yKey_inj (v := fun i => f (9 * a + 8 - i)) (w := fun i => g (9 * b + 8 - i)) f2 g2 h (8 - i) (by omega)
      rw [show 9 * a + 8 - ((8 - i : Nat) : Int) = 9 * a + i by omega, show 9 * b + 8 - ((8 - i : Nat) : Int) = 9 * b + i by omega] at this
      exact this
  · rintro (h | h)
    · rw [yKey_cg (v := fun i => f (9 * a + i)) (w := fun i => g (9 * b + i)) h, yKey_cg (v := fun i => f (9 * a + 8 - i)) (w := fun i => g (9 * b + 8 - i)) (fun i hi => by
        have := h (8 - i) (by omega)
        rw [show 9 * a + ((8 - i : Nat) : Int) = 9 * a + 8 - i by omega, show 9 * b + ((8 - i : Nat) : Int) = 9 * b + 8 - i by omega] at this
        exact this)]
    · rw [yKey_cg (v := fun i => f (9 * a + i)) (w := fun i => g (9 * b + 8 - i)) (fun i hi => by
        have := h i hi
        rw [show 9 * b + (8 - (i : Int)) = 9 * b + 8 - i by omega] at this
        exact this), yKey_cg (v := fun i => f (9 * a + 8 - i)) (w := fun i => g (9 * b + i)) (fun i hi => by
        have := h (8 - i) (by omega)
        rw [show 9 * a + ((8 - i : Nat) : Int) = 9 * a + 8 - i by omega, show 9 * b + (8 - ((8 - i : Nat) : Int)) = 9 * b + i by omega] at this
        exact this)]
      unfold jmax
      split <;> split <;> omega
theorem yTwo {a b c e f u : Int} (h1 : b ≤ u) (h2 : c ≤ u) (h3 : e ≤ u) (h4 : f ≤ u) (h5 : u = b ∨ u = c ∨ u = a) (h6 : u = e ∨ u = f ∨ u = a) (h7 : a ≤ b) (h8 : a ≤ c) (h9 : a ≤ e) (h10 : a ≤ f) (h11 : b + c = e + f) : (b = e ∧ c = f) ∨ (b = f ∧ c = e) := by
  by_cases k : b = e
  · exact Or.inl ⟨k, by omega⟩
  · exact Or.inr ⟨by omega, by omega⟩
theorem yThree {a b c d e f : Int} : (jmin a (jmin b c) = jmin d (jmin e f) ∧ jmax a (jmax b c) = jmax d (jmax e f) ∧ a + b + c = d + e + f) ↔ ((a = d ∧ b = e ∧ c = f) ∨ (a = d ∧ b = f ∧ c = e) ∨ (a = e ∧ b = d ∧ c = f) ∨ (a = e ∧ b = f ∧ c = d) ∨ (a = f ∧ b = d ∧ c = e) ∨ (a = f ∧ b = e ∧ c = d)) := by
  have m1 : ∀ x y z : Int, ∃ m, m = jmin x (jmin y z) ∧ m ≤ x ∧ m ≤ y ∧ m ≤ z ∧ (m = x ∨ m = y ∨ m = z) := by
    intro x y z
    refine ⟨_, rfl, ?_⟩
    unfold jmin
    split <;> split <;> omega
  have m2 : ∀ x y z : Int, ∃ m, m = jmax x (jmax y z) ∧ x ≤ m ∧ y ≤ m ∧ z ≤ m ∧ (m = x ∨ m = y ∨ m = z) := by
    intro x y z
    refine ⟨_, rfl, ?_⟩
    unfold jmax
    split <;> split <;> omega
  obtain ⟨p, hp, p1, p2, p3, p4⟩ := m1 a b c
  obtain ⟨q, hq, q1, q2, q3, q4⟩ := m1 d e f
  obtain ⟨u, hu, u1, u2, u3, u4⟩ := m2 a b c
  obtain ⟨v, hv, v1, v2, v3, v4⟩ := m2 d e f
  rw [← hp, ← hq, ← hu, ← hv]
  constructor
  · rintro ⟨h1, h2, h3⟩
    clear hp hq hu hv
    rcases p4 with h4 | h4 | h4 <;> rcases q4 with h6 | h6 | h6
    · have k := yTwo (a := a) (b := b) (c := c) (e := e) (f := f) (u := u) (by omega) (by omega) (by omega) (by omega) (by omega) (by omega) (by omega) (by omega) (by omega) (by omega) (by omega)
      have k0 : a = d := by omega
      clear h1 h2 h3 p1 p2 p3 q1 q2 q3 u1 u2 u3 v1 v2 v3 u4 v4 h4 h6
      rcases k with ⟨k1, k2⟩ | ⟨k1, k2⟩
      · exact Or.inl ⟨k0, k1, k2⟩
      · exact Or.inr (Or.inl ⟨k0, k1, k2⟩)
    · have k := yTwo (a := a) (b := b) (c := c) (e := d) (f := f) (u := u) (by omega) (by omega) (by omega) (by omega) (by omega) (by omega) (by omega) (by omega) (by omega) (by omega) (by omega)
      have k0 : a = e := by omega
      clear h1 h2 h3 p1 p2 p3 q1 q2 q3 u1 u2 u3 v1 v2 v3 u4 v4 h4 h6
      rcases k with ⟨k1, k2⟩ | ⟨k1, k2⟩
      · exact Or.inr (Or.inr (Or.inl ⟨k0, k1, k2⟩))
      · exact Or.inr (Or.inr (Or.inr (Or.inl ⟨k0, k1, k2⟩)))
    · have k := yTwo (a := a) (b := b) (c := c) (e := d) (f := e) (u := u) (by omega) (by omega) (by omega) (by omega) (by omega) (by omega) (by omega) (by omega) (by omega) (by omega) (by omega)
      have k0 : a = f := by omega
      clear h1 h2 h3 p1 p2 p3 q1 q2 q3 u1 u2 u3 v1 v2 v3 u4 v4 h4 h6
      rcases k with ⟨k1, k2⟩ | ⟨k1, k2⟩
      · exact Or.inr (Or.inr (Or.inr (Or.inr (Or.inl ⟨k0, k1, k2⟩))))
      · exact Or.inr (Or.inr (Or.inr (Or.inr (Or.inr (⟨k0, k1, k2⟩)))))
    · have k := yTwo (a := b) (b := a) (c := c) (e := e) (f := f) (u := u) (by omega) (by omega) (by omega) (by omega) (by omega) (by omega) (by omega) (by omega) (by omega) (by omega) (by omega)
      have k0 : b = d := by omega
      clear h1 h2 h3 p1 p2 p3 q1 q2 q3 u1 u2 u3 v1 v2 v3 u4 v4 h4 h6
      rcases k with ⟨k1, k2⟩ | ⟨k1, k2⟩
      · exact Or.inr (Or.inr (Or.inl ⟨k1, k0, k2⟩))
      · exact Or.inr (Or.inr (Or.inr (Or.inr (Or.inl ⟨k1, k0, k2⟩))))
    · have k := yTwo (a := b) (b := a) (c := c) (e := d) (f := f) (u := u) (by omega) (by omega) (by omega) (by omega) (by omega) (by omega) (by omega) (by omega) (by omega) (by omega) (by omega)
      have k0 : b = e := by omega
      clear h1 h2 h3 p1 p2 p3 q1 q2 q3 u1 u2 u3 v1 v2 v3 u4 v4 h4 h6
      rcases k with ⟨k1, k2⟩ | ⟨k1, k2⟩
      · exact Or.inl ⟨k1, k0, k2⟩
      · exact Or.inr (Or.inr (Or.inr (Or.inr (Or.inr (⟨k1, k0, k2⟩)))))
    · have k := yTwo (a := b) (b := a) (c := c) (e := d) (f := e) (u := u) (by omega) (by omega) (by omega) (by omega) (by omega) (by omega) (by omega) (by omega) (by omega) (by omega) (by omega)
      have k0 : b = f := by omega
      clear h1 h2 h3 p1 p2 p3 q1 q2 q3 u1 u2 u3 v1 v2 v3 u4 v4 h4 h6
      rcases k with ⟨k1, k2⟩ | ⟨k1, k2⟩
      · exact Or.inr (Or.inl ⟨k1, k0, k2⟩)
      · exact Or.inr (Or.inr (Or.inr (Or.inl ⟨k1, k0, k2⟩)))
    · have k := yTwo (a := c) (b := a) (c := b) (e := e) (f := f) (u := u) (by omega) (by omega) (by omega) (by omega) (by omega) (by omega) (by omega) (by omega) (by omega) (by omega) (by omega)
      have k0 : c = d := by omega
      clear h1 h2 h3 p1 p2 p3 q1 q2 q3 u1 u2 u3 v1 v2 v3 u4 v4 h4 h6
      rcases k with ⟨k1, k2⟩ | ⟨k1, k2⟩
      · exact Or.inr (Or.inr (Or.inr (Or.inl ⟨k1, k2, k0⟩)))
      · exact Or.inr (Or.inr (Or.inr (Or.inr (Or.inr (⟨k1, k2, k0⟩)))))
    · have k := yTwo (a := c) (b := a) (c := b) (e := d) (f := f) (u := u) (by omega) (by omega) (by omega) (by omega) (by omega) (by omega) (by omega) (by omega) (by omega) (by omega) (by omega)
      have k0 : c = e := by omega
      clear h1 h2 h3 p1 p2 p3 q1 q2 q3 u1 u2 u3 v1 v2 v3 u4 v4 h4 h6
      rcases k with ⟨k1, k2⟩ | ⟨k1, k2⟩
      · exact Or.inr (Or.inl ⟨k1, k2, k0⟩)
      · exact Or.inr (Or.inr (Or.inr (Or.inr (Or.inl ⟨k1, k2, k0⟩))))
    · have k := yTwo (a := c) (b := a) (c := b) (e := d) (f := e) (u := u) (by omega) (by omega) (by omega) (by omega) (by omega) (by omega) (by omega) (by omega) (by omega) (by omega) (by omega)
      have k0 : c = f := by omega
      clear h1 h2 h3 p1 p2 p3 q1 q2 q3 u1 u2 u3 v1 v2 v3 u4 v4 h4 h6
      rcases k with ⟨k1, k2⟩ | ⟨k1, k2⟩
      · exact Or.inl ⟨k1, k2, k0⟩
      · exact Or.inr (Or.inr (Or.inl ⟨k1, k2, k0⟩))
  · have e1 : ∀ x y z m : Int, m ≤ x → m ≤ y → m ≤ z → (m = x ∨ m = y ∨ m = z) → ∀ m' : Int, m' ≤ x → m' ≤ y → m' ≤ z → (m' = x ∨ m' = y ∨ m' = z) → m = m' := fun x y z m _ _ _ _ m' _ _ _ _ => by omega
    have e2 : ∀ x y z m : Int, x ≤ m → y ≤ m → z ≤ m → (m = x ∨ m = y ∨ m = z) → ∀ m' : Int, x ≤ m' → y ≤ m' → z ≤ m' → (m' = x ∨ m' = y ∨ m' = z) → m = m' := fun x y z m _ _ _ _ m' _ _ _ _ => by omega
    clear hp hq hu hv
    rintro (⟨rfl, rfl, rfl⟩ | ⟨rfl, rfl, rfl⟩ | ⟨rfl, rfl, rfl⟩ | ⟨rfl, rfl, rfl⟩ | ⟨rfl, rfl, rfl⟩ | ⟨rfl, rfl, rfl⟩)
    all_goals refine ⟨e1 _ _ _ _ p1 p2 p3 p4 _ (by assumption) (by assumption) (by assumption) (by omega), e2 _ _ _ _ u1 u2 u3 u4 _ (by assumption) (by assumption) (by assumption) (by omega), by omega⟩
theorem zX11_isRow {h a g b w : Int} {s : jMem} (h0 : 0 ≤ h) (h4 : h < 4) (g0 : 0 ≤ g) (g4 : g < 4) (a0 : 0 ≤ a) (a3 : a < 3) (b0 : 0 ≤ b) (b3 : b < 3) : fX11_isRow h a g b w s = some (jb (∀ i : Nat, i < 9 → vH s h (9 * a + i) = vH s g (9 * b + (if w = 0 then (i : Int) else 8 - i))), s) := by
  have u := jik_m
  have main : jHo (fun v t => v = jb (∀ i : Nat, i < 9 → vH s h (9 * a + i) = vH s g (9 * b + (if w = 0 then (i : Int) else 8 - i))) ∧ t = s) (fX11_isRow h a g b w s) := by
    unfold fX11_isRow
    refine gIt8 (fun c1 c2 c3 c4 c5 c6 c7 t => c1 = h ∧ c2 = a ∧ c3 = g ∧ c4 = b ∧ c5 = w ∧ t = s ∧ ∃ n : Nat, c7 = n ∧ n ≤ 9 ∧ c6 = jb (∀ i : Nat, i < n → vH s h (9 * a + i) = vH s g (9 * b + (if w = 0 then (i : Int) else 8 - i)))) (fun _ _ _ _ _ _ c7 => (9 - c7).toNat) ?_ 1000 h a g b w 1 0 s ⟨rfl, rfl, rfl, rfl, rfl, rfl, 0, rfl, by omega, by rw [jb_1 (fun i hi => by omega)]⟩ (by decide)
    rintro rec c1 c2 c3 c4 c5 c6 c7 t ⟨rfl, rfl, rfl, rfl, rfl, rfl, n, rfl, hn, rfl⟩ ih
    have ih' : ∀ cc : Int, n < 9 → cc = jb (∀ i : Nat, i < n + 1 → vH t c1 (9 * c2 + i) = vH t c3 (9 * c4 + (if c5 = 0 then (i : Int) else 8 - i))) → jHo (fun v t' => v = jb (∀ i : Nat, i < 9 → vH t c1 (9 * c2 + i) = vH t c3 (9 * c4 + (if c5 = 0 then (i : Int) else 8 - i))) ∧ t' = t) (rec c1 c2 c3 c4 c5 cc ((n : Int) + 1) t) := fun cc h1 h2 => ih _ _ _ _ _ _ _ _ ⟨rfl, rfl, rfl, rfl, rfl, rfl, n + 1, by omega, by omega, h2⟩ (by omega)
    unfold bX11_isRow_6
    refine gHo_if (fun hc => ?_) (fun hc => ?_)
    · have e : n = 9 := by omega
      subst e
      by_cases z : ∀ i : Nat, i < 9 → vH t c1 (9 * c2 + i) = vH t c3 (9 * c4 + (if c5 = 0 then (i : Int) else 8 - i))
      · rw [jb_1 z]
        exact gHo_gd ⟨by decide, by decide⟩ (gHo_ret ⟨rfl, rfl⟩)
      · rw [jb_0 z]
        exact gHo_gd ⟨by decide, by decide⟩ (gHo_ret ⟨rfl, rfl⟩)
    · have hn9 : n < 9 := by omega
      by_cases old : ∀ i : Nat, i < n → vH t c1 (9 * c2 + i) = vH t c3 (9 * c4 + (if c5 = 0 then (i : Int) else 8 - i))
      · rw [jb_1 old, if_neg (by decide)]
        have fin : ∀ x : Int, x = (if c5 = 0 then (n : Int) else 8 - n) → jHo (fun v t' => v = jb (∀ i : Nat, i < 9 → vH t c1 (9 * c2 + i) = vH t c3 (9 * c4 + (if c5 = 0 then (i : Int) else 8 - i))) ∧ t' = t) (bX11_isRow_64 (bX11_isRow_73 (bX11_isRow_74 rec)) (bX11_isRow_74 rec) c1 c2 c3 c4 c5 n (t 56 (34 * c1 + 9 * c2 + n)) (34 * c3 + 9 * c4) x t) := by
          intro x hx
          have xb : 0 ≤ x ∧ x ≤ 8 := by rw [hx]; split <;> omega
          have ex : t 56 (34 * c3 + 9 * c4 + x) = vH t c3 (9 * c4 + (if c5 = 0 then (n : Int) else 8 - n)) := by
            rw [← hx]; unfold vH; rw [Int.add_assoc]
          have en : t 56 (34 * c1 + 9 * c2 + n) = vH t c1 (9 * c2 + n) := by
            unfold vH; rw [Int.add_assoc]
          unfold bX11_isRow_64
          refine gHo_l32 (by omega) (by omega) (gHo_gd ⟨by omega, by omega⟩ (gHo_let ?_))
          rw [en, ex]
          refine gHo_if (fun he => ?_) (fun he => ?_)
          · unfold bX11_isRow_74
            refine gHo_l32 (by omega) (by omega) (ih' _ hn9 ?_)
            rw [jb_1]
            intro i hi
            by_cases e : i = n
            · subst e; exact he
            · exact old i (by omega)
          · unfold bX11_isRow_73 bX11_isRow_74
            refine gHo_l32 (by omega) (by omega) (ih' _ hn9 ?_)
            rw [jb_0]
            intro z
            exact he (z n (by omega))
        refine gHo_l32 (by omega) (by omega) (gHo_l32 (by omega) (by omega) (gHo_l32 (by omega) (by omega) (gHo_l32 (by omega) (by omega) (gHo_gd ⟨by omega, by omega⟩ (gHo_let ?_)))))
        refine gHo_l32 (by omega) (by omega) (gHo_l32 (by omega) (by omega) (gHo_l32 (by omega) (by omega) (gHo_if (fun hw => ?_) (fun hw => ?_))))
        · exact fin _ (by rw [if_pos hw])
        · exact gHo_l32 (by omega) (by omega) (fin _ (by rw [if_neg hw]))
      · rw [jb_0 old, if_pos rfl]
        unfold bX11_isRow_73 bX11_isRow_74
        refine gHo_l32 (by omega) (by omega) (ih' _ hn9 ?_)
        rw [jb_0]
        intro z
        exact old (fun i hi => z i (by omega))
  obtain ⟨v, t, e, rfl, rfl⟩ := main
  exact e
theorem zX11_areRows {h a g b : Int} {s : jMem} (h0 : 0 ≤ h) (h4 : h < 4) (g0 : 0 ≤ g) (g4 : g < 4) (a0 : 0 ≤ a) (a3 : a < 3) (b0 : 0 ≤ b) (b3 : b < 3) : ∃ v, fX11_areRows h a g b s = some (v, s) ∧ (v = 1 ∨ v = 0) ∧ (v = 1 ↔ yAs (vH s h) (vH s g) a b) := by
  unfold fX11_areRows yAs
  rw [zX11_isRow h0 h4 g0 g4 a0 a3 b0 b3, jBd_s]
  by_cases z : ∀ i : Nat, i < 9 → vH s h (9 * a + i) = vH s g (9 * b + (if (0 : Int) = 0 then (i : Int) else 8 - i))
  · rw [jb_1 z, if_neg (by decide)]
    refine ⟨1, rfl, Or.inl rfl, fun _ => Or.inl (fun i hi => ?_), fun _ => rfl⟩
    have := z i hi
    rw [if_pos rfl] at this
    exact this
  · rw [jb_0 z, if_pos rfl, zX11_isRow h0 h4 g0 g4 a0 a3 b0 b3, jBd_s]
    have z' : ¬ ∀ i : Nat, i < 9 → vH s h (9 * a + i) = vH s g (9 * b + i) := by
      intro y
      refine z (fun i hi => ?_)
      rw [if_pos rfl]; exact y i hi
    by_cases k : ∀ i : Nat, i < 9 → vH s h (9 * a + i) = vH s g (9 * b + (if (1 : Int) = 0 then (i : Int) else 8 - i))
    · rw [jb_1 k, if_neg (by decide)]
      refine ⟨1, rfl, Or.inl rfl, fun _ => Or.inr (fun i hi => ?_), fun _ => rfl⟩
      have := k i hi
      rw [if_neg (by decide)] at this
      exact this
    · rw [jb_0 k, if_pos rfl]
      refine ⟨0, rfl, Or.inr rfl, fun y => absurd y (by decide), ?_⟩
      rintro (y | y)
      · exact absurd y z'
      · refine absurd (fun i hi => ?_) k
        rw [if_neg (by decide)]; exact y i hi
/-- the last row's counts, as digits to the base of 8 -/
def yPow (x : Int) : Int := if x = 0 then 1 else if x = 1 then 8 else if x = 2 then 64 else if x = 3 then 512 else 4096
theorem jshl_8 {x : Int} (h0 : 0 ≤ x) (h4 : x ≤ 4) : jshl 1 (3 * x) = yPow x := by
  rcases (by omega : x = 0 ∨ x = 1 ∨ x = 2 ∨ x = 3 ∨ x = 4) with rfl | rfl | rfl | rfl | rfl <;> decide +kernel
theorem yPow_sum {v : Int → Int} {n : Nat} (h : ∀ i : Nat, i < n → 0 ≤ v i ∧ v i ≤ 4) : jSum (fun i => yPow (v i)) n = yCnt v n 0 + 8 * yCnt v n 1 + 64 * yCnt v n 2 + 512 * yCnt v n 3 + 4096 * yCnt v n 4 := by
  induction n with
  | zero => rfl
  | succ n ih =>
    have a := ih (fun i hi => h i (by omega))
    have b := h n (by omega)
    simp only [jSum, yCnt_s]
    rw [a]
    unfold yPow
    rcases (by omega : v n = 0 ∨ v n = 1 ∨ v n = 2 ∨ v n = 3 ∨ v n = 4) with e | e | e | e | e <;> rw [e] <;> simp <;> omega
theorem zX7_lastRowKey {r : Int} {s : jMem} (hk : jik r = 34) (hb : ∀ q : Int, 0 ≤ q → q < 34 → 0 ≤ s r q ∧ s r q ≤ 4) : fX7_lastRowKey r s = some (jSum (fun i => yPow (s r (27 + i))) 7, s) := by
  have main : jHo (fun v t => v = jSum (fun i => yPow (s r (27 + i))) 7 ∧ t = s) (fX7_lastRowKey r s) := by
    unfold fX7_lastRowKey
    refine gIt4 (fun b1 b2 b3 t => b1 = r ∧ t = s ∧ ∃ n : Nat, b3 = n ∧ n ≤ 7 ∧ b2 = jSum (fun i => yPow (s r (27 + i))) n ∧ 0 ≤ b2 ∧ b2 ≤ 4096 * n) (fun _ _ b3 => (9 - b3).toNat) ?_ 1000 r 0 0 s ⟨rfl, rfl, 0, rfl, by omega, rfl, by omega, by omega⟩ (by decide)
    rintro rec b1 b2 b3 t ⟨rfl, rfl, n, rfl, hn, e2, c0, c1⟩ ih
    unfold bX7_lastRowKey_4
    refine gHo_if (fun hc => ?_) (fun hc => ?_)
    · have e : n = 7 := by omega
      subst e
      exact gHo_ret ⟨e2, rfl⟩
    · have b := hb (27 + n) (by omega) (by omega)
      have p : 0 ≤ yPow (t b1 (27 + n)) ∧ yPow (t b1 (27 + n)) ≤ 4096 := by
        unfold yPow
        split
        · omega
        · split
          · omega
          · split
            · omega
            · split <;> omega
      refine gHo_l32 (by omega) (by omega) (gHo_gd ⟨by omega, by omega⟩ (gHo_let (gHo_l32 (by omega) (by omega) ?_)))
      rw [jshl_8 b.1 b.2]
      refine gHo_let (gHo_l32 (by omega) (by omega) (gHo_l32 (by omega) (by omega) (ih _ _ _ _ ⟨rfl, rfl, n + 1, by omega, by omega, ?_, by omega, by omega⟩ (by omega))))
      rw [e2]; rfl
  obtain ⟨v, t, e, rfl, rfl⟩ := main
  exact e
theorem yCnt_tot {v : Int → Int} {n : Nat} (h : ∀ i : Nat, i < n → 0 ≤ v i ∧ v i ≤ 4) : yCnt v n 0 + yCnt v n 1 + yCnt v n 2 + yCnt v n 3 + yCnt v n 4 = n := by
  induction n with
  | zero => rfl
  | succ n ih =>
    have a := ih (fun i hi => h i (by omega))
    have b := h n (by omega)
    simp only [yCnt_s]
    rcases (by omega : v n = 0 ∨ v n = 1 ∨ v n = 2 ∨ v n = 3 ∨ v n = 4) with e | e | e | e | e <;> rw [e] <;> simp <;> omega
theorem yCnt_cg {v w : Int → Int} {n : Nat} {c : Int} (h : ∀ i : Nat, i < n → v i = w i) : yCnt v n c = yCnt w n c := by
  induction n with
  | zero => rfl
  | succ n ih =>
    have a := ih (fun i hi => h i (by omega))
    have b := h n (by omega)
    rw [yCnt_s, yCnt_s, a]
    simp only [b]
/-- what both ask -/
def yLast (f g : Int → Int) : Prop := ∀ c : Nat, c < 5 → yCnt (fun i => f (27 + i)) 7 c = yCnt (fun i => g (27 + i)) 7 c
theorem yLast_as {f g : Int → Int} (hf : ∀ q : Int, 0 ≤ q → q < 34 → 0 ≤ f q ∧ f q ≤ 4) (hg : ∀ q : Int, 0 ≤ q → q < 34 → 0 ≤ g q ∧ g q ≤ 4) : jSum (fun i => yPow (f (27 + i))) 7 = jSum (fun i => yPow (g (27 + i))) 7 ↔ yLast f g := by
  have f1 : ∀ i : Nat, i < 7 → 0 ≤ f (27 + i) ∧ f (27 + i) ≤ 4 := fun i hi => hf _ (by omega) (by omega)
  have g1 : ∀ i : Nat, i < 7 → 0 ≤ g (27 + i) ∧ g (27 + i) ≤ 4 := fun i hi => hg _ (by omega) (by omega)
  have ef := yPow_sum (v := fun i => f (27 + i)) f1
  have eg := yPow_sum (v := fun i => g (27 + i)) g1
  rw [ef, eg]
  have fb := fun c => yCnt_bd (fun i => f (27 + i)) 7 c
  have gb := fun c => yCnt_bd (fun i => g (27 + i)) 7 c
  have f0 := fb 0
  have f1' := fb 1
  have f2 := fb 2
  have f3 := fb 3
  have f4 := fb 4
  have g0 := gb 0
  have g1' := gb 1
  have g2 := gb 2
  have g3 := gb 3
  have g4 := gb 4
  have ft := yCnt_tot (v := fun i => f (27 + i)) f1
  have gt := yCnt_tot (v := fun i => g (27 + i)) g1
  clear ef eg fb gb
  unfold yLast
  constructor
  · intro e
    have d : yCnt (fun i => f (27 + i)) 7 0 = yCnt (fun i => g (27 + i)) 7 0 ∧ yCnt (fun i => f (27 + i)) 7 1 = yCnt (fun i => g (27 + i)) 7 1 ∧ yCnt (fun i => f (27 + i)) 7 2 = yCnt (fun i => g (27 + i)) 7 2 ∧ yCnt (fun i => f (27 + i)) 7 3 = yCnt (fun i => g (27 + i)) 7 3 ∧ yCnt (fun i => f (27 + i)) 7 4 = yCnt (fun i => g (27 + i)) 7 4 := by
      omega
    intro c hc
    rcases (by omega : c = 0 ∨ c = 1 ∨ c = 2 ∨ c = 3 ∨ c = 4) with rfl | rfl | rfl | rfl | rfl
    · exact d.1
    · exact d.2.1
    · exact d.2.2.1
    · exact d.2.2.2.1
    · exact d.2.2.2.2
  · intro h
    have h0 := h 0 (by decide)
    have h1 := h 1 (by decide)
    have h2 := h 2 (by decide)
    have h3 := h 3 (by decide)
    have h4 := h 4 (by decide)
    simp only [Int.natCast_zero, Int.cast_ofNat_Int, Int.natCast_one] at h0 h1 h2 h3 h4
    omega
theorem yRow_bd {f : Int → Int} {a : Int} (hf : ∀ q : Int, 0 ≤ q → q < 34 → 0 ≤ f q ∧ f q ≤ 4) (a0 : 0 ≤ a) (a3 : a < 3) : 0 ≤ yRow f a ∧ yRow f a < 1953125 := by
  have k1 := yKey_9 (v := fun i => f (9 * a + i)) (Nat.le_refl 9) (fun i hi => hf _ (by omega) (by omega))
  have k2 := yKey_9 (v := fun i => f (9 * a + 8 - i)) (Nat.le_refl 9) (fun i hi => hf _ (by omega) (by omega))
  unfold yRow jmax
  split <;> omega
/-- three rows are three rows, in some order -/
def yPerm (f g : Int → Int) : Prop := (yAs f g 0 0 ∧ yAs f g 1 1 ∧ yAs f g 2 2) ∨ (yAs f g 0 0 ∧ yAs f g 1 2 ∧ yAs f g 2 1) ∨ (yAs f g 0 1 ∧ yAs f g 1 0 ∧ yAs f g 2 2) ∨ (yAs f g 0 1 ∧ yAs f g 1 2 ∧ yAs f g 2 0) ∨ (yAs f g 0 2 ∧ yAs f g 1 0 ∧ yAs f g 2 1) ∨ (yAs f g 0 2 ∧ yAs f g 1 1 ∧ yAs f g 2 0)
theorem zX7_same {r1 r2 : Int} {s : jMem} (hk1 : jik r1 = 34) (hk2 : jik r2 = 34) (hb1 : ∀ q : Int, 0 ≤ q → q < 34 → 0 ≤ s r1 q ∧ s r1 q ≤ 4) (hb2 : ∀ q : Int, 0 ≤ q → q < 34 → 0 ≤ s r2 q ∧ s r2 q ≤ 4) : ∃ v, fX7_same r1 r2 s = some (v, s) ∧ (v = 1 ∨ v = 0) ∧ (v = 1 ↔ yPerm (s r1) (s r2) ∧ yLast (s r1) (s r2)) := by
  have A := fun (a b : Int) (a0 : 0 ≤ a) (a3 : a < 3) (b0 : 0 ≤ b) (b3 : b < 3) => yRow_as (f := s r1) (g := s r2) hb1 hb2 a0 a3 b0 b3
  have L := yLast_as hb1 hb2
  have x0 := yRow_bd hb1 (a := 0) (by decide) (by decide)
  have x1 := yRow_bd hb1 (a := 1) (by decide) (by decide)
  have x2 := yRow_bd hb1 (a := 2) (by decide) (by decide)
  have y0 := yRow_bd hb2 (a := 0) (by decide) (by decide)
  have y1 := yRow_bd hb2 (a := 1) (by decide) (by decide)
  have y2 := yRow_bd hb2 (a := 2) (by decide) (by decide)
  have T := yThree (a := yRow (s r1) 0) (b := yRow (s r1) 1) (c := yRow (s r1) 2) (d := yRow (s r2) 0) (e := yRow (s r2) 1) (f := yRow (s r2) 2)
  rw [A 0 0 (by decide) (by decide) (by decide) (by decide), A 1 1 (by decide) (by decide) (by decide) (by decide), A 2 2 (by decide) (by decide) (by decide) (by decide), A 1 2 (by decide) (by decide) (by decide) (by decide), A 2 1 (by decide) (by decide) (by decide) (by decide), A 0 1 (by decide) (by decide) (by decide) (by decide), A 1 0 (by decide) (by decide) (by decide) (by decide), A 2 0 (by decide) (by decide) (by decide) (by decide), A 0 2 (by decide) (by decide) (by decide) (by decide)] at T
  unfold fX7_same
  rw [zX7_rowKey hk1 (by decide) (by decide) hb1, jBd_s, zX7_rowKey hk1 (by decide) (by decide) hb1, jBd_s, zX7_rowKey hk1 (by decide) (by decide) hb1, jBd_s, zX7_rowKey hk2 (by decide) (by decide) hb2, jBd_s, zX7_rowKey hk2 (by decide) (by decide) hb2, jBd_s, zX7_rowKey hk2 (by decide) (by decide) hb2, jBd_s]
  simp only [jLet_e]
  rw [j32_id (x := yRow (s r1) 0 + yRow (s r1) 1) (by omega) (by omega), j32_id (x := yRow (s r1) 0 + yRow (s r1) 1 + yRow (s r1) 2) (by omega) (by omega), j32_id (x := yRow (s r2) 0 + yRow (s r2) 1) (by omega) (by omega), j32_id (x := yRow (s r2) 0 + yRow (s r2) 1 + yRow (s r2) 2) (by omega) (by omega)]
  have no : ¬ (yPerm (s r1) (s r2) ∧ yLast (s r1) (s r2)) → ∃ v, (some ((0 : Int), s) : jO) = some (v, s) ∧ (v = 1 ∨ v = 0) ∧ (v = 1 ↔ yPerm (s r1) (s r2) ∧ yLast (s r1) (s r2)) := fun h => ⟨0, rfl, Or.inr rfl, fun z => absurd z (by decide), fun z => absurd z h⟩
  by_cases c1 : jmin (yRow (s r1) 0) (jmin (yRow (s r1) 1) (yRow (s r1) 2)) = jmin (yRow (s r2) 0) (jmin (yRow (s r2) 1) (yRow (s r2) 2))
  · rw [if_pos c1]
    by_cases c2 : jmax (yRow (s r1) 0) (jmax (yRow (s r1) 1) (yRow (s r1) 2)) = jmax (yRow (s r2) 0) (jmax (yRow (s r2) 1) (yRow (s r2) 2))
    · rw [if_pos c2]
      by_cases c3 : yRow (s r1) 0 + yRow (s r1) 1 + yRow (s r1) 2 = yRow (s r2) 0 + yRow (s r2) 1 + yRow (s r2) 2
      · rw [if_pos c3, zX7_lastRowKey hk1 hb1, jBd_s, zX7_lastRowKey hk2 hb2, jBd_s]
        by_cases c4 : jSum (fun i => yPow (s r1 (27 + i))) 7 = jSum (fun i => yPow (s r2 (27 + i))) 7
        · rw [if_pos c4]
          exact ⟨1, rfl, Or.inl rfl, fun _ => ⟨T.mp ⟨c1, c2, c3⟩, L.mp c4⟩, fun _ => rfl⟩
        · rw [if_neg c4]; exact no (fun z => c4 (L.mpr z.2))
      · rw [if_neg c3]; exact no (fun z => c3 (T.mpr z.1).2.2)
    · rw [if_neg c2]; exact no (fun z => c2 (T.mpr z.1).2.1)
  · rw [if_neg c1]; exact no (fun z => c1 (T.mpr z.1).1)
theorem zX11_alike21 {h g : Int} {s : jMem} (h0 : 0 ≤ h) (h4 : h < 4) (g0 : 0 ≤ g) (g4 : g < 4) {P : Int → jMem → Prop} (hk : ∀ b : Int, (b = 1 ∨ b = 0) → (b = 1 ↔ yLast (vH s h) (vH s g)) → jHo P (bX11_alike_127 h g b s)) : jHo P (jIt (fun _ _ _ _ _ => none) (bX11_alike_21 bX11_alike_127) 1000 h g 1 0 s) := by
  have u := jik_m
  refine gIt5 (fun a1 a2 a3 a4 t => a1 = h ∧ a2 = g ∧ t = s ∧ ∃ n : Nat, a4 = n ∧ n ≤ 5 ∧ (a3 = 1 ∨ a3 = 0) ∧ (a3 = 1 ↔ ∀ c : Nat, c < n → yCnt (fun i => vH s h (27 + i)) 7 c = yCnt (fun i => vH s g (27 + i)) 7 c)) (fun _ _ _ a4 => (5 - a4).toNat) ?_ 1000 h g 1 0 s ⟨rfl, rfl, rfl, 0, rfl, by omega, Or.inl rfl, fun _ c hc => by omega, fun _ => rfl⟩ (by decide)
  rintro rec a1 a2 a3 a4 t ⟨rfl, rfl, rfl, n, rfl, hn, hb, hiff⟩ ih
  unfold bX11_alike_21
  refine gHo_if (fun hc => ?_) (fun hc => ?_)
  · have e : n = 5 := by omega
    subst e
    exact hk a3 hb hiff
  · refine gIt8 (fun b1 b2 b3 b4 b5 b6 b7 z => b1 = a1 ∧ b2 = a2 ∧ b3 = a3 ∧ b4 = n ∧ z = t ∧ ∃ m : Nat, b7 = 27 + (m : Int) ∧ m ≤ 7 ∧ b5 = yCnt (fun i => vH t a1 (27 + i)) m n ∧ b6 = yCnt (fun i => vH t a2 (27 + i)) m n) (fun _ _ _ _ _ _ b7 => (34 - b7).toNat) ?_ 1000 a1 a2 a3 n 0 0 27 t ⟨rfl, rfl, rfl, rfl, rfl, 0, rfl, by omega, rfl, rfl⟩ (by decide)
    rintro rec2 b1 b2 b3 b4 b5 b6 b7 z ⟨rfl, rfl, rfl, rfl, rfl, m, rfl, hm, rfl, rfl⟩ ih2
    have k1 := yCnt_bd (fun i => vH z b1 (27 + i)) m n
    have k2 := yCnt_bd (fun i => vH z b2 (27 + i)) m n
    unfold bX11_alike_37
    refine gHo_if (fun hc2 => ?_) (fun hc2 => ?_)
    · have e : m = 7 := by omega
      subst e
      unfold bX11_alike_104
      refine gHo_if (fun e0 => ?_) (fun e0 => ?_)
      · unfold bX11_alike_119 bX11_alike_120
        refine gHo_l32 (by omega) (by omega) (ih _ _ _ _ _ ⟨rfl, rfl, rfl, n + 1, by omega, by omega, Or.inr rfl, fun y => absurd y (by decide), fun y => ?_⟩ (by omega))
        have := hiff.mpr (fun c hc => y c (by omega))
        omega
      · refine gHo_if (fun e1 => ?_) (fun e1 => ?_)
        · unfold bX11_alike_120
          refine gHo_l32 (by omega) (by omega) (ih _ _ _ _ _ ⟨rfl, rfl, rfl, n + 1, by omega, by omega, Or.inl rfl, fun _ c hc => ?_, fun _ => rfl⟩ (by omega))
          by_cases e : c = n
          · subst e; exact e1
          · exact hiff.mp (by omega) c (by omega)
        · unfold bX11_alike_119 bX11_alike_120
          refine gHo_l32 (by omega) (by omega) (ih _ _ _ _ _ ⟨rfl, rfl, rfl, n + 1, by omega, by omega, Or.inr rfl, fun y => absurd y (by decide), fun y => absurd (y n (by omega)) e1⟩ (by omega))
    · have go : ∀ x1 x2 : Int, x1 = (if vH z b1 (27 + m) = n then 1 else 0) → x2 = (if vH z b2 (27 + m) = n then 1 else 0) → jHo P (bX11_alike_95 rec2 b1 b2 b3 n (yCnt (fun i => vH z b1 (27 + i)) m n + x1) (27 + m) (yCnt (fun i => vH z b2 (27 + i)) m n) x2 z) := by
        intro x1 x2 h1 h2
        have : 0 ≤ x2 ∧ x2 ≤ 1 := by rw [h2]; split <;> omega
        unfold bX11_alike_95
        refine gHo_l32 (by omega) (by omega) (gHo_l32 (by omega) (by omega) (ih2 _ _ _ _ _ _ _ _ ⟨rfl, rfl, rfl, rfl, rfl, m + 1, by omega, by omega, ?_, ?_⟩ (by omega)))
        · rw [h1]; rfl
        · rw [h2]; rfl
      have go2 : ∀ x1 : Int, x1 = (if vH z b1 (27 + m) = n then 1 else 0) → jHo P (bX11_alike_68 rec2 b1 b2 b3 n (yCnt (fun i => vH z b2 (27 + i)) m n) (27 + m) (yCnt (fun i => vH z b1 (27 + i)) m n) x1 z) := by
        intro x1 h1
        have : 0 ≤ x1 ∧ x1 ≤ 1 := by rw [h1]; split <;> omega
        unfold bX11_alike_68
        refine gHo_l32 (by omega) (by omega) (gHo_l32 (by omega) (by omega) (gHo_l32 (by omega) (by omega) (gHo_gd ⟨by omega, by omega⟩ (gHo_let ?_))))
        refine gHo_if (fun e => ?_) (fun e => ?_)
        · exact go x1 1 h1 (by rw [if_pos (show vH z b2 (27 + m) = n from e)])
        · exact go x1 0 h1 (by rw [if_neg (show ¬ vH z b2 (27 + m) = n from e)])
      refine gHo_l32 (by omega) (by omega) (gHo_l32 (by omega) (by omega) (gHo_gd ⟨by omega, by omega⟩ (gHo_let ?_)))
      refine gHo_if (fun e => ?_) (fun e => ?_)
      · exact go2 1 (by rw [if_pos (show vH z b1 (27 + m) = n from e)])
      · exact go2 0 (by rw [if_neg (show ¬ vH z b1 (27 + m) = n from e)])
/-- a first place x, a second y, the third what is left -/
def yPl (f g : Int → Int) (x y : Int) : Prop := x ≠ y ∧ yAs f g 0 x ∧ yAs f g 1 y ∧ yAs f g 2 (3 - x - y)
theorem yPl_perm {f g : Int → Int} : (∃ x y : Nat, x < 3 ∧ y < 3 ∧ yPl f g x y) ↔ yPerm f g := by
  unfold yPl yPerm
  constructor
  · rintro ⟨x, y, hx, hy, n, a, b, c⟩
    rcases (by omega : x = 0 ∨ x = 1 ∨ x = 2) with rfl | rfl | rfl <;> rcases (by omega : y = 0 ∨ y = 1 ∨ y = 2) with rfl | rfl | rfl
    · exact absurd rfl n
    · exact Or.inl ⟨a, b, c⟩
    · exact Or.inr (Or.inl ⟨a, b, c⟩)
    · exact Or.inr (Or.inr (Or.inl ⟨a, b, c⟩))
    · exact absurd rfl n
    · exact Or.inr (Or.inr (Or.inr (Or.inl ⟨a, b, c⟩)))
    · exact Or.inr (Or.inr (Or.inr (Or.inr (Or.inl ⟨a, b, c⟩))))
    · exact Or.inr (Or.inr (Or.inr (Or.inr (Or.inr ⟨a, b, c⟩))))
    · exact absurd rfl n
  · rintro (⟨a, b, c⟩ | ⟨a, b, c⟩ | ⟨a, b, c⟩ | ⟨a, b, c⟩ | ⟨a, b, c⟩ | ⟨a, b, c⟩)
    · exact ⟨0, 1, by decide, by decide, by decide, a, b, c⟩
    · exact ⟨0, 2, by decide, by decide, by decide, a, b, c⟩
    · exact ⟨1, 0, by decide, by decide, by decide, a, b, c⟩
    · exact ⟨1, 2, by decide, by decide, by decide, a, b, c⟩
    · exact ⟨2, 0, by decide, by decide, by decide, a, b, c⟩
    · exact ⟨2, 1, by decide, by decide, by decide, a, b, c⟩
theorem zX11_alike127 {h g b : Int} {s : jMem} (h0 : 0 ≤ h) (h4 : h < 4) (g0 : 0 ≤ g) (g4 : g < 4) (hb : b = 1 ∨ b = 0) : jHo (fun v t => t = s ∧ (v = 1 ∨ v = 0) ∧ (v = 1 ↔ b = 1 ∧ yPerm (vH s h) (vH s g))) (bX11_alike_127 h g b s) := by
  unfold bX11_alike_127
  refine gIt6 (fun a1 a2 a3 a4 a5 t => a1 = h ∧ a2 = g ∧ a3 = b ∧ t = s ∧ ∃ n : Nat, a5 = n ∧ n ≤ 3 ∧ (a4 = 1 ∨ a4 = 0) ∧ (a4 = 1 ↔ ∃ x y : Nat, x < n ∧ y < 3 ∧ yPl (vH s h) (vH s g) x y)) (fun _ _ _ _ a5 => (3 - a5).toNat) ?_ 1000 h g b 0 0 s ⟨rfl, rfl, rfl, rfl, 0, rfl, by omega, Or.inr rfl, fun z => absurd z (by decide), fun ⟨x, y, z, _⟩ => by omega⟩ (by decide)
  rintro rec a1 a2 a3 a4 a5 t ⟨rfl, rfl, rfl, rfl, n, rfl, hn, hb4, hiff⟩ ih
  unfold bX11_alike_133
  refine gHo_if (fun hc => ?_) (fun hc => ?_)
  · have e : n = 3 := by omega
    subst e
    have hp := hiff.trans yPl_perm
    unfold bX11_alike_224
    refine gHo_if (fun e0 => ?_) (fun e0 => ?_)
    · exact gHo_ret ⟨rfl, Or.inr rfl, fun z => absurd z (by decide), fun z => absurd (e0.symm.trans z.1) (by decide)⟩
    · refine gHo_if (fun e1 => ?_) (fun e1 => ?_)
      · exact gHo_ret ⟨rfl, Or.inr rfl, fun z => absurd z (by decide), fun z => by have := hp.mpr z.2; omega⟩
      · exact gHo_ret ⟨rfl, Or.inl rfl, fun _ => ⟨hb.resolve_right e0, hp.mp (hb4.resolve_right e1)⟩, fun _ => rfl⟩
  · refine gIt7 (fun b1 b2 b3 b4 b5 b6 z => b1 = a1 ∧ b2 = a2 ∧ b3 = a3 ∧ b5 = n ∧ z = t ∧ ∃ m : Nat, b6 = m ∧ m ≤ 3 ∧ (b4 = 1 ∨ b4 = 0) ∧ (b4 = 1 ↔ ∃ x y : Nat, (x < n ∧ y < 3 ∨ x = n ∧ y < m) ∧ yPl (vH t a1) (vH t a2) x y)) (fun _ _ _ _ _ b6 => (3 - b6).toNat) ?_ 1000 a1 a2 a3 a4 n 0 t ⟨rfl, rfl, rfl, rfl, rfl, 0, rfl, by omega, hb4, fun z => ?_, fun ⟨x, y, z, k⟩ => hiff.mpr ⟨x, y, by omega, by omega, k⟩⟩ (by decide)
    · rintro rec2 b1 b2 b3 b4 b5 b6 z ⟨rfl, rfl, rfl, rfl, rfl, m, rfl, hm, hb4', hiff'⟩ ih2
      unfold bX11_alike_142
      refine gHo_if (fun hc2 => ?_) (fun hc2 => ?_)
      · have e : m = 3 := by omega
        subst e
        unfold bX11_alike_218
        refine gHo_l32 (by omega) (by omega) (ih _ _ _ _ _ _ ⟨rfl, rfl, rfl, rfl, n + 1, by omega, by omega, hb4', fun y => ?_, fun ⟨x, y, x1, y1, k⟩ => hiff'.mpr ⟨x, y, by omega, k⟩⟩ (by omega))
        obtain ⟨x, y, xy, k⟩ := hiff'.mp y
        exact ⟨x, y, by omega, by omega, k⟩
      · have yes : yPl (vH z b1) (vH z b2) n m ∨ b4 = 1 → jHo (fun v t' => t' = z ∧ (v = 1 ∨ v = 0) ∧ (v = 1 ↔ b3 = 1 ∧ yPerm (vH z b1) (vH z b2))) (bX11_alike_205 (bX11_alike_210 rec2) b1 b2 b3 n m z) := by
          intro hy
          unfold bX11_alike_205 bX11_alike_210
          refine gHo_l32 (by omega) (by omega) (ih2 _ _ _ _ _ _ _ ⟨rfl, rfl, rfl, rfl, rfl, m + 1, by omega, by omega, Or.inl rfl, fun _ => ?_, fun _ => rfl⟩ (by omega))
          rcases hy with hy | hy
          · exact ⟨n, m, by omega, hy⟩
          · obtain ⟨x, y, xy, k⟩ := hiff'.mp hy
            exact ⟨x, y, by omega, k⟩
        have no : ¬ yPl (vH z b1) (vH z b2) n m → b4 = 0 → jHo (fun v t' => t' = z ∧ (v = 1 ∨ v = 0) ∧ (v = 1 ↔ b3 = 1 ∧ yPerm (vH z b1) (vH z b2))) (bX11_alike_209 (bX11_alike_210 rec2) b1 b2 b3 n m z) := by
          intro hy hz
          unfold bX11_alike_209 bX11_alike_210
          refine gHo_l32 (by omega) (by omega) (ih2 _ _ _ _ _ _ _ ⟨rfl, rfl, rfl, rfl, rfl, m + 1, by omega, by omega, Or.inr rfl, fun z => absurd z (by decide), fun ⟨x, y, xy, k⟩ => ?_⟩ (by omega))
          by_cases e : x = n ∧ y = m
          · obtain ⟨rfl, rfl⟩ := e; exact absurd k hy
          · have := hiff'.mpr ⟨x, y, by omega, k⟩
            omega
        refine gHo_l32 (by omega) (by omega) (gHo_l32 (by omega) (by omega) (gHo_if (fun e4 => ?_) (fun e4 => ?_)))
        · refine gHo_if (fun enm => ?_) (fun enm => ?_)
          · exact no (fun k => k.1 enm) e4
          · obtain ⟨v1, q1, q2, q3⟩ := zX11_areRows (h := b1) (g := b2) (a := 0) (b := n) (s := z) h0 h4 g0 g4 (by decide) (by decide) (by omega) (by omega)
            rw [q1, jBd_s]
            refine gHo_if (fun w1 => ?_) (fun w1 => ?_)
            · exact no (fun k => by have := q3.mpr k.2.1; omega) e4
            · obtain ⟨v2, p1, p2, p3⟩ := zX11_areRows (h := b1) (g := b2) (a := 1) (b := m) (s := z) h0 h4 g0 g4 (by decide) (by decide) (by omega) (by omega)
              rw [p1, jBd_s]
              refine gHo_if (fun w2 => ?_) (fun w2 => ?_)
              · exact no (fun k => by have := p3.mpr k.2.2.1; omega) e4
              · obtain ⟨v3, r1, r2, r3⟩ := zX11_areRows (h := b1) (g := b2) (a := 2) (b := 3 - (n : Int) - m) (s := z) h0 h4 g0 g4 (by decide) (by decide) (by omega) (by omega)
                rw [r1, jBd_s]
                refine gHo_if (fun w3 => ?_) (fun w3 => ?_)
                · exact no (fun k => by have := r3.mpr k.2.2.2; omega) e4
                · exact yes (Or.inl ⟨enm, q3.mp (by omega), p3.mp (by omega), r3.mp (by omega)⟩)
        · exact yes (Or.inr (by omega))
    · obtain ⟨x, y, x1, y1, k⟩ := hiff.mp z
      exact ⟨x, y, by omega, k⟩
theorem op_alike {h g : Int} {s : jMem} (hI : iT s) : ∃ v, fX10_alike h g s = some (v, s) ∧ fX11_alike h g s = some (v, s) := by
  have w := jrk_t
  by_cases hh : 0 ≤ h ∧ h < 4
  · obtain ⟨h0, h4⟩ := hh
    by_cases hg : 0 ≤ g ∧ g < 4
    · obtain ⟨g0, g4⟩ := hg
      obtain ⟨t0, t1, t2, t3, t4, t5, t6, t7, t8, t9⟩ := jh_t h0 h4
      obtain ⟨u0, u1, u2, u3, u4, u5, u6, u7, u8, u9⟩ := jh_t g0 g4
      have ah := (hI.2.1 h h0 h4).1
      have ag := (hI.2.1 g g0 g4).1
      obtain ⟨v, e1, e2, e3⟩ := zX7_same (s := s) t5 u5 (fun q q0 q4 => by have := ah q q0 q4; omega) (fun q q0 q4 => by have := ag q q0 q4; omega)
      have m : jHo (fun v t => t = s ∧ (v = 1 ∨ v = 0) ∧ (v = 1 ↔ yLast (vH s h) (vH s g) ∧ yPerm (vH s h) (vH s g))) (fX11_alike h g s) := by
        rw [fX11_alike, sX11_isHand, jBd_s, jb_1 ⟨h0, by omega⟩, if_neg (by decide), sX11_isHand, jBd_s, jb_1 ⟨g0, by omega⟩, if_neg (by decide)]
        refine zX11_alike21 h0 h4 g0 g4 (fun b hb hl => ?_)
        refine gHo_mono (zX11_alike127 h0 h4 g0 g4 hb) (fun v t hv => ⟨hv.1, hv.2.1, hv.2.2.trans (and_congr_left (fun _ => hl))⟩)
      obtain ⟨v', s', f1, rfl, f2, f3⟩ := m
      have eq1 : ∀ a b : Int, 0 ≤ a → a < 3 → 0 ≤ b → b < 3 → (yAs (s' (38 + 4 * h)) (s' (38 + 4 * g)) a b ↔ yAs (vH s' h) (vH s' g) a b) := by
        intro a b a0 a3 b0 b3
        unfold yAs
        have p : ∀ i : Nat, i < 9 → s' (38 + 4 * h) (9 * a + i) = vH s' h (9 * a + i) := fun i hi => (ah _ (by omega) (by omega)).1
        have q : ∀ i : Nat, i < 9 → s' (38 + 4 * g) (9 * b + i) = vH s' g (9 * b + i) := fun i hi => (ag _ (by omega) (by omega)).1
        have r : ∀ i : Nat, i < 9 → s' (38 + 4 * g) (9 * b + (8 - (i : Int))) = vH s' g (9 * b + (8 - i)) := fun i hi => (ag _ (by omega) (by omega)).1
        constructor
        · rintro (z | z)
          · exact Or.inl (fun i hi => by rw [← p i hi, ← q i hi]; exact z i hi)
          · exact Or.inr (fun i hi => by rw [← p i hi, ← r i hi]; exact z i hi)
        · rintro (z | z)
          · exact Or.inl (fun i hi => by rw [p i hi, q i hi]; exact z i hi)
          · exact Or.inr (fun i hi => by rw [p i hi, r i hi]; exact z i hi)
      have eqP : yPerm (s' (38 + 4 * h)) (s' (38 + 4 * g)) ↔ yPerm (vH s' h) (vH s' g) := by
        unfold yPerm
        rw [eq1 0 0 (by decide) (by decide) (by decide) (by decide), eq1 1 1 (by decide) (by decide) (by decide) (by decide), eq1 2 2 (by decide) (by decide) (by decide) (by decide), eq1 1 2 (by decide) (by decide) (by decide) (by decide), eq1 2 1 (by decide) (by decide) (by decide) (by decide), eq1 0 1 (by decide) (by decide) (by decide) (by decide), eq1 1 0 (by decide) (by decide) (by decide) (by decide), eq1 2 0 (by decide) (by decide) (by decide) (by decide), eq1 0 2 (by decide) (by decide) (by decide) (by decide)]
      have eqL : yLast (s' (38 + 4 * h)) (s' (38 + 4 * g)) ↔ yLast (vH s' h) (vH s' g) := by
        unfold yLast
        have p : ∀ c : Int, yCnt (fun i => s' (38 + 4 * h) (27 + i)) 7 c = yCnt (fun i => vH s' h (27 + i)) 7 c := fun c => yCnt_cg (fun i hi => (ah (27 + i) (by omega) (by omega)).1)
        have q : ∀ c : Int, yCnt (fun i => s' (38 + 4 * g) (27 + i)) 7 c = yCnt (fun i => vH s' g (27 + i)) 7 c := fun c => yCnt_cg (fun i hi => (ag (27 + i) (by omega) (by omega)).1)
        simp only [p, q]
      rw [eqP, eqL] at e3
      have ev : v' = v := by
        by_cases z : yPerm (vH s' h) (vH s' g) ∧ yLast (vH s' h) (vH s' g)
        · rw [e3.mpr z, f3.mpr ⟨z.2, z.1⟩]
        · have a : v ≠ 1 := fun y => z (e3.mp y)
          have b : v' ≠ 1 := fun y => z ⟨(f3.mp y).2, (f3.mp y).1⟩
          omega
      subst ev
      refine ⟨v', ?_, f1⟩
      rw [fX10_alike, sX10_isHand, jBd_s, jb_1 ⟨h0, h4⟩, if_neg (by decide), sX10_isHand, jBd_s, jb_1 ⟨g0, g4⟩, if_neg (by decide), jGd_e ⟨h0, by omega⟩, jLet_e, t0, jGd_e t1, jLet_e, t2, jGd_e ⟨g0, by omega⟩, jLet_e, u0, jGd_e u1, jLet_e, u2, e1, jBd_s]
      rcases f2 with rfl | rfl
      · rw [if_neg (by decide)]; rfl
      · rw [if_pos rfl]; rfl
    · refine ⟨-1, ?_, ?_⟩
      · rw [fX10_alike, sX10_isHand, jBd_s, jb_1 ⟨h0, h4⟩, if_neg (by decide), sX10_isHand, jBd_s, jb_0 hg, if_pos rfl]; rfl
      · rw [fX11_alike, sX11_isHand, jBd_s, jb_1 ⟨h0, by omega⟩, if_neg (by decide), sX11_isHand, jBd_s, jb_0 (by omega), if_pos rfl]; rfl
  · refine ⟨-1, ?_, ?_⟩
    · rw [fX10_alike, sX10_isHand, jBd_s, jb_0 hh, if_pos rfl]; rfl
    · rw [fX11_alike, sX11_isHand, jBd_s, jb_0 (by omega), if_pos rfl]; rfl
end

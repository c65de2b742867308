/-! ===== lacks: plans of rows ===== -/
section
def yMx (x : Int) : Int := if 0 < x then x else 0
theorem yMx_bd {x : Int} : 0 ≤ yMx x ∧ x ≤ yMx x := by unfold yMx; split <;> omega
/-- plans of a row's first places: runs begun at the last place, at the one before, groups, pairs, and how many of each sort are used -/
def yRP (L : Int → Int) (r K : Int) : Nat → Int → Int → Int → Int → (Int → Int) → Prop
  | 0, a, b, g, p, _ => a = 0 ∧ b = 0 ∧ g = 0 ∧ p = 0
  | i + 1, a, b, g, p, n => ∃ c t q : Int, yRP L r K i b c (g - a - t) (p - q) n ∧ 0 ≤ a ∧ a ≤ (if r < 3 ∧ i < 7 then K else 0) ∧ (t = 0 ∨ t = 1) ∧ (q = 0 ∨ q = 1) ∧ g ≤ 4 ∧ p ≤ 1 ∧ n (9 * r + i) = a + b + c + 3 * t + 2 * q ∧ n (9 * r + i) + L (9 * r + i) ≤ 4
theorem yRP_cg {L : Int → Int} {r K : Int} : ∀ (i : Nat) (a b g p : Int) (n m : Int → Int), (∀ j : Nat, j < i → n (9 * r + j) = m (9 * r + j)) → yRP L r K i a b g p n → yRP L r K i a b g p m := by
  intro i
  induction i with
  | zero => intro a b g p n m _ h; exact h
  | succ i ih =>
    intro a b g p n m he ⟨c, t, q, h1, h2, h3, h4, h5, h6, h7, h8, h9⟩
    have e := he i (by omega)
    exact ⟨c, t, q, ih _ _ _ _ n m (fun j hj => he j (by omega)) h1, h2, h3, h4, h5, h6, h7, by rw [← e]; exact h8, by rw [← e]; exact h9⟩
theorem yRP_bd {L : Int → Int} {r K : Int} (hK : 0 ≤ K) : ∀ (i : Nat) (a b g p : Int) (n : Int → Int), yRP L r K i a b g p n → (0 ≤ a ∧ a ≤ K) ∧ (0 ≤ b ∧ b ≤ K) ∧ (0 ≤ g ∧ g ≤ 4 ∧ a + b ≤ g) ∧ (0 ≤ p ∧ p ≤ 1) ∧ (∀ j : Nat, j < i → 0 ≤ n (9 * r + j)) ∧ jSum (fun j => n (9 * r + j)) i = 3 * g + 2 * p - 2 * a - b := by
  intro i
  induction i with
  | zero =>
    intro a b g p n ⟨h1, h2, h3, h4⟩
    refine ⟨by omega, by omega, by omega, by omega, fun j hj => by omega, ?_⟩
    show (0 : Int) = _
    omega
  | succ i ih =>
    intro a b g p n ⟨c, t, q, h1, h2, h3, h4, h5, h6, h7, h8, h9⟩
    obtain ⟨b1, b2, b3, b4, b5, b6⟩ := ih _ _ _ _ n h1
    have aK : a ≤ K := by split at h3 <;> omega
    refine ⟨⟨h2, aK⟩, b1, by omega, by omega, fun j hj => ?_, ?_⟩
    · by_cases e : j = i
      · subst e; omega
      · exact b5 j (by omega)
    · simp only [jSum]
      rw [b6, h8]; omega
/-- more than two runs alike are as good as threes -/
theorem yRP_42 {L : Int → Int} {r : Int} : ∀ (i : Nat), (∀ j : Nat, j < i → 0 ≤ L (9 * r + j)) → ∀ (a b g p : Int) (n : Int → Int), yRP L r 4 i a b g p n → yRP L r 2 i (a - 3 * (if 3 ≤ a then 1 else 0)) (b - 3 * (if 3 ≤ b then 1 else 0)) (g - 2 * (if 3 ≤ a then 1 else 0) - (if 3 ≤ b then 1 else 0)) p n := by
  intro i
  induction i with
  | zero =>
    intro _ a b g p n ⟨h1, h2, h3, h4⟩
    subst h1 h2
    exact ⟨rfl, rfl, by simp; omega, h4⟩
  | succ i ih =>
    intro hL a b g p n ⟨c, t, q, h1, h2, h3, h4, h5, h6, h7, h8, h9⟩
    have k := ih (fun j hj => hL j (by omega)) _ _ _ _ n h1
    obtain ⟨b1, b2, b3, b4, b5, b6⟩ := yRP_bd (by decide) _ _ _ _ _ n h1
    have l := hL i (by omega)
    obtain ⟨x, hx⟩ : ∃ x, x = if 3 ≤ a then (1 : Int) else 0 := ⟨_, rfl⟩
    obtain ⟨y, hy⟩ : ∃ y, y = if 3 ≤ b then (1 : Int) else 0 := ⟨_, rfl⟩
    obtain ⟨z, hz⟩ : ∃ z, z = if 3 ≤ c then (1 : Int) else 0 := ⟨_, rfl⟩
    rw [← hy, ← hz] at k
    rw [← hx, ← hy]
    have xb : (x = 1 ∧ 3 ≤ a) ∨ (x = 0 ∧ a < 3) := by rw [hx]; split <;> omega
    have yb : (y = 1 ∧ 3 ≤ b) ∨ (y = 0 ∧ b < 3) := by rw [hy]; split <;> omega
    have zb : (z = 1 ∧ 3 ≤ c) ∨ (z = 0 ∧ c < 3) := by rw [hz]; split <;> omega
    have a4 : a ≤ 4 := by split at h3 <;> omega
    refine ⟨c - 3 * z, t + x + y + z, q, ?_, by omega, ?_, by omega, h5, by omega, h7, by rw [h8]; omega, h9⟩
    · have e : g - 2 * x - y - (a - 3 * x) - (t + x + y + z) = g - a - t - 2 * y - z := by omega
      rw [e]; exact k
    · by_cases c1 : r < 3 ∧ i < 7
      · rw [if_pos c1]; omega
      · rw [if_neg c1] at h3 ⊢; omega
theorem yRP_24 {L : Int → Int} {r : Int} : ∀ (i : Nat) (a b g p : Int) (n : Int → Int), yRP L r 2 i a b g p n → yRP L r 4 i a b g p n := by
  intro i
  induction i with
  | zero => intro a b g p n h; exact h
  | succ i ih =>
    intro a b g p n ⟨c, t, q, h1, h2, h3, h4⟩
    refine ⟨c, t, q, ih _ _ _ _ n h1, h2, ?_, h4⟩
    split at h3 <;> split <;> omega
/-- a row's places; its plans with so many groups and pairs -/
def yLn (r : Int) : Nat := if r < 3 then 9 else 7
def yRw (L : Int → Int) (r K g p : Int) (n : Int → Int) : Prop := yRP L r K (yLn r) 0 0 g p n
theorem yRw_K {L : Int → Int} {r g p : Int} {n : Int → Int} (hL : ∀ j : Nat, j < yLn r → 0 ≤ L (9 * r + j)) : yRw L r 2 g p n ↔ yRw L r 4 g p n := by
  unfold yRw
  constructor
  · exact yRP_24 _ _ _ _ _ n
  · intro h
    have := yRP_42 (yLn r) hL 0 0 g p n h
    simpa using this
/-- behind the last places no runs are open -/
theorem yRP_end {L : Int → Int} {r K : Int} {a b g p : Int} {n : Int → Int} (h : yRP L r K (yLn r) a b g p n) : a = 0 ∧ b = 0 := by
  unfold yLn at h
  by_cases e : r < 3
  · rw [if_pos e] at h
    obtain ⟨c, t, q, ⟨c', t', q', -, k2, k3, -⟩, h2, h3, -⟩ := h
    rw [if_neg (fun z => absurd z.2 (by decide))] at h3 k3
    omega
  · rw [if_neg e] at h
    obtain ⟨c, t, q, ⟨c', t', q', -, k2, k3, -⟩, h2, h3, -⟩ := h
    rw [if_neg (fun z => e z.1)] at h3 k3
    omega
/-- the tiles that are to come, for the first i places -/
def yCo (H : Int → Int) (r : Int) (n : Int → Int) (i : Nat) : Int := jSum (fun j => yMx (n (9 * r + j) - H (9 * r + j))) i
theorem yCo_s (H : Int → Int) (r : Int) (n : Int → Int) (i : Nat) : yCo H r n (i + 1) = yCo H r n i + yMx (n (9 * r + i) - H (9 * r + i)) := rfl
theorem yCo_cg {H : Int → Int} {r : Int} {n m : Int → Int} {i : Nat} (h : ∀ j : Nat, j < i → n (9 * r + j) = m (9 * r + j)) : yCo H r n i = yCo H r m i := jSum_cg (fun j hj => by rw [h j hj])
theorem yCo_bd {H : Int → Int} {L : Int → Int} {r K : Int} (hK : 0 ≤ K) {i : Nat} (hH : ∀ j : Nat, j < i → 0 ≤ H (9 * r + j)) {a b g p : Int} {n : Int → Int} (h : yRP L r K i a b g p n) : 0 ≤ yCo H r n i ∧ yCo H r n i ≤ 14 := by
  obtain ⟨b1, b2, b3, b4, b5, b6⟩ := yRP_bd hK _ _ _ _ _ n h
  have le := jSum_le (f := fun j => yMx (n (9 * r + j) - H (9 * r + j))) (g := fun j => n (9 * r + j)) (n := i) (fun j hj => by
    have := b5 j hj
    have := hH j (by omega)
    unfold yMx
    split <;> omega)
  have ge := jSum_le (f := fun _ => 0) (g := fun j => yMx (n (9 * r + j) - H (9 * r + j))) (n := i) (fun j hj => yMx_bd.1)
  rw [jSum_0] at ge
  unfold yCo
  omega
/-- a plan's last place set anew -/
def yUp (n : Int → Int) (x v : Int) : Int → Int := fun q => if q = x then v else n q
theorem yUp_at {n : Int → Int} {x v : Int} : yUp n x v x = v := by unfold yUp; rw [if_pos rfl]
theorem yUp_o {n : Int → Int} {x v q : Int} (h : q ≠ x) : yUp n x v q = n q := by unfold yUp; rw [if_neg h]
/-- from a plan to one of a place more -/
theorem yRP_on {L : Int → Int} {r K : Int} {i : Nat} {a b c g p t q : Int} {n : Int → Int} (h : yRP L r K i b c g p n) (ha : 0 ≤ a ∧ a ≤ (if r < 3 ∧ i < 7 then K else 0)) (ht : t = 0 ∨ t = 1) (hq : q = 0 ∨ q = 1) (hg : g + a + t ≤ 4) (hp : p + q ≤ 1) (hu : a + b + c + 3 * t + 2 * q + L (9 * r + i) ≤ 4) : yRP L r K (i + 1) a b (g + a + t) (p + q) (yUp n (9 * r + i) (a + b + c + 3 * t + 2 * q)) := by
  refine ⟨c, t, q, ?_, ha.1, ha.2, ht, hq, hg, hp, yUp_at, by rw [yUp_at]; exact hu⟩
  rw [show g + a + t - a - t = g by omega, show p + q - q = p by omega]
  exact yRP_cg i _ _ _ _ n _ (fun j hj => (yUp_o (by omega)).symm) h
theorem yCo_on {H : Int → Int} {r : Int} {i : Nat} {v : Int} {n : Int → Int} : yCo H r (yUp n (9 * r + i) v) (i + 1) = yCo H r n i + yMx (v - H (9 * r + i)) := by
  rw [yCo_s, yUp_at, yCo_cg (m := n) (fun j hj => yUp_o (by omega))]
end

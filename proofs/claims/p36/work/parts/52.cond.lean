/-! ===== worth: conditions, by numbers ===== -/
section
theorem jand_1 (x : Int) : jand x 1 = 0 ∨ jand x 1 = 1 := by
  unfold jand
  have h : (Int32.ofInt x &&& Int32.ofInt 1).toBitVec.toNat ≤ 1 := by
    show ((Int32.ofInt x).toBitVec &&& (Int32.ofInt 1).toBitVec).toNat ≤ 1
    rw [BitVec.toNat_and]
    exact Nat.and_le_right
  have e : (Int32.ofInt x &&& Int32.ofInt 1).toInt = ((Int32.ofInt x &&& Int32.ofInt 1).toBitVec.toNat : Int) := by
    show (Int32.ofInt x &&& Int32.ofInt 1).toBitVec.toInt = _
    rw [BitVec.toInt_eq_toNat_of_lt (by omega)]
  rw [e]
  omega
theorem jor_up : ∀ k : Nat, k < 10 → ∀ x : Nat, x < 2 ^ k → jor (x : Int) (((2 ^ k : Nat)) : Int) = (x : Int) + ((2 ^ k : Nat) : Int) ∧ jor (x : Int) 0 = x := by decide +kernel
/-- a bit more, or none -/
theorem jor_b {k : Nat} {x : Int} {c : Prop} [Decidable c] (hk : k < 10) (h0 : 0 ≤ x) (h1 : x < ((2 ^ k : Nat) : Int)) : jor x (if c then ((2 ^ k : Nat) : Int) else 0) = x + (if c then ((2 ^ k : Nat) : Int) else 0) := by
  obtain ⟨n, rfl⟩ := jnn h0
  have := jor_up k hk n (by omega)
  split
  · exact this.1
  · rw [this.2]; omega
/-- what a code has, in a list -/
def yUs : List Int → Int → Int
  | [], _ => 0
  | x :: c, q => jUse x q + yUs c q
theorem jUse_nn {x q : Int} (hx : 0 ≤ x) : 0 ≤ jUse x q := by
  unfold jUse
  split
  · split <;> omega
  · split <;> omega
theorem yUs_nn {c : List Int} (hc : ∀ x, x ∈ c → 0 ≤ x) (q : Int) : 0 ≤ yUs c q := by
  induction c with
  | nil => exact Int.le_refl 0
  | cons x c ih =>
    have a := ih (fun y hy => hc y (List.mem_cons_of_mem _ hy))
    have b := jUse_nn (q := q) (hc x (List.mem_cons_self ..))
    simp only [yUs]; omega
theorem yUs_in {c : List Int} (hc : ∀ x, x ∈ c → 0 ≤ x) (q : Int) (h : 0 < yUs c q) : ∃ x, x ∈ c ∧ 0 < jUse x q := by
  induction c with
  | nil => simp [yUs] at h
  | cons x c ih =>
    simp only [yUs] at h
    by_cases e : 0 < jUse x q
    · exact ⟨x, List.mem_cons_self .., e⟩
    · obtain ⟨y, hy, k⟩ := ih (fun y hy => hc y (List.mem_cons_of_mem _ hy)) (by have := jUse_nn (q := q) (hc x (List.mem_cons_self ..)); omega)
      exact ⟨y, List.mem_cons_of_mem _ hy, k⟩
theorem yUs_ge {c : List Int} (hc : ∀ x, x ∈ c → 0 ≤ x) (q : Int) {x : Int} (h : x ∈ c) : jUse x q ≤ yUs c q := by
  induction c with
  | nil => simp at h
  | cons y c ih =>
    have a := jUse_nn (q := q) (hc y (List.mem_cons_self ..))
    have b := yUs_nn (c := c) (fun z hz => hc z (List.mem_cons_of_mem _ hz)) q
    simp only [yUs]
    rcases List.mem_cons.mp h with rfl | h
    · omega
    · have := ih (fun z hz => hc z (List.mem_cons_of_mem _ hz)) h
      omega
/-- a way's groups are the hand -/
theorem yV_us : ∀ (w : Nat) (H : Int → Int) (f rf : Int) (c : List Int), yOk w H → 0 ≤ f → f ≤ 34 → c ∈ yV w H f rf → (∀ q : Int, 0 ≤ q → q < 34 → H q = yUs c q) ∧ ∀ x, x ∈ c → jCode x := by
  intro w
  induction w with
  | zero =>
    intro H f rf c hok _ _ hc
    have : c = [] := by simpa [yV] using hc
    subst this
    have z := jSum_z hok.1 (by have := hok.2; omega)
    exact ⟨fun q q0 q4 => z q q0 q4, fun x hx => by simp at hx⟩
  | succ w ih =>
    intro H f rf c hok f0 f34 hc
    obtain ⟨a, b, _, d⟩ := yFs_p H f34
    obtain ⟨s, hs⟩ : ∃ s, s = yFs H f := ⟨_, rfl⟩
    rw [← hs] at a b d
    by_cases e : 34 ≤ s
    · rw [yV_e w H f rf (by omega)] at hc; simp at hc
    · have s4 : s < 34 := by omega
      have s0 : 0 ≤ s := by omega
      rw [yV_s w H f rf hs s4, List.mem_append] at hc
      rcases hc with hc | hc
      · by_cases k : 3 ≤ H s ∧ s ≠ rf
        · rw [if_pos k] at hc
          obtain ⟨c', hc', rfl⟩ := List.mem_map.mp hc
          obtain ⟨u, v⟩ := ih (yT H s) s (-1) c' (yOk_T hok ⟨s0, s4⟩ k.1) s0 b hc'
          refine ⟨fun q q0 q4 => ?_, fun x hx => ?_⟩
          · have := u q q0 q4
            simp only [yUs]
            rw [← this]
            have ej : jUse (200 + s) q = yUse 2 s q := yUse_c (k := 2) s0 (by omega)
            rw [ej]
            unfold yUse yT
            rw [if_neg (by decide)]
            by_cases eq : q = s
            · rw [if_pos eq, if_pos eq]; omega
            · rw [if_neg eq, if_neg eq]; omega
          · rcases List.mem_cons.mp hx with rfl | hx
            · exact ⟨2, s, rfl, by omega, by omega, s0, s4, fun z => absurd z (by decide)⟩
            · exact v x hx
        · rw [if_neg k] at hc; simp at hc
      · by_cases k : yCr H s
        · rw [if_pos k] at hc
          obtain ⟨c', hc', rfl⟩ := List.mem_map.mp hc
          obtain ⟨u, v⟩ := ih (yR H s) s s c' (yOk_R hok s0 (d s4) k) s0 b hc'
          refine ⟨fun q q0 q4 => ?_, fun x hx => ?_⟩
          · have := u q q0 q4
            simp only [yUs]
            rw [← this]
            have ej : jUse (100 + s) q = yUse 1 s q := yUse_c (k := 1) s0 (by omega)
            rw [ej]
            unfold yUse yR
            rw [if_pos rfl]
            by_cases eq : q = s ∨ q = s + 1 ∨ q = s + 2
            · rw [if_pos eq, if_pos eq]; omega
            · rw [if_neg eq, if_neg eq]; omega
          · rcases List.mem_cons.mp hx with rfl | hx
            · exact ⟨1, s, rfl, by omega, by omega, s0, s4, fun _ => k.1⟩
            · exact v x hx
        · rw [if_neg k] at hc; simp at hc
/-- the row of a code, whether it has an outer tile -/
def yRo (c : Int) : Int := c % 100 / 9
abbrev yHo (c : Int) : Prop := yO (c % 100) ∨ c / 100 = 1 ∧ yO (c % 100 + 2)
theorem jUse_row {x q : Int} (h : jCode x) (hu : 0 < jUse x q) : q / 9 = yRo x := by
  obtain ⟨k, s, rfl, k1, k3, s0, s4, hr⟩ := h
  rw [yUse_c s0 (by omega)] at hu
  unfold yRo
  rw [show (100 * k + s) % 100 = s by omega]
  unfold yUse at hu
  by_cases e : k = 1
  · rw [if_pos e] at hu
    have := hr e
    by_cases c : q = s ∨ q = s + 1 ∨ q = s + 2
    · omega
    · rw [if_neg c] at hu; omega
  · rw [if_neg e] at hu
    by_cases c : q = s
    · rw [c]
    · rw [if_neg c] at hu; omega
theorem jUse_at {x : Int} (h : jCode x) : 0 < jUse x (x % 100) ∧ 0 ≤ x % 100 ∧ x % 100 < 34 := by
  obtain ⟨k, s, rfl, k1, k3, s0, s4, hr⟩ := h
  rw [yUse_c s0 (by omega), show (100 * k + s) % 100 = s by omega]
  refine ⟨?_, s0, s4⟩
  unfold yUse
  split
  · rw [if_pos (Or.inl rfl)]; omega
  · rw [if_pos rfl]; omega
/-- one row is there -/
def yOne (f : Int → Int) : Prop := ∃ r : Int, 0 ≤ r ∧ r < 4 ∧ (∃ q : Int, 0 ≤ q ∧ q < 34 ∧ 0 < f q ∧ q / 9 = r) ∧ ∀ q : Int, 0 ≤ q → q < 34 → 0 < f q → q / 9 = r
theorem yMask : ∀ m : Nat, m < 16 → ∀ r : Nat, r < 4 → ∃ m' : Nat, m' < 16 ∧ jor (m : Int) (jshl 1 (r : Int)) = (m' : Int) ∧ ∀ t : Nat, t < 4 → (m' / 2 ^ t) % 2 = if t = r then 1 else (m / 2 ^ t) % 2 := by
  intro m hm r hr
  have key : ∀ m : Nat, m < 16 → ∀ r : Nat, r < 4 → (jor (m : Int) (jshl 1 (r : Int))).toNat < 16 ∧ jor (m : Int) (jshl 1 (r : Int)) = (((jor (m : Int) (jshl 1 (r : Int))).toNat : Nat) : Int) ∧ ∀ t : Nat, t < 4 → ((jor (m : Int) (jshl 1 (r : Int))).toNat / 2 ^ t) % 2 = if t = r then 1 else (m / 2 ^ t) % 2 := by decide +kernel
  have := key m hm r hr
  exact ⟨_, this.1, this.2.1, this.2.2⟩
theorem yMask1 : ∀ m : Nat, m < 16 → ((m = 1 ∨ m = 2 ∨ m = 4 ∨ m = 8) ↔ ∃ r : Nat, r < 4 ∧ (m / 2 ^ r) % 2 = 1 ∧ ∀ t : Nat, t < 4 → (m / 2 ^ t) % 2 = 1 → t = r) := by
  intro m hm
  have key : ∀ m : Nat, m < 16 → ((m = 1 ∨ m = 2 ∨ m = 4 ∨ m = 8) ↔ ((m / 2 ^ 0) % 2 = 1 ∧ ∀ t : Nat, t < 4 → (m / 2 ^ t) % 2 = 1 → t = 0) ∨ ((m / 2 ^ 1) % 2 = 1 ∧ ∀ t : Nat, t < 4 → (m / 2 ^ t) % 2 = 1 → t = 1) ∨ ((m / 2 ^ 2) % 2 = 1 ∧ ∀ t : Nat, t < 4 → (m / 2 ^ t) % 2 = 1 → t = 2) ∨ ((m / 2 ^ 3) % 2 = 1 ∧ ∀ t : Nat, t < 4 → (m / 2 ^ t) % 2 = 1 → t = 3)) := by decide +kernel
  rw [key m hm]
  constructor
  · rintro (h | h | h | h)
    · exact ⟨0, by decide, h⟩
    · exact ⟨1, by decide, h⟩
    · exact ⟨2, by decide, h⟩
    · exact ⟨3, by decide, h⟩
  · rintro ⟨r, hr, h⟩
    rcases (by omega : r = 0 ∨ r = 1 ∨ r = 2 ∨ r = 3) with rfl | rfl | rfl | rfl
    · exact Or.inl h
    · exact Or.inr (Or.inl h)
    · exact Or.inr (Or.inr (Or.inl h))
    · exact Or.inr (Or.inr (Or.inr h))
theorem zX11_isOneRow {f g : Int → Int} {s : jMem} (hf : ∀ q : Int, 0 ≤ q → q < 34 → s 68 q = f q ∧ 0 ≤ f q ∧ f q ≤ 100 ∧ s 69 q = g q ∧ 0 ≤ g q ∧ g q ≤ 100) : ∃ v, fX11_isOneRow s = some (v, s) ∧ (v = 1 ∨ v = 0) ∧ (v = 1 ↔ yOne (fun q => f q + g q)) := by
  have u := jik_m
  have main : jHo (fun v t => t = s ∧ (v = 1 ∨ v = 0) ∧ (v = 1 ↔ yOne (fun q => f q + g q))) (fX11_isOneRow s) := by
    unfold fX11_isOneRow
    refine gIt3 (fun a1 a2 t => t = s ∧ ∃ (n m : Nat), a2 = n ∧ n ≤ 34 ∧ a1 = m ∧ m < 16 ∧ ∀ r : Nat, r < 4 → ((m / 2 ^ r) % 2 = 1 ↔ ∃ q : Nat, q < n ∧ 0 < f q + g q ∧ q / 9 = r)) (fun _ a2 => (34 - a2).toNat) ?_ 1000 0 0 s ⟨rfl, 0, 0, rfl, by omega, rfl, by omega, fun r hr => ⟨fun z => by rw [Nat.zero_div] at z; exact absurd z (by decide), fun ⟨q, z, _⟩ => by omega⟩⟩ (by decide)
    rintro rec a1 a2 t ⟨rfl, n, m, rfl, hn, rfl, hm, hb⟩ ih
    unfold bX11_isOneRow_4
    refine gHo_if (fun hc => ?_) (fun hc => ?_)
    · have e : n = 34 := by omega
      subst e
      have k := yMask1 m hm
      have k2 : (∃ r : Nat, r < 4 ∧ (m / 2 ^ r) % 2 = 1 ∧ ∀ t : Nat, t < 4 → (m / 2 ^ t) % 2 = 1 → t = r) ↔ yOne (fun q => f q + g q) := by
        constructor
        · rintro ⟨r, hr, h1, h2⟩
          obtain ⟨q, q4, qf, qr⟩ := (hb r hr).mp h1
          refine ⟨r, by omega, by omega, ⟨q, by omega, by omega, qf, by omega⟩, fun p p0 p4 pf => ?_⟩
          have := h2 (p.toNat / 9) (by omega) ((hb _ (by omega)).mpr ⟨p.toNat, by omega, by rw [show ((p.toNat : Nat) : Int) = p by omega]; exact pf, rfl⟩)
          omega
        · rintro ⟨r, r0, r4, ⟨q, q0, q4, qf, qr⟩, all⟩
          refine ⟨r.toNat, by omega, (hb _ (by omega)).mpr ⟨q.toNat, by omega, by rw [show ((q.toNat : Nat) : Int) = q by omega]; exact qf, by omega⟩, fun t ht h1 => ?_⟩
          obtain ⟨p, p4, pf, pr⟩ := (hb t ht).mp h1
          have := all p (by omega) (by omega) pf
          omega
      rw [k2] at k
      unfold bX11_isOneRow_45
      by_cases e1 : m = 1 ∨ m = 2 ∨ m = 4 ∨ m = 8
      · have fin : jHo (fun v t' => t' = t ∧ (v = 1 ∨ v = 0) ∧ (v = 1 ↔ yOne (fun q => f q + g q))) (jRet 1 t) := gHo_ret ⟨rfl, Or.inl rfl, fun _ => k.mp e1, fun _ => rfl⟩
        refine gHo_if (fun _ => fin) (fun z1 => gHo_if (fun _ => fin) (fun z2 => gHo_if (fun _ => fin) (fun z3 => gHo_if (fun _ => fin) (fun z4 => ?_))))
        omega
      · have fin : jHo (fun v t' => t' = t ∧ (v = 1 ∨ v = 0) ∧ (v = 1 ↔ yOne (fun q => f q + g q))) (jRet 0 t) := gHo_ret ⟨rfl, Or.inr rfl, fun z => absurd z (by decide), fun z => absurd (k.mpr z) e1⟩
        refine gHo_if (fun z => ?_) (fun _ => gHo_if (fun z => ?_) (fun _ => gHo_if (fun z => ?_) (fun _ => gHo_if (fun z => ?_) (fun _ => fin))))
        all_goals exfalso; omega
    · have hq := hf n (by omega) (by omega)
      refine gHo_gd ⟨by omega, by omega⟩ (gHo_let (gHo_gd ⟨by omega, by omega⟩ (gHo_let ?_)))
      rw [hq.1, hq.2.2.2.1]
      refine gHo_l32 (by omega) (by omega) (gHo_if (fun e => ?_) (fun e => ?_))
      · unfold bX11_isOneRow_37
        refine gHo_let ?_
        have j0 : jor (m : Int) 0 = m := (jor_up 4 (by decide) m hm).2
        rw [j0]
        refine gHo_l32 (by omega) (by omega) (ih _ _ _ ⟨rfl, n + 1, m, by omega, by omega, rfl, hm, fun r hr => ?_⟩ (by omega))
        rw [hb r hr]
        constructor
        · rintro ⟨q, a, b, c⟩; exact ⟨q, by omega, b, c⟩
        · rintro ⟨q, a, b, c⟩
          by_cases eq : q = n
          · subst eq; omega
          · exact ⟨q, by omega, b, c⟩
      · have rowOf : fX11_rowOf n t = some (((n / 9 : Nat) : Int), t) := by
          unfold fX11_rowOf
          rw [jGd_e (by decide), jLet_e, jdiv_9 (by omega) (by omega)]
          rfl
        rw [rowOf, jBd_s]
        refine gHo_let ?_
        obtain ⟨m', hm', ej, hb'⟩ := yMask m hm (n / 9) (by omega)
        unfold bX11_isOneRow_37
        refine gHo_let ?_
        rw [ej]
        refine gHo_l32 (by omega) (by omega) (ih _ _ _ ⟨rfl, n + 1, m', by omega, by omega, rfl, hm', fun r hr => ?_⟩ (by omega))
        rw [hb' r hr]
        by_cases er : r = n / 9
        · rw [if_pos er]
          exact ⟨fun _ => ⟨n, by omega, by omega, er.symm⟩, fun _ => rfl⟩
        · rw [if_neg er, hb r hr]
          constructor
          · rintro ⟨q, a, b, c⟩; exact ⟨q, by omega, b, c⟩
          · rintro ⟨q, a, b, c⟩
            by_cases eq : q = n
            · subst eq; exact absurd c.symm er
            · exact ⟨q, by omega, b, c⟩
  obtain ⟨v, t, e, rfl, k1, k2⟩ := main
  exact ⟨v, e, k1, k2⟩
end

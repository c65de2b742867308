/-! ===== ways: what they are ===== -/
section
/-- the first sort from s on that there is one of, or 34 -/
def yF (H : Int → Int) : Nat → Int → Int
  | 0, s => s
  | k + 1, s => if H s = 0 then yF H k (s + 1) else s
def yFs (H : Int → Int) (s : Int) : Int := yF H (34 - s).toNat s
theorem yF_p (H : Int → Int) : ∀ (k : Nat) (s : Int), s ≤ yF H k s ∧ yF H k s ≤ s + k ∧ (∀ q : Int, s ≤ q → q < yF H k s → H q = 0) ∧ (yF H k s < s + k → H (yF H k s) ≠ 0) := by
  intro k
  induction k with
  | zero => intro s; exact ⟨Int.le_refl s, by show s ≤ s + 0; omega, fun q a b => by simp only [yF] at b; omega, fun h => by simp only [yF] at h; omega⟩
  | succ k ih =>
    intro s
    simp only [yF]
    by_cases e : H s = 0
    · rw [if_pos e]
      obtain ⟨a, b, c, d⟩ := ih (s + 1)
      refine ⟨by omega, by omega, fun q h1 h2 => ?_, fun h => d (by omega)⟩
      by_cases eq : q = s
      · subst eq; exact e
      · exact c q (by omega) h2
    · rw [if_neg e]
      exact ⟨Int.le_refl s, by omega, fun q h1 h2 => by omega, fun _ => e⟩
theorem yFs_p (H : Int → Int) {s : Int} (h : s ≤ 34) : s ≤ yFs H s ∧ yFs H s ≤ 34 ∧ (∀ q : Int, s ≤ q → q < yFs H s → H q = 0) ∧ (yFs H s < 34 → H (yFs H s) ≠ 0) := by
  obtain ⟨a, b, c, d⟩ := yF_p H (34 - s).toNat s
  unfold yFs
  exact ⟨a, by omega, c, fun h => d (by omega)⟩
theorem yFs_0 {H : Int → Int} {s : Int} (h : s < 34) (e : H s = 0) : yFs H s = yFs H (s + 1) := by
  unfold yFs
  rw [show (34 - s).toNat = (34 - (s + 1)).toNat + 1 by omega]
  simp only [yF]
  rw [if_pos e]
theorem yFs_1 {H : Int → Int} {s : Int} (h : s < 34) (e : H s ≠ 0) : yFs H s = s := by
  unfold yFs
  rw [show (34 - s).toNat = (34 - (s + 1)).toNat + 1 by omega]
  simp only [yF]
  rw [if_neg e]
theorem yFs_e {H : Int → Int} {s : Int} (h : 34 ≤ s) : yFs H s = s := by
  unfold yFs
  rw [show (34 - s).toNat = 0 by omega]
  rfl
theorem yF_cg {H K : Int → Int} : ∀ (k : Nat) (s : Int), (∀ q : Int, s ≤ q → q < s + k → H q = K q) → yF H k s = yF K k s := by
  intro k
  induction k with
  | zero => intro s _; rfl
  | succ k ih =>
    intro s h
    simp only [yF]
    rw [h s (by omega) (by omega), ih (s + 1) (fun q a b => h q (by omega) (by omega))]
theorem yFs_cg {H K : Int → Int} {s : Int} (h : ∀ q : Int, s ≤ q → q < 34 → H q = K q) : yFs H s = yFs K s := yF_cg _ _ (fun q a b => h q a (by omega))
/-- a three, a run taken away -/
def yT (H : Int → Int) (s : Int) : Int → Int := fun q => if q = s then H q - 3 else H q
def yR (H : Int → Int) (s : Int) : Int → Int := fun q => if q = s ∨ q = s + 1 ∨ q = s + 2 then H q - 1 else H q
/-- where a run may begin, with the tiles there -/
abbrev yCr (H : Int → Int) (s : Int) : Prop := (s < 27 ∧ s % 9 ≤ 6) ∧ 0 < H (s + 1) ∧ 0 < H (s + 2)
/-- every way to w groups, in order; none is a three of rf next -/
def yV : Nat → (Int → Int) → Int → Int → List (List Int)
  | 0, _, _, _ => [[]]
  | w + 1, H, f, rf => if 34 ≤ yFs H f then [] else (if 3 ≤ H (yFs H f) ∧ yFs H f ≠ rf then (yV w (yT H (yFs H f)) (yFs H f) (-1)).map (fun c => (200 + yFs H f) :: c) else []) ++ (if yCr H (yFs H f) then (yV w (yR H (yFs H f)) (yFs H f) (yFs H f)).map (fun c => (100 + yFs H f) :: c) else [])
/-- the way that bits tell, if it is one -/
def yB : Nat → (Int → Int) → Int → Int → Nat → Option (List Int)
  | 0, _, _, _, _ => some []
  | w + 1, H, f, pv, b => if 34 ≤ yFs H f then none else if (b / 2 ^ w) % 2 = 1 then (if yCr H (yFs H f) then (yB w (yR H (yFs H f)) (yFs H f) (100 + yFs H f) b).map (fun c => (100 + yFs H f) :: c) else none) else (if 3 ≤ H (yFs H f) ∧ pv ≠ 100 + yFs H f then (yB w (yT H (yFs H f)) (yFs H f) (200 + yFs H f) b).map (fun c => (200 + yFs H f) :: c) else none)
theorem yfm_cg {α β : Type} {f g : α → Option β} {l : List α} (h : ∀ a ∈ l, f a = g a) : l.filterMap f = l.filterMap g := by
  induction l with
  | nil => rfl
  | cons a l ih =>
    have h1 := h a (List.mem_cons_self ..)
    have h2 := ih (fun b hb => h b (List.mem_cons_of_mem _ hb))
    simp only [List.filterMap_cons]
    rw [h1, h2]
theorem yB_mod : ∀ (w : Nat) (H : Int → Int) (f pv : Int) (b c : Nat), yB w H f pv (2 ^ w * c + b) = yB w H f pv b := by
  intro w
  induction w with
  | zero => intro H f pv b c; rfl
  | succ w ih =>
    intro H f pv b c
    have e1 : (2 ^ (w + 1) * c + b) / 2 ^ w % 2 = b / 2 ^ w % 2 := by
      rw [Nat.pow_succ, Nat.mul_assoc, Nat.mul_add_div (Nat.two_pow_pos w), Nat.mul_add_mod]
    have e2 : 2 ^ (w + 1) * c + b = 2 ^ w * (2 * c) + b := by rw [Nat.pow_succ, Nat.mul_assoc]
    simp only [yB]
    rw [e1, e2, ih, ih]
theorem yV_yB : ∀ (w : Nat) (H : Int → Int) (f pv rf : Int), 0 ≤ f → f ≤ 34 → (∀ s : Int, f ≤ s → s < 34 → (pv = 100 + s ↔ s = rf)) → yV w H f rf = (List.range (2 ^ w)).filterMap (yB w H f pv) := by
  intro w
  induction w with
  | zero => intro H f pv rf _ _ _; rfl
  | succ w ih =>
    intro H f pv rf f0 f34 hr
    obtain ⟨a, b, c, d⟩ := yFs_p H f34
    obtain ⟨s, hs⟩ : ∃ s, s = yFs H f := ⟨_, rfl⟩
    rw [← hs] at a b c d
    have hV : yV (w + 1) H f rf = if 34 ≤ s then [] else (if 3 ≤ H s ∧ s ≠ rf then (yV w (yT H s) s (-1)).map (fun c => (200 + s) :: c) else []) ++ (if yCr H s then (yV w (yR H s) s s).map (fun c => (100 + s) :: c) else []) := by rw [hs]; rfl
    have hB : ∀ n, yB (w + 1) H f pv n = if 34 ≤ s then none else if (n / 2 ^ w) % 2 = 1 then (if yCr H s then (yB w (yR H s) s (100 + s) n).map (fun c => (100 + s) :: c) else none) else (if 3 ≤ H s ∧ pv ≠ 100 + s then (yB w (yT H s) s (200 + s) n).map (fun c => (200 + s) :: c) else none) := by rw [hs]; exact fun n => rfl
    by_cases e : 34 ≤ s
    · have : yB (w + 1) H f pv = fun _ => none := by funext n; rw [hB n, if_pos e]
      rw [hV, if_pos e, this]
      exact (List.filterMap_eq_nil_iff.mpr (fun _ _ => rfl)).symm
    · rw [hV, if_neg e, show 2 ^ (w + 1) = 2 ^ w + 2 ^ w by rw [Nat.pow_succ]; omega, List.range_add, List.filterMap_append, List.filterMap_map]
      have i1 := ih (yT H s) s (200 + s) (-1) (by omega) (by omega) (fun q h1 h2 => by omega)
      have i2 := ih (yR H s) s (100 + s) s (by omega) (by omega) (fun q h1 h2 => by omega)
      have hrs := hr s (by omega) (by omega)
      have p1 : (List.range (2 ^ w)).filterMap (yB (w + 1) H f pv) = if 3 ≤ H s ∧ s ≠ rf then (yV w (yT H s) s (-1)).map (fun c => (200 + s) :: c) else [] := by
        have c1 : ∀ n ∈ List.range (2 ^ w), yB (w + 1) H f pv n = if 3 ≤ H s ∧ s ≠ rf then (yB w (yT H s) s (200 + s) n).map (fun c => (200 + s) :: c) else none := by
          intro n hn
          have hn := List.mem_range.mp hn
          have : (3 ≤ H s ∧ pv ≠ 100 + s) ↔ (3 ≤ H s ∧ s ≠ rf) := and_congr_right (fun _ => not_congr hrs)
          rw [hB n, if_neg e, Nat.div_eq_of_lt hn, if_neg (by decide)]
          simp only [this]
        rw [yfm_cg c1, i1]
        by_cases k : 3 ≤ H s ∧ s ≠ rf
        · simp only [if_pos k]
          rw [List.map_filterMap]
        · simp only [if_neg k]
          exact List.filterMap_eq_nil_iff.mpr (fun _ _ => rfl)
      have p2 : (List.range (2 ^ w)).filterMap (yB (w + 1) H f pv ∘ fun x => 2 ^ w + x) = if yCr H s then (yV w (yR H s) s s).map (fun c => (100 + s) :: c) else [] := by
        have c1 : ∀ n ∈ List.range (2 ^ w), (yB (w + 1) H f pv ∘ fun x => 2 ^ w + x) n = if yCr H s then (yB w (yR H s) s (100 + s) n).map (fun c => (100 + s) :: c) else none := by
          intro n hn
          have hn := List.mem_range.mp hn
          show yB (w + 1) H f pv (2 ^ w + n) = _
          have e1 : (2 ^ w + n) / 2 ^ w = 1 := by
            rw [Nat.add_div_left _ (Nat.two_pow_pos w), Nat.div_eq_of_lt hn]
          have e2 : yB w (yR H s) s (100 + s) (2 ^ w + n) = yB w (yR H s) s (100 + s) n := by
            have := yB_mod w (yR H s) s (100 + s) n 1
            rwa [Nat.mul_one] at this
          rw [hB _, if_neg e, e1, if_pos (by decide), e2]
        rw [yfm_cg c1, i2]
        by_cases k : yCr H s
        · simp only [if_pos k]
          rw [List.map_filterMap]
        · simp only [if_neg k]
          exact List.filterMap_eq_nil_iff.mpr (fun _ _ => rfl)
      rw [p1, p2]
theorem jSum_4 {H : Int → Int} {a b c d : Int} (hH : ∀ q : Int, 0 ≤ q → q < 34 → 0 ≤ H q) (ha : 0 ≤ a ∧ a < 34) (hb : 0 ≤ b ∧ b < 34) (hc : 0 ≤ c ∧ c < 34) (hd : 0 ≤ d ∧ d < 34) (h1 : a ≠ b) (h2 : a ≠ c) (h3 : a ≠ d) (h4 : b ≠ c) (h5 : b ≠ d) (h6 : c ≠ d) : H a + H b + H c + H d ≤ jSum H 34 := by
  have k1 := jSum_one a (H a) 34
  have k2 := jSum_one b (H b) 34
  have k3 := jSum_one c (H c) 34
  have k4 := jSum_one d (H d) 34
  rw [if_pos (by omega)] at k1 k2 k3 k4
  have e : jSum (fun q => (if q = a then H a else 0) + ((if q = b then H b else 0) + ((if q = c then H c else 0) + (if q = d then H d else 0)))) 34 = H a + (H b + (H c + H d)) := by
    rw [jSum_add (f := fun q => if q = a then H a else 0) (g := fun q => (if q = b then H b else 0) + ((if q = c then H c else 0) + (if q = d then H d else 0))) 34, jSum_add (f := fun q => if q = b then H b else 0) (g := fun q => (if q = c then H c else 0) + (if q = d then H d else 0)) 34, jSum_add (f := fun q => if q = c then H c else 0) (g := fun q => if q = d then H d else 0) 34, k1, k2, k3, k4]
  have le := jSum_le (f := fun q => (if q = a then H a else 0) + ((if q = b then H b else 0) + ((if q = c then H c else 0) + (if q = d then H d else 0)))) (g := H) (n := 34) (fun i hi => by
    have hi0 := hH i (by omega) (by omega)
    by_cases e1 : (i : Int) = a
    · rw [if_pos e1, if_neg (by omega), if_neg (by omega), if_neg (by omega), e1]; omega
    · rw [if_neg e1]
      by_cases e2 : (i : Int) = b
      · rw [if_pos e2, if_neg (by omega), if_neg (by omega), e2]; omega
      · rw [if_neg e2]
        by_cases e3 : (i : Int) = c
        · rw [if_pos e3, if_neg (by omega), e3]; omega
        · rw [if_neg e3]
          by_cases e4 : (i : Int) = d
          · rw [if_pos e4, e4]; omega
          · rw [if_neg e4]; omega)
  rw [e] at le
  omega
theorem jSum_w {g H K : Int → Int} {n : Nat} : jSum (fun q => g q * (H q - K q)) n = jSum (fun q => g q * H q) n - jSum (fun q => g q * K q) n := by
  induction n with
  | zero => rfl
  | succ n ih =>
    simp only [jSum]
    rw [ih, Int.mul_sub]; omega
/-- weighted sums, a three or a run taken away -/
theorem jSum_wT {g H : Int → Int} {s : Int} (h : 0 ≤ s ∧ s < 34) : jSum (fun q => g q * yT H s q) 34 = jSum (fun q => g q * H q) 34 - 3 * g s := by
  have e : jSum (fun q => g q * yT H s q) 34 = jSum (fun q => g q * (H q - (if q = s then 3 else 0))) 34 := jSum_cg (fun i hi => by
    unfold yT
    by_cases e : (i : Int) = s
    · rw [if_pos e, if_pos e]
    · rw [if_neg e, if_neg e, Int.sub_zero])
  have k := jSum_one s (3 * g s) 34
  rw [if_pos (by omega)] at k
  rw [e, jSum_w (K := fun q => if q = s then 3 else 0), ← k]
  congr 1
  exact jSum_cg (fun i hi => by
    by_cases e : (i : Int) = s
    · rw [if_pos e, if_pos e, e, Int.mul_comm]
    · rw [if_neg e, if_neg e, Int.mul_zero])
theorem jSum_wR {g H : Int → Int} {s : Int} (h : 0 ≤ s ∧ s + 2 < 34) : jSum (fun q => g q * yR H s q) 34 = jSum (fun q => g q * H q) 34 - (g s + g (s + 1) + g (s + 2)) := by
  have e : jSum (fun q => g q * yR H s q) 34 = jSum (fun q => g q * (H q - ((if q = s then 1 else 0) + ((if q = s + 1 then 1 else 0) + (if q = s + 2 then 1 else 0))))) 34 := jSum_cg (fun i hi => by
    unfold yR
    by_cases e : (i : Int) = s
    · rw [if_pos (Or.inl e), if_pos e, if_neg (by omega), if_neg (by omega)]; rfl
    · by_cases e2 : (i : Int) = s + 1
      · rw [if_pos (Or.inr (Or.inl e2)), if_neg e, if_pos e2, if_neg (by omega)]; rfl
      · by_cases e3 : (i : Int) = s + 2
        · rw [if_pos (Or.inr (Or.inr e3)), if_neg e, if_neg e2, if_pos e3]; rfl
        · rw [if_neg (by omega), if_neg e, if_neg e2, if_neg e3]; simp)
  have k1 := jSum_one s (g s) 34
  have k2 := jSum_one (s + 1) (g (s + 1)) 34
  have k3 := jSum_one (s + 2) (g (s + 2)) 34
  rw [if_pos (by omega)] at k1 k2 k3
  have m : jSum (fun q => g q * ((if q = s then 1 else 0) + ((if q = s + 1 then 1 else 0) + (if q = s + 2 then 1 else 0)))) 34 = g s + (g (s + 1) + g (s + 2)) := by
    rw [← k1, ← k2, ← k3, ← jSum_add (f := fun q => if q = s + 1 then g (s + 1) else 0) (g := fun q => if q = s + 2 then g (s + 2) else 0) 34, ← jSum_add (f := fun q => if q = s then g s else 0) (g := fun q => (if q = s + 1 then g (s + 1) else 0) + (if q = s + 2 then g (s + 2) else 0)) 34]
    refine jSum_cg (fun i hi => ?_)
    by_cases e : (i : Int) = s
    · rw [if_pos e, if_pos e, if_neg (by omega), if_neg (by omega), if_neg (by omega), if_neg (by omega), e]; omega
    · by_cases e2 : (i : Int) = s + 1
      · rw [if_neg e, if_neg e, if_pos e2, if_pos e2, if_neg (by omega), if_neg (by omega), e2]; omega
      · by_cases e3 : (i : Int) = s + 2
        · rw [if_neg e, if_neg e, if_neg e2, if_neg e2, if_pos e3, if_pos e3, e3]; omega
        · rw [if_neg e, if_neg e, if_neg e2, if_neg e2, if_neg e3, if_neg e3]; omega
  rw [e, jSum_w (K := fun q => (if q = s then 1 else 0) + ((if q = s + 1 then 1 else 0) + (if q = s + 2 then 1 else 0))), m]
  omega
theorem jSum_T {H : Int → Int} {s : Int} (h : 0 ≤ s ∧ s < 34) : jSum (yT H s) 34 = jSum H 34 - 3 := by
  have := jSum_wT (g := fun _ => 1) (H := H) h
  simp only [Int.one_mul, Int.mul_one] at this
  exact this
theorem jSum_R {H : Int → Int} {s : Int} (h : 0 ≤ s ∧ s + 2 < 34) : jSum (yR H s) 34 = jSum H 34 - 3 := by
  have := jSum_wR (g := fun _ => 1) (H := H) h
  simp only [Int.one_mul] at this
  exact this
/-- so many groups' tiles, none below 0 -/
def yOk (w : Nat) (H : Int → Int) : Prop := (∀ q : Int, 0 ≤ q → q < 34 → 0 ≤ H q) ∧ jSum H 34 = 3 * (w : Int)
theorem yOk_T {w : Nat} {H : Int → Int} {s : Int} (h : yOk (w + 1) H) (hs : 0 ≤ s ∧ s < 34) (h3 : 3 ≤ H s) : yOk w (yT H s) := by
  refine ⟨fun q q0 q4 => ?_, ?_⟩
  · have := h.1 q q0 q4
    unfold yT
    by_cases e : q = s
    · subst e; rw [if_pos rfl]; omega
    · rw [if_neg e]; exact this
  · rw [jSum_T hs, h.2]; omega
theorem yOk_R {w : Nat} {H : Int → Int} {s : Int} (h : yOk (w + 1) H) (hs : 0 ≤ s) (hn : H s ≠ 0) (hc : yCr H s) : yOk w (yR H s) := by
  have hc1 := hc.1
  refine ⟨fun q q0 q4 => ?_, ?_⟩
  · have := h.1 q q0 q4
    unfold yR
    by_cases e : q = s ∨ q = s + 1 ∨ q = s + 2
    · rw [if_pos e]
      rcases e with rfl | rfl | rfl
      · omega
      · have := hc.2.1; omega
      · have := hc.2.2; omega
    · rw [if_neg e]; exact this
  · rw [jSum_R ⟨hs, by omega⟩, h.2]; omega
/-- the step of yV, its first sort named -/
theorem yV_s (w : Nat) (H : Int → Int) (f rf : Int) {s : Int} (hs : s = yFs H f) (h : s < 34) : yV (w + 1) H f rf = (if 3 ≤ H s ∧ s ≠ rf then (yV w (yT H s) s (-1)).map (fun c => (200 + s) :: c) else []) ++ (if yCr H s then (yV w (yR H s) s s).map (fun c => (100 + s) :: c) else []) := by
  subst hs
  show (if 34 ≤ yFs H f then [] else _) = _
  rw [if_neg (by omega)]
theorem yV_e (w : Nat) (H : Int → Int) (f rf : Int) (h : 34 ≤ yFs H f) : yV (w + 1) H f rf = [] := by
  show (if 34 ≤ yFs H f then [] else _) = _
  rw [if_pos h]
/-- after a run from s all that is left of s goes by runs -/
theorem yV_run : ∀ (x : Nat) (w : Nat) (H : Int → Int) (s : Int), yOk w H → 0 ≤ s → s < 34 → H s = x → yV w H s s ≠ [] → (x : Int) ≤ H (s + 1) ∧ (x : Int) ≤ H (s + 2) ∨ x = 0 := by
  intro x
  induction x with
  | zero => intro w H s _ _ _ _ _; exact Or.inr rfl
  | succ x ih =>
    intro w H s hok s0 s4 hx hne
    refine Or.inl ?_
    match w, hok, hne with
    | 0, hok, hne =>
      have z := jSum_le (f := fun q => if q = s then H s else 0) (g := H) (n := 34) (fun i hi => by
        have := hok.1 i (by omega) (by omega)
        by_cases e : (i : Int) = s
        · rw [if_pos e, e]; omega
        · rw [if_neg e]; exact this)
      have k := jSum_one s (H s) 34
      rw [if_pos (by omega)] at k
      rw [k, hok.2] at z
      omega
    | w + 1, hok, hne =>
      have e := yFs_1 (H := H) s4 (by omega)
      rw [yV_s w H s s e.symm s4, if_neg (by omega)] at hne
      by_cases hc : yCr H s
      · rw [if_pos hc] at hne
        have hne2 : yV w (yR H s) s s ≠ [] := by
          intro z
          rw [z] at hne
          exact hne rfl
        have hok2 := yOk_R hok s0 (by omega) hc
        have r0 : yR H s s = (x : Int) := by unfold yR; rw [if_pos (Or.inl rfl)]; omega
        have r1 : yR H s (s + 1) = H (s + 1) - 1 := by unfold yR; rw [if_pos (Or.inr (Or.inl rfl))]
        have r2 : yR H s (s + 2) = H (s + 2) - 1 := by unfold yR; rw [if_pos (Or.inr (Or.inr rfl))]
        have h1 := hc.2.1
        have h2 := hc.2.2
        rcases ih w (yR H s) s hok2 s0 s4 r0 hne2 with h | h
        · omega
        · subst h; omega
      · rw [if_neg hc] at hne
        exact absurd rfl hne
/-- two ways from one place: three runs' tiles -/
theorem yV_both {w : Nat} {H : Int → Int} {s : Int} (hok : yOk (w + 1) H) (s0 : 0 ≤ s) (s4 : s < 34) (h3 : 3 ≤ H s) (hc : yCr H s) (hne : yV w (yR H s) s s ≠ []) : H s ≤ H (s + 1) ∧ H s ≤ H (s + 2) := by
  have hok2 := yOk_R hok s0 (by omega) hc
  have r0 : yR H s s = H s - 1 := by unfold yR; rw [if_pos (Or.inl rfl)]
  have r1 : yR H s (s + 1) = H (s + 1) - 1 := by unfold yR; rw [if_pos (Or.inr (Or.inl rfl))]
  have r2 : yR H s (s + 2) = H (s + 2) - 1 := by unfold yR; rw [if_pos (Or.inr (Or.inr rfl))]
  rcases yV_run (H s - 1).toNat w (yR H s) s hok2 s0 s4 (by omega) hne with h | h <;> omega
theorem yV_len2 : ∀ w : Nat, w ≤ 2 → ∀ (H : Int → Int) (f rf : Int), yOk w H → 0 ≤ f → f ≤ 34 → (yV w H f rf).length ≤ 1 := by
  intro w
  induction w with
  | zero => intro _ H f rf _ _ _; exact Nat.le_refl 1
  | succ w ih =>
    intro hw H f rf hok f0 f34
    obtain ⟨a, b, c, d⟩ := yFs_p H f34
    obtain ⟨s, hs⟩ : ∃ s, s = yFs H f := ⟨_, rfl⟩
    rw [← hs] at a b c d
    by_cases e : 34 ≤ s
    · rw [yV_e w H f rf (by omega)]; simp
    · have s4 : s < 34 := by omega
      have s0 : 0 ≤ s := by omega
      have hn := d s4
      rw [yV_s w H f rf hs s4, List.length_append]
      by_cases k1 : 3 ≤ H s ∧ s ≠ rf
      · have t1 := ih (by omega) (yT H s) s (-1) (yOk_T hok ⟨s0, s4⟩ k1.1) s0 (by omega)
        rw [if_pos k1, List.length_map]
        by_cases k2 : yCr H s
        · have hc1 := k2.1
          rw [if_pos k2, List.length_map]
          by_cases k3 : yV w (yR H s) s s = []
          · rw [k3, List.length_nil]; omega
          · exfalso
            have bo := yV_both hok s0 s4 k1.1 k2 k3
            have tot := hok.2
            have n33 := hok.1 33 (by omega) (by omega)
            have := jSum_4 hok.1 ⟨s0, s4⟩ (b := s + 1) (c := s + 2) (d := 33) ⟨by omega, by omega⟩ ⟨by omega, by omega⟩ ⟨by omega, by omega⟩ (by omega) (by omega) (by omega) (by omega) (by omega) (by omega)
            omega
        · rw [if_neg k2, List.length_nil]; omega
      · rw [if_neg k1, List.length_nil]
        by_cases k2 : yCr H s
        · have r1 := ih (by omega) (yR H s) s s (yOk_R hok s0 hn k2) s0 (by omega)
          rw [if_pos k2, List.length_map]; omega
        · rw [if_neg k2, List.length_nil]; omega
theorem yV_len : ∀ w : Nat, w ≤ 4 → ∀ (H : Int → Int) (f rf : Int), yOk w H → 0 ≤ f → f ≤ 34 → (w ≤ 2 → (yV w H f rf).length ≤ 1) ∧ (w = 3 → (yV w H f rf).length ≤ 2) ∧ (yV w H f rf).length ≤ 3 ∧ (w = 3 ∧ (yV w H f rf).length = 2 ∨ w = 4 ∧ (yV w H f rf).length = 3 → ∀ q : Int, 0 ≤ q → q < 34 → H q % 3 = 0) := by
  intro w
  induction w with
  | zero =>
    intro _ H f rf _ _ _
    have : (yV 0 H f rf).length = 1 := rfl
    omega
  | succ w ih =>
    intro hw H f rf hok f0 f34
    obtain ⟨a, b, c, d⟩ := yFs_p H f34
    obtain ⟨s, hs⟩ : ∃ s, s = yFs H f := ⟨_, rfl⟩
    rw [← hs] at a b c d
    by_cases e : 34 ≤ s
    · rw [yV_e w H f rf (by omega)]
      simp only [List.length_nil]
      refine ⟨by omega, by omega, by omega, fun h => by omega⟩
    · have s4 : s < 34 := by omega
      have s0 : 0 ≤ s := by omega
      have hn := d s4
      rw [yV_s w H f rf hs s4, List.length_append]
      by_cases k1 : 3 ≤ H s ∧ s ≠ rf
      · have okT := yOk_T hok ⟨s0, s4⟩ k1.1
        obtain ⟨t1, t2, t3, t4⟩ := ih (by omega) (yT H s) s (-1) okT s0 (by omega)
        rw [if_pos k1, List.length_map]
        by_cases k2 : yCr H s
        · have okR := yOk_R hok s0 hn k2
          have hc1 := k2.1
          obtain ⟨r1, r2, r3, r4⟩ := ih (by omega) (yR H s) s s okR s0 (by omega)
          rw [if_pos k2, List.length_map]
          by_cases k3 : yV w (yR H s) s s = []
          · rw [k3, List.length_nil]
            refine ⟨fun h => ?_, fun h => ?_, ?_, fun h => ?_⟩
            · have := t1 (by omega); omega
            · have := t1 (by omega); omega
            · omega
            · exfalso
              rcases h with h | h
              · have := t1 (by omega); omega
              · have := t2 (by omega); omega
          · have bo := yV_both hok s0 s4 k1.1 k2 k3
            have s3 := fun q (q0 : 0 ≤ q) (q4 : q < 34) (n0 : q ≠ s) (n1 : q ≠ s + 1) (n2 : q ≠ s + 2) => jSum_4 hok.1 ⟨s0, s4⟩ (b := s + 1) (c := s + 2) (d := q) ⟨by omega, by omega⟩ ⟨by omega, by omega⟩ ⟨q0, q4⟩ (by omega) (by omega) (by omega) (by omega) (by omega) (by omega)
            have tot := hok.2
            have w3 : 3 ≤ w + 1 := by
              by_cases z : s = 26
              · have := s3 0 (by omega) (by omega) (by omega) (by omega) (by omega)
                have := hok.1 0 (by omega) (by omega)
                omega
              · have := s3 33 (by omega) (by omega) (by omega) (by omega) (by omega)
                have := hok.1 33 (by omega) (by omega)
                omega
            -- the run branch has one way
            have rl : (yV w (yR H s) s s).length ≤ 1 := by
              by_cases w4 : w ≤ 2
              · exact r1 w4
              · have e3 : w = 2 + 1 := by omega
                subst e3
                have q0 : yR H s s = H s - 1 := by unfold yR; rw [if_pos (Or.inl rfl)]
                have ef := yFs_1 (H := yR H s) s4 (by omega)
                rw [yV_s 2 (yR H s) s s ef.symm s4, if_neg (by omega)]
                by_cases k4 : yCr (yR H s) s
                · rw [if_pos k4]
                  have := yV_len2 2 (by omega) (yR (yR H s) s) s s (yOk_R okR s0 (by omega) k4) s0 (by omega)
                  simp only [List.nil_append, List.length_map]
                  exact this
                · rw [if_neg k4]; simp
            refine ⟨fun h => by omega, fun h => ?_, ?_, fun h => ?_⟩
            · have := t1 (by omega); omega
            · by_cases w4 : w ≤ 2
              · have := t1 w4; omega
              · have := t2 (by omega); omega
            · rcases h with h | h
              · intro q q0 q4
                by_cases e0 : q = s
                · subst e0
                  by_cases z : q = 26
                  · have := s3 0 (by omega) (by omega) (by omega) (by omega) (by omega)
                    have := hok.1 0 (by omega) (by omega)
                    omega
                  · have := s3 33 (by omega) (by omega) (by omega) (by omega) (by omega)
                    have := hok.1 33 (by omega) (by omega)
                    omega
                · by_cases e1 : q = s + 1
                  · subst e1
                    have := s3 33 (by omega) (by omega) (by omega) (by omega) (by omega)
                    have := hok.1 33 (by omega) (by omega)
                    omega
                  · by_cases e2 : q = s + 2
                    · subst e2
                      have := s3 33 (by omega) (by omega) (by omega) (by omega) (by omega)
                      have := hok.1 33 (by omega) (by omega)
                      omega
                    · have := s3 q q0 q4 e0 e1 e2
                      have := hok.1 q q0 q4
                      omega
              · have t2' := t2 (by omega)
                have m := t4 (Or.inl ⟨by omega, by omega⟩)
                intro q q0 q4
                have := m q q0 q4
                unfold yT at this
                by_cases e0 : q = s
                · rw [if_pos e0] at this; omega
                · rw [if_neg e0] at this; exact this
        · rw [if_neg k2, List.length_nil]
          refine ⟨fun h => ?_, fun h => ?_, ?_, fun h => ?_⟩
          · have := t1 (by omega); omega
          · have := t1 (by omega); omega
          · omega
          · exfalso
            rcases h with h | h
            · have := t1 (by omega); omega
            · have := t2 (by omega); omega
      · rw [if_neg k1, List.length_nil]
        by_cases k2 : yCr H s
        · have okR := yOk_R hok s0 hn k2
          obtain ⟨r1, r2, r3, r4⟩ := ih (by omega) (yR H s) s s okR s0 (by omega)
          rw [if_pos k2, List.length_map]
          refine ⟨fun h => ?_, fun h => ?_, ?_, fun h => ?_⟩
          · have := r1 (by omega); omega
          · have := r1 (by omega); omega
          · omega
          · exfalso
            rcases h with h | h
            · have := r1 (by omega); omega
            · have := r2 (by omega); omega
        · rw [if_neg k2, List.length_nil]
          refine ⟨by omega, by omega, by omega, fun h => by omega⟩
end

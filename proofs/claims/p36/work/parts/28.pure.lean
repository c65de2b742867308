/-! ===== the functions by themselves: no machine from here on ===== -/
section
theorem jLet_e {α : Type} (v : α) (k : α → jO) : jLet v k = k v := rfl
theorem jGd_e {c : Prop} [Decidable c] {k : jO} (h : c) : jGd c k = k := if_pos h
theorem jBd_s (v : Int) (s : jMem) (K : Int → jMem → jO) : jBd (some (v, s)) K = K v s := rfl
theorem jRet_e (v : Int) (s : jMem) : jRet v s = some (v, s) := rfl
theorem jIt_for {A : Type} {bot : A} {b : A → A} (N : Nat) (ev : Nat → A → jO) (R : jO) (hs : ∀ i, i < N → ∀ rec : A, ev i (b rec) = ev (i + 1) rec) (he : ∀ rec : A, ev N (b rec) = R) : ∀ n, N < n → ev 0 (jIt bot b n) = R := by
  have key : ∀ k i n : Nat, i + k = N → k < n → ev i (jIt bot b n) = R := by
    intro k
    induction k with
    | zero =>
      intro i n hi hn
      obtain ⟨n', rfl⟩ : ∃ n', n = n' + 1 := ⟨n - 1, by omega⟩
      have e : i = N := by omega
      subst e
      exact he _
    | succ k ih =>
      intro i n hi hn
      obtain ⟨n', rfl⟩ : ∃ n', n = n' + 1 := ⟨n - 1, by omega⟩
      show ev i (b (jIt bot b n')) = R
      rw [hs i (by omega)]
      exact ih (i + 1) n' (by omega) (by omega)
  intro n hn
  exact key N 0 n (by omega) hn
def jb (c : Prop) [Decidable c] : Int := if c then 1 else 0
theorem jb_1 {c : Prop} [Decidable c] (h : c) : jb c = 1 := if_pos h
theorem jb_0 {c : Prop} [Decidable c] (h : ¬ c) : jb c = 0 := if_neg h
theorem jb_z {c : Prop} [Decidable c] : (jb c = 0) ↔ ¬ c := by unfold jb; split <;> simp_all
theorem jb_o {c : Prop} [Decidable c] : (jb c = 1) ↔ c := by unfold jb; split <;> simp_all
theorem jU_row {s : jMem} {r j v r' : Int} (h : r' ≠ r) : jU s r j v r' = s r' := by
  funext b
  simp [jU, h]
theorem jU_at (s : jMem) (r j v b : Int) : jU s r j v r b = if b = j then v else s r b := by simp [jU]
theorem jU_eq (s : jMem) (r j v r' b : Int) : jU s r j v r' b = if r' = r ∧ b = j then v else s r' b := rfl
/-- sums of the first n -/
def jSum (f : Int → Int) : Nat → Int
  | 0 => 0
  | n + 1 => jSum f n + f (n : Int)
theorem jSum_bd {f : Int → Int} {n : Nat} (h : ∀ i : Nat, i < n → 0 ≤ f i ∧ f i ≤ 1000) : 0 ≤ jSum f n ∧ jSum f n ≤ 1000 * n := by
  induction n with
  | zero => exact ⟨Int.le_refl 0, Int.le_refl 0⟩
  | succ n ih =>
    have h1 := ih (fun i hi => h i (by omega))
    have h2 := h n (by omega)
    simp only [jSum]
    omega
theorem jSum_cg {f g : Int → Int} {n : Nat} (h : ∀ i : Nat, i < n → f i = g i) : jSum f n = jSum g n := by
  induction n with
  | zero => rfl
  | succ n ih => simp only [jSum]; rw [ih (fun i hi => h i (by omega)), h n (by omega)]
theorem jSum_up {f g : Int → Int} {n k : Nat} (hk : k < n) (h : ∀ i : Nat, i < n → i ≠ k → g i = f i) : jSum g n = jSum f n + (g k - f k) := by
  induction n with
  | zero => omega
  | succ n ih =>
    simp only [jSum]
    by_cases e : k = n
    · subst e
      rw [jSum_cg (f := g) (g := f) (fun i hi => h i (by omega) (by omega))]
      omega
    · rw [ih (by omega) (fun i hi hne => h i (by omega) hne), h n (by omega) (fun z => e z.symm)]
      omega
theorem jSum_add {f g : Int → Int} (n : Nat) : jSum (fun i => f i + g i) n = jSum f n + jSum g n := by
  induction n with
  | zero => rfl
  | succ n ih => simp only [jSum, ih]; omega
theorem jSum_0 (n : Nat) : jSum (fun _ => 0) n = 0 := by
  induction n with
  | zero => rfl
  | succ n ih => simp only [jSum, ih]; rfl
-- the tables
theorem jik_t : jik 3 = 34 ∧ jik 4 = 34 ∧ jik 5 = 34 ∧ jik 8 = 34 ∧ jik 9 = 34 ∧ jik 18 = 34 ∧ jik 19 = 5 ∧ jik 20 = 40 ∧ jik 22 = 20 ∧ jik 23 = 20 ∧ jik 24 = 20 := by decide +kernel
theorem jjk_t : jjk 10 = 40 ∧ jjk 11 = 90 ∧ jjk 12 = 90 ∧ jjk 13 = 10 ∧ jjk 14 = 512 ∧ jjk 15 = 5120 := by decide +kernel
theorem jik_m : jik 54 = 34 ∧ jik 55 = 34 ∧ jik 56 = 136 ∧ jik 57 = 136 ∧ jik 58 = 4 ∧ jik 59 = 20 ∧ jik 60 = 6 ∧ jik 61 = 6 ∧ jik 62 = 240 ∧ jik 63 = 20 ∧ jik 64 = 20 ∧ jik 65 = 20 ∧ jik 66 = 40 ∧ jik 67 = 34 ∧ jik 68 = 34 ∧ jik 69 = 34 ∧ jik 70 = 34 ∧ jik 71 = 5 ∧ jik 72 = 250 ∧ jik 73 = 250 ∧ jik 74 = 40 ∧ jik 76 = 34 ∧ jzk 75 = 34 := by decide +kernel
theorem jrk_t : jrk 1 5 = 6 ∧ jrk 2 6 = 4 := by decide +kernel
theorem jln_t : jln 3 = 34 ∧ jln 4 = 34 ∧ jln 5 = 34 ∧ jln 8 = 34 ∧ jln 9 = 34 ∧ jln 10 = 40 ∧ jln 11 = 90 ∧ jln 12 = 90 ∧ jln 13 = 10 ∧ jln 14 = 512 := by decide +kernel
/-- hands: 37 + 4 h; its rows behind it -/
theorem jh_t {h : Int} (h0 : 0 ≤ h) (h4 : h < 4) : jrf 2 h = 37 + 4 * h ∧ jcl (37 + 4 * h) = 0 ∧ jrf (37 + 4 * h) 0 = 38 + 4 * h ∧ jrf (37 + 4 * h) 1 = 39 + 4 * h ∧ jrf (37 + 4 * h) 2 = 40 + 4 * h ∧ jik (38 + 4 * h) = 34 ∧ jik (39 + 4 * h) = 34 ∧ jik (40 + 4 * h) = 4 ∧ jln (38 + 4 * h) = 34 ∧ jln (39 + 4 * h) = 34 := by
  rcases (by omega : h = 0 ∨ h = 1 ∨ h = 2 ∨ h = 3) with rfl | rfl | rfl | rfl <;> decide +kernel
/-- racks: 25 + 2 r; the row behind it -/
theorem jr_t {r : Int} (h0 : 0 ≤ r) (h6 : r < 6) : jrf 1 r = 25 + 2 * r ∧ jcl (25 + 2 * r) = 4 ∧ jrf (25 + 2 * r) 0 = 26 + 2 * r ∧ jik (26 + 2 * r) = 40 ∧ jln (26 + 2 * r) = 40 := by
  rcases (by omega : r = 0 ∨ r = 1 ∨ r = 2 ∨ r = 3 ∨ r = 4 ∨ r = 5) with rfl | rfl | rfl | rfl | rfl | rfl <;> decide +kernel
theorem sX8_sum (r : Int) (n : Nat) (s : jMem) (hl : jln r = n) (hk : jik r = n) (hn : n ≤ 100) (hb : ∀ i : Nat, i < n → 0 ≤ s r i ∧ s r i ≤ 1000) : fX8_sum r s = some (jSum (s r) n, s) := by
  unfold fX8_sum
  rw [jGd_e (by rw [hl]; omega), jLet_e, hl]
  refine jIt_for (bot := fun _ _ _ _ _ => none) (b := bX8_sum_10) n (fun i rec => rec (jSum (s r) i) r n i s) _ ?_ ?_ 1000 (by omega)
  · intro i hi rec
    show bX8_sum_10 rec (jSum (s r) i) r n i s = rec (jSum (s r) (i + 1)) r n ((i + 1 : Nat) : Int) s
    have h1 := jSum_bd (f := s r) (n := i) (fun j hj => hb j (by omega))
    have h2 := hb i hi
    simp only [bX8_sum_10, jLet_e]
    rw [if_neg (by omega), jGd_e ⟨by omega, by rw [hk]; omega⟩, j32_id (by omega) (by omega), j32_id (by omega) (by omega)]
    rfl
  · intro rec
    show bX8_sum_10 rec (jSum (s r) n) r n n s = some (jSum (s r) n, s)
    simp only [bX8_sum_10, jRet]
    rw [if_pos (Int.le_refl _)]
/-- a row filled -/
def jFill (s : jMem) (r v n : Int) : jMem := fun a b => if a = r ∧ 0 ≤ b ∧ b < n then v else s a b
theorem jFill_row {s : jMem} {r v n r' : Int} (h : r' ≠ r) : jFill s r v n r' = s r' := by
  funext b
  simp [jFill, h]
theorem jFill_at {s : jMem} {r v n b : Int} (h0 : 0 ≤ b) (h1 : b < n) : jFill s r v n r b = v := by
  simp [jFill, h0, h1]
theorem sJ7_filli (r v : Int) (n : Nat) (s : jMem) (hl : jln r = n) (hk : jik r = n) (hn : n ≤ 600) : fJ7_fill_53178 r v s = some (0, jFill s r v n) := by
  unfold fJ7_fill_53178
  rw [jGd_e (by rw [hl]; omega), jLet_e, hl]
  have e0 : jFill s r v ((0 : Nat) : Int) = s := by
    funext a b
    simp only [jFill]
    rw [if_neg (by omega)]
  have := jIt_for (bot := fun _ _ _ _ _ => none) (b := bJ7_fill_53178_5) n (fun i rec => rec r v i n (jFill s r v i)) (some (0, jFill s r v n)) ?_ ?_ 1000 (by omega)
  · simp only [e0] at this
    exact this
  · intro i hi rec
    show bJ7_fill_53178_5 rec r v i n (jFill s r v i) = rec r v ((i + 1 : Nat) : Int) n (jFill s r v ((i + 1 : Nat) : Int))
    simp only [bJ7_fill_53178_5, jLet_e]
    rw [if_neg (by omega), jGd_e ⟨by omega, by rw [hk]; omega⟩, j32_id (by omega) (by omega)]
    have e : jU (jFill s r v i) r i v = jFill s r v ((i + 1 : Nat) : Int) := by
      funext a b
      simp only [jU, jFill]
      by_cases ha : a = r
      · by_cases hb : b = i
        · rw [if_pos ⟨ha, hb⟩, if_pos ⟨ha, by omega, by omega⟩]
        · rw [if_neg (fun z => hb z.2)]
          by_cases hc : 0 ≤ b ∧ b < i
          · rw [if_pos ⟨ha, hc.1, hc.2⟩, if_pos ⟨ha, by omega, by omega⟩]
          · rw [if_neg (fun z => hc z.2), if_neg (fun z => by omega)]
      · rw [if_neg (fun z => ha z.1), if_neg (fun z => ha z.1), if_neg (fun z => ha z.1)]
    rw [e]
    rfl
  · intro rec
    show bJ7_fill_53178_5 rec r v n n (jFill s r v n) = some (0, jFill s r v n)
    simp only [bJ7_fill_53178_5, jRet]
    rw [if_pos (Int.le_refl _)]
theorem sJ7_filll (r v : Int) (n : Nat) (s : jMem) (hl : jln r = n) (hk : jjk r = n) (hn : n ≤ 600) : fJ7_fill_d0a16 r v s = some (0, jFill s r v n) := by
  unfold fJ7_fill_d0a16
  rw [jGd_e (by rw [hl]; omega), jLet_e, hl]
  have e0 : jFill s r v ((0 : Nat) : Int) = s := by
    funext a b
    simp only [jFill]
    rw [if_neg (by omega)]
  have := jIt_for (bot := fun _ _ _ _ _ => none) (b := bJ7_fill_d0a16_6) n (fun i rec => rec r v i n (jFill s r v i)) (some (0, jFill s r v n)) ?_ ?_ 1000 (by omega)
  · simp only [e0] at this
    exact this
  · intro i hi rec
    show bJ7_fill_d0a16_6 rec r v i n (jFill s r v i) = rec r v ((i + 1 : Nat) : Int) n (jFill s r v ((i + 1 : Nat) : Int))
    simp only [bJ7_fill_d0a16_6, jLet_e]
    rw [if_neg (by omega), jGd_e ⟨by omega, by rw [hk]; omega⟩, j32_id (by omega) (by omega)]
    have e : jU (jFill s r v i) r i v = jFill s r v ((i + 1 : Nat) : Int) := by
      funext a b
      simp only [jU, jFill]
      by_cases ha : a = r
      · by_cases hb : b = i
        · rw [if_pos ⟨ha, hb⟩, if_pos ⟨ha, by omega, by omega⟩]
        · rw [if_neg (fun z => hb z.2)]
          by_cases hc : 0 ≤ b ∧ b < i
          · rw [if_pos ⟨ha, hc.1, hc.2⟩, if_pos ⟨ha, by omega, by omega⟩]
          · rw [if_neg (fun z => hc z.2), if_neg (fun z => by omega)]
      · rw [if_neg (fun z => ha z.1), if_neg (fun z => ha z.1), if_neg (fun z => ha z.1)]
    rw [e]
    rfl
  · intro rec
    show bJ7_fill_d0a16_6 rec r v n n (jFill s r v n) = some (0, jFill s r v n)
    simp only [bJ7_fill_d0a16_6, jRet]
    rw [if_pos (Int.le_refl _)]
end

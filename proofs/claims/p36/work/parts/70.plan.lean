/-! ===== lacks: there is a plan; bounds ===== -/
section
theorem jUse_sum {c : Int} (h : jCode c) : jSum (jUse c) 34 ≤ 4 := by
  obtain ⟨k, a, rfl, k1, k3, a0, a4, hr⟩ := h
  have e1 : (100 * k + a) / 100 = k := by omega
  have e2 : (100 * k + a) % 100 = a := by omega
  by_cases c1 : k = 1
  · have le := jSum_le (f := jUse (100 * k + a)) (g := fun q => (if q = a then 1 else 0) + ((if q = a + 1 then 1 else 0) + (if q = a + 2 then 1 else 0))) (n := 34) (fun i hi => by
      unfold jUse
      rw [e1, e2, if_pos c1]
      by_cases x : (i : Int) = a ∨ (i : Int) = a + 1 ∨ (i : Int) = a + 2
      · rw [if_pos x]
        split <;> split <;> split <;> omega
      · rw [if_neg x]
        split <;> split <;> split <;> omega)
    rw [jSum_add, jSum_add, jSum_one, jSum_one, jSum_one] at le
    have b : ∀ c : Prop, [Decidable c] → (if c then (1 : Int) else 0) ≤ 1 := fun c _ => y01.2
    have b1 := b (0 ≤ a ∧ a < (34 : Nat))
    have b2 := b (0 ≤ a + 1 ∧ a + 1 < (34 : Nat))
    have b3 := b (0 ≤ a + 2 ∧ a + 2 < (34 : Nat))
    omega
  · have le := jSum_le (f := jUse (100 * k + a)) (g := fun q => if q = a then k + 1 else 0) (n := 34) (fun i hi => by
      unfold jUse
      rw [e1, e2, if_neg c1]
      exact Int.le_refl _)
    rw [jSum_one, if_pos (by omega)] at le
    omega
/-- sorts that nothing was laid of -/
def yRoom (L : Int → Int) : Prop := 5 ≤ jSum (fun q => if L q = 0 then 1 else 0) 34
theorem iT_room {s : jMem} {h : Int} (hI : iT s) (h0 : 0 ≤ h) (h4 : h < 4) : yRoom (vL s h) := by
  obtain ⟨a1, a2, a3, a4, a5, a6⟩ := hI.2.1 h h0 h4
  obtain ⟨b1, b2⟩ := hI.2.2 h h0 h4
  have ind : ∀ m : Nat, (m : Int) ≤ s 58 h → jSum (fun q => jSum (fun k => jUse (s 59 (5 * h + k)) q) m) 34 ≤ 4 * (m : Int) := by
    intro m
    induction m with
    | zero => intro _; exact Int.le_of_eq (jSum_zero (fun i hi => rfl))
    | succ m ih =>
      intro hm
      have e : (fun q => jSum (fun k => jUse (s 59 (5 * h + k)) q) (m + 1)) = fun q => jSum (fun k => jUse (s 59 (5 * h + k)) q) m + jUse (s 59 (5 * h + m)) q := by funext q; rfl
      rw [e, jSum_add]
      have := ih (by omega)
      have := jUse_sum (b1 m (by omega) (by omega)).2
      omega
  have tot := ind (s 58 h).toNat (by omega)
  rw [← jSum_cg (f := vL s h) (fun i hi => b2 i (by omega) (by omega))] at tot
  have cnt := jSum_le (f := fun q => 1) (g := fun q => (if vL s h q = 0 then 1 else 0) + vL s h q) (n := 34) (fun i hi => by
    have := a1 i (by omega) (by omega)
    split <;> omega)
  rw [jSum_add] at cnt
  have one : jSum (fun _ => (1 : Int)) 34 = 34 := by decide
  unfold yRoom
  omega
theorem yPlan {L : Int → Int} {w : Int} (hw : 0 ≤ w ∧ w ≤ 4) (hL : ∀ q : Int, 0 ≤ q → q < 34 → L q ≤ 4) (hr : yRoom L) : ∃ n, yPn L w n := by
  obtain ⟨Z, hZ⟩ : ∃ Z : Nat → Int, Z = jSum (fun q => if L q = 0 then 1 else 0) := ⟨_, rfl⟩
  have Zs : ∀ m : Nat, Z (m + 1) = Z m + (if L m = 0 then 1 else 0) := fun m => by rw [hZ]; rfl
  have Z0 : Z 0 = 0 := by rw [hZ]; rfl
  have Z34 : 5 ≤ Z 34 := by rw [hZ]; exact hr
  have Zn : ∀ m : Nat, 0 ≤ Z m := fun m => by
    rw [hZ]; exact (yc_bd m).1
  obtain ⟨T, hT⟩ : ∃ T : Nat → Int, T = fun m => if Z m < w then Z m else w := ⟨_, rfl⟩
  obtain ⟨U, hU⟩ : ∃ U : Nat → Int, U = fun m => if Z m ≤ w then 0 else 1 := ⟨_, rfl⟩
  have sT : ∀ m : Nat, (L m ≠ 0 ∧ T (m + 1) = T m ∧ U (m + 1) = U m) ∨ (L m = 0 ∧ ((T (m + 1) = T m + 1 ∧ U (m + 1) = U m) ∨ (T (m + 1) = T m ∧ U (m + 1) = U m + 1) ∨ (T (m + 1) = T m ∧ U (m + 1) = U m))) := by
    intro m
    have a := Zs m
    have b := Zn m
    simp only [hT, hU]
    by_cases c : L m = 0
    · rw [if_pos c] at a
      refine Or.inr ⟨c, ?_⟩
      rw [a]
      by_cases d : Z m < w
      · left
        rw [if_pos d, if_pos (show Z m ≤ w by omega), if_pos (show Z m + 1 ≤ w by omega)]
        refine ⟨?_, rfl⟩
        split <;> omega
      · rw [if_neg d, if_neg (show ¬ Z m + 1 < w by omega), if_neg (show ¬ Z m + 1 ≤ w by omega)]
        right
        by_cases e : Z m ≤ w
        · left; rw [if_pos e]; exact ⟨rfl, rfl⟩
        · right; rw [if_neg e]; exact ⟨rfl, rfl⟩
    · rw [if_neg c, Int.add_zero] at a
      exact Or.inl ⟨c, by rw [a], by rw [a]⟩
  have bT : ∀ m : Nat, 0 ≤ T m ∧ T m ≤ w := fun m => by
    have := Zn m
    simp only [hT]
    split <;> omega
  have bU : ∀ m : Nat, 0 ≤ U m ∧ U m ≤ 1 := fun m => by
    simp only [hU]
    split <;> omega
  have mono : ∀ m k : Nat, T m ≤ T (m + k) ∧ U m ≤ U (m + k) := by
    intro m k
    induction k with
    | zero => exact ⟨Int.le_refl _, Int.le_refl _⟩
    | succ k ih =>
      have := sT (m + k)
      rw [show m + (k + 1) = m + k + 1 from rfl]
      omega
  obtain ⟨n, hn⟩ : ∃ n : Int → Int, n = fun q => 3 * (T (q.toNat + 1) - T q.toNat) + 2 * (U (q.toNat + 1) - U q.toNat) := ⟨_, rfl⟩
  have nv : ∀ m : Nat, n m = 3 * (T (m + 1) - T m) + 2 * (U (m + 1) - U m) := fun m => by rw [hn]; rfl
  have row : ∀ (r i : Nat), 9 * r + i ≤ 34 → yRP L r 4 i 0 0 (T (9 * r + i) - T (9 * r)) (U (9 * r + i) - U (9 * r)) n := by
    intro r i
    induction i with
    | zero => intro _; exact ⟨rfl, rfl, by rw [Nat.add_zero]; omega, by rw [Nat.add_zero]; omega⟩
    | succ i ih =>
      intro hi
      have k := ih (by omega)
      have st := sT (9 * r + i)
      have b1 := bT (9 * r + i + 1)
      have b2 := bU (9 * r + i + 1)
      have b3 := bT (9 * r)
      have b4 := bU (9 * r)
      have ev := nv (9 * r + i)
      rw [show ((9 * r + i : Nat) : Int) = 9 * (r : Int) + i by omega] at ev st
      have lb := hL (9 * (r : Int) + i) (by omega) (by omega)
      rw [show 9 * r + (i + 1) = 9 * r + i + 1 from rfl]
      refine ⟨0, T (9 * r + i + 1) - T (9 * r + i), U (9 * r + i + 1) - U (9 * r + i), ?_, by omega, by split <;> omega, by omega, by omega, by omega, by omega, by rw [ev]; omega, ?_⟩
      · rw [show T (9 * r + i + 1) - T (9 * r) - 0 - (T (9 * r + i + 1) - T (9 * r + i)) = T (9 * r + i) - T (9 * r) by omega, show U (9 * r + i + 1) - U (9 * r) - (U (9 * r + i + 1) - U (9 * r + i)) = U (9 * r + i) - U (9 * r) by omega]
        exact k
      · rw [ev]; omega
  have tp : ∀ R : Nat, R ≤ 3 → yTP L 4 R (T (9 * R)) (U (9 * R)) n := by
    intro R
    induction R with
    | zero =>
      intro _
      refine ⟨?_, ?_⟩
      · show T 0 = 0
        simp only [hT]; rw [Z0]; split <;> omega
      · show U 0 = 0
        simp only [hU]; rw [Z0]; split <;> omega
    | succ R ih =>
      intro hR
      refine ⟨T (9 * (R + 1)) - T (9 * R), U (9 * (R + 1)) - U (9 * R), ?_, ?_⟩
      · rw [show T (9 * (R + 1)) - (T (9 * (R + 1)) - T (9 * R)) = T (9 * R) by omega, show U (9 * (R + 1)) - (U (9 * (R + 1)) - U (9 * R)) = U (9 * R) by omega]
        exact ih (by omega)
      · have := row R 9 (by omega)
        unfold yRw yLn
        rw [if_pos (by omega)]
        exact this
  refine ⟨n, T 34 - T 27, U 34 - U 27, ?_, ?_⟩
  · have e1 : T 34 = w := by simp only [hT]; split <;> omega
    have e2 : U 34 = 1 := by simp only [hU]; split <;> omega
    rw [e1, e2, show w - (w - T 27) = T 27 by omega, show 1 - (1 - U 27) = U 27 by omega]
    exact tp 3 (Nat.le_refl _)
  · exact row 3 7 (by omega)
theorem jSum_ap {f : Int → Int} (a : Nat) : ∀ b : Nat, jSum f (a + b) = jSum f a + jSum (fun j => f ((a : Int) + j)) b := by
  intro b
  induction b with
  | zero => simp [jSum]
  | succ b ih =>
    rw [show a + (b + 1) = a + b + 1 from rfl]
    simp only [jSum]
    rw [ih, show ((a + b : Nat) : Int) = (a : Int) + b by omega]
    omega
/-- between all that is wanted and what is wanted beyond all that is there -/
theorem yTC_bd {H L : Int → Int} {K : Int} (hK : 0 ≤ K) (hH : ∀ q : Int, 0 ≤ q → q < 34 → 0 ≤ H q) : ∀ (R m : Nat), R ≤ 4 → m = (if R = 4 then 34 else 9 * R) → ∀ (g p : Int) (n : Int → Int), yTP L K R g p n → 3 * g + 2 * p - jSum H m ≤ yTC H n R ∧ yTC H n R ≤ 3 * g + 2 * p := by
  intro R
  induction R with
  | zero =>
    intro m _ hm g p n h
    rw [if_neg (by decide)] at hm
    subst hm
    rw [h.1, h.2]
    exact ⟨Int.le_refl 0, Int.le_refl 0⟩
  | succ R ih =>
    intro m hR hm g p n ⟨g', p', h1, h2⟩
    have k := ih (9 * R) (by omega) (by rw [if_neg (by omega)]) _ _ n h1
    obtain ⟨-, -, -, -, b5, b6⟩ := yRP_bd hK _ _ _ _ _ n h2
    have em : m = 9 * R + yLn (R : Int) := by
      rw [hm]
      unfold yLn
      by_cases c : R + 1 = 4
      · rw [if_pos c, if_neg (by omega)]; omega
      · rw [if_neg c, if_pos (by omega)]; omega
    have hHr : ∀ j : Nat, j < yLn (R : Int) → 0 ≤ H (9 * (R : Int) + j) := fun j hj => by
      have := yLn_r (r := (R : Int)) (by omega) (by omega) hj
      exact hH _ this.1 this.2
    have up : yCo H R n (yLn R) ≤ jSum (fun j => n (9 * (R : Int) + j)) (yLn R) := jSum_le (fun j hj => by
      have := b5 j hj
      have := hHr j hj
      unfold yMx
      split <;> omega)
    have lo : jSum (fun j => n (9 * (R : Int) + j) - H (9 * (R : Int) + j)) (yLn R) ≤ yCo H R n (yLn R) := jSum_le (fun j hj => yMx_bd.2)
    rw [jSum_sub] at lo
    have ap := jSum_ap (f := H) (9 * R) (yLn (R : Int))
    rw [← em, show ((9 * R : Nat) : Int) = 9 * (R : Int) by omega] at ap
    simp only [yTC]
    omega
theorem yPr_le {H : Int → Int} (hH : ∀ q : Int, 0 ≤ q → q < 34 → 0 ≤ H q) : yPr H + yUn H ≤ jSum H 34 := by
  have := jSum_le (f := fun q => (if 2 ≤ H q then 1 else 0) + (if 1 ≤ H q then 1 else 0)) (g := H) (n := 34) (fun i hi => by
    have := hH i (by omega) (by omega)
    split <;> split <;> omega)
  rw [jSum_add] at this
  exact this
theorem yOu_le {H : Int → Int} (hH : ∀ q : Int, 0 ≤ q → q < 34 → 0 ≤ H q) : yOq H + yOu H ≤ jSum H 34 := by
  have := jSum_le (f := fun q => (if yO q ∧ 2 ≤ H q then 1 else 0) + (if yO q ∧ 1 ≤ H q then 1 else 0)) (g := H) (n := 34) (fun i hi => by
    have := hH i (by omega) (by omega)
    split <;> split <;> omega)
  rw [jSum_add] at this
  exact this
theorem yLack_bd {f7 f13 w v : Int} {H L : Int → Int} (hw : 0 ≤ w ∧ w ≤ 4) (hH : ∀ q : Int, 0 ≤ q → q < 34 → 0 ≤ H q) (hL : ∀ q : Int, 0 ≤ q → q < 34 → L q ≤ 4) (hr : yRoom L) (h : yLack f7 f13 w H L v) : 3 * w + 2 - jSum H 34 ≤ v ∧ v ≤ 14 := by
  obtain ⟨lw, ⟨k1, k2, k3⟩, rfl⟩ := h
  obtain ⟨n, hn⟩ := yPlan hw hL hr
  have b := yTC_bd (by decide) hH 4 34 (Nat.le_refl _) rfl _ _ n hn
  have l1 : lw ≤ 14 := by
    have := k3 _ ⟨n, hn, rfl⟩
    omega
  have l2 : 3 * w + 2 - jSum H 34 ≤ lw := by
    obtain ⟨n', n1, n2⟩ := k2 (by omega)
    have := yTC_bd (by decide) hH 4 34 (Nat.le_refl _) rfl _ _ n' n1
    omega
  have p7 := yPr_le hH
  have p13 := yOu_le hH
  have l7 : 14 - jSum H 34 ≤ yL7 H := by
    unfold yL7 jmin
    split <;> split <;> omega
  have l13 : 14 - jSum H 34 ≤ yL13 H := by
    have := (yc_bd (P := fun q => yO q ∧ 2 ≤ H q) 34).1
    have e : yOq H = jSum (fun q => if yO q ∧ 2 ≤ H q then 1 else 0) 34 := rfl
    unfold yL13
    split <;> omega
  unfold yLk
  by_cases c : w = 4
  · split <;> split <;> omega
  · rw [if_neg (fun z => c z.1), if_neg (fun z => c z.1)]
    omega
end

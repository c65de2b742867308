/-! ===== deal ===== -/
section
/-- the class's cells of one memory, the reference's of another -/
def jMix (c m : jMem) : jMem := fun x y => if x < 53 then c x y else m x y
theorem jMix_c {c m : jMem} {x : Int} (h : x < 53) : jMix c m x = c x := by funext y; simp [jMix, h]
theorem jMix_m {c m : jMem} {x : Int} (h : 53 ≤ x) : jMix c m x = m x := by
  funext y
  unfold jMix
  rw [if_neg (by omega)]
theorem jMix_dr {c m : jMem} {h N z : Int} (h0 : 0 ≤ h) (h4 : h < 4) : jMix (cDraw c h N z) (mDraw m h N z) = mDraw (cDraw (jMix c m) h N z) h N z := by
  have crow : ∀ (s : jMem) (x : Int), 53 ≤ x → cDraw s h N z x = s x := by
    intro s x hx
    unfold cDraw
    rw [jU_row (by omega), jU_row (by omega), jU_row (by omega), jU_row (by omega)]
  have mrow : ∀ (s : jMem) (x : Int), x < 53 → mDraw s h N z x = s x := by
    intro s x hx
    unfold mDraw
    rw [jU_row (by omega), jU_row (by omega), jU_row (by omega)]
  funext x
  by_cases hx : x < 53
  · rw [jMix_c hx, mrow _ x hx]
    funext y
    unfold cDraw
    simp only [jU_eq]
    rw [jMix_c (by omega : (37 + 4 * h) < 53), jMix_c (by omega : (38 + 4 * h) < 53), jMix_c (by omega : (3 : Int) < 53), jMix_c hx]
  · rw [jMix_m (by omega)]
    funext y
    unfold mDraw
    simp only [jU_eq]
    rw [crow _ 54 (by decide), crow _ 56 (by decide), crow _ x (by omega), jMix_m (by omega : (53 : Int) ≤ 54), jMix_m (by omega : (53 : Int) ≤ 56), jMix_m (by omega : (53 : Int) ≤ x)]
/-- one draw, in both, the reference's memory being any that has its own cells alike -/
theorem jStep {c m : jMem} {h : Int} (hI : iT (jMix c m)) (hS : iS (jMix c m)) (h0 : 0 ≤ h) (h4 : h < 4) (hsz : jSum (vH m h) 34 + 3 * m 58 h ≤ 13) (ht : 0 < jSum (m 54) 34) : ∃ (N : Nat) (c' m' : jMem), N < 34 ∧ fX10_drawNext (37 + 4 * h) c = some ((N : Int), c') ∧ (∀ μ : jMem, (∀ x : Int, 53 ≤ x → μ x = m x) → ∃ μ' : jMem, fX11_drawn h μ = some ((N : Int), μ') ∧ (∀ x : Int, 53 ≤ x → μ' x = m' x) ∧ ∀ x : Int, x < 53 → μ' x = μ x) ∧ iT (jMix c' m') ∧ iS (jMix c' m') ∧ fD (jMix c m) (jMix c' m') ∧ (∀ g : Int, 0 ≤ g → g < 4 → jSum (vH m' g) 34 = jSum (vH m g) 34 + (if g = h then 1 else 0)) ∧ m' 58 = m 58 ∧ jSum (m' 54) 34 = jSum (m 54) 34 - 1 := by
  obtain ⟨hW, hH, hG⟩ := id hI
  obtain ⟨z1, z2, z3⟩ := id hS
  have e3 : jMix c m 3 = c 3 := jMix_c (by decide)
  have e0 : jMix c m 0 = c 0 := jMix_c (by decide)
  have e53 : jMix c m 53 = m 53 := jMix_m (by decide)
  have e54 : jMix c m 54 = m 54 := jMix_m (by decide)
  have e56 : jMix c m 56 = m 56 := jMix_m (by decide)
  have e58 : jMix c m 58 = m 58 := jMix_m (by decide)
  have e37 : jMix c m (37 + 4 * h) = c (37 + 4 * h) := jMix_c (by omega)
  have e38 : jMix c m (38 + 4 * h) = c (38 + 4 * h) := jMix_c (by omega)
  have eH : ∀ g, vH (jMix c m) g = vH m g := fun g => by funext p; unfold vH; rw [e56]
  obtain ⟨a1, a2, a3, a4, a5, a6⟩ := hH h h0 h4
  rw [e0, e53] at z1
  rw [e53] at z2 z3
  have hw54 : ∀ i : Nat, i < 34 → 0 ≤ m 54 i ∧ m 54 i ≤ 4 := fun i hi => by
    have := iT_bd hI h0 h4 (q := i) (by omega) (by omega)
    rw [e54] at this
    omega
  have e354 : ∀ n : Nat, n ≤ 34 → jSum (c 3) n = jSum (m 54) n := fun n hn => by
    have := iW_sum hW n hn
    rw [e54, e3] at this
    exact this.symm
  have hw3 : ∀ i : Nat, i < 34 → 0 ≤ c 3 i ∧ c 3 i ≤ 4 := fun i hi => by
    have h1 := (hW i (by omega) (by omega)).1
    rw [e3, e54] at h1
    have := hw54 i hi
    omega
  have tp : 0 < jSum (c 3) 34 := by rw [e354 34 (by decide)]; exact ht
  obtain ⟨N, hN, lo, hi⟩ := jPick_ex (w := c 3) (n := jNext (c 0 8) / 64 % jSum (c 3) 34) 34 (Int.emod_nonneg _ (by omega)) (Int.emod_lt_of_pos _ tp)
  have hwN : 1 ≤ m 54 N := by
    have f1 : jSum (c 3) (N + 1) = jSum (c 3) N + c 3 N := rfl
    have f2 := (hW N (by omega) (by omega)).1
    rw [e3, e54] at f2
    have f3 : jSum (c 3) N < jSum (c 3) (N + 1) := Int.lt_of_le_of_lt lo hi
    omega
  obtain ⟨b1, b2, b3, b4, b5, b6⟩ := a1 N (by omega) (by omega)
  rw [e38, eH] at b1
  rw [eH] at b3 b4 a5 a6
  rw [e37] at a5 a2
  rw [e58] at a2 a3 a4 a6
  have sb := jSum_bd (f := vH m h) (n := 34) (fun i hi => by
    have := (hH h h0 h4).1 i (by omega) (by omega)
    rw [eH] at this
    omega)
  have hd := sX10_drawNext (h := h) (s := c) (N := N) h0 h4 hw3 ⟨by omega, by omega⟩ tp hN lo hi ⟨by omega, by omega⟩ ⟨by omega, by omega⟩
  obtain ⟨z, hz⟩ : ∃ z, z = jNext (c 0 8) := ⟨_, rfl⟩
  have hm : ∀ μ : jMem, (∀ x : Int, 53 ≤ x → μ x = m x) → fX11_drawn h μ = some ((N : Int), mDraw μ h N z) := by
    intro μ hμ
    have u54 := hμ 54 (by decide)
    have u53 := hμ 53 (by decide)
    have u56 := hμ 56 (by decide)
    have r := sX11_drawn (h := h) (s := μ) (N := N) h0 h4 (by rw [u54]; exact hw54) (by rw [u53]; omega) (by rw [u54]; exact ht) hN (by rw [u54, u53, ← e354 34 (by decide), ← e354 N (by omega), ← z1]; exact lo) (by rw [u54, u53, ← e354 34 (by decide), ← e354 (N + 1) (by omega), ← z1]; exact hi) (by rw [u56]; show 0 ≤ vH m h N ∧ vH m h N ≤ 100; omega)
    rw [r, u53, ← z1, ← hz]
  rw [← hz] at hd
  obtain ⟨g1, g2⟩ := iT_draw (s := jMix c m) (h := h) (z := z) (N := N) hI h0 h4 hN (by rw [e54]; exact hwN) (by rw [eH, e58]; exact hsz)
  rw [← jMix_dr h0 h4] at g1 g2
  have mr58 : mDraw m h N z 58 = m 58 := by unfold mDraw; rw [jU_row (by decide), jU_row (by decide), jU_row (by decide)]
  have nb := jNext_bd (z := c 0 8)
  rw [← hz] at nb
  refine ⟨N, cDraw c h N z, mDraw m h N z, hN, hd, fun μ hμ => ⟨mDraw μ h N z, hm μ hμ, fun x hx => ?_, fun x hx => ?_⟩, g1, ?_, g2, fun g g0 g4 => ?_, mr58, ?_⟩
  · funext y
    unfold mDraw
    simp only [jU_eq]
    rw [hμ 54 (by decide), hμ 56 (by decide), hμ x hx]
  · unfold mDraw
    rw [jU_row (by omega), jU_row (by omega), jU_row (by omega)]
  · have q0 : jMix (cDraw c h N z) (mDraw m h N z) 0 8 = z := by
      rw [jMix_c (by decide)]
      unfold cDraw
      rw [jU_row (by omega), jU_row (by omega), jU_row (by omega), jU_at, if_pos rfl]
    have q1 : jMix (cDraw c h N z) (mDraw m h N z) 53 6 = z := by
      rw [jMix_m (by decide)]
      unfold mDraw
      rw [jU_row (by omega), jU_row (by omega), jU_at, if_pos rfl]
    unfold iS
    rw [q0, q1]
    exact ⟨rfl, nb.1, nb.2⟩
  · have ev : ∀ p : Int, 0 ≤ p → p < 34 → vH (mDraw m h N z) g p = if g = h ∧ p = N then vH m g p + 1 else vH m g p := by
      intro p p0 p4
      unfold vH mDraw
      rw [jU_at, jU_row (by decide), jU_row (by decide)]
      by_cases e : g = h ∧ p = N
      · rw [if_pos e, if_pos (by omega), e.1, e.2]
      · rw [if_neg e, if_neg (by omega)]
    by_cases e : g = h
    · rw [if_pos e, jSum_up (f := vH m g) (g := vH (mDraw m h N z) g) (n := 34) (k := N) hN (fun i hi hne => by rw [ev i (by omega) (by omega), if_neg (by omega)]), ev N (by omega) (by omega), if_pos ⟨e, rfl⟩]
      omega
    · rw [if_neg e, jSum_cg (f := vH (mDraw m h N z) g) (g := vH m g) (fun i hi => by rw [ev i (by omega) (by omega), if_neg (fun z => e z.1)])]
      omega
  · have ev : ∀ p : Int, mDraw m h N z 54 p = if p = N then m 54 p - 1 else m 54 p := by
      intro p
      unfold mDraw
      rw [jU_row (by decide), jU_at, jU_row (by decide)]
      by_cases e : p = N
      · rw [if_pos e, if_pos e, e]
      · rw [if_neg e, if_neg e]
    rw [jSum_up (f := m 54) (g := mDraw m h N z 54) (n := 34) (k := N) hN (fun i hi hne => by rw [ev i, if_neg (by omega)]), ev N, if_pos rfl]
    omega
theorem jCellD {c m : jMem} {h : Int} (hI : iT (jMix c m)) (hS : iS (jMix c m)) (h0 : 0 ≤ h) (h4 : h < 4) (hsz : jSum (vH m h) 34 + 3 * m 58 h ≤ 13) (ht : 0 < jSum (m 54) 34) : ∃ (N : Nat) (z : Int), fX10_drawNext (37 + 4 * h) c = some ((N : Int), cDraw c h N z) := by
  obtain ⟨hW, hH, hG⟩ := id hI
  obtain ⟨z1, z2, z3⟩ := id hS
  have e3 : jMix c m 3 = c 3 := jMix_c (by decide)
  have e0 : jMix c m 0 = c 0 := jMix_c (by decide)
  have e53 : jMix c m 53 = m 53 := jMix_m (by decide)
  have e54 : jMix c m 54 = m 54 := jMix_m (by decide)
  have e56 : jMix c m 56 = m 56 := jMix_m (by decide)
  have e58 : jMix c m 58 = m 58 := jMix_m (by decide)
  have e37 : jMix c m (37 + 4 * h) = c (37 + 4 * h) := jMix_c (by omega)
  have e38 : jMix c m (38 + 4 * h) = c (38 + 4 * h) := jMix_c (by omega)
  have eH : ∀ g, vH (jMix c m) g = vH m g := fun g => by funext p; unfold vH; rw [e56]
  obtain ⟨a1, a2, a3, a4, a5, a6⟩ := hH h h0 h4
  rw [e0, e53] at z1
  rw [e53] at z2 z3
  have hw54 : ∀ i : Nat, i < 34 → 0 ≤ m 54 i ∧ m 54 i ≤ 4 := fun i hi => by
    have := iT_bd hI h0 h4 (q := i) (by omega) (by omega)
    rw [e54] at this
    omega
  have e354 : ∀ n : Nat, n ≤ 34 → jSum (c 3) n = jSum (m 54) n := fun n hn => by
    have := iW_sum hW n hn
    rw [e54, e3] at this
    exact this.symm
  have hw3 : ∀ i : Nat, i < 34 → 0 ≤ c 3 i ∧ c 3 i ≤ 4 := fun i hi => by
    have h1 := (hW i (by omega) (by omega)).1
    rw [e3, e54] at h1
    have := hw54 i hi
    omega
  have tp : 0 < jSum (c 3) 34 := by rw [e354 34 (by decide)]; exact ht
  obtain ⟨N, hN, lo, hi⟩ := jPick_ex (w := c 3) (n := jNext (c 0 8) / 64 % jSum (c 3) 34) 34 (Int.emod_nonneg _ (by omega)) (Int.emod_lt_of_pos _ tp)
  obtain ⟨b1, b2, b3, b4, b5, b6⟩ := a1 N (by omega) (by omega)
  rw [e38, eH] at b1
  rw [eH] at b3 b4 a5 a6
  rw [e37] at a5 a2
  rw [e58] at a2 a3 a4 a6
  have sb := jSum_bd (f := vH m h) (n := 34) (fun i hi => by
    have := (hH h h0 h4).1 i (by omega) (by omega)
    rw [eH] at this
    omega)
  exact ⟨N, _, sX10_drawNext (h := h) (s := c) (N := N) h0 h4 hw3 ⟨by omega, by omega⟩ tp hN lo hi ⟨by omega, by omega⟩ ⟨by omega, by omega⟩⟩
theorem fD_tr {s t u : jMem} (h : fD s t) (k : fD t u) : fD s u := fun x y a b c d e f => (k x y a b c d e f).trans (h x y a b c d e f)
theorem jSeq {c m : jMem} (hI : iT (jMix c m)) (hS : iS (jMix c m)) (hz : ∀ g : Int, 0 ≤ g → g < 4 → jSum (vH m g) 34 = 0 ∧ m 58 g = 0) (hw : jSum (m 54) 34 = 136) : ∀ n : Nat, n ≤ 52 → ∃ (C M : Nat → jMem) (N : Nat → Nat), C 0 = c ∧ M 0 = m ∧ (∀ k : Nat, k < n → N k < 34 ∧ fX10_drawNext (37 + 4 * ((k / 13 : Nat) : Int)) (C k) = some ((N k : Int), C (k + 1)) ∧ ∀ μ : jMem, (∀ x : Int, 53 ≤ x → μ x = M k x) → ∃ μ' : jMem, fX11_drawn ((k / 13 : Nat) : Int) μ = some ((N k : Int), μ') ∧ (∀ x : Int, 53 ≤ x → μ' x = M (k + 1) x) ∧ ∀ x : Int, x < 53 → μ' x = μ x) ∧ iT (jMix (C n) (M n)) ∧ iS (jMix (C n) (M n)) ∧ fD (jMix c m) (jMix (C n) (M n)) ∧ (∀ g : Int, 0 ≤ g → g < 4 → jSum (vH (M n) g) 34 = if (n : Int) ≤ 13 * g then 0 else if (n : Int) ≤ 13 * g + 13 then (n : Int) - 13 * g else 13) ∧ M n 58 = m 58 ∧ jSum (M n 54) 34 = 136 - (n : Int) := by
  intro n
  induction n with
  | zero =>
    intro _
    refine ⟨fun _ => c, fun _ => m, fun _ => 0, rfl, rfl, fun k hk => by omega, hI, hS, fD_rf _, fun g g0 g4 => ?_, rfl, by rw [hw]; rfl⟩
    rw [if_pos (by omega)]; exact (hz g g0 g4).1
  | succ n ih =>
    intro hn
    obtain ⟨C, M, N, hC, hM, hst, i1, i2, i3, i4, i5, i6⟩ := ih (by omega)
    have q13 : n / 13 < 4 := by omega
    have e4 := i4 ((n / 13 : Nat) : Int) (by omega) (by omega)
    have e5 := (hz ((n / 13 : Nat) : Int) (by omega) (by omega)).2
    obtain ⟨K, c', m', hK, g1, g2, g3, g4, g5, g6, g7, g8⟩ := jStep (h := ((n / 13 : Nat) : Int)) i1 i2 (by omega) (by omega) (by
      rw [i5, e5, e4]
      split
      · omega
      · split <;> omega) (by omega)
    refine ⟨fun k => if k = n + 1 then c' else C k, fun k => if k = n + 1 then m' else M k, fun k => if k = n then K else N k, ?_, ?_, fun k hk => ?_, ?_, ?_, ?_, fun g h0 h4 => ?_, ?_, ?_⟩
    · dsimp only; rw [if_neg (by omega)]; exact hC
    · dsimp only; rw [if_neg (by omega)]; exact hM
    · dsimp only
      by_cases e : k = n
      · subst e
        rw [if_pos rfl, if_pos rfl, if_neg (by omega), if_pos rfl, if_neg (by omega)]
        exact ⟨hK, g1, g2⟩
      · rw [if_neg e, if_neg (by omega), if_neg (by omega), if_neg (by omega), if_neg (by omega)]
        exact hst k (by omega)
    · dsimp only; rw [if_pos rfl, if_pos rfl]; exact g3
    · dsimp only; rw [if_pos rfl, if_pos rfl]; exact g4
    · dsimp only; rw [if_pos rfl, if_pos rfl]; exact fD_tr i3 g5
    · dsimp only; rw [if_pos rfl, g6 g h0 h4, i4 g h0 h4]
      by_cases a1 : (n : Int) ≤ 13 * g
      · rw [if_pos a1]
        by_cases a2 : g = ((n / 13 : Nat) : Int)
        · rw [if_pos a2, if_neg (by omega), if_pos (by omega)]; omega
        · rw [if_neg a2, if_pos (by omega)]; omega
      · rw [if_neg a1]
        by_cases a3 : (n : Int) ≤ 13 * g + 13
        · rw [if_pos a3]
          by_cases a2 : g = ((n / 13 : Nat) : Int)
          · rw [if_pos a2, if_neg (by omega), if_pos (by omega)]; omega
          · rw [if_neg a2, if_neg (by omega), if_neg (by omega)]; omega
        · rw [if_neg a3, if_neg (by omega), if_neg (by omega), if_neg (by omega)]; omega
    · dsimp only; rw [if_pos rfl, g7, i5]
    · dsimp only; rw [if_pos rfl, g8, i6]; omega
/-- the class, up to the draws -/
theorem zX10_deal {s : jMem} {v : Int} (hI : iT s) (hv : 0 ≤ v) {P : Int → jMem → Prop} (hk : ∀ t : jMem, (∀ x y : Int, (x ≠ 0 ∨ y ≠ 8) → x ≠ 3 → x ≠ 4 → ¬ (37 ≤ x ∧ x < 53) → t x y = s x y) → t 0 8 = v → (∀ q : Int, 0 ≤ q → q < 34 → t 3 q = 4 ∧ t 4 q = 0) → (∀ g : Int, 0 ≤ g → g < 4 → t (37 + 4 * g) 3 = 0 ∧ t (37 + 4 * g) 4 = 0 ∧ ∀ q : Int, 0 ≤ q → q < 34 → t (38 + 4 * g) q = 0 ∧ t (39 + 4 * g) q = 0) → jHo P (jIt (fun _ _ => none) (bX10_deal_56) 1000 0 t)) : jHo P (fX10_deal v s) := by
  obtain ⟨hW, hH, hG⟩ := id hI
  have u := jik_t
  have ul := jln_t
  have w := jrk_t
  unfold fX10_deal
  refine gHo_if (fun _ => ?_) (fun hc => absurd hv hc)
  refine gHo_nm fun s0 hs0 => ?_
  refine gIt2 (fun a t => 0 ≤ a ∧ a ≤ 4 ∧ (∀ x y : Int, (x ≠ 0 ∨ y ≠ 8) → x ≠ 3 → ¬ (37 ≤ x ∧ x < 53) → t x y = s x y) ∧ t 0 8 = v ∧ (∀ q : Int, 0 ≤ q → q < 34 → 0 ≤ t 3 q ∧ t 3 q ≤ 4 + 8 * a) ∧ ∀ g : Int, 0 ≤ g → g < 4 → if g < a then (t (37 + 4 * g) 3 = 0 ∧ t (37 + 4 * g) 4 = 0 ∧ ∀ q : Int, 0 ≤ q → q < 34 → t (38 + 4 * g) q = 0 ∧ t (39 + 4 * g) q = 0) else (t (38 + 4 * g) = s (38 + 4 * g) ∧ t (39 + 4 * g) = s (39 + 4 * g))) (fun a => (4 - a).toNat) ?_ 1000 0 s0 ⟨by omega, by omega, fun x y h1 h2 h3 => ?_, ?_, fun q q0 q4 => ?_, fun g g0 g4 => ?_⟩ (by decide)
  · rintro rec a t ⟨a0, a4, fr, tv, tw, th⟩ ih
    unfold bX10_deal_13
    refine gHo_if (fun hc => ?_) (fun hc => ?_)
    · have e : a = 4 := by omega
      subst e
      unfold bX10_deal_38
      rw [sJ7_filli 3 4 34 t (by omega) (by omega) (by decide), jBd_s, sJ7_filli 4 0 34 _ (by omega) (by omega) (by decide), jBd_s]
      refine hk _ (fun x y h1 h3 h4 h5 => ?_) ?_ (fun q q0 q4 => ⟨?_, ?_⟩) (fun g g0 g4 => ?_)
      · rw [jFill_row h4, jFill_row h3]; exact fr x y h1 h3 h5
      · rw [jFill_row (by decide), jFill_row (by decide)]; exact tv
      · rw [jFill_row (by decide), jFill_at (n := ((34 : Nat) : Int)) q0 q4]
      · rw [jFill_at (n := ((34 : Nat) : Int)) q0 q4]
      · have := th g g0 g4
        rw [if_pos g4] at this
        rw [jFill_row (by omega), jFill_row (by omega), jFill_row (by omega), jFill_row (by omega), jFill_row (by omega), jFill_row (by omega)]
        exact this
    · have h4 : a < 4 := by omega
      obtain ⟨t0, t1, t2, t3, t4, t5, t6, t7, t8, t9⟩ := jh_t a0 h4
      have ta := th a a0 h4
      rw [if_neg (by omega)] at ta
      refine gHo_gd ⟨a0, by omega⟩ (gHo_let ?_)
      rw [t0]
      refine gHo_gd t1 (gHo_bd (zX1_giveBack a0 h4 (fun q q0 q4 => ?_)) (fun r t' hr => ?_))
      · have b := (hH a a0 h4).1 q q0 q4
        have := tw q q0 q4
        rw [ta.1, ta.2]; omega
      · obtain ⟨-, fr', hq, z3, z4⟩ := hr
        refine gHo_l32 (by omega) (by omega) (ih _ _ ⟨by omega, by omega, fun x y h1 h3 h5 => ?_, ?_, fun q q0 q4 => ?_, fun g g0 g4 => ?_⟩ (by omega))
        · rw [fr' x h3 (by omega)]; exact fr x y h1 h3 h5
        · rw [fr' 0 (by decide) (by omega)]; exact tv
        · have b := (hH a a0 h4).1 q q0 q4
          have := tw q q0 q4
          have hx := (hq q q0 q4).1
          rw [ta.1, ta.2] at hx
          omega
        · by_cases e : g = a
          · subst e
            rw [if_pos (by omega)]
            exact ⟨z3, z4, fun q q0 q4 => ⟨(hq q q0 q4).2.1, (hq q q0 q4).2.2⟩⟩
          · have o := th g g0 g4
            rw [fr' (37 + 4 * g) (by omega) (by omega), fr' (38 + 4 * g) (by omega) (by omega), fr' (39 + 4 * g) (by omega) (by omega)]
            by_cases e2 : g < a
            · rw [if_pos e2] at o; rw [if_pos (by omega)]; exact o
            · rw [if_neg e2] at o; rw [if_neg (by omega)]; exact o
  · rw [hs0, jU_eq, if_neg (by omega)]
  · rw [hs0, jU_at, if_pos rfl]
  · rw [hs0, jU_row (by decide)]
    have h1 := (hW q q0 q4).1
    have := iT_bd hI (h := 0) (by decide) (by decide) q0 q4
    omega
  · rw [if_neg (by omega), hs0, jU_row (by omega), jU_row (by omega)]; exact ⟨rfl, rfl⟩
/-- the reference, up to the draws -/
theorem zX11_deal {s : jMem} {v : Int} (hb : ∀ q : Int, 0 ≤ q → q < 34 → 0 ≤ s 54 q ∧ 0 ≤ s 55 q ∧ s 54 q + s 55 q + vH s 0 q + vH s 1 q + vH s 2 q + vH s 3 q + vL s 0 q + vL s 1 q + vL s 2 q + vL s 3 q = 4 ∧ ∀ g : Int, 0 ≤ g → g < 4 → 0 ≤ vH s g q ∧ vH s g q ≤ 4 ∧ 0 ≤ vL s g q ∧ vL s g q ≤ 4) (hv : 0 ≤ v) {P : Int → jMem → Prop} (hk : ∀ (n : Int) (t : jMem), 0 ≤ n → n ≤ 400000 → (∀ x y : Int, (x ≠ 53 ∨ y ≠ 6) → ¬ (54 ≤ x ∧ x ≤ 58) → t x y = s x y) → t 53 6 = v → (∀ q : Int, 0 ≤ q → q < 34 → t 54 q = 4 ∧ t 55 q = 0) → (∀ g : Int, 0 ≤ g → g < 4 → t 58 g = 0 ∧ ∀ q : Int, 0 ≤ q → q < 34 → vH t g q = 0 ∧ vL t g q = 0) → jHo P (jIt (fun _ _ _ => none) (bX11_deal_73) 1000 n 0 t)) : jHo P (fX11_deal v s) := by
  have u := jik_m
  unfold fX11_deal
  refine gHo_if (fun _ => ?_) (fun hc => absurd hv hc)
  refine gIt4 (fun a1 a2 a t => a1 = v ∧ 0 ≤ a2 ∧ a2 ≤ 100000 * a ∧ 0 ≤ a ∧ a ≤ 4 ∧ (∀ x : Int, ¬ (54 ≤ x ∧ x ≤ 58) → t x = s x) ∧ t 55 = s 55 ∧ (∀ q : Int, 0 ≤ q → q < 34 → t 54 q = s 54 q + (if 0 < a then vH s 0 q + vL s 0 q else 0) + (if 1 < a then vH s 1 q + vL s 1 q else 0) + (if 2 < a then vH s 2 q + vL s 2 q else 0) + (if 3 < a then vH s 3 q + vL s 3 q else 0)) ∧ ∀ g : Int, 0 ≤ g → g < 4 → (g < a → t 58 g = 0) ∧ ∀ q : Int, 0 ≤ q → q < 34 → vH t g q = (if g < a then 0 else vH s g q) ∧ vL t g q = (if g < a then 0 else vL s g q)) (fun _ _ a => (4 - a).toNat) ?_ 1000 v 0 0 s ⟨rfl, by omega, by omega, by omega, by omega, fun _ _ => rfl, rfl, fun q q0 q4 => by simp, fun g g0 g4 => ⟨fun z => by omega, fun q q0 q4 => by rw [if_neg (by omega), if_neg (by omega)]; exact ⟨rfl, rfl⟩⟩⟩ (by decide)
  rintro rec a1 n a t ⟨rfl, n0, n1, a0, a4, fr, r55, tw, th⟩ ih
  unfold bX11_deal_10
  refine gHo_if (fun hc => ?_) (fun hc => ?_)
  · have e : a = 4 := by omega
    subst e
    unfold bX11_deal_29
    refine gIt4 (fun b1 b2 q z => b1 = a1 ∧ b2 = n ∧ 0 ≤ q ∧ q ≤ 34 ∧ (∀ x : Int, x ≠ 54 → x ≠ 55 → z x = t x) ∧ (∀ p : Int, 0 ≤ p → p < 34 → if p < q then (z 54 p = 4 ∧ z 55 p = 0) else (z 54 p = t 54 p ∧ z 55 p = t 55 p))) (fun _ _ q => (34 - q).toNat) ?_ 1000 a1 n 0 t ⟨rfl, rfl, by omega, by omega, fun _ _ _ => rfl, fun p p0 p4 => by rw [if_neg (by omega)]; exact ⟨rfl, rfl⟩⟩ (by decide)
    rintro rec2 b1 b2 q z ⟨rfl, rfl, q0, q34, frz, hz⟩ ih2
    unfold bX11_deal_31
    refine gHo_if (fun hc => ?_) (fun hc => ?_)
    · have e : q = 34 := by omega
      subst e
      unfold bX11_deal_65
      refine gHo_nm fun z' hz' => hk _ _ n0 (by omega) (fun x y h1 h2 => ?_) ?_ (fun p p0 p4 => ?_) (fun g g0 g4 => ?_)
      · rw [hz', jU_eq, if_neg (by omega), frz x (by omega) (by omega), fr x h2]
      · rw [hz', jU_at, if_pos rfl]
      · rw [hz', jU_row (by decide), jU_row (by decide)]
        have := hz p p0 p4
        rw [if_pos p4] at this
        exact this
      · have o := th g g0 g4
        refine ⟨?_, fun p p0 p4 => ?_⟩
        · rw [hz', jU_row (by decide), frz 58 (by decide) (by decide)]; exact o.1 g4
        · have o2 := o.2 p p0 p4
          rw [if_pos g4, if_pos g4] at o2
          unfold vH vL at o2 ⊢
          rw [hz', jU_row (by decide), jU_row (by decide), frz 56 (by decide) (by decide), frz 57 (by decide) (by decide)]
          exact o2
    · have q4 : q < 34 := by omega
      have o := hz q q0 q4
      rw [if_neg (by omega)] at o
      have hw := tw q q0 q4
      simp at hw
      have hbq := hb q q0 q4
      rw [r55] at o
      refine gHo_gd ⟨q0, by omega⟩ (gHo_let (gHo_gd ⟨q0, by omega⟩ (gHo_let ?_)))
      rw [o.1, o.2, hw]
      refine gHo_l32 (by omega) (by omega) (gHo_gd ⟨q0, by omega⟩ (gHo_nm fun z1 hz1 => gHo_gd ⟨q0, by omega⟩ (gHo_nm fun z2 hz2 => gHo_l32 (by omega) (by omega) (ih2 _ _ _ _ ⟨rfl, rfl, by omega, by omega, fun x x1 x2 => ?_, fun p p0 p4 => ?_⟩ (by omega)))))
      · rw [hz2, jU_row x2, hz1, jU_row x1]; exact frz x x1 x2
      · rw [hz2, jU_row (r' := 54) (by decide), jU_at, hz1, jU_at, jU_row (by decide)]
        by_cases e : p = q
        · subst e
          rw [if_pos (by omega), if_pos rfl, if_pos rfl]
          exact ⟨by omega, rfl⟩
        · have := hz p p0 p4
          rw [if_neg e, if_neg e]
          by_cases e2 : p < q
          · rw [if_pos e2] at this; rw [if_pos (by omega)]; exact this
          · rw [if_neg e2] at this; rw [if_neg (by omega)]; exact this
  · have h4 : a < 4 := by omega
    have ta := (th a a0 h4).2
    refine gHo_bd (zX11_gather a0 h4 (fun q q0 q4 => ?_)) (fun r t' hr => ?_)
    · have o := ta q q0 q4
      rw [if_neg (by omega), if_neg (by omega)] at o
      have hbq := hb q q0 q4
      have b0 := hbq.2.2.2 0 (by omega) (by omega)
      have b1 := hbq.2.2.2 1 (by omega) (by omega)
      have b2 := hbq.2.2.2 2 (by omega) (by omega)
      have b3 := hbq.2.2.2 3 (by omega) (by omega)
      have ba := hbq.2.2.2 a a0 h4
      have hw := tw q q0 q4
      rw [o.1, o.2]
      refine ⟨?_, ?_, ba⟩
      · split at hw <;> split at hw <;> split at hw <;> split at hw <;> omega
      · split at hw <;> split at hw <;> split at hw <;> split at hw <;> omega
    · obtain ⟨hr, fr', h54, hg, z58, o58⟩ := hr
      have rb : 0 ≤ r ∧ r ≤ 100000 := by
        have x1 := jSum_bd (f := vH t a) (n := 34) (fun i hi => by
          have o := ta i (by omega) (by omega)
          rw [if_neg (by omega), if_neg (by omega)] at o
          have := (hb i (by omega) (by omega)).2.2.2 a a0 h4
          rw [o.1]; omega)
        have x2 := jSum_bd (f := vL t a) (n := 34) (fun i hi => by
          have o := ta i (by omega) (by omega)
          rw [if_neg (by omega), if_neg (by omega)] at o
          have := (hb i (by omega) (by omega)).2.2.2 a a0 h4
          rw [o.2]; omega)
        omega
      refine gHo_l32 (by omega) (by omega) (gHo_l32 (by omega) (by omega) (ih _ _ _ _ ⟨rfl, by omega, by omega, by omega, by omega, fun x hx => ?_, ?_, fun q q0 q4 => ?_, fun g g0 g4 => ⟨fun hlt => ?_, fun q q0 q4 => ?_⟩⟩ (by omega)))
      · rw [fr' x (by omega) (by omega) (by omega) (by omega)]; exact fr x hx
      · rw [fr' 55 (by decide) (by decide) (by decide) (by decide)]; exact r55
      · have o := ta q q0 q4
        rw [if_neg (by omega), if_neg (by omega)] at o
        have hw := tw q q0 q4
        rw [h54 q q0 q4, o.1, o.2, hw]
        rcases (by omega : a = 0 ∨ a = 1 ∨ a = 2 ∨ a = 3) with rfl | rfl | rfl | rfl <;> simp
      · by_cases e : g = a
        · subst e; exact z58
        · rw [o58 g e]; exact (th g g0 g4).1 (by omega)
      · have o := (th g g0 g4).2 q q0 q4
        have hx := hg g q q0 q4
        rw [hx.1, hx.2, o.1, o.2]
        by_cases e : g = a
        · subst e; rw [if_pos rfl, if_pos rfl, if_pos (by omega), if_pos (by omega)]; exact ⟨rfl, rfl⟩
        · rw [if_neg e, if_neg e]
          by_cases e2 : g < a
          · rw [if_pos e2, if_pos e2, if_pos (by omega), if_pos (by omega)]; exact ⟨rfl, rfl⟩
          · rw [if_neg e2, if_neg e2, if_neg (by omega), if_neg (by omega)]; exact ⟨rfl, rfl⟩
theorem iT_new {c m : jMem} (c3 : ∀ q : Int, 0 ≤ q → q < 34 → c 3 q = 4 ∧ c 4 q = 0) (ch : ∀ g : Int, 0 ≤ g → g < 4 → c (37 + 4 * g) 3 = 0 ∧ c (37 + 4 * g) 4 = 0 ∧ ∀ q : Int, 0 ≤ q → q < 34 → c (38 + 4 * g) q = 0 ∧ c (39 + 4 * g) q = 0) (m5 : ∀ q : Int, 0 ≤ q → q < 34 → m 54 q = 4 ∧ m 55 q = 0) (mh : ∀ g : Int, 0 ≤ g → g < 4 → m 58 g = 0 ∧ ∀ q : Int, 0 ≤ q → q < 34 → vH m g q = 0 ∧ vL m g q = 0) : iT (jMix c m) := by
  have e3 : jMix c m 3 = c 3 := jMix_c (by decide)
  have e4 : jMix c m 4 = c 4 := jMix_c (by decide)
  have e54 : jMix c m 54 = m 54 := jMix_m (by decide)
  have e55 : jMix c m 55 = m 55 := jMix_m (by decide)
  have e56 : jMix c m 56 = m 56 := jMix_m (by decide)
  have e57 : jMix c m 57 = m 57 := jMix_m (by decide)
  have e58 : jMix c m 58 = m 58 := jMix_m (by decide)
  have eH : ∀ g, vH (jMix c m) g = vH m g := fun g => by funext p; unfold vH; rw [e56]
  have eL : ∀ g, vL (jMix c m) g = vL m g := fun g => by funext p; unfold vL; rw [e57]
  refine ⟨fun q q0 q4 => ?_, fun g g0 g4 => ?_, fun g g0 g4 => ?_⟩
  · have a := c3 q q0 q4
    have b := m5 q q0 q4
    have h0 := (mh 0 (by decide) (by decide)).2 q q0 q4
    have h1 := (mh 1 (by decide) (by decide)).2 q q0 q4
    have h2 := (mh 2 (by decide) (by decide)).2 q q0 q4
    have h3 := (mh 3 (by decide) (by decide)).2 q q0 q4
    rw [e3, e4, e54, e55, eH, eH, eH, eH, eL, eL, eL, eL]
    omega
  · have a := ch g g0 g4
    have b := mh g g0 g4
    have z : jSum (vH m g) 34 = 0 := by
      rw [jSum_cg (g := fun _ => 0) (fun i hi => (b.2 i (by omega) (by omega)).1), jSum_0]
    unfold iH
    rw [jMix_c (by omega : 37 + 4 * g < 53), jMix_c (by omega : 38 + 4 * g < 53), jMix_c (by omega : 39 + 4 * g < 53), e58, eH, eL, z]
    refine ⟨fun q q0 q4 => ?_, by omega, by omega, by omega, by omega, by omega⟩
    have x := a.2.2 q q0 q4
    have y := b.2 q q0 q4
    omega
  · have b := mh g g0 g4
    unfold iG
    rw [e58, eL, b.1]
    refine ⟨fun k k0 k4 => by omega, fun q q0 q4 => ?_⟩
    rw [(b.2 q q0 q4).2]; rfl
theorem op_deal {v : Int} {s : jMem} (hI : iT s) (hS : iS s) (hv : jR 1 v) : ∃ w s1 s2, fX10_deal v s = some (w, s1) ∧ fX11_deal v s1 = some (w, s2) ∧ iT s2 ∧ iS s2 ∧ fD s s2 := by
  by_cases v0 : 0 ≤ v
  · have v1 : v < 2147483648 := hv.2
    have w := jrk_t
    obtain ⟨hW, hH, hG⟩ := id hI
    have sum4 : ∀ {m : jMem}, (∀ q : Int, 0 ≤ q → q < 34 → m 54 q = 4 ∧ m 55 q = 0) → jSum (m 54) 34 = 136 := by
      intro m h
      rw [jSum_cg (f := m 54) (g := fun _ => 4) (fun i hi => (h i (by omega) (by omega)).1)]
      rfl
    have sum0 : ∀ {m : jMem}, (∀ g : Int, 0 ≤ g → g < 4 → m 58 g = 0 ∧ ∀ q : Int, 0 ≤ q → q < 34 → vH m g q = 0 ∧ vL m g q = 0) → ∀ g : Int, 0 ≤ g → g < 4 → jSum (vH m g) 34 = 0 ∧ m 58 g = 0 := by
      intro m h g g0 g4
      refine ⟨?_, (h g g0 g4).1⟩
      rw [jSum_cg (g := fun _ => 0) (fun i hi => ((h g g0 g4).2 i (by omega) (by omega)).1), jSum_0]
    have mk : ∃ m : jMem, m 53 6 = v ∧ (∀ q : Int, 0 ≤ q → q < 34 → m 54 q = 4 ∧ m 55 q = 0) ∧ ∀ g : Int, 0 ≤ g → g < 4 → m 58 g = 0 ∧ ∀ q : Int, 0 ≤ q → q < 34 → vH m g q = 0 ∧ vL m g q = 0 := by
      refine ⟨fun x y => if x = 53 then v else if x = 54 then 4 else 0, rfl, fun q _ _ => ⟨rfl, rfl⟩, fun g _ _ => ⟨rfl, fun q _ _ => ⟨rfl, rfl⟩⟩⟩
    obtain ⟨m0, mv, m5, mh⟩ := mk
    have cls : jHo (fun w1 s1 => w1 = 0 ∧ ∃ c : jMem, (∀ x y : Int, (x ≠ 0 ∨ y ≠ 8) → x ≠ 3 → x ≠ 4 → ¬ (37 ≤ x ∧ x < 53) → c x y = s x y) ∧ c 0 8 = v ∧ (∀ q : Int, 0 ≤ q → q < 34 → c 3 q = 4 ∧ c 4 q = 0) ∧ (∀ g : Int, 0 ≤ g → g < 4 → c (37 + 4 * g) 3 = 0 ∧ c (37 + 4 * g) 4 = 0 ∧ ∀ q : Int, 0 ≤ q → q < 34 → c (38 + 4 * g) q = 0 ∧ c (39 + 4 * g) q = 0) ∧ ∃ (C : Nat → jMem) (N : Nat → Nat), C 0 = c ∧ C 52 = s1 ∧ ∀ k : Nat, k < 52 → fX10_drawNext (37 + 4 * ((k / 13 : Nat) : Int)) (C k) = some ((N k : Int), C (k + 1))) (fX10_deal v s) := by
      refine zX10_deal hI v0 (fun c fr cv c3 ch => ?_)
      have i1 : iT (jMix c m0) := iT_new c3 ch m5 mh
      have i2 : iS (jMix c m0) := by unfold iS; rw [jMix_c (by decide), jMix_m (by decide)]; omega
      obtain ⟨C, M, N, hC, hM, hst, -⟩ := jSeq i1 i2 (sum0 mh) (sum4 m5) 52 (Nat.le_refl 52)
      refine gIt2 (fun a z => ∃ h : Nat, a = h ∧ h ≤ 4 ∧ z = C (13 * h)) (fun a => (4 - a).toNat) ?_ 1000 0 c ⟨0, rfl, by omega, hC.symm⟩ (by decide)
      rintro rec a z ⟨h, rfl, h4, rfl⟩ ih
      unfold bX10_deal_56
      refine gHo_if (fun hc => ?_) (fun hc => ?_)
      · have e : h = 4 := by omega
        subst e
        exact gHo_ret ⟨rfl, c, fr, cv, c3, ch, C, N, hC, rfl, fun k hk => (hst k hk).2.1⟩
      · refine gIt3 (fun a1 a2 z => a1 = h ∧ ∃ n : Nat, a2 = n ∧ n ≤ 13 ∧ z = C (13 * h + n)) (fun _ a2 => (13 - a2).toNat) ?_ 1000 _ 0 _ ⟨rfl, 0, rfl, by omega, rfl⟩ (by decide)
        rintro rec2 a1 a2 z ⟨rfl, n, rfl, hn, rfl⟩ ih2
        unfold bX10_deal_63
        refine gHo_if (fun hc2 => ?_) (fun hc2 => ?_)
        · have e : n = 13 := by omega
          subst e
          unfold bX10_deal_86
          refine gHo_l32 (by omega) (by omega) (ih _ _ ⟨h + 1, by omega, by omega, rfl⟩ (by omega))
        · have hk := (hst (13 * h + n) (by omega)).2.1
          rw [show (13 * h + n) / 13 = h by omega] at hk
          obtain ⟨t0, t1, -⟩ := jh_t (h := (h : Int)) (by omega) (by omega)
          refine gHo_gd ⟨by omega, by omega⟩ (gHo_let ?_)
          rw [t0, hk, jBd_s]
          refine gHo_l32 (by omega) (by omega) (ih2 _ _ _ ⟨rfl, n + 1, by omega, by omega, rfl⟩ (by omega))
    obtain ⟨w1, s1, ec, rfl, c, fr, cv, c3, ch, C, N, hC, hC52, hst⟩ := cls
    -- what the draws leave of the class's cells
    have i1 : iT (jMix c m0) := iT_new c3 ch m5 mh
    have i2 : iS (jMix c m0) := by unfold iS; rw [jMix_c (by decide), jMix_m (by decide)]; omega
    have uniq : ∀ (C' : Nat → jMem) (N' : Nat → Nat), C' 0 = c → (∀ k : Nat, k < 52 → fX10_drawNext (37 + 4 * ((k / 13 : Nat) : Int)) (C' k) = some ((N' k : Int), C' (k + 1))) → ∀ k : Nat, k ≤ 52 → C' k = C k := by
      intro C' N' h0 hs k
      induction k with
      | zero => intro _; rw [h0, hC]
      | succ k ih =>
        intro hk
        have a := hs k (by omega)
        have b := hst k (by omega)
        rw [ih (by omega), b] at a
        have a := Option.some.inj a
        exact (congrArg Prod.snd a).symm
    have fr1 : ∀ x y : Int, (x ≠ 0 ∨ y ≠ 8) → x ≠ 3 → x ≠ 4 → ¬ (37 ≤ x ∧ x < 53) → x < 53 → s1 x y = s x y := by
      intro x y a1 a2 a3 a4 a5
      obtain ⟨C', M', N', hC', hM', hst', -, -, hf, -⟩ := jSeq i1 i2 (sum0 mh) (sum4 m5) 52 (Nat.le_refl 52)
      have e := uniq C' N' hC' (fun k hk => (hst' k hk).2.1) 52 (by omega)
      have := hf x y a1 (by omega) a2 a3 a4 (by omega)
      rw [jMix_c a5, jMix_c a5, e, hC52] at this
      rw [this]; exact fr x y a1 a2 a3 a4
    -- cells of the reference are untouched by the class
    have hi : ∀ x : Int, 53 ≤ x → s1 x = s x := by
      have st : ∀ k : Nat, k ≤ 52 → ∀ x : Int, 53 ≤ x → C k x = s x := by
        intro k
        induction k with
        | zero => intro _ x hx; rw [hC]; funext y; exact fr x y (by omega) (by omega) (by omega) (by omega)
        | succ k ih =>
          intro hk x hx
          obtain ⟨C', M', N', hC', hM', hst', b1, b2, -, b4, b5, b6⟩ := jSeq i1 i2 (sum0 mh) (sum4 m5) k (by omega)
          have e : C' k = C k := by
            have uq : ∀ j : Nat, j ≤ k → C' j = C j := by
              intro j
              induction j with
              | zero => intro _; rw [hC', hC]
              | succ j ihj =>
                intro hj
                have a := (hst' j (by omega)).2.1
                have b := hst j (by omega)
                rw [ihj (by omega), b] at a
                have a := Option.some.inj a
                exact (congrArg Prod.snd a).symm
            exact uq k (Nat.le_refl k)
          have q13 : k / 13 < 4 := by omega
          have e4 := b4 ((k / 13 : Nat) : Int) (by omega) (by omega)
          have e5 := (sum0 mh ((k / 13 : Nat) : Int) (by omega) (by omega)).2
          have hcell : fX10_drawNext (37 + 4 * ((k / 13 : Nat) : Int)) (C k) = some ((N k : Int), C (k + 1)) := hst k (by omega)
          have key := jCellD (h := ((k / 13 : Nat) : Int)) b1 b2 (by omega) (by omega) (by
            rw [b5, e5, e4]
            split
            · omega
            · split <;> omega) (by omega)
          obtain ⟨K, z, hd⟩ := key
          rw [e, hcell] at hd
          have hd := Option.some.inj hd
          have hd2 : C (k + 1) = cDraw (C k) ((k / 13 : Nat) : Int) K z := congrArg Prod.snd hd
          rw [hd2]
          unfold cDraw
          rw [jU_row (by omega), jU_row (by omega), jU_row (by omega), jU_row (by omega)]
          exact ih (by omega) x hx
      intro x hx
      rw [← hC52]; exact st 52 (Nat.le_refl 52) x hx
    have s54 := hi 54 (by decide)
    have s55 := hi 55 (by decide)
    have s56 := hi 56 (by decide)
    have s57 := hi 57 (by decide)
    have eH : ∀ g, vH s1 g = vH s g := fun g => by funext p; unfold vH; rw [s56]
    have eL : ∀ g, vL s1 g = vL s g := fun g => by funext p; unfold vL; rw [s57]
    have mod : jHo (fun w2 s2 => w2 = 0 ∧ iT s2 ∧ iS s2 ∧ fD s s2) (fX11_deal v s1) := by
      refine zX11_deal (fun q q0 q4 => ?_) v0 (fun n t n0 n1 frt tv t5 th => ?_)
      · rw [s54, s55, eH, eH, eH, eH, eL, eL, eL, eL]
        obtain ⟨x1, x2, x3, x4, x5⟩ := hW q q0 q4
        refine ⟨x3, x4, x5, fun g g0 g4 => ?_⟩
        rw [eH, eL]
        have := (hH g g0 g4).1 q q0 q4
        omega
      · have j1 : iT (jMix c t) := iT_new c3 ch t5 th
        have j2 : iS (jMix c t) := by unfold iS; rw [jMix_c (by decide), jMix_m (by decide)]; omega
        obtain ⟨C', M', N', hC', hM', hst', b1, b2, b3, -⟩ := jSeq j1 j2 (sum0 th) (sum4 t5) 52 (Nat.le_refl 52)
        have e52 : C' 52 = s1 := by rw [uniq C' N' hC' (fun k hk => (hst' k hk).2.1) 52 (by omega), hC52]
        refine gIt3 (fun a1 a2 z => 0 ≤ a1 ∧ a1 ≤ 400000 + 600 * a2 ∧ ∃ h : Nat, a2 = h ∧ h ≤ 4 ∧ (∀ x : Int, 53 ≤ x → z x = M' (13 * h) x) ∧ ∀ x : Int, x < 53 → z x = s1 x) (fun _ a2 => (4 - a2).toNat) ?_ 1000 n 0 t ⟨n0, by omega, 0, rfl, by omega, fun x hx => by rw [Nat.mul_zero, hM'], fun x hx => by funext y; exact frt x y (by omega) (by omega)⟩ (by decide)
        rintro rec a1 a2 z ⟨p0, p1, h, rfl, h4, z1, z2⟩ ih
        unfold bX11_deal_73
        refine gHo_if (fun hc => ?_) (fun hc => ?_)
        · have e : h = 4 := by omega
          subst e
          have ez : z = jMix (C' 52) (M' 52) := by
            funext x
            by_cases hx : x < 53
            · rw [jMix_c hx, e52]; exact z2 x hx
            · rw [jMix_m (by omega)]; exact z1 x (by omega)
          refine gHo_ret ⟨rfl, by rw [ez]; exact b1, by rw [ez]; exact b2, ?_⟩
          intro x y d1 d2 d3 d4 d5 d6
          by_cases hx : x < 53
          · rw [z2 x hx]; exact fr1 x y d1 d3 d4 d5 hx
          · have := b3 x y d1 d2 d3 d4 d5 d6
            rw [← ez, jMix_m (by omega)] at this
            rw [this, frt x y d2 (by omega), hi x (by omega)]
        · refine gIt4 (fun a1 a2 a3 z => a2 = h ∧ 0 ≤ a1 ∧ a1 ≤ 400000 + 600 * (h : Int) + 34 * a3 ∧ ∃ n : Nat, a3 = n ∧ n ≤ 13 ∧ (∀ x : Int, 53 ≤ x → z x = M' (13 * h + n) x) ∧ ∀ x : Int, x < 53 → z x = s1 x) (fun _ _ a3 => (13 - a3).toNat) ?_ 1000 a1 _ 0 z ⟨rfl, p0, by omega, 0, rfl, by omega, z1, z2⟩ (by decide)
          rintro rec2 a1 a2 a3 z ⟨rfl, r0, r1, n, rfl, hn, y1, y2⟩ ih2
          unfold bX11_deal_81
          refine gHo_if (fun hc2 => ?_) (fun hc2 => ?_)
          · have e : n = 13 := by omega
            subst e
            unfold bX11_deal_102
            refine gHo_l32 (by omega) (by omega) (ih _ _ _ ⟨r0, by omega, h + 1, by omega, by omega, y1, y2⟩ (by omega))
          · obtain ⟨hNk, -, hk⟩ := hst' (13 * h + n) (by omega)
            rw [show (13 * h + n) / 13 = h by omega] at hk
            obtain ⟨μ', q1, q2, q3⟩ := hk z y1
            rw [q1, jBd_s]
            refine gHo_l32 (by omega) (by omega) (gHo_l32 (by omega) (by omega) (ih2 _ _ _ _ ⟨rfl, by omega, by omega, n + 1, by omega, by omega, q2, fun x hx => ?_⟩ (by omega)))
            rw [q3 x hx]; exact y2 x hx
    obtain ⟨w2, s2, em, rfl, g1, g2, g3⟩ := mod
    exact ⟨0, s1, s2, ec, em, g1, g2, g3⟩
  · refine ⟨-1, s, s, ?_, ?_, hI, hS, fD_rf s⟩
    · rw [fX10_deal, if_neg v0]; rfl
    · rw [fX11_deal, if_neg v0]; rfl
end

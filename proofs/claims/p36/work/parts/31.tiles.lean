/-! ===== tiles ===== -/
section
def vH (s : jMem) (h q : Int) : Int := s 56 (34 * h + q)
def vL (s : jMem) (h q : Int) : Int := s 57 (34 * h + q)
/-- how many of a sort a code's group has -/
def jUse (c q : Int) : Int := if c / 100 = 1 then (if q = c % 100 ∨ q = c % 100 + 1 ∨ q = c % 100 + 2 then 1 else 0) else if q = c % 100 then c / 100 + 1 else 0
def jCode (c : Int) : Prop := ∃ k q : Int, c = 100 * k + q ∧ 1 ≤ k ∧ k ≤ 3 ∧ 0 ≤ q ∧ q < 34 ∧ (k = 1 → q < 27 ∧ q % 9 ≤ 6)
/-- one hand, in both -/
def iH (s : jMem) (h : Int) : Prop := (∀ q : Int, 0 ≤ q → q < 34 → s (38 + 4 * h) q = vH s h q ∧ s (39 + 4 * h) q = vL s h q ∧ 0 ≤ vH s h q ∧ vH s h q ≤ 4 ∧ 0 ≤ vL s h q ∧ vL s h q ≤ 4) ∧ s (37 + 4 * h) 4 = s 58 h ∧ 0 ≤ s 58 h ∧ s 58 h ≤ 4 ∧ s (37 + 4 * h) 3 = jSum (vH s h) 34 ∧ jSum (vH s h) 34 + 3 * s 58 h ≤ 14
/-- the open groups of one hand, in both -/
def iG (s : jMem) (h : Int) : Prop := (∀ k : Int, 0 ≤ k → k < s 58 h → s (40 + 4 * h) k = s 59 (5 * h + k) ∧ jCode (s 59 (5 * h + k))) ∧ ∀ q : Int, 0 ≤ q → q < 34 → vL s h q = jSum (fun k => jUse (s 59 (5 * h + k)) q) (s 58 h).toNat
def iW (s : jMem) : Prop := ∀ q : Int, 0 ≤ q → q < 34 → s 3 q = s 54 q ∧ s 4 q = s 55 q ∧ 0 ≤ s 54 q ∧ 0 ≤ s 55 q ∧ s 54 q + s 55 q + vH s 0 q + vH s 1 q + vH s 2 q + vH s 3 q + vL s 0 q + vL s 1 q + vL s 2 q + vL s 3 q = 4
def iT (s : jMem) : Prop := iW s ∧ (∀ h : Int, 0 ≤ h → h < 4 → iH s h) ∧ ∀ h : Int, 0 ≤ h → h < 4 → iG s h
/-- what an act with tiles changes at most -/
def fT (s s' : jMem) : Prop := ∀ x y : Int, x ≠ 3 → x ≠ 4 → ¬ (37 ≤ x ∧ x < 53) → (x < 54 ∨ 59 < x) → s' x y = s x y
theorem fT_rf (s : jMem) : fT s s := fun _ _ _ _ _ _ => rfl
theorem vH_bd {s : jMem} {h : Int} (hI : iH s h) : ∀ i : Nat, i < 34 → 0 ≤ vH s h i ∧ vH s h i ≤ 1000 := fun i hi => by
  have := hI.1 i (by omega) (by omega)
  omega
theorem sX11_heldMany {h : Int} (s : jMem) (h0 : 0 ≤ h) (h4 : h < 4) (hb : ∀ i : Nat, i < 34 → 0 ≤ vH s h i ∧ vH s h i ≤ 1000) : fX11_heldMany h s = some (jSum (vH s h) 34, s) := by
  have t := jik_m
  unfold fX11_heldMany
  refine jIt_for (bot := fun _ _ _ _ => none) (b := bX11_heldMany_4) 34 (fun i rec => rec h (jSum (vH s h) i) i s) _ ?_ ?_ 1000 (by omega)
  · intro i hi rec
    show bX11_heldMany_4 rec h (jSum (vH s h) i) i s = rec h (jSum (vH s h) (i + 1)) ((i + 1 : Nat) : Int) s
    have h1 := jSum_bd (f := vH s h) (n := i) (fun j hj => hb j (by omega))
    have h2 := hb i hi
    have h3 : s 56 (34 * h + i) = vH s h i := rfl
    simp only [bX11_heldMany_4, jLet_e]
    rw [if_neg (by omega), j32_id (x := 34 * h) (by omega) (by omega), j32_id (x := 34 * h + i) (by omega) (by omega), jGd_e ⟨by omega, by omega⟩, h3, j32_id (by omega) (by omega), j32_id (by omega) (by omega)]
    rfl
  · intro rec
    show bX11_heldMany_4 rec h (jSum (vH s h) 34) ((34 : Nat) : Int) s = some (jSum (vH s h) 34, s)
    simp only [bX11_heldMany_4, jRet]
    rw [if_pos (by decide)]
theorem sX11_sizeOf {h : Int} {s : jMem} (h0 : 0 ≤ h) (h4 : h < 4) (hb : ∀ i : Nat, i < 34 → 0 ≤ vH s h i ∧ vH s h i ≤ 1000) (hg : 0 ≤ s 58 h ∧ s 58 h ≤ 1000) : fX11_sizeOf h s = some (jSum (vH s h) 34 + 3 * s 58 h, s) := by
  have t := jik_m
  have b := jSum_bd hb
  unfold fX11_sizeOf
  rw [sX11_heldMany s h0 h4 hb, jBd_s, jGd_e ⟨h0, by omega⟩]
  simp only [jLet_e, jRet]
  rw [j32_id (x := 3 * s 58 h) (by omega) (by omega), j32_id (by omega) (by omega)]
theorem sX11_isFull {h : Int} {s : jMem} (h0 : 0 ≤ h) (h4 : h < 4) (hb : ∀ i : Nat, i < 34 → 0 ≤ vH s h i ∧ vH s h i ≤ 1000) (hg : 0 ≤ s 58 h ∧ s 58 h ≤ 1000) : fX11_isFull h s = some (jb (jSum (vH s h) 34 + 3 * s 58 h = 14), s) := by
  unfold fX11_isFull jb
  rw [sX11_sizeOf h0 h4 hb hg, jBd_s]
  simp only [jRet]
  split <;> rfl
theorem sX1_size {h : Int} {s : jMem} (h0 : 0 ≤ h) (h4 : h < 4) (hb : 0 ≤ s (37 + 4 * h) 3 ∧ s (37 + 4 * h) 3 ≤ 1000 ∧ 0 ≤ s (37 + 4 * h) 4 ∧ s (37 + 4 * h) 4 ≤ 1000) : fX1_size (37 + 4 * h) s = some (s (37 + 4 * h) 3 + 3 * s (37 + 4 * h) 4, s) := by
  obtain ⟨t0, t1, t2, t3, t4, t5, t6, t7, t8, t9⟩ := jh_t h0 h4
  unfold fX1_size
  rw [jGd_e t1]
  simp only [jLet_e, jRet]
  rw [j32_id (x := 3 * s (37 + 4 * h) 4) (by omega) (by omega), j32_id (by omega) (by omega)]
theorem sX1_isFull {h : Int} {s : jMem} (h0 : 0 ≤ h) (h4 : h < 4) (hb : 0 ≤ s (37 + 4 * h) 3 ∧ s (37 + 4 * h) 3 ≤ 1000 ∧ 0 ≤ s (37 + 4 * h) 4 ∧ s (37 + 4 * h) 4 ≤ 1000) : fX1_isFull (37 + 4 * h) s = some (jb (s (37 + 4 * h) 3 + 3 * s (37 + 4 * h) 4 = 14), s) := by
  obtain ⟨t0, t1, t2, t3, t4, t5, t6, t7, t8, t9⟩ := jh_t h0 h4
  unfold fX1_isFull jb
  rw [jGd_e t1, sX1_size h0 h4 hb, jBd_s]
  simp only [jRet]
  split <;> rfl
theorem sX1_rests {h : Int} {s : jMem} (h0 : 0 ≤ h) (h4 : h < 4) (hb : 0 ≤ s (37 + 4 * h) 3 ∧ s (37 + 4 * h) 3 ≤ 1000 ∧ 0 ≤ s (37 + 4 * h) 4 ∧ s (37 + 4 * h) 4 ≤ 1000) : fX1_rests (37 + 4 * h) s = some (jb (s (37 + 4 * h) 3 + 3 * s (37 + 4 * h) 4 = 13), s) := by
  obtain ⟨t0, t1, t2, t3, t4, t5, t6, t7, t8, t9⟩ := jh_t h0 h4
  unfold fX1_rests jb
  rw [jGd_e t1, sX1_size h0 h4 hb, jBd_s]
  simp only [jRet]
  split <;> rfl
theorem iH_cb {s : jMem} {h : Int} (hI : iH s h) : 0 ≤ s (37 + 4 * h) 3 ∧ s (37 + 4 * h) 3 ≤ 1000 ∧ 0 ≤ s (37 + 4 * h) 4 ∧ s (37 + 4 * h) 4 ≤ 1000 := by
  obtain ⟨a1, a2, a3, a4, a5, a6⟩ := id hI
  have b := jSum_bd (vH_bd hI)
  omega
theorem iH_gb {s : jMem} {h : Int} (hI : iH s h) : 0 ≤ s 58 h ∧ s 58 h ≤ 1000 := by
  obtain ⟨a1, a2, a3, a4, a5, a6⟩ := id hI
  omega
theorem iH_sz {s : jMem} {h : Int} (hI : iH s h) : s (37 + 4 * h) 3 + 3 * s (37 + 4 * h) 4 = jSum (vH s h) 34 + 3 * s 58 h := by
  obtain ⟨a1, a2, a3, a4, a5, a6⟩ := id hI
  omega
theorem jFour {f g : Int → Int} {h d : Int} (h0 : 0 ≤ h) (h4 : h < 4) (hf : ∀ x : Int, 0 ≤ x → x < 4 → g x = if x = h then f x + d else f x) : g 0 + g 1 + g 2 + g 3 = f 0 + f 1 + f 2 + f 3 + d := by
  rw [hf 0 (by omega) (by omega), hf 1 (by omega) (by omega), hf 2 (by omega) (by omega), hf 3 (by omega) (by omega)]
  rcases (by omega : h = 0 ∨ h = 1 ∨ h = 2 ∨ h = 3) with rfl | rfl | rfl | rfl <;> simp <;> omega
theorem sX1_gain {h q : Int} {s : jMem} (h0 : 0 ≤ h) (h4 : h < 4) (q0 : 0 ≤ q) (q4 : q < 34) (ha : 0 ≤ s (38 + 4 * h) q ∧ s (38 + 4 * h) q ≤ 100) (hb : 0 ≤ s (37 + 4 * h) 3 ∧ s (37 + 4 * h) 3 ≤ 100) : fX1_gain (37 + 4 * h) q s = some (0, jU (jU s (38 + 4 * h) q (s (38 + 4 * h) q + 1)) (37 + 4 * h) 3 (s (37 + 4 * h) 3 + 1)) := by
  obtain ⟨t0, t1, t2, t3, t4, t5, t6, t7, t8, t9⟩ := jh_t h0 h4
  unfold fX1_gain
  simp only [jLet_e, jRet]
  simp (disch := omega) only [t1, t2, if_true, if_false, jGd_t, jGd_e, j32_id, jU_row]
theorem sX1_lose {h q : Int} {s : jMem} (h0 : 0 ≤ h) (h4 : h < 4) (q0 : 0 ≤ q) (q4 : q < 34) (ha : 0 ≤ s (38 + 4 * h) q ∧ s (38 + 4 * h) q ≤ 100) (hb : 0 ≤ s (37 + 4 * h) 3 ∧ s (37 + 4 * h) 3 ≤ 100) : fX1_lose (37 + 4 * h) q s = some (0, jU (jU s (38 + 4 * h) q (s (38 + 4 * h) q - 1)) (37 + 4 * h) 3 (s (37 + 4 * h) 3 - 1)) := by
  obtain ⟨t0, t1, t2, t3, t4, t5, t6, t7, t8, t9⟩ := jh_t h0 h4
  unfold fX1_lose
  simp only [jLet_e, jRet]
  simp (disch := omega) only [t1, t2, if_true, if_false, jGd_t, jGd_e, j32_id, jU_row]
theorem vH_one {s s' : jMem} {h g q v : Int} (h0 : 0 ≤ h) (h4 : h < 4) (q0 : 0 ≤ q) (q4 : q < 34) (hs : s' 56 = (jU s 56 (34 * h + q) v) 56) (p : Int) (p0 : 0 ≤ p) (p4 : p < 34) : vH s' g p = if g = h ∧ p = q then v else vH s g p := by
  unfold vH
  rw [hs, jU_at]
  by_cases e : g = h ∧ p = q
  · rw [if_pos e, if_pos (by omega)]
  · rw [if_neg e, if_neg (by omega)]
theorem vL_one {s s' : jMem} {h g q v : Int} (h0 : 0 ≤ h) (h4 : h < 4) (q0 : 0 ≤ q) (q4 : q < 34) (hs : s' 57 = (jU s 57 (34 * h + q) v) 57) (p : Int) (p0 : 0 ≤ p) (p4 : p < 34) : vL s' g p = if g = h ∧ p = q then v else vL s g p := by
  unfold vL
  rw [hs, jU_at]
  by_cases e : g = h ∧ p = q
  · rw [if_pos e, if_pos (by omega)]
  · rw [if_neg e, if_neg (by omega)]
/-- one tile more (or less) in a hand's held ones: what a step does to both pictures -/
def jHeld (s : jMem) (h q d : Int) : jMem := fun x y => if x = 38 + 4 * h ∧ y = q then s x y + d else if x = 37 + 4 * h ∧ y = 3 then s x y + d else if x = 56 ∧ y = 34 * h + q then s x y + d else s x y
theorem iH_held {s s' : jMem} {h q d : Int} (h0 : 0 ≤ h) (h4 : h < 4) (q0 : 0 ≤ q) (q4 : q < 34) (hI : ∀ g : Int, 0 ≤ g → g < 4 → iH s g) (h38 : ∀ x y, 37 ≤ x → x < 53 → s' x y = jHeld s h q d x y) (h56 : s' 56 = jHeld s h q d 56) (h57 : s' 57 = s 57) (h58 : s' 58 = s 58) (hlo : 0 ≤ vH s h q + d) (hhi : vH s h q + d ≤ 4) (hsz : jSum (vH s h) 34 + 3 * s 58 h + d ≤ 14) : ∀ g : Int, 0 ≤ g → g < 4 → iH s' g := by
  intro g g0 g4
  obtain ⟨a1, a2, a3, a4, a5, a6⟩ := hI g g0 g4
  have e1 : ∀ p : Int, 0 ≤ p → p < 34 → vH s' g p = if g = h ∧ p = q then vH s g p + d else vH s g p := by
    intro p p0 p4
    unfold vH
    rw [h56]
    simp only [jHeld]
    by_cases e : g = h ∧ p = q
    · rw [if_neg (by omega), if_neg (by omega), if_pos ⟨trivial, by omega⟩, if_pos e]
    · rw [if_neg (by omega), if_neg (by omega), if_neg (by omega), if_neg e]
  have e2 : jSum (vH s' g) 34 = jSum (vH s g) 34 + (if g = h then d else 0) := by
    by_cases e : g = h
    · subst e
      have hq : ((q.toNat : Nat) : Int) = q := Int.toNat_of_nonneg q0
      rw [jSum_up (f := vH s g) (g := vH s' g) (n := 34) (k := q.toNat) (by omega) (fun i hi hne => by
        rw [e1 i (by omega) (by omega), if_neg (by omega)]), hq, e1 q q0 q4, if_pos ⟨rfl, rfl⟩, if_pos rfl]
      omega
    · rw [if_neg e, jSum_cg (f := vH s' g) (g := vH s g) (fun i hi => by rw [e1 i (by omega) (by omega), if_neg (fun z => e z.1)])]
      omega
  refine ⟨fun p p0 p4 => ?_, ?_, ?_, ?_, ?_, ?_⟩
  · obtain ⟨b1, b2, b3, b4, b5, b6⟩ := a1 p p0 p4
    have e3 : vL s' g p = vL s g p := by unfold vL; rw [h57]
    rw [e1 p p0 p4, e3, h38 _ _ (by omega) (by omega), h38 _ _ (by omega) (by omega)]
    simp only [jHeld]
    by_cases e : g = h ∧ p = q
    · obtain ⟨rfl, rfl⟩ := e
      rw [if_pos ⟨rfl, rfl⟩, if_pos ⟨rfl, rfl⟩, if_neg (by omega), if_neg (by omega), if_neg (by omega)]
      omega
    · rw [if_neg (by omega), if_neg (by omega), if_neg (by omega), if_neg e, if_neg (by omega), if_neg (by omega), if_neg (by omega)]
      omega
  · rw [h38 _ _ (by omega) (by omega), h58]
    simp only [jHeld]
    rw [if_neg (by omega), if_neg (by omega), if_neg (by omega)]
    exact a2
  · rw [h58]; exact a3
  · rw [h58]; exact a4
  · rw [h38 _ _ (by omega) (by omega), e2]
    simp only [jHeld]
    by_cases e : g = h
    · subst e
      rw [if_neg (by omega), if_pos ⟨rfl, trivial⟩, if_pos rfl, a5]
    · rw [if_neg (by omega), if_neg (by omega), if_neg (by omega), if_neg e, a5]
      omega
  · rw [e2, h58]
    by_cases e : g = h
    · subst e; rw [if_pos rfl]; omega
    · rw [if_neg e]; omega
theorem iG_fr {s s' : jMem} {h : Int} (hI : iG s h) (h40 : s' (40 + 4 * h) = s (40 + 4 * h)) (h57 : s' 57 = s 57) (h58 : s' 58 = s 58) (h59 : s' 59 = s 59) : iG s' h := by
  unfold iG vL at *
  rw [h40, h57, h58, h59]
  exact hI
end

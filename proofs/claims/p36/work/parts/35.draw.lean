/-! ===== draws ===== -/
section
theorem iT_gain {s s' : jMem} {h q : Int} (hI : iT s) (h0 : 0 ≤ h) (h4 : h < 4) (q0 : 0 ≤ q) (q4 : q < 34) (hw : 1 ≤ s 54 q) (hsz : jSum (vH s h) 34 + 3 * s 58 h ≤ 13) (r3 : ∀ p : Int, s' 3 p = if p = q then s 3 p - 1 else s 3 p) (r54 : ∀ p : Int, s' 54 p = if p = q then s 54 p - 1 else s 54 p) (r4 : s' 4 = s 4) (r55 : s' 55 = s 55) (rc : ∀ x y : Int, 37 ≤ x → x < 53 → s' x y = jHeld s h q 1 x y) (r56 : s' 56 = jHeld s h q 1 56) (r57 : s' 57 = s 57) (r58 : s' 58 = s 58) (r59 : s' 59 = s 59) : iT s' := by
  obtain ⟨hW, hH, hG⟩ := id hI
  have bd := iT_bd hI h0 h4 q0 q4
  have hh := (hH h h0 h4).1 q q0 q4
  refine ⟨fun p p0 p4 => ?_, iH_held h0 h4 q0 q4 hH rc r56 r57 r58 (by omega) (by omega) (by omega), fun g g0 g4 => iG_fr (hG g g0 g4) ?_ r57 r58 r59⟩
  · obtain ⟨c1, c2, c3, c4, c5⟩ := hW p p0 p4
    have gH : ∀ x : Int, 0 ≤ x → x < 4 → vH s' x p = if x = h then vH s x p + (if p = q then 1 else 0) else vH s x p := by
      intro x x0 x4
      unfold vH
      rw [r56]
      simp only [jHeld]
      by_cases e1 : x = h
      · subst e1
        by_cases e2 : p = q
        · subst e2; rw [if_neg (by omega), if_neg (by omega), if_pos ⟨trivial, rfl⟩, if_pos rfl, if_pos rfl]
        · rw [if_neg (by omega), if_neg (by omega), if_neg (by omega), if_pos rfl, if_neg e2]; omega
      · rw [if_neg (by omega), if_neg (by omega), if_neg (by omega), if_neg e1]
    have gS := jFour (f := fun x => vH s x p) (g := fun x => vH s' x p) h0 h4 gH
    have gL : ∀ x : Int, vL s' x p = vL s x p := fun x => by unfold vL; rw [r57]
    rw [r3, r54, r4, r55, gL, gL, gL, gL]
    by_cases e : p = q
    · subst e
      rw [if_pos rfl] at gS
      rw [if_pos rfl, if_pos rfl]
      omega
    · rw [if_neg e] at gS
      rw [if_neg e, if_neg e]
      omega
  · funext y
    rw [rc _ _ (by omega) (by omega)]
    simp only [jHeld]
    rw [if_neg (by omega), if_neg (by omega), if_neg (by omega)]
theorem jandl_31 {x : Int} (hx : 0 ≤ x ∧ x < 9223372036854775808) : jandl x 2147483647 = x % 2147483648 := by
  have h := jandl_mod (x := x) 31 (by decide) hx
  have e : (2 : Int) ^ 31 = 2147483648 := by decide
  have e2 : (2147483648 : Int) - 1 = 2147483647 := by decide
  rw [e, e2] at h
  exact h
def jNext (z : Int) : Int := (z * 48271 + 11) % 2147483648
theorem jNext_bd {z : Int} : 0 ≤ jNext z ∧ jNext z < 2147483648 := by unfold jNext; omega
theorem jPick_ex {w : Int → Int} {n : Int} : ∀ t : Nat, 0 ≤ n → n < jSum w t → ∃ N : Nat, N < t ∧ jSum w N ≤ n ∧ n < jSum w (N + 1) := by
  intro t
  induction t with
  | zero => intro h0 hn; simp [jSum] at hn; omega
  | succ t ih =>
    intro h0 hn
    by_cases e : n < jSum w t
    · obtain ⟨N, a, b, c⟩ := ih h0 e
      exact ⟨N, by omega, b, c⟩
    · exact ⟨t, by omega, by omega, hn⟩
def cDraw (s : jMem) (h N z : Int) : jMem := jU (jU (jU (jU s 0 8 z) 3 N (s 3 N - 1)) (38 + 4 * h) N (s (38 + 4 * h) N + 1)) (37 + 4 * h) 3 (s (37 + 4 * h) 3 + 1)
def mDraw (s : jMem) (h N z : Int) : jMem := jU (jU (jU s 53 6 z) 54 N (s 54 N - 1)) 56 (34 * h + N) (s 56 (34 * h + N) + 1)
theorem sX10_drawNext {h : Int} {s : jMem} {N : Nat} (h0 : 0 ≤ h) (h4 : h < 4) (hw : ∀ i : Nat, i < 34 → 0 ≤ s 3 i ∧ s 3 i ≤ 4) (hz : 0 ≤ s 0 8 ∧ s 0 8 < 2147483648) (ht : 0 < jSum (s 3) 34) (hN : N < 34) (lo : jSum (s 3) N ≤ jNext (s 0 8) / 64 % jSum (s 3) 34) (hi : jNext (s 0 8) / 64 % jSum (s 3) 34 < jSum (s 3) (N + 1)) (ha : 0 ≤ s (38 + 4 * h) N ∧ s (38 + 4 * h) N ≤ 100) (hb : 0 ≤ s (37 + 4 * h) 3 ∧ s (37 + 4 * h) 3 ≤ 100) : fX10_drawNext (37 + 4 * h) s = some ((N : Int), cDraw s h N (jNext (s 0 8))) := by
  obtain ⟨t0, t1, t2, t3, t4, t5, t6, t7, t8, t9⟩ := jh_t h0 h4
  have u := jik_t
  have ul := jln_t
  have hb4 : ∀ i : Nat, i < 34 → 0 ≤ s 3 i ∧ s 3 i ≤ 1000 := fun i hi => by have := hw i hi; omega
  have htb := jSum_bd hb4
  have nb := jNext_bd (z := s 0 8)
  obtain ⟨z, hzz⟩ : ∃ z, z = jNext (s 0 8) := ⟨_, rfl⟩
  obtain ⟨tot, htot⟩ : ∃ t, t = jSum (s 3) 34 := ⟨_, rfl⟩
  rw [← hzz, ← htot] at lo hi
  rw [← htot] at ht htb
  rw [← hzz] at nb
  obtain ⟨n, hn⟩ : ∃ n, n = z / 64 % tot := ⟨_, rfl⟩
  rw [← hn] at lo hi
  have n0 : 0 ≤ n := by rw [hn]; exact Int.emod_nonneg _ (by omega)
  have n1 : n < tot := by rw [hn]; exact Int.emod_lt_of_pos _ ht
  unfold fX10_drawNext
  rw [sX8_sum 3 34 s (by omega) (by omega) (by decide) hb4, jBd_s, ← htot, if_neg (by omega)]
  simp only [jLet_e]
  have e3 : jandl (s 0 8 * 48271 + 11) 2147483647 = z := by
    rw [hzz, jandl_31 ⟨by omega, by omega⟩]
    unfold jNext
    rfl
  rw [j64_id (x := s 0 8 * 48271) (by omega) (by omega), j64_id (x := s 0 8 * 48271 + 11) (by omega) (by omega), e3, j32_id (x := z) (by omega) (by omega), jU_at, if_pos rfl, jGd_e (by decide), jGd_e (by omega), jdiv_nn (x := z) (y := 64) ⟨by omega, by omega⟩ ⟨by decide, by decide⟩, jrem_nn (x := z / 64) (y := tot) ⟨by omega, by omega⟩ ⟨ht, by omega⟩, ← hn]
  obtain ⟨s', hs'⟩ : ∃ t, t = jU s 0 8 z := ⟨_, rfl⟩
  rw [← hs']
  have r3 : s' 3 = s 3 := by rw [hs', jU_row (by decide)]
  have r38 : s' (38 + 4 * h) = s (38 + 4 * h) := by rw [hs', jU_row (by omega)]
  have r37 : s' (37 + 4 * h) = s (37 + 4 * h) := by rw [hs', jU_row (by omega)]
  have key : jIt (fun _ _ _ _ => none) (bX10_drawNext_50 bX10_drawNext_68) 1000 (37 + 4 * h) (n - jSum (s 3) 0) ((0 : Nat) : Int) s' = some ((N : Int), cDraw s h N z) := by
    refine jIt_for (bot := fun _ _ _ _ => none) (b := bX10_drawNext_50 bX10_drawNext_68) N (fun i rec => rec (37 + 4 * h) (n - jSum (s 3) i) i s') _ ?_ ?_ 1000 (by omega)
    · intro i hiN rec
      show bX10_drawNext_50 bX10_drawNext_68 rec (37 + 4 * h) (n - jSum (s 3) i) i s' = rec (37 + 4 * h) (n - jSum (s 3) (i + 1)) ((i + 1 : Nat) : Int) s'
      have b1 := jSum_bd (f := s 3) (n := i) (fun j hj => hb4 j (by omega))
      have b2 := hw i (by omega)
      have b3 : jSum (s 3) (i + 1) ≤ jSum (s 3) N := by
        have mono : ∀ k : Nat, i + 1 + k ≤ 34 → jSum (s 3) (i + 1) ≤ jSum (s 3) (i + 1 + k) := by
          intro k
          induction k with
          | zero => intro _; exact Int.le_refl _
          | succ k ih =>
            intro hk
            have c1 := ih (by omega)
            have c2 := hw (i + 1 + k) (by omega)
            have c3 : jSum (s 3) (i + 1 + (k + 1)) = jSum (s 3) (i + 1 + k) + s 3 ((i + 1 + k : Nat) : Int) := rfl
            omega
        have := mono (N - (i + 1)) (by omega)
        rwa [show i + 1 + (N - (i + 1)) = N by omega] at this
      have b4 : jSum (s 3) (i + 1) = jSum (s 3) i + s 3 i := rfl
      simp only [bX10_drawNext_50, jLet_e, r3]
      rw [if_neg (by omega), jGd_e ⟨by omega, by omega⟩, if_pos (by omega), jGd_e ⟨by omega, by omega⟩, j32_id (by omega) (by omega), j32_id (by omega) (by omega), b4]
      rw [show n - jSum (s 3) i - s 3 (i : Int) = n - (jSum (s 3) i + s 3 (i : Int)) by omega]
      rfl
    · intro rec
      show bX10_drawNext_50 bX10_drawNext_68 rec (37 + 4 * h) (n - jSum (s 3) N) N s' = some ((N : Int), cDraw s h N z)
      have b2 := hw N hN
      have b4 : jSum (s 3) (N + 1) = jSum (s 3) N + s 3 N := rfl
      have hg := sX1_gain (s := jU s' 3 N (s 3 N - 1)) (q := N) h0 h4 (by omega) (by omega) (by rw [jU_row (by omega), r38]; exact ha) (by rw [jU_row (by omega), r37]; exact hb)
      rw [jU_row (r' := 38 + 4 * h) (by omega), jU_row (r' := 37 + 4 * h) (by omega), r38, r37] at hg
      simp only [bX10_drawNext_50, bX10_drawNext_68, jLet_e, r3]
      rw [if_neg (by omega), jGd_e ⟨by omega, by omega⟩, if_neg (by omega), jGd_e ⟨by omega, by omega⟩, j32_id (x := s 3 (N : Int) - 1) (by omega) (by omega), jGd_e ⟨by omega, by omega⟩, jGd_e t1, hg, jBd_s, hs']
      rfl
  rw [show n - jSum (s 3) 0 = n by simp [jSum]] at key
  rw [← hzz]
  exact key
theorem sX11_wallMany {s : jMem} (hw : ∀ i : Nat, i < 34 → 0 ≤ s 54 i ∧ s 54 i ≤ 1000) : fX11_wallMany s = some (jSum (s 54) 34, s) := by
  have t := jik_m
  unfold fX11_wallMany
  refine jIt_for (bot := fun _ _ _ => none) (b := bX11_wallMany_4) 34 (fun i rec => rec (jSum (s 54) i) i s) _ ?_ ?_ 1000 (by omega)
  · intro i hi rec
    show bX11_wallMany_4 rec (jSum (s 54) i) i s = rec (jSum (s 54) (i + 1)) ((i + 1 : Nat) : Int) s
    have h1 := jSum_bd (f := s 54) (n := i) (fun j hj => hw j (by omega))
    have h2 := hw i hi
    simp only [bX11_wallMany_4, jLet_e]
    rw [if_neg (by omega), jGd_e ⟨by omega, by omega⟩, j32_id (by omega) (by omega), j32_id (by omega) (by omega)]
    rfl
  · intro rec
    show bX11_wallMany_4 rec (jSum (s 54) 34) ((34 : Nat) : Int) s = some (jSum (s 54) 34, s)
    simp only [bX11_wallMany_4, jRet]
    rw [if_pos (by decide)]
end

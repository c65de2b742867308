section
theorem jreml_31 {x : Int} (h0 : 0 ≤ x) (h1 : x < 9223372036854775808) : jreml x 2147483648 = x % 2147483648 := jreml_nn ⟨h0, h1⟩ ⟨by omega, by omega⟩
theorem jdivl_64 {x : Int} (h0 : 0 ≤ x) (h1 : x < 9223372036854775808) : jdivl x 64 = x / 64 := jdivl_nn ⟨h0, h1⟩ ⟨by omega, by omega⟩
theorem sX11_drawn {h : Int} {s : jMem} {N : Nat} (h0 : 0 ≤ h) (h4 : h < 4) (hw : ∀ i : Nat, i < 34 → 0 ≤ s 54 i ∧ s 54 i ≤ 4) (hz : 0 ≤ s 53 6 ∧ s 53 6 < 2147483648) (ht : 0 < jSum (s 54) 34) (hN : N < 34) (lo : jSum (s 54) N ≤ jNext (s 53 6) / 64 % jSum (s 54) 34) (hi : jNext (s 53 6) / 64 % jSum (s 54) 34 < jSum (s 54) (N + 1)) (ha : 0 ≤ s 56 (34 * h + N) ∧ s 56 (34 * h + N) ≤ 100) : fX11_drawn h s = some ((N : Int), mDraw s h N (jNext (s 53 6))) := by
  have t := jik_m
  have hb4 : ∀ i : Nat, i < 34 → 0 ≤ s 54 i ∧ s 54 i ≤ 1000 := fun i hi => by have := hw i hi; omega
  have htb := jSum_bd hb4
  have nb := jNext_bd (z := s 53 6)
  obtain ⟨z, hzz⟩ : ∃ z, z = jNext (s 53 6) := ⟨_, rfl⟩
  obtain ⟨tot, htot⟩ : ∃ t, t = jSum (s 54) 34 := ⟨_, rfl⟩
  rw [← hzz, ← htot] at lo hi
  rw [← htot] at ht htb
  rw [← hzz] at nb
  obtain ⟨n, hn⟩ : ∃ n, n = z / 64 % tot := ⟨_, rfl⟩
  rw [← hn] at lo hi
  have n0 : 0 ≤ n := by rw [hn]; exact Int.emod_nonneg _ (by omega)
  have n1 : n < tot := by rw [hn]; exact Int.emod_lt_of_pos _ ht
  have h31 : ¬ (2147483648 : Int) = 0 := by omega
  have z64 : 0 ≤ z / 64 ∧ z / 64 < 2147483648 := ⟨by omega, by omega⟩
  have hz1 : (s 53 6 * 48271 + 11) % 2147483648 = z := by rw [hzz]; unfold jNext; rfl
  obtain ⟨s', hs'⟩ : ∃ t, t = jU s 53 6 z := ⟨_, rfl⟩
  have r54 : s' 54 = s 54 := by rw [hs', jU_row (by decide)]
  have r56 : s' 56 = s 56 := by rw [hs', jU_row (by decide)]
  unfold fX11_drawn
  rw [jLet_e, jLet_e, j64_id (x := s 53 6 * 48271) (by omega) (by omega), jLet_e, j64_id (x := s 53 6 * 48271 + 11) (by omega) (by omega), jGd_e h31, jLet_e, jreml_31 (x := s 53 6 * 48271 + 11) (by omega) (by omega), hz1, jLet_e, jLet_e, jU_at, if_pos rfl, jGd_e (by omega), jLet_e, ← hs', sX11_wallMany (by rw [r54]; exact hb4), jBd_s, r54, ← htot, jGd_e (by omega), jLet_e, jdivl_64 (x := z) (by omega) (by omega), jreml_nn (x := z / 64) (y := tot) ⟨by omega, by omega⟩ ⟨ht, by omega⟩, ← hn, jLet_e, j32_id (x := n) (by omega) (by omega)]
  have key : jIt (fun _ _ _ _ => none) (bX11_drawn_38 bX11_drawn_63) 1000 h (n - jSum (s 54) 0) ((0 : Nat) : Int) s' = some ((N : Int), mDraw s h N z) := by
    refine jIt_for (bot := fun _ _ _ _ => none) (b := bX11_drawn_38 bX11_drawn_63) N (fun i rec => rec h (n - jSum (s 54) i) i s') _ ?_ ?_ 1000 (by omega)
    · intro i hiN rec
      show bX11_drawn_38 bX11_drawn_63 rec h (n - jSum (s 54) i) i s' = rec h (n - jSum (s 54) (i + 1)) ((i + 1 : Nat) : Int) s'
      have b1 := jSum_bd (f := s 54) (n := i) (fun j hj => hb4 j (by omega))
      have b2 := hw i (by omega)
      have b3 : jSum (s 54) (i + 1) ≤ jSum (s 54) N := by
        have mono : ∀ k : Nat, i + 1 + k ≤ 34 → jSum (s 54) (i + 1) ≤ jSum (s 54) (i + 1 + k) := by
          intro k
          induction k with
          | zero => intro _; exact Int.le_refl _
          | succ k ih =>
            intro hk
            have c1 := ih (by omega)
            have c2 := hw (i + 1 + k) (by omega)
            have c3 : jSum (s 54) (i + 1 + (k + 1)) = jSum (s 54) (i + 1 + k) + s 54 ((i + 1 + k : Nat) : Int) := rfl
            omega
        have := mono (N - (i + 1)) (by omega)
        rwa [show i + 1 + (N - (i + 1)) = N by omega] at this
      have b4 : jSum (s 54) (i + 1) = jSum (s 54) i + s 54 i := rfl
      simp only [bX11_drawn_38, jLet_e, r54]
      rw [jGd_e ⟨by omega, by omega⟩, if_neg (by omega), jGd_e ⟨by omega, by omega⟩, j32_id (by omega) (by omega), j32_id (by omega) (by omega), b4]
      rw [show n - jSum (s 54) i - s 54 (i : Int) = n - (jSum (s 54) i + s 54 (i : Int)) by omega]
      rfl
    · intro rec
      show bX11_drawn_38 bX11_drawn_63 rec h (n - jSum (s 54) N) N s' = some ((N : Int), mDraw s h N z)
      have b2 := hw N hN
      have b4 : jSum (s 54) (N + 1) = jSum (s 54) N + s 54 N := rfl
      simp only [bX11_drawn_38, bX11_drawn_63, jLet_e, r54]
      rw [jGd_e ⟨by omega, by omega⟩, if_pos (by omega), jGd_e ⟨by omega, by omega⟩, j32_id (x := s 54 (N : Int) - 1) (by omega) (by omega), jGd_e ⟨by omega, by omega⟩, j32_id (x := 34 * h) (by omega) (by omega), j32_id (x := 34 * h + N) (by omega) (by omega), jGd_e ⟨by omega, by omega⟩, jU_row (r' := 56) (by decide), r56, j32_id (by omega) (by omega), jGd_e ⟨by omega, by omega⟩, hs']
      rfl
  rw [show n - jSum (s 54) 0 = n by simp [jSum]] at key
  rw [← hzz]
  exact key
end

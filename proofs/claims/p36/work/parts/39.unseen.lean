/-! ===== unseen ===== -/
section
/-- what the class calls hidden, what the reference calls unseen, of a hand -/
def cHid (s : jMem) (h q : Int) : Int := 4 - (s (38 + 4 * h) q + s 4 q + jSum (fun g => s (39 + 4 * g) q) 4)
def mHid (s : jMem) (h q : Int) : Int := 4 - s 56 (34 * h + q) - s 55 q - jSum (fun g => s 57 (34 * g + q)) 4
theorem sX10_cH25 {h' q x : Int} {s : jMem} (k : Int → Int → Int → jMem → jO) (q0 : 0 ≤ q) (q4 : q < 34) (hx : 0 ≤ x ∧ x ≤ 100) (hb : ∀ g : Nat, g < 4 → 0 ≤ s (39 + 4 * g) q ∧ s (39 + 4 * g) q ≤ 1000) : jIt (fun _ _ _ _ _ => none) (bX10_countHidden_25 k) 1000 h' q x 0 s = k h' q (x + jSum (fun g => s (39 + 4 * g) q) 4) s := by
  have w := jrk_t
  have key : jIt (fun _ _ _ _ _ => none) (bX10_countHidden_25 k) 1000 h' q (x + jSum (fun g => s (39 + 4 * g) q) 0) ((0 : Nat) : Int) s = k h' q (x + jSum (fun g => s (39 + 4 * g) q) 4) s := by
    refine jIt_for (bot := fun _ _ _ _ _ => none) (b := bX10_countHidden_25 k) 4 (fun i rec => rec h' q (x + jSum (fun g => s (39 + 4 * g) q) i) i s) _ ?_ ?_ 1000 (by omega)
    · intro i hi rec
      show bX10_countHidden_25 k rec h' q (x + jSum (fun g => s (39 + 4 * g) q) i) i s = rec h' q (x + (jSum (fun g => s (39 + 4 * g) q) i + s (39 + 4 * (i : Int)) q)) ((i + 1 : Nat) : Int) s
      obtain ⟨t0, t1, t2, t3, t4, t5, t6, t7, t8, t9⟩ := jh_t (h := (i : Int)) (by omega) (by omega)
      have b1 := jSum_bd (f := fun g => s (39 + 4 * g) q) (n := i) (fun j hj => hb j (by omega))
      have b2 := hb i hi
      simp only [bX10_countHidden_25, jLet_e, t0, t3]
      rw [if_neg (by omega), jGd_e ⟨by omega, by omega⟩, jGd_e t1, jGd_e ⟨q0, by omega⟩, j32_id (by omega) (by omega), j32_id (by omega) (by omega), Int.add_assoc]
      rfl
    · intro rec
      show bX10_countHidden_25 k rec h' q (x + jSum (fun g => s (39 + 4 * g) q) 4) ((4 : Nat) : Int) s = _
      simp only [bX10_countHidden_25]
      rw [if_pos (by decide)]
  rw [show x + jSum (fun g => s (39 + 4 * g) q) 0 = x by simp [jSum]] at key
  exact key
end

/-! ===== the law's function answers 1 ===== -/
section
variable {P : Int → qMem → Prop} {s : qMem}
theorem qh_ret {v : Int} (h : P v s) : qHo P (qRet v s) := ⟨v, s, rfl, h⟩
theorem qh_gd {c : Prop} [Decidable c] {k : qO} (h : c) (hk : qHo P k) : qHo P (qGd c k) := by
  unfold qGd; rw [if_pos h]; exact hk
theorem qh_let {α : Type} {v : α} {k : α → qO} (h : qHo P (k v)) : qHo P (qLet v k) := h
theorem qh_l32 {x : Int} {k : Int → qO} (h1 : -2147483648 ≤ x) (h2 : x < 2147483648) (h : qHo P (k x)) : qHo P (qLet (j32 x) k) := by
  unfold qLet; rw [j32_id h1 h2]; exact h
theorem qh_if {c : Prop} [Decidable c] {A B : qO} (ht : c → qHo P A) (hf : ¬ c → qHo P B) : qHo P (if c then A else B) := by
  split
  · rename_i h; exact ht h
  · rename_i h; exact hf h
theorem qh_1 {f : jMem → jO} {K : Int → qMem → qO} {v : Int} {z : jMem} (e : f s.1 = some (v, z)) (h : qHo P (K v (z, s.2))) : qHo P (qBd (qC1 f s) K) := by
  unfold qC1; rw [e]; exact h
theorem qh_2 {f : jMem → jO} {K : Int → qMem → qO} {v : Int} {z : jMem} (e : f s.2.1 = some (v, z)) (h : qHo P (K v (s.1, z, s.2.2))) : qHo P (qBd (qC2 f s) K) := by
  unfold qC2; rw [e]; exact h
theorem qHo_it {A S : Type} (ap : A → S → qO) {bot : A} {b : A → A} {P : Int → qMem → Prop} (I : S → Prop) (m : S → Nat) (hb : ∀ rec x, I x → (∀ y, I y → m y < m x → qHo P (ap rec y)) → qHo P (ap (b rec) x)) : ∀ n x, I x → m x < n → qHo P (ap (jIt bot b n) x) := by
  intro n
  induction n with
  | zero => intro x _ h; omega
  | succ n ih => intro x hx hm; exact hb (jIt bot b n) x hx (fun y hy hl => ih y hy (by omega))
theorem qIt2 {bot : Int → Int → qMem → qO} {b : (Int → Int → qMem → qO) → Int → Int → qMem → qO} {P : Int → qMem → Prop} (I : Int → Int → qMem → Prop) (m : Int → Int → Nat) (hb : ∀ rec a1 a2 s, I a1 a2 s → (∀ b1 b2 t, I b1 b2 t → m b1 b2 < m a1 a2 → qHo P (rec b1 b2 t)) → qHo P (b rec a1 a2 s)) (n : Nat) (a1 a2 : Int) (s : qMem) (h : I a1 a2 s) (hm : m a1 a2 < n) : qHo P (jIt bot b n a1 a2 s) :=
  qHo_it (S := Int × Int × qMem) (fun f x => f x.1 x.2.1 x.2.2) (fun x => I x.1 x.2.1 x.2.2) (fun x => m x.1 x.2.1) (fun rec x hx k => hb rec x.1 x.2.1 x.2.2 hx (fun b1 b2 t h1 h2 => k (b1, b2, t) h1 h2)) n (a1, a2, s) h hm
theorem qIt3 {bot : Int → Int → Int → qMem → qO} {b : (Int → Int → Int → qMem → qO) → Int → Int → Int → qMem → qO} {P : Int → qMem → Prop} (I : Int → Int → Int → qMem → Prop) (m : Int → Int → Int → Nat) (hb : ∀ rec a1 a2 a3 s, I a1 a2 a3 s → (∀ b1 b2 b3 t, I b1 b2 b3 t → m b1 b2 b3 < m a1 a2 a3 → qHo P (rec b1 b2 b3 t)) → qHo P (b rec a1 a2 a3 s)) (n : Nat) (a1 a2 a3 : Int) (s : qMem) (h : I a1 a2 a3 s) (hm : m a1 a2 a3 < n) : qHo P (jIt bot b n a1 a2 a3 s) :=
  qHo_it (S := Int × Int × Int × qMem) (fun f x => f x.1 x.2.1 x.2.2.1 x.2.2.2) (fun x => I x.1 x.2.1 x.2.2.1 x.2.2.2) (fun x => m x.1 x.2.1 x.2.2.1) (fun rec x hx k => hb rec x.1 x.2.1 x.2.2.1 x.2.2.2 hx (fun b1 b2 b3 t h1 h2 => k (b1, b2, b3, t) h1 h2)) n (a1, a2, a3, s) h hm
theorem qIt4 {bot : Int → Int → Int → Int → qMem → qO} {b : (Int → Int → Int → Int → qMem → qO) → Int → Int → Int → Int → qMem → qO} {P : Int → qMem → Prop} (I : Int → Int → Int → Int → qMem → Prop) (m : Int → Int → Int → Int → Nat) (hb : ∀ rec a1 a2 a3 a4 s, I a1 a2 a3 a4 s → (∀ b1 b2 b3 b4 t, I b1 b2 b3 b4 t → m b1 b2 b3 b4 < m a1 a2 a3 a4 → qHo P (rec b1 b2 b3 b4 t)) → qHo P (b rec a1 a2 a3 a4 s)) (n : Nat) (a1 a2 a3 a4 : Int) (s : qMem) (h : I a1 a2 a3 a4 s) (hm : m a1 a2 a3 a4 < n) : qHo P (jIt bot b n a1 a2 a3 a4 s) :=
  qHo_it (S := Int × Int × Int × Int × qMem) (fun f x => f x.1 x.2.1 x.2.2.1 x.2.2.2.1 x.2.2.2.2) (fun x => I x.1 x.2.1 x.2.2.1 x.2.2.2.1 x.2.2.2.2) (fun x => m x.1 x.2.1 x.2.2.1 x.2.2.2.1) (fun rec x hx k => hb rec x.1 x.2.1 x.2.2.1 x.2.2.2.1 x.2.2.2.2 hx (fun b1 b2 b3 b4 t h1 h2 => k (b1, b2, b3, b4, t) h1 h2)) n (a1, a2, a3, a4, s) h hm
theorem qIt5 {bot : Int → Int → Int → Int → Int → qMem → qO} {b : (Int → Int → Int → Int → Int → qMem → qO) → Int → Int → Int → Int → Int → qMem → qO} {P : Int → qMem → Prop} (I : Int → Int → Int → Int → Int → qMem → Prop) (m : Int → Int → Int → Int → Int → Nat) (hb : ∀ rec a1 a2 a3 a4 a5 s, I a1 a2 a3 a4 a5 s → (∀ b1 b2 b3 b4 b5 t, I b1 b2 b3 b4 b5 t → m b1 b2 b3 b4 b5 < m a1 a2 a3 a4 a5 → qHo P (rec b1 b2 b3 b4 b5 t)) → qHo P (b rec a1 a2 a3 a4 a5 s)) (n : Nat) (a1 a2 a3 a4 a5 : Int) (s : qMem) (h : I a1 a2 a3 a4 a5 s) (hm : m a1 a2 a3 a4 a5 < n) : qHo P (jIt bot b n a1 a2 a3 a4 a5 s) :=
  qHo_it (S := Int × Int × Int × Int × Int × qMem) (fun f x => f x.1 x.2.1 x.2.2.1 x.2.2.2.1 x.2.2.2.2.1 x.2.2.2.2.2) (fun x => I x.1 x.2.1 x.2.2.1 x.2.2.2.1 x.2.2.2.2.1 x.2.2.2.2.2) (fun x => m x.1 x.2.1 x.2.2.1 x.2.2.2.1 x.2.2.2.2.1) (fun rec x hx k => hb rec x.1 x.2.1 x.2.2.1 x.2.2.2.1 x.2.2.2.2.1 x.2.2.2.2.2 hx (fun b1 b2 b3 b4 b5 t h1 h2 => k (b1, b2, b3, b4, b5, t) h1 h2)) n (a1, a2, a3, a4, a5, s) h hm
theorem qIt6 {bot : Int → Int → Int → Int → Int → Int → qMem → qO} {b : (Int → Int → Int → Int → Int → Int → qMem → qO) → Int → Int → Int → Int → Int → Int → qMem → qO} {P : Int → qMem → Prop} (I : Int → Int → Int → Int → Int → Int → qMem → Prop) (m : Int → Int → Int → Int → Int → Int → Nat) (hb : ∀ rec a1 a2 a3 a4 a5 a6 s, I a1 a2 a3 a4 a5 a6 s → (∀ b1 b2 b3 b4 b5 b6 t, I b1 b2 b3 b4 b5 b6 t → m b1 b2 b3 b4 b5 b6 < m a1 a2 a3 a4 a5 a6 → qHo P (rec b1 b2 b3 b4 b5 b6 t)) → qHo P (b rec a1 a2 a3 a4 a5 a6 s)) (n : Nat) (a1 a2 a3 a4 a5 a6 : Int) (s : qMem) (h : I a1 a2 a3 a4 a5 a6 s) (hm : m a1 a2 a3 a4 a5 a6 < n) : qHo P (jIt bot b n a1 a2 a3 a4 a5 a6 s) :=
  qHo_it (S := Int × Int × Int × Int × Int × Int × qMem) (fun f x => f x.1 x.2.1 x.2.2.1 x.2.2.2.1 x.2.2.2.2.1 x.2.2.2.2.2.1 x.2.2.2.2.2.2) (fun x => I x.1 x.2.1 x.2.2.1 x.2.2.2.1 x.2.2.2.2.1 x.2.2.2.2.2.1 x.2.2.2.2.2.2) (fun x => m x.1 x.2.1 x.2.2.1 x.2.2.2.1 x.2.2.2.2.1 x.2.2.2.2.2.1) (fun rec x hx k => hb rec x.1 x.2.1 x.2.2.1 x.2.2.2.1 x.2.2.2.2.1 x.2.2.2.2.2.1 x.2.2.2.2.2.2 hx (fun b1 b2 b3 b4 b5 b6 t h1 h2 => k (b1, b2, b3, b4, b5, b6, t) h1 h2)) n (a1, a2, a3, a4, a5, a6, s) h hm
theorem qIt7 {bot : Int → Int → Int → Int → Int → Int → Int → qMem → qO} {b : (Int → Int → Int → Int → Int → Int → Int → qMem → qO) → Int → Int → Int → Int → Int → Int → Int → qMem → qO} {P : Int → qMem → Prop} (I : Int → Int → Int → Int → Int → Int → Int → qMem → Prop) (m : Int → Int → Int → Int → Int → Int → Int → Nat) (hb : ∀ rec a1 a2 a3 a4 a5 a6 a7 s, I a1 a2 a3 a4 a5 a6 a7 s → (∀ b1 b2 b3 b4 b5 b6 b7 t, I b1 b2 b3 b4 b5 b6 b7 t → m b1 b2 b3 b4 b5 b6 b7 < m a1 a2 a3 a4 a5 a6 a7 → qHo P (rec b1 b2 b3 b4 b5 b6 b7 t)) → qHo P (b rec a1 a2 a3 a4 a5 a6 a7 s)) (n : Nat) (a1 a2 a3 a4 a5 a6 a7 : Int) (s : qMem) (h : I a1 a2 a3 a4 a5 a6 a7 s) (hm : m a1 a2 a3 a4 a5 a6 a7 < n) : qHo P (jIt bot b n a1 a2 a3 a4 a5 a6 a7 s) :=
  qHo_it (S := Int × Int × Int × Int × Int × Int × Int × qMem) (fun f x => f x.1 x.2.1 x.2.2.1 x.2.2.2.1 x.2.2.2.2.1 x.2.2.2.2.2.1 x.2.2.2.2.2.2.1 x.2.2.2.2.2.2.2) (fun x => I x.1 x.2.1 x.2.2.1 x.2.2.2.1 x.2.2.2.2.1 x.2.2.2.2.2.1 x.2.2.2.2.2.2.1 x.2.2.2.2.2.2.2) (fun x => m x.1 x.2.1 x.2.2.1 x.2.2.2.1 x.2.2.2.2.1 x.2.2.2.2.2.1 x.2.2.2.2.2.2.1) (fun rec x hx k => hb rec x.1 x.2.1 x.2.2.1 x.2.2.2.1 x.2.2.2.2.1 x.2.2.2.2.2.1 x.2.2.2.2.2.2.1 x.2.2.2.2.2.2.2 hx (fun b1 b2 b3 b4 b5 b6 b7 t h1 h2 => k (b1, b2, b3, b4, b5, b6, b7, t) h1 h2)) n (a1, a2, a3, a4, a5, a6, a7, s) h hm
theorem jCz_s {v : Int} {s z : jMem} {f : jMem → jO} (e : f s = some (v, z)) : jCz (f s) = some (v, jCan z) := by rw [e]; rfl
/-- what the tenth place adds up to -/
theorem tV_sum {s : jMem} (hI : iT s) {q : Int} (q0 : 0 ≤ q) (q4 : q < 34) : jSum (fun k => tV s k q) 10 = 4 ∧ ∀ k : Int, 0 ≤ k → k < 10 → 0 ≤ tV s k q ∧ tV s k q ≤ 4 := by
  obtain ⟨w1, w2, w3, w4, w5⟩ := hI.1 q q0 q4
  have b0 := (hI.2.1 0 (by decide) (by decide)).1 q q0 q4
  have b1 := (hI.2.1 1 (by decide) (by decide)).1 q q0 q4
  have b2 := (hI.2.1 2 (by decide) (by decide)).1 q q0 q4
  have b3 := (hI.2.1 3 (by decide) (by decide)).1 q q0 q4
  have e : jSum (fun k => tV s k q) 10 = 0 + s 54 q + s 55 q + vH s 0 q + vH s 1 q + vH s 2 q + vH s 3 q + vL s 0 q + vL s 1 q + vL s 2 q + vL s 3 q := rfl
  refine ⟨by rw [e]; omega, fun k k0 k9 => ?_⟩
  unfold tV
  by_cases c0 : k = 0
  · rw [if_pos c0]; omega
  by_cases c1 : k = 1
  · rw [if_neg c0, if_pos c1]; omega
  rw [if_neg c0, if_neg c1]
  by_cases c6 : 6 ≤ k
  · rw [if_pos c6]
    rcases (by omega : k = 6 ∨ k = 7 ∨ k = 8 ∨ k = 9) with rfl | rfl | rfl | rfl
    · exact ⟨by show 0 ≤ vL s 0 q; omega, by show vL s 0 q ≤ 4; omega⟩
    · exact ⟨by show 0 ≤ vL s 1 q; omega, by show vL s 1 q ≤ 4; omega⟩
    · exact ⟨by show 0 ≤ vL s 2 q; omega, by show vL s 2 q ≤ 4; omega⟩
    · exact ⟨by show 0 ≤ vL s 3 q; omega, by show vL s 3 q ≤ 4; omega⟩
  · rw [if_neg c6]
    rcases (by omega : k = 2 ∨ k = 3 ∨ k = 4 ∨ k = 5) with rfl | rfl | rfl | rfl
    · exact ⟨by show 0 ≤ vH s 0 q; omega, by show vH s 0 q ≤ 4; omega⟩
    · exact ⟨by show 0 ≤ vH s 1 q; omega, by show vH s 1 q ≤ 4; omega⟩
    · exact ⟨by show 0 ≤ vH s 2 q; omega, by show vH s 2 q ≤ 4; omega⟩
    · exact ⟨by show 0 ≤ vH s 3 q; omega, by show vH s 3 q ≤ 4; omega⟩
theorem tV_eq {s t : jMem} (h : pI s t) {k q : Int} (q0 : 0 ≤ q) (q4 : q < 34) (k0 : 0 ≤ k) (k9 : k < 10) : tV s k q = tV t k q := by
  obtain ⟨hv, h54, -, -⟩ := pI_v h
  unfold tV
  rw [(h54 q q0 q4).1, (h54 q q0 q4).2]
  by_cases c0 : k = 0
  · rw [if_pos c0, if_pos c0]
  by_cases c1 : k = 1
  · rw [if_neg c0, if_neg c0, if_pos c1, if_pos c1]
  rw [if_neg c0, if_neg c0, if_neg c1, if_neg c1]
  by_cases c6 : 6 ≤ k
  · rw [if_pos c6, if_pos c6]; exact ((hv (k - 6) (by omega) (by omega)).2.2 q q0 q4).2
  · rw [if_neg c6, if_neg c6]; exact ((hv (k - 2) (by omega) (by omega)).2.2 q q0 q4).1
theorem vU_sum {s : jMem} (hI : iT s) {h : Int} (h0 : 0 ≤ h) (h4 : h < 4) : jSum (vU s h) 34 ≤ 136 - jSum (vH s h) 34 := by
  have le : ∀ n : Nat, n ≤ 34 → jSum (vU s h) n + jSum (vH s h) n ≤ 4 * (n : Int) := by
    intro n
    induction n with
    | zero => intro _; simp only [jSum]; omega
    | succ n ih =>
      intro hn
      have a := ih (by omega)
      obtain ⟨w1, w2, w3, w4, w5⟩ := hI.1 n (by omega) (by omega)
      have b0 := (hI.2.1 0 (by decide) (by decide)).1 n (by omega) (by omega)
      have b1 := (hI.2.1 1 (by decide) (by decide)).1 n (by omega) (by omega)
      have b2 := (hI.2.1 2 (by decide) (by decide)).1 n (by omega) (by omega)
      have b3 := (hI.2.1 3 (by decide) (by decide)).1 n (by omega) (by omega)
      have e : vU s h n = 4 - vH s h n - s 55 n - vL s 0 n - vL s 1 n - vL s 2 n - vL s 3 n := rfl
      simp only [jSum]
      omega
  have := le 34 (Nat.le_refl _)
  omega
/-- the law: from its first loop on -/
theorem p_law {xs : Int → Int} {L sd F : Int} {σ0 : jMem} (hF : 0 ≤ F) (hsd : 0 ≤ sd ∧ sd < 2147483648) (hJ : iJ (jCan σ0)) {c0 : jMem} (hc : dC sd c0) (hr : jIt (fun _ _ => none) (bX10_deal_56) 1000 0 c0 = some (0, σ0)) : qHo (fun v _ => v = 1) (jIt (fun _ _ _ _ => none) (bL_law_52 xs L) 1000 sd F 0 (jCan σ0, jCan σ0, F, fun _ => 0)) := by
  obtain ⟨R, hR⟩ : ∃ R : Int → qMem → Prop, R = fun v _ => v = 1 := ⟨_, rfl⟩
  rw [← hR]
  have R1 : ∀ m : qMem, R 1 m := fun m => by rw [hR]
  obtain ⟨W, hW⟩ : ∃ W : Int → Int, W = fun q => vH (jCan σ0) 0 q := ⟨_, rfl⟩
  have pJ : pI (jCan σ0) (jCan σ0) := ⟨hJ, hJ, qR_rf _, rfl, rfl⟩
  -- the end: nothing is seen but the hand
  have e398 : ∀ {m : qMem}, iJ m.1 → dZ m.1 → qHo R (bL_law_398 xs L m) := by
    intro m hm hz
    have hI := (iJ_T5 hm).1
    obtain ⟨z, e, -⟩ := cl_unseen hI (Int.le_refl 0) (by decide : (0 : Int) < 4)
    have v123 : jSum (vU m.1 0) 34 = 123 := by
      have e1 : jSum (vU m.1 0) 34 = jSum (fun q => 4 - vH m.1 0 q) 34 := jSum_cg (fun i hi => by
        show 4 - vH m.1 0 i - m.1 55 i - vL m.1 0 i - vL m.1 1 i - vL m.1 2 i - vL m.1 3 i = 4 - vH m.1 0 i
        rw [hz.2 i (by omega) (by omega), (hz.1 0 (by decide) (by decide)).2.2 i (by omega) (by omega), (hz.1 1 (by decide) (by decide)).2.2 i (by omega) (by omega), (hz.1 2 (by decide) (by decide)).2.2 i (by omega) (by omega), (hz.1 3 (by decide) (by decide)).2.2 i (by omega) (by omega)]
        omega)
      have e2 := (hz.1 0 (by decide) (by decide)).1
      have sb : jSum (fun q => (fun _ : Int => (4 : Int)) q - vH m.1 0 q) 34 = jSum (fun _ => 4) 34 - jSum (vH m.1 0) 34 := jSum_sub 34
      have e4 : jSum (fun _ => (4 : Int)) 34 = 136 := rfl
      rw [e1]
      show jSum (fun q => (fun _ : Int => (4 : Int)) q - vH m.1 0 q) 34 = 123
      rw [sb, e4, e2]; rfl
    unfold bL_law_398
    refine qh_1 e ?_
    rw [if_pos v123]
    exact qh_ret (R1 _)
  have e358 : ∀ {m : qMem}, iJ m.1 → dZ m.1 → m.2.2.1 = F → (∀ q : Int, 0 ≤ q → q < 34 → m.2.2.2 q = vH m.1 0 q) → qHo R (jIt (fun _ _ _ => none) (bL_law_358 xs L (bL_law_398 xs L)) 1000 F 0 m) := by
    intro m hm hz hf hw
    have hI := (iJ_T5 hm).1
    refine qIt2 (fun a q t => a = F ∧ 0 ≤ q ∧ q ≤ 34 ∧ t = m) (fun _ q => (34 - q).toNat) ?_ 1000 F 0 m ⟨rfl, by omega, by omega, rfl⟩ (by decide)
    rintro rec a q t ⟨rfl, q0, q4, rfl⟩ ih
    unfold bL_law_358
    refine qh_if (fun _ => e398 hm hz) (fun n => ?_)
    refine qh_1 (cl_tiles hI q0 (by omega) (by decide)) ?_
    refine qh_gd ⟨hf.symm, q0, by omega⟩ (qh_let ?_)
    have e2 : tV t.1 2 q = vH t.1 0 q := rfl
    have e1 : tV t.1 1 q = t.1 55 q := rfl
    have ew : (t.1, t.2).2.2.2 q = vH t.1 0 q := hw q q0 (by omega)
    rw [e2, ew, if_pos rfl]
    refine qh_1 (cl_tiles hI q0 (by omega) (by decide)) ?_
    rw [e1, hz.2 q q0 (by omega), if_pos rfl]
    exact qh_l32 (by omega) (by omega) (ih _ _ _ ⟨rfl, by omega, by omega, rfl⟩ (by omega))
  have e325 : ∀ {m : qMem}, iJ m.1 → m.2.2.1 = F → (∀ q : Int, 0 ≤ q → q < 34 → m.2.2.2 q = W q) → qHo R (bL_law_325 xs L sd F m) := by
    intro m hm hf hw
    obtain ⟨s1, e1, ⟨c1, d1, r1⟩, j1, z1⟩ := cl_deal hm hsd.1 hsd.2
    have un := cl_deal_u hc d1 hr r1
    have hI := (iJ_T5 j1).1
    unfold bL_law_325
    refine qh_1 (f := fun s => jCz (fX10_deal sd s)) (jCz_s e1) ?_
    rw [if_pos rfl]
    refine qh_1 (cl_about0 hI (by decide) (by decide)) ?_
    have a3 : jSum (vH (jCan s1) 3) 34 + 3 * jCan s1 58 3 = 13 := by rw [(z1.1 3 (by decide) (by decide)).1, (z1.1 3 (by decide) (by decide)).2.1]; rfl
    rw [a3, if_pos rfl]
    refine qh_1 (cl_about2 hI (by decide) (by decide)) ?_
    dsimp only
    rw [(z1.1 0 (by decide) (by decide)).2.1, if_pos rfl]
    refine e358 j1 z1 hf (fun q q0 q4 => ?_)
    show m.2.2.2 q = vH (jCan s1) 0 q
    rw [hw q q0 q4, hW]
    show vH (jCan σ0) 0 q = vH (jCan s1) 0 q
    rw [(jCan_56 σ0 q0 q4).1, (jCan_56 s1 q0 q4).1]
    exact ((un.2.2 0 (by decide) (by decide)).2.2 q q0 q4).1
  -- the forty acts
  have e80 : ∀ {m : qMem}, pI m.1 m.2.1 → m.2.2.1 = F → (∀ q : Int, 0 ≤ q → q < 34 → m.2.2.2 q = W q) → qHo R (jIt (fun _ _ _ _ => none) (bL_law_80 xs L (bL_law_325 xs L)) 1000 sd F 0 m) := by
    intro m hm hf hw
    refine qIt3 (fun a b i t => a = sd ∧ b = F ∧ 0 ≤ i ∧ i ≤ 40 ∧ pI t.1 t.2.1 ∧ t.2.2.1 = F ∧ ∀ q : Int, 0 ≤ q → q < 34 → t.2.2.2 q = W q) (fun _ _ i => (40 - i).toNat) ?_ 1000 sd F 0 m ⟨rfl, rfl, by omega, by omega, hm, hf, hw⟩ (by decide)
    rintro rec a b i t ⟨rfl, rfl, i0, i40, hp, hf, hw⟩ ih
    unfold bL_law_80
    refine qh_if (fun _ => e325 hp.1 hf hw) (fun n => ?_)
    refine qh_l32 (by omega) (by omega) (qh_gd (by omega) (qh_let (qh_let ?_)))
    obtain ⟨x, hx⟩ : ∃ x, x = qCell xs L (1 + i) := ⟨_, rfl⟩
    rw [← hx]
    obtain ⟨q1, ea, fa, ca⟩ := p_asked (jshr x 9) hp.2.1
    refine qh_2 ea ?_
    rw [if_neg (by decide)]
    have hp1 := pI_C2 hp fa ca
    obtain ⟨v, o2, q2, eo, eq, hp2⟩ := p_act x hp1
    refine qh_1 (f := fun s => jCz (fL_act x s)) (jCz_s eo) ?_
    refine qh_2 (f := fun s => jCz (fL_act x s)) (jCz_s eq) ?_
    rw [if_pos rfl]
    obtain ⟨m2, hm2⟩ : ∃ m2 : qMem, m2 = (jCan o2, jCan q2, t.2.2) := ⟨_, rfl⟩
    have hp2 : pI m2.1 m2.2.1 := by rw [hm2]; exact hp2
    have hf2 : m2.2.2.1 = b := by rw [hm2]; exact hf
    have hw2 : ∀ q : Int, 0 ≤ q → q < 34 → m2.2.2.2 q = W q := by rw [hm2]; exact hw
    show qHo R (jIt _ (bL_law_129 xs L (bL_law_214 xs L rec)) 1000 a b i x 0 (jCan o2, jCan q2, t.2.2))
    rw [← hm2]
    have hI := (iJ_T5 hp2.1).1
    have hI2 := (iJ_T5 hp2.2.1).1
    -- the sums of the hand
    have e214 : qHo R (bL_law_214 xs L rec a b i x m2) := by
      obtain ⟨g, hg⟩ : ∃ g, g = jand (jshr x 3) 3 := ⟨_, rfl⟩
      have gb := jand_nn (x := jshr x 3) (n := 3) (by decide) (by decide)
      rw [← hg] at gb
      obtain ⟨g0, g3⟩ := gb
      have g4 : g < 4 := by omega
      obtain ⟨a1, a2, a3, a4, a5, a6⟩ := hI.2.1 g g0 g4
      unfold bL_law_214
      refine qh_let (qh_let ?_)
      rw [← hg]
      refine qIt6 (fun y1 y2 y3 y4 y5 y6 t => y1 = a ∧ y2 = b ∧ y3 = i ∧ y4 = g ∧ t = m2 ∧ ∃ k : Nat, y6 = k ∧ k ≤ 34 ∧ y5 = jSum (vH m2.1 g) k ∧ 0 ≤ y5 ∧ y5 ≤ 4 * (k : Int)) (fun _ _ _ _ _ y6 => (34 - y6).toNat) ?_ 1000 a b i g 0 0 m2 ⟨rfl, rfl, rfl, rfl, rfl, 0, rfl, by omega, rfl, by omega, by omega⟩ (by decide)
      rintro rec2 y1 y2 y3 y4 y5 y6 t2 ⟨rfl, rfl, rfl, rfl, rfl, k, rfl, hk, rfl, s0, s4⟩ ih2
      unfold bL_law_228
      refine qh_if (fun e => ?_) (fun e => ?_)
      · have ek : k = 34 := by omega
        subst ek
        unfold bL_law_256
        refine qh_1 (cl_about1 hI g0 g4) ?_
        rw [if_pos rfl]
        refine qh_1 (cl_about0 hI g0 g4) (qh_1 (cl_about2 hI g0 g4) ?_)
        dsimp only
        refine qh_l32 (by omega) (by omega) (qh_l32 (by omega) (by omega) ?_)
        rw [if_pos rfl]
        refine qh_1 (cl_about0 hI g0 g4) ?_
        dsimp only
        rw [if_neg (by omega)]
        obtain ⟨z, ez, fz⟩ := cl_unseen hI g0 g4
        refine qh_1 ez ?_
        have us := vU_sum hI g0 g4
        refine qh_l32 (by omega) (by omega) ?_
        rw [if_pos us]
        have fz2 : fC t2.1 z := fun y y5 _ => fz y y5
        have cz : yCch z := yCch_eq (fz 14 (by decide)) (fz 15 (by decide)) (iJ_T5 hp2.1).2.2.1
        exact qh_l32 (by omega) (by omega) (ih _ _ _ _ ⟨rfl, rfl, by omega, by omega, pI_C1 hp2 fz2 cz, hf2, hw2⟩ (by omega))
      · have bk := (a1 k (by omega) (by omega)).2.2
        refine qh_l32 (by omega) (by omega) (qh_1 (cl_tiles hI (by omega) (by omega) (by omega)) ?_)
        have et : tV t2.1 (2 + y4) k = vH t2.1 y4 k := by
          unfold tV
          rw [if_neg (by omega), if_neg (by omega), if_neg (by omega), show 2 + y4 - 2 = y4 by omega]
        rw [et]
        refine qh_l32 (by omega) (by omega) (qh_l32 (by omega) (by omega) (ih2 _ _ _ _ _ _ _ ⟨rfl, rfl, rfl, rfl, rfl, k + 1, by omega, by omega, rfl, by omega, by omega⟩ (by omega)))
    refine qIt5 (fun y1 y2 y3 y4 y5 t => y1 = a ∧ y2 = b ∧ y3 = i ∧ y4 = x ∧ 0 ≤ y5 ∧ y5 ≤ 34 ∧ t = m2) (fun _ _ _ _ y5 => (34 - y5).toNat) ?_ 1000 a b i x 0 m2 ⟨rfl, rfl, rfl, rfl, by omega, by omega, rfl⟩ (by decide)
    rintro rec2 y1 y2 y3 y4 q t2 ⟨rfl, rfl, rfl, rfl, q0, q34, rfl⟩ ih2
    unfold bL_law_129
    refine qh_if (fun _ => e214) (fun e => ?_)
    obtain ⟨ts, tb⟩ := tV_sum hI q0 (by omega : q < 34)
    refine qIt7 (fun z1 z2 z3 z4 z5 z6 z7 t => z1 = y1 ∧ z2 = y2 ∧ z3 = y3 ∧ z4 = y4 ∧ z5 = q ∧ t = t2 ∧ ∃ k : Nat, z7 = k ∧ k ≤ 10 ∧ z6 = jSum (fun j => tV t2.1 j q) k ∧ 0 ≤ z6 ∧ z6 ≤ 4 * (k : Int)) (fun _ _ _ _ _ _ z7 => (10 - z7).toNat) ?_ 1000 y1 y2 y3 y4 q 0 0 t2 ⟨rfl, rfl, rfl, rfl, rfl, rfl, 0, rfl, by omega, rfl, by omega, by omega⟩ (by decide)
    rintro rec3 z1 z2 z3 z4 z5 z6 z7 t3 ⟨rfl, rfl, rfl, rfl, rfl, rfl, k, rfl, hk, rfl, s0, s4⟩ ih3
    unfold bL_law_142
    refine qh_if (fun e2 => ?_) (fun e2 => ?_)
    · have ek : k = 10 := by omega
      subst ek
      unfold bL_law_200
      rw [if_pos ts]
      exact qh_l32 (by omega) (by omega) (ih2 _ _ _ _ _ _ ⟨rfl, rfl, rfl, rfl, by omega, by omega, rfl⟩ (by omega))
    · have bk := tb k (by omega) (by omega)
      have ct := cl_tiles (pl := (k : Int)) hI q0 (by omega) ⟨by omega, by omega⟩
      have ct2 := cl_tiles (pl := (k : Int)) hI2 q0 (by omega) ⟨by omega, by omega⟩
      rw [← tV_eq hp2 q0 (by omega) (by omega) (by omega)] at ct2
      refine qh_1 ct (qh_l32 (by omega) (by omega) (qh_1 ct (qh_2 ct2 ?_)))
      rw [if_pos rfl]
      refine qh_1 ct ?_
      rw [if_pos bk.1]
      exact qh_l32 (by omega) (by omega) (ih3 _ _ _ _ _ _ _ _ ⟨rfl, rfl, rfl, rfl, rfl, rfl, k + 1, by omega, by omega, rfl, by omega, by omega⟩ (by omega))
  -- the hand that was dealt is kept
  have hI0 := (iJ_T5 hJ).1
  refine qIt3 (fun a b i t => a = sd ∧ b = F ∧ 0 ≤ i ∧ i ≤ 34 ∧ t.1 = jCan σ0 ∧ t.2.1 = jCan σ0 ∧ t.2.2.1 = F ∧ ∀ q : Int, 0 ≤ q → q < i → t.2.2.2 q = W q) (fun _ _ i => (34 - i).toNat) ?_ 1000 sd F 0 _ ⟨rfl, rfl, by omega, by omega, rfl, rfl, rfl, fun q q0 q1 => by omega⟩ (by decide)
  rintro rec a b i t ⟨rfl, rfl, i0, i34, t1, t2, tf, tw⟩ ih
  unfold bL_law_52
  refine qh_if (fun e => ?_) (fun e => ?_)
  · unfold bL_law_77
    exact e80 (by rw [t1, t2]; exact pJ) tf (fun q q0 q4 => tw q q0 (by omega))
  · have ct := cl_tiles (s := t.1) (q := i) (pl := 2) (by rw [t1]; exact hI0) i0 (by omega) ⟨by decide, by decide⟩
    refine qh_1 ct (qh_gd ⟨tf.symm, i0, by omega⟩ (qh_let (qh_l32 (by omega) (by omega) (ih _ _ _ _ ⟨rfl, rfl, by omega, by omega, t1, t2, tf, fun q q0 q1 => ?_⟩ (by omega)))))
    show (if q = i then tV t.1 2 i else t.2.2.2 q) = W q
    by_cases c : q = i
    · rw [if_pos c, c, hW, t1]; rfl
    · rw [if_neg c]; exact tw q q0 (by omega)
theorem pPure_ok : pPure := by
  intro xs L L0 L2 hx
  obtain ⟨sd, hsd⟩ : ∃ sd, sd = jand (qCell xs L 0) 2147483647 := ⟨_, rfl⟩
  rw [← hsd]
  have sb := jand_nn (x := qCell xs L 0) (n := 2147483647) (by decide) (by decide)
  rw [← hsd] at sb
  obtain ⟨s1, e1, ⟨c1, d1, r1⟩, j1, -⟩ := cl_deal (s := jm0) (v := sd) iJ_0 sb.1 (by omega)
  exact ⟨jCan s1, jCz_s e1, fun F hF => p_law hF ⟨sb.1, by omega⟩ j1 d1 r1⟩
end

/-! ===== pre and post: a function under a fact ends well, with a fact ===== -/
section
theorem gHo_ret {P : Int → jMem → Prop} {v : Int} {s : jMem} (h : P v s) : jHo P (jRet v s) := ⟨v, s, rfl, h⟩
theorem gHo_some {P : Int → jMem → Prop} {v : Int} {s : jMem} (h : P v s) : jHo P (some (v, s)) := ⟨v, s, rfl, h⟩
theorem gHo_gd {P : Int → jMem → Prop} {c : Prop} [Decidable c] {k : jO} (h : c) (hk : jHo P k) : jHo P (jGd c k) := by rw [jGd_e h]; exact hk
theorem gHo_let {α : Type} {P : Int → jMem → Prop} {v : α} {k : α → jO} (h : jHo P (k v)) : jHo P (jLet v k) := h
theorem gHo_nm {α : Type} {P : Int → jMem → Prop} {v : α} {k : α → jO} (h : ∀ x, x = v → jHo P (k x)) : jHo P (jLet v k) := h v rfl
theorem gHo_l32 {P : Int → jMem → Prop} {x : Int} {k : Int → jO} (h1 : -2147483648 ≤ x) (h2 : x < 2147483648) (h : jHo P (k x)) : jHo P (jLet (j32 x) k) := by
  rw [j32_id h1 h2]; exact h
theorem gHo_l64 {P : Int → jMem → Prop} {x : Int} {k : Int → jO} (h1 : -9223372036854775808 ≤ x) (h2 : x < 9223372036854775808) (h : jHo P (k x)) : jHo P (jLet (j64 x) k) := by
  rw [j64_id h1 h2]; exact h
theorem gHo_bd {P Q : Int → jMem → Prop} {o : jO} {K : Int → jMem → jO} (h : jHo Q o) (hk : ∀ v s, Q v s → jHo P (K v s)) : jHo P (jBd o K) := by
  obtain ⟨v, s, rfl, hq⟩ := h
  exact hk v s hq
theorem gHo_mono {P Q : Int → jMem → Prop} {o : jO} (h : jHo Q o) (hk : ∀ v s, Q v s → P v s) : jHo P o := by
  obtain ⟨v, s, rfl, hq⟩ := h
  exact ⟨v, s, rfl, hk v s hq⟩
theorem gHo_if {P : Int → jMem → Prop} {c : Prop} [Decidable c] {A B : jO} (ht : c → jHo P A) (hf : ¬ c → jHo P B) : jHo P (if c then A else B) := by
  by_cases hc : c
  · rw [if_pos hc]; exact ht hc
  · rw [if_neg hc]; exact hf hc
theorem gHo_it {A S : Type} (ap : A → S → jO) {bot : A} {b : A → A} {P : Int → jMem → Prop} (I : S → Prop) (m : S → Nat) (hb : ∀ rec x, I x → (∀ y, I y → m y < m x → jHo P (ap rec y)) → jHo P (ap (b rec) x)) : ∀ n x, I x → m x < n → jHo P (ap (jIt bot b n) x) := by
  intro n
  induction n with
  | zero => intro x _ h; omega
  | succ n ih =>
    intro x hx hm
    exact hb (jIt bot b n) x hx (fun y hy hlt => ih y hy (by omega))
theorem gIt1 {bot : jMem → jO} {b : (jMem → jO) → jMem → jO} {P : Int → jMem → Prop} (I : jMem → Prop) (m : jMem → Nat) (hb : ∀ rec s, I s → (∀ t, I t → m t < m s → jHo P (rec t)) → jHo P (b rec s)) (n : Nat) (s : jMem) (h : I s) (hm : m s < n) : jHo P (jIt bot b n s) :=
  gHo_it (S := jMem) (fun f x => f x) I m (fun rec x hx k => hb rec x hx k) n s h hm
theorem gIt2 {bot : Int → jMem → jO} {b : (Int → jMem → jO) → Int → jMem → jO} {P : Int → jMem → Prop} (I : Int → jMem → Prop) (m : Int → Nat) (hb : ∀ rec a s, I a s → (∀ a' t, I a' t → m a' < m a → jHo P (rec a' t)) → jHo P (b rec a s)) (n : Nat) (a : Int) (s : jMem) (h : I a s) (hm : m a < n) : jHo P (jIt bot b n a s) :=
  gHo_it (S := Int × jMem) (fun f x => f x.1 x.2) (fun x => I x.1 x.2) (fun x => m x.1) (fun rec x hx k => hb rec x.1 x.2 hx (fun a' t h1 h2 => k (a', t) h1 h2)) n (a, s) h hm
theorem gIt3 {bot : Int → Int → jMem → jO} {b : (Int → Int → jMem → jO) → Int → Int → jMem → jO} {P : Int → jMem → Prop} (I : Int → Int → jMem → Prop) (m : Int → Int → Nat) (hb : ∀ rec a1 a2 s, I a1 a2 s → (∀ b1 b2 t, I b1 b2 t → m b1 b2 < m a1 a2 → jHo P (rec b1 b2 t)) → jHo P (b rec a1 a2 s)) (n : Nat) (a1 a2 : Int) (s : jMem) (h : I a1 a2 s) (hm : m a1 a2 < n) : jHo P (jIt bot b n a1 a2 s) :=
  gHo_it (S := Int × Int × jMem) (fun f x => f x.1 x.2.1 x.2.2) (fun x => I x.1 x.2.1 x.2.2) (fun x => m x.1 x.2.1) (fun rec x hx k => hb rec x.1 x.2.1 x.2.2 hx (fun b1 b2 t h1 h2 => k (b1, b2, t) h1 h2)) n (a1, a2, s) h hm
theorem gIt4 {bot : Int → Int → Int → jMem → jO} {b : (Int → Int → Int → jMem → jO) → Int → Int → Int → jMem → jO} {P : Int → jMem → Prop} (I : Int → Int → Int → jMem → Prop) (m : Int → Int → Int → Nat) (hb : ∀ rec a1 a2 a3 s, I a1 a2 a3 s → (∀ b1 b2 b3 t, I b1 b2 b3 t → m b1 b2 b3 < m a1 a2 a3 → jHo P (rec b1 b2 b3 t)) → jHo P (b rec a1 a2 a3 s)) (n : Nat) (a1 a2 a3 : Int) (s : jMem) (h : I a1 a2 a3 s) (hm : m a1 a2 a3 < n) : jHo P (jIt bot b n a1 a2 a3 s) :=
  gHo_it (S := Int × Int × Int × jMem) (fun f x => f x.1 x.2.1 x.2.2.1 x.2.2.2) (fun x => I x.1 x.2.1 x.2.2.1 x.2.2.2) (fun x => m x.1 x.2.1 x.2.2.1) (fun rec x hx k => hb rec x.1 x.2.1 x.2.2.1 x.2.2.2 hx (fun b1 b2 b3 t h1 h2 => k (b1, b2, b3, t) h1 h2)) n (a1, a2, a3, s) h hm
theorem gIt5 {bot : Int → Int → Int → Int → jMem → jO} {b : (Int → Int → Int → Int → jMem → jO) → Int → Int → Int → Int → jMem → jO} {P : Int → jMem → Prop} (I : Int → Int → Int → Int → jMem → Prop) (m : Int → Int → Int → Int → Nat) (hb : ∀ rec a1 a2 a3 a4 s, I a1 a2 a3 a4 s → (∀ b1 b2 b3 b4 t, I b1 b2 b3 b4 t → m b1 b2 b3 b4 < m a1 a2 a3 a4 → jHo P (rec b1 b2 b3 b4 t)) → jHo P (b rec a1 a2 a3 a4 s)) (n : Nat) (a1 a2 a3 a4 : Int) (s : jMem) (h : I a1 a2 a3 a4 s) (hm : m a1 a2 a3 a4 < n) : jHo P (jIt bot b n a1 a2 a3 a4 s) :=
  gHo_it (S := Int × Int × Int × Int × jMem) (fun f x => f x.1 x.2.1 x.2.2.1 x.2.2.2.1 x.2.2.2.2) (fun x => I x.1 x.2.1 x.2.2.1 x.2.2.2.1 x.2.2.2.2) (fun x => m x.1 x.2.1 x.2.2.1 x.2.2.2.1) (fun rec x hx k => hb rec x.1 x.2.1 x.2.2.1 x.2.2.2.1 x.2.2.2.2 hx (fun b1 b2 b3 b4 t h1 h2 => k (b1, b2, b3, b4, t) h1 h2)) n (a1, a2, a3, a4, s) h hm
theorem gIt6 {bot : Int → Int → Int → Int → Int → jMem → jO} {b : (Int → Int → Int → Int → Int → jMem → jO) → Int → Int → Int → Int → Int → jMem → jO} {P : Int → jMem → Prop} (I : Int → Int → Int → Int → Int → jMem → Prop) (m : Int → Int → Int → Int → Int → Nat) (hb : ∀ rec a1 a2 a3 a4 a5 s, I a1 a2 a3 a4 a5 s → (∀ b1 b2 b3 b4 b5 t, I b1 b2 b3 b4 b5 t → m b1 b2 b3 b4 b5 < m a1 a2 a3 a4 a5 → jHo P (rec b1 b2 b3 b4 b5 t)) → jHo P (b rec a1 a2 a3 a4 a5 s)) (n : Nat) (a1 a2 a3 a4 a5 : Int) (s : jMem) (h : I a1 a2 a3 a4 a5 s) (hm : m a1 a2 a3 a4 a5 < n) : jHo P (jIt bot b n a1 a2 a3 a4 a5 s) :=
  gHo_it (S := Int × Int × Int × Int × Int × jMem) (fun f x => f x.1 x.2.1 x.2.2.1 x.2.2.2.1 x.2.2.2.2.1 x.2.2.2.2.2) (fun x => I x.1 x.2.1 x.2.2.1 x.2.2.2.1 x.2.2.2.2.1 x.2.2.2.2.2) (fun x => m x.1 x.2.1 x.2.2.1 x.2.2.2.1 x.2.2.2.2.1) (fun rec x hx k => hb rec x.1 x.2.1 x.2.2.1 x.2.2.2.1 x.2.2.2.2.1 x.2.2.2.2.2 hx (fun b1 b2 b3 b4 b5 t h1 h2 => k (b1, b2, b3, b4, b5, t) h1 h2)) n (a1, a2, a3, a4, a5, s) h hm
/-- unseen: the class's count -/
theorem zX10_cH25 {P : Int → jMem → Prop} {h' q x : Int} {s : jMem} {k : Int → Int → Int → jMem → jO} (q0 : 0 ≤ q) (q4 : q < 34) (hx : 0 ≤ x ∧ x ≤ 100) (hb : ∀ g : Int, 0 ≤ g → g < 4 → 0 ≤ s (39 + 4 * g) q ∧ s (39 + 4 * g) q ≤ 4) (hk : jHo P (k h' q (x + s 39 q + s 43 q + s 47 q + s 51 q) s)) : jHo P (jIt (fun _ _ _ _ _ => none) (bX10_countHidden_25 k) 1000 h' q x 0 s) := by
  have w := jrk_t
  refine gIt5 (fun a1 a2 a3 a4 t => a1 = h' ∧ a2 = q ∧ t = s ∧ 0 ≤ a4 ∧ a4 ≤ 4 ∧ a3 = x + (if 0 < a4 then s 39 q else 0) + (if 1 < a4 then s 43 q else 0) + (if 2 < a4 then s 47 q else 0) + (if 3 < a4 then s 51 q else 0)) (fun _ _ _ a4 => (4 - a4).toNat) ?_ 1000 h' q x 0 s ⟨rfl, rfl, rfl, by omega, by omega, by simp⟩ (by decide)
  rintro rec a1 a2 a3 a4 t ⟨rfl, rfl, rfl, i0, i4, hx3⟩ ih
  have c0 := hb 0 (by omega) (by omega)
  have c1 := hb 1 (by omega) (by omega)
  have c2 := hb 2 (by omega) (by omega)
  have c3 := hb 3 (by omega) (by omega)
  simp only [Int.mul_zero, Int.add_zero, Int.reduceMul, Int.reduceAdd] at c0 c1 c2 c3
  unfold bX10_countHidden_25
  refine gHo_if (fun hc => ?_) (fun hc => ?_)
  · have e : a4 = 4 := by omega
    subst e
    simp at hx3
    rw [hx3]; exact hk
  · obtain ⟨t0, t1, t2, t3, t4, t5, t6, t7, t8, t9⟩ := jh_t (h := a4) i0 (by omega)
    have cc := hb a4 i0 (by omega)
    refine gHo_gd ⟨i0, by omega⟩ (gHo_let ?_)
    rw [t0, t3]
    refine gHo_gd t1 (gHo_let (gHo_gd ⟨q0, by omega⟩ (gHo_let (gHo_l32 ?_ ?_ (gHo_l32 (by omega) (by omega) ?_)))))
    · split at hx3 <;> split at hx3 <;> split at hx3 <;> split at hx3 <;> omega
    · split at hx3 <;> split at hx3 <;> split at hx3 <;> split at hx3 <;> omega
    refine ih _ _ _ _ _ ⟨rfl, rfl, rfl, by omega, by omega, ?_⟩ (by omega)
    rcases (by omega : a4 = 0 ∨ a4 = 1 ∨ a4 = 2 ∨ a4 = 3) with rfl | rfl | rfl | rfl <;> simp at hx3 ⊢ <;> omega
/-- what a question to the class changes at most; what one to the reference does -/
def fC (s t : jMem) : Prop := ∀ x : Int, x ≠ 5 → ¬ (7 ≤ x ∧ x ≤ 20) → t x = s x
def fM (s t : jMem) : Prop := ∀ x y : Int, x < 66 → (x ≠ 53 ∨ y = 6 ∨ y = 10 ∨ y = 11 ∨ y = 12) → t x y = s x y
theorem fC_rf (s : jMem) : fC s s := fun _ _ _ => rfl
theorem fM_rf (s : jMem) : fM s s := fun _ _ _ _ => rfl
theorem fC_tr {s t u : jMem} (h : fC s t) (k : fC t u) : fC s u := fun x a b => (k x a b).trans (h x a b)
theorem fM_tr {s t u : jMem} (h : fM s t) (k : fM t u) : fM s u := fun x y a b => (k x y a b).trans (h x y a b)
theorem iT_eq {s t : jMem} (hI : iT s) (h : ∀ x : Int, x = 3 ∨ x = 4 ∨ (37 ≤ x ∧ x < 53) ∨ (54 ≤ x ∧ x ≤ 59) → t x = s x) : iT t := by
  have h3 := h 3 (by omega)
  have h4 := h 4 (by omega)
  have h54 := h 54 (by omega)
  have h55 := h 55 (by omega)
  have h56 := h 56 (by omega)
  have h57 := h 57 (by omega)
  have h58 := h 58 (by omega)
  have h59 := h 59 (by omega)
  have eH : ∀ g, vH t g = vH s g := fun g => by funext p; unfold vH; rw [h56]
  have eL : ∀ g, vL t g = vL s g := fun g => by funext p; unfold vL; rw [h57]
  obtain ⟨a, b, c⟩ := hI
  refine ⟨fun q q0 q4 => ?_, fun g g0 g4 => ?_, fun g g0 g4 => ?_⟩
  · rw [h3, h4, h54, h55, eH, eH, eH, eH, eL, eL, eL, eL]; exact a q q0 q4
  · have := b g g0 g4
    unfold iH at this ⊢
    rw [h (37 + 4 * g) (by omega), h (38 + 4 * g) (by omega), h (39 + 4 * g) (by omega), h58, eH, eL]
    exact this
  · have := c g g0 g4
    unfold iG at this ⊢
    rw [h (40 + 4 * g) (by omega), h58, h59, eL]
    exact this
theorem iT_C {s t : jMem} (hI : iT s) (h : fC s t) : iT t := iT_eq hI (fun x hx => h x (by omega) (by omega))
theorem iT_M {s t : jMem} (hI : iT s) (h : fM s t) : iT t := iT_eq hI (fun x hx => by funext y; exact h x y (by omega) (by omega))
/-- how many of a sort a hand hasn't seen -/
def vU (s : jMem) (h q : Int) : Int := 4 - vH s h q - s 55 q - vL s 0 q - vL s 1 q - vL s 2 q - vL s 3 q
theorem vU_bd {s : jMem} {h q : Int} (hI : iT s) (h0 : 0 ≤ h) (h4 : h < 4) (q0 : 0 ≤ q) (q4 : q < 34) : 0 ≤ vU s h q ∧ vU s h q ≤ 4 := by
  obtain ⟨hW, hH, -⟩ := hI
  obtain ⟨w1, w2, w3, w4, w5⟩ := hW q q0 q4
  have b0 := (hH 0 (by omega) (by omega)).1 q q0 q4
  have b1 := (hH 1 (by omega) (by omega)).1 q q0 q4
  have b2 := (hH 2 (by omega) (by omega)).1 q q0 q4
  have b3 := (hH 3 (by omega) (by omega)).1 q q0 q4
  unfold vU
  rcases (by omega : h = 0 ∨ h = 1 ∨ h = 2 ∨ h = 3) with rfl | rfl | rfl | rfl <;> omega
theorem zX10_countHidden {s : jMem} {h : Int} (hI : iT s) (h0 : 0 ≤ h) (h4 : h < 4) : jHo (fun v t => v = jSum (vU s h) 34 ∧ (∀ x : Int, x ≠ 5 → t x = s x) ∧ ∀ i : Int, 0 ≤ i → i < 34 → t 5 i = vU s h i) (fX10_countHidden (37 + 4 * h) s) := by
  obtain ⟨t0, t1, t2, t3, t4, t5, t6, t7, t8, t9⟩ := jh_t h0 h4
  have u := jik_t
  have ul := jln_t
  unfold fX10_countHidden
  refine gIt3 (fun a1 a2 t => a1 = 37 + 4 * h ∧ 0 ≤ a2 ∧ a2 ≤ 34 ∧ (∀ x : Int, x ≠ 5 → t x = s x) ∧ ∀ i : Int, 0 ≤ i → i < a2 → t 5 i = vU s h i) (fun _ a2 => (34 - a2).toNat) ?_ 1000 _ 0 s ⟨rfl, by omega, by omega, fun _ _ => rfl, fun i i0 i4 => by omega⟩ (by decide)
  rintro rec a1 q t ⟨rfl, q0, q34, fr, hv⟩ ih
  unfold bX10_countHidden_2
  refine gHo_if (fun hc => ?_) (fun hc => ?_)
  · have e : q = 34 := by omega
    subst e
    have bd : ∀ i : Nat, i < 34 → 0 ≤ t 5 i ∧ t 5 i ≤ 1000 := fun i hi => by
      have := vU_bd hI h0 h4 (q := i) (by omega) (by omega)
      rw [hv i (by omega) (by omega)]; omega
    rw [sX8_sum 5 34 t (by omega) (by omega) (by decide) bd, jBd_s]
    refine gHo_ret ⟨jSum_cg (fun i hi => hv i (by omega) (by omega)), fr, hv⟩
  · have q4 : q < 34 := by omega
    have f4 := fr 4 (by omega)
    have f38 := fr (38 + 4 * h) (by omega)
    obtain ⟨w1, w2, w3, w4, w5⟩ := hI.1 q q0 q4
    have bb : ∀ g : Int, 0 ≤ g → g < 4 → s (38 + 4 * g) q = vH s g q ∧ s (39 + 4 * g) q = vL s g q ∧ 0 ≤ vH s g q ∧ vH s g q ≤ 4 ∧ 0 ≤ vL s g q ∧ vL s g q ≤ 4 := fun g g0 g4 => (hI.2.1 g g0 g4).1 q q0 q4
    have bh := bb h h0 h4
    have bd := iT_bd hI h0 h4 q0 q4
    have b0 := bb 0 (by omega) (by omega)
    have b1 := bb 1 (by omega) (by omega)
    have b2 := bb 2 (by omega) (by omega)
    have b3 := bb 3 (by omega) (by omega)
    simp only [Int.mul_zero, Int.add_zero, Int.reduceMul, Int.reduceAdd] at b0 b1 b2 b3
    have vu : vU s h q = 4 - vH s h q - s 55 q - vL s 0 q - vL s 1 q - vL s 2 q - vL s 3 q := rfl
    refine gHo_gd t1 (gHo_let ?_)
    rw [t2]
    refine gHo_gd ⟨q0, by omega⟩ (gHo_let (gHo_gd ⟨q0, by omega⟩ (gHo_let ?_)))
    rw [f4, f38, w2, bh.1]
    refine gHo_l32 (by omega) (by omega) (zX10_cH25 q0 q4 (by omega) (fun g g0 g4 => ?_) ?_)
    · rw [fr _ (by omega), (bb g g0 g4).2.1]; exact (bb g g0 g4).2.2.2.2
    rw [fr 39 (by omega), fr 43 (by omega), fr 47 (by omega), fr 51 (by omega), b0.2.1, b1.2.1, b2.2.1, b3.2.1]
    unfold bX10_countHidden_52
    refine gHo_l32 (by omega) (by omega) (gHo_gd ⟨q0, by omega⟩ (gHo_nm fun t' ht' => gHo_l32 (by omega) (by omega) (ih _ _ _ ⟨rfl, by omega, by omega, fun x hx => ?_, fun i i0 i4 => ?_⟩ (by omega))))
    · rw [ht', jU_row hx]; exact fr x hx
    · rw [ht', jU_at]
      by_cases e : i = q
      · subst e; rw [if_pos rfl]; omega
      · rw [if_neg e]; exact hv i i0 (by omega)
theorem zX11_layUnseen {s : jMem} {h : Int} (hI : iT s) (h0 : 0 ≤ h) (h4 : h < 4) : jHo (fun v t => v = jSum (vU s h) 34 ∧ (∀ x : Int, x ≠ 76 → t x = s x) ∧ ∀ i : Int, 0 ≤ i → i < 34 → t 76 i = vU s h i) (fX11_layUnseen h s) := by
  have u := jik_m
  unfold fX11_layUnseen
  refine gIt4 (fun a1 a2 a3 t => a1 = h ∧ 0 ≤ a3 ∧ a3 ≤ 34 ∧ (∀ n : Nat, n = a3.toNat → a2 = jSum (vU s h) n) ∧ (∀ x : Int, x ≠ 76 → t x = s x) ∧ ∀ i : Int, 0 ≤ i → i < a3 → t 76 i = vU s h i) (fun _ _ a3 => (34 - a3).toNat) ?_ 1000 _ 0 0 s ⟨rfl, by omega, by omega, fun n hn => by subst hn; rfl, fun _ _ => rfl, fun i i0 i4 => by omega⟩ (by decide)
  rintro rec a1 acc q t ⟨rfl, q0, q34, ha, fr, hv⟩ ih
  unfold bX11_layUnseen_4
  refine gHo_if (fun hc => ?_) (fun hc => ?_)
  · have e : q = 34 := by omega
    subst e
    exact gHo_ret ⟨ha 34 (by decide), fr, hv⟩
  · have q4 : q < 34 := by omega
    have f55 := fr 55 (by omega)
    have f56 := fr 56 (by omega)
    have f57 := fr 57 (by omega)
    obtain ⟨w1, w2, w3, w4, w5⟩ := hI.1 q q0 q4
    have bb : ∀ g : Int, 0 ≤ g → g < 4 → s (38 + 4 * g) q = vH s g q ∧ s (39 + 4 * g) q = vL s g q ∧ 0 ≤ vH s g q ∧ vH s g q ≤ 4 ∧ 0 ≤ vL s g q ∧ vL s g q ≤ 4 := fun g g0 g4 => (hI.2.1 g g0 g4).1 q q0 q4
    have bh := bb a1 h0 h4
    have bd := iT_bd hI h0 h4 q0 q4
    have b0 := bb 0 (by omega) (by omega)
    have b1 := bb 1 (by omega) (by omega)
    have b2 := bb 2 (by omega) (by omega)
    have b3 := bb 3 (by omega) (by omega)
    have bu := vU_bd hI h0 h4 q0 q4
    have vu : vU s a1 q = 4 - vH s a1 q - s 55 q - vL s 0 q - vL s 1 q - vL s 2 q - vL s 3 q := rfl
    have eh : s 56 (34 * a1 + q) = vH s a1 q := rfl
    have el : ∀ g, s 57 (34 * g + q) = vL s g q := fun g => rfl
    have bs : 0 ≤ acc ∧ acc ≤ 34000 := by
      rw [ha q.toNat rfl]
      have := jSum_bd (f := vU s a1) (n := q.toNat) (fun i hi => by have := vU_bd hI h0 h4 (q := i) (by omega) (by omega); omega)
      omega
    refine gHo_l32 (by omega) (by omega) (gHo_l32 (by omega) (by omega) (gHo_gd ⟨by omega, by omega⟩ (gHo_let ?_)))
    rw [f56, eh]
    refine gHo_l32 (by omega) (by omega) (gHo_gd ⟨by omega, by omega⟩ (gHo_let ?_))
    rw [f55]
    refine gHo_l32 (by omega) (by omega) (gHo_gd ⟨by omega, by omega⟩ (gHo_nm fun t' ht' => ?_))
    refine gIt5 (fun b1 b2 b3 b4 z => b1 = a1 ∧ b2 = acc ∧ b3 = q ∧ 0 ≤ b4 ∧ b4 ≤ 4 ∧ (∀ x : Int, x ≠ 76 → z x = s x) ∧ (∀ i : Int, 0 ≤ i → i < q → z 76 i = vU s a1 i) ∧ z 76 q = 4 - vH s a1 q - s 55 q - (if 0 < b4 then vL s 0 q else 0) - (if 1 < b4 then vL s 1 q else 0) - (if 2 < b4 then vL s 2 q else 0) - (if 3 < b4 then vL s 3 q else 0)) (fun _ _ _ b4 => (4 - b4).toNat) ?_ 1000 a1 acc q 0 t' ⟨rfl, rfl, rfl, by omega, by omega, fun x hx => ?_, fun i i0 i4 => ?_, ?_⟩ (by decide)
    · rintro rec2 a1' acc' q' b4 z ⟨rfl, rfl, rfl, i0, i4, frz, hvz, hz⟩ ih2
      unfold bX11_layUnseen_39
      refine gHo_if (fun hc => ?_) (fun hc => ?_)
      · have e : b4 = 4 := by omega
        subst e
        simp at hz
        unfold bX11_layUnseen_72
        refine gHo_gd ⟨q0, by omega⟩ (gHo_let ?_)
        refine gHo_l32 (by omega) (by omega) (gHo_l32 (by omega) (by omega) (ih _ _ _ _ ⟨rfl, by omega, by omega, fun n hn => ?_, frz, fun i j0 j4 => ?_⟩ (by omega)))
        · have e1 : n = q'.toNat + 1 := by omega
          have e2 : ((q'.toNat : Nat) : Int) = q' := by omega
          rw [e1]
          show acc' + z 76 q' = jSum (vU s a1') q'.toNat + vU s a1' (q'.toNat : Int)
          rw [← ha q'.toNat rfl, e2, hz, vu]
        · by_cases e : i = q'
          · subst e; rw [hz, vu]
          · exact hvz i j0 (by omega)
      · have f57z := frz 57 (by omega)
        have bg := bb b4 i0 (by omega)
        refine gHo_gd ⟨q0, by omega⟩ (gHo_let (gHo_l32 (by omega) (by omega) (gHo_l32 (by omega) (by omega) (gHo_gd ⟨by omega, by omega⟩ (gHo_let ?_)))))
        rw [f57z, el]
        have hzb : -100 ≤ z 76 q' ∧ z 76 q' ≤ 100 := by
          split at hz <;> split at hz <;> split at hz <;> split at hz <;> omega
        refine gHo_l32 (by omega) (by omega) (gHo_gd ⟨q0, by omega⟩ (gHo_nm fun z' hz' => gHo_l32 (by omega) (by omega) (ih2 _ _ _ _ _ ⟨rfl, rfl, rfl, by omega, by omega, fun x hx => ?_, fun i j0 j4 => ?_, ?_⟩ (by omega))))
        · rw [hz', jU_row hx]; exact frz x hx
        · rw [hz', jU_at, if_neg (by omega)]; exact hvz i j0 j4
        · rw [hz', jU_at, if_pos rfl, hz]
          rcases (by omega : b4 = 0 ∨ b4 = 1 ∨ b4 = 2 ∨ b4 = 3) with rfl | rfl | rfl | rfl <;> simp
    · rw [ht', jU_row hx]; exact fr x hx
    · rw [ht', jU_at, if_neg (by omega)]; exact hv i i0 i4
    · rw [ht', jU_at, if_pos rfl]; simp
theorem op_unseen {h : Int} {s : jMem} (hI : iT s) : ∃ v s1 s2, fX10_unseen h s = some (v, s1) ∧ fX11_unseen h s1 = some (v, s2) ∧ (∀ x : Int, x ≠ 5 → s1 x = s x) ∧ fM s1 s2 := by
  have w := jrk_t
  by_cases hh : 0 ≤ h ∧ h < 4
  · obtain ⟨h0, h4⟩ := hh
    obtain ⟨t0, t1, t2, t3, t4, t5, t6, t7, t8, t9⟩ := jh_t h0 h4
    obtain ⟨v, s1, e1, rfl, fr, -⟩ := zX10_countHidden hI h0 h4
    have fc : fC s s1 := fun x hx _ => fr x hx
    obtain ⟨v2, s2, e2, rfl, fr2, -⟩ := zX11_layUnseen (iT_C hI fc) h0 h4
    have eU : vU s1 h = vU s h := by
      funext q
      unfold vU vH vL
      rw [fr 55 (by omega), fr 56 (by omega), fr 57 (by omega)]
    refine ⟨jSum (vU s h) 34, s1, s2, ?_, ?_, fr, fun x y hx _ => by rw [fr2 x (by omega)]⟩
    · rw [fX10_unseen, sX10_isHand, jBd_s, jb_1 ⟨h0, h4⟩, if_neg (by decide), jGd_e ⟨h0, by omega⟩, jLet_e, t0, e1, jBd_s]; rfl
    · rw [fX11_unseen, sX11_isHand, jBd_s, jb_1 ⟨h0, by omega⟩, if_neg (by decide), e2, jBd_s, eU]; rfl
  · refine ⟨-1, s, s, ?_, ?_, fun _ _ => rfl, fM_rf s⟩
    · rw [fX10_unseen, sX10_isHand, jBd_s, jb_0 hh, if_pos rfl]; rfl
    · rw [fX11_unseen, sX11_isHand, jBd_s, jb_0 (by omega), if_pos rfl]; rfl
end

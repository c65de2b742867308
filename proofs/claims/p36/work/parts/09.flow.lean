/-! ===== the method as a function: what it answers and what memory it leaves ===== -/
section
abbrev jO : Type := Option (Int × jMem)
def jHo (Rr : Int → jMem → Prop) (x : jO) : Prop := ∃ (v : Int) (σ : jMem), x = some (v, σ) ∧ Rr v σ
def jLet {α : Type} (v : α) (k : α → jO) : jO := k v
def jGd (c : Prop) [Decidable c] (k : jO) : jO := if c then k else none
def jBd (x : jO) (k : Int → jMem → jO) : jO := match x with
  | some q => k q.1 q.2
  | none => none
def jRet (v : Int) (σ : jMem) : jO := some (v, σ)
def jFn (f : List Int → jMem → jO) : jF := fun vs σ P => jHo P (f vs σ)
variable {E : jEnv} {M : jM} {d : Nat} {Rr : Int → jMem → Prop} {Γ : List Nat} {pc : Nat} {ls : List Int} {st : List Value} {σ : jMem}
theorem jHo_as {c : Prop} [Decidable c] {x : jO} (h : jHo Rr (jGd c x)) : c ∧ jHo Rr x := by
  by_cases hc : c
  · rw [jGd, if_pos hc] at h; exact ⟨hc, h⟩
  · rw [jGd, if_neg hc] at h; obtain ⟨v, s, h1, -⟩ := h; cases h1
theorem jHo_bd {x : jO} {K : Int → jMem → jO} (h : jHo Rr (jBd x K)) : jHo (fun v s => jHo Rr (K v s)) x := by
  match x, h with
  | some (v, s), h => exact ⟨v, s, rfl, h⟩
  | none, h => obtain ⟨v, s, h1, -⟩ := h; cases h1
theorem jHo_ret {v : Int} (h : jHo Rr (jRet v σ)) : Rr v σ := by
  obtain ⟨v', s', h1, h2⟩ := h
  cases h1
  exact h2
theorem jHo_if {c : Prop} [Decidable c] {A B : jO} {G : Prop} (h : jHo Rr (if c then A else B)) (kt : c → jHo Rr A → G) (kf : ¬ c → jHo Rr B → G) : G := by
  by_cases hc : c
  · rw [if_pos hc] at h; exact kt hc h
  · rw [if_neg hc] at h; exact kf hc h
theorem jHo_none {G : Prop} (h : jHo Rr none) : G := by
  obtain ⟨v', s', h1, h2⟩ := h
  cases h1
theorem jRc {n : Int} (h : (decide (-2147483648 ≤ n) && decide (n < 2147483648)) = true) : jR 1 n := by
  simp only [Bool.and_eq_true, decide_eq_true_eq] at h
  exact h
theorem jRc2 {n : Int} (h : (decide (-9223372036854775808 ≤ n) && decide (n < 9223372036854775808)) = true) : jR 2 n := by
  simp only [Bool.and_eq_true, decide_eq_true_eq] at h
  exact h
theorem jRc3 {n : Int} (h : (decide (0 ≤ n) && decide (n < 53)) = true) : jR 3 n := by
  simp only [Bool.and_eq_true, decide_eq_true_eq] at h
  exact h
theorem jRc5 {n : Int} (h : (decide (0 ≤ n) && decide (n ≤ 1)) = true) : jR 5 n := by
  simp only [Bool.and_eq_true, decide_eq_true_eq] at h
  exact h
theorem jR51 {n : Int} (h : jR 5 n) : jR 1 n := ⟨by have := h.1; omega, by have := h.2; omega⟩
theorem jR12 {n : Int} (h : jR 1 n) : jR 2 n := ⟨by have := h.1; omega, by have := h.2; omega⟩
theorem jRa0 : jRa [] [] := trivial
theorem jRaC {κ : Nat} {v : Int} {κs : List Nat} {vs : List Int} (h : jR κ v) (t : jRa κs vs) : jRa (κ :: κs) (v :: vs) := ⟨h, t⟩
def jMask : List Nat → List Int → List Int
  | κ :: κs, v :: vs => (bif κ == 0 then 0 else v) :: jMask κs vs
  | [], _ => []
  | _ :: _, [] => []
theorem jMask_get : ∀ (Γ : List Nat) (ls : List Int) (i : Nat) (κ : Nat), Γ[i]? = some κ → κ ≠ 0 → (jMask Γ ls).getD i 0 = ls.getD i 0
  | [], _, i, κ, h, _ => by simp at h
  | _ :: _, [], i, κ, h, _ => by simp [jMask]
  | g :: Γ, v :: ls, 0, κ, h, hk => by
    cases h
    have e : (g == 0) = false := by simp [hk]
    simp [jMask, e]
  | g :: Γ, v :: ls, i + 1, κ, h, hk => by
    have := jMask_get Γ ls i κ (by simpa using h) hk
    simpa [jMask] using this
theorem jMask_len : ∀ (Γ : List Nat) (ls : List Int), ls.length = Γ.length → (jMask Γ ls).length = Γ.length
  | [], [], _ => rfl
  | [], _ :: _, h => by simp at h
  | _ :: _, [], h => by simp at h
  | _ :: Γ, _ :: ls, h => by
    have := jMask_len Γ ls (by simpa using h)
    simpa [jMask] using this
/-- to the state that a loop's head, or a join, speaks of -/
theorem jg_norm (Γ' : List Nat) (ls' : List Int) (h1 : jle Γ' Γ = true) (h2 : jMask Γ' ls = ls') (k : jGo E M d Rr Γ' pc ls' st σ) : jGo E M d Rr Γ pc ls st σ := by
  intro A0 H0 p l e R s m args below meth c cells slots Q C H locs sl hP hR hS hL
  have w := jLv_weak hL h1
  refine k A0 H0 p l e R s m args below meth c cells slots Q C H locs sl hP hR hS ⟨?_, w.2.1, w.2.2.1, w.2.2.2.1, fun i κ hi hκ => ?_⟩
  · rw [← h2, jMask_len Γ' ls (by rw [w.1, w.2.1]), w.2.1]
  · have := w.2.2.2.2 i κ hi hκ
    rw [← h2, jMask_get Γ' ls i κ hi hκ]
    exact this
/-- the same place by another number, the same stack by other words -/
theorem jg_at (pc' : Nat) (ls' : List Int) (st' : List Value) (h : pc = pc') (hl : ls = ls') (hs : st = st') (k : jGo E M d Rr Γ pc' ls' st' σ) : jGo E M d Rr Γ pc ls st σ := by
  subst h hl hs; exact k
theorem ji_iconst {n : Int} (hd : decode M.2.1 pc = .ok (.iconst n, 1)) (k : jGo E M d Rr Γ (pc + 1) ls (jV E 1 n :: st) σ) : jGo E M d Rr Γ pc ls st σ := jg_iconst hd k
theorem ji_iload_n {i : Fin 4} {n : Nat} (v : Int) (hi : (i : Nat) = n) (hΓ : Γ[n]? = some 1) (hv : ls.getD n 0 = v) (hd : decode M.2.1 pc = .ok (.iload_n i, 1)) (k : jR 1 v → jGo E M d Rr Γ (pc + 1) ls (jV E 1 v :: st) σ) : jGo E M d Rr Γ pc ls st σ := by
  subst hv; exact jg_iload_n hi hΓ hd k
theorem ji_iload {n : Nat} (v : Int) (hΓ : Γ[n]? = some 1) (hv : ls.getD n 0 = v) (hd : decode M.2.1 pc = .ok (.iload n, 2)) (k : jR 1 v → jGo E M d Rr Γ (pc + 2) ls (jV E 1 v :: st) σ) : jGo E M d Rr Γ pc ls st σ := by
  subst hv; exact jg_iload hΓ hd k
theorem ji_lload_n {i : Fin 4} {n : Nat} (v : Int) (hi : (i : Nat) = n) (hΓ : Γ[n]? = some 2) (hv : ls.getD n 0 = v) (hd : decode M.2.1 pc = .ok (.lload_n i, 1)) (k : jR 2 v → jGo E M d Rr Γ (pc + 1) ls (jV E 2 v :: st) σ) : jGo E M d Rr Γ pc ls st σ := by
  subst hv; exact jg_lload_n hi hΓ hd k
theorem ji_lload {n : Nat} (v : Int) (hΓ : Γ[n]? = some 2) (hv : ls.getD n 0 = v) (hd : decode M.2.1 pc = .ok (.lload n, 2)) (k : jR 2 v → jGo E M d Rr Γ (pc + 2) ls (jV E 2 v :: st) σ) : jGo E M d Rr Γ pc ls st σ := by
  subst hv; exact jg_lload hΓ hd k
theorem ji_aload_n {i : Fin 4} {n : Nat} (v : Int) (hi : (i : Nat) = n) (hΓ : Γ[n]? = some 3) (hv : ls.getD n 0 = v) (hd : decode M.2.1 pc = .ok (.aload_n i, 1)) (k : jR 3 v → jGo E M d Rr Γ (pc + 1) ls (jV E 3 v :: st) σ) : jGo E M d Rr Γ pc ls st σ := by
  subst hv; exact jg_aload_n hi hΓ hd k
theorem ji_aload {n : Nat} (v : Int) (hΓ : Γ[n]? = some 3) (hv : ls.getD n 0 = v) (hd : decode M.2.1 pc = .ok (.aload n, 2)) (k : jR 3 v → jGo E M d Rr Γ (pc + 2) ls (jV E 3 v :: st) σ) : jGo E M d Rr Γ pc ls st σ := by
  subst hv; exact jg_aload hΓ hd k
theorem ji_istore_n {i : Fin 4} {n : Nat} {v : Int} (Γ1 : List Nat) (ls1 : List Int) (hi : (i : Nat) = n) (hv : jR 1 v) (hn : n < M.2.2.1) (hst : jst Γ n 1 Γ1 = true) (hls : ls.set n v = ls1) (hd : decode M.2.1 pc = .ok (.istore_n i, 1)) (k : jGo E M d Rr Γ1 (pc + 1) ls1 st σ) : jGo E M d Rr Γ pc ls (jV E 1 v :: st) σ := by
  subst hls; exact jg_istore_n hi hv hn hst hd k
theorem ji_istore {n : Nat} {v : Int} (Γ1 : List Nat) (ls1 : List Int) (hv : jR 1 v) (hn : n < M.2.2.1) (hst : jst Γ n 1 Γ1 = true) (hls : ls.set n v = ls1) (hd : decode M.2.1 pc = .ok (.istore n, 2)) (k : jGo E M d Rr Γ1 (pc + 2) ls1 st σ) : jGo E M d Rr Γ pc ls (jV E 1 v :: st) σ := by
  subst hls; exact jg_istore hv hn hst hd k
theorem ji_lstore_n {i : Fin 4} {n : Nat} {v : Int} (Γ1 : List Nat) (ls1 : List Int) (hi : (i : Nat) = n) (hv : jR 2 v) (hn : n + 1 < M.2.2.1) (hst : jst Γ n 2 Γ1 = true) (hls : ls.set n v = ls1) (hd : decode M.2.1 pc = .ok (.lstore_n i, 1)) (k : jGo E M d Rr Γ1 (pc + 1) ls1 st σ) : jGo E M d Rr Γ pc ls (jV E 2 v :: st) σ := by
  subst hls; exact jg_lstore_n hi hv hn hst hd k
theorem ji_lstore {n : Nat} {v : Int} (Γ1 : List Nat) (ls1 : List Int) (hv : jR 2 v) (hn : n + 1 < M.2.2.1) (hst : jst Γ n 2 Γ1 = true) (hls : ls.set n v = ls1) (hd : decode M.2.1 pc = .ok (.lstore n, 2)) (k : jGo E M d Rr Γ1 (pc + 2) ls1 st σ) : jGo E M d Rr Γ pc ls (jV E 2 v :: st) σ := by
  subst hls; exact jg_lstore hv hn hst hd k
theorem ji_astore_n {i : Fin 4} {n : Nat} {v : Int} (Γ1 : List Nat) (ls1 : List Int) (hi : (i : Nat) = n) (hv : jR 3 v) (hn : n < M.2.2.1) (hst : jst Γ n 3 Γ1 = true) (hls : ls.set n v = ls1) (hd : decode M.2.1 pc = .ok (.astore_n i, 1)) (k : jGo E M d Rr Γ1 (pc + 1) ls1 st σ) : jGo E M d Rr Γ pc ls (jV E 3 v :: st) σ := by
  subst hls; exact jg_astore_n hi hv hn hst hd k
theorem ji_astore {n : Nat} {v : Int} (Γ1 : List Nat) (ls1 : List Int) (hv : jR 3 v) (hn : n < M.2.2.1) (hst : jst Γ n 3 Γ1 = true) (hls : ls.set n v = ls1) (hd : decode M.2.1 pc = .ok (.astore n, 2)) (k : jGo E M d Rr Γ1 (pc + 2) ls1 st σ) : jGo E M d Rr Γ pc ls (jV E 3 v :: st) σ := by
  subst hls; exact jg_astore hv hn hst hd k
theorem ji_iinc {n : Nat} {b : Int} {K : Int → jO} (v : Int) (ls1 : Int → List Int) (hΓ : Γ[n]? = some 1) (hst : jst Γ n 1 Γ = true) (hv : ls.getD n 0 = v) (hls : ∀ w, ls.set n w = ls1 w) (hF : jHo Rr (jLet (j32 (v + b)) K)) (hd : decode M.2.1 pc = .ok (.iinc n b, 3)) (k : ∀ w, jR 1 w → jHo Rr (K w) → jGo E M d Rr Γ (pc + 3) (ls1 w) st σ) : jGo E M d Rr Γ pc ls st σ := by
  subst hv
  refine jg_iinc hΓ hst hd ?_
  rw [hls]
  exact k _ ⟨j32_ge _, j32_lt _⟩ hF
theorem ji_iadd {x y : Int} {K : Int → jO} (hF : jHo Rr (jLet (j32 (x + y)) K)) (hd : decode M.2.1 pc = .ok (.iadd, 1)) (k : ∀ w, jR 1 w → jHo Rr (K w) → jGo E M d Rr Γ (pc + 1) ls (jV E 1 w :: st) σ) : jGo E M d Rr Γ pc ls (jV E 1 y :: jV E 1 x :: st) σ := jg_iadd hd (k _ ⟨j32_ge _, j32_lt _⟩ hF)
theorem ji_isub {x y : Int} {K : Int → jO} (hF : jHo Rr (jLet (j32 (x - y)) K)) (hd : decode M.2.1 pc = .ok (.isub, 1)) (k : ∀ w, jR 1 w → jHo Rr (K w) → jGo E M d Rr Γ (pc + 1) ls (jV E 1 w :: st) σ) : jGo E M d Rr Γ pc ls (jV E 1 y :: jV E 1 x :: st) σ := jg_isub hd (k _ ⟨j32_ge _, j32_lt _⟩ hF)
theorem ji_imul {x y : Int} {K : Int → jO} (hF : jHo Rr (jLet (j32 (x * y)) K)) (hd : decode M.2.1 pc = .ok (.imul, 1)) (k : ∀ w, jR 1 w → jHo Rr (K w) → jGo E M d Rr Γ (pc + 1) ls (jV E 1 w :: st) σ) : jGo E M d Rr Γ pc ls (jV E 1 y :: jV E 1 x :: st) σ := jg_imul hd (k _ ⟨j32_ge _, j32_lt _⟩ hF)
theorem ji_ladd {x y : Int} {K : Int → jO} (hF : jHo Rr (jLet (j64 (x + y)) K)) (hd : decode M.2.1 pc = .ok (.ladd, 1)) (k : ∀ w, jR 2 w → jHo Rr (K w) → jGo E M d Rr Γ (pc + 1) ls (jV E 2 w :: st) σ) : jGo E M d Rr Γ pc ls (jV E 2 y :: jV E 2 x :: st) σ := jg_ladd hd (k _ ⟨j64_ge _, j64_lt _⟩ hF)
theorem ji_lsub {x y : Int} {K : Int → jO} (hF : jHo Rr (jLet (j64 (x - y)) K)) (hd : decode M.2.1 pc = .ok (.lsub, 1)) (k : ∀ w, jR 2 w → jHo Rr (K w) → jGo E M d Rr Γ (pc + 1) ls (jV E 2 w :: st) σ) : jGo E M d Rr Γ pc ls (jV E 2 y :: jV E 2 x :: st) σ := jg_lsub hd (k _ ⟨j64_ge _, j64_lt _⟩ hF)
theorem ji_lmul {x y : Int} {K : Int → jO} (hF : jHo Rr (jLet (j64 (x * y)) K)) (hd : decode M.2.1 pc = .ok (.lmul, 1)) (k : ∀ w, jR 2 w → jHo Rr (K w) → jGo E M d Rr Γ (pc + 1) ls (jV E 2 w :: st) σ) : jGo E M d Rr Γ pc ls (jV E 2 y :: jV E 2 x :: st) σ := jg_lmul hd (k _ ⟨j64_ge _, j64_lt _⟩ hF)
theorem ji_iand {x y : Int} {K : Int → jO} (hF : jHo Rr (jLet (jand x y) K)) (hd : decode M.2.1 pc = .ok (.iand, 1)) (k : ∀ w, jR 1 w → jHo Rr (K w) → jGo E M d Rr Γ (pc + 1) ls (jV E 1 w :: st) σ) : jGo E M d Rr Γ pc ls (jV E 1 y :: jV E 1 x :: st) σ := jg_iand hd (k _ (jR32 _) hF)
theorem ji_ior {x y : Int} {K : Int → jO} (hF : jHo Rr (jLet (jor x y) K)) (hd : decode M.2.1 pc = .ok (.ior, 1)) (k : ∀ w, jR 1 w → jHo Rr (K w) → jGo E M d Rr Γ (pc + 1) ls (jV E 1 w :: st) σ) : jGo E M d Rr Γ pc ls (jV E 1 y :: jV E 1 x :: st) σ := jg_ior hd (k _ (jR32 _) hF)
theorem ji_ishl {x y : Int} {K : Int → jO} (hF : jHo Rr (jLet (jshl x y) K)) (hd : decode M.2.1 pc = .ok (.ishl, 1)) (k : ∀ w, jR 1 w → jHo Rr (K w) → jGo E M d Rr Γ (pc + 1) ls (jV E 1 w :: st) σ) : jGo E M d Rr Γ pc ls (jV E 1 y :: jV E 1 x :: st) σ := jg_ishl hd (k _ (jR32 _) hF)
theorem ji_ishr {x y : Int} {K : Int → jO} (hF : jHo Rr (jLet (jshr x y) K)) (hd : decode M.2.1 pc = .ok (.ishr, 1)) (k : ∀ w, jR 1 w → jHo Rr (K w) → jGo E M d Rr Γ (pc + 1) ls (jV E 1 w :: st) σ) : jGo E M d Rr Γ pc ls (jV E 1 y :: jV E 1 x :: st) σ := jg_ishr hd (k _ (jR32 _) hF)
theorem ji_land {x y : Int} {K : Int → jO} (hF : jHo Rr (jLet (jandl x y) K)) (hd : decode M.2.1 pc = .ok (.land, 1)) (k : ∀ w, jR 2 w → jHo Rr (K w) → jGo E M d Rr Γ (pc + 1) ls (jV E 2 w :: st) σ) : jGo E M d Rr Γ pc ls (jV E 2 y :: jV E 2 x :: st) σ := jg_land hd (k _ (jR64 _) hF)
theorem ji_lor {x y : Int} {K : Int → jO} (hF : jHo Rr (jLet (jorl x y) K)) (hd : decode M.2.1 pc = .ok (.lor, 1)) (k : ∀ w, jR 2 w → jHo Rr (K w) → jGo E M d Rr Γ (pc + 1) ls (jV E 2 w :: st) σ) : jGo E M d Rr Γ pc ls (jV E 2 y :: jV E 2 x :: st) σ := jg_lor hd (k _ (jR64 _) hF)
theorem ji_lshl {x y : Int} {K : Int → jO} (hF : jHo Rr (jLet (jshll x y) K)) (hd : decode M.2.1 pc = .ok (.lshl, 1)) (k : ∀ w, jR 2 w → jHo Rr (K w) → jGo E M d Rr Γ (pc + 1) ls (jV E 2 w :: st) σ) : jGo E M d Rr Γ pc ls (jV E 1 y :: jV E 2 x :: st) σ := jg_lshl hd (k _ (jR64 _) hF)
theorem ji_lshr {x y : Int} {K : Int → jO} (hF : jHo Rr (jLet (jshrl x y) K)) (hd : decode M.2.1 pc = .ok (.lshr, 1)) (k : ∀ w, jR 2 w → jHo Rr (K w) → jGo E M d Rr Γ (pc + 1) ls (jV E 2 w :: st) σ) : jGo E M d Rr Γ pc ls (jV E 1 y :: jV E 2 x :: st) σ := jg_lshr hd (k _ (jR64 _) hF)
theorem ji_lushr {x y : Int} {K : Int → jO} (hF : jHo Rr (jLet (jushrl x y) K)) (hd : decode M.2.1 pc = .ok (.lushr, 1)) (k : ∀ w, jR 2 w → jHo Rr (K w) → jGo E M d Rr Γ (pc + 1) ls (jV E 2 w :: st) σ) : jGo E M d Rr Γ pc ls (jV E 1 y :: jV E 2 x :: st) σ := jg_lushr hd (k _ (jR64 _) hF)
theorem ji_i2b {x : Int} {K : Int → jO} (hF : jHo Rr (jLet (ji2b x) K)) (hd : decode M.2.1 pc = .ok (.i2b, 1)) (k : ∀ w, jR 1 w → jHo Rr (K w) → jGo E M d Rr Γ (pc + 1) ls (jV E 1 w :: st) σ) : jGo E M d Rr Γ pc ls (jV E 1 x :: st) σ := jg_i2b hd (k _ (jR32 _) hF)
theorem ji_i2s {x : Int} {K : Int → jO} (hF : jHo Rr (jLet (ji2s x) K)) (hd : decode M.2.1 pc = .ok (.i2s, 1)) (k : ∀ w, jR 1 w → jHo Rr (K w) → jGo E M d Rr Γ (pc + 1) ls (jV E 1 w :: st) σ) : jGo E M d Rr Γ pc ls (jV E 1 x :: st) σ := jg_i2s hd (k _ (jR32 _) hF)
theorem ji_i2c {x : Int} {K : Int → jO} (hF : jHo Rr (jLet (ji2c x) K)) (hd : decode M.2.1 pc = .ok (.i2c, 1)) (k : ∀ w, jR 1 w → jHo Rr (K w) → jGo E M d Rr Γ (pc + 1) ls (jV E 1 w :: st) σ) : jGo E M d Rr Γ pc ls (jV E 1 x :: st) σ := jg_i2c hd (k _ (jR32 _) hF)
theorem ji_l2i {x : Int} {K : Int → jO} (hF : jHo Rr (jLet (j32 x) K)) (hd : decode M.2.1 pc = .ok (.l2i, 1)) (k : ∀ w, jR 1 w → jHo Rr (K w) → jGo E M d Rr Γ (pc + 1) ls (jV E 1 w :: st) σ) : jGo E M d Rr Γ pc ls (jV E 2 x :: st) σ := jg_l2i hd (k _ ⟨j32_ge _, j32_lt _⟩ hF)
theorem jcmpR (x y : Int) : jR 1 (jcmp x y) := by unfold jcmp; split; exact ⟨by decide, by decide⟩; split <;> exact ⟨by decide, by decide⟩
theorem ji_lcmp {x y : Int} (hx : jR 2 x) (hy : jR 2 y) {K : Int → jO} (hF : jHo Rr (jLet (jcmp x y) K)) (hd : decode M.2.1 pc = .ok (.lcmp, 1)) (k : ∀ w, jR 1 w → jHo Rr (K w) → jGo E M d Rr Γ (pc + 1) ls (jV E 1 w :: st) σ) : jGo E M d Rr Γ pc ls (jV E 2 y :: jV E 2 x :: st) σ := jg_lcmp hx hy hd (k _ (jcmpR _ _) hF)
theorem ji_idiv {x y : Int} {K : Int → jO} (hy : jR 1 y) (hF : jHo Rr (jGd (¬ y = 0) (jLet (jdiv x y) K))) (hd : decode M.2.1 pc = .ok (.idiv, 1)) (k : ∀ w, jR 1 w → jHo Rr (K w) → jGo E M d Rr Γ (pc + 1) ls (jV E 1 w :: st) σ) : jGo E M d Rr Γ pc ls (jV E 1 y :: jV E 1 x :: st) σ := jg_idiv hy (jHo_as hF).1 hd (k _ (jR32 _) (jHo_as hF).2)
theorem ji_irem {x y : Int} {K : Int → jO} (hy : jR 1 y) (hF : jHo Rr (jGd (¬ y = 0) (jLet (jrem x y) K))) (hd : decode M.2.1 pc = .ok (.irem, 1)) (k : ∀ w, jR 1 w → jHo Rr (K w) → jGo E M d Rr Γ (pc + 1) ls (jV E 1 w :: st) σ) : jGo E M d Rr Γ pc ls (jV E 1 y :: jV E 1 x :: st) σ := jg_irem hy (jHo_as hF).1 hd (k _ (jR32 _) (jHo_as hF).2)
theorem ji_ldiv {x y : Int} {K : Int → jO} (hy : jR 2 y) (hF : jHo Rr (jGd (¬ y = 0) (jLet (jdivl x y) K))) (hd : decode M.2.1 pc = .ok (.ldiv, 1)) (k : ∀ w, jR 2 w → jHo Rr (K w) → jGo E M d Rr Γ (pc + 1) ls (jV E 2 w :: st) σ) : jGo E M d Rr Γ pc ls (jV E 2 y :: jV E 2 x :: st) σ := jg_ldiv hy (jHo_as hF).1 hd (k _ (jR64 _) (jHo_as hF).2)
theorem ji_lrem {x y : Int} {K : Int → jO} (hy : jR 2 y) (hF : jHo Rr (jGd (¬ y = 0) (jLet (jreml x y) K))) (hd : decode M.2.1 pc = .ok (.lrem, 1)) (k : ∀ w, jR 2 w → jHo Rr (K w) → jGo E M d Rr Γ (pc + 1) ls (jV E 2 w :: st) σ) : jGo E M d Rr Γ pc ls (jV E 2 y :: jV E 2 x :: st) σ := jg_lrem hy (jHo_as hF).1 hd (k _ (jR64 _) (jHo_as hF).2)
theorem ji_icmp_eq (tgt : Nat) {x y off : Int} {A B : jO} (hx : jR 1 x) (hy : jR 1 y) (hF : jHo Rr (if x = y then A else B)) (hd : decode M.2.1 pc = .ok (.if_icmp .eq off, 3)) (ht : (pc : Int) + off = (tgt : Int)) (kt : jHo Rr A → jGo E M d Rr Γ tgt ls st σ) (kf : jHo Rr B → jGo E M d Rr Γ (pc + 3) ls st σ) : jGo E M d Rr Γ pc ls (jV E 1 y :: jV E 1 x :: st) σ := jg_icmp_eq tgt hx hy hd ht (fun z => kt (by rwa [if_pos z] at hF)) (fun z => kf (by rwa [if_neg z] at hF))
theorem ji_icmp_lt (tgt : Nat) {x y off : Int} {A B : jO} (hx : jR 1 x) (hy : jR 1 y) (hF : jHo Rr (if x < y then A else B)) (hd : decode M.2.1 pc = .ok (.if_icmp .lt off, 3)) (ht : (pc : Int) + off = (tgt : Int)) (kt : jHo Rr A → jGo E M d Rr Γ tgt ls st σ) (kf : jHo Rr B → jGo E M d Rr Γ (pc + 3) ls st σ) : jGo E M d Rr Γ pc ls (jV E 1 y :: jV E 1 x :: st) σ := jg_icmp_lt tgt hx hy hd ht (fun z => kt (by rwa [if_pos z] at hF)) (fun z => kf (by rwa [if_neg z] at hF))
theorem ji_icmp_ge (tgt : Nat) {x y off : Int} {A B : jO} (hx : jR 1 x) (hy : jR 1 y) (hF : jHo Rr (if y ≤ x then A else B)) (hd : decode M.2.1 pc = .ok (.if_icmp .ge off, 3)) (ht : (pc : Int) + off = (tgt : Int)) (kt : jHo Rr A → jGo E M d Rr Γ tgt ls st σ) (kf : jHo Rr B → jGo E M d Rr Γ (pc + 3) ls st σ) : jGo E M d Rr Γ pc ls (jV E 1 y :: jV E 1 x :: st) σ := jg_icmp_ge tgt hx hy hd ht (fun z => kt (by rwa [if_pos z] at hF)) (fun z => kf (by rwa [if_neg z] at hF))
theorem ji_icmp_gt (tgt : Nat) {x y off : Int} {A B : jO} (hx : jR 1 x) (hy : jR 1 y) (hF : jHo Rr (if y < x then A else B)) (hd : decode M.2.1 pc = .ok (.if_icmp .gt off, 3)) (ht : (pc : Int) + off = (tgt : Int)) (kt : jHo Rr A → jGo E M d Rr Γ tgt ls st σ) (kf : jHo Rr B → jGo E M d Rr Γ (pc + 3) ls st σ) : jGo E M d Rr Γ pc ls (jV E 1 y :: jV E 1 x :: st) σ := jg_icmp_gt tgt hx hy hd ht (fun z => kt (by rwa [if_pos z] at hF)) (fun z => kf (by rwa [if_neg z] at hF))
theorem ji_icmp_le (tgt : Nat) {x y off : Int} {A B : jO} (hx : jR 1 x) (hy : jR 1 y) (hF : jHo Rr (if x ≤ y then A else B)) (hd : decode M.2.1 pc = .ok (.if_icmp .le off, 3)) (ht : (pc : Int) + off = (tgt : Int)) (kt : jHo Rr A → jGo E M d Rr Γ tgt ls st σ) (kf : jHo Rr B → jGo E M d Rr Γ (pc + 3) ls st σ) : jGo E M d Rr Γ pc ls (jV E 1 y :: jV E 1 x :: st) σ := jg_icmp_le tgt hx hy hd ht (fun z => kt (by rwa [if_pos z] at hF)) (fun z => kf (by rwa [if_neg z] at hF))
theorem ji_icmp_ne (tgt : Nat) {x y off : Int} {A B : jO} (hx : jR 1 x) (hy : jR 1 y) (hF : jHo Rr (if x = y then B else A)) (hd : decode M.2.1 pc = .ok (.if_icmp .ne off, 3)) (ht : (pc : Int) + off = (tgt : Int)) (kt : jHo Rr A → jGo E M d Rr Γ tgt ls st σ) (kf : jHo Rr B → jGo E M d Rr Γ (pc + 3) ls st σ) : jGo E M d Rr Γ pc ls (jV E 1 y :: jV E 1 x :: st) σ := jg_icmp_ne tgt hx hy hd ht (fun z => kt (by rwa [if_neg z] at hF)) (fun z => kf (by rwa [if_pos z] at hF))
theorem ji_if_eq (tgt : Nat) {x off : Int} {A B : jO} (hx : jR 1 x) (hF : jHo Rr (if x = 0 then A else B)) (hd : decode M.2.1 pc = .ok (.ifCond .eq off, 3)) (ht : (pc : Int) + off = (tgt : Int)) (kt : jHo Rr A → jGo E M d Rr Γ tgt ls st σ) (kf : jHo Rr B → jGo E M d Rr Γ (pc + 3) ls st σ) : jGo E M d Rr Γ pc ls (jV E 1 x :: st) σ := jg_if_eq tgt hx hd ht (fun z => kt (by rwa [if_pos z] at hF)) (fun z => kf (by rwa [if_neg z] at hF))
theorem ji_if_lt (tgt : Nat) {x off : Int} {A B : jO} (hx : jR 1 x) (hF : jHo Rr (if x < 0 then A else B)) (hd : decode M.2.1 pc = .ok (.ifCond .lt off, 3)) (ht : (pc : Int) + off = (tgt : Int)) (kt : jHo Rr A → jGo E M d Rr Γ tgt ls st σ) (kf : jHo Rr B → jGo E M d Rr Γ (pc + 3) ls st σ) : jGo E M d Rr Γ pc ls (jV E 1 x :: st) σ := jg_if_lt tgt hx hd ht (fun z => kt (by rwa [if_pos z] at hF)) (fun z => kf (by rwa [if_neg z] at hF))
theorem ji_if_ge (tgt : Nat) {x off : Int} {A B : jO} (hx : jR 1 x) (hF : jHo Rr (if 0 ≤ x then A else B)) (hd : decode M.2.1 pc = .ok (.ifCond .ge off, 3)) (ht : (pc : Int) + off = (tgt : Int)) (kt : jHo Rr A → jGo E M d Rr Γ tgt ls st σ) (kf : jHo Rr B → jGo E M d Rr Γ (pc + 3) ls st σ) : jGo E M d Rr Γ pc ls (jV E 1 x :: st) σ := jg_if_ge tgt hx hd ht (fun z => kt (by rwa [if_pos z] at hF)) (fun z => kf (by rwa [if_neg z] at hF))
theorem ji_if_gt (tgt : Nat) {x off : Int} {A B : jO} (hx : jR 1 x) (hF : jHo Rr (if 0 < x then A else B)) (hd : decode M.2.1 pc = .ok (.ifCond .gt off, 3)) (ht : (pc : Int) + off = (tgt : Int)) (kt : jHo Rr A → jGo E M d Rr Γ tgt ls st σ) (kf : jHo Rr B → jGo E M d Rr Γ (pc + 3) ls st σ) : jGo E M d Rr Γ pc ls (jV E 1 x :: st) σ := jg_if_gt tgt hx hd ht (fun z => kt (by rwa [if_pos z] at hF)) (fun z => kf (by rwa [if_neg z] at hF))
theorem ji_if_le (tgt : Nat) {x off : Int} {A B : jO} (hx : jR 1 x) (hF : jHo Rr (if x ≤ 0 then A else B)) (hd : decode M.2.1 pc = .ok (.ifCond .le off, 3)) (ht : (pc : Int) + off = (tgt : Int)) (kt : jHo Rr A → jGo E M d Rr Γ tgt ls st σ) (kf : jHo Rr B → jGo E M d Rr Γ (pc + 3) ls st σ) : jGo E M d Rr Γ pc ls (jV E 1 x :: st) σ := jg_if_le tgt hx hd ht (fun z => kt (by rwa [if_pos z] at hF)) (fun z => kf (by rwa [if_neg z] at hF))
theorem ji_if_ne (tgt : Nat) {x off : Int} {A B : jO} (hx : jR 1 x) (hF : jHo Rr (if x = 0 then B else A)) (hd : decode M.2.1 pc = .ok (.ifCond .ne off, 3)) (ht : (pc : Int) + off = (tgt : Int)) (kt : jHo Rr A → jGo E M d Rr Γ tgt ls st σ) (kf : jHo Rr B → jGo E M d Rr Γ (pc + 3) ls st σ) : jGo E M d Rr Γ pc ls (jV E 1 x :: st) σ := jg_if_ne tgt hx hd ht (fun z => kt (by rwa [if_neg z] at hF)) (fun z => kf (by rwa [if_pos z] at hF))
theorem ji_iaload {r x : Int} {K : Int → jO} (hr : jR 3 r) (hx : jR 1 x) (hF : jHo Rr (jGd (0 ≤ x ∧ x < jik r) (jLet (σ r x) K))) (hd : decode M.2.1 pc = .ok (.iaload, 1)) (k : ∀ w, jR 1 w → jHo Rr (K w) → jGo E M d Rr Γ (pc + 1) ls (jV E 1 w :: st) σ) : jGo E M d Rr Γ pc ls (jV E 1 x :: jV E 3 r :: st) σ := jg_iaload hr hx (jHo_as hF).1.1 (jHo_as hF).1.2 hd (fun z => k _ z (jHo_as hF).2)
theorem ji_laload {r x : Int} {K : Int → jO} (hr : jR 3 r) (hx : jR 1 x) (hF : jHo Rr (jGd (0 ≤ x ∧ x < jjk r) (jLet (σ r x) K))) (hd : decode M.2.1 pc = .ok (.laload, 1)) (k : ∀ w, jR 2 w → jHo Rr (K w) → jGo E M d Rr Γ (pc + 1) ls (jV E 2 w :: st) σ) : jGo E M d Rr Γ pc ls (jV E 1 x :: jV E 3 r :: st) σ := jg_laload hr hx (jHo_as hF).1.1 (jHo_as hF).1.2 hd (fun z => k _ z (jHo_as hF).2)
theorem ji_aaload (t t0 : Nat) {Cn : String} {r x : Int} {K : Int → jO} (hr : jR 3 r) (hx : jR 1 x) (ht : (t0 = 3 ∧ t = 5 ∧ Cn = "TileDesk$Rack") ∨ (t0 = 4 ∧ t = 6 ∧ Cn = "TileDesk$Hand")) (hF : jHo Rr (jGd (0 ≤ x ∧ x < jrk r t) (jLet (jrf r x) K))) (hd : decode M.2.1 pc = .ok (.aaload, 1)) (k : ∀ w, jR 3 w → jHo Rr (K w) → jGo E M d Rr Γ (pc + 1) ls (jV E 3 w :: st) σ) : jGo E M d Rr Γ pc ls (jV E 1 x :: jV E 3 r :: st) σ := jg_aaload t t0 hr hx (jHo_as hF).1.1 (jHo_as hF).1.2 ht hd (k _ (jrf_lt hr _) (jHo_as hF).2)
theorem ji_alen {r : Int} {K : Int → jO} (hr : jR 3 r) (hF : jHo Rr (jGd (0 ≤ jln r) (jLet (jln r) K))) (hd : decode M.2.1 pc = .ok (.arraylength, 1)) (k : ∀ w, jR 1 w → jHo Rr (K w) → jGo E M d Rr Γ (pc + 1) ls (jV E 1 w :: st) σ) : jGo E M d Rr Γ pc ls (jV E 3 r :: st) σ := jg_alen hr (jHo_as hF).1 hd (fun z => k _ z (jHo_as hF).2)
theorem ji_iastore {r x v : Int} {K : jMem → jO} (hr : jR 3 r) (hx : jR 1 x) (hv : jR 1 v) (hF : jHo Rr (jGd (0 ≤ x ∧ x < jik r) (jLet (jU σ r x v) K))) (hd : decode M.2.1 pc = .ok (.iastore, 1)) (k : ∀ s, jHo Rr (K s) → jGo E M d Rr Γ (pc + 1) ls st s) : jGo E M d Rr Γ pc ls (jV E 1 v :: jV E 1 x :: jV E 3 r :: st) σ := jg_iastore hr hx hv (jHo_as hF).1.1 (jHo_as hF).1.2 hd (k _ (jHo_as hF).2)
theorem ji_lastore {r x v : Int} {K : jMem → jO} (hr : jR 3 r) (hx : jR 1 x) (hv : jR 2 v) (hF : jHo Rr (jGd (0 ≤ x ∧ x < jjk r) (jLet (jU σ r x v) K))) (hd : decode M.2.1 pc = .ok (.lastore, 1)) (k : ∀ s, jHo Rr (K s) → jGo E M d Rr Γ (pc + 1) ls st s) : jGo E M d Rr Γ pc ls (jV E 2 v :: jV E 1 x :: jV E 3 r :: st) σ := jg_lastore hr hx hv (jHo_as hF).1.1 (jHo_as hF).1.2 hd (k _ (jHo_as hF).2)
def jgf (cls : String) (idx ci f κ : Nat) : Prop := ∃ (C : String) (T : u_T) (N : Nat), jcw ci C T N ∧ ci < 20 ∧ f < N ∧ (jck.getD ci [])[f]? = some κ ∧ Cond.fieldLink cls idx C (T f).2.1 (T f).2.2.1 ∈ jgw
def jpf (cls : String) (idx ci f κ : Nat) : Prop := ∃ (C : String) (T : u_T) (N : Nat) (ty0 : Nat → FieldType), jcw ci C T N ∧ ci < 20 ∧ f < N ∧ (jck.getD ci [])[f]? = some κ ∧ Cond.fieldLink cls idx C (T f).2.1 (T f).2.2.1 ∈ jgw ∧
  (∀ k, k < N → parseFieldDescriptor (T k).2.2.1 = some (ty0 k)) ∧ (∀ a, a < N → ∀ b, b < N → a ≠ b → (T a).2.1 ≠ (T b).2.1) ∧ ((κ = 1 ∧ ty0 f = .int) ∨ (κ = 2 ∧ ty0 f = .long) ∨ (κ = 5 ∧ ty0 f = .boolean)) ∧ (T f).2.2.2 = false
theorem ji_getf {idx ci f κ : Nat} {r : Int} {K : Int → jO} (hg : jgf M.1.cls idx ci f κ) (hκ : κ = 1 ∨ κ = 2 ∨ κ = 5) (hr : jR 3 r) (hcl : jcl r = ci) (hF : jHo Rr (jLet (σ r f) K)) (hd : decode M.2.1 pc = .ok (.getfield idx, 3)) (k : ∀ w, jR κ w → jHo Rr (K w) → jGo E M d Rr Γ (pc + 3) ls (jV E κ w :: st) σ) : jGo E M d Rr Γ pc ls (jV E 3 r :: st) σ := by
  obtain ⟨C, T, N, h1, h2, h3, h4, h5⟩ := hg
  exact jg_getf h1 h2 h3 h4 hκ h5 hr hcl hd (fun z => k _ z hF)
theorem ji_getfi {idx ci f : Nat} {r : Int} {K : Int → jO} (hg : jgf M.1.cls idx ci f 1) (hr : jR 3 r) (hcl : jcl r = ci) (hF : jHo Rr (jLet (σ r f) K)) (hd : decode M.2.1 pc = .ok (.getfield idx, 3)) (k : ∀ w, jR 1 w → jHo Rr (K w) → jGo E M d Rr Γ (pc + 3) ls (jV E 1 w :: st) σ) : jGo E M d Rr Γ pc ls (jV E 3 r :: st) σ := ji_getf hg (.inl rfl) hr hcl hF hd k
theorem ji_getfl {idx ci f : Nat} {r : Int} {K : Int → jO} (hg : jgf M.1.cls idx ci f 2) (hr : jR 3 r) (hcl : jcl r = ci) (hF : jHo Rr (jLet (σ r f) K)) (hd : decode M.2.1 pc = .ok (.getfield idx, 3)) (k : ∀ w, jR 2 w → jHo Rr (K w) → jGo E M d Rr Γ (pc + 3) ls (jV E 2 w :: st) σ) : jGo E M d Rr Γ pc ls (jV E 3 r :: st) σ := ji_getf hg (.inr (.inl rfl)) hr hcl hF hd k
theorem ji_getfz {idx ci f : Nat} {r : Int} {K : Int → jO} (hg : jgf M.1.cls idx ci f 5) (hr : jR 3 r) (hcl : jcl r = ci) (hF : jHo Rr (jLet (σ r f) K)) (hd : decode M.2.1 pc = .ok (.getfield idx, 3)) (k : ∀ w, jR 5 w → jHo Rr (K w) → jGo E M d Rr Γ (pc + 3) ls (jV E 1 w :: st) σ) : jGo E M d Rr Γ pc ls (jV E 3 r :: st) σ := ji_getf (κ := 5) hg (.inr (.inr rfl)) hr hcl hF hd k
/-- a cell that a known cell holds -/
theorem ji_getr {idx ci f : Nat} {r : Int} (v : Int) (hg : jgf M.1.cls idx ci f 3) (hr : jR 3 r) (hcl : jcl r = ci) (hv : jrf r f = v) (hd : decode M.2.1 pc = .ok (.getfield idx, 3)) (k : jGo E M d Rr Γ (pc + 3) ls (jV E 3 v :: st) σ) : jGo E M d Rr Γ pc ls (jV E 3 r :: st) σ := by
  subst hv
  obtain ⟨C, T, N, h1, h2, h3, h4, h5⟩ := hg
  exact jg_getr h1 h2 h3 h4 h5 hr hcl hd k
theorem ji_getrL {idx ci f : Nat} {r : Int} {K : Int → jO} (hg : jgf M.1.cls idx ci f 3) (hr : jR 3 r) (hcl : jcl r = ci) (hF : jHo Rr (jLet (jrf r f) K)) (hd : decode M.2.1 pc = .ok (.getfield idx, 3)) (k : ∀ w, jR 3 w → jHo Rr (K w) → jGo E M d Rr Γ (pc + 3) ls (jV E 3 w :: st) σ) : jGo E M d Rr Γ pc ls (jV E 3 r :: st) σ := ji_getr _ hg hr hcl rfl hd (k _ (jrf_lt hr _) hF)
theorem ji_putf {idx ci f κ : Nat} {r v : Int} {K : jMem → jO} (hg : jpf M.1.cls idx ci f κ) (hr : jR 3 r) (hcl : jcl r = ci) (hv : jR κ v) (hF : jHo Rr (jLet (jU σ r f v) K)) (hd : decode M.2.1 pc = .ok (.putfield idx, 3)) (k : ∀ s, jHo Rr (K s) → jGo E M d Rr Γ (pc + 3) ls st s) : jGo E M d Rr Γ pc ls (jV E κ v :: jV E 3 r :: st) σ := by
  obtain ⟨C, T, N, ty0, h1, h2, h3, h4, h5, h6, h7, h8, h9⟩ := hg
  exact jg_putf ty0 h6 h7 h1 h2 h3 h4 h8 h9 h5 hr hcl hv hd (k _ hF)
theorem ji_putfi {idx ci f : Nat} {r v : Int} {K : jMem → jO} (hg : jpf M.1.cls idx ci f 1) (hr : jR 3 r) (hcl : jcl r = ci) (hv : jR 1 v) (hF : jHo Rr (jLet (jU σ r f v) K)) (hd : decode M.2.1 pc = .ok (.putfield idx, 3)) (k : ∀ s, jHo Rr (K s) → jGo E M d Rr Γ (pc + 3) ls st s) : jGo E M d Rr Γ pc ls (jV E 1 v :: jV E 3 r :: st) σ := ji_putf hg hr hcl hv hF hd k
theorem ji_putfl {idx ci f : Nat} {r v : Int} {K : jMem → jO} (hg : jpf M.1.cls idx ci f 2) (hr : jR 3 r) (hcl : jcl r = ci) (hv : jR 2 v) (hF : jHo Rr (jLet (jU σ r f v) K)) (hd : decode M.2.1 pc = .ok (.putfield idx, 3)) (k : ∀ s, jHo Rr (K s) → jGo E M d Rr Γ (pc + 3) ls st s) : jGo E M d Rr Γ pc ls (jV E 2 v :: jV E 3 r :: st) σ := ji_putf hg hr hcl hv hF hd k
theorem ji_putfz {idx ci f : Nat} {r v : Int} {K : jMem → jO} (hg : jpf M.1.cls idx ci f 5) (hr : jR 3 r) (hcl : jcl r = ci) (hv : jR 5 v) (hF : jHo Rr (jLet (jU σ r f v) K)) (hd : decode M.2.1 pc = .ok (.putfield idx, 3)) (k : ∀ s, jHo Rr (K s) → jGo E M d Rr Γ (pc + 3) ls st s) : jGo E M d Rr Γ pc ls (jV E 1 v :: jV E 3 r :: st) σ := ji_putf (κ := 5) hg hr hcl hv hF hd k
def jmo (M' : jM) (n : Nat) : Prop := Cond.initialized M'.1.cls ∈ jgw ∧ Cond.code M'.1 M'.2.1 M'.2.2.1 M'.2.2.2 ∈ jgw ∧ M'.2.2.1 ≤ 50 ∧
  (M'.1.cls ≠ "java/lang/invoke/MethodHandle" ∧ M'.1.cls ≠ "java/lang/invoke/VarHandle" ∧ (parseMethodDescriptor M'.1.desc).map (fun d => d.parameters.length) = some n)
def jmS (M' : jM) (n : Nat) : Prop := jmo M' n ∧ Cond.static M'.1 ∈ jgw
def jmV (M' : jM) (n ci : Nat) : Prop := jmo M' n ∧ Cond.instanceMethod M'.1 ∈ jgw ∧ Cond.selects M'.1.cls M'.1 M'.1 ∈ jgw ∧ ∃ (C : String) (T : u_T) (N : Nat), jcw ci C T N ∧ C = M'.1.cls ∧ ci < 20
theorem jst0 {E : jEnv} {κ : Nat} {v : Int} (hκ : κ ≠ 2) : (jV E κ v).category = 1 := jV_cat hκ
theorem ji_callSv {M' : jM} {κs : List Nat} {d' idx : Nat} {g : List Int → jMem → jO} (vs : List Int) (st0 : List Value) {K : Int → jMem → jO} {X : jO} (hM : jOk M' κs d' (jFn g)) (hw0 : Cond.methodLink M.1.cls idx M'.1 ∈ jgw) (hw : jmS M' κs.length) (hret : M'.2.2.2 = none) (hs : st = (jAs E κs vs).reverse ++ st0) (hcat : (st0.map fun v => v.category).sum ≤ 8) (ha : jRa κs vs) (hl : vs.length = κs.length) (hX : g vs σ = X) (hd' : d' + 1 ≤ d) (hF : jHo Rr (jBd X K)) (hd : decode M.2.1 pc = .ok (.invokestatic idx, 3)) (k : ∀ (v : Int) (s : jMem), jHo Rr (K v s) → jGo E M d Rr Γ (pc + 3) ls (st0) s) : jGo E M d Rr Γ pc ls st σ := by
  subst hs hX
  refine jg_callS (P := fun v s => jHo Rr (K v s)) hM hd' hcat ⟨hw0, hw.1⟩ hw.2 hd ha hl (jHo_bd hF) ?_
  intro v s hP hv
  rw [hret] at hv ⊢
  exact k v s hP
theorem ji_callVv {M' : jM} {κs : List Nat} {d' idx ci : Nat} {g : List Int → jMem → jO} (r : Int) (vs : List Int) (st0 : List Value) {K : Int → jMem → jO} {X : jO} (hM : jOk M' (3 :: κs) d' (jFn g)) (hw0 : Cond.methodLink M.1.cls idx M'.1 ∈ jgw) (hw : jmV M' κs.length ci) (hret : M'.2.2.2 = none) (hs : st = (jAs E (3 :: κs) (r :: vs)).reverse ++ st0) (hcat : (st0.map fun v => v.category).sum ≤ 8) (ha : jRa (3 :: κs) (r :: vs)) (hl : vs.length = κs.length) (hcl : jcl r = ci) (hX : g (r :: vs) σ = X) (hd' : d' + 1 ≤ d) (hF : jHo Rr (jBd X K)) (hd : decode M.2.1 pc = .ok (.invokevirtual idx, 3)) (k : ∀ (v : Int) (s : jMem), jHo Rr (K v s) → jGo E M d Rr Γ (pc + 3) ls (st0) s) : jGo E M d Rr Γ pc ls st σ := by
  obtain ⟨w1, w2, w3, C, T, N, w4, w5, w6⟩ := hw
  subst hs hX
  refine jg_callV (P := fun v s => jHo Rr (K v s)) hM hd' hcat ⟨hw0, w1⟩ w2 w3 w4 w5 w6 hd ha hl hcl (jHo_bd hF) ?_
  intro v s hP hv
  rw [hret] at hv ⊢
  exact k v s hP
theorem ji_callSi {M' : jM} {κs : List Nat} {d' idx : Nat} {g : List Int → jMem → jO} (vs : List Int) (st0 : List Value) {K : Int → jMem → jO} {X : jO} (hM : jOk M' κs d' (jFn g)) (hw0 : Cond.methodLink M.1.cls idx M'.1 ∈ jgw) (hw : jmS M' κs.length) (hret : M'.2.2.2 = some .int) (hs : st = (jAs E κs vs).reverse ++ st0) (hcat : (st0.map fun v => v.category).sum ≤ 8) (ha : jRa κs vs) (hl : vs.length = κs.length) (hX : g vs σ = X) (hd' : d' + 1 ≤ d) (hF : jHo Rr (jBd X K)) (hd : decode M.2.1 pc = .ok (.invokestatic idx, 3)) (k : ∀ (v : Int) (s : jMem), jR 1 v → jHo Rr (K v s) → jGo E M d Rr Γ (pc + 3) ls (jV E 1 v :: st0) s) : jGo E M d Rr Γ pc ls st σ := by
  subst hs hX
  refine jg_callS (P := fun v s => jHo Rr (K v s)) hM hd' hcat ⟨hw0, hw.1⟩ hw.2 hd ha hl (jHo_bd hF) ?_
  intro v s hP hv
  rw [hret] at hv ⊢
  exact k v s hv hP
theorem ji_callVi {M' : jM} {κs : List Nat} {d' idx ci : Nat} {g : List Int → jMem → jO} (r : Int) (vs : List Int) (st0 : List Value) {K : Int → jMem → jO} {X : jO} (hM : jOk M' (3 :: κs) d' (jFn g)) (hw0 : Cond.methodLink M.1.cls idx M'.1 ∈ jgw) (hw : jmV M' κs.length ci) (hret : M'.2.2.2 = some .int) (hs : st = (jAs E (3 :: κs) (r :: vs)).reverse ++ st0) (hcat : (st0.map fun v => v.category).sum ≤ 8) (ha : jRa (3 :: κs) (r :: vs)) (hl : vs.length = κs.length) (hcl : jcl r = ci) (hX : g (r :: vs) σ = X) (hd' : d' + 1 ≤ d) (hF : jHo Rr (jBd X K)) (hd : decode M.2.1 pc = .ok (.invokevirtual idx, 3)) (k : ∀ (v : Int) (s : jMem), jR 1 v → jHo Rr (K v s) → jGo E M d Rr Γ (pc + 3) ls (jV E 1 v :: st0) s) : jGo E M d Rr Γ pc ls st σ := by
  obtain ⟨w1, w2, w3, C, T, N, w4, w5, w6⟩ := hw
  subst hs hX
  refine jg_callV (P := fun v s => jHo Rr (K v s)) hM hd' hcat ⟨hw0, w1⟩ w2 w3 w4 w5 w6 hd ha hl hcl (jHo_bd hF) ?_
  intro v s hP hv
  rw [hret] at hv ⊢
  exact k v s hv hP
theorem ji_callSz {M' : jM} {κs : List Nat} {d' idx : Nat} {g : List Int → jMem → jO} (vs : List Int) (st0 : List Value) {K : Int → jMem → jO} {X : jO} (hM : jOk M' κs d' (jFn g)) (hw0 : Cond.methodLink M.1.cls idx M'.1 ∈ jgw) (hw : jmS M' κs.length) (hret : M'.2.2.2 = some .boolean) (hs : st = (jAs E κs vs).reverse ++ st0) (hcat : (st0.map fun v => v.category).sum ≤ 8) (ha : jRa κs vs) (hl : vs.length = κs.length) (hX : g vs σ = X) (hd' : d' + 1 ≤ d) (hF : jHo Rr (jBd X K)) (hd : decode M.2.1 pc = .ok (.invokestatic idx, 3)) (k : ∀ (v : Int) (s : jMem), jR 5 v → jHo Rr (K v s) → jGo E M d Rr Γ (pc + 3) ls (jV E 1 v :: st0) s) : jGo E M d Rr Γ pc ls st σ := by
  subst hs hX
  refine jg_callS (P := fun v s => jHo Rr (K v s)) hM hd' hcat ⟨hw0, hw.1⟩ hw.2 hd ha hl (jHo_bd hF) ?_
  intro v s hP hv
  rw [hret] at hv ⊢
  exact k v s hv hP
theorem ji_callVz {M' : jM} {κs : List Nat} {d' idx ci : Nat} {g : List Int → jMem → jO} (r : Int) (vs : List Int) (st0 : List Value) {K : Int → jMem → jO} {X : jO} (hM : jOk M' (3 :: κs) d' (jFn g)) (hw0 : Cond.methodLink M.1.cls idx M'.1 ∈ jgw) (hw : jmV M' κs.length ci) (hret : M'.2.2.2 = some .boolean) (hs : st = (jAs E (3 :: κs) (r :: vs)).reverse ++ st0) (hcat : (st0.map fun v => v.category).sum ≤ 8) (ha : jRa (3 :: κs) (r :: vs)) (hl : vs.length = κs.length) (hcl : jcl r = ci) (hX : g (r :: vs) σ = X) (hd' : d' + 1 ≤ d) (hF : jHo Rr (jBd X K)) (hd : decode M.2.1 pc = .ok (.invokevirtual idx, 3)) (k : ∀ (v : Int) (s : jMem), jR 5 v → jHo Rr (K v s) → jGo E M d Rr Γ (pc + 3) ls (jV E 1 v :: st0) s) : jGo E M d Rr Γ pc ls st σ := by
  obtain ⟨w1, w2, w3, C, T, N, w4, w5, w6⟩ := hw
  subst hs hX
  refine jg_callV (P := fun v s => jHo Rr (K v s)) hM hd' hcat ⟨hw0, w1⟩ w2 w3 w4 w5 w6 hd ha hl hcl (jHo_bd hF) ?_
  intro v s hP hv
  rw [hret] at hv ⊢
  exact k v s hv hP
theorem ji_callSl {M' : jM} {κs : List Nat} {d' idx : Nat} {g : List Int → jMem → jO} (vs : List Int) (st0 : List Value) {K : Int → jMem → jO} {X : jO} (hM : jOk M' κs d' (jFn g)) (hw0 : Cond.methodLink M.1.cls idx M'.1 ∈ jgw) (hw : jmS M' κs.length) (hret : M'.2.2.2 = some .long) (hs : st = (jAs E κs vs).reverse ++ st0) (hcat : (st0.map fun v => v.category).sum ≤ 8) (ha : jRa κs vs) (hl : vs.length = κs.length) (hX : g vs σ = X) (hd' : d' + 1 ≤ d) (hF : jHo Rr (jBd X K)) (hd : decode M.2.1 pc = .ok (.invokestatic idx, 3)) (k : ∀ (v : Int) (s : jMem), jR 2 v → jHo Rr (K v s) → jGo E M d Rr Γ (pc + 3) ls (jV E 2 v :: st0) s) : jGo E M d Rr Γ pc ls st σ := by
  subst hs hX
  refine jg_callS (P := fun v s => jHo Rr (K v s)) hM hd' hcat ⟨hw0, hw.1⟩ hw.2 hd ha hl (jHo_bd hF) ?_
  intro v s hP hv
  rw [hret] at hv ⊢
  exact k v s hv hP
theorem ji_callVl {M' : jM} {κs : List Nat} {d' idx ci : Nat} {g : List Int → jMem → jO} (r : Int) (vs : List Int) (st0 : List Value) {K : Int → jMem → jO} {X : jO} (hM : jOk M' (3 :: κs) d' (jFn g)) (hw0 : Cond.methodLink M.1.cls idx M'.1 ∈ jgw) (hw : jmV M' κs.length ci) (hret : M'.2.2.2 = some .long) (hs : st = (jAs E (3 :: κs) (r :: vs)).reverse ++ st0) (hcat : (st0.map fun v => v.category).sum ≤ 8) (ha : jRa (3 :: κs) (r :: vs)) (hl : vs.length = κs.length) (hcl : jcl r = ci) (hX : g (r :: vs) σ = X) (hd' : d' + 1 ≤ d) (hF : jHo Rr (jBd X K)) (hd : decode M.2.1 pc = .ok (.invokevirtual idx, 3)) (k : ∀ (v : Int) (s : jMem), jR 2 v → jHo Rr (K v s) → jGo E M d Rr Γ (pc + 3) ls (jV E 2 v :: st0) s) : jGo E M d Rr Γ pc ls st σ := by
  obtain ⟨w1, w2, w3, C, T, N, w4, w5, w6⟩ := hw
  subst hs hX
  refine jg_callV (P := fun v s => jHo Rr (K v s)) hM hd' hcat ⟨hw0, w1⟩ w2 w3 w4 w5 w6 hd ha hl hcl (jHo_bd hF) ?_
  intro v s hP hv
  rw [hret] at hv ⊢
  exact k v s hv hP
theorem jmaxR {x y : Int} (hx : jR 1 x) (hy : jR 1 y) : jR 1 (jmax x y) := by unfold jmax; split <;> assumption
theorem jminR {x y : Int} (hx : jR 1 x) (hy : jR 1 y) : jR 1 (jmin x y) := by unfold jmin; split <;> assumption
theorem ji_max {x y : Int} {idx : Nat} {K : Int → jO} (hx : jR 1 x) (hy : jR 1 y) (hst : (st.map fun v => v.category).sum ≤ 8) (hdd : 1 ≤ d) (hw : jmw M Lib.Math.max.name Lib.Math.max.code idx) (hF : jHo Rr (jLet (jmax x y) K)) (hd : decode M.2.1 pc = .ok (.invokestatic idx, 3)) (k : ∀ w, jR 1 w → jHo Rr (K w) → jGo E M d Rr Γ (pc + 3) ls (jV E 1 w :: st) σ) : jGo E M d Rr Γ pc ls (jV E 1 y :: jV E 1 x :: st) σ := jg_max hx hy hst hdd hw hd (k _ (jmaxR hx hy) hF)
theorem ji_min {x y : Int} {idx : Nat} {K : Int → jO} (hx : jR 1 x) (hy : jR 1 y) (hst : (st.map fun v => v.category).sum ≤ 8) (hdd : 1 ≤ d) (hw : jmw M Lib.Math.min.name Lib.Math.min.code idx) (hF : jHo Rr (jLet (jmin x y) K)) (hd : decode M.2.1 pc = .ok (.invokestatic idx, 3)) (k : ∀ w, jR 1 w → jHo Rr (K w) → jGo E M d Rr Γ (pc + 3) ls (jV E 1 w :: st) σ) : jGo E M d Rr Γ pc ls (jV E 1 y :: jV E 1 x :: st) σ := jg_min hx hy hst hdd hw hd (k _ (jminR hx hy) hF)
theorem ji_copyi {a sp b dp n : Int} {idx : Nat} {K : jMem → jO} (ha : jR 3 a) (hb : jR 3 b) (hsp : jR 1 sp) (hdp : jR 1 dp) (hn : jR 1 n) (hst : (st.map fun v => v.category).sum ≤ 8) (hdd : 1 ≤ d) (hw : jcpw M idx) (hF : jHo Rr (jGd (0 ≤ sp ∧ 0 ≤ dp ∧ 0 ≤ n ∧ sp + n ≤ jik a ∧ dp + n ≤ jik b ∧ 0 < jik a ∧ 0 < jik b) (jLet (jCp σ a sp b dp n) K))) (hd : decode M.2.1 pc = .ok (.invokestatic idx, 3)) (k : ∀ s, jHo Rr (K s) → jGo E M d Rr Γ (pc + 3) ls st s) : jGo E M d Rr Γ pc ls (jV E 1 n :: jV E 1 dp :: jV E 3 b :: jV E 1 sp :: jV E 3 a :: st) σ := by
  obtain ⟨⟨h1, h2, h3, h4, h5, h6, h7⟩, hF⟩ := jHo_as hF
  exact jg_copyi ha hb hsp hdp hn h1 h2 h3 h4 h5 h6 h7 hst hdd hw hd (k _ hF)
theorem ji_copyl {a sp b dp n : Int} {idx : Nat} {K : jMem → jO} (ha : jR 3 a) (hb : jR 3 b) (hsp : jR 1 sp) (hdp : jR 1 dp) (hn : jR 1 n) (hst : (st.map fun v => v.category).sum ≤ 8) (hdd : 1 ≤ d) (hw : jcpw M idx) (hF : jHo Rr (jGd (0 ≤ sp ∧ 0 ≤ dp ∧ 0 ≤ n ∧ sp + n ≤ jjk a ∧ dp + n ≤ jjk b ∧ 0 < jjk a ∧ 0 < jjk b) (jLet (jCp σ a sp b dp n) K))) (hd : decode M.2.1 pc = .ok (.invokestatic idx, 3)) (k : ∀ s, jHo Rr (K s) → jGo E M d Rr Γ (pc + 3) ls st s) : jGo E M d Rr Γ pc ls (jV E 1 n :: jV E 1 dp :: jV E 3 b :: jV E 1 sp :: jV E 3 a :: st) σ := by
  obtain ⟨⟨h1, h2, h3, h4, h5, h6, h7⟩, hF⟩ := jHo_as hF
  exact jg_copyl ha hb hsp hdp hn h1 h2 h3 h4 h5 h6 h7 hst hdd hw hd (k _ hF)
theorem ji_reti {v : Int} (hret : M.2.2.2 = some .int) (hv : jR 1 v) (hF : jHo Rr (jRet v σ)) (hd : decode M.2.1 pc = .ok (.ireturn, 1)) : jGo E M d Rr Γ pc ls [jV E 1 v] σ := by
  have := jg_ret (E := E) (M := M) (d := d) (Γ := Γ) (pc := pc) (ls := ls) (σ := σ) (v := v) (Rr := Rr) (by simp only [jRi, hret]; exact hd) (by rw [hret]; exact hv) (jHo_ret hF)
  rw [hret] at this
  exact this
theorem ji_retz {v : Int} (hret : M.2.2.2 = some .boolean) (hv : jR 5 v) (hF : jHo Rr (jRet v σ)) (hd : decode M.2.1 pc = .ok (.ireturn, 1)) : jGo E M d Rr Γ pc ls [jV E 1 v] σ := by
  have := jg_ret (E := E) (M := M) (d := d) (Γ := Γ) (pc := pc) (ls := ls) (σ := σ) (v := v) (Rr := Rr) (by simp only [jRi, hret]; exact hd) (by rw [hret]; exact hv) (jHo_ret hF)
  rw [hret] at this
  exact this
theorem ji_retl {v : Int} (hret : M.2.2.2 = some .long) (hv : jR 2 v) (hF : jHo Rr (jRet v σ)) (hd : decode M.2.1 pc = .ok (.lreturn, 1)) : jGo E M d Rr Γ pc ls [jV E 2 v] σ := by
  have := jg_ret (E := E) (M := M) (d := d) (Γ := Γ) (pc := pc) (ls := ls) (σ := σ) (v := v) (Rr := Rr) (by simp only [jRi, hret]; exact hd) (by rw [hret]; exact hv) (jHo_ret hF)
  rw [hret] at this
  exact this
theorem ji_retv (hret : M.2.2.2 = none) (hF : jHo Rr (jRet 0 σ)) (hd : decode M.2.1 pc = .ok (.return_, 1)) : jGo E M d Rr Γ pc ls [] σ := by
  have := jg_ret (E := E) (M := M) (d := d) (Γ := Γ) (pc := pc) (ls := ls) (σ := σ) (v := 0) (Rr := Rr) (by simp only [jRi, hret]; exact hd) (by rw [hret]; trivial) (jHo_ret hF)
  rw [hret] at this
  exact this
theorem jOk_fn {κs : List Nat} {f : List Int → jMem → jO} (hc : plainName M.1.cls = true) (hnL : (jG0 κs).length ≤ M.2.2.1) (hlaw : M.1.name ≠ "law") (hret : M.2.2.2 = none ∨ M.2.2.2 = some .int ∨ M.2.2.2 = some .long ∨ M.2.2.2 = some .boolean)
    (h : ∀ (E : jEnv) (vs : List Int) (σ : jMem) (Rr : Int → jMem → Prop), jHo Rr (f vs σ) → jRa κs vs → jGo E M d Rr (jPad 0 M.2.2.1 (jG0 κs)) 0 (jPad 0 M.2.2.1 (jL0 κs vs)) [] σ) : jOk M κs d (jFn f) := jOk_intro hc hnL hlaw hret (fun E vs σ Rr hf ha => h E vs σ Rr hf ha)
theorem jRa_ci {κ : Nat} {κs : List Nat} {vs : List Int} (h : jRa (κ :: κs) vs) : ∃ (v : Int) (t : List Int), vs = v :: t ∧ jR κ v ∧ jRa κs t := by
  match vs, h with
  | v :: t, h => exact ⟨v, t, rfl, h.1, h.2⟩
  | [], h => exact absurd h (by simp [jRa])
theorem jRa_ni {vs : List Int} (h : jRa [] vs) : vs = [] := by
  match vs, h with
  | [], _ => rfl
  | _ :: _, h => exact absurd h (by simp [jRa])
/-- a loop: so many rounds at most -/
def jIt {A : Type} (bot : A) (step : A → A) : Nat → A
  | 0 => bot
  | n + 1 => step (jIt bot step n)
end

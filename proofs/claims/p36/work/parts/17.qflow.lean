/-! ===== the law as a function ===== -/
section
abbrev qO : Type := Option (Int × qMem)
def qHo (Rr : Int → qMem → Prop) (x : qO) : Prop := ∃ (v : Int) (σ : qMem), x = some (v, σ) ∧ Rr v σ
def qLet {α : Type} (v : α) (k : α → qO) : qO := k v
def qGd (c : Prop) [Decidable c] (k : qO) : qO := if c then k else none
def qBd (x : qO) (k : Int → qMem → qO) : qO := match x with
  | some q => k q.1 q.2
  | none => none
def qRet (v : Int) (σ : qMem) : qO := some (v, σ)
def qC1 (f : jMem → jO) (μ : qMem) : qO := match f μ.1 with
  | some q => some (q.1, (q.2, μ.2))
  | none => none
def qC2 (f : jMem → jO) (μ : qMem) : qO := match f μ.2.1 with
  | some q => some (q.1, (μ.1, q.2, μ.2.2))
  | none => none
variable {E : qEnv} {M : jM} {d : Nat} {Rr : Int → qMem → Prop} {Γ : List Nat} {pc : Nat} {ls : List Int} {st : List Value} {σ : qMem}
theorem qHo_as {c : Prop} [Decidable c] {x : qO} (h : qHo Rr (qGd c x)) : c ∧ qHo Rr x := by
  by_cases hc : c
  · rw [qGd, if_pos hc] at h; exact ⟨hc, h⟩
  · rw [qGd, if_neg hc] at h; obtain ⟨v, s, h1, -⟩ := h; cases h1
theorem qHo_bd {x : qO} {K : Int → qMem → qO} (h : qHo Rr (qBd x K)) : qHo (fun v s => qHo Rr (K v s)) x := by
  match x, h with
  | some (v, s), h => exact ⟨v, s, rfl, h⟩
  | none, h => obtain ⟨v, s, h1, -⟩ := h; cases h1
theorem qHo_ret {v : Int} (h : qHo Rr (qRet v σ)) : Rr v σ := by
  obtain ⟨v', s', h1, h2⟩ := h
  cases h1
  exact h2
theorem qHo_if {c : Prop} [Decidable c] {A B : qO} {G : Prop} (h : qHo Rr (if c then A else B)) (kt : c → qHo Rr A → G) (kf : ¬ c → qHo Rr B → G) : G := by
  by_cases hc : c
  · rw [if_pos hc] at h; exact kt hc h
  · rw [if_neg hc] at h; exact kf hc h
theorem qHo_none {G : Prop} (h : qHo Rr none) : G := by
  obtain ⟨v', s', h1, h2⟩ := h
  cases h1
theorem qi_iconst {n : Int} (hd : decode M.2.1 pc = .ok (.iconst n, 1)) (k : qGo E M d Rr Γ (pc + 1) ls (jV E.1 1 n :: st) σ) : qGo E M d Rr Γ pc ls st σ := qg_iconst hd k
theorem qi_iload_n {i : Fin 4} {n : Nat} (v : Int) (hi : (i : Nat) = n) (hΓ : Γ[n]? = some 1) (hv : ls.getD n 0 = v) (hd : decode M.2.1 pc = .ok (.iload_n i, 1)) (k : jR 1 v → qGo E M d Rr Γ (pc + 1) ls (jV E.1 1 v :: st) σ) : qGo E M d Rr Γ pc ls st σ := by
  subst hv; exact qg_iload_n hi hΓ hd k
theorem qi_iload {n : Nat} (v : Int) (hΓ : Γ[n]? = some 1) (hv : ls.getD n 0 = v) (hd : decode M.2.1 pc = .ok (.iload n, 2)) (k : jR 1 v → qGo E M d Rr Γ (pc + 2) ls (jV E.1 1 v :: st) σ) : qGo E M d Rr Γ pc ls st σ := by
  subst hv; exact qg_iload hΓ hd k
theorem qi_istore_n {i : Fin 4} {n : Nat} {v : Int} (Γ1 : List Nat) (ls1 : List Int) (hi : (i : Nat) = n) (hv : jR 1 v) (hn : n < M.2.2.1) (hst : jst Γ n 1 Γ1 = true) (hls : ls.set n v = ls1) (hd : decode M.2.1 pc = .ok (.istore_n i, 1)) (k : qGo E M d Rr Γ1 (pc + 1) ls1 st σ) : qGo E M d Rr Γ pc ls (jV E.1 1 v :: st) σ := by
  subst hls; exact qg_istore_n hi hv hn hst hd k
theorem qi_istore {n : Nat} {v : Int} (Γ1 : List Nat) (ls1 : List Int) (hv : jR 1 v) (hn : n < M.2.2.1) (hst : jst Γ n 1 Γ1 = true) (hls : ls.set n v = ls1) (hd : decode M.2.1 pc = .ok (.istore n, 2)) (k : qGo E M d Rr Γ1 (pc + 2) ls1 st σ) : qGo E M d Rr Γ pc ls (jV E.1 1 v :: st) σ := by
  subst hls; exact qg_istore hv hn hst hd k
theorem qi_aload_n {i : Fin 4} {n : Nat} (v : Int) (hi : (i : Nat) = n) (hΓ : Γ[n]? = some 3) (hv : ls.getD n 0 = v) (hd : decode M.2.1 pc = .ok (.aload_n i, 1)) (k : jR 3 v → qGo E M d Rr Γ (pc + 1) ls (jV E.1 3 v :: st) σ) : qGo E M d Rr Γ pc ls st σ := by
  subst hv; exact qg_aload_n hi hΓ hd k
theorem qi_iinc {n : Nat} {b : Int} {K : Int → qO} (v : Int) (ls1 : Int → List Int) (hΓ : Γ[n]? = some 1) (hst : jst Γ n 1 Γ = true) (hv : ls.getD n 0 = v) (hls : ∀ w, ls.set n w = ls1 w) (hF : qHo Rr (qLet (j32 (v + b)) K)) (hd : decode M.2.1 pc = .ok (.iinc n b, 3)) (k : ∀ w, jR 1 w → qHo Rr (K w) → qGo E M d Rr Γ (pc + 3) (ls1 w) st σ) : qGo E M d Rr Γ pc ls st σ := by
  subst hv
  refine qg_iinc hΓ hst hd ?_
  rw [hls]
  exact k _ ⟨j32_ge _, j32_lt _⟩ hF
theorem qi_iadd {x y : Int} {K : Int → qO} (hF : qHo Rr (qLet (j32 (x + y)) K)) (hd : decode M.2.1 pc = .ok (.iadd, 1)) (k : ∀ w, jR 1 w → qHo Rr (K w) → qGo E M d Rr Γ (pc + 1) ls (jV E.1 1 w :: st) σ) : qGo E M d Rr Γ pc ls (jV E.1 1 y :: jV E.1 1 x :: st) σ := qg_iadd hd (k _ ⟨j32_ge _, j32_lt _⟩ hF)
theorem qi_isub {x y : Int} {K : Int → qO} (hF : qHo Rr (qLet (j32 (x - y)) K)) (hd : decode M.2.1 pc = .ok (.isub, 1)) (k : ∀ w, jR 1 w → qHo Rr (K w) → qGo E M d Rr Γ (pc + 1) ls (jV E.1 1 w :: st) σ) : qGo E M d Rr Γ pc ls (jV E.1 1 y :: jV E.1 1 x :: st) σ := qg_isub hd (k _ ⟨j32_ge _, j32_lt _⟩ hF)
theorem qi_imul {x y : Int} {K : Int → qO} (hF : qHo Rr (qLet (j32 (x * y)) K)) (hd : decode M.2.1 pc = .ok (.imul, 1)) (k : ∀ w, jR 1 w → qHo Rr (K w) → qGo E M d Rr Γ (pc + 1) ls (jV E.1 1 w :: st) σ) : qGo E M d Rr Γ pc ls (jV E.1 1 y :: jV E.1 1 x :: st) σ := qg_imul hd (k _ ⟨j32_ge _, j32_lt _⟩ hF)
theorem qi_iand {x y : Int} {K : Int → qO} (hF : qHo Rr (qLet (jand x y) K)) (hd : decode M.2.1 pc = .ok (.iand, 1)) (k : ∀ w, jR 1 w → qHo Rr (K w) → qGo E M d Rr Γ (pc + 1) ls (jV E.1 1 w :: st) σ) : qGo E M d Rr Γ pc ls (jV E.1 1 y :: jV E.1 1 x :: st) σ := qg_iand hd (k _ (jR32 _) hF)
theorem qi_ishr {x y : Int} {K : Int → qO} (hF : qHo Rr (qLet (jshr x y) K)) (hd : decode M.2.1 pc = .ok (.ishr, 1)) (k : ∀ w, jR 1 w → qHo Rr (K w) → qGo E M d Rr Γ (pc + 1) ls (jV E.1 1 w :: st) σ) : qGo E M d Rr Γ pc ls (jV E.1 1 y :: jV E.1 1 x :: st) σ := qg_ishr hd (k _ (jR32 _) hF)
theorem qi_icmp_eq (tgt : Nat) {x y off : Int} {A B : qO} (hx : jR 1 x) (hy : jR 1 y) (hF : qHo Rr (if x = y then A else B)) (hd : decode M.2.1 pc = .ok (.if_icmp .eq off, 3)) (ht : (pc : Int) + off = (tgt : Int)) (kt : qHo Rr A → qGo E M d Rr Γ tgt ls st σ) (kf : qHo Rr B → qGo E M d Rr Γ (pc + 3) ls st σ) : qGo E M d Rr Γ pc ls (jV E.1 1 y :: jV E.1 1 x :: st) σ := qg_icmp_eq tgt hx hy hd ht (fun z => kt (by rwa [if_pos z] at hF)) (fun z => kf (by rwa [if_neg z] at hF))
theorem qi_icmp_lt (tgt : Nat) {x y off : Int} {A B : qO} (hx : jR 1 x) (hy : jR 1 y) (hF : qHo Rr (if x < y then A else B)) (hd : decode M.2.1 pc = .ok (.if_icmp .lt off, 3)) (ht : (pc : Int) + off = (tgt : Int)) (kt : qHo Rr A → qGo E M d Rr Γ tgt ls st σ) (kf : qHo Rr B → qGo E M d Rr Γ (pc + 3) ls st σ) : qGo E M d Rr Γ pc ls (jV E.1 1 y :: jV E.1 1 x :: st) σ := qg_icmp_lt tgt hx hy hd ht (fun z => kt (by rwa [if_pos z] at hF)) (fun z => kf (by rwa [if_neg z] at hF))
theorem qi_icmp_ge (tgt : Nat) {x y off : Int} {A B : qO} (hx : jR 1 x) (hy : jR 1 y) (hF : qHo Rr (if y ≤ x then A else B)) (hd : decode M.2.1 pc = .ok (.if_icmp .ge off, 3)) (ht : (pc : Int) + off = (tgt : Int)) (kt : qHo Rr A → qGo E M d Rr Γ tgt ls st σ) (kf : qHo Rr B → qGo E M d Rr Γ (pc + 3) ls st σ) : qGo E M d Rr Γ pc ls (jV E.1 1 y :: jV E.1 1 x :: st) σ := qg_icmp_ge tgt hx hy hd ht (fun z => kt (by rwa [if_pos z] at hF)) (fun z => kf (by rwa [if_neg z] at hF))
theorem qi_icmp_gt (tgt : Nat) {x y off : Int} {A B : qO} (hx : jR 1 x) (hy : jR 1 y) (hF : qHo Rr (if y < x then A else B)) (hd : decode M.2.1 pc = .ok (.if_icmp .gt off, 3)) (ht : (pc : Int) + off = (tgt : Int)) (kt : qHo Rr A → qGo E M d Rr Γ tgt ls st σ) (kf : qHo Rr B → qGo E M d Rr Γ (pc + 3) ls st σ) : qGo E M d Rr Γ pc ls (jV E.1 1 y :: jV E.1 1 x :: st) σ := qg_icmp_gt tgt hx hy hd ht (fun z => kt (by rwa [if_pos z] at hF)) (fun z => kf (by rwa [if_neg z] at hF))
theorem qi_icmp_le (tgt : Nat) {x y off : Int} {A B : qO} (hx : jR 1 x) (hy : jR 1 y) (hF : qHo Rr (if x ≤ y then A else B)) (hd : decode M.2.1 pc = .ok (.if_icmp .le off, 3)) (ht : (pc : Int) + off = (tgt : Int)) (kt : qHo Rr A → qGo E M d Rr Γ tgt ls st σ) (kf : qHo Rr B → qGo E M d Rr Γ (pc + 3) ls st σ) : qGo E M d Rr Γ pc ls (jV E.1 1 y :: jV E.1 1 x :: st) σ := qg_icmp_le tgt hx hy hd ht (fun z => kt (by rwa [if_pos z] at hF)) (fun z => kf (by rwa [if_neg z] at hF))
theorem qi_icmp_ne (tgt : Nat) {x y off : Int} {A B : qO} (hx : jR 1 x) (hy : jR 1 y) (hF : qHo Rr (if x = y then B else A)) (hd : decode M.2.1 pc = .ok (.if_icmp .ne off, 3)) (ht : (pc : Int) + off = (tgt : Int)) (kt : qHo Rr A → qGo E M d Rr Γ tgt ls st σ) (kf : qHo Rr B → qGo E M d Rr Γ (pc + 3) ls st σ) : qGo E M d Rr Γ pc ls (jV E.1 1 y :: jV E.1 1 x :: st) σ := qg_icmp_ne tgt hx hy hd ht (fun z => kt (by rwa [if_neg z] at hF)) (fun z => kf (by rwa [if_pos z] at hF))
theorem qi_if_eq (tgt : Nat) {x off : Int} {A B : qO} (hx : jR 1 x) (hF : qHo Rr (if x = 0 then A else B)) (hd : decode M.2.1 pc = .ok (.ifCond .eq off, 3)) (ht : (pc : Int) + off = (tgt : Int)) (kt : qHo Rr A → qGo E M d Rr Γ tgt ls st σ) (kf : qHo Rr B → qGo E M d Rr Γ (pc + 3) ls st σ) : qGo E M d Rr Γ pc ls (jV E.1 1 x :: st) σ := qg_if_eq tgt hx hd ht (fun z => kt (by rwa [if_pos z] at hF)) (fun z => kf (by rwa [if_neg z] at hF))
theorem qi_if_lt (tgt : Nat) {x off : Int} {A B : qO} (hx : jR 1 x) (hF : qHo Rr (if x < 0 then A else B)) (hd : decode M.2.1 pc = .ok (.ifCond .lt off, 3)) (ht : (pc : Int) + off = (tgt : Int)) (kt : qHo Rr A → qGo E M d Rr Γ tgt ls st σ) (kf : qHo Rr B → qGo E M d Rr Γ (pc + 3) ls st σ) : qGo E M d Rr Γ pc ls (jV E.1 1 x :: st) σ := qg_if_lt tgt hx hd ht (fun z => kt (by rwa [if_pos z] at hF)) (fun z => kf (by rwa [if_neg z] at hF))
theorem qi_if_ge (tgt : Nat) {x off : Int} {A B : qO} (hx : jR 1 x) (hF : qHo Rr (if 0 ≤ x then A else B)) (hd : decode M.2.1 pc = .ok (.ifCond .ge off, 3)) (ht : (pc : Int) + off = (tgt : Int)) (kt : qHo Rr A → qGo E M d Rr Γ tgt ls st σ) (kf : qHo Rr B → qGo E M d Rr Γ (pc + 3) ls st σ) : qGo E M d Rr Γ pc ls (jV E.1 1 x :: st) σ := qg_if_ge tgt hx hd ht (fun z => kt (by rwa [if_pos z] at hF)) (fun z => kf (by rwa [if_neg z] at hF))
theorem qi_if_gt (tgt : Nat) {x off : Int} {A B : qO} (hx : jR 1 x) (hF : qHo Rr (if 0 < x then A else B)) (hd : decode M.2.1 pc = .ok (.ifCond .gt off, 3)) (ht : (pc : Int) + off = (tgt : Int)) (kt : qHo Rr A → qGo E M d Rr Γ tgt ls st σ) (kf : qHo Rr B → qGo E M d Rr Γ (pc + 3) ls st σ) : qGo E M d Rr Γ pc ls (jV E.1 1 x :: st) σ := qg_if_gt tgt hx hd ht (fun z => kt (by rwa [if_pos z] at hF)) (fun z => kf (by rwa [if_neg z] at hF))
theorem qi_if_le (tgt : Nat) {x off : Int} {A B : qO} (hx : jR 1 x) (hF : qHo Rr (if x ≤ 0 then A else B)) (hd : decode M.2.1 pc = .ok (.ifCond .le off, 3)) (ht : (pc : Int) + off = (tgt : Int)) (kt : qHo Rr A → qGo E M d Rr Γ tgt ls st σ) (kf : qHo Rr B → qGo E M d Rr Γ (pc + 3) ls st σ) : qGo E M d Rr Γ pc ls (jV E.1 1 x :: st) σ := qg_if_le tgt hx hd ht (fun z => kt (by rwa [if_pos z] at hF)) (fun z => kf (by rwa [if_neg z] at hF))
theorem qi_if_ne (tgt : Nat) {x off : Int} {A B : qO} (hx : jR 1 x) (hF : qHo Rr (if x = 0 then B else A)) (hd : decode M.2.1 pc = .ok (.ifCond .ne off, 3)) (ht : (pc : Int) + off = (tgt : Int)) (kt : qHo Rr A → qGo E M d Rr Γ tgt ls st σ) (kf : qHo Rr B → qGo E M d Rr Γ (pc + 3) ls st σ) : qGo E M d Rr Γ pc ls (jV E.1 1 x :: st) σ := qg_if_ne tgt hx hd ht (fun z => kt (by rwa [if_neg z] at hF)) (fun z => kf (by rwa [if_pos z] at hF))
theorem qi_reti {v : Int} (hret : M.2.2.2 = some .int) (hv : jR 1 v) (hF : qHo Rr (qRet v σ)) (hd : decode M.2.1 pc = .ok (.ireturn, 1)) : qGo E M d Rr Γ pc ls [jV E.1 1 v] σ := by
  have := qg_ret (E := E) (M := M) (d := d) (Γ := Γ) (pc := pc) (ls := ls) (σ := σ) (v := v) (Rr := Rr) (by simp only [jRi, hret]; exact hd) (by rw [hret]; exact hv) (qHo_ret hF)
  rw [hret] at this
  exact this
theorem qi_retz {v : Int} (hret : M.2.2.2 = some .boolean) (hv : jR 5 v) (hF : qHo Rr (qRet v σ)) (hd : decode M.2.1 pc = .ok (.ireturn, 1)) : qGo E M d Rr Γ pc ls [jV E.1 1 v] σ := by
  have := qg_ret (E := E) (M := M) (d := d) (Γ := Γ) (pc := pc) (ls := ls) (σ := σ) (v := v) (Rr := Rr) (by simp only [jRi, hret]; exact hd) (by rw [hret]; exact hv) (qHo_ret hF)
  rw [hret] at this
  exact this
theorem qHo_c1 {f : jMem → jO} {K : Int → qMem → qO} (h : qHo Rr (qBd (qC1 f σ) K)) : jHo (fun v s => qHo Rr (K v (s, σ.2))) (f σ.1) := by
  unfold qC1 at h
  cases e : f σ.1 with
  | none => rw [e] at h; exact qHo_none h
  | some q => rw [e] at h; exact ⟨q.1, q.2, rfl, h⟩
theorem qHo_c2 {f : jMem → jO} {K : Int → qMem → qO} (h : qHo Rr (qBd (qC2 f σ) K)) : jHo (fun v s => qHo Rr (K v (σ.1, s, σ.2.2))) (f σ.2.1) := by
  unfold qC2 at h
  cases e : f σ.2.1 with
  | none => rw [e] at h; exact qHo_none h
  | some q => rw [e] at h; exact ⟨q.1, q.2, rfl, h⟩
theorem qi_callS1ic {M' : jM} {κs : List Nat} {d' idx : Nat} {g : List Int → jMem → jO} (vs : List Int) (st0 : List Value) {f : jMem → jO} {K : Int → qMem → qO} (hM : jOk M' (3 :: κs) d' (jFn g)) (hw0 : Cond.methodLink M.1.cls idx M'.1 ∈ jgw) (hw : jmS M' (3 :: κs).length) (hret : M'.2.2.2 = some .int) (hs : st = (jAs E.1 (3 :: κs) (0 :: vs)).reverse ++ st0) (hcat : (st0.map fun v => v.category).sum ≤ 8) (ha : jRa (3 :: κs) (0 :: vs)) (hl : vs.length = κs.length) (hX : ∀ s, jCz (g (0 :: vs) s) = f s) (hd' : d' + 1 ≤ d) (hF : qHo Rr (qBd (qC1 f σ) K)) (hd : decode M.2.1 pc = .ok (.invokestatic idx, 3)) (k : ∀ (v : Int) (s : qMem), jR 1 v → qHo Rr (K v s) → qGo E M d Rr Γ (pc + 3) ls (jV E.1 1 v :: st0) s) : qGo E M d Rr Γ pc ls st σ := by
  subst hs
  have hF2 := qHo_c1 hF
  rw [← hX] at hF2
  replace hF2 := jHo_cz hF2
  refine qg_callS1 (P := fun v s => qHo Rr (K v (jCan s, σ.2))) hM hd' hcat ⟨hw0, hw.1⟩ hw.2 hd ha (by simp [hl]) hF2 ?_
  intro v s hP hv
  rw [hret] at hv ⊢
  exact qGo_can1 (k v _ hv hP)
theorem qi_callS2ic {M' : jM} {κs : List Nat} {d' idx : Nat} {g : List Int → jMem → jO} (vs : List Int) (st0 : List Value) {f : jMem → jO} {K : Int → qMem → qO} (hM : jOk M' (3 :: κs) d' (jFn g)) (hw0 : Cond.methodLink M.1.cls idx M'.1 ∈ jgw) (hw : jmS M' (3 :: κs).length) (hret : M'.2.2.2 = some .int) (hs : st = (jAs E.1 (6 :: κs) (0 :: vs)).reverse ++ st0) (hcat : (st0.map fun v => v.category).sum ≤ 8) (ha : jRa (3 :: κs) (0 :: vs)) (hl : vs.length = κs.length) (hE : ∀ E E' : jEnv, jAs E κs vs = jAs E' κs vs) (hX : ∀ s, jCz (g (0 :: vs) s) = f s) (hd' : d' + 1 ≤ d) (hF : qHo Rr (qBd (qC2 f σ) K)) (hd : decode M.2.1 pc = .ok (.invokestatic idx, 3)) (k : ∀ (v : Int) (s : qMem), jR 1 v → qHo Rr (K v s) → qGo E M d Rr Γ (pc + 3) ls (jV E.1 1 v :: st0) s) : qGo E M d Rr Γ pc ls st σ := by
  subst hs
  have hF2 := qHo_c2 hF
  rw [← hX] at hF2
  replace hF2 := jHo_cz hF2
  refine qg_callS2 (P := fun v s => qHo Rr (K v (σ.1, jCan s, σ.2.2))) hM hd' hcat ⟨hw0, hw.1⟩ hw.2 hd ha hl hE (fun E E' v => by rw [hret]; rfl) hF2 ?_
  intro v s hP hv
  rw [hret] at hv ⊢
  exact qGo_can2 (k v _ hv hP)
theorem qi_callS2z {M' : jM} {κs : List Nat} {d' idx : Nat} {g : List Int → jMem → jO} (vs : List Int) (st0 : List Value) {f : jMem → jO} {K : Int → qMem → qO} (hM : jOk M' (3 :: κs) d' (jFn g)) (hw0 : Cond.methodLink M.1.cls idx M'.1 ∈ jgw) (hw : jmS M' (3 :: κs).length) (hret : M'.2.2.2 = some .boolean) (hs : st = (jAs E.1 (6 :: κs) (0 :: vs)).reverse ++ st0) (hcat : (st0.map fun v => v.category).sum ≤ 8) (ha : jRa (3 :: κs) (0 :: vs)) (hl : vs.length = κs.length) (hE : ∀ E E' : jEnv, jAs E κs vs = jAs E' κs vs) (hX : ∀ s, g (0 :: vs) s = f s) (hd' : d' + 1 ≤ d) (hF : qHo Rr (qBd (qC2 f σ) K)) (hd : decode M.2.1 pc = .ok (.invokestatic idx, 3)) (k : ∀ (v : Int) (s : qMem), jR 5 v → qHo Rr (K v s) → qGo E M d Rr Γ (pc + 3) ls (jV E.1 1 v :: st0) s) : qGo E M d Rr Γ pc ls st σ := by
  subst hs
  have hF2 := qHo_c2 hF
  rw [← hX] at hF2
  refine qg_callS2 (P := fun v s => qHo Rr (K v (σ.1, s, σ.2.2))) hM hd' hcat ⟨hw0, hw.1⟩ hw.2 hd ha hl hE (fun E E' v => by rw [hret]; rfl) hF2 ?_
  intro v s hP hv
  rw [hret] at hv ⊢
  exact k v _ hv hP
theorem qi_callV1i {M' : jM} {κs : List Nat} {d' idx : Nat} {g : List Int → jMem → jO} (vs : List Int) (st0 : List Value) {f : jMem → jO} {K : Int → qMem → qO} (hM : jOk M' (3 :: κs) d' (jFn g)) (hw0 : Cond.methodLink M.1.cls idx M'.1 ∈ jgw) (hw : jmV M' κs.length 7) (hret : M'.2.2.2 = some .int) (hs : st = (jAs E.1 (3 :: κs) (0 :: vs)).reverse ++ st0) (hcat : (st0.map fun v => v.category).sum ≤ 8) (ha : jRa (3 :: κs) (0 :: vs)) (hl : vs.length = κs.length) (hX : ∀ s, g (0 :: vs) s = f s) (hd' : d' + 1 ≤ d) (hF : qHo Rr (qBd (qC1 f σ) K)) (hd : decode M.2.1 pc = .ok (.invokevirtual idx, 3)) (k : ∀ (v : Int) (s : qMem), jR 1 v → qHo Rr (K v s) → qGo E M d Rr Γ (pc + 3) ls (jV E.1 1 v :: st0) s) : qGo E M d Rr Γ pc ls st σ := by
  subst hs
  have hF2 := qHo_c1 hF
  rw [← hX] at hF2
  obtain ⟨w1, w2, w3, C, T, N, w4, w5, w6⟩ := hw
  refine qg_callV1 (P := fun v s => qHo Rr (K v (s, σ.2))) hM hd' hcat ⟨hw0, w1⟩ w2 w3 w4 w5 w6 hd ha hl jcl_0 hF2 ?_
  intro v s hP hv
  rw [hret] at hv ⊢
  exact k v _ hv hP
theorem qi_callV1ic {M' : jM} {κs : List Nat} {d' idx : Nat} {g : List Int → jMem → jO} (vs : List Int) (st0 : List Value) {f : jMem → jO} {K : Int → qMem → qO} (hM : jOk M' (3 :: κs) d' (jFn g)) (hw0 : Cond.methodLink M.1.cls idx M'.1 ∈ jgw) (hw : jmV M' κs.length 7) (hret : M'.2.2.2 = some .int) (hs : st = (jAs E.1 (3 :: κs) (0 :: vs)).reverse ++ st0) (hcat : (st0.map fun v => v.category).sum ≤ 8) (ha : jRa (3 :: κs) (0 :: vs)) (hl : vs.length = κs.length) (hX : ∀ s, jCz (g (0 :: vs) s) = f s) (hd' : d' + 1 ≤ d) (hF : qHo Rr (qBd (qC1 f σ) K)) (hd : decode M.2.1 pc = .ok (.invokevirtual idx, 3)) (k : ∀ (v : Int) (s : qMem), jR 1 v → qHo Rr (K v s) → qGo E M d Rr Γ (pc + 3) ls (jV E.1 1 v :: st0) s) : qGo E M d Rr Γ pc ls st σ := by
  subst hs
  have hF2 := qHo_c1 hF
  rw [← hX] at hF2
  replace hF2 := jHo_cz hF2
  obtain ⟨w1, w2, w3, C, T, N, w4, w5, w6⟩ := hw
  refine qg_callV1 (P := fun v s => qHo Rr (K v (jCan s, σ.2))) hM hd' hcat ⟨hw0, w1⟩ w2 w3 w4 w5 w6 hd ha hl jcl_0 hF2 ?_
  intro v s hP hv
  rw [hret] at hv ⊢
  exact qGo_can1 (k v _ hv hP)
theorem qi_callV2i {M' : jM} {κs : List Nat} {d' idx : Nat} {g : List Int → jMem → jO} (vs : List Int) (st0 : List Value) {f : jMem → jO} {K : Int → qMem → qO} (hM : jOk M' (3 :: κs) d' (jFn g)) (hw0 : Cond.methodLink M.1.cls idx M'.1 ∈ jgw) (hw : jmV M' κs.length 7) (hret : M'.2.2.2 = some .int) (hs : st = (jAs E.1 (6 :: κs) (0 :: vs)).reverse ++ st0) (hcat : (st0.map fun v => v.category).sum ≤ 8) (ha : jRa (3 :: κs) (0 :: vs)) (hl : vs.length = κs.length) (hE : ∀ E E' : jEnv, jAs E κs vs = jAs E' κs vs) (hX : ∀ s, g (0 :: vs) s = f s) (hd' : d' + 1 ≤ d) (hF : qHo Rr (qBd (qC2 f σ) K)) (hd : decode M.2.1 pc = .ok (.invokevirtual idx, 3)) (k : ∀ (v : Int) (s : qMem), jR 1 v → qHo Rr (K v s) → qGo E M d Rr Γ (pc + 3) ls (jV E.1 1 v :: st0) s) : qGo E M d Rr Γ pc ls st σ := by
  subst hs
  have hF2 := qHo_c2 hF
  rw [← hX] at hF2
  obtain ⟨w1, w2, w3, C, T, N, w4, w5, w6⟩ := hw
  refine qg_callV2 (P := fun v s => qHo Rr (K v (σ.1, s, σ.2.2))) hM hd' hcat ⟨hw0, w1⟩ w2 w3 w4 w5 hd ha hl hE (fun E E' v => by rw [hret]; rfl) hF2 ?_
  intro v s hP hv
  rw [hret] at hv ⊢
  exact k v _ hv hP
theorem qi_cell {k : Int} {K : Int → qO} (hM : M.1.name = "law" ∧ M.1.cls = RL) (hLE : qxl E < 2147483648) (hk : jR 1 k) (hdd : 1 ≤ d) (hst : (st.map fun v => v.category).sum ≤ 8) (hF : qHo Rr (qGd (0 ≤ k) (qLet (qCell (qxs E) (qxl E) k) K))) (hd : decode M.2.1 pc = .ok (.invokestatic 62, 3)) (kn : ∀ w, jR 1 w → qHo Rr (K w) → qGo E M d Rr Γ (pc + 3) ls (jV E.1 1 w :: st) σ) : qGo E M d Rr Γ pc ls (jV E.1 1 k :: jV E.1 4 0 :: st) σ := qg_cell hM hLE (qHo_as hF).1 hk hdd hst hd (kn _ qCell_R (qHo_as hF).2)
theorem qi_fld {a x : Int} {K : Int → qO} (ha : jR 7 a) (hx : jR 1 x) (hF : qHo Rr (qGd (a = σ.2.2.1 ∧ 0 ≤ x ∧ x < 34) (qLet (σ.2.2.2 x) K))) (hd : decode M.2.1 pc = .ok (.iaload, 1)) (k : ∀ w, jR 1 w → qHo Rr (K w) → qGo E M d Rr Γ (pc + 1) ls (jV E.1 1 w :: st) σ) : qGo E M d Rr Γ pc ls (jV E.1 1 x :: jV E.1 7 a :: st) σ := by
  obtain ⟨⟨h1, h2, h3⟩, hF⟩ := qHo_as hF
  exact qg_fld h1 ha hx h2 h3 hd (fun z => k _ z hF)
theorem qi_fst {a x v : Int} {K : qMem → qO} (ha : jR 7 a) (hx : jR 1 x) (hv : jR 1 v) (hF : qHo Rr (qGd (a = σ.2.2.1 ∧ 0 ≤ x ∧ x < 34) (qLet ((σ.1, σ.2.1, σ.2.2.1, fun j => if j = x then v else σ.2.2.2 j) : qMem) K))) (hd : decode M.2.1 pc = .ok (.iastore, 1)) (k : ∀ s, qHo Rr (K s) → qGo E M d Rr Γ (pc + 1) ls st s) : qGo E M d Rr Γ pc ls (jV E.1 1 v :: jV E.1 1 x :: jV E.1 7 a :: st) σ := by
  obtain ⟨⟨h1, h2, h3⟩, hF⟩ := qHo_as hF
  exact qg_fst h1 ha hx hv h2 h3 hd (k _ hF)
end

/-! ===== cells, calls, ends ===== -/
section
variable {E : jEnv} {M : jM} {d : Nat} {Rr : Int → jMem → Prop} {Γ : List Nat} {pc : Nat} {ls : List Int} {st : List Value} {σ : jMem}
def jik (r : Int) : Int := if (jSh r.toNat).1 = 0 then ((jSh r.toNat).2.1 : Int) else 0
def jjk (r : Int) : Int := if (jSh r.toNat).1 = 1 then ((jSh r.toNat).2.1 : Int) else 0
def jzk (r : Int) : Int := if (jSh r.toNat).1 = 2 then ((jSh r.toNat).2.1 : Int) else 0
def jrk (r : Int) (t : Nat) : Int := if (jSh r.toNat).1 = 3 ∧ (jSh r.toNat).2.1 = t then ((jSh r.toNat).2.2.length : Int) else 0
def jrf (r j : Int) : Int := (((jSh r.toNat).2.2.getD j.toNat (0, 0)).2 : Int)
def jln (r : Int) : Int := if (jSh r.toNat).1 = 3 then ((jSh r.toNat).2.2.length : Int) else if (jSh r.toNat).1 < 3 then ((jSh r.toNat).2.1 : Int) else -1
def jcl (r : Int) : Nat := if (jSh r.toNat).1 = 4 then (jSh r.toNat).2.1 else 99
/-- the kinds of a class's fields -/
def jck : List (List Nat) := [[3, 3, 3, 1, 1], [3, 3, 3, 1, 1, 1], [3, 3, 3, 3, 3, 3, 3, 3, 3, 1, 1, 1, 1, 2], [5, 5], [3, 1, 1], [3, 3, 3, 1], [3, 3, 3, 1, 1], [3, 3, 3, 3, 3, 3, 3, 3, 1], [3, 3, 3, 3, 3, 3, 2, 3, 3, 3, 5, 5, 1, 3, 3, 3, 3, 3, 3, 3, 1, 3, 3, 3, 3, 3, 3, 1, 3, 1, 1, 1]]
theorem jTab_ck : ∀ k, k < 77 → (jSh k).1 = 4 → (jSh k).2.2.map (·.1) = jck.getD (jSh k).2.1 [] := by decide +kernel
theorem jTab_rf : ∀ k, k < 77 → ∀ q ∈ (jSh k).2.2, q.2 < 77 := by decide +kernel
theorem jTab_k : ∀ k, k < 77 → (jSh k).1 = 0 ∨ (jSh k).1 = 1 ∨ (jSh k).1 = 2 ∨ (jSh k).1 = 3 ∨ (jSh k).1 = 4 := by decide +kernel
theorem jTab_n : ∀ k, k < 77 → (jSh k).2.1 < 10000 ∧ (jSh k).2.2.length < 100 := by decide +kernel
theorem jrf_lt {r : Int} (hr : jR 3 r) (j : Int) : jR 3 (jrf r j) := by
  have h1 := hr.1
  have h2 := hr.2
  refine ⟨Int.natCast_nonneg _, ?_⟩
  unfold jrf
  by_cases hj : j.toNat < (jSh r.toNat).2.2.length
  · have := jTab_rf r.toNat (by omega) ((jSh r.toNat).2.2.getD j.toNat (0, 0)) (by simp [hj])
    omega
  · simp [List.getElem?_eq_none (by omega : (jSh r.toNat).2.2.length ≤ j.toNat)]
theorem jnn {r : Int} (h : 0 ≤ r) : ∃ q : Nat, r = (q : Int) := ⟨r.toNat, (Int.toNat_of_nonneg h).symm⟩
theorem jW_i {k : Nat} (hk : k < 77) (hs : (jSh k).1 = 0) : (jW E σ)[k]? = some (E.1 k, .inl (E.2.2.1 0, (jSh k).2.1, .inl fun j : Nat => Int32.ofInt (σ k j))) := by rw [jW_at E σ hk]; simp [jCell, hs]
theorem jW_l {k : Nat} (hk : k < 77) (hs : (jSh k).1 = 1) : (jW E σ)[k]? = some (E.1 k, .inl (E.2.2.1 1, (jSh k).2.1, .inr (.inl fun j : Nat => Int64.ofInt (σ k j)))) := by rw [jW_at E σ hk]; simp [jCell, hs]
theorem jW_z {k : Nat} (hk : k < 77) (hs : (jSh k).1 = 2) : (jW E σ)[k]? = some (E.1 k, .inl (E.2.2.1 2, (jSh k).2.1, .inl fun j : Nat => Int32.ofInt (σ k j))) := by rw [jW_at E σ hk]; simp [jCell, hs]
theorem jW_r {k : Nat} (hk : k < 77) (hs : (jSh k).1 = 3) : (jW E σ)[k]? = some (E.1 k, .inl (E.2.2.1 (jSh k).2.1, (jSh k).2.2.length, .inr (.inr (.inr (.inr fun j : Nat => some (E.1 ((jSh k).2.2.getD j (0, 0)).2)))))) := by rw [jW_at E σ hk]; simp [jCell, hs]
theorem jW_o {k : Nat} (hk : k < 77) (hs : (jSh k).1 = 4) : (jW E σ)[k]? = some (E.1 k, .inr ((jSh k).2.1, (List.range (jSh k).2.2.length).map fun j : Nat => jFv E ((jSh k).2.2.getD j (0, 0)) (σ k j))) := by rw [jW_at E σ hk]; simp [jCell, hs]
theorem jg_iaload {r x : Int} (hr : jR 3 r) (hxx : jR 1 x) (h0 : 0 ≤ x) (h1 : x < jik r) (hd : decode M.2.1 pc = .ok (.iaload, 1)) (k : jR 1 (σ r x) → jGo E M d Rr Γ (pc + 1) ls (jV E 1 (σ r x) :: st) σ) : jGo E M d Rr Γ pc ls (jV E 1 x :: jV E 3 r :: st) σ := by
  intro A0 H0 p l e R s m args below meth c cells slots Q C H locs sl hP hR hS hL
  have K := fun z => k z A0 H0 p l e R s m args below meth c cells slots Q C
  obtain ⟨⟨hx, hb, hml, hown, hts⟩, hK, ⟨hr1, hr2, hr3, hr4⟩, hD, hsc, hret⟩ := C
  obtain ⟨q, rfl⟩ := jnn hr.1
  obtain ⟨j, rfl⟩ := jnn h0
  have hk : q < 77 := by have := hr.2; omega
  have hs : (jSh q).1 = 0 := by
    by_cases h : (jSh q).1 = 0
    · exact h
    · simp only [jik, Int.toNat_natCast, if_neg h] at h1; omega
  simp only [jik, Int.toNat_natCast, if_pos hs] at h1
  refine va_iald hx hb hK hP q 0 (jW_i hk hs) rfl (jin hxx h0 h1) hd ?_
  rw [jnat hxx]
  have hv := hR q j hk
  simp only [jK, hs, if_true] at hv
  exact K hv H locs sl hP hR hS hL
theorem jg_laload {r x : Int} (hr : jR 3 r) (hxx : jR 1 x) (h0 : 0 ≤ x) (h1 : x < jjk r) (hd : decode M.2.1 pc = .ok (.laload, 1)) (k : jR 2 (σ r x) → jGo E M d Rr Γ (pc + 1) ls (jV E 2 (σ r x) :: st) σ) : jGo E M d Rr Γ pc ls (jV E 1 x :: jV E 3 r :: st) σ := by
  intro A0 H0 p l e R s m args below meth c cells slots Q C H locs sl hP hR hS hL
  have K := fun z => k z A0 H0 p l e R s m args below meth c cells slots Q C
  obtain ⟨⟨hx, hb, hml, hown, hts⟩, hK, ⟨hr1, hr2, hr3, hr4⟩, hD, hsc, hret⟩ := C
  obtain ⟨q, rfl⟩ := jnn hr.1
  obtain ⟨j, rfl⟩ := jnn h0
  have hk : q < 77 := by have := hr.2; omega
  have hs : (jSh q).1 = 1 := by
    by_cases h : (jSh q).1 = 1
    · exact h
    · simp only [jjk, Int.toNat_natCast, if_neg h] at h1; omega
  simp only [jjk, Int.toNat_natCast, if_pos hs] at h1
  refine va_lald hx hb hK hP q 1 (jW_l hk hs) rfl (jin hxx h0 h1) hd ?_
  rw [jnat hxx]
  have hv := hR q j hk
  simp only [jK, hs] at hv
  exact K hv H locs sl hP hR hS hL
theorem jg_zaload {r x : Int} (hr : jR 3 r) (hxx : jR 1 x) (h0 : 0 ≤ x) (h1 : x < jzk r) (hd : decode M.2.1 pc = .ok (.baload, 1)) (k : jR 5 (σ r x) → jGo E M d Rr Γ (pc + 1) ls (jV E 1 (σ r x) :: st) σ) : jGo E M d Rr Γ pc ls (jV E 1 x :: jV E 3 r :: st) σ := by
  intro A0 H0 p l e R s m args below meth c cells slots Q C H locs sl hP hR hS hL
  have K := fun z => k z A0 H0 p l e R s m args below meth c cells slots Q C
  obtain ⟨⟨hx, hb, hml, hown, hts⟩, hK, ⟨hr1, hr2, hr3, hr4⟩, hD, hsc, hret⟩ := C
  obtain ⟨q, rfl⟩ := jnn hr.1
  obtain ⟨j, rfl⟩ := jnn h0
  have hk : q < 77 := by have := hr.2; omega
  have hs : (jSh q).1 = 2 := by
    by_cases h : (jSh q).1 = 2
    · exact h
    · simp only [jzk, Int.toNat_natCast, if_neg h] at h1; omega
  simp only [jzk, Int.toNat_natCast, if_pos hs] at h1
  refine va_zald hx hb hK hP q 2 (jW_z hk hs) rfl (jin hxx h0 h1) hd ?_
  rw [jnat hxx]
  have hv := hR q j hk
  simp only [jK, hs] at hv
  exact K hv H locs sl hP hR hS hL
theorem jg_aaload {r x : Int} (t t0 : Nat) {Cn : String} (hr : jR 3 r) (hxx : jR 1 x) (h0 : 0 ≤ x) (h1 : x < jrk r t) (ht : (t0 = 3 ∧ t = 5 ∧ Cn = "TileDesk$Rack") ∨ (t0 = 4 ∧ t = 6 ∧ Cn = "TileDesk$Hand")) (hd : decode M.2.1 pc = .ok (.aaload, 1)) (k : jGo E M d Rr Γ (pc + 1) ls (jV E 3 (jrf r x) :: st) σ) : jGo E M d Rr Γ pc ls (jV E 1 x :: jV E 3 r :: st) σ := by
  intro A0 H0 p l e R s m args below meth c cells slots Q C H locs sl hP hR hS hL
  have K := k A0 H0 p l e R s m args below meth c cells slots Q C
  obtain ⟨⟨hx, hb, hml, hown, hts⟩, hK, ⟨hr1, hr2, hr3, hr4⟩, hD, hsc, hret⟩ := C
  obtain ⟨q, rfl⟩ := jnn hr.1
  obtain ⟨j, rfl⟩ := jnn h0
  have hk : q < 77 := by have := hr.2; omega
  have hs : (jSh q).1 = 3 ∧ (jSh q).2.1 = t := by
    by_cases h : (jSh q).1 = 3 ∧ (jSh q).2.1 = t
    · exact h
    · simp only [jrk, Int.toNat_natCast, if_neg h] at h1; omega
  simp only [jrk, Int.toNat_natCast, if_pos hs] at h1
  have ht' : (jTy E)[t0]? = some (E.2.2.1 (jSh q).2.1, .object Cn) := by
    rw [hs.2]
    rcases ht with ⟨rfl, rfl, rfl⟩ | ⟨rfl, rfl, rfl⟩ <;> rfl
  refine va_aldq hx hb hK hP q t0 (jW_r hk hs.1) ht' (jin hxx h0 h1) hd ?_
  rw [jnat hxx]
  exact K H locs sl hP hR hS hL
theorem jg_alen {r : Int} (hr : jR 3 r) (h1 : 0 ≤ jln r) (hd : decode M.2.1 pc = .ok (.arraylength, 1)) (k : jR 1 (jln r) → jGo E M d Rr Γ (pc + 1) ls (jV E 1 (jln r) :: st) σ) : jGo E M d Rr Γ pc ls (jV E 3 r :: st) σ := by
  intro A0 H0 p l e R s m args below meth c cells slots Q C H locs sl hP hR hS hL
  have K := fun z => k z A0 H0 p l e R s m args below meth c cells slots Q C
  obtain ⟨⟨hx, hb, hml, hown, hts⟩, hK, ⟨hr1, hr2, hr3, hr4⟩, hD, hsc, hret⟩ := C
  obtain ⟨q, rfl⟩ := jnn hr.1
  have hk : q < 77 := by have := hr.2; omega
  have hn := jTab_n q hk
  have e1 : ∀ n : Nat, Int32.ofNat n = Int32.ofInt (n : Int) := fun n => rfl
  rcases jTab_k q hk with hs | hs | hs | hs | hs
  · have e2 : jln (q : Int) = ((jSh q).2.1 : Int) := by simp [jln, hs]
    rw [e2] at K
    exact va_alen hx hb hK hP q 0 (jW_i hk hs) (ty := .int) rfl (e1 _) hd (K ⟨by omega, by omega⟩ H locs sl hP hR hS hL)
  · have e2 : jln (q : Int) = ((jSh q).2.1 : Int) := by simp [jln, hs]
    rw [e2] at K
    exact va_alen hx hb hK hP q 1 (jW_l hk hs) (ty := .long) rfl (e1 _) hd (K ⟨by omega, by omega⟩ H locs sl hP hR hS hL)
  · have e2 : jln (q : Int) = ((jSh q).2.1 : Int) := by simp [jln, hs]
    rw [e2] at K
    exact va_alen hx hb hK hP q 2 (jW_z hk hs) (ty := .boolean) rfl (e1 _) hd (K ⟨by omega, by omega⟩ H locs sl hP hR hS hL)
  · have h2 : (jSh q).2.1 = 5 ∨ (jSh q).2.1 = 6 := by
      have : ∀ q, q < 77 → (jSh q).1 = 3 → (jSh q).2.1 = 5 ∨ (jSh q).2.1 = 6 := by decide +kernel
      exact this q hk hs
    have e2 : jln (q : Int) = ((jSh q).2.2.length : Int) := by simp [jln, hs]
    rw [e2] at K
    have hw := jW_r (E := E) (σ := σ) hk hs
    rcases h2 with h2 | h2
    · rw [h2] at hw
      exact va_alen hx hb hK hP q 3 hw (ty := .object "TileDesk$Rack") rfl (e1 _) hd (K ⟨by omega, by omega⟩ H locs sl hP hR hS hL)
    · rw [h2] at hw
      exact va_alen hx hb hK hP q 4 hw (ty := .object "TileDesk$Hand") rfl (e1 _) hd (K ⟨by omega, by omega⟩ H locs sl hP hR hS hL)
  · simp [jln, hs] at h1
theorem jU_fun {α : Type} (g : Int → α) (k j : Nat) (v : Int) : (fun q : Nat => g (jU σ k j v k q)) = fun q : Nat => if q = j then g v else g (σ k q) := by
  funext q
  by_cases h : q = j
  · subst h; simp [jU]
  · have : ¬ ((q : Int) = (j : Int)) := by omega
    simp [jU, h, this]
theorem jg_iastore {r x v : Int} (hr : jR 3 r) (hxx : jR 1 x) (hv : jR 1 v) (h0 : 0 ≤ x) (h1 : x < jik r) (hd : decode M.2.1 pc = .ok (.iastore, 1)) (k : jGo E M d Rr Γ (pc + 1) ls st (jU σ r x v)) : jGo E M d Rr Γ pc ls (jV E 1 v :: jV E 1 x :: jV E 3 r :: st) σ := by
  intro A0 H0 p l e R s m args below meth c cells slots Q C H locs sl hP hR hS hL
  have K := k A0 H0 p l e R s m args below meth c cells slots Q C
  obtain ⟨⟨hx, hb, hml, hown, hts⟩, hK, ⟨hr1, hr2, hr3, hr4⟩, hD, hsc, hret⟩ := C
  obtain ⟨q, rfl⟩ := jnn hr.1
  obtain ⟨j, rfl⟩ := jnn h0
  have hk : q < 77 := by have := hr.2; omega
  have hs : (jSh q).1 = 0 := by
    by_cases h : (jSh q).1 = 0
    · exact h
    · simp only [jik, Int.toNat_natCast, if_neg h] at h1; omega
  simp only [jik, Int.toNat_natCast, if_pos hs] at h1
  refine va_iast hx hb hK hP (hD σ) hS q 0 (jW_i hk hs) rfl (jin hxx h0 h1) hd (fun H1 locs1 hP1 _ hS1 => ?_)
  refine K H1 locs1 sl ?_ (jRM_set hR fun i _ => by simp only [jK, hs, if_true]; exact hv) hS1 hL
  rw [jW_set (σ' := jU σ q j v) hk ?_ (fun q' h => jU_cell h)] at hP1
  · exact hP1
  · simp only [jCell, hs, if_true, jU_fun, jnat hxx, Int.toNat_natCast]
    rfl
theorem jg_lastore {r x v : Int} (hr : jR 3 r) (hxx : jR 1 x) (hv : jR 2 v) (h0 : 0 ≤ x) (h1 : x < jjk r) (hd : decode M.2.1 pc = .ok (.lastore, 1)) (k : jGo E M d Rr Γ (pc + 1) ls st (jU σ r x v)) : jGo E M d Rr Γ pc ls (jV E 2 v :: jV E 1 x :: jV E 3 r :: st) σ := by
  intro A0 H0 p l e R s m args below meth c cells slots Q C H locs sl hP hR hS hL
  have K := k A0 H0 p l e R s m args below meth c cells slots Q C
  obtain ⟨⟨hx, hb, hml, hown, hts⟩, hK, ⟨hr1, hr2, hr3, hr4⟩, hD, hsc, hret⟩ := C
  obtain ⟨q, rfl⟩ := jnn hr.1
  obtain ⟨j, rfl⟩ := jnn h0
  have hk : q < 77 := by have := hr.2; omega
  have hs : (jSh q).1 = 1 := by
    by_cases h : (jSh q).1 = 1
    · exact h
    · simp only [jjk, Int.toNat_natCast, if_neg h] at h1; omega
  simp only [jjk, Int.toNat_natCast, if_pos hs] at h1
  refine va_last hx hb hK hP (hD σ) hS q 1 (jW_l hk hs) rfl (jin hxx h0 h1) hd (fun H1 locs1 hP1 _ hS1 => ?_)
  refine K H1 locs1 sl ?_ (jRM_set hR fun i _ => by simp only [jK, hs]; exact hv) hS1 hL
  rw [jW_set (σ' := jU σ q j v) hk ?_ (fun q' h => jU_cell h)] at hP1
  · exact hP1
  · simp [jCell, hs, jU_fun, jnat hxx]
    rfl
theorem jg_zastore {r x v : Int} (hr : jR 3 r) (hxx : jR 1 x) (hv : jR 5 v) (h0 : 0 ≤ x) (h1 : x < jzk r) (hd : decode M.2.1 pc = .ok (.bastore, 1)) (k : jGo E M d Rr Γ (pc + 1) ls st (jU σ r x v)) : jGo E M d Rr Γ pc ls (jV E 1 v :: jV E 1 x :: jV E 3 r :: st) σ := by
  intro A0 H0 p l e R s m args below meth c cells slots Q C H locs sl hP hR hS hL
  have K := k A0 H0 p l e R s m args below meth c cells slots Q C
  obtain ⟨⟨hx, hb, hml, hown, hts⟩, hK, ⟨hr1, hr2, hr3, hr4⟩, hD, hsc, hret⟩ := C
  obtain ⟨q, rfl⟩ := jnn hr.1
  obtain ⟨j, rfl⟩ := jnn h0
  have hk : q < 77 := by have := hr.2; omega
  have hs : (jSh q).1 = 2 := by
    by_cases h : (jSh q).1 = 2
    · exact h
    · simp only [jzk, Int.toNat_natCast, if_neg h] at h1; omega
  simp only [jzk, Int.toNat_natCast, if_pos hs] at h1
  refine va_zast hx hb hK hP (hD σ) hS q 2 (jW_z hk hs) rfl (jin hxx h0 h1) hd (fun H1 locs1 hP1 _ hS1 => ?_)
  have hnar : vp_nar .boolean (Int32.ofInt v) = Int32.ofInt v := by
    have h1 := hv.1
    have h2 := hv.2
    rcases (by omega : v = 0 ∨ v = 1) with rfl | rfl <;> decide
  rw [hnar] at hP1
  refine K H1 locs1 sl ?_ (jRM_set hR fun i _ => by simp only [jK, hs]; exact hv) hS1 hL
  rw [jW_set (σ' := jU σ q j v) hk ?_ (fun q' h => jU_cell h)] at hP1
  · exact hP1
  · simp [jCell, hs, jU_fun, jnat hxx]
    rfl
/-- what is fixed of a class -/
def jcw (ci : Nat) (C : String) (T : u_T) (N : Nat) : Prop := vwCl[ci]? = some (C, T, N) ∧ (∀ w ∈ u_ws C T N, w ∈ jgw) ∧ (∀ k, k < N → (T k).1 = C)
theorem jObj {r : Int} {ci : Nat} (hr : jR 3 r) (hci : ci < 20) (hcl : jcl r = ci) : ∃ q : Nat, r = (q : Int) ∧ q < 77 ∧ (jSh q).1 = 4 ∧ (jSh q).2.1 = ci ∧ (jSh q).2.2.map (·.1) = jck.getD ci [] := by
  obtain ⟨q, rfl⟩ := jnn hr.1
  have hk : q < 77 := by have := hr.2; omega
  have hs : (jSh q).1 = 4 := by
    by_cases h : (jSh q).1 = 4
    · exact h
    · simp only [jcl, Int.toNat_natCast, if_neg h] at hcl; omega
  have h2 : (jSh q).2.1 = ci := by simpa only [jcl, Int.toNat_natCast, if_pos hs] using hcl
  exact ⟨q, rfl, hk, hs, h2, by rw [jTab_ck q hk hs, h2]⟩
theorem jck_at {l : List (Nat × Nat)} {L : List Nat} {f κ : Nat} (h : l.map (·.1) = L) (hκ : L[f]? = some κ) : f < l.length ∧ (l.getD f (0, 0)).1 = κ ∧ (l.getD f (3, 0)).1 = κ := by
  subst h
  obtain ⟨h1, h2⟩ := List.getElem?_eq_some_iff.mp hκ
  rw [List.length_map] at h1
  rw [List.getElem_map] at h2
  refine ⟨h1, ?_, ?_⟩ <;> simp [h1, h2]
theorem jg_getf {ci : Nat} {C : String} {T : u_T} {N f index κ : Nat} {r : Int} (hc : jcw ci C T N) (hci : ci < 20) (hf : f < N) (hκ : (jck.getD ci [])[f]? = some κ) (hκ2 : κ = 1 ∨ κ = 2 ∨ κ = 5) (hw : Cond.fieldLink M.1.cls index C (T f).2.1 (T f).2.2.1 ∈ jgw) (hr : jR 3 r) (hcl : jcl r = ci) (hd : decode M.2.1 pc = .ok (.getfield index, 3)) (k : jR κ (σ r f) → jGo E M d Rr Γ (pc + 3) ls (jV E κ (σ r f) :: st) σ) : jGo E M d Rr Γ pc ls (jV E 3 r :: st) σ := by
  intro A0 H0 p l e R s m args below meth c cells slots Q Cx H locs sl hP hR hS hL
  have K := fun z => k z A0 H0 p l e R s m args below meth c cells slots Q Cx
  obtain ⟨⟨hx, hb, hml, hown, hts⟩, hK, ⟨hr1, hr2, hr3, hr4⟩, hD, hsc, hret⟩ := Cx
  obtain ⟨q, rfl, hk, hs, h2, h3⟩ := jObj hr hci hcl
  obtain ⟨g1, g2, g3⟩ := jck_at h3 hκ
  have hw2 := jW_o (E := E) (σ := σ) hk hs
  rw [h2] at hw2
  refine va_get (ref := C) (v := jV E κ (σ q f)) hx hb hts hc.2.1 hown hK hP q hw2 hc.1 f hf (hts _ hw) (fun x h => by rw [hc.2.2 f hf] at h; exact h) ?_ hd (K ?_ H locs sl hP hR hS hL)
  · rw [List.getElem?_map, List.getElem?_range g1]
    simp only [Option.map_some, jFv, g2]
    rcases hκ2 with rfl | rfl | rfl <;> rfl
  · have := hR q f hk
    simp only [jK, hs, g3] at this
    rcases hκ2 with rfl | rfl | rfl <;> exact this
theorem jg_getr {ci : Nat} {C : String} {T : u_T} {N f index : Nat} {r : Int} (hc : jcw ci C T N) (hci : ci < 20) (hf : f < N) (hκ : (jck.getD ci [])[f]? = some 3) (hw : Cond.fieldLink M.1.cls index C (T f).2.1 (T f).2.2.1 ∈ jgw) (hr : jR 3 r) (hcl : jcl r = ci) (hd : decode M.2.1 pc = .ok (.getfield index, 3)) (k : jGo E M d Rr Γ (pc + 3) ls (jV E 3 (jrf r f) :: st) σ) : jGo E M d Rr Γ pc ls (jV E 3 r :: st) σ := by
  intro A0 H0 p l e R s m args below meth c cells slots Q Cx H locs sl hP hR hS hL
  have K := k A0 H0 p l e R s m args below meth c cells slots Q Cx
  obtain ⟨⟨hx, hb, hml, hown, hts⟩, hK, ⟨hr1, hr2, hr3, hr4⟩, hD, hsc, hret⟩ := Cx
  obtain ⟨q, rfl, hk, hs, h2, h3⟩ := jObj hr hci hcl
  obtain ⟨g1, g2, g3⟩ := jck_at h3 hκ
  have hw2 := jW_o (E := E) (σ := σ) hk hs
  rw [h2] at hw2
  refine va_get (ref := C) (v := jV E 3 (jrf q f)) hx hb hts hc.2.1 hown hK hP q hw2 hc.1 f hf (hts _ hw) (fun x h => by rw [hc.2.2 f hf] at h; exact h) ?_ hd (K H locs sl hP hR hS hL)
  rw [List.getElem?_map, List.getElem?_range g1]
  simp only [Option.map_some, jFv, g2]
  rfl
theorem jg_putf {ci : Nat} {C : String} {T : u_T} {N f index κ : Nat} {r v : Int} (ty0 : Nat → FieldType) (hty : ∀ k, k < N → parseFieldDescriptor (T k).2.2.1 = some (ty0 k)) (hnm : ∀ a, a < N → ∀ b, b < N → a ≠ b → (T a).2.1 ≠ (T b).2.1) (hc : jcw ci C T N) (hci : ci < 20) (hf : f < N) (hκ : (jck.getD ci [])[f]? = some κ) (hκ2 : (κ = 1 ∧ ty0 f = .int) ∨ (κ = 2 ∧ ty0 f = .long) ∨ (κ = 5 ∧ ty0 f = .boolean)) (hfin : (T f).2.2.2 = false) (hw : Cond.fieldLink M.1.cls index C (T f).2.1 (T f).2.2.1 ∈ jgw) (hr : jR 3 r) (hcl : jcl r = ci) (hv : jR κ v) (hd : decode M.2.1 pc = .ok (.putfield index, 3)) (k : jGo E M d Rr Γ (pc + 3) ls st (jU σ r f v)) : jGo E M d Rr Γ pc ls (jV E κ v :: jV E 3 r :: st) σ := by
  intro A0 H0 p l e R s m args below meth c cells slots Q Cx H locs sl hP hR hS hL
  have K := k A0 H0 p l e R s m args below meth c cells slots Q Cx
  obtain ⟨⟨hx, hb, hml, hown, hts⟩, hK, ⟨hr1, hr2, hr3, hr4⟩, hD, hsc, hret⟩ := Cx
  obtain ⟨q, rfl, hk, hs, h2, h3⟩ := jObj hr hci hcl
  obtain ⟨g1, g2, g3⟩ := jck_at h3 hκ
  have hw2 := jW_o (E := E) (σ := σ) hk hs
  rw [h2] at hw2
  have hnf : narrow (ty0 f) (jV E κ v) = jV E κ v ∧ fits (ty0 f) (jV E κ v) = true := by
    rcases hκ2 with ⟨rfl, e⟩ | ⟨rfl, e⟩ | ⟨rfl, e⟩ <;> rw [e]
    · exact ⟨rfl, rfl⟩
    · exact ⟨rfl, rfl⟩
    · have h1 := hv.1
      have h2 := hv.2
      rcases (by omega : v = 0 ∨ v = 1) with rfl | rfl <;> exact ⟨rfl, rfl⟩
  refine va_put (ref := C) (v := jV E κ v) hx hb hts hc.2.1 ty0 hty hnm hown hK hP (hD σ) hS q hw2 hc.1 f hf (hts _ hw) (fun x h => by rw [hc.2.2 f hf] at h; exact h) hfin (hty f hf) hnf.1 hnf.2 (by simpa using g1) hd (fun H1 locs1 hP1 _ hS1 => ?_)
  refine K H1 locs1 sl ?_ (jRM_set hR fun i hi => ?_) hS1 hL
  · rw [jW_set (σ' := jU σ q f v) hk ?_ (fun q' h => jU_cell h)] at hP1
    · exact hP1
    · simp only [jCell, hs, h2]
      simp only [Nat.reduceEqDiff, if_false]
      congr 2
      apply List.ext_getElem?
      intro i
      by_cases hi : i = f
      · subst hi
        rw [List.getElem?_set_self (by simpa using g1), List.getElem?_map, List.getElem?_range g1]
        simp only [Option.map_some, jFv, g2, jU_same]
        rcases hκ2 with ⟨rfl, e⟩ | ⟨rfl, e⟩ | ⟨rfl, e⟩ <;> rfl
      · rw [List.getElem?_set_ne (fun z => hi z.symm), List.getElem?_map, List.getElem?_map]
        by_cases hl : i < (jSh q).2.2.length
        · rw [List.getElem?_range hl]
          have e : ¬ ((i : Int) = (f : Int)) := by omega
          simp [jU, e]
        · rw [List.getElem?_eq_none (by simpa using hl)]
          rfl
  · have : i = f := by omega
    subst this
    simp only [jK, hs, g3]
    rcases hκ2 with ⟨rfl, e⟩ | ⟨rfl, e⟩ | ⟨rfl, e⟩ <;> exact hv
end

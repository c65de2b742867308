/-! ===== calls and ends ===== -/
section
variable {E : jEnv} {M : jM} {d : Nat} {Rr : Int → jMem → Prop} {Γ : List Nat} {pc : Nat} {ls : List Int} {st : List Value} {σ : jMem}
theorem jg_weak {Γ' : List Nat} (k : jGo E M d Rr Γ' pc ls st σ) (hle : jle Γ' Γ = true) : jGo E M d Rr Γ pc ls st σ := by
  intro A0 H0 p l e R s m args below meth c cells slots Q C H locs sl hP hR hS hL
  exact k A0 H0 p l e R s m args below meth c cells slots Q C H locs sl hP hR hS (jLv_weak hL hle)
theorem jg_ret {v : Int} (hd : jRi M pc) (hv : jR (jRk M.2.2.2) v) (hR : Rr v σ) : jGo E M d Rr Γ pc ls (jRs E M.2.2.2 v) σ := by
  intro A0 H0 p l e R s m args below meth c cells slots Q C H locs sl hP hRM hS hL
  exact C.2.2.2.2.2 pc v σ H locs sl hd hv hR hP hRM hS
theorem jcall_go {p : Program} {l : Launch} {e : Env} {R : Room} {s : State} {m : MethodId} {args : Array Value} {below : List Frame} {meth : Method} {c : Code} {H : Heap} {locs : List Loc} {cells slots : Nat} {Q : State → Prop} {ls : Array Slot} {rest st0 : List Value} {a : Array Value} {A0 : Nat → Prop} {H0 : Heap} {M' : jM} {P : Int → jMem → Prop}
    (hr : va_Run p l e R s m args below meth c H locs cells slots 0 0 (F0 m pc ls st0) rest (jQ E M' P a) (jA E)) (hS : va_S A0 H0 H locs) (hA : ∀ q, jA E q → A0 q)
    (kk : ∀ (v : Int) (σ' : jMem) (H1 : Heap) (locs1 : List Loc), jR (jRk M'.2.2.2) v → jRM σ' → P v σ' → va_P E.2.1 vwCl (jW E σ') H1 → va_S A0 H0 H1 locs1 → W p l e R s m args below meth c H1 locs1 cells slots Q (F0 m (pc + 3) ls (jRs E M'.2.2.2 v ++ rest))) : W p l e R s m args below meth c H locs cells slots Q (F0 m pc ls st0) := by
  intro T hT X
  obtain ⟨v0, st₀, t, T', L, h0, X', hL, e1, e2, ⟨⟨v, σ', hv, hvR, hRM, hPv, hB⟩, hz, hk⟩, st⟩ := hr T hT X
  rw [h0] at hz hk
  have hv2 : v0.toList = jRs E M'.2.2.2 v := by
    have hv3 : v0 = (jRs E M'.2.2.2 v).head? := by cases hv; rfl
    rw [hv3]
    unfold jRs
    cases M'.2.2.2 <;> rfl
  rw [hv2] at st
  obtain ⟨t2, a1, b1⟩ := kk v σ' T'.heap (locs ++ L) hvR hRM hPv (by rw [e1]; exact hB.1)
    ⟨Nat.le_trans hS.1 (by rw [e1]; exact hz), fun q h1 h2 => by rw [e1, hk q (Nat.lt_of_lt_of_le h1 hS.1) (fun z => h2 (hA q z))]; exact hS.2.1 q h1 h2, fun q hq => by
      rcases List.mem_append.mp hq with h | h
      · exact hS.2.2 q h
      · exact hA _ (hL q h)⟩ T' rfl X'
  exact ⟨t2, st t2 a1, b1⟩
/-- the words of a call -/
def jcs (M M' : jM) (idx n : Nat) : Prop := Cond.methodLink M.1.cls idx M'.1 ∈ jgw ∧ Cond.initialized M'.1.cls ∈ jgw ∧ Cond.code M'.1 M'.2.1 M'.2.2.1 M'.2.2.2 ∈ jgw ∧ M'.2.2.1 ≤ 50 ∧
  (M'.1.cls ≠ "java/lang/invoke/MethodHandle" ∧ M'.1.cls ≠ "java/lang/invoke/VarHandle" ∧ (parseMethodDescriptor M'.1.desc).map (fun d => d.parameters.length) = some n)
theorem jcallB {M' : jM} {idx n d' : Nat} {R : Room} {s : State} {args : Array Value} (hts : ∀ w ∈ jgw, w.before args s = true) (h : jcs M M' idx n) (hr1 : d' + 1 ≤ R.frames) (hr2 : 80 * (d' + 1) ≤ R.locals) :
    CallB R s args M.1.cls idx M'.1 M'.2.1 M'.2.2.1 M'.2.2.2 (Cond.code M'.1 M'.2.1 M'.2.2.1 M'.2.2.2 :: jgw) (jRoom d') 0 0 n := by
  refine callB_of n hts (fun w hw => ?_) rfl rfl rfl (hts _ h.2.1) (hts _ h.1) h.2.2.2.2 ⟨hr1, ?_⟩
  · rcases List.mem_cons.mp hw with rfl | hw
    · exact jgw_good _ h.2.2.1
    · exact jgw_good _ hw
  · have := h.2.2.2.1
    show 8 + (M'.2.2.1 + 11) + 80 * d' ≤ R.locals
    omega
theorem jPre {H : Heap} {s : State} {As : List Value} (hP : va_P E.2.1 vwCl (jW E σ) H) (hK : va_K E.2.1 vwCl (jTy E) s) : PreS s H (va_Pc As (jB E σ)) As :=
  ⟨fun a U g mk q => ⟨q.1, q.2.1, va_K.moved (u := U) (U := U.calling g mk a) (Vm.Alike.refl U.vm) q.2.2⟩, fun U hU hW => ⟨rfl, by rw [hU]; exact hP, va_K.moved hW.alike hK⟩⟩
theorem jg_callS {M' : jM} {κs : List Nat} {d' idx : Nat} {f : jF} {vs : List Int} {P : Int → jMem → Prop} (hM : jOk M' κs d' f) (hd' : d' + 1 ≤ d) (hst : (st.map fun v => v.category).sum ≤ 8) (hw : jcs M M' idx κs.length) (hw2 : Cond.static M'.1 ∈ jgw)
    (hd : decode M.2.1 pc = .ok (.invokestatic idx, 3)) (ha : jRa κs vs) (hlen : vs.length = κs.length) (hf : f vs σ P) (k : ∀ v σ', P v σ' → jR (jRk M'.2.2.2) v → jGo E M d Rr Γ (pc + 3) ls (jRs E M'.2.2.2 v ++ st) σ') :
    jGo E M d Rr Γ pc ls ((jAs E κs vs).reverse ++ st) σ := by
  intro A0 H0 p l e R s m args below meth c cells slots Q C H locs sl hP hR hS hL
  have K := fun v σ' z z2 => k v σ' z z2 A0 H0 p l e R s m args below meth c cells slots Q C
  obtain ⟨⟨hx, hb, hml, hown, hts⟩, hK, ⟨hr1, hr2, hr3, hr4⟩, hD, hsc, hret⟩ := C
  have hMet := hM l E vs σ P (jInj_of (hD σ)) ha hR hf
  have cb := jcallB (M := M) (R := R) (d' := d') hts hw (by omega) (by omega)
  have hrun := va_runS (p := p) (e := e) (m := m) (below := below) (meth := meth) (locs := locs) (cells := cells) (slots := slots) (rest := st) (g := F0 m pc sl ((jAs E κs vs).reverse ++ st)) ⟨hx, hb, hml, hown, hts⟩ hMet ⟨cb, hts _ hw2⟩ (jPre hP hK) rfl (by simp [jAs, hlen]) hL.2.2.1 rfl (lv_room hst) hd ⟨hr3, hr4⟩
  exact jcall_go hrun hS (jA_of (hD σ)) (fun v σ' H1 locs1 hv hRM hPv hP1 hS1 => K v σ' hPv hv H1 locs1 sl hP1 hRM hS1 hL)
theorem jg_callV {M' : jM} {κs : List Nat} {d' idx ci : Nat} {f : jF} {r : Int} {vs : List Int} {P : Int → jMem → Prop} {C : String} {T : u_T} {N : Nat} (hM : jOk M' (3 :: κs) d' f) (hd' : d' + 1 ≤ d) (hst : (st.map fun v => v.category).sum ≤ 8) (hw : jcs M M' idx κs.length) (hw2 : Cond.instanceMethod M'.1 ∈ jgw) (hw3 : Cond.selects M'.1.cls M'.1 M'.1 ∈ jgw)
    (hc : jcw ci C T N) (hC : C = M'.1.cls) (hci : ci < 20) (hd : decode M.2.1 pc = .ok (.invokevirtual idx, 3)) (ha : jRa (3 :: κs) (r :: vs)) (hlen : vs.length = κs.length) (hcl : jcl r = ci) (hf : f (r :: vs) σ P) (k : ∀ v σ', P v σ' → jR (jRk M'.2.2.2) v → jGo E M d Rr Γ (pc + 3) ls (jRs E M'.2.2.2 v ++ st) σ') :
    jGo E M d Rr Γ pc ls ((jAs E (3 :: κs) (r :: vs)).reverse ++ st) σ := by
  intro A0 H0 p l e R s m args below meth c cells slots Q Cx H locs sl hP hR hS hL
  have K := fun v σ' z z2 => k v σ' z z2 A0 H0 p l e R s m args below meth c cells slots Q Cx
  obtain ⟨⟨hx, hb, hml, hown, hts⟩, hK, ⟨hr1, hr2, hr3, hr4⟩, hD, hsc, hret⟩ := Cx
  have hMet := hM l E (r :: vs) σ P (jInj_of (hD σ)) ha hR hf
  have cb := jcallB (M := M) (R := R) (d' := d') hts hw (by omega) (by omega)
  obtain ⟨q, rfl, hk, hs, h2, h3⟩ := jObj ha.1 hci hcl
  have hw4 := jW_o (E := E) (σ := σ) hk hs
  rw [h2] at hw4
  have hrec := va_recv hK hP hc.1 hw4
  rw [show ((C, T, N) : vw_C).1 = M'.1.cls from hC] at hrec
  have hpre := jPre (As := jAs E (3 :: κs) ((q : Int) :: vs)) hP hK
  have hrun := va_runV (p := p) (e := e) (m := m) (below := below) (meth := meth) (locs := locs) (cells := cells) (slots := slots) (rest := st) (As := jAs E κs vs) (b := E.1 q) (g := F0 m pc sl ((jAs E (3 :: κs) ((q : Int) :: vs)).reverse ++ st)) ⟨hx, hb, hml, hown, hts⟩ hMet ⟨cb, hts _ hw2, hts _ hw3⟩ ⟨hpre.1, hrec, hpre.2⟩ rfl (by simp [jAs, hlen]) hL.2.2.1 (by simp [jAs]; rfl) (lv_room hst) hd ⟨hr3, hr4⟩
  exact jcall_go hrun hS (jA_of (hD σ)) (fun v σ' H1 locs1 hv hRM hPv hP1 hS1 => K v σ' hPv hv H1 locs1 sl hP1 hRM hS1 hL)
def jmax (x y : Int) : Int := if x < y then y else x
def jmin (x y : Int) : Int := if y < x then y else x
def jmw (M : jM) (nm : MethodName) (cd : ByteArray) (idx : Nat) : Prop := Cond.methodLink M.1.cls idx nm ∈ jgw ∧ Cond.static nm ∈ jgw ∧ Cond.initialized "java/lang/Math" ∈ jgw ∧ Cond.code nm cd 2 (some .int) ∈ jgw
theorem jg_max {x y : Int} {idx : Nat} (hxx : jR 1 x) (hy : jR 1 y) (hst : (st.map fun v => v.category).sum ≤ 8) (hdd : 1 ≤ d) (hw : jmw M Lib.Math.max.name Lib.Math.max.code idx) (hd : decode M.2.1 pc = .ok (.invokestatic idx, 3)) (k : jGo E M d Rr Γ (pc + 3) ls (jV E 1 (jmax x y) :: st) σ) : jGo E M d Rr Γ pc ls (jV E 1 y :: jV E 1 x :: st) σ := by
  intro A0 H0 p l e R s m args below meth c cells slots Q C H locs sl hP hR hS hL
  have K := k A0 H0 p l e R s m args below meth c cells slots Q C H locs sl hP hR hS hL
  obtain ⟨⟨hx, hb, hml, hown, hts⟩, hK, ⟨hr1, hr2, hr3, hr4⟩, hD, hsc, hret⟩ := C
  refine va_mmax hx hb (by rw [hml, hL.2.2.1]) hown (hts _ hw.1) (hts _ hw.2.1) (hts _ hw.2.2.1) (hts _ hw.2.2.2) (by omega) (by omega) hr3 hr4 hd ?_
  have e1 : (if Int32.ofInt x < Int32.ofInt y then Int32.ofInt y else Int32.ofInt x) = Int32.ofInt (jmax x y) := by
    unfold jmax
    simp only [jlt hxx hy]
    split <;> rfl
  rw [e1]
  exact K
theorem jg_min {x y : Int} {idx : Nat} (hxx : jR 1 x) (hy : jR 1 y) (hst : (st.map fun v => v.category).sum ≤ 8) (hdd : 1 ≤ d) (hw : jmw M Lib.Math.min.name Lib.Math.min.code idx) (hd : decode M.2.1 pc = .ok (.invokestatic idx, 3)) (k : jGo E M d Rr Γ (pc + 3) ls (jV E 1 (jmin x y) :: st) σ) : jGo E M d Rr Γ pc ls (jV E 1 y :: jV E 1 x :: st) σ := by
  intro A0 H0 p l e R s m args below meth c cells slots Q C H locs sl hP hR hS hL
  have K := k A0 H0 p l e R s m args below meth c cells slots Q C H locs sl hP hR hS hL
  obtain ⟨⟨hx, hb, hml, hown, hts⟩, hK, ⟨hr1, hr2, hr3, hr4⟩, hD, hsc, hret⟩ := C
  refine va_mmin hx hb (by rw [hml, hL.2.2.1]) hown (hts _ hw.1) (hts _ hw.2.1) (hts _ hw.2.2.1) (hts _ hw.2.2.2) (by omega) (by omega) hr3 hr4 hd ?_
  have e1 : (if Int32.ofInt y < Int32.ofInt x then Int32.ofInt y else Int32.ofInt x) = Int32.ofInt (jmin x y) := by
    unfold jmin
    simp only [jlt hy hxx]
    split <;> rfl
  rw [e1]
  exact K
/-- System.arraycopy -/
def jCp (σ : jMem) (a sp b dp n : Int) : jMem := fun r j => if r = b ∧ dp ≤ j ∧ j < dp + n then σ a (sp + (j - dp)) else σ r j
theorem jCp_cell {a q k : Nat} {sp dp n : Int} (h : q ≠ k) : jCell E (jCp σ a sp k dp n) q = jCell E σ q := by
  have e : ∀ b : Int, jCp σ a sp k dp n q b = σ q b := fun b => by
    simp only [jCp]
    rw [if_neg]
    rintro ⟨z, -⟩
    exact h (by omega)
  simp only [jCell, e]
theorem jCp_fun {α : Type} (g : Int → α) (a k sp dp n : Nat) : (fun q : Nat => g (jCp σ a sp k dp n k q)) = va_cpy (fun q : Nat => g (σ a q)) (fun q : Nat => g (σ k q)) sp dp n := by
  funext q
  unfold va_cpy
  by_cases h : dp ≤ q ∧ q < dp + n
  · rw [if_pos h]
    simp only [jCp]
    rw [if_pos ⟨trivial, by omega, by omega⟩]
    congr 2
    omega
  · rw [if_neg h]
    simp only [jCp]
    rw [if_neg]
    rintro ⟨-, h1, h2⟩
    exact h ⟨by omega, by omega⟩
def jcpw (M : jM) (idx : Nat) : Prop := Cond.methodLink M.1.cls idx arraycopyName ∈ jgw ∧ Cond.native arraycopyName ∈ jgw ∧ Cond.static arraycopyName ∈ jgw ∧ Cond.initialized "java/lang/System" ∈ jgw
theorem jkind {r : Int} {κ : Nat} {n : Int} (hr : jR 3 r) (h : 0 < (if (jSh r.toNat).1 = κ then n else 0)) : ∃ q : Nat, r = (q : Int) ∧ q < 53 ∧ (jSh q).1 = κ := by
  obtain ⟨q, rfl⟩ := jnn hr.1
  have hk : q < 53 := by have := hr.2; omega
  refine ⟨q, rfl, hk, ?_⟩
  by_cases g : (jSh q).1 = κ
  · exact g
  · rw [Int.toNat_natCast, if_neg g] at h; omega
theorem jg_copyi {a sp b dp n : Int} {idx : Nat} (ha : jR 3 a) (hb' : jR 3 b) (hsp : jR 1 sp) (hdp : jR 1 dp) (hn : jR 1 n) (g1 : 0 ≤ sp) (g2 : 0 ≤ dp) (g3 : 0 ≤ n) (g4 : sp + n ≤ jik a) (g5 : dp + n ≤ jik b) (g6 : 0 < jik a) (g7 : 0 < jik b) (hst : (st.map fun v => v.category).sum ≤ 8) (hdd : 1 ≤ d) (hw : jcpw M idx) (hd : decode M.2.1 pc = .ok (.invokestatic idx, 3)) (k : jGo E M d Rr Γ (pc + 3) ls st (jCp σ a sp b dp n)) : jGo E M d Rr Γ pc ls (jV E 1 n :: jV E 1 dp :: jV E 3 b :: jV E 1 sp :: jV E 3 a :: st) σ := by
  intro A0 H0 p l e R s m args below meth c cells slots Q C H locs sl hP hR hS hL
  have K := k A0 H0 p l e R s m args below meth c cells slots Q C
  obtain ⟨⟨hx, hb, hml, hown, hts⟩, hK, ⟨hr1, hr2, hr3, hr4⟩, hD, hsc, hret⟩ := C
  obtain ⟨qa, rfl, hka, hsa⟩ := jkind ha g6
  obtain ⟨qb, rfl, hkb, hsb⟩ := jkind hb' g7
  obtain ⟨sp, rfl⟩ := jnn g1
  obtain ⟨dp, rfl⟩ := jnn g2
  obtain ⟨n, rfl⟩ := jnn g3
  simp only [jik, Int.toNat_natCast, if_pos hsa] at g4
  simp only [jik, Int.toNat_natCast, if_pos hsb] at g5
  have nn : ∀ {z : Nat}, jR 1 (z : Int) → ¬ Int32.ofInt (z : Int) < 0 := fun {z} hz w => by
    have := (jlt hz jR0).mp w
    omega
  have hnw : nativeFrameWords "java/lang/System" "arraycopy" 5 ≤ 50 := by decide +kernel
  refine va_copyi hx hb (by rw [hml, hL.2.2.1]) hown (hts _ hw.1) (hts _ hw.2.1) (hts _ hw.2.2.1) (hts _ hw.2.2.2) hK hP (hD σ) hS qa qb 0 0 (jW_i hka hsa) (jW_i hkb hsb) rfl rfl rfl (nn hsp) (nn hdp) (nn hn) (by rw [jnat hsp, jnat hn, Int.toNat_natCast, Int.toNat_natCast]; omega) (by rw [jnat hdp, jnat hn, Int.toNat_natCast, Int.toNat_natCast]; omega) (fun i _ => rfl) (by omega) (by omega) hd (fun H1 locs1 hP1 _ hS1 => ?_)
  refine K H1 locs1 sl ?_ (fun a' j' hk' => ?_) hS1 hL
  · rw [jW_set (σ' := jCp σ qa sp qb dp n) hkb ?_ (fun q' h => jCp_cell h)] at hP1
    · exact hP1
    · rw [jnat hsp, jnat hdp, jnat hn]
      simp only [Int.toNat_natCast]
      simp only [jCell, hsb, if_true, jCp_fun]
  · simp only [jCp]
    split
    · rename_i hq
      have e1 : a' = qb := by omega
      subst e1
      have h1 := hR qa (sp + (j' - dp)) hka
      simp only [jK, hsa, hsb, if_true] at h1 ⊢
      rw [show (sp : Int) + ((j' : Int) - dp) = ((sp + (j' - dp) : Nat) : Int) by omega]
      exact h1
    · exact hR a' j' hk'
theorem jg_copyl {a sp b dp n : Int} {idx : Nat} (ha : jR 3 a) (hb' : jR 3 b) (hsp : jR 1 sp) (hdp : jR 1 dp) (hn : jR 1 n) (g1 : 0 ≤ sp) (g2 : 0 ≤ dp) (g3 : 0 ≤ n) (g4 : sp + n ≤ jjk a) (g5 : dp + n ≤ jjk b) (g6 : 0 < jjk a) (g7 : 0 < jjk b) (hst : (st.map fun v => v.category).sum ≤ 8) (hdd : 1 ≤ d) (hw : jcpw M idx) (hd : decode M.2.1 pc = .ok (.invokestatic idx, 3)) (k : jGo E M d Rr Γ (pc + 3) ls st (jCp σ a sp b dp n)) : jGo E M d Rr Γ pc ls (jV E 1 n :: jV E 1 dp :: jV E 3 b :: jV E 1 sp :: jV E 3 a :: st) σ := by
  intro A0 H0 p l e R s m args below meth c cells slots Q C H locs sl hP hR hS hL
  have K := k A0 H0 p l e R s m args below meth c cells slots Q C
  obtain ⟨⟨hx, hb, hml, hown, hts⟩, hK, ⟨hr1, hr2, hr3, hr4⟩, hD, hsc, hret⟩ := C
  obtain ⟨qa, rfl, hka, hsa⟩ := jkind ha g6
  obtain ⟨qb, rfl, hkb, hsb⟩ := jkind hb' g7
  obtain ⟨sp, rfl⟩ := jnn g1
  obtain ⟨dp, rfl⟩ := jnn g2
  obtain ⟨n, rfl⟩ := jnn g3
  simp only [jjk, Int.toNat_natCast, if_pos hsa] at g4
  simp only [jjk, Int.toNat_natCast, if_pos hsb] at g5
  have nn : ∀ {z : Nat}, jR 1 (z : Int) → ¬ Int32.ofInt (z : Int) < 0 := fun {z} hz w => by
    have := (jlt hz jR0).mp w
    omega
  have hnw : nativeFrameWords "java/lang/System" "arraycopy" 5 ≤ 50 := by decide +kernel
  refine va_copyl hx hb (by rw [hml, hL.2.2.1]) hown (hts _ hw.1) (hts _ hw.2.1) (hts _ hw.2.2.1) (hts _ hw.2.2.2) hK hP (hD σ) hS qa qb 1 1 (jW_l hka hsa) (jW_l hkb hsb) rfl rfl rfl (nn hsp) (nn hdp) (nn hn) (by rw [jnat hsp, jnat hn, Int.toNat_natCast, Int.toNat_natCast]; omega) (by rw [jnat hdp, jnat hn, Int.toNat_natCast, Int.toNat_natCast]; omega) (fun i _ => rfl) (by omega) (by omega) hd (fun H1 locs1 hP1 _ hS1 => ?_)
  refine K H1 locs1 sl ?_ (fun a' j' hk' => ?_) hS1 hL
  · rw [jW_set (σ' := jCp σ qa sp qb dp n) hkb ?_ (fun q' h => jCp_cell h)] at hP1
    · exact hP1
    · rw [jnat hsp, jnat hdp, jnat hn]
      simp only [Int.toNat_natCast]
      simp [jCell, hsb, jCp_fun]
  · simp only [jCp]
    split
    · rename_i hq
      have e1 : a' = qb := by omega
      subst e1
      have h1 := hR qa (sp + (j' - dp)) hka
      simp only [jK, hsa, hsb] at h1 ⊢
      rw [show (sp : Int) + ((j' : Int) - dp) = ((sp + (j' - dp) : Nat) : Int) by omega]
      exact h1
    · exact hR a' j' hk'
theorem jg_tswIn {x dflt lo hi : Int} {offs : Array Int} {len : Nat} {off : Int} (tgt : Nat) (hxx : jR 1 x) (h1 : ¬ x < lo) (h2 : ¬ hi < x) (ho : offs[(x - lo).toNat]? = some off) (ht : (pc : Int) + off = (tgt : Int)) (hd : decode M.2.1 pc = .ok (.tableswitch dflt lo hi offs, len)) (k : jGo E M d Rr Γ tgt ls st σ) : jGo E M d Rr Γ pc ls (jV E 1 x :: st) σ := by
  intro A0 H0 p l e R s m args below meth c cells slots Q C H locs sl hP hR hS hL
  have K := k A0 H0 p l e R s m args below meth c cells slots Q C H locs sl hP hR hS hL
  obtain ⟨⟨hx, hb, hml, hown, hts⟩, hK, ⟨hr1, hr2, hr3, hr4⟩, hD, hsc, hret⟩ := C
  exact lv_tableIn hx hb hd (by rw [j1 hxx]; exact h1) (by rw [j1 hxx]; exact h2) (by rw [j1 hxx]; exact ho) ht K
theorem jg_tswOut {x dflt lo hi : Int} {offs : Array Int} {len : Nat} (tgt : Nat) (hxx : jR 1 x) (h : x < lo ∨ hi < x) (ht : (pc : Int) + dflt = (tgt : Int)) (hd : decode M.2.1 pc = .ok (.tableswitch dflt lo hi offs, len)) (k : jGo E M d Rr Γ tgt ls st σ) : jGo E M d Rr Γ pc ls (jV E 1 x :: st) σ := by
  intro A0 H0 p l e R s m args below meth c cells slots Q C H locs sl hP hR hS hL
  have K := k A0 H0 p l e R s m args below meth c cells slots Q C H locs sl hP hR hS hL
  obtain ⟨⟨hx, hb, hml, hown, hts⟩, hK, ⟨hr1, hr2, hr3, hr4⟩, hD, hsc, hret⟩ := C
  exact lv_tableOut hx hb hd (by rw [j1 hxx]; exact h) ht K
/-- the script -/
theorem jg_sload {i : Fin 4} {n : Nat} (hi : (i : Nat) = n) (hΓ : Γ[n]? = some 4) (hd : decode M.2.1 pc = .ok (.aload_n i, 1)) (k : jGo E M d Rr Γ (pc + 1) ls (jV E 4 0 :: st) σ) : jGo E M d Rr Γ pc ls st σ := by
  intro A0 H0 p l e R s m args below meth c cells slots Q C H locs sl hP hR hS hL
  have K := k A0 H0 p l e R s m args below meth c cells slots Q C
  obtain ⟨⟨hx, hb, hml, hown, hts⟩, hK, ⟨hr1, hr2, hr3, hr4⟩, hD, hsc, hret⟩ := C
  have g := jLv_get hL hΓ (by decide)
  exact lv_aload_n hx hb hd hi g.1 (K H locs sl hP hR hS hL)
theorem jg_sld {x : Int} (hM : M.1.name = "law") (hxx : jR 1 x) (h0 : 0 ≤ x) (h1 : x < E.2.2.2.2.1) (hd : decode M.2.1 pc = .ok (.iaload, 1)) (k : jGo E M d Rr Γ (pc + 1) ls (jV E 1 (E.2.2.2.2.2 x.toNat).toInt :: st) σ) : jGo E M d Rr Γ pc ls (jV E 1 x :: jV E 4 0 :: st) σ := by
  intro A0 H0 p l e R s m args below meth c cells slots Q C H locs sl hP hR hS hL
  have K := k A0 H0 p l e R s m args below meth c cells slots Q C H locs sl hP hR hS hL
  obtain ⟨⟨hx, hb, hml, hown, hts⟩, hK, ⟨hr1, hr2, hr3, hr4⟩, hD, hsc, hret⟩ := C
  obtain ⟨hX, hbl, hbA⟩ := hsc hM
  refine va_sld hx hb hX hbl hbA hS (jin hxx h0 h1) hd ?_
  rw [jnat hxx, ← jb32]
  exact K
theorem jg_slen (hM : M.1.name = "law") (hd : decode M.2.1 pc = .ok (.arraylength, 1)) (k : jGo E M d Rr Γ (pc + 1) ls (jV E 1 (E.2.2.2.2.1 : Int) :: st) σ) : jGo E M d Rr Γ pc ls (jV E 4 0 :: st) σ := by
  intro A0 H0 p l e R s m args below meth c cells slots Q C H locs sl hP hR hS hL
  have K := k A0 H0 p l e R s m args below meth c cells slots Q C H locs sl hP hR hS hL
  obtain ⟨⟨hx, hb, hml, hown, hts⟩, hK, ⟨hr1, hr2, hr3, hr4⟩, hD, hsc, hret⟩ := C
  obtain ⟨hX, hbl, hbA⟩ := hsc hM
  exact va_slen hx hb hX hbl hbA hS hd K
/-! ===== a method's entry ===== -/
def jL0 : List Nat → List Int → List Int
  | κ :: κs, v :: vs => bif κ == 2 then v :: 0 :: jL0 κs vs else v :: jL0 κs vs
  | [], _ => []
  | _ :: _, [] => []
def jG0 : List Nat → List Nat
  | κ :: κs => bif κ == 2 then 2 :: 0 :: jG0 κs else κ :: jG0 κs
  | [] => []
theorem jG02 (κs : List Nat) : jG0 (2 :: κs) = 2 :: 0 :: jG0 κs := rfl
theorem jG01 {κ : Nat} (κs : List Nat) (h : κ ≠ 2) : jG0 (κ :: κs) = κ :: jG0 κs := by
  show (bif κ == 2 then 2 :: 0 :: jG0 κs else κ :: jG0 κs) = _
  rw [beq_eq_false_iff_ne.mpr h]
  rfl
theorem jL02 (κs : List Nat) (v : Int) (vs : List Int) : jL0 (2 :: κs) (v :: vs) = v :: 0 :: jL0 κs vs := rfl
theorem jL01 {κ : Nat} (κs : List Nat) (v : Int) (vs : List Int) (h : κ ≠ 2) : jL0 (κ :: κs) (v :: vs) = v :: jL0 κs vs := by
  show (bif κ == 2 then v :: 0 :: jL0 κs vs else v :: jL0 κs vs) = _
  rw [beq_eq_false_iff_ne.mpr h]
  rfl
def jPad {α : Type} (z : α) (n : Nat) (l : List α) : List α := l ++ List.replicate (n - l.length) z
theorem jL0_len : ∀ (κs : List Nat) (vs : List Int), jRa κs vs → (jL0 κs vs).length = (jG0 κs).length
  | [], [], _ => rfl
  | [], _ :: _, h => by simp [jRa] at h
  | _ :: _, [], h => by simp [jRa] at h
  | κ :: κs, v :: vs, h => by
    have ih := jL0_len κs vs h.2
    by_cases h2 : κ = 2
    · subst h2
      rw [jL02, jG02, List.length_cons, List.length_cons, List.length_cons, List.length_cons, ih]
    · rw [jL01 κs v vs h2, jG01 κs h2, List.length_cons, List.length_cons, ih]
theorem jargs_at (E : jEnv) : ∀ (κs : List Nat) (vs : List Int) (o : Nat), jRa κs vs → ∀ i κ : Nat, (jG0 κs)[i]? = some κ → κ ≠ 0 → ((o + i, jV E κ ((jL0 κs vs).getD i 0)) ∈ lv_args o (jAs E κs vs)) ∧ jR κ ((jL0 κs vs).getD i 0)
  | [], vs, o, h, i, κ, hi, hκ => by simp [jG0] at hi
  | _ :: _, [], o, h, i, κ, hi, hκ => by simp [jRa] at h
  | κ0 :: κs, v :: vs, o, h, i, κ, hi, hκ => by
    by_cases h2 : κ0 = 2
    · subst h2
      have ih := jargs_at E κs vs (o + 2) h.2
      have e1 : jG0 (2 :: κs) = 2 :: 0 :: jG0 κs := rfl
      have e2 : jL0 (2 :: κs) (v :: vs) = v :: 0 :: jL0 κs vs := rfl
      have e3 : lv_args o (jAs E (2 :: κs) (v :: vs)) = (o, jV E 2 v) :: lv_args (o + 2) (jAs E κs vs) := rfl
      rw [e1] at hi
      rw [e2, e3]
      match i, hi with
      | 0, hi => cases hi; exact ⟨List.mem_cons_self, h.1⟩
      | 1, hi => cases hi; exact absurd rfl hκ
      | i + 2, hi =>
        have := ih i κ (by simpa using hi) hκ
        rw [show o + (i + 2) = o + 2 + i by omega]
        exact ⟨List.mem_cons_of_mem _ (by simpa using this.1), by simpa using this.2⟩
    · have ih := jargs_at E κs vs (o + 1) h.2
      have e1 := jG01 κs h2
      have e2 := jL01 κs v vs h2
      have e3 : lv_args o (jAs E (κ0 :: κs) (v :: vs)) = (o, jV E κ0 v) :: lv_args (o + 1) (jAs E κs vs) := by
        show lv_args o (jV E κ0 v :: jAs E κs vs) = _
        unfold lv_args
        rw [if_neg (by rw [jV_cat h2]; decide)]
        cases jAs E κs vs <;> rfl
      rw [e1] at hi
      rw [e2, e3]
      match i, hi with
      | 0, hi => cases hi; exact ⟨List.mem_cons_self, h.1⟩
      | i + 1, hi =>
        have := ih i κ (by simpa using hi) hκ
        rw [show o + (i + 1) = o + 1 + i by omega]
        exact ⟨List.mem_cons_of_mem _ (by simpa using this.1), by simpa using this.2⟩
theorem jslots (E : jEnv) : ∀ (κs : List Nat) (vs : List Int), jRa κs vs → (lg_sl (jAs E κs vs)).length = (jG0 κs).length
  | [], [], _ => rfl
  | [], _ :: _, h => by simp [jRa] at h
  | _ :: _, [], h => by simp [jRa] at h
  | κ :: κs, v :: vs, h => by
    have ih := jslots E κs vs h.2
    have e0 : lg_sl (jAs E (κ :: κs) (v :: vs)) = (if (jV E κ v).category = 2 then [Slot.val (jV E κ v), .second] else [.val (jV E κ v)]) ++ lg_sl (jAs E κs vs) := rfl
    rw [e0]
    by_cases h2 : κ = 2
    · subst h2
      rw [show (jV E 2 v).category = 2 from rfl, if_pos rfl, jG02, List.length_append, ih]
      simp only [List.length_cons, List.length_nil]
      omega
    · rw [if_neg (by rw [jV_cat h2]; decide), jG01 κs h2, List.length_append, ih]
      simp only [List.length_cons, List.length_nil]
      omega
theorem jOk_intro {κs : List Nat} {f : jF} (hc : plainName M.1.cls = true) (hnL : (jG0 κs).length ≤ M.2.2.1) (hlaw : M.1.name ≠ "law") (hret : M.2.2.2 = none ∨ M.2.2.2 = some .int ∨ M.2.2.2 = some .long ∨ M.2.2.2 = some .boolean)
    (h : ∀ (E : jEnv) (vs : List Int) (σ : jMem) (Rr : Int → jMem → Prop), f vs σ Rr → jRa κs vs → jGo E M d Rr (jPad 0 M.2.2.1 (jG0 κs)) 0 (jPad 0 M.2.2.1 (jL0 κs vs)) [] σ) : jOk M κs d f := by
  intro l E vs σ Rr hI ha hR hf
  refine Met.ofW (cc := M.2.1) (maxL := M.2.2.1) (ret := M.2.2.2) hc rfl ?_
  intro p e s m args below meth c s₁ B hml hv
  obtain ⟨rfl, hP, hK⟩ := hv
  have hx := B.exec
  have hb := B.bytes
  have hr := B.returns
  have hts := atoms_spec (ws := Cond.code M.1 M.2.1 M.2.2.1 M.2.2.2 :: jgw) B.pre
  have hown : s.vm.findClass M.1.cls = some m.cls := findClass_of_methodNamed B.named
  have hlocks := B.notSynchronized
  have hsl := jslots E κs vs ha
  have hl := lv_entry (jAs E κs vs) (n := M.2.2.1) (by rw [hsl]; exact hnL)
  rw [lg_entry_eq]
  generalize (lg_sl (jAs E κs vs) ++ List.replicate (M.2.2.1 - (lg_sl (jAs E κs vs)).length) Slot.unset).toArray = sl at hl ⊢
  have hlen := jL0_len κs vs ha
  refine h E vs σ Rr hf ha (jA E) s.heap p l e _ s m _ below meth c 0 0 _ ⟨⟨hx, hb, hml, hown, fun w hw => hts w (List.mem_cons_of_mem _ hw)⟩, hK, ⟨Nat.le_refl d, Nat.le_refl _, Nat.zero_le _, Nat.zero_le _⟩, fun σ => jD_of hI σ, fun z => absurd z hlaw, ?_⟩ s.heap [] sl hP hR va_S.rf ?_
  · intro pc v σ' H locs sl' hi hv hRr hP' hR' hS'
    have hB : ∀ t : State, t.heap = H → s.WarmedH t.vm → jB E σ' t := fun t ht hW => ⟨by rw [ht]; exact hP', va_K.moved hW.alike hK⟩
    have hQ : ∀ (t : State), t.heap = H → s.WarmedH t.vm → jQ E M Rr (jAs E κs vs).toArray s (.returned (jRs E M.2.2.2 v).head?) t := fun t ht hW => ⟨⟨v, σ', rfl, hv, hR', hRr, hB t ht hW⟩, hS'.F ht⟩
    rcases hret with e0 | e0 | e0 | e0
    · simp only [jRi, e0] at hi
      rw [e0] at hQ ⊢
      exact W.vret hx hb (hr.trans e0) hQ hS'.2.2 hi
    · simp only [jRi, e0] at hi
      rw [e0] at hQ ⊢
      exact W.iret hx hb (hr.trans e0) hQ hS'.2.2 hi
    · simp only [jRi, e0] at hi
      rw [e0] at hQ ⊢
      exact W.lret hx hb (hr.trans e0) hQ hS'.2.2 hi
    · simp only [jRi, e0] at hi
      rw [e0] at hQ hv ⊢
      have hn : narrow .boolean (.int (Int32.ofInt v)) = .int (Int32.ofInt v) := by
        have h1 := hv.1
        have h2 := hv.2
        rcases (by omega : v = 0 ∨ v = 1) with rfl | rfl <;> rfl
      exact W.zret hx hb (hr.trans e0) hn hQ hS'.2.2 hi
  · refine ⟨by simp [jPad]; omega, by simp [jPad]; omega, hl.1, hl.2.1, fun i κ hi hκ => ?_⟩
    have hi2 : i < (jG0 κs).length := by
      by_cases hq : i < (jG0 κs).length
      · exact hq
      · have := List.mem_of_getElem? (show (List.replicate (M.2.2.1 - (jG0 κs).length) 0)[i - (jG0 κs).length]? = some κ by
          rw [← List.getElem?_append_right (by omega)]; exact hi)
        exact absurd (List.eq_of_mem_replicate this) hκ
    have hi3 : (jG0 κs)[i]? = some κ := by
      rw [← List.getElem?_append_left hi2]; exact hi
    have hk := jargs_at E κs vs 0 ha i κ hi3 hκ
    have e1 : (jPad 0 M.2.2.1 (jL0 κs vs)).getD i 0 = (jL0 κs vs).getD i 0 := by
      unfold jPad
      rw [List.getD_eq_getElem?_getD, List.getD_eq_getElem?_getD, List.getElem?_append_left (by omega)]
    rw [e1]
    refine ⟨?_, hk.2⟩
    have := hl.2.2 _ hk.1
    simpa using this
end

section
def fX11_ways (l1 : Int) (s0 : jMem) : jO :=
jBd (fX11_isHand l1 s0) fun x2 s3 =>
if x2 = 0 then (
jRet (-1) s3)
else (
jBd (fX11_isFull l1 s3) fun x6 s7 =>
if x6 = 0 then (
jRet (-2) s7)
else (
jBd (fX11_look l1 s7) fun x10 s11 =>
jBd (fX11_findWay (-1) s11) fun x13 s14 =>
jRet x13 s14))
def gX11_ways (vs : List Int) (s : jMem) : jO := match vs with
  | [a0, a1] => jGd (a0 = 53) <| fX11_ways a1 s
  | _ => none
set_option maxRecDepth 100000 in
set_option maxHeartbeats 4000000 in
theorem oX11_ways : jOk MX11_ways [3, 1] 3 (jFn gX11_ways) := by
  refine jOk_fn (by decide +kernel) (Nat.le_of_ble_eq_true rfl) (by decide +kernel) (.inr (.inl rfl)) ?_
  intro E vs s0 Rr hF ha
  obtain ⟨l0, t0, rfl, r_l0, ha⟩ := jRa_ci ha
  obtain ⟨l1, t1, rfl, r_l1, ha⟩ := jRa_ci ha
  obtain rfl := jRa_ni ha
  replace hF : jHo Rr (jGd (l0 = 53) <| fX11_ways l1 s0) := hF
  have hG := jHo_as hF
  clear hF
  obtain ⟨rfl, hF⟩ := hG
  refine jg_norm [3, 1] [53, l1] rfl rfl ?_
  unfold fX11_ways at hF
  refine ji_iload_n (n := 1) (pc := 0) l1 rfl rfl rfl dX11_ways_0 (fun r1 => ?_)
  refine ji_callSz (pc := 1) [l1] ([]) oX11_isHand wlX11_114 wmX11_isHand rfl rfl (Nat.le_of_ble_eq_true rfl) (jRaC r1 jRa0) rfl rfl (Nat.le_of_ble_eq_true rfl) hF dX11_ways_1 (fun x2 s3 r_x2 hF => ?_)
  refine ji_if_ne 9 (pc := 4) (jR51 r_x2) hF dX11_ways_4 rfl (fun hF => ?_) (fun hF => ?_)
  · refine ji_aload_n (n := 0) (pc := 9) 53 rfl rfl rfl dX11_ways_9 (fun r4 => ?_)
    refine ji_iload_n (n := 1) (pc := 10) l1 rfl rfl rfl dX11_ways_10 (fun r5 => ?_)
    refine ji_callVz (pc := 11) 53 [l1] ([]) oX11_isFull wlX11_185 wmX11_isFull rfl rfl (Nat.le_of_ble_eq_true rfl) (jRaC (jRc3 rfl) (jRaC r5 jRa0)) rfl jcl_53 rfl (Nat.le_of_ble_eq_true rfl) hF dX11_ways_11 (fun x6 s7 r_x6 hF => ?_)
    refine ji_if_ne 20 (pc := 14) (jR51 r_x6) hF dX11_ways_14 rfl (fun hF => ?_) (fun hF => ?_)
    · refine ji_aload_n (n := 0) (pc := 20) 53 rfl rfl rfl dX11_ways_20 (fun r8 => ?_)
      refine ji_iload_n (n := 1) (pc := 21) l1 rfl rfl rfl dX11_ways_21 (fun r9 => ?_)
      refine ji_callVv (pc := 22) 53 [l1] ([]) oX11_look wlX11_188 wmX11_look rfl rfl (Nat.le_of_ble_eq_true rfl) (jRaC (jRc3 rfl) (jRaC r9 jRa0)) rfl jcl_53 rfl (Nat.le_of_ble_eq_true rfl) hF dX11_ways_22 (fun x10 s11 hF => ?_)
      refine ji_aload_n (n := 0) (pc := 25) 53 rfl rfl rfl dX11_ways_25 (fun r12 => ?_)
      refine ji_iconst (pc := 26) dX11_ways_26 ?_
      refine ji_callVi (pc := 27) 53 [(-1)] ([]) oX11_findWay wlX11_175 wmX11_findWay rfl rfl (Nat.le_of_ble_eq_true rfl) (jRaC (jRc3 rfl) (jRaC (jRc rfl) jRa0)) rfl jcl_53 rfl (Nat.le_of_ble_eq_true rfl) hF dX11_ways_27 (fun x13 s14 r_x13 hF => ?_)
      exact ji_reti (pc := 30) rfl r_x13 hF dX11_ways_30
    · refine jg_bipush (pc := 17) rfl dX11_ways_17 ?_
      exact ji_reti (pc := 19) rfl (jRc rfl) hF dX11_ways_19
  · refine ji_iconst (pc := 7) dX11_ways_7 ?_
    exact ji_reti (pc := 8) rfl (jRc rfl) hF dX11_ways_8
def bX11_addOpen_2 (rec : Int → Int → jMem → jO) (l1 l2 : Int) (s0 : jMem) : jO :=
jGd ((0 : Int) ≤ l1 ∧ l1 < jik 58) <| jLet (s0 58 l1) fun x4 =>
if x4 ≤ l2 then (
jRet 0 s0)
else (
jGd ((0 : Int) ≤ l1 ∧ l1 < jik 58) <| jLet (s0 58 l1) fun x8 =>
jLet (j32 (5 - x8)) fun x9 =>
jLet (j32 (x9 + l2)) fun x11 =>
jLet (j32 (5 * l1)) fun x14 =>
jLet (j32 (x14 + l2)) fun x16 =>
jGd ((0 : Int) ≤ x16 ∧ x16 < jik 59) <| jLet (s0 59 x16) fun x17 =>
jGd ((0 : Int) ≤ x11 ∧ x11 < jik 71) <| jLet (jU s0 71 x11 x17) fun s18 =>
jLet (j32 (l2 + 1)) fun x19 =>
rec l1 x19 s18)
def fX11_addOpen (l1 : Int) (s0 : jMem) : jO :=
jIt (fun _ _ _ => none) (bX11_addOpen_2) 1000 l1 0 s0
def gX11_addOpen (vs : List Int) (s : jMem) : jO := match vs with
  | [a0, a1] => jGd (a0 = 53) <| fX11_addOpen a1 s
  | _ => none
set_option maxRecDepth 100000 in
set_option maxHeartbeats 4000000 in
theorem obX11_addOpen_2 {E : jEnv} {Rr : Int → jMem → Prop} {rec : Int → Int → jMem → jO} (hrec : ∀ (l1 l2 : Int) (s : jMem), jHo Rr (rec l1 l2 s) → jGo E MX11_addOpen 0 Rr [3, 1, 1] 2 [53, l1, l2] ([]) s) : ∀ (l1 l2 : Int) (s : jMem), jHo Rr (bX11_addOpen_2 rec l1 l2 s) → jGo E MX11_addOpen 0 Rr [3, 1, 1] 2 [53, l1, l2] ([]) s := by
  intro l1 l2 s0 hF
  unfold bX11_addOpen_2 at hF
  refine ji_iload_n (n := 2) (pc := 2) l2 rfl rfl rfl dX11_addOpen_2 (fun r1 => ?_)
  refine ji_aload_n (n := 0) (pc := 3) 53 rfl rfl rfl dX11_addOpen_3 (fun r2 => ?_)
  refine ji_getr (pc := 4) 58 wfX11_22 (jRc3 rfl) jcl_53 jrf_53_4 dX11_addOpen_4 ?_
  refine ji_iload_n (n := 1) (pc := 7) l1 rfl rfl rfl dX11_addOpen_7 (fun r3 => ?_)
  refine ji_iaload (pc := 8) (jRc3 rfl) r3 hF dX11_addOpen_8 (fun x4 r_x4 hF => ?_)
  refine ji_icmp_ge 43 (pc := 9) r1 r_x4 hF dX11_addOpen_9 rfl (fun hF => ?_) (fun hF => ?_)
  · exact ji_retv (pc := 43) rfl hF dX11_addOpen_43
  · refine ji_aload_n (n := 0) (pc := 12) 53 rfl rfl rfl dX11_addOpen_12 (fun r5 => ?_)
    refine ji_getr (pc := 13) 71 wfX11_65 (jRc3 rfl) jcl_53 jrf_53_22 dX11_addOpen_13 ?_
    refine ji_iconst (pc := 16) dX11_addOpen_16 ?_
    refine ji_aload_n (n := 0) (pc := 17) 53 rfl rfl rfl dX11_addOpen_17 (fun r6 => ?_)
    refine ji_getr (pc := 18) 58 wfX11_22 (jRc3 rfl) jcl_53 jrf_53_4 dX11_addOpen_18 ?_
    refine ji_iload_n (n := 1) (pc := 21) l1 rfl rfl rfl dX11_addOpen_21 (fun r7 => ?_)
    refine ji_iaload (pc := 22) (jRc3 rfl) r7 hF dX11_addOpen_22 (fun x8 r_x8 hF => ?_)
    refine ji_isub (pc := 23)  hF dX11_addOpen_23 (fun x9 r_x9 hF => ?_)
    refine ji_iload_n (n := 2) (pc := 24) l2 rfl rfl rfl dX11_addOpen_24 (fun r10 => ?_)
    refine ji_iadd (pc := 25)  hF dX11_addOpen_25 (fun x11 r_x11 hF => ?_)
    refine ji_aload_n (n := 0) (pc := 26) 53 rfl rfl rfl dX11_addOpen_26 (fun r12 => ?_)
    refine ji_getr (pc := 27) 59 wfX11_25 (jRc3 rfl) jcl_53 jrf_53_5 dX11_addOpen_27 ?_
    refine ji_iconst (pc := 30) dX11_addOpen_30 ?_
    refine ji_iload_n (n := 1) (pc := 31) l1 rfl rfl rfl dX11_addOpen_31 (fun r13 => ?_)
    refine ji_imul (pc := 32)  hF dX11_addOpen_32 (fun x14 r_x14 hF => ?_)
    refine ji_iload_n (n := 2) (pc := 33) l2 rfl rfl rfl dX11_addOpen_33 (fun r15 => ?_)
    refine ji_iadd (pc := 34)  hF dX11_addOpen_34 (fun x16 r_x16 hF => ?_)
    refine ji_iaload (pc := 35) (jRc3 rfl) r_x16 hF dX11_addOpen_35 (fun x17 r_x17 hF => ?_)
    refine ji_iastore (pc := 36) (jRc3 rfl) r_x11 r_x17 hF dX11_addOpen_36 (fun s18 hF => ?_)
    refine ji_iinc (pc := 37) l2 (fun w => [53, l1, w]) rfl rfl rfl (fun _ => rfl) hF dX11_addOpen_37 (fun x19 r_x19 hF => ?_)
    refine jg_goto (pc := 40) 2 dX11_addOpen_40 rfl ?_
    refine jg_norm [3, 1, 1] [53, l1, x19] rfl rfl ?_
    exact hrec _ _ _ hF
theorem obX11_addOpen_2W {E : jEnv} {Rr : Int → jMem → Prop} : ∀ n : Nat, ∀ (l1 l2 : Int) (s : jMem), jHo Rr (jIt (fun _ _ _ => none) (bX11_addOpen_2) n l1 l2 s) → jGo E MX11_addOpen 0 Rr [3, 1, 1] 2 [53, l1, l2] ([]) s := by
  intro n
  induction n with
  | zero => intro l1 l2 s hF; exact jHo_none hF
  | succ n ih => exact obX11_addOpen_2 ih

set_option maxRecDepth 100000 in
set_option maxHeartbeats 4000000 in
theorem oX11_addOpen : jOk MX11_addOpen [3, 1] 0 (jFn gX11_addOpen) := by
  refine jOk_fn (by decide +kernel) (Nat.le_of_ble_eq_true rfl) (by decide +kernel) (.inl rfl) ?_
  intro E vs s0 Rr hF ha
  obtain ⟨l0, t0, rfl, r_l0, ha⟩ := jRa_ci ha
  obtain ⟨l1, t1, rfl, r_l1, ha⟩ := jRa_ci ha
  obtain rfl := jRa_ni ha
  replace hF : jHo Rr (jGd (l0 = 53) <| fX11_addOpen l1 s0) := hF
  have hG := jHo_as hF
  clear hF
  obtain ⟨rfl, hF⟩ := hG
  refine jg_norm [3, 1, 0] [53, l1, 0] rfl rfl ?_
  unfold fX11_addOpen at hF
  refine ji_iconst (pc := 0) dX11_addOpen_0 ?_
  refine ji_istore_n (n := 2) (pc := 1) [3, 1, 1] [53, l1, 0] rfl (jRc rfl) (Nat.le_of_ble_eq_true rfl) rfl rfl dX11_addOpen_1 ?_
  refine jg_norm [3, 1, 1] [53, l1, 0] rfl rfl ?_
  exact obX11_addOpen_2W 1000 _ _ _ hF
def fX11_way (l1 l2 l3 : Int) (s0 : jMem) : jO :=
jBd (fX11_isHand l1 s0) fun x2 s3 =>
if x2 = 0 then (
jRet (-1) s3)
else (
jBd (fX11_in l3 0 4 s3) fun x5 s6 =>
if x5 = 0 then (
jRet (-1) s6)
else (
jBd (fX11_isFull l1 s6) fun x9 s10 =>
if x9 = 0 then (
jRet (-2) s10)
else (
jBd (fX11_look l1 s10) fun x13 s14 =>
if l2 < 0 then (
jRet (-3) s14)
else (
jBd (fX11_findWay l2 s14) fun x18 s19 =>
jLet (j32 (l2 + 1)) fun x21 =>
if x18 = x21 then (
jBd (fX11_addOpen l1 s19) fun x24 s25 =>
jGd ((0 : Int) ≤ l3 ∧ l3 < jik 71) <| jLet (s25 71 l3) fun x28 =>
jRet x28 s25)
else (
jRet (-3) s19)))))
def gX11_way (vs : List Int) (s : jMem) : jO := match vs with
  | [a0, a1, a2, a3] => jGd (a0 = 53) <| fX11_way a1 a2 a3 s
  | _ => none
set_option maxRecDepth 100000 in
set_option maxHeartbeats 4000000 in
theorem oX11_way : jOk MX11_way [3, 1, 1, 1] 3 (jFn gX11_way) := by
  refine jOk_fn (by decide +kernel) (Nat.le_of_ble_eq_true rfl) (by decide +kernel) (.inr (.inl rfl)) ?_
  intro E vs s0 Rr hF ha
  obtain ⟨l0, t0, rfl, r_l0, ha⟩ := jRa_ci ha
  obtain ⟨l1, t1, rfl, r_l1, ha⟩ := jRa_ci ha
  obtain ⟨l2, t2, rfl, r_l2, ha⟩ := jRa_ci ha
  obtain ⟨l3, t3, rfl, r_l3, ha⟩ := jRa_ci ha
  obtain rfl := jRa_ni ha
  replace hF : jHo Rr (jGd (l0 = 53) <| fX11_way l1 l2 l3 s0) := hF
  have hG := jHo_as hF
  clear hF
  obtain ⟨rfl, hF⟩ := hG
  refine jg_norm [3, 1, 1, 1] [53, l1, l2, l3] rfl rfl ?_
  unfold fX11_way at hF
  refine ji_iload_n (n := 1) (pc := 0) l1 rfl rfl rfl dX11_way_0 (fun r1 => ?_)
  refine ji_callSz (pc := 1) [l1] ([]) oX11_isHand wlX11_114 wmX11_isHand rfl rfl (Nat.le_of_ble_eq_true rfl) (jRaC r1 jRa0) rfl rfl (Nat.le_of_ble_eq_true rfl) hF dX11_way_1 (fun x2 s3 r_x2 hF => ?_)
  refine ji_if_eq 19 (pc := 4) (jR51 r_x2) hF dX11_way_4 rfl (fun hF => ?_) (fun hF => ?_)
  · refine ji_iconst (pc := 19) dX11_way_19 ?_
    exact ji_reti (pc := 20) rfl (jRc rfl) hF dX11_way_20
  · refine ji_iload_n (n := 3) (pc := 7) l3 rfl rfl rfl dX11_way_7 (fun r4 => ?_)
    refine jg_i2l (pc := 8) r4 dX11_way_8 ?_
    refine jg_lconst (n := 0) (pc := 9) rfl dX11_way_9 ?_
    refine jg_ldc2 (n := 4) (pc := 10) wnX11_195 dX11_way_10 ?_
    refine ji_callSz (pc := 13) [l3, 0, 4] ([]) oX11_in wlX11_86 wmX11_in rfl rfl (Nat.le_of_ble_eq_true rfl) (jRaC (jR12 r4) (jRaC (jRc2 rfl) (jRaC (jRc2 rfl) jRa0))) rfl rfl (Nat.le_of_ble_eq_true rfl) hF dX11_way_13 (fun x5 s6 r_x5 hF => ?_)
    refine ji_if_ne 21 (pc := 16) (jR51 r_x5) hF dX11_way_16 rfl (fun hF => ?_) (fun hF => ?_)
    · refine ji_aload_n (n := 0) (pc := 21) 53 rfl rfl rfl dX11_way_21 (fun r7 => ?_)
      refine ji_iload_n (n := 1) (pc := 22) l1 rfl rfl rfl dX11_way_22 (fun r8 => ?_)
      refine ji_callVz (pc := 23) 53 [l1] ([]) oX11_isFull wlX11_185 wmX11_isFull rfl rfl (Nat.le_of_ble_eq_true rfl) (jRaC (jRc3 rfl) (jRaC r8 jRa0)) rfl jcl_53 rfl (Nat.le_of_ble_eq_true rfl) hF dX11_way_23 (fun x9 s10 r_x9 hF => ?_)
      refine ji_if_ne 32 (pc := 26) (jR51 r_x9) hF dX11_way_26 rfl (fun hF => ?_) (fun hF => ?_)
      · refine ji_aload_n (n := 0) (pc := 32) 53 rfl rfl rfl dX11_way_32 (fun r11 => ?_)
        refine ji_iload_n (n := 1) (pc := 33) l1 rfl rfl rfl dX11_way_33 (fun r12 => ?_)
        refine ji_callVv (pc := 34) 53 [l1] ([]) oX11_look wlX11_188 wmX11_look rfl rfl (Nat.le_of_ble_eq_true rfl) (jRaC (jRc3 rfl) (jRaC r12 jRa0)) rfl jcl_53 rfl (Nat.le_of_ble_eq_true rfl) hF dX11_way_34 (fun x13 s14 hF => ?_)
        refine ji_iload_n (n := 2) (pc := 37) l2 rfl rfl rfl dX11_way_37 (fun r15 => ?_)
        refine ji_if_lt 52 (pc := 38) r15 hF dX11_way_38 rfl (fun hF => ?_) (fun hF => ?_)
        · refine jg_bipush (pc := 52) rfl dX11_way_52 ?_
          exact ji_reti (pc := 54) rfl (jRc rfl) hF dX11_way_54
        · refine ji_aload_n (n := 0) (pc := 41) 53 rfl rfl rfl dX11_way_41 (fun r16 => ?_)
          refine ji_iload_n (n := 2) (pc := 42) l2 rfl rfl rfl dX11_way_42 (fun r17 => ?_)
          refine ji_callVi (pc := 43) 53 [l2] ([]) oX11_findWay wlX11_175 wmX11_findWay rfl rfl (Nat.le_of_ble_eq_true rfl) (jRaC (jRc3 rfl) (jRaC r17 jRa0)) rfl jcl_53 rfl (Nat.le_of_ble_eq_true rfl) hF dX11_way_43 (fun x18 s19 r_x18 hF => ?_)
          refine ji_iload_n (n := 2) (pc := 46) l2 rfl rfl rfl dX11_way_46 (fun r20 => ?_)
          refine ji_iconst (pc := 47) dX11_way_47 ?_
          refine ji_iadd (pc := 48)  hF dX11_way_48 (fun x21 r_x21 hF => ?_)
          refine ji_icmp_eq 55 (pc := 49) r_x18 r_x21 hF dX11_way_49 rfl (fun hF => ?_) (fun hF => ?_)
          · refine ji_aload_n (n := 0) (pc := 55) 53 rfl rfl rfl dX11_way_55 (fun r22 => ?_)
            refine ji_iload_n (n := 1) (pc := 56) l1 rfl rfl rfl dX11_way_56 (fun r23 => ?_)
            refine ji_callVv (pc := 57) 53 [l1] ([]) oX11_addOpen wlX11_197 wmX11_addOpen rfl rfl (Nat.le_of_ble_eq_true rfl) (jRaC (jRc3 rfl) (jRaC r23 jRa0)) rfl jcl_53 rfl (Nat.le_of_ble_eq_true rfl) hF dX11_way_57 (fun x24 s25 hF => ?_)
            refine ji_aload_n (n := 0) (pc := 60) 53 rfl rfl rfl dX11_way_60 (fun r26 => ?_)
            refine ji_getr (pc := 61) 71 wfX11_65 (jRc3 rfl) jcl_53 jrf_53_22 dX11_way_61 ?_
            refine ji_iload_n (n := 3) (pc := 64) l3 rfl rfl rfl dX11_way_64 (fun r27 => ?_)
            refine ji_iaload (pc := 65) (jRc3 rfl) r27 hF dX11_way_65 (fun x28 r_x28 hF => ?_)
            exact ji_reti (pc := 66) rfl r_x28 hF dX11_way_66
          · refine jg_bipush (pc := 52) rfl dX11_way_52 ?_
            exact ji_reti (pc := 54) rfl (jRc rfl) hF dX11_way_54
      · refine jg_bipush (pc := 29) rfl dX11_way_29 ?_
        exact ji_reti (pc := 31) rfl (jRc rfl) hF dX11_way_31
    · refine ji_iconst (pc := 19) dX11_way_19 ?_
      exact ji_reti (pc := 20) rfl (jRc rfl) hF dX11_way_20
def fX11_better (l1 l2 : Int) (s0 : jMem) : jO :=
jGd ((0 : Int) ≤ l1 ∧ l1 < jik 73) <| jLet (s0 73 l1) fun x6 =>
if x6 ≤ l2 then (
jGd ((0 : Int) ≤ l1 ∧ l1 < jik 73) <| jLet (s0 73 l1) fun x9 =>
jGd ((0 : Int) ≤ l1 ∧ l1 < jik 73) <| jLet (jU s0 73 l1 x9) fun s10 =>
jRet 0 s10)
else (
jGd ((0 : Int) ≤ l1 ∧ l1 < jik 73) <| jLet (jU s0 73 l1 l2) fun s12 =>
jRet 0 s12)
def gX11_better (vs : List Int) (s : jMem) : jO := match vs with
  | [a0, a1, a2] => jGd (a0 = 53) <| fX11_better a1 a2 s
  | _ => none
set_option maxRecDepth 100000 in
set_option maxHeartbeats 4000000 in
theorem oX11_better : jOk MX11_better [3, 1, 1] 0 (jFn gX11_better) := by
  refine jOk_fn (by decide +kernel) (Nat.le_of_ble_eq_true rfl) (by decide +kernel) (.inl rfl) ?_
  intro E vs s0 Rr hF ha
  obtain ⟨l0, t0, rfl, r_l0, ha⟩ := jRa_ci ha
  obtain ⟨l1, t1, rfl, r_l1, ha⟩ := jRa_ci ha
  obtain ⟨l2, t2, rfl, r_l2, ha⟩ := jRa_ci ha
  obtain rfl := jRa_ni ha
  replace hF : jHo Rr (jGd (l0 = 53) <| fX11_better l1 l2 s0) := hF
  have hG := jHo_as hF
  clear hF
  obtain ⟨rfl, hF⟩ := hG
  refine jg_norm [3, 1, 1] [53, l1, l2] rfl rfl ?_
  unfold fX11_better at hF
  refine ji_aload_n (n := 0) (pc := 0) 53 rfl rfl rfl dX11_better_0 (fun r1 => ?_)
  refine ji_getr (pc := 1) 73 wfX11_71 (jRc3 rfl) jcl_53 jrf_53_24 dX11_better_1 ?_
  refine ji_iload_n (n := 1) (pc := 4) l1 rfl rfl rfl dX11_better_4 (fun r2 => ?_)
  refine ji_iload_n (n := 2) (pc := 5) l2 rfl rfl rfl dX11_better_5 (fun r3 => ?_)
  refine ji_aload_n (n := 0) (pc := 6) 53 rfl rfl rfl dX11_better_6 (fun r4 => ?_)
  refine ji_getr (pc := 7) 73 wfX11_71 (jRc3 rfl) jcl_53 jrf_53_24 dX11_better_7 ?_
  refine ji_iload_n (n := 1) (pc := 10) l1 rfl rfl rfl dX11_better_10 (fun r5 => ?_)
  refine ji_iaload (pc := 11) (jRc3 rfl) r5 hF dX11_better_11 (fun x6 r_x6 hF => ?_)
  refine ji_icmp_ge 19 (pc := 12) r3 r_x6 hF dX11_better_12 rfl (fun hF => ?_) (fun hF => ?_)
  · refine ji_aload_n (n := 0) (pc := 19) 53 rfl rfl rfl dX11_better_19 (fun r7 => ?_)
    refine ji_getr (pc := 20) 73 wfX11_71 (jRc3 rfl) jcl_53 jrf_53_24 dX11_better_20 ?_
    refine ji_iload_n (n := 1) (pc := 23) l1 rfl rfl rfl dX11_better_23 (fun r8 => ?_)
    refine ji_iaload (pc := 24) (jRc3 rfl) r8 hF dX11_better_24 (fun x9 r_x9 hF => ?_)
    refine ji_iastore (pc := 25) (jRc3 rfl) r2 r_x9 hF dX11_better_25 (fun s10 hF => ?_)
    exact ji_retv (pc := 26) rfl hF dX11_better_26
  · refine ji_iload_n (n := 2) (pc := 15) l2 rfl rfl rfl dX11_better_15 (fun r11 => ?_)
    refine jg_goto (pc := 16) 25 dX11_better_16 rfl ?_
    refine ji_iastore (pc := 25) (jRc3 rfl) r2 r11 hF dX11_better_25 (fun s12 hF => ?_)
    exact ji_retv (pc := 26) rfl hF dX11_better_26
def bX11_move_2 (rec : Int → jMem → jO) (l1 : Int) (s0 : jMem) : jO :=
if 250 ≤ l1 then (
jRet 0 s0)
else (
jGd ((0 : Int) ≤ l1 ∧ l1 < jik 73) <| jLet (s0 73 l1) fun x6 =>
jGd ((0 : Int) ≤ l1 ∧ l1 < jik 72) <| jLet (jU s0 72 l1 x6) fun s7 =>
jGd ((0 : Int) ≤ l1 ∧ l1 < jik 73) <| jLet (jU s7 73 l1 99) fun s10 =>
jLet (j32 (l1 + 1)) fun x11 =>
rec x11 s10)
def fX11_move (s0 : jMem) : jO :=
jIt (fun _ _ => none) (bX11_move_2) 1000 0 s0
def gX11_move (vs : List Int) (s : jMem) : jO := match vs with
  | [a0] => jGd (a0 = 53) <| fX11_move s
  | _ => none
set_option maxRecDepth 100000 in
set_option maxHeartbeats 4000000 in
theorem obX11_move_2 {E : jEnv} {Rr : Int → jMem → Prop} {rec : Int → jMem → jO} (hrec : ∀ (l1 : Int) (s : jMem), jHo Rr (rec l1 s) → jGo E MX11_move 0 Rr [3, 1] 2 [53, l1] ([]) s) : ∀ (l1 : Int) (s : jMem), jHo Rr (bX11_move_2 rec l1 s) → jGo E MX11_move 0 Rr [3, 1] 2 [53, l1] ([]) s := by
  intro l1 s0 hF
  unfold bX11_move_2 at hF
  refine ji_iload_n (n := 1) (pc := 2) l1 rfl rfl rfl dX11_move_2 (fun r1 => ?_)
  refine jg_sipush (pc := 3) rfl dX11_move_3 ?_
  refine ji_icmp_ge 35 (pc := 6) r1 (jRc rfl) hF dX11_move_6 rfl (fun hF => ?_) (fun hF => ?_)
  · exact ji_retv (pc := 35) rfl hF dX11_move_35
  · refine ji_aload_n (n := 0) (pc := 9) 53 rfl rfl rfl dX11_move_9 (fun r2 => ?_)
    refine ji_getr (pc := 10) 72 wfX11_68 (jRc3 rfl) jcl_53 jrf_53_23 dX11_move_10 ?_
    refine ji_iload_n (n := 1) (pc := 13) l1 rfl rfl rfl dX11_move_13 (fun r3 => ?_)
    refine ji_aload_n (n := 0) (pc := 14) 53 rfl rfl rfl dX11_move_14 (fun r4 => ?_)
    refine ji_getr (pc := 15) 73 wfX11_71 (jRc3 rfl) jcl_53 jrf_53_24 dX11_move_15 ?_
    refine ji_iload_n (n := 1) (pc := 18) l1 rfl rfl rfl dX11_move_18 (fun r5 => ?_)
    refine ji_iaload (pc := 19) (jRc3 rfl) r5 hF dX11_move_19 (fun x6 r_x6 hF => ?_)
    refine ji_iastore (pc := 20) (jRc3 rfl) r3 r_x6 hF dX11_move_20 (fun s7 hF => ?_)
    refine ji_aload_n (n := 0) (pc := 21) 53 rfl rfl rfl dX11_move_21 (fun r8 => ?_)
    refine ji_getr (pc := 22) 73 wfX11_71 (jRc3 rfl) jcl_53 jrf_53_24 dX11_move_22 ?_
    refine ji_iload_n (n := 1) (pc := 25) l1 rfl rfl rfl dX11_move_25 (fun r9 => ?_)
    refine jg_bipush (pc := 26) rfl dX11_move_26 ?_
    refine ji_iastore (pc := 28) (jRc3 rfl) r9 (jRc rfl) hF dX11_move_28 (fun s10 hF => ?_)
    refine ji_iinc (pc := 29) l1 (fun w => [53, w]) rfl rfl rfl (fun _ => rfl) hF dX11_move_29 (fun x11 r_x11 hF => ?_)
    refine jg_goto (pc := 32) 2 dX11_move_32 rfl ?_
    refine jg_norm [3, 1] [53, x11] rfl rfl ?_
    exact hrec _ _ hF
theorem obX11_move_2W {E : jEnv} {Rr : Int → jMem → Prop} : ∀ n : Nat, ∀ (l1 : Int) (s : jMem), jHo Rr (jIt (fun _ _ => none) (bX11_move_2) n l1 s) → jGo E MX11_move 0 Rr [3, 1] 2 [53, l1] ([]) s := by
  intro n
  induction n with
  | zero => intro l1 s hF; exact jHo_none hF
  | succ n ih => exact obX11_move_2 ih

set_option maxRecDepth 100000 in
set_option maxHeartbeats 4000000 in
theorem oX11_move : jOk MX11_move [3] 0 (jFn gX11_move) := by
  refine jOk_fn (by decide +kernel) (Nat.le_of_ble_eq_true rfl) (by decide +kernel) (.inl rfl) ?_
  intro E vs s0 Rr hF ha
  obtain ⟨l0, t0, rfl, r_l0, ha⟩ := jRa_ci ha
  obtain rfl := jRa_ni ha
  replace hF : jHo Rr (jGd (l0 = 53) <| fX11_move s0) := hF
  have hG := jHo_as hF
  clear hF
  obtain ⟨rfl, hF⟩ := hG
  refine jg_norm [3, 0] [53, 0] rfl rfl ?_
  unfold fX11_move at hF
  refine ji_iconst (pc := 0) dX11_move_0 ?_
  refine ji_istore_n (n := 1) (pc := 1) [3, 1] [53, 0] rfl (jRc rfl) (Nat.le_of_ble_eq_true rfl) rfl rfl dX11_move_1 ?_
  refine jg_norm [3, 1] [53, 0] rfl rfl ?_
  exact obX11_move_2W 1000 _ _ hF
def bX11_step_113 (k151 : Int → Int → Int → Int → Int → Int → Int → Int → Int → Int → jMem → jO) (l1 l2 l3 l4 l5 l6 l7 l8 l9 l10 t0 : Int) (s0 : jMem) : jO :=
jLet (j32 (50 * l8)) fun x3 =>
jLet (j32 (10 * l2)) fun x5 =>
jLet (j32 (x3 + x5)) fun x6 =>
jLet (j32 (l4 + l8)) fun x9 =>
jLet (j32 (x9 + l9)) fun x11 =>
jLet (j32 (2 * x11)) fun x12 =>
jLet (j32 (x6 + x12)) fun x13 =>
jLet (j32 (x13 + l5)) fun x15 =>
jLet (j32 (x15 + l10)) fun x17 =>
jLet (j32 (l7 + t0)) fun x20 =>
jBd (fX11_better x17 x20 s0) fun x21 s22 =>
k151 l1 l2 l3 l4 l5 l6 l7 l8 l9 l10 s22
def bX11_step_151 (k43 : Int → Int → Int → Int → Int → Int → Int → Int → Int → Int → jMem → jO) (l1 l2 l3 l4 l5 l6 l7 l8 l9 l10 : Int) (s0 : jMem) : jO :=
jLet (j32 (l10 + 1)) fun x1 =>
k43 l1 l2 l3 l4 l5 l6 l7 l8 l9 x1 s0
def bX11_step_43 (k157 : Int → Int → Int → Int → Int → Int → Int → Int → Int → jMem → jO) (rec : Int → Int → Int → Int → Int → Int → Int → Int → Int → Int → jMem → jO) (l1 l2 l3 l4 l5 l6 l7 l8 l9 l10 : Int) (s0 : jMem) : jO :=
if 2 ≤ l10 then (
k157 l1 l2 l3 l4 l5 l6 l7 l8 l9 s0)
else (
jLet (j32 (l5 + l10)) fun x4 =>
if 2 ≤ x4 then (
k157 l1 l2 l3 l4 l5 l6 l7 l8 l9 s0)
else (
jLet (j32 (l2 + l3)) fun x7 =>
jLet (j32 (x7 + l8)) fun x9 =>
jLet (j32 (3 * l9)) fun x11 =>
jLet (j32 (x9 + x11)) fun x12 =>
jLet (j32 (2 * l10)) fun x14 =>
jLet (j32 (x12 + x14)) fun x15 =>
jGd ((0 : Int) ≤ l1 ∧ l1 < jik 69) <| jLet (s0 69 l1) fun x19 =>
jLet (j32 (x15 + x19)) fun x20 =>
if 4 < x20 then (
bX11_step_151 rec l1 l2 l3 l4 l5 l6 l7 l8 l9 l10 s0)
else (
jGd ((0 : Int) ≤ l1 ∧ l1 < jik 68) <| jLet (s0 68 l1) fun x24 =>
if x15 ≤ x24 then (
bX11_step_113 (bX11_step_151 rec) l1 l2 l3 l4 l5 l6 l7 l8 l9 l10 0 s0)
else (
jGd ((0 : Int) ≤ l1 ∧ l1 < jik 68) <| jLet (s0 68 l1) fun x28 =>
jLet (j32 (x15 - x28)) fun x29 =>
bX11_step_113 (bX11_step_151 rec) l1 l2 l3 l4 l5 l6 l7 l8 l9 l10 x29 s0))))
def bX11_step_157 (k22 : Int → Int → Int → Int → Int → Int → Int → Int → Int → jMem → jO) (l1 l2 l3 l4 l5 l6 l7 l8 l9 : Int) (s0 : jMem) : jO :=
jLet (j32 (l9 + 1)) fun x1 =>
k22 l1 l2 l3 l4 l5 l6 l7 l8 x1 s0
def bX11_step_22 (k163 : Int → Int → Int → Int → Int → Int → Int → Int → jMem → jO) (rec : Int → Int → Int → Int → Int → Int → Int → Int → Int → jMem → jO) (l1 l2 l3 l4 l5 l6 l7 l8 l9 : Int) (s0 : jMem) : jO :=
if 2 ≤ l9 then (
k163 l1 l2 l3 l4 l5 l6 l7 l8 s0)
else (
jLet (j32 (l4 + l8)) fun x4 =>
jLet (j32 (x4 + l9)) fun x6 =>
if 5 ≤ x6 then (
k163 l1 l2 l3 l4 l5 l6 l7 l8 s0)
else (
jIt (fun _ _ _ _ _ _ _ _ _ _ _ => none) (bX11_step_43 (bX11_step_157 rec)) 1000 l1 l2 l3 l4 l5 l6 l7 l8 l9 0 s0))
def bX11_step_163 (k3 : Int → Int → Int → Int → Int → Int → Int → Int → jMem → jO) (l1 l2 l3 l4 l5 l6 l7 l8 : Int) (s0 : jMem) : jO :=
jLet (j32 (l8 + 1)) fun x1 =>
k3 l1 l2 l3 l4 l5 l6 l7 x1 s0
def bX11_step_3 (rec : Int → Int → Int → Int → Int → Int → Int → Int → jMem → jO) (l1 l2 l3 l4 l5 l6 l7 l8 : Int) (s0 : jMem) : jO :=
if l6 < l8 then (
jRet 0 s0)
else (
jLet (j32 (l4 + l8)) fun x5 =>
if 5 ≤ x5 then (
jRet 0 s0)
else (
jIt (fun _ _ _ _ _ _ _ _ _ _ => none) (bX11_step_22 (bX11_step_163 rec)) 1000 l1 l2 l3 l4 l5 l6 l7 l8 0 s0))
def fX11_step (l1 l2 l3 l4 l5 l6 l7 : Int) (s0 : jMem) : jO :=
jIt (fun _ _ _ _ _ _ _ _ _ => none) (bX11_step_3) 1000 l1 l2 l3 l4 l5 l6 l7 0 s0
def gX11_step (vs : List Int) (s : jMem) : jO := match vs with
  | [a0, a1, a2, a3, a4, a5, a6, a7] => jGd (a0 = 53) <| fX11_step a1 a2 a3 a4 a5 a6 a7 s
  | _ => none
set_option maxRecDepth 100000 in
set_option maxHeartbeats 4000000 in
theorem obX11_step_113 {E : jEnv} {Rr : Int → jMem → Prop} {k151 : Int → Int → Int → Int → Int → Int → Int → Int → Int → Int → jMem → jO} (hk151 : ∀ (l1 l2 l3 l4 l5 l6 l7 l8 l9 l10 : Int) (s : jMem), jHo Rr (k151 l1 l2 l3 l4 l5 l6 l7 l8 l9 l10 s) → jGo E MX11_step 1 Rr [3, 1, 1, 1, 1, 1, 1, 1, 1, 1, 1, 0, 0] 151 [53, l1, l2, l3, l4, l5, l6, l7, l8, l9, l10, 0, 0] ([]) s) : ∀ (l1 l2 l3 l4 l5 l6 l7 l8 l9 l10 t0 : Int) (s : jMem), jR 1 t0 → jHo Rr (bX11_step_113 k151 l1 l2 l3 l4 l5 l6 l7 l8 l9 l10 t0 s) → jGo E MX11_step 1 Rr [3, 1, 1, 1, 1, 1, 1, 1, 1, 1, 1, 0, 0] 113 [53, l1, l2, l3, l4, l5, l6, l7, l8, l9, l10, 0, 0] (jV E 1 t0 :: []) s := by
  intro l1 l2 l3 l4 l5 l6 l7 l8 l9 l10 t0 s0 r_t0 hF
  unfold bX11_step_113 at hF
  refine ji_istore (n := 12) (pc := 113) [3, 1, 1, 1, 1, 1, 1, 1, 1, 1, 1, 0, 1] [53, l1, l2, l3, l4, l5, l6, l7, l8, l9, l10, 0, t0] r_t0 (Nat.le_of_ble_eq_true rfl) rfl rfl dX11_step_113 ?_
  refine ji_aload_n (n := 0) (pc := 115) 53 rfl rfl rfl dX11_step_115 (fun r1 => ?_)
  refine jg_bipush (pc := 116) rfl dX11_step_116 ?_
  refine ji_iload (pc := 118) l8 rfl rfl dX11_step_118 (fun r2 => ?_)
  refine ji_imul (pc := 120)  hF dX11_step_120 (fun x3 r_x3 hF => ?_)
  refine jg_bipush (pc := 121) rfl dX11_step_121 ?_
  refine ji_iload_n (n := 2) (pc := 123) l2 rfl rfl rfl dX11_step_123 (fun r4 => ?_)
  refine ji_imul (pc := 124)  hF dX11_step_124 (fun x5 r_x5 hF => ?_)
  refine ji_iadd (pc := 125)  hF dX11_step_125 (fun x6 r_x6 hF => ?_)
  refine ji_iconst (pc := 126) dX11_step_126 ?_
  refine ji_iload (pc := 127) l4 rfl rfl dX11_step_127 (fun r7 => ?_)
  refine ji_iload (pc := 129) l8 rfl rfl dX11_step_129 (fun r8 => ?_)
  refine ji_iadd (pc := 131)  hF dX11_step_131 (fun x9 r_x9 hF => ?_)
  refine ji_iload (pc := 132) l9 rfl rfl dX11_step_132 (fun r10 => ?_)
  refine ji_iadd (pc := 134)  hF dX11_step_134 (fun x11 r_x11 hF => ?_)
  refine ji_imul (pc := 135)  hF dX11_step_135 (fun x12 r_x12 hF => ?_)
  refine ji_iadd (pc := 136)  hF dX11_step_136 (fun x13 r_x13 hF => ?_)
  refine ji_iload (pc := 137) l5 rfl rfl dX11_step_137 (fun r14 => ?_)
  refine ji_iadd (pc := 139)  hF dX11_step_139 (fun x15 r_x15 hF => ?_)
  refine ji_iload (pc := 140) l10 rfl rfl dX11_step_140 (fun r16 => ?_)
  refine ji_iadd (pc := 142)  hF dX11_step_142 (fun x17 r_x17 hF => ?_)
  refine ji_iload (pc := 143) l7 rfl rfl dX11_step_143 (fun r18 => ?_)
  refine ji_iload (pc := 145) t0 rfl rfl dX11_step_145 (fun r19 => ?_)
  refine ji_iadd (pc := 147)  hF dX11_step_147 (fun x20 r_x20 hF => ?_)
  refine ji_callVv (pc := 148) 53 [x17, x20] ([]) oX11_better wlX11_200 wmX11_better rfl rfl (Nat.le_of_ble_eq_true rfl) (jRaC (jRc3 rfl) (jRaC r_x17 (jRaC r_x20 jRa0))) rfl jcl_53 rfl (Nat.le_of_ble_eq_true rfl) hF dX11_step_148 (fun x21 s22 hF => ?_)
  refine jg_norm [3, 1, 1, 1, 1, 1, 1, 1, 1, 1, 1, 0, 0] [53, l1, l2, l3, l4, l5, l6, l7, l8, l9, l10, 0, 0] rfl rfl ?_
  exact hk151 _ _ _ _ _ _ _ _ _ _ _ hF
set_option maxRecDepth 100000 in
set_option maxHeartbeats 4000000 in
theorem obX11_step_151 {E : jEnv} {Rr : Int → jMem → Prop} {k43 : Int → Int → Int → Int → Int → Int → Int → Int → Int → Int → jMem → jO} (hk43 : ∀ (l1 l2 l3 l4 l5 l6 l7 l8 l9 l10 : Int) (s : jMem), jHo Rr (k43 l1 l2 l3 l4 l5 l6 l7 l8 l9 l10 s) → jGo E MX11_step 1 Rr [3, 1, 1, 1, 1, 1, 1, 1, 1, 1, 1, 0, 0] 43 [53, l1, l2, l3, l4, l5, l6, l7, l8, l9, l10, 0, 0] ([]) s) : ∀ (l1 l2 l3 l4 l5 l6 l7 l8 l9 l10 : Int) (s : jMem), jHo Rr (bX11_step_151 k43 l1 l2 l3 l4 l5 l6 l7 l8 l9 l10 s) → jGo E MX11_step 1 Rr [3, 1, 1, 1, 1, 1, 1, 1, 1, 1, 1, 0, 0] 151 [53, l1, l2, l3, l4, l5, l6, l7, l8, l9, l10, 0, 0] ([]) s := by
  intro l1 l2 l3 l4 l5 l6 l7 l8 l9 l10 s0 hF
  unfold bX11_step_151 at hF
  refine ji_iinc (pc := 151) l10 (fun w => [53, l1, l2, l3, l4, l5, l6, l7, l8, l9, w, 0, 0]) rfl rfl rfl (fun _ => rfl) hF dX11_step_151 (fun x1 r_x1 hF => ?_)
  refine jg_goto (pc := 154) 43 dX11_step_154 rfl ?_
  refine jg_norm [3, 1, 1, 1, 1, 1, 1, 1, 1, 1, 1, 0, 0] [53, l1, l2, l3, l4, l5, l6, l7, l8, l9, x1, 0, 0] rfl rfl ?_
  exact hk43 _ _ _ _ _ _ _ _ _ _ _ hF
set_option maxRecDepth 100000 in
set_option maxHeartbeats 4000000 in
theorem obX11_step_43 {E : jEnv} {Rr : Int → jMem → Prop} {k157 : Int → Int → Int → Int → Int → Int → Int → Int → Int → jMem → jO} (hk157 : ∀ (l1 l2 l3 l4 l5 l6 l7 l8 l9 : Int) (s : jMem), jHo Rr (k157 l1 l2 l3 l4 l5 l6 l7 l8 l9 s) → jGo E MX11_step 1 Rr [3, 1, 1, 1, 1, 1, 1, 1, 1, 1, 0, 0, 0] 157 [53, l1, l2, l3, l4, l5, l6, l7, l8, l9, 0, 0, 0] ([]) s) {rec : Int → Int → Int → Int → Int → Int → Int → Int → Int → Int → jMem → jO} (hrec : ∀ (l1 l2 l3 l4 l5 l6 l7 l8 l9 l10 : Int) (s : jMem), jHo Rr (rec l1 l2 l3 l4 l5 l6 l7 l8 l9 l10 s) → jGo E MX11_step 1 Rr [3, 1, 1, 1, 1, 1, 1, 1, 1, 1, 1, 0, 0] 43 [53, l1, l2, l3, l4, l5, l6, l7, l8, l9, l10, 0, 0] ([]) s) : ∀ (l1 l2 l3 l4 l5 l6 l7 l8 l9 l10 : Int) (s : jMem), jHo Rr (bX11_step_43 k157 rec l1 l2 l3 l4 l5 l6 l7 l8 l9 l10 s) → jGo E MX11_step 1 Rr [3, 1, 1, 1, 1, 1, 1, 1, 1, 1, 1, 0, 0] 43 [53, l1, l2, l3, l4, l5, l6, l7, l8, l9, l10, 0, 0] ([]) s := by
  intro l1 l2 l3 l4 l5 l6 l7 l8 l9 l10 s0 hF
  unfold bX11_step_43 at hF
  refine ji_iload (pc := 43) l10 rfl rfl dX11_step_43 (fun r1 => ?_)
  refine ji_iconst (pc := 45) dX11_step_45 ?_
  refine ji_icmp_ge 157 (pc := 46) r1 (jRc rfl) hF dX11_step_46 rfl (fun hF => ?_) (fun hF => ?_)
  · refine jg_norm [3, 1, 1, 1, 1, 1, 1, 1, 1, 1, 0, 0, 0] [53, l1, l2, l3, l4, l5, l6, l7, l8, l9, 0, 0, 0] rfl rfl ?_
    exact hk157 _ _ _ _ _ _ _ _ _ _ hF
  · refine ji_iload (pc := 49) l5 rfl rfl dX11_step_49 (fun r2 => ?_)
    refine ji_iload (pc := 51) l10 rfl rfl dX11_step_51 (fun r3 => ?_)
    refine ji_iadd (pc := 53)  hF dX11_step_53 (fun x4 r_x4 hF => ?_)
    refine ji_iconst (pc := 54) dX11_step_54 ?_
    refine ji_icmp_ge 157 (pc := 55) r_x4 (jRc rfl) hF dX11_step_55 rfl (fun hF => ?_) (fun hF => ?_)
    · refine jg_norm [3, 1, 1, 1, 1, 1, 1, 1, 1, 1, 0, 0, 0] [53, l1, l2, l3, l4, l5, l6, l7, l8, l9, 0, 0, 0] rfl rfl ?_
      exact hk157 _ _ _ _ _ _ _ _ _ _ hF
    · refine ji_iload_n (n := 2) (pc := 58) l2 rfl rfl rfl dX11_step_58 (fun r5 => ?_)
      refine ji_iload_n (n := 3) (pc := 59) l3 rfl rfl rfl dX11_step_59 (fun r6 => ?_)
      refine ji_iadd (pc := 60)  hF dX11_step_60 (fun x7 r_x7 hF => ?_)
      refine ji_iload (pc := 61) l8 rfl rfl dX11_step_61 (fun r8 => ?_)
      refine ji_iadd (pc := 63)  hF dX11_step_63 (fun x9 r_x9 hF => ?_)
      refine ji_iconst (pc := 64) dX11_step_64 ?_
      refine ji_iload (pc := 65) l9 rfl rfl dX11_step_65 (fun r10 => ?_)
      refine ji_imul (pc := 67)  hF dX11_step_67 (fun x11 r_x11 hF => ?_)
      refine ji_iadd (pc := 68)  hF dX11_step_68 (fun x12 r_x12 hF => ?_)
      refine ji_iconst (pc := 69) dX11_step_69 ?_
      refine ji_iload (pc := 70) l10 rfl rfl dX11_step_70 (fun r13 => ?_)
      refine ji_imul (pc := 72)  hF dX11_step_72 (fun x14 r_x14 hF => ?_)
      refine ji_iadd (pc := 73)  hF dX11_step_73 (fun x15 r_x15 hF => ?_)
      refine ji_istore (n := 11) (pc := 74) [3, 1, 1, 1, 1, 1, 1, 1, 1, 1, 1, 1, 0] [53, l1, l2, l3, l4, l5, l6, l7, l8, l9, l10, x15, 0] r_x15 (Nat.le_of_ble_eq_true rfl) rfl rfl dX11_step_74 ?_
      refine ji_iload (pc := 76) x15 rfl rfl dX11_step_76 (fun r16 => ?_)
      refine ji_aload_n (n := 0) (pc := 78) 53 rfl rfl rfl dX11_step_78 (fun r17 => ?_)
      refine ji_getr (pc := 79) 69 wfX11_59 (jRc3 rfl) jcl_53 jrf_53_19 dX11_step_79 ?_
      refine ji_iload_n (n := 1) (pc := 82) l1 rfl rfl rfl dX11_step_82 (fun r18 => ?_)
      refine ji_iaload (pc := 83) (jRc3 rfl) r18 hF dX11_step_83 (fun x19 r_x19 hF => ?_)
      refine ji_iadd (pc := 84)  hF dX11_step_84 (fun x20 r_x20 hF => ?_)
      refine ji_iconst (pc := 85) dX11_step_85 ?_
      refine ji_icmp_gt 151 (pc := 86) r_x20 (jRc rfl) hF dX11_step_86 rfl (fun hF => ?_) (fun hF => ?_)
      · refine jg_norm [3, 1, 1, 1, 1, 1, 1, 1, 1, 1, 1, 0, 0] [53, l1, l2, l3, l4, l5, l6, l7, l8, l9, l10, 0, 0] rfl rfl ?_
        exact obX11_step_151 hrec _ _ _ _ _ _ _ _ _ _ _ hF
      · refine ji_iload (pc := 89) x15 rfl rfl dX11_step_89 (fun r21 => ?_)
        refine ji_aload_n (n := 0) (pc := 91) 53 rfl rfl rfl dX11_step_91 (fun r22 => ?_)
        refine ji_getr (pc := 92) 68 wfX11_56 (jRc3 rfl) jcl_53 jrf_53_18 dX11_step_92 ?_
        refine ji_iload_n (n := 1) (pc := 95) l1 rfl rfl rfl dX11_step_95 (fun r23 => ?_)
        refine ji_iaload (pc := 96) (jRc3 rfl) r23 hF dX11_step_96 (fun x24 r_x24 hF => ?_)
        refine ji_icmp_le 112 (pc := 97) r21 r_x24 hF dX11_step_97 rfl (fun hF => ?_) (fun hF => ?_)
        · refine ji_iconst (pc := 112) dX11_step_112 ?_
          refine jg_norm [3, 1, 1, 1, 1, 1, 1, 1, 1, 1, 1, 0, 0] [53, l1, l2, l3, l4, l5, l6, l7, l8, l9, l10, 0, 0] rfl rfl ?_
          exact obX11_step_113 (obX11_step_151 hrec) _ _ _ _ _ _ _ _ _ _ _ _ (jRc rfl) hF
        · refine ji_iload (pc := 100) x15 rfl rfl dX11_step_100 (fun r25 => ?_)
          refine ji_aload_n (n := 0) (pc := 102) 53 rfl rfl rfl dX11_step_102 (fun r26 => ?_)
          refine ji_getr (pc := 103) 68 wfX11_56 (jRc3 rfl) jcl_53 jrf_53_18 dX11_step_103 ?_
          refine ji_iload_n (n := 1) (pc := 106) l1 rfl rfl rfl dX11_step_106 (fun r27 => ?_)
          refine ji_iaload (pc := 107) (jRc3 rfl) r27 hF dX11_step_107 (fun x28 r_x28 hF => ?_)
          refine ji_isub (pc := 108)  hF dX11_step_108 (fun x29 r_x29 hF => ?_)
          refine jg_goto (pc := 109) 113 dX11_step_109 rfl ?_
          refine jg_norm [3, 1, 1, 1, 1, 1, 1, 1, 1, 1, 1, 0, 0] [53, l1, l2, l3, l4, l5, l6, l7, l8, l9, l10, 0, 0] rfl rfl ?_
          exact obX11_step_113 (obX11_step_151 hrec) _ _ _ _ _ _ _ _ _ _ _ _ r_x29 hF
theorem obX11_step_43W {E : jEnv} {Rr : Int → jMem → Prop} {k157 : Int → Int → Int → Int → Int → Int → Int → Int → Int → jMem → jO} (hk157 : ∀ (l1 l2 l3 l4 l5 l6 l7 l8 l9 : Int) (s : jMem), jHo Rr (k157 l1 l2 l3 l4 l5 l6 l7 l8 l9 s) → jGo E MX11_step 1 Rr [3, 1, 1, 1, 1, 1, 1, 1, 1, 1, 0, 0, 0] 157 [53, l1, l2, l3, l4, l5, l6, l7, l8, l9, 0, 0, 0] ([]) s) : ∀ n : Nat, ∀ (l1 l2 l3 l4 l5 l6 l7 l8 l9 l10 : Int) (s : jMem), jHo Rr (jIt (fun _ _ _ _ _ _ _ _ _ _ _ => none) (bX11_step_43 k157) n l1 l2 l3 l4 l5 l6 l7 l8 l9 l10 s) → jGo E MX11_step 1 Rr [3, 1, 1, 1, 1, 1, 1, 1, 1, 1, 1, 0, 0] 43 [53, l1, l2, l3, l4, l5, l6, l7, l8, l9, l10, 0, 0] ([]) s := by
  intro n
  induction n with
  | zero => intro l1 l2 l3 l4 l5 l6 l7 l8 l9 l10 s hF; exact jHo_none hF
  | succ n ih => exact obX11_step_43 hk157 ih

set_option maxRecDepth 100000 in
set_option maxHeartbeats 4000000 in
theorem obX11_step_157 {E : jEnv} {Rr : Int → jMem → Prop} {k22 : Int → Int → Int → Int → Int → Int → Int → Int → Int → jMem → jO} (hk22 : ∀ (l1 l2 l3 l4 l5 l6 l7 l8 l9 : Int) (s : jMem), jHo Rr (k22 l1 l2 l3 l4 l5 l6 l7 l8 l9 s) → jGo E MX11_step 1 Rr [3, 1, 1, 1, 1, 1, 1, 1, 1, 1, 0, 0, 0] 22 [53, l1, l2, l3, l4, l5, l6, l7, l8, l9, 0, 0, 0] ([]) s) : ∀ (l1 l2 l3 l4 l5 l6 l7 l8 l9 : Int) (s : jMem), jHo Rr (bX11_step_157 k22 l1 l2 l3 l4 l5 l6 l7 l8 l9 s) → jGo E MX11_step 1 Rr [3, 1, 1, 1, 1, 1, 1, 1, 1, 1, 0, 0, 0] 157 [53, l1, l2, l3, l4, l5, l6, l7, l8, l9, 0, 0, 0] ([]) s := by
  intro l1 l2 l3 l4 l5 l6 l7 l8 l9 s0 hF
  unfold bX11_step_157 at hF
  refine ji_iinc (pc := 157) l9 (fun w => [53, l1, l2, l3, l4, l5, l6, l7, l8, w, 0, 0, 0]) rfl rfl rfl (fun _ => rfl) hF dX11_step_157 (fun x1 r_x1 hF => ?_)
  refine jg_goto (pc := 160) 22 dX11_step_160 rfl ?_
  refine jg_norm [3, 1, 1, 1, 1, 1, 1, 1, 1, 1, 0, 0, 0] [53, l1, l2, l3, l4, l5, l6, l7, l8, x1, 0, 0, 0] rfl rfl ?_
  exact hk22 _ _ _ _ _ _ _ _ _ _ hF
set_option maxRecDepth 100000 in
set_option maxHeartbeats 4000000 in
theorem obX11_step_22 {E : jEnv} {Rr : Int → jMem → Prop} {k163 : Int → Int → Int → Int → Int → Int → Int → Int → jMem → jO} (hk163 : ∀ (l1 l2 l3 l4 l5 l6 l7 l8 : Int) (s : jMem), jHo Rr (k163 l1 l2 l3 l4 l5 l6 l7 l8 s) → jGo E MX11_step 1 Rr [3, 1, 1, 1, 1, 1, 1, 1, 1, 0, 0, 0, 0] 163 [53, l1, l2, l3, l4, l5, l6, l7, l8, 0, 0, 0, 0] ([]) s) {rec : Int → Int → Int → Int → Int → Int → Int → Int → Int → jMem → jO} (hrec : ∀ (l1 l2 l3 l4 l5 l6 l7 l8 l9 : Int) (s : jMem), jHo Rr (rec l1 l2 l3 l4 l5 l6 l7 l8 l9 s) → jGo E MX11_step 1 Rr [3, 1, 1, 1, 1, 1, 1, 1, 1, 1, 0, 0, 0] 22 [53, l1, l2, l3, l4, l5, l6, l7, l8, l9, 0, 0, 0] ([]) s) : ∀ (l1 l2 l3 l4 l5 l6 l7 l8 l9 : Int) (s : jMem), jHo Rr (bX11_step_22 k163 rec l1 l2 l3 l4 l5 l6 l7 l8 l9 s) → jGo E MX11_step 1 Rr [3, 1, 1, 1, 1, 1, 1, 1, 1, 1, 0, 0, 0] 22 [53, l1, l2, l3, l4, l5, l6, l7, l8, l9, 0, 0, 0] ([]) s := by
  intro l1 l2 l3 l4 l5 l6 l7 l8 l9 s0 hF
  unfold bX11_step_22 at hF
  refine ji_iload (pc := 22) l9 rfl rfl dX11_step_22 (fun r1 => ?_)
  refine ji_iconst (pc := 24) dX11_step_24 ?_
  refine ji_icmp_ge 163 (pc := 25) r1 (jRc rfl) hF dX11_step_25 rfl (fun hF => ?_) (fun hF => ?_)
  · refine jg_norm [3, 1, 1, 1, 1, 1, 1, 1, 1, 0, 0, 0, 0] [53, l1, l2, l3, l4, l5, l6, l7, l8, 0, 0, 0, 0] rfl rfl ?_
    exact hk163 _ _ _ _ _ _ _ _ _ hF
  · refine ji_iload (pc := 28) l4 rfl rfl dX11_step_28 (fun r2 => ?_)
    refine ji_iload (pc := 30) l8 rfl rfl dX11_step_30 (fun r3 => ?_)
    refine ji_iadd (pc := 32)  hF dX11_step_32 (fun x4 r_x4 hF => ?_)
    refine ji_iload (pc := 33) l9 rfl rfl dX11_step_33 (fun r5 => ?_)
    refine ji_iadd (pc := 35)  hF dX11_step_35 (fun x6 r_x6 hF => ?_)
    refine ji_iconst (pc := 36) dX11_step_36 ?_
    refine ji_icmp_ge 163 (pc := 37) r_x6 (jRc rfl) hF dX11_step_37 rfl (fun hF => ?_) (fun hF => ?_)
    · refine jg_norm [3, 1, 1, 1, 1, 1, 1, 1, 1, 0, 0, 0, 0] [53, l1, l2, l3, l4, l5, l6, l7, l8, 0, 0, 0, 0] rfl rfl ?_
      exact hk163 _ _ _ _ _ _ _ _ _ hF
    · refine ji_iconst (pc := 40) dX11_step_40 ?_
      refine ji_istore (n := 10) (pc := 41) [3, 1, 1, 1, 1, 1, 1, 1, 1, 1, 1, 0, 0] [53, l1, l2, l3, l4, l5, l6, l7, l8, l9, 0, 0, 0] (jRc rfl) (Nat.le_of_ble_eq_true rfl) rfl rfl dX11_step_41 ?_
      refine jg_norm [3, 1, 1, 1, 1, 1, 1, 1, 1, 1, 1, 0, 0] [53, l1, l2, l3, l4, l5, l6, l7, l8, l9, 0, 0, 0] rfl rfl ?_
      exact obX11_step_43W (obX11_step_157 hrec) 1000 _ _ _ _ _ _ _ _ _ _ _ hF
theorem obX11_step_22W {E : jEnv} {Rr : Int → jMem → Prop} {k163 : Int → Int → Int → Int → Int → Int → Int → Int → jMem → jO} (hk163 : ∀ (l1 l2 l3 l4 l5 l6 l7 l8 : Int) (s : jMem), jHo Rr (k163 l1 l2 l3 l4 l5 l6 l7 l8 s) → jGo E MX11_step 1 Rr [3, 1, 1, 1, 1, 1, 1, 1, 1, 0, 0, 0, 0] 163 [53, l1, l2, l3, l4, l5, l6, l7, l8, 0, 0, 0, 0] ([]) s) : ∀ n : Nat, ∀ (l1 l2 l3 l4 l5 l6 l7 l8 l9 : Int) (s : jMem), jHo Rr (jIt (fun _ _ _ _ _ _ _ _ _ _ => none) (bX11_step_22 k163) n l1 l2 l3 l4 l5 l6 l7 l8 l9 s) → jGo E MX11_step 1 Rr [3, 1, 1, 1, 1, 1, 1, 1, 1, 1, 0, 0, 0] 22 [53, l1, l2, l3, l4, l5, l6, l7, l8, l9, 0, 0, 0] ([]) s := by
  intro n
  induction n with
  | zero => intro l1 l2 l3 l4 l5 l6 l7 l8 l9 s hF; exact jHo_none hF
  | succ n ih => exact obX11_step_22 hk163 ih

set_option maxRecDepth 100000 in
set_option maxHeartbeats 4000000 in
theorem obX11_step_163 {E : jEnv} {Rr : Int → jMem → Prop} {k3 : Int → Int → Int → Int → Int → Int → Int → Int → jMem → jO} (hk3 : ∀ (l1 l2 l3 l4 l5 l6 l7 l8 : Int) (s : jMem), jHo Rr (k3 l1 l2 l3 l4 l5 l6 l7 l8 s) → jGo E MX11_step 1 Rr [3, 1, 1, 1, 1, 1, 1, 1, 1, 0, 0, 0, 0] 3 [53, l1, l2, l3, l4, l5, l6, l7, l8, 0, 0, 0, 0] ([]) s) : ∀ (l1 l2 l3 l4 l5 l6 l7 l8 : Int) (s : jMem), jHo Rr (bX11_step_163 k3 l1 l2 l3 l4 l5 l6 l7 l8 s) → jGo E MX11_step 1 Rr [3, 1, 1, 1, 1, 1, 1, 1, 1, 0, 0, 0, 0] 163 [53, l1, l2, l3, l4, l5, l6, l7, l8, 0, 0, 0, 0] ([]) s := by
  intro l1 l2 l3 l4 l5 l6 l7 l8 s0 hF
  unfold bX11_step_163 at hF
  refine ji_iinc (pc := 163) l8 (fun w => [53, l1, l2, l3, l4, l5, l6, l7, w, 0, 0, 0, 0]) rfl rfl rfl (fun _ => rfl) hF dX11_step_163 (fun x1 r_x1 hF => ?_)
  refine jg_goto (pc := 166) 3 dX11_step_166 rfl ?_
  refine jg_norm [3, 1, 1, 1, 1, 1, 1, 1, 1, 0, 0, 0, 0] [53, l1, l2, l3, l4, l5, l6, l7, x1, 0, 0, 0, 0] rfl rfl ?_
  exact hk3 _ _ _ _ _ _ _ _ _ hF
set_option maxRecDepth 100000 in
set_option maxHeartbeats 4000000 in
theorem obX11_step_3 {E : jEnv} {Rr : Int → jMem → Prop} {rec : Int → Int → Int → Int → Int → Int → Int → Int → jMem → jO} (hrec : ∀ (l1 l2 l3 l4 l5 l6 l7 l8 : Int) (s : jMem), jHo Rr (rec l1 l2 l3 l4 l5 l6 l7 l8 s) → jGo E MX11_step 1 Rr [3, 1, 1, 1, 1, 1, 1, 1, 1, 0, 0, 0, 0] 3 [53, l1, l2, l3, l4, l5, l6, l7, l8, 0, 0, 0, 0] ([]) s) : ∀ (l1 l2 l3 l4 l5 l6 l7 l8 : Int) (s : jMem), jHo Rr (bX11_step_3 rec l1 l2 l3 l4 l5 l6 l7 l8 s) → jGo E MX11_step 1 Rr [3, 1, 1, 1, 1, 1, 1, 1, 1, 0, 0, 0, 0] 3 [53, l1, l2, l3, l4, l5, l6, l7, l8, 0, 0, 0, 0] ([]) s := by
  intro l1 l2 l3 l4 l5 l6 l7 l8 s0 hF
  unfold bX11_step_3 at hF
  refine ji_iload (pc := 3) l8 rfl rfl dX11_step_3 (fun r1 => ?_)
  refine ji_iload (pc := 5) l6 rfl rfl dX11_step_5 (fun r2 => ?_)
  refine ji_icmp_gt 169 (pc := 7) r1 r2 hF dX11_step_7 rfl (fun hF => ?_) (fun hF => ?_)
  · exact ji_retv (pc := 169) rfl hF dX11_step_169
  · refine ji_iload (pc := 10) l4 rfl rfl dX11_step_10 (fun r3 => ?_)
    refine ji_iload (pc := 12) l8 rfl rfl dX11_step_12 (fun r4 => ?_)
    refine ji_iadd (pc := 14)  hF dX11_step_14 (fun x5 r_x5 hF => ?_)
    refine ji_iconst (pc := 15) dX11_step_15 ?_
    refine ji_icmp_ge 169 (pc := 16) r_x5 (jRc rfl) hF dX11_step_16 rfl (fun hF => ?_) (fun hF => ?_)
    · exact ji_retv (pc := 169) rfl hF dX11_step_169
    · refine ji_iconst (pc := 19) dX11_step_19 ?_
      refine ji_istore (n := 9) (pc := 20) [3, 1, 1, 1, 1, 1, 1, 1, 1, 1, 0, 0, 0] [53, l1, l2, l3, l4, l5, l6, l7, l8, 0, 0, 0, 0] (jRc rfl) (Nat.le_of_ble_eq_true rfl) rfl rfl dX11_step_20 ?_
      refine jg_norm [3, 1, 1, 1, 1, 1, 1, 1, 1, 1, 0, 0, 0] [53, l1, l2, l3, l4, l5, l6, l7, l8, 0, 0, 0, 0] rfl rfl ?_
      exact obX11_step_22W (obX11_step_163 hrec) 1000 _ _ _ _ _ _ _ _ _ _ hF
theorem obX11_step_3W {E : jEnv} {Rr : Int → jMem → Prop} : ∀ n : Nat, ∀ (l1 l2 l3 l4 l5 l6 l7 l8 : Int) (s : jMem), jHo Rr (jIt (fun _ _ _ _ _ _ _ _ _ => none) (bX11_step_3) n l1 l2 l3 l4 l5 l6 l7 l8 s) → jGo E MX11_step 1 Rr [3, 1, 1, 1, 1, 1, 1, 1, 1, 0, 0, 0, 0] 3 [53, l1, l2, l3, l4, l5, l6, l7, l8, 0, 0, 0, 0] ([]) s := by
  intro n
  induction n with
  | zero => intro l1 l2 l3 l4 l5 l6 l7 l8 s hF; exact jHo_none hF
  | succ n ih => exact obX11_step_3 ih

set_option maxRecDepth 100000 in
set_option maxHeartbeats 4000000 in
theorem oX11_step : jOk MX11_step [3, 1, 1, 1, 1, 1, 1, 1] 1 (jFn gX11_step) := by
  refine jOk_fn (by decide +kernel) (Nat.le_of_ble_eq_true rfl) (by decide +kernel) (.inl rfl) ?_
  intro E vs s0 Rr hF ha
  obtain ⟨l0, t0, rfl, r_l0, ha⟩ := jRa_ci ha
  obtain ⟨l1, t1, rfl, r_l1, ha⟩ := jRa_ci ha
  obtain ⟨l2, t2, rfl, r_l2, ha⟩ := jRa_ci ha
  obtain ⟨l3, t3, rfl, r_l3, ha⟩ := jRa_ci ha
  obtain ⟨l4, t4, rfl, r_l4, ha⟩ := jRa_ci ha
  obtain ⟨l5, t5, rfl, r_l5, ha⟩ := jRa_ci ha
  obtain ⟨l6, t6, rfl, r_l6, ha⟩ := jRa_ci ha
  obtain ⟨l7, t7, rfl, r_l7, ha⟩ := jRa_ci ha
  obtain rfl := jRa_ni ha
  replace hF : jHo Rr (jGd (l0 = 53) <| fX11_step l1 l2 l3 l4 l5 l6 l7 s0) := hF
  have hG := jHo_as hF
  clear hF
  obtain ⟨rfl, hF⟩ := hG
  refine jg_norm [3, 1, 1, 1, 1, 1, 1, 1, 0, 0, 0, 0, 0] [53, l1, l2, l3, l4, l5, l6, l7, 0, 0, 0, 0, 0] rfl rfl ?_
  unfold fX11_step at hF
  refine ji_iconst (pc := 0) dX11_step_0 ?_
  refine ji_istore (n := 8) (pc := 1) [3, 1, 1, 1, 1, 1, 1, 1, 1, 0, 0, 0, 0] [53, l1, l2, l3, l4, l5, l6, l7, 0, 0, 0, 0, 0] (jRc rfl) (Nat.le_of_ble_eq_true rfl) rfl rfl dX11_step_1 ?_
  refine jg_norm [3, 1, 1, 1, 1, 1, 1, 1, 1, 0, 0, 0, 0] [53, l1, l2, l3, l4, l5, l6, l7, 0, 0, 0, 0, 0] rfl rfl ?_
  exact obX11_step_3W 1000 _ _ _ _ _ _ _ _ _ hF
def bX11_layLacks_2 (k23 : Int → jMem → jO) (rec : Int → Int → jMem → jO) (l1 l2 : Int) (s0 : jMem) : jO :=
if 250 ≤ l2 then (
k23 l1 s0)
else (
jGd ((0 : Int) ≤ l2 ∧ l2 < jik 73) <| jLet (jU s0 73 l2 99) fun s4 =>
jLet (j32 (l2 + 1)) fun x5 =>
rec l1 x5 s4)
def bX11_layLacks_69 (k70 : Int → Int → Int → Int → jMem → jO) (l1 l2 l3 : Int) (s0 : jMem) : jO :=
k70 l1 l2 l3 0 s0
def bX11_layLacks_136 (k75 : Int → Int → Int → Int → Int → jMem → jO) (l1 l2 l3 l4 l5 : Int) (s0 : jMem) : jO :=
jLet (j32 (l5 + 1)) fun x1 =>
k75 l1 l2 l3 l4 x1 s0
def bX11_layLacks_75 (k142 : Int → Int → Int → jMem → jO) (rec : Int → Int → Int → Int → Int → jMem → jO) (l1 l2 l3 l4 l5 : Int) (s0 : jMem) : jO :=
if 250 ≤ l5 then (
k142 l1 l2 l3 s0)
else (
jGd ((0 : Int) ≤ l5 ∧ l5 < jik 72) <| jLet (s0 72 l5) fun x4 =>
if 99 ≤ x4 then (
bX11_layLacks_136 rec l1 l2 l3 l4 l5 s0)
else (
jLet (j32 (9 * l1)) fun x7 =>
jLet (j32 (x7 + l3)) fun x9 =>
jGd (¬ (50 : Int) = 0) <| jLet (jdiv l5 50) fun x11 =>
jGd (¬ (10 : Int) = 0) <| jLet (jdiv l5 10) fun x13 =>
jGd (¬ (5 : Int) = 0) <| jLet (jrem x13 5) fun x14 =>
jGd (¬ (2 : Int) = 0) <| jLet (jdiv l5 2) fun x16 =>
jGd (¬ (5 : Int) = 0) <| jLet (jrem x16 5) fun x17 =>
jGd (¬ (2 : Int) = 0) <| jLet (jrem l5 2) fun x19 =>
jGd ((0 : Int) ≤ l5 ∧ l5 < jik 72) <| jLet (s0 72 l5) fun x23 =>
jBd (fX11_step x9 x11 x14 x17 x19 l4 x23 s0) fun x24 s25 =>
bX11_layLacks_136 rec l1 l2 l3 l4 l5 s25))
def bX11_layLacks_142 (k49 : Int → Int → Int → jMem → jO) (l1 l2 l3 : Int) (s0 : jMem) : jO :=
jBd (fX11_move s0) fun x2 s3 =>
jLet (j32 (l3 + 1)) fun x4 =>
k49 l1 l2 x4 s3
def bX11_layLacks_70 (k49 : Int → Int → Int → jMem → jO) (l1 l2 l3 t0 : Int) (s0 : jMem) : jO :=
jIt (fun _ _ _ _ _ _ => none) (bX11_layLacks_75 (bX11_layLacks_142 k49)) 1000 l1 l2 l3 t0 0 s0
def bX11_layLacks_49 (k152 : Int → jMem → jO) (rec : Int → Int → Int → jMem → jO) (l1 l2 l3 : Int) (s0 : jMem) : jO :=
if l2 ≤ l3 then (
k152 l1 s0)
else (
if 3 ≤ l1 then (
bX11_layLacks_69 (bX11_layLacks_70 rec) l1 l2 l3 s0)
else (
if 7 ≤ l3 then (
bX11_layLacks_69 (bX11_layLacks_70 rec) l1 l2 l3 s0)
else (
bX11_layLacks_70 rec l1 l2 l3 4 s0)))
def bX11_layLacks_162 (k201 : Int → Int → jMem → jO) (rec : Int → Int → Int → jMem → jO) (l1 l3 l4 : Int) (s0 : jMem) : jO :=
if 2 ≤ l4 then (
k201 l1 l3 s0)
else (
jLet (j32 (10 * l1)) fun x4 =>
jLet (j32 (2 * l3)) fun x6 =>
jLet (j32 (x4 + x6)) fun x7 =>
jLet (j32 (x7 + l4)) fun x9 =>
jLet (j32 (2 * l3)) fun x12 =>
jLet (j32 (x12 + l4)) fun x14 =>
jGd ((0 : Int) ≤ x14 ∧ x14 < jik 72) <| jLet (s0 72 x14) fun x15 =>
jGd ((0 : Int) ≤ x9 ∧ x9 < jik 74) <| jLet (jU s0 74 x9 x15) fun s16 =>
jLet (j32 (l4 + 1)) fun x17 =>
rec l1 l3 x17 s16)
def bX11_layLacks_201 (k154 : Int → Int → jMem → jO) (l1 l3 : Int) (s0 : jMem) : jO :=
jLet (j32 (l3 + 1)) fun x1 =>
k154 l1 x1 s0
def bX11_layLacks_154 (rec : Int → Int → jMem → jO) (l1 l3 : Int) (s0 : jMem) : jO :=
if 5 ≤ l3 then (
jRet 0 s0)
else (
jIt (fun _ _ _ _ => none) (bX11_layLacks_162 (bX11_layLacks_201 rec)) 1000 l1 l3 0 s0)
def bX11_layLacks_152 (l1 : Int) (s0 : jMem) : jO :=
jIt (fun _ _ _ => none) (bX11_layLacks_154) 1000 l1 0 s0
def bX11_layLacks_46 (l1 t0 : Int) (s0 : jMem) : jO :=
jIt (fun _ _ _ _ => none) (bX11_layLacks_49 bX11_layLacks_152) 1000 l1 t0 0 s0
def bX11_layLacks_23 (l1 : Int) (s0 : jMem) : jO :=
jGd ((0 : Int) ≤ 0 ∧ 0 < jik 73) <| jLet (jU s0 73 0 0) fun s2 =>
jBd (fX11_move s2) fun x4 s5 =>
if 3 ≤ l1 then (
bX11_layLacks_46 l1 7 s5)
else (
bX11_layLacks_46 l1 9 s5)
def fX11_layLacks (l1 : Int) (s0 : jMem) : jO :=
jIt (fun _ _ _ => none) (bX11_layLacks_2 bX11_layLacks_23) 1000 l1 0 s0
def gX11_layLacks (vs : List Int) (s : jMem) : jO := match vs with
  | [a0, a1] => jGd (a0 = 53) <| fX11_layLacks a1 s
  | _ => none
set_option maxRecDepth 100000 in
set_option maxHeartbeats 4000000 in
theorem obX11_layLacks_2 {E : jEnv} {Rr : Int → jMem → Prop} {k23 : Int → jMem → jO} (hk23 : ∀ (l1 : Int) (s : jMem), jHo Rr (k23 l1 s) → jGo E MX11_layLacks 2 Rr [3, 1, 0, 0, 0, 0] 23 [53, l1, 0, 0, 0, 0] ([]) s) {rec : Int → Int → jMem → jO} (hrec : ∀ (l1 l2 : Int) (s : jMem), jHo Rr (rec l1 l2 s) → jGo E MX11_layLacks 2 Rr [3, 1, 1, 0, 0, 0] 2 [53, l1, l2, 0, 0, 0] ([]) s) : ∀ (l1 l2 : Int) (s : jMem), jHo Rr (bX11_layLacks_2 k23 rec l1 l2 s) → jGo E MX11_layLacks 2 Rr [3, 1, 1, 0, 0, 0] 2 [53, l1, l2, 0, 0, 0] ([]) s := by
  intro l1 l2 s0 hF
  unfold bX11_layLacks_2 at hF
  refine ji_iload_n (n := 2) (pc := 2) l2 rfl rfl rfl dX11_layLacks_2 (fun r1 => ?_)
  refine jg_sipush (pc := 3) rfl dX11_layLacks_3 ?_
  refine ji_icmp_ge 23 (pc := 6) r1 (jRc rfl) hF dX11_layLacks_6 rfl (fun hF => ?_) (fun hF => ?_)
  · refine jg_norm [3, 1, 0, 0, 0, 0] [53, l1, 0, 0, 0, 0] rfl rfl ?_
    exact hk23 _ _ hF
  · refine ji_aload_n (n := 0) (pc := 9) 53 rfl rfl rfl dX11_layLacks_9 (fun r2 => ?_)
    refine ji_getr (pc := 10) 73 wfX11_71 (jRc3 rfl) jcl_53 jrf_53_24 dX11_layLacks_10 ?_
    refine ji_iload_n (n := 2) (pc := 13) l2 rfl rfl rfl dX11_layLacks_13 (fun r3 => ?_)
    refine jg_bipush (pc := 14) rfl dX11_layLacks_14 ?_
    refine ji_iastore (pc := 16) (jRc3 rfl) r3 (jRc rfl) hF dX11_layLacks_16 (fun s4 hF => ?_)
    refine ji_iinc (pc := 17) l2 (fun w => [53, l1, w, 0, 0, 0]) rfl rfl rfl (fun _ => rfl) hF dX11_layLacks_17 (fun x5 r_x5 hF => ?_)
    refine jg_goto (pc := 20) 2 dX11_layLacks_20 rfl ?_
    refine jg_norm [3, 1, 1, 0, 0, 0] [53, l1, x5, 0, 0, 0] rfl rfl ?_
    exact hrec _ _ _ hF
theorem obX11_layLacks_2W {E : jEnv} {Rr : Int → jMem → Prop} {k23 : Int → jMem → jO} (hk23 : ∀ (l1 : Int) (s : jMem), jHo Rr (k23 l1 s) → jGo E MX11_layLacks 2 Rr [3, 1, 0, 0, 0, 0] 23 [53, l1, 0, 0, 0, 0] ([]) s) : ∀ n : Nat, ∀ (l1 l2 : Int) (s : jMem), jHo Rr (jIt (fun _ _ _ => none) (bX11_layLacks_2 k23) n l1 l2 s) → jGo E MX11_layLacks 2 Rr [3, 1, 1, 0, 0, 0] 2 [53, l1, l2, 0, 0, 0] ([]) s := by
  intro n
  induction n with
  | zero => intro l1 l2 s hF; exact jHo_none hF
  | succ n ih => exact obX11_layLacks_2 hk23 ih

set_option maxRecDepth 100000 in
set_option maxHeartbeats 4000000 in
theorem obX11_layLacks_69 {E : jEnv} {Rr : Int → jMem → Prop} {k70 : Int → Int → Int → Int → jMem → jO} (hk70 : ∀ (l1 l2 l3 t0 : Int) (s : jMem), jR 1 t0 → jHo Rr (k70 l1 l2 l3 t0 s) → jGo E MX11_layLacks 2 Rr [3, 1, 1, 1, 0, 0] 70 [53, l1, l2, l3, 0, 0] (jV E 1 t0 :: []) s) : ∀ (l1 l2 l3 : Int) (s : jMem), jHo Rr (bX11_layLacks_69 k70 l1 l2 l3 s) → jGo E MX11_layLacks 2 Rr [3, 1, 1, 1, 0, 0] 69 [53, l1, l2, l3, 0, 0] ([]) s := by
  intro l1 l2 l3 s0 hF
  unfold bX11_layLacks_69 at hF
  refine ji_iconst (pc := 69) dX11_layLacks_69 ?_
  refine jg_norm [3, 1, 1, 1, 0, 0] [53, l1, l2, l3, 0, 0] rfl rfl ?_
  exact hk70 _ _ _ _ _ (jRc rfl) hF
set_option maxRecDepth 100000 in
set_option maxHeartbeats 4000000 in
theorem obX11_layLacks_136 {E : jEnv} {Rr : Int → jMem → Prop} {k75 : Int → Int → Int → Int → Int → jMem → jO} (hk75 : ∀ (l1 l2 l3 l4 l5 : Int) (s : jMem), jHo Rr (k75 l1 l2 l3 l4 l5 s) → jGo E MX11_layLacks 2 Rr [3, 1, 1, 1, 1, 1] 75 [53, l1, l2, l3, l4, l5] ([]) s) : ∀ (l1 l2 l3 l4 l5 : Int) (s : jMem), jHo Rr (bX11_layLacks_136 k75 l1 l2 l3 l4 l5 s) → jGo E MX11_layLacks 2 Rr [3, 1, 1, 1, 1, 1] 136 [53, l1, l2, l3, l4, l5] ([]) s := by
  intro l1 l2 l3 l4 l5 s0 hF
  unfold bX11_layLacks_136 at hF
  refine ji_iinc (pc := 136) l5 (fun w => [53, l1, l2, l3, l4, w]) rfl rfl rfl (fun _ => rfl) hF dX11_layLacks_136 (fun x1 r_x1 hF => ?_)
  refine jg_goto (pc := 139) 75 dX11_layLacks_139 rfl ?_
  refine jg_norm [3, 1, 1, 1, 1, 1] [53, l1, l2, l3, l4, x1] rfl rfl ?_
  exact hk75 _ _ _ _ _ _ hF
set_option maxRecDepth 100000 in
set_option maxHeartbeats 4000000 in
theorem obX11_layLacks_75 {E : jEnv} {Rr : Int → jMem → Prop} {k142 : Int → Int → Int → jMem → jO} (hk142 : ∀ (l1 l2 l3 : Int) (s : jMem), jHo Rr (k142 l1 l2 l3 s) → jGo E MX11_layLacks 2 Rr [3, 1, 1, 1, 0, 0] 142 [53, l1, l2, l3, 0, 0] ([]) s) {rec : Int → Int → Int → Int → Int → jMem → jO} (hrec : ∀ (l1 l2 l3 l4 l5 : Int) (s : jMem), jHo Rr (rec l1 l2 l3 l4 l5 s) → jGo E MX11_layLacks 2 Rr [3, 1, 1, 1, 1, 1] 75 [53, l1, l2, l3, l4, l5] ([]) s) : ∀ (l1 l2 l3 l4 l5 : Int) (s : jMem), jHo Rr (bX11_layLacks_75 k142 rec l1 l2 l3 l4 l5 s) → jGo E MX11_layLacks 2 Rr [3, 1, 1, 1, 1, 1] 75 [53, l1, l2, l3, l4, l5] ([]) s := by
  intro l1 l2 l3 l4 l5 s0 hF
  unfold bX11_layLacks_75 at hF
  refine ji_iload (pc := 75) l5 rfl rfl dX11_layLacks_75 (fun r1 => ?_)
  refine jg_sipush (pc := 77) rfl dX11_layLacks_77 ?_
  refine ji_icmp_ge 142 (pc := 80) r1 (jRc rfl) hF dX11_layLacks_80 rfl (fun hF => ?_) (fun hF => ?_)
  · refine jg_norm [3, 1, 1, 1, 0, 0] [53, l1, l2, l3, 0, 0] rfl rfl ?_
    exact hk142 _ _ _ _ hF
  · refine ji_aload_n (n := 0) (pc := 83) 53 rfl rfl rfl dX11_layLacks_83 (fun r2 => ?_)
    refine ji_getr (pc := 84) 72 wfX11_68 (jRc3 rfl) jcl_53 jrf_53_23 dX11_layLacks_84 ?_
    refine ji_iload (pc := 87) l5 rfl rfl dX11_layLacks_87 (fun r3 => ?_)
    refine ji_iaload (pc := 89) (jRc3 rfl) r3 hF dX11_layLacks_89 (fun x4 r_x4 hF => ?_)
    refine jg_bipush (pc := 90) rfl dX11_layLacks_90 ?_
    refine ji_icmp_ge 136 (pc := 92) r_x4 (jRc rfl) hF dX11_layLacks_92 rfl (fun hF => ?_) (fun hF => ?_)
    · refine jg_norm [3, 1, 1, 1, 1, 1] [53, l1, l2, l3, l4, l5] rfl rfl ?_
      exact obX11_layLacks_136 hrec _ _ _ _ _ _ hF
    · refine ji_aload_n (n := 0) (pc := 95) 53 rfl rfl rfl dX11_layLacks_95 (fun r5 => ?_)
      refine jg_bipush (pc := 96) rfl dX11_layLacks_96 ?_
      refine ji_iload_n (n := 1) (pc := 98) l1 rfl rfl rfl dX11_layLacks_98 (fun r6 => ?_)
      refine ji_imul (pc := 99)  hF dX11_layLacks_99 (fun x7 r_x7 hF => ?_)
      refine ji_iload_n (n := 3) (pc := 100) l3 rfl rfl rfl dX11_layLacks_100 (fun r8 => ?_)
      refine ji_iadd (pc := 101)  hF dX11_layLacks_101 (fun x9 r_x9 hF => ?_)
      refine ji_iload (pc := 102) l5 rfl rfl dX11_layLacks_102 (fun r10 => ?_)
      refine jg_bipush (pc := 104) rfl dX11_layLacks_104 ?_
      refine ji_idiv (pc := 106) (jRc rfl) hF dX11_layLacks_106 (fun x11 r_x11 hF => ?_)
      refine ji_iload (pc := 107) l5 rfl rfl dX11_layLacks_107 (fun r12 => ?_)
      refine jg_bipush (pc := 109) rfl dX11_layLacks_109 ?_
      refine ji_idiv (pc := 111) (jRc rfl) hF dX11_layLacks_111 (fun x13 r_x13 hF => ?_)
      refine ji_iconst (pc := 112) dX11_layLacks_112 ?_
      refine ji_irem (pc := 113) (jRc rfl) hF dX11_layLacks_113 (fun x14 r_x14 hF => ?_)
      refine ji_iload (pc := 114) l5 rfl rfl dX11_layLacks_114 (fun r15 => ?_)
      refine ji_iconst (pc := 116) dX11_layLacks_116 ?_
      refine ji_idiv (pc := 117) (jRc rfl) hF dX11_layLacks_117 (fun x16 r_x16 hF => ?_)
      refine ji_iconst (pc := 118) dX11_layLacks_118 ?_
      refine ji_irem (pc := 119) (jRc rfl) hF dX11_layLacks_119 (fun x17 r_x17 hF => ?_)
      refine ji_iload (pc := 120) l5 rfl rfl dX11_layLacks_120 (fun r18 => ?_)
      refine ji_iconst (pc := 122) dX11_layLacks_122 ?_
      refine ji_irem (pc := 123) (jRc rfl) hF dX11_layLacks_123 (fun x19 r_x19 hF => ?_)
      refine ji_iload (pc := 124) l4 rfl rfl dX11_layLacks_124 (fun r20 => ?_)
      refine ji_aload_n (n := 0) (pc := 126) 53 rfl rfl rfl dX11_layLacks_126 (fun r21 => ?_)
      refine ji_getr (pc := 127) 72 wfX11_68 (jRc3 rfl) jcl_53 jrf_53_23 dX11_layLacks_127 ?_
      refine ji_iload (pc := 130) l5 rfl rfl dX11_layLacks_130 (fun r22 => ?_)
      refine ji_iaload (pc := 132) (jRc3 rfl) r22 hF dX11_layLacks_132 (fun x23 r_x23 hF => ?_)
      refine ji_callVv (pc := 133) 53 [x9, x11, x14, x17, x19, l4, x23] ([]) oX11_step wlX11_207 wmX11_step rfl rfl (Nat.le_of_ble_eq_true rfl) (jRaC (jRc3 rfl) (jRaC r_x9 (jRaC r_x11 (jRaC r_x14 (jRaC r_x17 (jRaC r_x19 (jRaC r20 (jRaC r_x23 jRa0)))))))) rfl jcl_53 rfl (Nat.le_of_ble_eq_true rfl) hF dX11_layLacks_133 (fun x24 s25 hF => ?_)
      refine jg_norm [3, 1, 1, 1, 1, 1] [53, l1, l2, l3, l4, l5] rfl rfl ?_
      exact obX11_layLacks_136 hrec _ _ _ _ _ _ hF
theorem obX11_layLacks_75W {E : jEnv} {Rr : Int → jMem → Prop} {k142 : Int → Int → Int → jMem → jO} (hk142 : ∀ (l1 l2 l3 : Int) (s : jMem), jHo Rr (k142 l1 l2 l3 s) → jGo E MX11_layLacks 2 Rr [3, 1, 1, 1, 0, 0] 142 [53, l1, l2, l3, 0, 0] ([]) s) : ∀ n : Nat, ∀ (l1 l2 l3 l4 l5 : Int) (s : jMem), jHo Rr (jIt (fun _ _ _ _ _ _ => none) (bX11_layLacks_75 k142) n l1 l2 l3 l4 l5 s) → jGo E MX11_layLacks 2 Rr [3, 1, 1, 1, 1, 1] 75 [53, l1, l2, l3, l4, l5] ([]) s := by
  intro n
  induction n with
  | zero => intro l1 l2 l3 l4 l5 s hF; exact jHo_none hF
  | succ n ih => exact obX11_layLacks_75 hk142 ih

set_option maxRecDepth 100000 in
set_option maxHeartbeats 4000000 in
theorem obX11_layLacks_142 {E : jEnv} {Rr : Int → jMem → Prop} {k49 : Int → Int → Int → jMem → jO} (hk49 : ∀ (l1 l2 l3 : Int) (s : jMem), jHo Rr (k49 l1 l2 l3 s) → jGo E MX11_layLacks 2 Rr [3, 1, 1, 1, 0, 0] 49 [53, l1, l2, l3, 0, 0] ([]) s) : ∀ (l1 l2 l3 : Int) (s : jMem), jHo Rr (bX11_layLacks_142 k49 l1 l2 l3 s) → jGo E MX11_layLacks 2 Rr [3, 1, 1, 1, 0, 0] 142 [53, l1, l2, l3, 0, 0] ([]) s := by
  intro l1 l2 l3 s0 hF
  unfold bX11_layLacks_142 at hF
  refine ji_aload_n (n := 0) (pc := 142) 53 rfl rfl rfl dX11_layLacks_142 (fun r1 => ?_)
  refine ji_callVv (pc := 143) 53 [] ([]) oX11_move wlX11_204 wmX11_move rfl rfl (Nat.le_of_ble_eq_true rfl) (jRaC (jRc3 rfl) jRa0) rfl jcl_53 rfl (Nat.le_of_ble_eq_true rfl) hF dX11_layLacks_143 (fun x2 s3 hF => ?_)
  refine ji_iinc (pc := 146) l3 (fun w => [53, l1, l2, w, 0, 0]) rfl rfl rfl (fun _ => rfl) hF dX11_layLacks_146 (fun x4 r_x4 hF => ?_)
  refine jg_goto (pc := 149) 49 dX11_layLacks_149 rfl ?_
  refine jg_norm [3, 1, 1, 1, 0, 0] [53, l1, l2, x4, 0, 0] rfl rfl ?_
  exact hk49 _ _ _ _ hF
set_option maxRecDepth 100000 in
set_option maxHeartbeats 4000000 in
theorem obX11_layLacks_70 {E : jEnv} {Rr : Int → jMem → Prop} {k49 : Int → Int → Int → jMem → jO} (hk49 : ∀ (l1 l2 l3 : Int) (s : jMem), jHo Rr (k49 l1 l2 l3 s) → jGo E MX11_layLacks 2 Rr [3, 1, 1, 1, 0, 0] 49 [53, l1, l2, l3, 0, 0] ([]) s) : ∀ (l1 l2 l3 t0 : Int) (s : jMem), jR 1 t0 → jHo Rr (bX11_layLacks_70 k49 l1 l2 l3 t0 s) → jGo E MX11_layLacks 2 Rr [3, 1, 1, 1, 0, 0] 70 [53, l1, l2, l3, 0, 0] (jV E 1 t0 :: []) s := by
  intro l1 l2 l3 t0 s0 r_t0 hF
  unfold bX11_layLacks_70 at hF
  refine ji_istore (n := 4) (pc := 70) [3, 1, 1, 1, 1, 0] [53, l1, l2, l3, t0, 0] r_t0 (Nat.le_of_ble_eq_true rfl) rfl rfl dX11_layLacks_70 ?_
  refine ji_iconst (pc := 72) dX11_layLacks_72 ?_
  refine ji_istore (n := 5) (pc := 73) [3, 1, 1, 1, 1, 1] [53, l1, l2, l3, t0, 0] (jRc rfl) (Nat.le_of_ble_eq_true rfl) rfl rfl dX11_layLacks_73 ?_
  refine jg_norm [3, 1, 1, 1, 1, 1] [53, l1, l2, l3, t0, 0] rfl rfl ?_
  exact obX11_layLacks_75W (obX11_layLacks_142 hk49) 1000 _ _ _ _ _ _ hF
set_option maxRecDepth 100000 in
set_option maxHeartbeats 4000000 in
theorem obX11_layLacks_49 {E : jEnv} {Rr : Int → jMem → Prop} {k152 : Int → jMem → jO} (hk152 : ∀ (l1 : Int) (s : jMem), jHo Rr (k152 l1 s) → jGo E MX11_layLacks 2 Rr [3, 1, 0, 0, 0, 0] 152 [53, l1, 0, 0, 0, 0] ([]) s) {rec : Int → Int → Int → jMem → jO} (hrec : ∀ (l1 l2 l3 : Int) (s : jMem), jHo Rr (rec l1 l2 l3 s) → jGo E MX11_layLacks 2 Rr [3, 1, 1, 1, 0, 0] 49 [53, l1, l2, l3, 0, 0] ([]) s) : ∀ (l1 l2 l3 : Int) (s : jMem), jHo Rr (bX11_layLacks_49 k152 rec l1 l2 l3 s) → jGo E MX11_layLacks 2 Rr [3, 1, 1, 1, 0, 0] 49 [53, l1, l2, l3, 0, 0] ([]) s := by
  intro l1 l2 l3 s0 hF
  unfold bX11_layLacks_49 at hF
  refine ji_iload_n (n := 3) (pc := 49) l3 rfl rfl rfl dX11_layLacks_49 (fun r1 => ?_)
  refine ji_iload_n (n := 2) (pc := 50) l2 rfl rfl rfl dX11_layLacks_50 (fun r2 => ?_)
  refine ji_icmp_ge 152 (pc := 51) r1 r2 hF dX11_layLacks_51 rfl (fun hF => ?_) (fun hF => ?_)
  · refine jg_norm [3, 1, 0, 0, 0, 0] [53, l1, 0, 0, 0, 0] rfl rfl ?_
    exact hk152 _ _ hF
  · refine ji_iload_n (n := 1) (pc := 54) l1 rfl rfl rfl dX11_layLacks_54 (fun r3 => ?_)
    refine ji_iconst (pc := 55) dX11_layLacks_55 ?_
    refine ji_icmp_ge 69 (pc := 56) r3 (jRc rfl) hF dX11_layLacks_56 rfl (fun hF => ?_) (fun hF => ?_)
    · refine jg_norm [3, 1, 1, 1, 0, 0] [53, l1, l2, l3, 0, 0] rfl rfl ?_
      exact obX11_layLacks_69 (obX11_layLacks_70 hrec) _ _ _ _ hF
    · refine ji_iload_n (n := 3) (pc := 59) l3 rfl rfl rfl dX11_layLacks_59 (fun r4 => ?_)
      refine jg_bipush (pc := 60) rfl dX11_layLacks_60 ?_
      refine ji_icmp_ge 69 (pc := 62) r4 (jRc rfl) hF dX11_layLacks_62 rfl (fun hF => ?_) (fun hF => ?_)
      · refine jg_norm [3, 1, 1, 1, 0, 0] [53, l1, l2, l3, 0, 0] rfl rfl ?_
        exact obX11_layLacks_69 (obX11_layLacks_70 hrec) _ _ _ _ hF
      · refine ji_iconst (pc := 65) dX11_layLacks_65 ?_
        refine jg_goto (pc := 66) 70 dX11_layLacks_66 rfl ?_
        refine jg_norm [3, 1, 1, 1, 0, 0] [53, l1, l2, l3, 0, 0] rfl rfl ?_
        exact obX11_layLacks_70 hrec _ _ _ _ _ (jRc rfl) hF
theorem obX11_layLacks_49W {E : jEnv} {Rr : Int → jMem → Prop} {k152 : Int → jMem → jO} (hk152 : ∀ (l1 : Int) (s : jMem), jHo Rr (k152 l1 s) → jGo E MX11_layLacks 2 Rr [3, 1, 0, 0, 0, 0] 152 [53, l1, 0, 0, 0, 0] ([]) s) : ∀ n : Nat, ∀ (l1 l2 l3 : Int) (s : jMem), jHo Rr (jIt (fun _ _ _ _ => none) (bX11_layLacks_49 k152) n l1 l2 l3 s) → jGo E MX11_layLacks 2 Rr [3, 1, 1, 1, 0, 0] 49 [53, l1, l2, l3, 0, 0] ([]) s := by
  intro n
  induction n with
  | zero => intro l1 l2 l3 s hF; exact jHo_none hF
  | succ n ih => exact obX11_layLacks_49 hk152 ih

set_option maxRecDepth 100000 in
set_option maxHeartbeats 4000000 in
theorem obX11_layLacks_162 {E : jEnv} {Rr : Int → jMem → Prop} {k201 : Int → Int → jMem → jO} (hk201 : ∀ (l1 l3 : Int) (s : jMem), jHo Rr (k201 l1 l3 s) → jGo E MX11_layLacks 2 Rr [3, 1, 0, 1, 0, 0] 201 [53, l1, 0, l3, 0, 0] ([]) s) {rec : Int → Int → Int → jMem → jO} (hrec : ∀ (l1 l3 l4 : Int) (s : jMem), jHo Rr (rec l1 l3 l4 s) → jGo E MX11_layLacks 2 Rr [3, 1, 0, 1, 1, 0] 162 [53, l1, 0, l3, l4, 0] ([]) s) : ∀ (l1 l3 l4 : Int) (s : jMem), jHo Rr (bX11_layLacks_162 k201 rec l1 l3 l4 s) → jGo E MX11_layLacks 2 Rr [3, 1, 0, 1, 1, 0] 162 [53, l1, 0, l3, l4, 0] ([]) s := by
  intro l1 l3 l4 s0 hF
  unfold bX11_layLacks_162 at hF
  refine ji_iload (pc := 162) l4 rfl rfl dX11_layLacks_162 (fun r1 => ?_)
  refine ji_iconst (pc := 164) dX11_layLacks_164 ?_
  refine ji_icmp_ge 201 (pc := 165) r1 (jRc rfl) hF dX11_layLacks_165 rfl (fun hF => ?_) (fun hF => ?_)
  · refine jg_norm [3, 1, 0, 1, 0, 0] [53, l1, 0, l3, 0, 0] rfl rfl ?_
    exact hk201 _ _ _ hF
  · refine ji_aload_n (n := 0) (pc := 168) 53 rfl rfl rfl dX11_layLacks_168 (fun r2 => ?_)
    refine ji_getr (pc := 169) 74 wfX11_74 (jRc3 rfl) jcl_53 jrf_53_25 dX11_layLacks_169 ?_
    refine jg_bipush (pc := 172) rfl dX11_layLacks_172 ?_
    refine ji_iload_n (n := 1) (pc := 174) l1 rfl rfl rfl dX11_layLacks_174 (fun r3 => ?_)
    refine ji_imul (pc := 175)  hF dX11_layLacks_175 (fun x4 r_x4 hF => ?_)
    refine ji_iconst (pc := 176) dX11_layLacks_176 ?_
    refine ji_iload_n (n := 3) (pc := 177) l3 rfl rfl rfl dX11_layLacks_177 (fun r5 => ?_)
    refine ji_imul (pc := 178)  hF dX11_layLacks_178 (fun x6 r_x6 hF => ?_)
    refine ji_iadd (pc := 179)  hF dX11_layLacks_179 (fun x7 r_x7 hF => ?_)
    refine ji_iload (pc := 180) l4 rfl rfl dX11_layLacks_180 (fun r8 => ?_)
    refine ji_iadd (pc := 182)  hF dX11_layLacks_182 (fun x9 r_x9 hF => ?_)
    refine ji_aload_n (n := 0) (pc := 183) 53 rfl rfl rfl dX11_layLacks_183 (fun r10 => ?_)
    refine ji_getr (pc := 184) 72 wfX11_68 (jRc3 rfl) jcl_53 jrf_53_23 dX11_layLacks_184 ?_
    refine ji_iconst (pc := 187) dX11_layLacks_187 ?_
    refine ji_iload_n (n := 3) (pc := 188) l3 rfl rfl rfl dX11_layLacks_188 (fun r11 => ?_)
    refine ji_imul (pc := 189)  hF dX11_layLacks_189 (fun x12 r_x12 hF => ?_)
    refine ji_iload (pc := 190) l4 rfl rfl dX11_layLacks_190 (fun r13 => ?_)
    refine ji_iadd (pc := 192)  hF dX11_layLacks_192 (fun x14 r_x14 hF => ?_)
    refine ji_iaload (pc := 193) (jRc3 rfl) r_x14 hF dX11_layLacks_193 (fun x15 r_x15 hF => ?_)
    refine ji_iastore (pc := 194) (jRc3 rfl) r_x9 r_x15 hF dX11_layLacks_194 (fun s16 hF => ?_)
    refine ji_iinc (pc := 195) l4 (fun w => [53, l1, 0, l3, w, 0]) rfl rfl rfl (fun _ => rfl) hF dX11_layLacks_195 (fun x17 r_x17 hF => ?_)
    refine jg_goto (pc := 198) 162 dX11_layLacks_198 rfl ?_
    refine jg_norm [3, 1, 0, 1, 1, 0] [53, l1, 0, l3, x17, 0] rfl rfl ?_
    exact hrec _ _ _ _ hF
theorem obX11_layLacks_162W {E : jEnv} {Rr : Int → jMem → Prop} {k201 : Int → Int → jMem → jO} (hk201 : ∀ (l1 l3 : Int) (s : jMem), jHo Rr (k201 l1 l3 s) → jGo E MX11_layLacks 2 Rr [3, 1, 0, 1, 0, 0] 201 [53, l1, 0, l3, 0, 0] ([]) s) : ∀ n : Nat, ∀ (l1 l3 l4 : Int) (s : jMem), jHo Rr (jIt (fun _ _ _ _ => none) (bX11_layLacks_162 k201) n l1 l3 l4 s) → jGo E MX11_layLacks 2 Rr [3, 1, 0, 1, 1, 0] 162 [53, l1, 0, l3, l4, 0] ([]) s := by
  intro n
  induction n with
  | zero => intro l1 l3 l4 s hF; exact jHo_none hF
  | succ n ih => exact obX11_layLacks_162 hk201 ih

set_option maxRecDepth 100000 in
set_option maxHeartbeats 4000000 in
theorem obX11_layLacks_201 {E : jEnv} {Rr : Int → jMem → Prop} {k154 : Int → Int → jMem → jO} (hk154 : ∀ (l1 l3 : Int) (s : jMem), jHo Rr (k154 l1 l3 s) → jGo E MX11_layLacks 2 Rr [3, 1, 0, 1, 0, 0] 154 [53, l1, 0, l3, 0, 0] ([]) s) : ∀ (l1 l3 : Int) (s : jMem), jHo Rr (bX11_layLacks_201 k154 l1 l3 s) → jGo E MX11_layLacks 2 Rr [3, 1, 0, 1, 0, 0] 201 [53, l1, 0, l3, 0, 0] ([]) s := by
  intro l1 l3 s0 hF
  unfold bX11_layLacks_201 at hF
  refine ji_iinc (pc := 201) l3 (fun w => [53, l1, 0, w, 0, 0]) rfl rfl rfl (fun _ => rfl) hF dX11_layLacks_201 (fun x1 r_x1 hF => ?_)
  refine jg_goto (pc := 204) 154 dX11_layLacks_204 rfl ?_
  refine jg_norm [3, 1, 0, 1, 0, 0] [53, l1, 0, x1, 0, 0] rfl rfl ?_
  exact hk154 _ _ _ hF
set_option maxRecDepth 100000 in
set_option maxHeartbeats 4000000 in
theorem obX11_layLacks_154 {E : jEnv} {Rr : Int → jMem → Prop} {rec : Int → Int → jMem → jO} (hrec : ∀ (l1 l3 : Int) (s : jMem), jHo Rr (rec l1 l3 s) → jGo E MX11_layLacks 2 Rr [3, 1, 0, 1, 0, 0] 154 [53, l1, 0, l3, 0, 0] ([]) s) : ∀ (l1 l3 : Int) (s : jMem), jHo Rr (bX11_layLacks_154 rec l1 l3 s) → jGo E MX11_layLacks 2 Rr [3, 1, 0, 1, 0, 0] 154 [53, l1, 0, l3, 0, 0] ([]) s := by
  intro l1 l3 s0 hF
  unfold bX11_layLacks_154 at hF
  refine ji_iload_n (n := 3) (pc := 154) l3 rfl rfl rfl dX11_layLacks_154 (fun r1 => ?_)
  refine ji_iconst (pc := 155) dX11_layLacks_155 ?_
  refine ji_icmp_ge 207 (pc := 156) r1 (jRc rfl) hF dX11_layLacks_156 rfl (fun hF => ?_) (fun hF => ?_)
  · exact ji_retv (pc := 207) rfl hF dX11_layLacks_207
  · refine ji_iconst (pc := 159) dX11_layLacks_159 ?_
    refine ji_istore (n := 4) (pc := 160) [3, 1, 0, 1, 1, 0] [53, l1, 0, l3, 0, 0] (jRc rfl) (Nat.le_of_ble_eq_true rfl) rfl rfl dX11_layLacks_160 ?_
    refine jg_norm [3, 1, 0, 1, 1, 0] [53, l1, 0, l3, 0, 0] rfl rfl ?_
    exact obX11_layLacks_162W (obX11_layLacks_201 hrec) 1000 _ _ _ _ hF
theorem obX11_layLacks_154W {E : jEnv} {Rr : Int → jMem → Prop} : ∀ n : Nat, ∀ (l1 l3 : Int) (s : jMem), jHo Rr (jIt (fun _ _ _ => none) (bX11_layLacks_154) n l1 l3 s) → jGo E MX11_layLacks 2 Rr [3, 1, 0, 1, 0, 0] 154 [53, l1, 0, l3, 0, 0] ([]) s := by
  intro n
  induction n with
  | zero => intro l1 l3 s hF; exact jHo_none hF
  | succ n ih => exact obX11_layLacks_154 ih

set_option maxRecDepth 100000 in
set_option maxHeartbeats 4000000 in
theorem obX11_layLacks_152 {E : jEnv} {Rr : Int → jMem → Prop} : ∀ (l1 : Int) (s : jMem), jHo Rr (bX11_layLacks_152 l1 s) → jGo E MX11_layLacks 2 Rr [3, 1, 0, 0, 0, 0] 152 [53, l1, 0, 0, 0, 0] ([]) s := by
  intro l1 s0 hF
  unfold bX11_layLacks_152 at hF
  refine ji_iconst (pc := 152) dX11_layLacks_152 ?_
  refine ji_istore_n (n := 3) (pc := 153) [3, 1, 0, 1, 0, 0] [53, l1, 0, 0, 0, 0] rfl (jRc rfl) (Nat.le_of_ble_eq_true rfl) rfl rfl dX11_layLacks_153 ?_
  refine jg_norm [3, 1, 0, 1, 0, 0] [53, l1, 0, 0, 0, 0] rfl rfl ?_
  exact obX11_layLacks_154W 1000 _ _ _ hF
set_option maxRecDepth 100000 in
set_option maxHeartbeats 4000000 in
theorem obX11_layLacks_46 {E : jEnv} {Rr : Int → jMem → Prop} : ∀ (l1 t0 : Int) (s : jMem), jR 1 t0 → jHo Rr (bX11_layLacks_46 l1 t0 s) → jGo E MX11_layLacks 2 Rr [3, 1, 0, 0, 0, 0] 46 [53, l1, 0, 0, 0, 0] (jV E 1 t0 :: []) s := by
  intro l1 t0 s0 r_t0 hF
  unfold bX11_layLacks_46 at hF
  refine ji_istore_n (n := 2) (pc := 46) [3, 1, 1, 0, 0, 0] [53, l1, t0, 0, 0, 0] rfl r_t0 (Nat.le_of_ble_eq_true rfl) rfl rfl dX11_layLacks_46 ?_
  refine ji_iconst (pc := 47) dX11_layLacks_47 ?_
  refine ji_istore_n (n := 3) (pc := 48) [3, 1, 1, 1, 0, 0] [53, l1, t0, 0, 0, 0] rfl (jRc rfl) (Nat.le_of_ble_eq_true rfl) rfl rfl dX11_layLacks_48 ?_
  refine jg_norm [3, 1, 1, 1, 0, 0] [53, l1, t0, 0, 0, 0] rfl rfl ?_
  exact obX11_layLacks_49W obX11_layLacks_152 1000 _ _ _ _ hF
set_option maxRecDepth 100000 in
set_option maxHeartbeats 4000000 in
theorem obX11_layLacks_23 {E : jEnv} {Rr : Int → jMem → Prop} : ∀ (l1 : Int) (s : jMem), jHo Rr (bX11_layLacks_23 l1 s) → jGo E MX11_layLacks 2 Rr [3, 1, 0, 0, 0, 0] 23 [53, l1, 0, 0, 0, 0] ([]) s := by
  intro l1 s0 hF
  unfold bX11_layLacks_23 at hF
  refine ji_aload_n (n := 0) (pc := 23) 53 rfl rfl rfl dX11_layLacks_23 (fun r1 => ?_)
  refine ji_getr (pc := 24) 73 wfX11_71 (jRc3 rfl) jcl_53 jrf_53_24 dX11_layLacks_24 ?_
  refine ji_iconst (pc := 27) dX11_layLacks_27 ?_
  refine ji_iconst (pc := 28) dX11_layLacks_28 ?_
  refine ji_iastore (pc := 29) (jRc3 rfl) (jRc rfl) (jRc rfl) hF dX11_layLacks_29 (fun s2 hF => ?_)
  refine ji_aload_n (n := 0) (pc := 30) 53 rfl rfl rfl dX11_layLacks_30 (fun r3 => ?_)
  refine ji_callVv (pc := 31) 53 [] ([]) oX11_move wlX11_204 wmX11_move rfl rfl (Nat.le_of_ble_eq_true rfl) (jRaC (jRc3 rfl) jRa0) rfl jcl_53 rfl (Nat.le_of_ble_eq_true rfl) hF dX11_layLacks_31 (fun x4 s5 hF => ?_)
  refine ji_iload_n (n := 1) (pc := 34) l1 rfl rfl rfl dX11_layLacks_34 (fun r6 => ?_)
  refine ji_iconst (pc := 35) dX11_layLacks_35 ?_
  refine ji_icmp_ge 44 (pc := 36) r6 (jRc rfl) hF dX11_layLacks_36 rfl (fun hF => ?_) (fun hF => ?_)
  · refine jg_bipush (pc := 44) rfl dX11_layLacks_44 ?_
    refine jg_norm [3, 1, 0, 0, 0, 0] [53, l1, 0, 0, 0, 0] rfl rfl ?_
    exact obX11_layLacks_46 _ _ _ (jRc rfl) hF
  · refine jg_bipush (pc := 39) rfl dX11_layLacks_39 ?_
    refine jg_goto (pc := 41) 46 dX11_layLacks_41 rfl ?_
    refine jg_norm [3, 1, 0, 0, 0, 0] [53, l1, 0, 0, 0, 0] rfl rfl ?_
    exact obX11_layLacks_46 _ _ _ (jRc rfl) hF
set_option maxRecDepth 100000 in
set_option maxHeartbeats 4000000 in
theorem oX11_layLacks : jOk MX11_layLacks [3, 1] 2 (jFn gX11_layLacks) := by
  refine jOk_fn (by decide +kernel) (Nat.le_of_ble_eq_true rfl) (by decide +kernel) (.inl rfl) ?_
  intro E vs s0 Rr hF ha
  obtain ⟨l0, t0, rfl, r_l0, ha⟩ := jRa_ci ha
  obtain ⟨l1, t1, rfl, r_l1, ha⟩ := jRa_ci ha
  obtain rfl := jRa_ni ha
  replace hF : jHo Rr (jGd (l0 = 53) <| fX11_layLacks l1 s0) := hF
  have hG := jHo_as hF
  clear hF
  obtain ⟨rfl, hF⟩ := hG
  refine jg_norm [3, 1, 0, 0, 0, 0] [53, l1, 0, 0, 0, 0] rfl rfl ?_
  unfold fX11_layLacks at hF
  refine ji_iconst (pc := 0) dX11_layLacks_0 ?_
  refine ji_istore_n (n := 2) (pc := 1) [3, 1, 1, 0, 0, 0] [53, l1, 0, 0, 0, 0] rfl (jRc rfl) (Nat.le_of_ble_eq_true rfl) rfl rfl dX11_layLacks_1 ?_
  refine jg_norm [3, 1, 1, 0, 0, 0] [53, l1, 0, 0, 0, 0] rfl rfl ?_
  exact obX11_layLacks_2W obX11_layLacks_23 1000 _ _ _ hF
def bX11_layAll_2 (rec : Int → jMem → jO) (l1 : Int) (s0 : jMem) : jO :=
if 4 ≤ l1 then (
jRet 0 s0)
else (
jBd (fX11_layLacks l1 s0) fun x4 s5 =>
jLet (j32 (l1 + 1)) fun x6 =>
rec x6 s5)
def fX11_layAll (s0 : jMem) : jO :=
jIt (fun _ _ => none) (bX11_layAll_2) 1000 0 s0
def gX11_layAll (vs : List Int) (s : jMem) : jO := match vs with
  | [a0] => jGd (a0 = 53) <| fX11_layAll s
  | _ => none
set_option maxRecDepth 100000 in
set_option maxHeartbeats 4000000 in
theorem obX11_layAll_2 {E : jEnv} {Rr : Int → jMem → Prop} {rec : Int → jMem → jO} (hrec : ∀ (l1 : Int) (s : jMem), jHo Rr (rec l1 s) → jGo E MX11_layAll 3 Rr [3, 1] 2 [53, l1] ([]) s) : ∀ (l1 : Int) (s : jMem), jHo Rr (bX11_layAll_2 rec l1 s) → jGo E MX11_layAll 3 Rr [3, 1] 2 [53, l1] ([]) s := by
  intro l1 s0 hF
  unfold bX11_layAll_2 at hF
  refine ji_iload_n (n := 1) (pc := 2) l1 rfl rfl rfl dX11_layAll_2 (fun r1 => ?_)
  refine ji_iconst (pc := 3) dX11_layAll_3 ?_
  refine ji_icmp_ge 18 (pc := 4) r1 (jRc rfl) hF dX11_layAll_4 rfl (fun hF => ?_) (fun hF => ?_)
  · exact ji_retv (pc := 18) rfl hF dX11_layAll_18
  · refine ji_aload_n (n := 0) (pc := 7) 53 rfl rfl rfl dX11_layAll_7 (fun r2 => ?_)
    refine ji_iload_n (n := 1) (pc := 8) l1 rfl rfl rfl dX11_layAll_8 (fun r3 => ?_)
    refine ji_callVv (pc := 9) 53 [l1] ([]) oX11_layLacks wlX11_211 wmX11_layLacks rfl rfl (Nat.le_of_ble_eq_true rfl) (jRaC (jRc3 rfl) (jRaC r3 jRa0)) rfl jcl_53 rfl (Nat.le_of_ble_eq_true rfl) hF dX11_layAll_9 (fun x4 s5 hF => ?_)
    refine ji_iinc (pc := 12) l1 (fun w => [53, w]) rfl rfl rfl (fun _ => rfl) hF dX11_layAll_12 (fun x6 r_x6 hF => ?_)
    refine jg_goto (pc := 15) 2 dX11_layAll_15 rfl ?_
    refine jg_norm [3, 1] [53, x6] rfl rfl ?_
    exact hrec _ _ hF
theorem obX11_layAll_2W {E : jEnv} {Rr : Int → jMem → Prop} : ∀ n : Nat, ∀ (l1 : Int) (s : jMem), jHo Rr (jIt (fun _ _ => none) (bX11_layAll_2) n l1 s) → jGo E MX11_layAll 3 Rr [3, 1] 2 [53, l1] ([]) s := by
  intro n
  induction n with
  | zero => intro l1 s hF; exact jHo_none hF
  | succ n ih => exact obX11_layAll_2 ih

set_option maxRecDepth 100000 in
set_option maxHeartbeats 4000000 in
theorem oX11_layAll : jOk MX11_layAll [3] 3 (jFn gX11_layAll) := by
  refine jOk_fn (by decide +kernel) (Nat.le_of_ble_eq_true rfl) (by decide +kernel) (.inl rfl) ?_
  intro E vs s0 Rr hF ha
  obtain ⟨l0, t0, rfl, r_l0, ha⟩ := jRa_ci ha
  obtain rfl := jRa_ni ha
  replace hF : jHo Rr (jGd (l0 = 53) <| fX11_layAll s0) := hF
  have hG := jHo_as hF
  clear hF
  obtain ⟨rfl, hF⟩ := hG
  refine jg_norm [3, 0] [53, 0] rfl rfl ?_
  unfold fX11_layAll at hF
  refine ji_iconst (pc := 0) dX11_layAll_0 ?_
  refine ji_istore_n (n := 1) (pc := 1) [3, 1] [53, 0] rfl (jRc rfl) (Nat.le_of_ble_eq_true rfl) rfl rfl dX11_layAll_1 ?_
  refine jg_norm [3, 1] [53, 0] rfl rfl ?_
  exact obX11_layAll_2W 1000 _ _ hF
def bX11_lackByWay_170 (k56 : Int → Int → Int → Int → Int → Int → Int → jMem → jO) (l2 l3 l4 l5 l6 l7 t0 : Int) (s0 : jMem) : jO :=
jLet (j32 (l7 + 1)) fun x1 =>
k56 t0 l2 l3 l4 l5 l6 x1 s0
def bX11_lackByWay_153 (k56 : Int → Int → Int → Int → Int → Int → Int → jMem → jO) (l1 l2 l3 l4 l5 l6 l7 t0 t2 t3 : Int) (s0 : jMem) : jO :=
jLet (j32 (t2 + t3)) fun x1 =>
jGd ((0 : Int) ≤ x1 ∧ x1 < jik 74) <| jLet (s0 74 x1) fun x2 =>
jLet (j32 (t0 + x2)) fun x3 =>
if l1 ≤ x3 then (
bX11_lackByWay_170 k56 l2 l3 l4 l5 l6 l7 l1 s0)
else (
bX11_lackByWay_170 k56 l2 l3 l4 l5 l6 l7 x3 s0)
def bX11_lackByWay_128 (k56 : Int → Int → Int → Int → Int → Int → Int → jMem → jO) (l1 l2 l3 l4 l5 l6 l7 t0 t2 t3 : Int) (s0 : jMem) : jO :=
jLet (j32 (t2 + t3)) fun x1 =>
jGd ((0 : Int) ≤ x1 ∧ x1 < jik 74) <| jLet (s0 74 x1) fun x2 =>
jLet (j32 (t0 + x2)) fun x3 =>
jLet (j32 (2 * l6)) fun x6 =>
jLet (j32 (30 + x6)) fun x7 =>
if l7 = 3 then (
bX11_lackByWay_153 k56 l1 l2 l3 l4 l5 l6 l7 x3 x7 1 s0)
else (
bX11_lackByWay_153 k56 l1 l2 l3 l4 l5 l6 l7 x3 x7 0 s0)
def bX11_lackByWay_103 (k56 : Int → Int → Int → Int → Int → Int → Int → jMem → jO) (l1 l2 l3 l4 l5 l6 l7 t0 t2 t3 : Int) (s0 : jMem) : jO :=
jLet (j32 (t2 + t3)) fun x1 =>
jGd ((0 : Int) ≤ x1 ∧ x1 < jik 74) <| jLet (s0 74 x1) fun x2 =>
jLet (j32 (t0 + x2)) fun x3 =>
jLet (j32 (2 * l5)) fun x6 =>
jLet (j32 (20 + x6)) fun x7 =>
if l7 = 2 then (
bX11_lackByWay_128 k56 l1 l2 l3 l4 l5 l6 l7 x3 x7 1 s0)
else (
bX11_lackByWay_128 k56 l1 l2 l3 l4 l5 l6 l7 x3 x7 0 s0)
def bX11_lackByWay_79 (k56 : Int → Int → Int → Int → Int → Int → Int → jMem → jO) (l1 l2 l3 l4 l5 l6 l7 t1 t2 : Int) (s0 : jMem) : jO :=
jLet (j32 (t1 + t2)) fun x1 =>
jGd ((0 : Int) ≤ x1 ∧ x1 < jik 74) <| jLet (s0 74 x1) fun x2 =>
jLet (j32 (2 * l4)) fun x5 =>
jLet (j32 (10 + x5)) fun x6 =>
if l7 = 1 then (
bX11_lackByWay_103 k56 l1 l2 l3 l4 l5 l6 l7 x2 x6 1 s0)
else (
bX11_lackByWay_103 k56 l1 l2 l3 l4 l5 l6 l7 x2 x6 0 s0)
def bX11_lackByWay_56 (k177 : Int → Int → Int → Int → Int → jMem → jO) (rec : Int → Int → Int → Int → Int → Int → Int → jMem → jO) (l1 l2 l3 l4 l5 l6 l7 : Int) (s0 : jMem) : jO :=
if 4 ≤ l7 then (
k177 l1 l2 l3 l4 l5 s0)
else (
jLet (j32 (2 * l3)) fun x4 =>
if l7 = 0 then (
bX11_lackByWay_79 rec l1 l2 l3 l4 l5 l6 l7 x4 1 s0)
else (
bX11_lackByWay_79 rec l1 l2 l3 l4 l5 l6 l7 x4 0 s0))
def bX11_lackByWay_177 (k31 : Int → Int → Int → Int → Int → jMem → jO) (l1 l2 l3 l4 l5 : Int) (s0 : jMem) : jO :=
jLet (j32 (l5 + 1)) fun x1 =>
k31 l1 l2 l3 l4 x1 s0
def bX11_lackByWay_31 (k183 : Int → Int → Int → Int → jMem → jO) (rec : Int → Int → Int → Int → Int → jMem → jO) (l1 l2 l3 l4 l5 : Int) (s0 : jMem) : jO :=
jLet (j32 (l3 + l4)) fun x3 =>
jLet (j32 (x3 + l5)) fun x5 =>
if l2 < x5 then (
k183 l1 l2 l3 l4 s0)
else (
jLet (j32 (l2 - l3)) fun x9 =>
jLet (j32 (x9 - l4)) fun x11 =>
jLet (j32 (x11 - l5)) fun x13 =>
jIt (fun _ _ _ _ _ _ _ _ => none) (bX11_lackByWay_56 (bX11_lackByWay_177 rec)) 1000 l1 l2 l3 l4 l5 x13 0 s0)
def bX11_lackByWay_183 (k20 : Int → Int → Int → Int → jMem → jO) (l1 l2 l3 l4 : Int) (s0 : jMem) : jO :=
jLet (j32 (l4 + 1)) fun x1 =>
k20 l1 l2 l3 x1 s0
def bX11_lackByWay_20 (k189 : Int → Int → Int → jMem → jO) (rec : Int → Int → Int → Int → jMem → jO) (l1 l2 l3 l4 : Int) (s0 : jMem) : jO :=
jLet (j32 (l3 + l4)) fun x3 =>
if l2 < x3 then (
k189 l1 l2 l3 s0)
else (
jIt (fun _ _ _ _ _ _ => none) (bX11_lackByWay_31 (bX11_lackByWay_183 rec)) 1000 l1 l2 l3 l4 0 s0)
def bX11_lackByWay_189 (k12 : Int → Int → Int → jMem → jO) (l1 l2 l3 : Int) (s0 : jMem) : jO :=
jLet (j32 (l3 + 1)) fun x1 =>
k12 l1 l2 x1 s0
def bX11_lackByWay_12 (rec : Int → Int → Int → jMem → jO) (l1 l2 l3 : Int) (s0 : jMem) : jO :=
if l2 < l3 then (
jRet l1 s0)
else (
jIt (fun _ _ _ _ _ => none) (bX11_lackByWay_20 (bX11_lackByWay_189 rec)) 1000 l1 l2 l3 0 s0)
def fX11_lackByWay (s0 : jMem) : jO :=
jLet (s0 53 20) fun x2 =>
jLet (j32 (4 - x2)) fun x3 =>
jIt (fun _ _ _ _ => none) (bX11_lackByWay_12) 1000 99 x3 0 s0
def gX11_lackByWay (vs : List Int) (s : jMem) : jO := match vs with
  | [a0] => jGd (a0 = 53) <| fX11_lackByWay s
  | _ => none
set_option maxRecDepth 100000 in
set_option maxHeartbeats 4000000 in
theorem obX11_lackByWay_170 {E : jEnv} {Rr : Int → jMem → Prop} {k56 : Int → Int → Int → Int → Int → Int → Int → jMem → jO} (hk56 : ∀ (l1 l2 l3 l4 l5 l6 l7 : Int) (s : jMem), jHo Rr (k56 l1 l2 l3 l4 l5 l6 l7 s) → jGo E MX11_lackByWay 0 Rr [3, 1, 1, 1, 1, 1, 1, 1, 0] 56 [53, l1, l2, l3, l4, l5, l6, l7, 0] ([]) s) : ∀ (l2 l3 l4 l5 l6 l7 t0 : Int) (s : jMem), jR 1 t0 → jHo Rr (bX11_lackByWay_170 k56 l2 l3 l4 l5 l6 l7 t0 s) → jGo E MX11_lackByWay 0 Rr [3, 0, 1, 1, 1, 1, 1, 1, 0] 170 [53, 0, l2, l3, l4, l5, l6, l7, 0] (jV E 1 t0 :: []) s := by
  intro l2 l3 l4 l5 l6 l7 t0 s0 r_t0 hF
  unfold bX11_lackByWay_170 at hF
  refine ji_istore_n (n := 1) (pc := 170) [3, 1, 1, 1, 1, 1, 1, 1, 0] [53, t0, l2, l3, l4, l5, l6, l7, 0] rfl r_t0 (Nat.le_of_ble_eq_true rfl) rfl rfl dX11_lackByWay_170 ?_
  refine ji_iinc (pc := 171) l7 (fun w => [53, t0, l2, l3, l4, l5, l6, w, 0]) rfl rfl rfl (fun _ => rfl) hF dX11_lackByWay_171 (fun x1 r_x1 hF => ?_)
  refine jg_goto (pc := 174) 56 dX11_lackByWay_174 rfl ?_
  refine jg_norm [3, 1, 1, 1, 1, 1, 1, 1, 0] [53, t0, l2, l3, l4, l5, l6, x1, 0] rfl rfl ?_
  exact hk56 _ _ _ _ _ _ _ _ hF
set_option maxRecDepth 100000 in
set_option maxHeartbeats 4000000 in
theorem obX11_lackByWay_153 {E : jEnv} {Rr : Int → jMem → Prop} {k56 : Int → Int → Int → Int → Int → Int → Int → jMem → jO} (hk56 : ∀ (l1 l2 l3 l4 l5 l6 l7 : Int) (s : jMem), jHo Rr (k56 l1 l2 l3 l4 l5 l6 l7 s) → jGo E MX11_lackByWay 0 Rr [3, 1, 1, 1, 1, 1, 1, 1, 0] 56 [53, l1, l2, l3, l4, l5, l6, l7, 0] ([]) s) : ∀ (l1 l2 l3 l4 l5 l6 l7 t0 t2 t3 : Int) (s : jMem), jR 1 t0 → jR 1 t2 → jR 1 t3 → jHo Rr (bX11_lackByWay_153 k56 l1 l2 l3 l4 l5 l6 l7 t0 t2 t3 s) → jGo E MX11_lackByWay 0 Rr [3, 1, 1, 1, 1, 1, 1, 1, 0] 153 [53, l1, l2, l3, l4, l5, l6, l7, 0] (jV E 1 t3 :: jV E 1 t2 :: jV E 3 74 :: jV E 1 t0 :: []) s := by
  intro l1 l2 l3 l4 l5 l6 l7 t0 t2 t3 s0 r_t0 r_t2 r_t3 hF
  unfold bX11_lackByWay_153 at hF
  refine ji_iadd (pc := 153)  hF dX11_lackByWay_153 (fun x1 r_x1 hF => ?_)
  refine ji_iaload (pc := 154) (jRc3 rfl) r_x1 hF dX11_lackByWay_154 (fun x2 r_x2 hF => ?_)
  refine ji_iadd (pc := 155)  hF dX11_lackByWay_155 (fun x3 r_x3 hF => ?_)
  refine ji_istore (n := 8) (pc := 156) [3, 1, 1, 1, 1, 1, 1, 1, 1] [53, l1, l2, l3, l4, l5, l6, l7, x3] r_x3 (Nat.le_of_ble_eq_true rfl) rfl rfl dX11_lackByWay_156 ?_
  refine ji_iload (pc := 158) x3 rfl rfl dX11_lackByWay_158 (fun r4 => ?_)
  refine ji_iload_n (n := 1) (pc := 160) l1 rfl rfl rfl dX11_lackByWay_160 (fun r5 => ?_)
  refine ji_icmp_ge 169 (pc := 161) r4 r5 hF dX11_lackByWay_161 rfl (fun hF => ?_) (fun hF => ?_)
  · refine ji_iload_n (n := 1) (pc := 169) l1 rfl rfl rfl dX11_lackByWay_169 (fun r6 => ?_)
    refine jg_norm [3, 0, 1, 1, 1, 1, 1, 1, 0] [53, 0, l2, l3, l4, l5, l6, l7, 0] rfl rfl ?_
    exact obX11_lackByWay_170 hk56 _ _ _ _ _ _ _ _ r6 hF
  · refine ji_iload (pc := 164) x3 rfl rfl dX11_lackByWay_164 (fun r7 => ?_)
    refine jg_goto (pc := 166) 170 dX11_lackByWay_166 rfl ?_
    refine jg_norm [3, 0, 1, 1, 1, 1, 1, 1, 0] [53, 0, l2, l3, l4, l5, l6, l7, 0] rfl rfl ?_
    exact obX11_lackByWay_170 hk56 _ _ _ _ _ _ _ _ r7 hF
set_option maxRecDepth 100000 in
set_option maxHeartbeats 4000000 in
theorem obX11_lackByWay_128 {E : jEnv} {Rr : Int → jMem → Prop} {k56 : Int → Int → Int → Int → Int → Int → Int → jMem → jO} (hk56 : ∀ (l1 l2 l3 l4 l5 l6 l7 : Int) (s : jMem), jHo Rr (k56 l1 l2 l3 l4 l5 l6 l7 s) → jGo E MX11_lackByWay 0 Rr [3, 1, 1, 1, 1, 1, 1, 1, 0] 56 [53, l1, l2, l3, l4, l5, l6, l7, 0] ([]) s) : ∀ (l1 l2 l3 l4 l5 l6 l7 t0 t2 t3 : Int) (s : jMem), jR 1 t0 → jR 1 t2 → jR 1 t3 → jHo Rr (bX11_lackByWay_128 k56 l1 l2 l3 l4 l5 l6 l7 t0 t2 t3 s) → jGo E MX11_lackByWay 0 Rr [3, 1, 1, 1, 1, 1, 1, 1, 0] 128 [53, l1, l2, l3, l4, l5, l6, l7, 0] (jV E 1 t3 :: jV E 1 t2 :: jV E 3 74 :: jV E 1 t0 :: []) s := by
  intro l1 l2 l3 l4 l5 l6 l7 t0 t2 t3 s0 r_t0 r_t2 r_t3 hF
  unfold bX11_lackByWay_128 at hF
  refine ji_iadd (pc := 128)  hF dX11_lackByWay_128 (fun x1 r_x1 hF => ?_)
  refine ji_iaload (pc := 129) (jRc3 rfl) r_x1 hF dX11_lackByWay_129 (fun x2 r_x2 hF => ?_)
  refine ji_iadd (pc := 130)  hF dX11_lackByWay_130 (fun x3 r_x3 hF => ?_)
  refine ji_aload_n (n := 0) (pc := 131) 53 rfl rfl rfl dX11_lackByWay_131 (fun r4 => ?_)
  refine ji_getr (pc := 132) 74 wfX11_74 (jRc3 rfl) jcl_53 jrf_53_25 dX11_lackByWay_132 ?_
  refine jg_bipush (pc := 135) rfl dX11_lackByWay_135 ?_
  refine ji_iconst (pc := 137) dX11_lackByWay_137 ?_
  refine ji_iload (pc := 138) l6 rfl rfl dX11_lackByWay_138 (fun r5 => ?_)
  refine ji_imul (pc := 140)  hF dX11_lackByWay_140 (fun x6 r_x6 hF => ?_)
  refine ji_iadd (pc := 141)  hF dX11_lackByWay_141 (fun x7 r_x7 hF => ?_)
  refine ji_iload (pc := 142) l7 rfl rfl dX11_lackByWay_142 (fun r8 => ?_)
  refine ji_iconst (pc := 144) dX11_lackByWay_144 ?_
  refine ji_icmp_ne 152 (pc := 145) r8 (jRc rfl) hF dX11_lackByWay_145 rfl (fun hF => ?_) (fun hF => ?_)
  · refine ji_iconst (pc := 152) dX11_lackByWay_152 ?_
    refine jg_norm [3, 1, 1, 1, 1, 1, 1, 1, 0] [53, l1, l2, l3, l4, l5, l6, l7, 0] rfl rfl ?_
    exact obX11_lackByWay_153 hk56 _ _ _ _ _ _ _ _ _ _ _ r_x3 r_x7 (jRc rfl) hF
  · refine ji_iconst (pc := 148) dX11_lackByWay_148 ?_
    refine jg_goto (pc := 149) 153 dX11_lackByWay_149 rfl ?_
    refine jg_norm [3, 1, 1, 1, 1, 1, 1, 1, 0] [53, l1, l2, l3, l4, l5, l6, l7, 0] rfl rfl ?_
    exact obX11_lackByWay_153 hk56 _ _ _ _ _ _ _ _ _ _ _ r_x3 r_x7 (jRc rfl) hF
set_option maxRecDepth 100000 in
set_option maxHeartbeats 4000000 in
theorem obX11_lackByWay_103 {E : jEnv} {Rr : Int → jMem → Prop} {k56 : Int → Int → Int → Int → Int → Int → Int → jMem → jO} (hk56 : ∀ (l1 l2 l3 l4 l5 l6 l7 : Int) (s : jMem), jHo Rr (k56 l1 l2 l3 l4 l5 l6 l7 s) → jGo E MX11_lackByWay 0 Rr [3, 1, 1, 1, 1, 1, 1, 1, 0] 56 [53, l1, l2, l3, l4, l5, l6, l7, 0] ([]) s) : ∀ (l1 l2 l3 l4 l5 l6 l7 t0 t2 t3 : Int) (s : jMem), jR 1 t0 → jR 1 t2 → jR 1 t3 → jHo Rr (bX11_lackByWay_103 k56 l1 l2 l3 l4 l5 l6 l7 t0 t2 t3 s) → jGo E MX11_lackByWay 0 Rr [3, 1, 1, 1, 1, 1, 1, 1, 0] 103 [53, l1, l2, l3, l4, l5, l6, l7, 0] (jV E 1 t3 :: jV E 1 t2 :: jV E 3 74 :: jV E 1 t0 :: []) s := by
  intro l1 l2 l3 l4 l5 l6 l7 t0 t2 t3 s0 r_t0 r_t2 r_t3 hF
  unfold bX11_lackByWay_103 at hF
  refine ji_iadd (pc := 103)  hF dX11_lackByWay_103 (fun x1 r_x1 hF => ?_)
  refine ji_iaload (pc := 104) (jRc3 rfl) r_x1 hF dX11_lackByWay_104 (fun x2 r_x2 hF => ?_)
  refine ji_iadd (pc := 105)  hF dX11_lackByWay_105 (fun x3 r_x3 hF => ?_)
  refine ji_aload_n (n := 0) (pc := 106) 53 rfl rfl rfl dX11_lackByWay_106 (fun r4 => ?_)
  refine ji_getr (pc := 107) 74 wfX11_74 (jRc3 rfl) jcl_53 jrf_53_25 dX11_lackByWay_107 ?_
  refine jg_bipush (pc := 110) rfl dX11_lackByWay_110 ?_
  refine ji_iconst (pc := 112) dX11_lackByWay_112 ?_
  refine ji_iload (pc := 113) l5 rfl rfl dX11_lackByWay_113 (fun r5 => ?_)
  refine ji_imul (pc := 115)  hF dX11_lackByWay_115 (fun x6 r_x6 hF => ?_)
  refine ji_iadd (pc := 116)  hF dX11_lackByWay_116 (fun x7 r_x7 hF => ?_)
  refine ji_iload (pc := 117) l7 rfl rfl dX11_lackByWay_117 (fun r8 => ?_)
  refine ji_iconst (pc := 119) dX11_lackByWay_119 ?_
  refine ji_icmp_ne 127 (pc := 120) r8 (jRc rfl) hF dX11_lackByWay_120 rfl (fun hF => ?_) (fun hF => ?_)
  · refine ji_iconst (pc := 127) dX11_lackByWay_127 ?_
    refine jg_norm [3, 1, 1, 1, 1, 1, 1, 1, 0] [53, l1, l2, l3, l4, l5, l6, l7, 0] rfl rfl ?_
    exact obX11_lackByWay_128 hk56 _ _ _ _ _ _ _ _ _ _ _ r_x3 r_x7 (jRc rfl) hF
  · refine ji_iconst (pc := 123) dX11_lackByWay_123 ?_
    refine jg_goto (pc := 124) 128 dX11_lackByWay_124 rfl ?_
    refine jg_norm [3, 1, 1, 1, 1, 1, 1, 1, 0] [53, l1, l2, l3, l4, l5, l6, l7, 0] rfl rfl ?_
    exact obX11_lackByWay_128 hk56 _ _ _ _ _ _ _ _ _ _ _ r_x3 r_x7 (jRc rfl) hF
set_option maxRecDepth 100000 in
set_option maxHeartbeats 4000000 in
theorem obX11_lackByWay_79 {E : jEnv} {Rr : Int → jMem → Prop} {k56 : Int → Int → Int → Int → Int → Int → Int → jMem → jO} (hk56 : ∀ (l1 l2 l3 l4 l5 l6 l7 : Int) (s : jMem), jHo Rr (k56 l1 l2 l3 l4 l5 l6 l7 s) → jGo E MX11_lackByWay 0 Rr [3, 1, 1, 1, 1, 1, 1, 1, 0] 56 [53, l1, l2, l3, l4, l5, l6, l7, 0] ([]) s) : ∀ (l1 l2 l3 l4 l5 l6 l7 t1 t2 : Int) (s : jMem), jR 1 t1 → jR 1 t2 → jHo Rr (bX11_lackByWay_79 k56 l1 l2 l3 l4 l5 l6 l7 t1 t2 s) → jGo E MX11_lackByWay 0 Rr [3, 1, 1, 1, 1, 1, 1, 1, 0] 79 [53, l1, l2, l3, l4, l5, l6, l7, 0] (jV E 1 t2 :: jV E 1 t1 :: jV E 3 74 :: []) s := by
  intro l1 l2 l3 l4 l5 l6 l7 t1 t2 s0 r_t1 r_t2 hF
  unfold bX11_lackByWay_79 at hF
  refine ji_iadd (pc := 79)  hF dX11_lackByWay_79 (fun x1 r_x1 hF => ?_)
  refine ji_iaload (pc := 80) (jRc3 rfl) r_x1 hF dX11_lackByWay_80 (fun x2 r_x2 hF => ?_)
  refine ji_aload_n (n := 0) (pc := 81) 53 rfl rfl rfl dX11_lackByWay_81 (fun r3 => ?_)
  refine ji_getr (pc := 82) 74 wfX11_74 (jRc3 rfl) jcl_53 jrf_53_25 dX11_lackByWay_82 ?_
  refine jg_bipush (pc := 85) rfl dX11_lackByWay_85 ?_
  refine ji_iconst (pc := 87) dX11_lackByWay_87 ?_
  refine ji_iload (pc := 88) l4 rfl rfl dX11_lackByWay_88 (fun r4 => ?_)
  refine ji_imul (pc := 90)  hF dX11_lackByWay_90 (fun x5 r_x5 hF => ?_)
  refine ji_iadd (pc := 91)  hF dX11_lackByWay_91 (fun x6 r_x6 hF => ?_)
  refine ji_iload (pc := 92) l7 rfl rfl dX11_lackByWay_92 (fun r7 => ?_)
  refine ji_iconst (pc := 94) dX11_lackByWay_94 ?_
  refine ji_icmp_ne 102 (pc := 95) r7 (jRc rfl) hF dX11_lackByWay_95 rfl (fun hF => ?_) (fun hF => ?_)
  · refine ji_iconst (pc := 102) dX11_lackByWay_102 ?_
    refine jg_norm [3, 1, 1, 1, 1, 1, 1, 1, 0] [53, l1, l2, l3, l4, l5, l6, l7, 0] rfl rfl ?_
    exact obX11_lackByWay_103 hk56 _ _ _ _ _ _ _ _ _ _ _ r_x2 r_x6 (jRc rfl) hF
  · refine ji_iconst (pc := 98) dX11_lackByWay_98 ?_
    refine jg_goto (pc := 99) 103 dX11_lackByWay_99 rfl ?_
    refine jg_norm [3, 1, 1, 1, 1, 1, 1, 1, 0] [53, l1, l2, l3, l4, l5, l6, l7, 0] rfl rfl ?_
    exact obX11_lackByWay_103 hk56 _ _ _ _ _ _ _ _ _ _ _ r_x2 r_x6 (jRc rfl) hF
set_option maxRecDepth 100000 in
set_option maxHeartbeats 4000000 in
theorem obX11_lackByWay_56 {E : jEnv} {Rr : Int → jMem → Prop} {k177 : Int → Int → Int → Int → Int → jMem → jO} (hk177 : ∀ (l1 l2 l3 l4 l5 : Int) (s : jMem), jHo Rr (k177 l1 l2 l3 l4 l5 s) → jGo E MX11_lackByWay 0 Rr [3, 1, 1, 1, 1, 1, 0, 0, 0] 177 [53, l1, l2, l3, l4, l5, 0, 0, 0] ([]) s) {rec : Int → Int → Int → Int → Int → Int → Int → jMem → jO} (hrec : ∀ (l1 l2 l3 l4 l5 l6 l7 : Int) (s : jMem), jHo Rr (rec l1 l2 l3 l4 l5 l6 l7 s) → jGo E MX11_lackByWay 0 Rr [3, 1, 1, 1, 1, 1, 1, 1, 0] 56 [53, l1, l2, l3, l4, l5, l6, l7, 0] ([]) s) : ∀ (l1 l2 l3 l4 l5 l6 l7 : Int) (s : jMem), jHo Rr (bX11_lackByWay_56 k177 rec l1 l2 l3 l4 l5 l6 l7 s) → jGo E MX11_lackByWay 0 Rr [3, 1, 1, 1, 1, 1, 1, 1, 0] 56 [53, l1, l2, l3, l4, l5, l6, l7, 0] ([]) s := by
  intro l1 l2 l3 l4 l5 l6 l7 s0 hF
  unfold bX11_lackByWay_56 at hF
  refine ji_iload (pc := 56) l7 rfl rfl dX11_lackByWay_56 (fun r1 => ?_)
  refine ji_iconst (pc := 58) dX11_lackByWay_58 ?_
  refine ji_icmp_ge 177 (pc := 59) r1 (jRc rfl) hF dX11_lackByWay_59 rfl (fun hF => ?_) (fun hF => ?_)
  · refine jg_norm [3, 1, 1, 1, 1, 1, 0, 0, 0] [53, l1, l2, l3, l4, l5, 0, 0, 0] rfl rfl ?_
    exact hk177 _ _ _ _ _ _ hF
  · refine ji_aload_n (n := 0) (pc := 62) 53 rfl rfl rfl dX11_lackByWay_62 (fun r2 => ?_)
    refine ji_getr (pc := 63) 74 wfX11_74 (jRc3 rfl) jcl_53 jrf_53_25 dX11_lackByWay_63 ?_
    refine ji_iconst (pc := 66) dX11_lackByWay_66 ?_
    refine ji_iload_n (n := 3) (pc := 67) l3 rfl rfl rfl dX11_lackByWay_67 (fun r3 => ?_)
    refine ji_imul (pc := 68)  hF dX11_lackByWay_68 (fun x4 r_x4 hF => ?_)
    refine ji_iload (pc := 69) l7 rfl rfl dX11_lackByWay_69 (fun r5 => ?_)
    refine ji_if_ne 78 (pc := 71) r5 hF dX11_lackByWay_71 rfl (fun hF => ?_) (fun hF => ?_)
    · refine ji_iconst (pc := 78) dX11_lackByWay_78 ?_
      refine jg_norm [3, 1, 1, 1, 1, 1, 1, 1, 0] [53, l1, l2, l3, l4, l5, l6, l7, 0] rfl rfl ?_
      exact obX11_lackByWay_79 hrec _ _ _ _ _ _ _ _ _ _ r_x4 (jRc rfl) hF
    · refine ji_iconst (pc := 74) dX11_lackByWay_74 ?_
      refine jg_goto (pc := 75) 79 dX11_lackByWay_75 rfl ?_
      refine jg_norm [3, 1, 1, 1, 1, 1, 1, 1, 0] [53, l1, l2, l3, l4, l5, l6, l7, 0] rfl rfl ?_
      exact obX11_lackByWay_79 hrec _ _ _ _ _ _ _ _ _ _ r_x4 (jRc rfl) hF
theorem obX11_lackByWay_56W {E : jEnv} {Rr : Int → jMem → Prop} {k177 : Int → Int → Int → Int → Int → jMem → jO} (hk177 : ∀ (l1 l2 l3 l4 l5 : Int) (s : jMem), jHo Rr (k177 l1 l2 l3 l4 l5 s) → jGo E MX11_lackByWay 0 Rr [3, 1, 1, 1, 1, 1, 0, 0, 0] 177 [53, l1, l2, l3, l4, l5, 0, 0, 0] ([]) s) : ∀ n : Nat, ∀ (l1 l2 l3 l4 l5 l6 l7 : Int) (s : jMem), jHo Rr (jIt (fun _ _ _ _ _ _ _ _ => none) (bX11_lackByWay_56 k177) n l1 l2 l3 l4 l5 l6 l7 s) → jGo E MX11_lackByWay 0 Rr [3, 1, 1, 1, 1, 1, 1, 1, 0] 56 [53, l1, l2, l3, l4, l5, l6, l7, 0] ([]) s := by
  intro n
  induction n with
  | zero => intro l1 l2 l3 l4 l5 l6 l7 s hF; exact jHo_none hF
  | succ n ih => exact obX11_lackByWay_56 hk177 ih

set_option maxRecDepth 100000 in
set_option maxHeartbeats 4000000 in
theorem obX11_lackByWay_177 {E : jEnv} {Rr : Int → jMem → Prop} {k31 : Int → Int → Int → Int → Int → jMem → jO} (hk31 : ∀ (l1 l2 l3 l4 l5 : Int) (s : jMem), jHo Rr (k31 l1 l2 l3 l4 l5 s) → jGo E MX11_lackByWay 0 Rr [3, 1, 1, 1, 1, 1, 0, 0, 0] 31 [53, l1, l2, l3, l4, l5, 0, 0, 0] ([]) s) : ∀ (l1 l2 l3 l4 l5 : Int) (s : jMem), jHo Rr (bX11_lackByWay_177 k31 l1 l2 l3 l4 l5 s) → jGo E MX11_lackByWay 0 Rr [3, 1, 1, 1, 1, 1, 0, 0, 0] 177 [53, l1, l2, l3, l4, l5, 0, 0, 0] ([]) s := by
  intro l1 l2 l3 l4 l5 s0 hF
  unfold bX11_lackByWay_177 at hF
  refine ji_iinc (pc := 177) l5 (fun w => [53, l1, l2, l3, l4, w, 0, 0, 0]) rfl rfl rfl (fun _ => rfl) hF dX11_lackByWay_177 (fun x1 r_x1 hF => ?_)
  refine jg_goto (pc := 180) 31 dX11_lackByWay_180 rfl ?_
  refine jg_norm [3, 1, 1, 1, 1, 1, 0, 0, 0] [53, l1, l2, l3, l4, x1, 0, 0, 0] rfl rfl ?_
  exact hk31 _ _ _ _ _ _ hF
set_option maxRecDepth 100000 in
set_option maxHeartbeats 4000000 in
theorem obX11_lackByWay_31 {E : jEnv} {Rr : Int → jMem → Prop} {k183 : Int → Int → Int → Int → jMem → jO} (hk183 : ∀ (l1 l2 l3 l4 : Int) (s : jMem), jHo Rr (k183 l1 l2 l3 l4 s) → jGo E MX11_lackByWay 0 Rr [3, 1, 1, 1, 1, 0, 0, 0, 0] 183 [53, l1, l2, l3, l4, 0, 0, 0, 0] ([]) s) {rec : Int → Int → Int → Int → Int → jMem → jO} (hrec : ∀ (l1 l2 l3 l4 l5 : Int) (s : jMem), jHo Rr (rec l1 l2 l3 l4 l5 s) → jGo E MX11_lackByWay 0 Rr [3, 1, 1, 1, 1, 1, 0, 0, 0] 31 [53, l1, l2, l3, l4, l5, 0, 0, 0] ([]) s) : ∀ (l1 l2 l3 l4 l5 : Int) (s : jMem), jHo Rr (bX11_lackByWay_31 k183 rec l1 l2 l3 l4 l5 s) → jGo E MX11_lackByWay 0 Rr [3, 1, 1, 1, 1, 1, 0, 0, 0] 31 [53, l1, l2, l3, l4, l5, 0, 0, 0] ([]) s := by
  intro l1 l2 l3 l4 l5 s0 hF
  unfold bX11_lackByWay_31 at hF
  refine ji_iload_n (n := 3) (pc := 31) l3 rfl rfl rfl dX11_lackByWay_31 (fun r1 => ?_)
  refine ji_iload (pc := 32) l4 rfl rfl dX11_lackByWay_32 (fun r2 => ?_)
  refine ji_iadd (pc := 34)  hF dX11_lackByWay_34 (fun x3 r_x3 hF => ?_)
  refine ji_iload (pc := 35) l5 rfl rfl dX11_lackByWay_35 (fun r4 => ?_)
  refine ji_iadd (pc := 37)  hF dX11_lackByWay_37 (fun x5 r_x5 hF => ?_)
  refine ji_iload_n (n := 2) (pc := 38) l2 rfl rfl rfl dX11_lackByWay_38 (fun r6 => ?_)
  refine ji_icmp_gt 183 (pc := 39) r_x5 r6 hF dX11_lackByWay_39 rfl (fun hF => ?_) (fun hF => ?_)
  · refine jg_norm [3, 1, 1, 1, 1, 0, 0, 0, 0] [53, l1, l2, l3, l4, 0, 0, 0, 0] rfl rfl ?_
    exact hk183 _ _ _ _ _ hF
  · refine ji_iload_n (n := 2) (pc := 42) l2 rfl rfl rfl dX11_lackByWay_42 (fun r7 => ?_)
    refine ji_iload_n (n := 3) (pc := 43) l3 rfl rfl rfl dX11_lackByWay_43 (fun r8 => ?_)
    refine ji_isub (pc := 44)  hF dX11_lackByWay_44 (fun x9 r_x9 hF => ?_)
    refine ji_iload (pc := 45) l4 rfl rfl dX11_lackByWay_45 (fun r10 => ?_)
    refine ji_isub (pc := 47)  hF dX11_lackByWay_47 (fun x11 r_x11 hF => ?_)
    refine ji_iload (pc := 48) l5 rfl rfl dX11_lackByWay_48 (fun r12 => ?_)
    refine ji_isub (pc := 50)  hF dX11_lackByWay_50 (fun x13 r_x13 hF => ?_)
    refine ji_istore (n := 6) (pc := 51) [3, 1, 1, 1, 1, 1, 1, 0, 0] [53, l1, l2, l3, l4, l5, x13, 0, 0] r_x13 (Nat.le_of_ble_eq_true rfl) rfl rfl dX11_lackByWay_51 ?_
    refine ji_iconst (pc := 53) dX11_lackByWay_53 ?_
    refine ji_istore (n := 7) (pc := 54) [3, 1, 1, 1, 1, 1, 1, 1, 0] [53, l1, l2, l3, l4, l5, x13, 0, 0] (jRc rfl) (Nat.le_of_ble_eq_true rfl) rfl rfl dX11_lackByWay_54 ?_
    refine jg_norm [3, 1, 1, 1, 1, 1, 1, 1, 0] [53, l1, l2, l3, l4, l5, x13, 0, 0] rfl rfl ?_
    exact obX11_lackByWay_56W (obX11_lackByWay_177 hrec) 1000 _ _ _ _ _ _ _ _ hF
theorem obX11_lackByWay_31W {E : jEnv} {Rr : Int → jMem → Prop} {k183 : Int → Int → Int → Int → jMem → jO} (hk183 : ∀ (l1 l2 l3 l4 : Int) (s : jMem), jHo Rr (k183 l1 l2 l3 l4 s) → jGo E MX11_lackByWay 0 Rr [3, 1, 1, 1, 1, 0, 0, 0, 0] 183 [53, l1, l2, l3, l4, 0, 0, 0, 0] ([]) s) : ∀ n : Nat, ∀ (l1 l2 l3 l4 l5 : Int) (s : jMem), jHo Rr (jIt (fun _ _ _ _ _ _ => none) (bX11_lackByWay_31 k183) n l1 l2 l3 l4 l5 s) → jGo E MX11_lackByWay 0 Rr [3, 1, 1, 1, 1, 1, 0, 0, 0] 31 [53, l1, l2, l3, l4, l5, 0, 0, 0] ([]) s := by
  intro n
  induction n with
  | zero => intro l1 l2 l3 l4 l5 s hF; exact jHo_none hF
  | succ n ih => exact obX11_lackByWay_31 hk183 ih

set_option maxRecDepth 100000 in
set_option maxHeartbeats 4000000 in
theorem obX11_lackByWay_183 {E : jEnv} {Rr : Int → jMem → Prop} {k20 : Int → Int → Int → Int → jMem → jO} (hk20 : ∀ (l1 l2 l3 l4 : Int) (s : jMem), jHo Rr (k20 l1 l2 l3 l4 s) → jGo E MX11_lackByWay 0 Rr [3, 1, 1, 1, 1, 0, 0, 0, 0] 20 [53, l1, l2, l3, l4, 0, 0, 0, 0] ([]) s) : ∀ (l1 l2 l3 l4 : Int) (s : jMem), jHo Rr (bX11_lackByWay_183 k20 l1 l2 l3 l4 s) → jGo E MX11_lackByWay 0 Rr [3, 1, 1, 1, 1, 0, 0, 0, 0] 183 [53, l1, l2, l3, l4, 0, 0, 0, 0] ([]) s := by
  intro l1 l2 l3 l4 s0 hF
  unfold bX11_lackByWay_183 at hF
  refine ji_iinc (pc := 183) l4 (fun w => [53, l1, l2, l3, w, 0, 0, 0, 0]) rfl rfl rfl (fun _ => rfl) hF dX11_lackByWay_183 (fun x1 r_x1 hF => ?_)
  refine jg_goto (pc := 186) 20 dX11_lackByWay_186 rfl ?_
  refine jg_norm [3, 1, 1, 1, 1, 0, 0, 0, 0] [53, l1, l2, l3, x1, 0, 0, 0, 0] rfl rfl ?_
  exact hk20 _ _ _ _ _ hF
set_option maxRecDepth 100000 in
set_option maxHeartbeats 4000000 in
theorem obX11_lackByWay_20 {E : jEnv} {Rr : Int → jMem → Prop} {k189 : Int → Int → Int → jMem → jO} (hk189 : ∀ (l1 l2 l3 : Int) (s : jMem), jHo Rr (k189 l1 l2 l3 s) → jGo E MX11_lackByWay 0 Rr [3, 1, 1, 1, 0, 0, 0, 0, 0] 189 [53, l1, l2, l3, 0, 0, 0, 0, 0] ([]) s) {rec : Int → Int → Int → Int → jMem → jO} (hrec : ∀ (l1 l2 l3 l4 : Int) (s : jMem), jHo Rr (rec l1 l2 l3 l4 s) → jGo E MX11_lackByWay 0 Rr [3, 1, 1, 1, 1, 0, 0, 0, 0] 20 [53, l1, l2, l3, l4, 0, 0, 0, 0] ([]) s) : ∀ (l1 l2 l3 l4 : Int) (s : jMem), jHo Rr (bX11_lackByWay_20 k189 rec l1 l2 l3 l4 s) → jGo E MX11_lackByWay 0 Rr [3, 1, 1, 1, 1, 0, 0, 0, 0] 20 [53, l1, l2, l3, l4, 0, 0, 0, 0] ([]) s := by
  intro l1 l2 l3 l4 s0 hF
  unfold bX11_lackByWay_20 at hF
  refine ji_iload_n (n := 3) (pc := 20) l3 rfl rfl rfl dX11_lackByWay_20 (fun r1 => ?_)
  refine ji_iload (pc := 21) l4 rfl rfl dX11_lackByWay_21 (fun r2 => ?_)
  refine ji_iadd (pc := 23)  hF dX11_lackByWay_23 (fun x3 r_x3 hF => ?_)
  refine ji_iload_n (n := 2) (pc := 24) l2 rfl rfl rfl dX11_lackByWay_24 (fun r4 => ?_)
  refine ji_icmp_gt 189 (pc := 25) r_x3 r4 hF dX11_lackByWay_25 rfl (fun hF => ?_) (fun hF => ?_)
  · refine jg_norm [3, 1, 1, 1, 0, 0, 0, 0, 0] [53, l1, l2, l3, 0, 0, 0, 0, 0] rfl rfl ?_
    exact hk189 _ _ _ _ hF
  · refine ji_iconst (pc := 28) dX11_lackByWay_28 ?_
    refine ji_istore (n := 5) (pc := 29) [3, 1, 1, 1, 1, 1, 0, 0, 0] [53, l1, l2, l3, l4, 0, 0, 0, 0] (jRc rfl) (Nat.le_of_ble_eq_true rfl) rfl rfl dX11_lackByWay_29 ?_
    refine jg_norm [3, 1, 1, 1, 1, 1, 0, 0, 0] [53, l1, l2, l3, l4, 0, 0, 0, 0] rfl rfl ?_
    exact obX11_lackByWay_31W (obX11_lackByWay_183 hrec) 1000 _ _ _ _ _ _ hF
theorem obX11_lackByWay_20W {E : jEnv} {Rr : Int → jMem → Prop} {k189 : Int → Int → Int → jMem → jO} (hk189 : ∀ (l1 l2 l3 : Int) (s : jMem), jHo Rr (k189 l1 l2 l3 s) → jGo E MX11_lackByWay 0 Rr [3, 1, 1, 1, 0, 0, 0, 0, 0] 189 [53, l1, l2, l3, 0, 0, 0, 0, 0] ([]) s) : ∀ n : Nat, ∀ (l1 l2 l3 l4 : Int) (s : jMem), jHo Rr (jIt (fun _ _ _ _ _ => none) (bX11_lackByWay_20 k189) n l1 l2 l3 l4 s) → jGo E MX11_lackByWay 0 Rr [3, 1, 1, 1, 1, 0, 0, 0, 0] 20 [53, l1, l2, l3, l4, 0, 0, 0, 0] ([]) s := by
  intro n
  induction n with
  | zero => intro l1 l2 l3 l4 s hF; exact jHo_none hF
  | succ n ih => exact obX11_lackByWay_20 hk189 ih

set_option maxRecDepth 100000 in
set_option maxHeartbeats 4000000 in
theorem obX11_lackByWay_189 {E : jEnv} {Rr : Int → jMem → Prop} {k12 : Int → Int → Int → jMem → jO} (hk12 : ∀ (l1 l2 l3 : Int) (s : jMem), jHo Rr (k12 l1 l2 l3 s) → jGo E MX11_lackByWay 0 Rr [3, 1, 1, 1, 0, 0, 0, 0, 0] 12 [53, l1, l2, l3, 0, 0, 0, 0, 0] ([]) s) : ∀ (l1 l2 l3 : Int) (s : jMem), jHo Rr (bX11_lackByWay_189 k12 l1 l2 l3 s) → jGo E MX11_lackByWay 0 Rr [3, 1, 1, 1, 0, 0, 0, 0, 0] 189 [53, l1, l2, l3, 0, 0, 0, 0, 0] ([]) s := by
  intro l1 l2 l3 s0 hF
  unfold bX11_lackByWay_189 at hF
  refine ji_iinc (pc := 189) l3 (fun w => [53, l1, l2, w, 0, 0, 0, 0, 0]) rfl rfl rfl (fun _ => rfl) hF dX11_lackByWay_189 (fun x1 r_x1 hF => ?_)
  refine jg_goto (pc := 192) 12 dX11_lackByWay_192 rfl ?_
  refine jg_norm [3, 1, 1, 1, 0, 0, 0, 0, 0] [53, l1, l2, x1, 0, 0, 0, 0, 0] rfl rfl ?_
  exact hk12 _ _ _ _ hF
set_option maxRecDepth 100000 in
set_option maxHeartbeats 4000000 in
theorem obX11_lackByWay_12 {E : jEnv} {Rr : Int → jMem → Prop} {rec : Int → Int → Int → jMem → jO} (hrec : ∀ (l1 l2 l3 : Int) (s : jMem), jHo Rr (rec l1 l2 l3 s) → jGo E MX11_lackByWay 0 Rr [3, 1, 1, 1, 0, 0, 0, 0, 0] 12 [53, l1, l2, l3, 0, 0, 0, 0, 0] ([]) s) : ∀ (l1 l2 l3 : Int) (s : jMem), jHo Rr (bX11_lackByWay_12 rec l1 l2 l3 s) → jGo E MX11_lackByWay 0 Rr [3, 1, 1, 1, 0, 0, 0, 0, 0] 12 [53, l1, l2, l3, 0, 0, 0, 0, 0] ([]) s := by
  intro l1 l2 l3 s0 hF
  unfold bX11_lackByWay_12 at hF
  refine ji_iload_n (n := 3) (pc := 12) l3 rfl rfl rfl dX11_lackByWay_12 (fun r1 => ?_)
  refine ji_iload_n (n := 2) (pc := 13) l2 rfl rfl rfl dX11_lackByWay_13 (fun r2 => ?_)
  refine ji_icmp_gt 195 (pc := 14) r1 r2 hF dX11_lackByWay_14 rfl (fun hF => ?_) (fun hF => ?_)
  · refine ji_iload_n (n := 1) (pc := 195) l1 rfl rfl rfl dX11_lackByWay_195 (fun r3 => ?_)
    exact ji_reti (pc := 196) rfl r3 hF dX11_lackByWay_196
  · refine ji_iconst (pc := 17) dX11_lackByWay_17 ?_
    refine ji_istore (n := 4) (pc := 18) [3, 1, 1, 1, 1, 0, 0, 0, 0] [53, l1, l2, l3, 0, 0, 0, 0, 0] (jRc rfl) (Nat.le_of_ble_eq_true rfl) rfl rfl dX11_lackByWay_18 ?_
    refine jg_norm [3, 1, 1, 1, 1, 0, 0, 0, 0] [53, l1, l2, l3, 0, 0, 0, 0, 0] rfl rfl ?_
    exact obX11_lackByWay_20W (obX11_lackByWay_189 hrec) 1000 _ _ _ _ _ hF
theorem obX11_lackByWay_12W {E : jEnv} {Rr : Int → jMem → Prop} : ∀ n : Nat, ∀ (l1 l2 l3 : Int) (s : jMem), jHo Rr (jIt (fun _ _ _ _ => none) (bX11_lackByWay_12) n l1 l2 l3 s) → jGo E MX11_lackByWay 0 Rr [3, 1, 1, 1, 0, 0, 0, 0, 0] 12 [53, l1, l2, l3, 0, 0, 0, 0, 0] ([]) s := by
  intro n
  induction n with
  | zero => intro l1 l2 l3 s hF; exact jHo_none hF
  | succ n ih => exact obX11_lackByWay_12 ih

set_option maxRecDepth 100000 in
set_option maxHeartbeats 4000000 in
theorem oX11_lackByWay : jOk MX11_lackByWay [3] 0 (jFn gX11_lackByWay) := by
  refine jOk_fn (by decide +kernel) (Nat.le_of_ble_eq_true rfl) (by decide +kernel) (.inr (.inl rfl)) ?_
  intro E vs s0 Rr hF ha
  obtain ⟨l0, t0, rfl, r_l0, ha⟩ := jRa_ci ha
  obtain rfl := jRa_ni ha
  replace hF : jHo Rr (jGd (l0 = 53) <| fX11_lackByWay s0) := hF
  have hG := jHo_as hF
  clear hF
  obtain ⟨rfl, hF⟩ := hG
  refine jg_norm [3, 0, 0, 0, 0, 0, 0, 0, 0] [53, 0, 0, 0, 0, 0, 0, 0, 0] rfl rfl ?_
  unfold fX11_lackByWay at hF
  refine jg_bipush (pc := 0) rfl dX11_lackByWay_0 ?_
  refine ji_istore_n (n := 1) (pc := 2) [3, 1, 0, 0, 0, 0, 0, 0, 0] [53, 99, 0, 0, 0, 0, 0, 0, 0] rfl (jRc rfl) (Nat.le_of_ble_eq_true rfl) rfl rfl dX11_lackByWay_2 ?_
  refine ji_iconst (pc := 3) dX11_lackByWay_3 ?_
  refine ji_aload_n (n := 0) (pc := 4) 53 rfl rfl rfl dX11_lackByWay_4 (fun r1 => ?_)
  refine ji_getfi (pc := 5) wfX11_158 (jRc3 rfl) jcl_53 hF dX11_lackByWay_5 (fun x2 r_x2 hF => ?_)
  refine ji_isub (pc := 8)  hF dX11_lackByWay_8 (fun x3 r_x3 hF => ?_)
  refine ji_istore_n (n := 2) (pc := 9) [3, 1, 1, 0, 0, 0, 0, 0, 0] [53, 99, x3, 0, 0, 0, 0, 0, 0] rfl r_x3 (Nat.le_of_ble_eq_true rfl) rfl rfl dX11_lackByWay_9 ?_
  refine ji_iconst (pc := 10) dX11_lackByWay_10 ?_
  refine ji_istore_n (n := 3) (pc := 11) [3, 1, 1, 1, 0, 0, 0, 0, 0] [53, 99, x3, 0, 0, 0, 0, 0, 0] rfl (jRc rfl) (Nat.le_of_ble_eq_true rfl) rfl rfl dX11_lackByWay_11 ?_
  refine jg_norm [3, 1, 1, 1, 0, 0, 0, 0, 0] [53, 99, x3, 0, 0, 0, 0, 0, 0] rfl rfl ?_
  exact obX11_lackByWay_12W 1000 _ _ _ _ hF
def bX11_lackOfSeven_46 (k6 : Int → Int → Int → jMem → jO) (l1 l3 t0 t1 : Int) (s0 : jMem) : jO :=
jLet (j32 (t0 + t1)) fun x1 =>
jLet (j32 (l3 + 1)) fun x2 =>
k6 l1 x1 x2 s0
def bX11_lackOfSeven_28 (k6 : Int → Int → Int → jMem → jO) (l2 l3 t0 t1 : Int) (s0 : jMem) : jO :=
jLet (j32 (t0 + t1)) fun x1 =>
jGd ((0 : Int) ≤ l3 ∧ l3 < jik 68) <| jLet (s0 68 l3) fun x5 =>
if x5 = 1 then (
bX11_lackOfSeven_46 k6 x1 l3 l2 1 s0)
else (
bX11_lackOfSeven_46 k6 x1 l3 l2 0 s0)
def bX11_lackOfSeven_6 (k54 : Int → Int → jMem → jO) (rec : Int → Int → Int → jMem → jO) (l1 l2 l3 : Int) (s0 : jMem) : jO :=
if 34 ≤ l3 then (
k54 l1 l2 s0)
else (
jGd ((0 : Int) ≤ l3 ∧ l3 < jik 68) <| jLet (s0 68 l3) fun x5 =>
if x5 ≤ 1 then (
bX11_lackOfSeven_28 rec l2 l3 l1 0 s0)
else (
bX11_lackOfSeven_28 rec l2 l3 l1 1 s0))
def bX11_lackOfSeven_68 (l2 t0 : Int) (s0 : jMem) : jO :=
if l2 ≤ t0 then (
jLet (j32 (2 * t0)) fun x4 =>
jLet (j32 (x4 - l2)) fun x6 =>
jRet x6 s0)
else (
jRet t0 s0)
def bX11_lackOfSeven_54 (l1 l2 : Int) (s0 : jMem) : jO :=
if l1 ≤ 7 then (
jLet (j32 (7 - l1)) fun x3 =>
bX11_lackOfSeven_68 l2 x3 s0)
else (
bX11_lackOfSeven_68 l2 0 s0)
def fX11_lackOfSeven (s0 : jMem) : jO :=
jIt (fun _ _ _ _ => none) (bX11_lackOfSeven_6 bX11_lackOfSeven_54) 1000 0 0 0 s0
def gX11_lackOfSeven (vs : List Int) (s : jMem) : jO := match vs with
  | [a0] => jGd (a0 = 53) <| fX11_lackOfSeven s
  | _ => none
set_option maxRecDepth 100000 in
set_option maxHeartbeats 4000000 in
theorem obX11_lackOfSeven_46 {E : jEnv} {Rr : Int → jMem → Prop} {k6 : Int → Int → Int → jMem → jO} (hk6 : ∀ (l1 l2 l3 : Int) (s : jMem), jHo Rr (k6 l1 l2 l3 s) → jGo E MX11_lackOfSeven 0 Rr [3, 1, 1, 1] 6 [53, l1, l2, l3] ([]) s) : ∀ (l1 l3 t0 t1 : Int) (s : jMem), jR 1 t0 → jR 1 t1 → jHo Rr (bX11_lackOfSeven_46 k6 l1 l3 t0 t1 s) → jGo E MX11_lackOfSeven 0 Rr [3, 1, 0, 1] 46 [53, l1, 0, l3] (jV E 1 t1 :: jV E 1 t0 :: []) s := by
  intro l1 l3 t0 t1 s0 r_t0 r_t1 hF
  unfold bX11_lackOfSeven_46 at hF
  refine ji_iadd (pc := 46)  hF dX11_lackOfSeven_46 (fun x1 r_x1 hF => ?_)
  refine ji_istore_n (n := 2) (pc := 47) [3, 1, 1, 1] [53, l1, x1, l3] rfl r_x1 (Nat.le_of_ble_eq_true rfl) rfl rfl dX11_lackOfSeven_47 ?_
  refine ji_iinc (pc := 48) l3 (fun w => [53, l1, x1, w]) rfl rfl rfl (fun _ => rfl) hF dX11_lackOfSeven_48 (fun x2 r_x2 hF => ?_)
  refine jg_goto (pc := 51) 6 dX11_lackOfSeven_51 rfl ?_
  refine jg_norm [3, 1, 1, 1] [53, l1, x1, x2] rfl rfl ?_
  exact hk6 _ _ _ _ hF
set_option maxRecDepth 100000 in
set_option maxHeartbeats 4000000 in
theorem obX11_lackOfSeven_28 {E : jEnv} {Rr : Int → jMem → Prop} {k6 : Int → Int → Int → jMem → jO} (hk6 : ∀ (l1 l2 l3 : Int) (s : jMem), jHo Rr (k6 l1 l2 l3 s) → jGo E MX11_lackOfSeven 0 Rr [3, 1, 1, 1] 6 [53, l1, l2, l3] ([]) s) : ∀ (l2 l3 t0 t1 : Int) (s : jMem), jR 1 t0 → jR 1 t1 → jHo Rr (bX11_lackOfSeven_28 k6 l2 l3 t0 t1 s) → jGo E MX11_lackOfSeven 0 Rr [3, 0, 1, 1] 28 [53, 0, l2, l3] (jV E 1 t1 :: jV E 1 t0 :: []) s := by
  intro l2 l3 t0 t1 s0 r_t0 r_t1 hF
  unfold bX11_lackOfSeven_28 at hF
  refine ji_iadd (pc := 28)  hF dX11_lackOfSeven_28 (fun x1 r_x1 hF => ?_)
  refine ji_istore_n (n := 1) (pc := 29) [3, 1, 1, 1] [53, x1, l2, l3] rfl r_x1 (Nat.le_of_ble_eq_true rfl) rfl rfl dX11_lackOfSeven_29 ?_
  refine ji_iload_n (n := 2) (pc := 30) l2 rfl rfl rfl dX11_lackOfSeven_30 (fun r2 => ?_)
  refine ji_aload_n (n := 0) (pc := 31) 53 rfl rfl rfl dX11_lackOfSeven_31 (fun r3 => ?_)
  refine ji_getr (pc := 32) 68 wfX11_56 (jRc3 rfl) jcl_53 jrf_53_18 dX11_lackOfSeven_32 ?_
  refine ji_iload_n (n := 3) (pc := 35) l3 rfl rfl rfl dX11_lackOfSeven_35 (fun r4 => ?_)
  refine ji_iaload (pc := 36) (jRc3 rfl) r4 hF dX11_lackOfSeven_36 (fun x5 r_x5 hF => ?_)
  refine ji_iconst (pc := 37) dX11_lackOfSeven_37 ?_
  refine ji_icmp_ne 45 (pc := 38) r_x5 (jRc rfl) hF dX11_lackOfSeven_38 rfl (fun hF => ?_) (fun hF => ?_)
  · refine ji_iconst (pc := 45) dX11_lackOfSeven_45 ?_
    refine jg_norm [3, 1, 0, 1] [53, x1, 0, l3] rfl rfl ?_
    exact obX11_lackOfSeven_46 hk6 _ _ _ _ _ r2 (jRc rfl) hF
  · refine ji_iconst (pc := 41) dX11_lackOfSeven_41 ?_
    refine jg_goto (pc := 42) 46 dX11_lackOfSeven_42 rfl ?_
    refine jg_norm [3, 1, 0, 1] [53, x1, 0, l3] rfl rfl ?_
    exact obX11_lackOfSeven_46 hk6 _ _ _ _ _ r2 (jRc rfl) hF
set_option maxRecDepth 100000 in
set_option maxHeartbeats 4000000 in
theorem obX11_lackOfSeven_6 {E : jEnv} {Rr : Int → jMem → Prop} {k54 : Int → Int → jMem → jO} (hk54 : ∀ (l1 l2 : Int) (s : jMem), jHo Rr (k54 l1 l2 s) → jGo E MX11_lackOfSeven 0 Rr [0, 1, 1, 0] 54 [0, l1, l2, 0] ([]) s) {rec : Int → Int → Int → jMem → jO} (hrec : ∀ (l1 l2 l3 : Int) (s : jMem), jHo Rr (rec l1 l2 l3 s) → jGo E MX11_lackOfSeven 0 Rr [3, 1, 1, 1] 6 [53, l1, l2, l3] ([]) s) : ∀ (l1 l2 l3 : Int) (s : jMem), jHo Rr (bX11_lackOfSeven_6 k54 rec l1 l2 l3 s) → jGo E MX11_lackOfSeven 0 Rr [3, 1, 1, 1] 6 [53, l1, l2, l3] ([]) s := by
  intro l1 l2 l3 s0 hF
  unfold bX11_lackOfSeven_6 at hF
  refine ji_iload_n (n := 3) (pc := 6) l3 rfl rfl rfl dX11_lackOfSeven_6 (fun r1 => ?_)
  refine jg_bipush (pc := 7) rfl dX11_lackOfSeven_7 ?_
  refine ji_icmp_ge 54 (pc := 9) r1 (jRc rfl) hF dX11_lackOfSeven_9 rfl (fun hF => ?_) (fun hF => ?_)
  · refine jg_norm [0, 1, 1, 0] [0, l1, l2, 0] rfl rfl ?_
    exact hk54 _ _ _ hF
  · refine ji_iload_n (n := 1) (pc := 12) l1 rfl rfl rfl dX11_lackOfSeven_12 (fun r2 => ?_)
    refine ji_aload_n (n := 0) (pc := 13) 53 rfl rfl rfl dX11_lackOfSeven_13 (fun r3 => ?_)
    refine ji_getr (pc := 14) 68 wfX11_56 (jRc3 rfl) jcl_53 jrf_53_18 dX11_lackOfSeven_14 ?_
    refine ji_iload_n (n := 3) (pc := 17) l3 rfl rfl rfl dX11_lackOfSeven_17 (fun r4 => ?_)
    refine ji_iaload (pc := 18) (jRc3 rfl) r4 hF dX11_lackOfSeven_18 (fun x5 r_x5 hF => ?_)
    refine ji_iconst (pc := 19) dX11_lackOfSeven_19 ?_
    refine ji_icmp_le 27 (pc := 20) r_x5 (jRc rfl) hF dX11_lackOfSeven_20 rfl (fun hF => ?_) (fun hF => ?_)
    · refine ji_iconst (pc := 27) dX11_lackOfSeven_27 ?_
      refine jg_norm [3, 0, 1, 1] [53, 0, l2, l3] rfl rfl ?_
      exact obX11_lackOfSeven_28 hrec _ _ _ _ _ r2 (jRc rfl) hF
    · refine ji_iconst (pc := 23) dX11_lackOfSeven_23 ?_
      refine jg_goto (pc := 24) 28 dX11_lackOfSeven_24 rfl ?_
      refine jg_norm [3, 0, 1, 1] [53, 0, l2, l3] rfl rfl ?_
      exact obX11_lackOfSeven_28 hrec _ _ _ _ _ r2 (jRc rfl) hF
theorem obX11_lackOfSeven_6W {E : jEnv} {Rr : Int → jMem → Prop} {k54 : Int → Int → jMem → jO} (hk54 : ∀ (l1 l2 : Int) (s : jMem), jHo Rr (k54 l1 l2 s) → jGo E MX11_lackOfSeven 0 Rr [0, 1, 1, 0] 54 [0, l1, l2, 0] ([]) s) : ∀ n : Nat, ∀ (l1 l2 l3 : Int) (s : jMem), jHo Rr (jIt (fun _ _ _ _ => none) (bX11_lackOfSeven_6 k54) n l1 l2 l3 s) → jGo E MX11_lackOfSeven 0 Rr [3, 1, 1, 1] 6 [53, l1, l2, l3] ([]) s := by
  intro n
  induction n with
  | zero => intro l1 l2 l3 s hF; exact jHo_none hF
  | succ n ih => exact obX11_lackOfSeven_6 hk54 ih

set_option maxRecDepth 100000 in
set_option maxHeartbeats 4000000 in
theorem obX11_lackOfSeven_68 {E : jEnv} {Rr : Int → jMem → Prop} : ∀ (l2 t0 : Int) (s : jMem), jR 1 t0 → jHo Rr (bX11_lackOfSeven_68 l2 t0 s) → jGo E MX11_lackOfSeven 0 Rr [0, 0, 1, 0] 68 [0, 0, l2, 0] (jV E 1 t0 :: []) s := by
  intro l2 t0 s0 r_t0 hF
  unfold bX11_lackOfSeven_68 at hF
  refine ji_istore_n (n := 3) (pc := 68) [0, 0, 1, 1] [0, 0, l2, t0] rfl r_t0 (Nat.le_of_ble_eq_true rfl) rfl rfl dX11_lackOfSeven_68 ?_
  refine ji_iload_n (n := 2) (pc := 69) l2 rfl rfl rfl dX11_lackOfSeven_69 (fun r1 => ?_)
  refine ji_iload_n (n := 3) (pc := 70) t0 rfl rfl rfl dX11_lackOfSeven_70 (fun r2 => ?_)
  refine ji_icmp_le 78 (pc := 71) r1 r2 hF dX11_lackOfSeven_71 rfl (fun hF => ?_) (fun hF => ?_)
  · refine ji_iconst (pc := 78) dX11_lackOfSeven_78 ?_
    refine ji_iload_n (n := 3) (pc := 79) t0 rfl rfl rfl dX11_lackOfSeven_79 (fun r3 => ?_)
    refine ji_imul (pc := 80)  hF dX11_lackOfSeven_80 (fun x4 r_x4 hF => ?_)
    refine ji_iload_n (n := 2) (pc := 81) l2 rfl rfl rfl dX11_lackOfSeven_81 (fun r5 => ?_)
    refine ji_isub (pc := 82)  hF dX11_lackOfSeven_82 (fun x6 r_x6 hF => ?_)
    exact ji_reti (pc := 83) rfl r_x6 hF dX11_lackOfSeven_83
  · refine ji_iload_n (n := 3) (pc := 74) t0 rfl rfl rfl dX11_lackOfSeven_74 (fun r7 => ?_)
    refine jg_goto (pc := 75) 83 dX11_lackOfSeven_75 rfl ?_
    exact ji_reti (pc := 83) rfl r7 hF dX11_lackOfSeven_83
set_option maxRecDepth 100000 in
set_option maxHeartbeats 4000000 in
theorem obX11_lackOfSeven_54 {E : jEnv} {Rr : Int → jMem → Prop} : ∀ (l1 l2 : Int) (s : jMem), jHo Rr (bX11_lackOfSeven_54 l1 l2 s) → jGo E MX11_lackOfSeven 0 Rr [0, 1, 1, 0] 54 [0, l1, l2, 0] ([]) s := by
  intro l1 l2 s0 hF
  unfold bX11_lackOfSeven_54 at hF
  refine ji_iload_n (n := 1) (pc := 54) l1 rfl rfl rfl dX11_lackOfSeven_54 (fun r1 => ?_)
  refine jg_bipush (pc := 55) rfl dX11_lackOfSeven_55 ?_
  refine ji_icmp_le 64 (pc := 57) r1 (jRc rfl) hF dX11_lackOfSeven_57 rfl (fun hF => ?_) (fun hF => ?_)
  · refine jg_bipush (pc := 64) rfl dX11_lackOfSeven_64 ?_
    refine ji_iload_n (n := 1) (pc := 66) l1 rfl rfl rfl dX11_lackOfSeven_66 (fun r2 => ?_)
    refine ji_isub (pc := 67)  hF dX11_lackOfSeven_67 (fun x3 r_x3 hF => ?_)
    refine jg_norm [0, 0, 1, 0] [0, 0, l2, 0] rfl rfl ?_
    exact obX11_lackOfSeven_68 _ _ _ r_x3 hF
  · refine ji_iconst (pc := 60) dX11_lackOfSeven_60 ?_
    refine jg_goto (pc := 61) 68 dX11_lackOfSeven_61 rfl ?_
    refine jg_norm [0, 0, 1, 0] [0, 0, l2, 0] rfl rfl ?_
    exact obX11_lackOfSeven_68 _ _ _ (jRc rfl) hF
set_option maxRecDepth 100000 in
set_option maxHeartbeats 4000000 in
theorem oX11_lackOfSeven : jOk MX11_lackOfSeven [3] 0 (jFn gX11_lackOfSeven) := by
  refine jOk_fn (by decide +kernel) (Nat.le_of_ble_eq_true rfl) (by decide +kernel) (.inr (.inl rfl)) ?_
  intro E vs s0 Rr hF ha
  obtain ⟨l0, t0, rfl, r_l0, ha⟩ := jRa_ci ha
  obtain rfl := jRa_ni ha
  replace hF : jHo Rr (jGd (l0 = 53) <| fX11_lackOfSeven s0) := hF
  have hG := jHo_as hF
  clear hF
  obtain ⟨rfl, hF⟩ := hG
  refine jg_norm [3, 0, 0, 0] [53, 0, 0, 0] rfl rfl ?_
  unfold fX11_lackOfSeven at hF
  refine ji_iconst (pc := 0) dX11_lackOfSeven_0 ?_
  refine ji_istore_n (n := 1) (pc := 1) [3, 1, 0, 0] [53, 0, 0, 0] rfl (jRc rfl) (Nat.le_of_ble_eq_true rfl) rfl rfl dX11_lackOfSeven_1 ?_
  refine ji_iconst (pc := 2) dX11_lackOfSeven_2 ?_
  refine ji_istore_n (n := 2) (pc := 3) [3, 1, 1, 0] [53, 0, 0, 0] rfl (jRc rfl) (Nat.le_of_ble_eq_true rfl) rfl rfl dX11_lackOfSeven_3 ?_
  refine ji_iconst (pc := 4) dX11_lackOfSeven_4 ?_
  refine ji_istore_n (n := 3) (pc := 5) [3, 1, 1, 1] [53, 0, 0, 0] rfl (jRc rfl) (Nat.le_of_ble_eq_true rfl) rfl rfl dX11_lackOfSeven_5 ?_
  refine jg_norm [3, 1, 1, 1] [53, 0, 0, 0] rfl rfl ?_
  exact obX11_lackOfSeven_6W obX11_lackOfSeven_54 1000 _ _ _ _ hF
def bX11_lackOfOuter_31 (k32 : Int → Int → Int → jMem → jO) (l2 t0 : Int) (s0 : jMem) : jO :=
k32 l2 t0 0 s0
def bX11_lackOfOuter_32 (k4 : Int → Int → jMem → jO) (l2 t0 t1 : Int) (s0 : jMem) : jO :=
jLet (j32 (t0 + t1)) fun x1 =>
jLet (j32 (l2 + 1)) fun x2 =>
k4 x1 x2 s0
def bX11_lackOfOuter_4 (k40 : Int → jMem → jO) (rec : Int → Int → jMem → jO) (l1 l2 : Int) (s0 : jMem) : jO :=
if 34 ≤ l2 then (
k40 l1 s0)
else (
jBd (fX11_isOuter l2 s0) fun x4 s5 =>
if x4 = 0 then (
bX11_lackOfOuter_31 (bX11_lackOfOuter_32 rec) l2 l1 s5)
else (
jGd ((0 : Int) ≤ l2 ∧ l2 < jik 68) <| jLet (s5 68 l2) fun x8 =>
if x8 = 0 then (
bX11_lackOfOuter_32 rec l2 l1 1 s5)
else (
bX11_lackOfOuter_31 (bX11_lackOfOuter_32 rec) l2 l1 s5)))
def bX11_lackOfOuter_71 (k76 : Int → Int → Int → jMem → jO) (l1 l3 : Int) (s0 : jMem) : jO :=
k76 l1 l3 1 s0
def bX11_lackOfOuter_75 (k76 : Int → Int → Int → jMem → jO) (l1 l3 : Int) (s0 : jMem) : jO :=
k76 l1 l3 0 s0
def bX11_lackOfOuter_76 (k44 : Int → Int → Int → jMem → jO) (l1 l3 t0 : Int) (s0 : jMem) : jO :=
jLet (j32 (l3 + 1)) fun x1 =>
k44 l1 t0 x1 s0
def bX11_lackOfOuter_44 (k83 : Int → Int → jMem → jO) (rec : Int → Int → Int → jMem → jO) (l1 l2 l3 : Int) (s0 : jMem) : jO :=
if 34 ≤ l3 then (
k83 l1 l2 s0)
else (
if l2 = 0 then (
jBd (fX11_isOuter l3 s0) fun x4 s5 =>
if x4 = 0 then (
bX11_lackOfOuter_75 (bX11_lackOfOuter_76 rec) l1 l3 s5)
else (
jGd ((0 : Int) ≤ l3 ∧ l3 < jik 68) <| jLet (s5 68 l3) fun x8 =>
if x8 ≤ 1 then (
bX11_lackOfOuter_75 (bX11_lackOfOuter_76 rec) l1 l3 s5)
else (
bX11_lackOfOuter_71 (bX11_lackOfOuter_76 rec) l1 l3 s5)))
else (
bX11_lackOfOuter_71 (bX11_lackOfOuter_76 rec) l1 l3 s0))
def bX11_lackOfOuter_83 (l1 l2 : Int) (s0 : jMem) : jO :=
if l2 = 0 then (
jRet l1 s0)
else (
jLet (j32 (l1 - 1)) fun x4 =>
jRet x4 s0)
def bX11_lackOfOuter_40 (l1 : Int) (s0 : jMem) : jO :=
jIt (fun _ _ _ _ => none) (bX11_lackOfOuter_44 bX11_lackOfOuter_83) 1000 l1 0 0 s0
def fX11_lackOfOuter (s0 : jMem) : jO :=
jIt (fun _ _ _ => none) (bX11_lackOfOuter_4 bX11_lackOfOuter_40) 1000 1 0 s0
def gX11_lackOfOuter (vs : List Int) (s : jMem) : jO := match vs with
  | [a0] => jGd (a0 = 53) <| fX11_lackOfOuter s
  | _ => none
set_option maxRecDepth 100000 in
set_option maxHeartbeats 4000000 in
theorem obX11_lackOfOuter_31 {E : jEnv} {Rr : Int → jMem → Prop} {k32 : Int → Int → Int → jMem → jO} (hk32 : ∀ (l2 t0 t1 : Int) (s : jMem), jR 1 t0 → jR 1 t1 → jHo Rr (k32 l2 t0 t1 s) → jGo E MX11_lackOfOuter 1 Rr [3, 0, 1, 0] 32 [53, 0, l2, 0] (jV E 1 t1 :: jV E 1 t0 :: []) s) : ∀ (l2 t0 : Int) (s : jMem), jR 1 t0 → jHo Rr (bX11_lackOfOuter_31 k32 l2 t0 s) → jGo E MX11_lackOfOuter 1 Rr [3, 0, 1, 0] 31 [53, 0, l2, 0] (jV E 1 t0 :: []) s := by
  intro l2 t0 s0 r_t0 hF
  unfold bX11_lackOfOuter_31 at hF
  refine ji_iconst (pc := 31) dX11_lackOfOuter_31 ?_
  refine jg_norm [3, 0, 1, 0] [53, 0, l2, 0] rfl rfl ?_
  exact hk32 _ _ _ _ r_t0 (jRc rfl) hF
set_option maxRecDepth 100000 in
set_option maxHeartbeats 4000000 in
theorem obX11_lackOfOuter_32 {E : jEnv} {Rr : Int → jMem → Prop} {k4 : Int → Int → jMem → jO} (hk4 : ∀ (l1 l2 : Int) (s : jMem), jHo Rr (k4 l1 l2 s) → jGo E MX11_lackOfOuter 1 Rr [3, 1, 1, 0] 4 [53, l1, l2, 0] ([]) s) : ∀ (l2 t0 t1 : Int) (s : jMem), jR 1 t0 → jR 1 t1 → jHo Rr (bX11_lackOfOuter_32 k4 l2 t0 t1 s) → jGo E MX11_lackOfOuter 1 Rr [3, 0, 1, 0] 32 [53, 0, l2, 0] (jV E 1 t1 :: jV E 1 t0 :: []) s := by
  intro l2 t0 t1 s0 r_t0 r_t1 hF
  unfold bX11_lackOfOuter_32 at hF
  refine ji_iadd (pc := 32)  hF dX11_lackOfOuter_32 (fun x1 r_x1 hF => ?_)
  refine ji_istore_n (n := 1) (pc := 33) [3, 1, 1, 0] [53, x1, l2, 0] rfl r_x1 (Nat.le_of_ble_eq_true rfl) rfl rfl dX11_lackOfOuter_33 ?_
  refine ji_iinc (pc := 34) l2 (fun w => [53, x1, w, 0]) rfl rfl rfl (fun _ => rfl) hF dX11_lackOfOuter_34 (fun x2 r_x2 hF => ?_)
  refine jg_goto (pc := 37) 4 dX11_lackOfOuter_37 rfl ?_
  refine jg_norm [3, 1, 1, 0] [53, x1, x2, 0] rfl rfl ?_
  exact hk4 _ _ _ hF
set_option maxRecDepth 100000 in
set_option maxHeartbeats 4000000 in
theorem obX11_lackOfOuter_4 {E : jEnv} {Rr : Int → jMem → Prop} {k40 : Int → jMem → jO} (hk40 : ∀ (l1 : Int) (s : jMem), jHo Rr (k40 l1 s) → jGo E MX11_lackOfOuter 1 Rr [3, 1, 0, 0] 40 [53, l1, 0, 0] ([]) s) {rec : Int → Int → jMem → jO} (hrec : ∀ (l1 l2 : Int) (s : jMem), jHo Rr (rec l1 l2 s) → jGo E MX11_lackOfOuter 1 Rr [3, 1, 1, 0] 4 [53, l1, l2, 0] ([]) s) : ∀ (l1 l2 : Int) (s : jMem), jHo Rr (bX11_lackOfOuter_4 k40 rec l1 l2 s) → jGo E MX11_lackOfOuter 1 Rr [3, 1, 1, 0] 4 [53, l1, l2, 0] ([]) s := by
  intro l1 l2 s0 hF
  unfold bX11_lackOfOuter_4 at hF
  refine ji_iload_n (n := 2) (pc := 4) l2 rfl rfl rfl dX11_lackOfOuter_4 (fun r1 => ?_)
  refine jg_bipush (pc := 5) rfl dX11_lackOfOuter_5 ?_
  refine ji_icmp_ge 40 (pc := 7) r1 (jRc rfl) hF dX11_lackOfOuter_7 rfl (fun hF => ?_) (fun hF => ?_)
  · refine jg_norm [3, 1, 0, 0] [53, l1, 0, 0] rfl rfl ?_
    exact hk40 _ _ hF
  · refine ji_iload_n (n := 1) (pc := 10) l1 rfl rfl rfl dX11_lackOfOuter_10 (fun r2 => ?_)
    refine ji_iload_n (n := 2) (pc := 11) l2 rfl rfl rfl dX11_lackOfOuter_11 (fun r3 => ?_)
    refine ji_callSz (pc := 12) [l2] (jV E 1 l1 :: []) oX11_isOuter wlX11_162 wmX11_isOuter rfl rfl (Nat.le_of_ble_eq_true rfl) (jRaC r3 jRa0) rfl rfl (Nat.le_of_ble_eq_true rfl) hF dX11_lackOfOuter_12 (fun x4 s5 r_x4 hF => ?_)
    refine ji_if_eq 31 (pc := 15) (jR51 r_x4) hF dX11_lackOfOuter_15 rfl (fun hF => ?_) (fun hF => ?_)
    · refine jg_norm [3, 0, 1, 0] [53, 0, l2, 0] rfl rfl ?_
      exact obX11_lackOfOuter_31 (obX11_lackOfOuter_32 hrec) _ _ _ r2 hF
    · refine ji_aload_n (n := 0) (pc := 18) 53 rfl rfl rfl dX11_lackOfOuter_18 (fun r6 => ?_)
      refine ji_getr (pc := 19) 68 wfX11_56 (jRc3 rfl) jcl_53 jrf_53_18 dX11_lackOfOuter_19 ?_
      refine ji_iload_n (n := 2) (pc := 22) l2 rfl rfl rfl dX11_lackOfOuter_22 (fun r7 => ?_)
      refine ji_iaload (pc := 23) (jRc3 rfl) r7 hF dX11_lackOfOuter_23 (fun x8 r_x8 hF => ?_)
      refine ji_if_ne 31 (pc := 24) r_x8 hF dX11_lackOfOuter_24 rfl (fun hF => ?_) (fun hF => ?_)
      · refine jg_norm [3, 0, 1, 0] [53, 0, l2, 0] rfl rfl ?_
        exact obX11_lackOfOuter_31 (obX11_lackOfOuter_32 hrec) _ _ _ r2 hF
      · refine ji_iconst (pc := 27) dX11_lackOfOuter_27 ?_
        refine jg_goto (pc := 28) 32 dX11_lackOfOuter_28 rfl ?_
        refine jg_norm [3, 0, 1, 0] [53, 0, l2, 0] rfl rfl ?_
        exact obX11_lackOfOuter_32 hrec _ _ _ _ r2 (jRc rfl) hF
theorem obX11_lackOfOuter_4W {E : jEnv} {Rr : Int → jMem → Prop} {k40 : Int → jMem → jO} (hk40 : ∀ (l1 : Int) (s : jMem), jHo Rr (k40 l1 s) → jGo E MX11_lackOfOuter 1 Rr [3, 1, 0, 0] 40 [53, l1, 0, 0] ([]) s) : ∀ n : Nat, ∀ (l1 l2 : Int) (s : jMem), jHo Rr (jIt (fun _ _ _ => none) (bX11_lackOfOuter_4 k40) n l1 l2 s) → jGo E MX11_lackOfOuter 1 Rr [3, 1, 1, 0] 4 [53, l1, l2, 0] ([]) s := by
  intro n
  induction n with
  | zero => intro l1 l2 s hF; exact jHo_none hF
  | succ n ih => exact obX11_lackOfOuter_4 hk40 ih

set_option maxRecDepth 100000 in
set_option maxHeartbeats 4000000 in
theorem obX11_lackOfOuter_71 {E : jEnv} {Rr : Int → jMem → Prop} {k76 : Int → Int → Int → jMem → jO} (hk76 : ∀ (l1 l3 t0 : Int) (s : jMem), jR 1 t0 → jHo Rr (k76 l1 l3 t0 s) → jGo E MX11_lackOfOuter 1 Rr [3, 1, 0, 1] 76 [53, l1, 0, l3] (jV E 1 t0 :: []) s) : ∀ (l1 l3 : Int) (s : jMem), jHo Rr (bX11_lackOfOuter_71 k76 l1 l3 s) → jGo E MX11_lackOfOuter 1 Rr [3, 1, 0, 1] 71 [53, l1, 0, l3] ([]) s := by
  intro l1 l3 s0 hF
  unfold bX11_lackOfOuter_71 at hF
  refine ji_iconst (pc := 71) dX11_lackOfOuter_71 ?_
  refine jg_goto (pc := 72) 76 dX11_lackOfOuter_72 rfl ?_
  refine jg_norm [3, 1, 0, 1] [53, l1, 0, l3] rfl rfl ?_
  exact hk76 _ _ _ _ (jRc rfl) hF
set_option maxRecDepth 100000 in
set_option maxHeartbeats 4000000 in
theorem obX11_lackOfOuter_75 {E : jEnv} {Rr : Int → jMem → Prop} {k76 : Int → Int → Int → jMem → jO} (hk76 : ∀ (l1 l3 t0 : Int) (s : jMem), jR 1 t0 → jHo Rr (k76 l1 l3 t0 s) → jGo E MX11_lackOfOuter 1 Rr [3, 1, 0, 1] 76 [53, l1, 0, l3] (jV E 1 t0 :: []) s) : ∀ (l1 l3 : Int) (s : jMem), jHo Rr (bX11_lackOfOuter_75 k76 l1 l3 s) → jGo E MX11_lackOfOuter 1 Rr [3, 1, 0, 1] 75 [53, l1, 0, l3] ([]) s := by
  intro l1 l3 s0 hF
  unfold bX11_lackOfOuter_75 at hF
  refine ji_iconst (pc := 75) dX11_lackOfOuter_75 ?_
  refine jg_norm [3, 1, 0, 1] [53, l1, 0, l3] rfl rfl ?_
  exact hk76 _ _ _ _ (jRc rfl) hF
set_option maxRecDepth 100000 in
set_option maxHeartbeats 4000000 in
theorem obX11_lackOfOuter_76 {E : jEnv} {Rr : Int → jMem → Prop} {k44 : Int → Int → Int → jMem → jO} (hk44 : ∀ (l1 l2 l3 : Int) (s : jMem), jHo Rr (k44 l1 l2 l3 s) → jGo E MX11_lackOfOuter 1 Rr [3, 1, 1, 1] 44 [53, l1, l2, l3] ([]) s) : ∀ (l1 l3 t0 : Int) (s : jMem), jR 1 t0 → jHo Rr (bX11_lackOfOuter_76 k44 l1 l3 t0 s) → jGo E MX11_lackOfOuter 1 Rr [3, 1, 0, 1] 76 [53, l1, 0, l3] (jV E 1 t0 :: []) s := by
  intro l1 l3 t0 s0 r_t0 hF
  unfold bX11_lackOfOuter_76 at hF
  refine ji_istore_n (n := 2) (pc := 76) [3, 1, 1, 1] [53, l1, t0, l3] rfl r_t0 (Nat.le_of_ble_eq_true rfl) rfl rfl dX11_lackOfOuter_76 ?_
  refine ji_iinc (pc := 77) l3 (fun w => [53, l1, t0, w]) rfl rfl rfl (fun _ => rfl) hF dX11_lackOfOuter_77 (fun x1 r_x1 hF => ?_)
  refine jg_goto (pc := 80) 44 dX11_lackOfOuter_80 rfl ?_
  refine jg_norm [3, 1, 1, 1] [53, l1, t0, x1] rfl rfl ?_
  exact hk44 _ _ _ _ hF
set_option maxRecDepth 100000 in
set_option maxHeartbeats 4000000 in
theorem obX11_lackOfOuter_44 {E : jEnv} {Rr : Int → jMem → Prop} {k83 : Int → Int → jMem → jO} (hk83 : ∀ (l1 l2 : Int) (s : jMem), jHo Rr (k83 l1 l2 s) → jGo E MX11_lackOfOuter 1 Rr [0, 1, 1, 0] 83 [0, l1, l2, 0] ([]) s) {rec : Int → Int → Int → jMem → jO} (hrec : ∀ (l1 l2 l3 : Int) (s : jMem), jHo Rr (rec l1 l2 l3 s) → jGo E MX11_lackOfOuter 1 Rr [3, 1, 1, 1] 44 [53, l1, l2, l3] ([]) s) : ∀ (l1 l2 l3 : Int) (s : jMem), jHo Rr (bX11_lackOfOuter_44 k83 rec l1 l2 l3 s) → jGo E MX11_lackOfOuter 1 Rr [3, 1, 1, 1] 44 [53, l1, l2, l3] ([]) s := by
  intro l1 l2 l3 s0 hF
  unfold bX11_lackOfOuter_44 at hF
  refine ji_iload_n (n := 3) (pc := 44) l3 rfl rfl rfl dX11_lackOfOuter_44 (fun r1 => ?_)
  refine jg_bipush (pc := 45) rfl dX11_lackOfOuter_45 ?_
  refine ji_icmp_ge 83 (pc := 47) r1 (jRc rfl) hF dX11_lackOfOuter_47 rfl (fun hF => ?_) (fun hF => ?_)
  · refine jg_norm [0, 1, 1, 0] [0, l1, l2, 0] rfl rfl ?_
    exact hk83 _ _ _ hF
  · refine ji_iload_n (n := 2) (pc := 50) l2 rfl rfl rfl dX11_lackOfOuter_50 (fun r2 => ?_)
    refine ji_if_ne 71 (pc := 51) r2 hF dX11_lackOfOuter_51 rfl (fun hF => ?_) (fun hF => ?_)
    · refine jg_norm [3, 1, 0, 1] [53, l1, 0, l3] rfl rfl ?_
      exact obX11_lackOfOuter_71 (obX11_lackOfOuter_76 hrec) _ _ _ hF
    · refine ji_iload_n (n := 3) (pc := 54) l3 rfl rfl rfl dX11_lackOfOuter_54 (fun r3 => ?_)
      refine ji_callSz (pc := 55) [l3] ([]) oX11_isOuter wlX11_162 wmX11_isOuter rfl rfl (Nat.le_of_ble_eq_true rfl) (jRaC r3 jRa0) rfl rfl (Nat.le_of_ble_eq_true rfl) hF dX11_lackOfOuter_55 (fun x4 s5 r_x4 hF => ?_)
      refine ji_if_eq 75 (pc := 58) (jR51 r_x4) hF dX11_lackOfOuter_58 rfl (fun hF => ?_) (fun hF => ?_)
      · refine jg_norm [3, 1, 0, 1] [53, l1, 0, l3] rfl rfl ?_
        exact obX11_lackOfOuter_75 (obX11_lackOfOuter_76 hrec) _ _ _ hF
      · refine ji_aload_n (n := 0) (pc := 61) 53 rfl rfl rfl dX11_lackOfOuter_61 (fun r6 => ?_)
        refine ji_getr (pc := 62) 68 wfX11_56 (jRc3 rfl) jcl_53 jrf_53_18 dX11_lackOfOuter_62 ?_
        refine ji_iload_n (n := 3) (pc := 65) l3 rfl rfl rfl dX11_lackOfOuter_65 (fun r7 => ?_)
        refine ji_iaload (pc := 66) (jRc3 rfl) r7 hF dX11_lackOfOuter_66 (fun x8 r_x8 hF => ?_)
        refine ji_iconst (pc := 67) dX11_lackOfOuter_67 ?_
        refine ji_icmp_le 75 (pc := 68) r_x8 (jRc rfl) hF dX11_lackOfOuter_68 rfl (fun hF => ?_) (fun hF => ?_)
        · refine jg_norm [3, 1, 0, 1] [53, l1, 0, l3] rfl rfl ?_
          exact obX11_lackOfOuter_75 (obX11_lackOfOuter_76 hrec) _ _ _ hF
        · refine jg_norm [3, 1, 0, 1] [53, l1, 0, l3] rfl rfl ?_
          exact obX11_lackOfOuter_71 (obX11_lackOfOuter_76 hrec) _ _ _ hF
theorem obX11_lackOfOuter_44W {E : jEnv} {Rr : Int → jMem → Prop} {k83 : Int → Int → jMem → jO} (hk83 : ∀ (l1 l2 : Int) (s : jMem), jHo Rr (k83 l1 l2 s) → jGo E MX11_lackOfOuter 1 Rr [0, 1, 1, 0] 83 [0, l1, l2, 0] ([]) s) : ∀ n : Nat, ∀ (l1 l2 l3 : Int) (s : jMem), jHo Rr (jIt (fun _ _ _ _ => none) (bX11_lackOfOuter_44 k83) n l1 l2 l3 s) → jGo E MX11_lackOfOuter 1 Rr [3, 1, 1, 1] 44 [53, l1, l2, l3] ([]) s := by
  intro n
  induction n with
  | zero => intro l1 l2 l3 s hF; exact jHo_none hF
  | succ n ih => exact obX11_lackOfOuter_44 hk83 ih

set_option maxRecDepth 100000 in
set_option maxHeartbeats 4000000 in
theorem obX11_lackOfOuter_83 {E : jEnv} {Rr : Int → jMem → Prop} : ∀ (l1 l2 : Int) (s : jMem), jHo Rr (bX11_lackOfOuter_83 l1 l2 s) → jGo E MX11_lackOfOuter 1 Rr [0, 1, 1, 0] 83 [0, l1, l2, 0] ([]) s := by
  intro l1 l2 s0 hF
  unfold bX11_lackOfOuter_83 at hF
  refine ji_iload_n (n := 2) (pc := 83) l2 rfl rfl rfl dX11_lackOfOuter_83 (fun r1 => ?_)
  refine ji_if_eq 93 (pc := 84) r1 hF dX11_lackOfOuter_84 rfl (fun hF => ?_) (fun hF => ?_)
  · refine ji_iload_n (n := 1) (pc := 93) l1 rfl rfl rfl dX11_lackOfOuter_93 (fun r2 => ?_)
    exact ji_reti (pc := 94) rfl r2 hF dX11_lackOfOuter_94
  · refine ji_iload_n (n := 1) (pc := 87) l1 rfl rfl rfl dX11_lackOfOuter_87 (fun r3 => ?_)
    refine ji_iconst (pc := 88) dX11_lackOfOuter_88 ?_
    refine ji_isub (pc := 89)  hF dX11_lackOfOuter_89 (fun x4 r_x4 hF => ?_)
    refine jg_goto (pc := 90) 94 dX11_lackOfOuter_90 rfl ?_
    exact ji_reti (pc := 94) rfl r_x4 hF dX11_lackOfOuter_94
set_option maxRecDepth 100000 in
set_option maxHeartbeats 4000000 in
theorem obX11_lackOfOuter_40 {E : jEnv} {Rr : Int → jMem → Prop} : ∀ (l1 : Int) (s : jMem), jHo Rr (bX11_lackOfOuter_40 l1 s) → jGo E MX11_lackOfOuter 1 Rr [3, 1, 0, 0] 40 [53, l1, 0, 0] ([]) s := by
  intro l1 s0 hF
  unfold bX11_lackOfOuter_40 at hF
  refine ji_iconst (pc := 40) dX11_lackOfOuter_40 ?_
  refine ji_istore_n (n := 2) (pc := 41) [3, 1, 1, 0] [53, l1, 0, 0] rfl (jRc rfl) (Nat.le_of_ble_eq_true rfl) rfl rfl dX11_lackOfOuter_41 ?_
  refine ji_iconst (pc := 42) dX11_lackOfOuter_42 ?_
  refine ji_istore_n (n := 3) (pc := 43) [3, 1, 1, 1] [53, l1, 0, 0] rfl (jRc rfl) (Nat.le_of_ble_eq_true rfl) rfl rfl dX11_lackOfOuter_43 ?_
  refine jg_norm [3, 1, 1, 1] [53, l1, 0, 0] rfl rfl ?_
  exact obX11_lackOfOuter_44W obX11_lackOfOuter_83 1000 _ _ _ _ hF
set_option maxRecDepth 100000 in
set_option maxHeartbeats 4000000 in
theorem oX11_lackOfOuter : jOk MX11_lackOfOuter [3] 1 (jFn gX11_lackOfOuter) := by
  refine jOk_fn (by decide +kernel) (Nat.le_of_ble_eq_true rfl) (by decide +kernel) (.inr (.inl rfl)) ?_
  intro E vs s0 Rr hF ha
  obtain ⟨l0, t0, rfl, r_l0, ha⟩ := jRa_ci ha
  obtain rfl := jRa_ni ha
  replace hF : jHo Rr (jGd (l0 = 53) <| fX11_lackOfOuter s0) := hF
  have hG := jHo_as hF
  clear hF
  obtain ⟨rfl, hF⟩ := hG
  refine jg_norm [3, 0, 0, 0] [53, 0, 0, 0] rfl rfl ?_
  unfold fX11_lackOfOuter at hF
  refine ji_iconst (pc := 0) dX11_lackOfOuter_0 ?_
  refine ji_istore_n (n := 1) (pc := 1) [3, 1, 0, 0] [53, 1, 0, 0] rfl (jRc rfl) (Nat.le_of_ble_eq_true rfl) rfl rfl dX11_lackOfOuter_1 ?_
  refine ji_iconst (pc := 2) dX11_lackOfOuter_2 ?_
  refine ji_istore_n (n := 2) (pc := 3) [3, 1, 1, 0] [53, 1, 0, 0] rfl (jRc rfl) (Nat.le_of_ble_eq_true rfl) rfl rfl dX11_lackOfOuter_3 ?_
  refine jg_norm [3, 1, 1, 0] [53, 1, 0, 0] rfl rfl ?_
  exact obX11_lackOfOuter_4W obX11_lackOfOuter_40 1000 _ _ _ hF
def bX11_lackOf_32 (l1 : Int) (s0 : jMem) : jO :=
jLet (s0 53 20) fun x2 =>
if x2 = 0 then (
jLet (s0 53 11) fun x5 =>
if x5 = 0 then (
jRet l1 s0)
else (
jBd (fX11_lackOfOuter s0) fun x8 s9 =>
if l1 ≤ x8 then (
jRet l1 s9)
else (
jBd (fX11_lackOfOuter s9) fun x13 s14 =>
jRet x13 s14)))
else (
jRet l1 s0)
def fX11_lackOf (s0 : jMem) : jO :=
jBd (fX11_lackByWay s0) fun x2 s3 =>
jLet (s3 53 20) fun x5 =>
if x5 = 0 then (
jLet (s3 53 10) fun x7 =>
if x7 = 0 then (
bX11_lackOf_32 x2 s3)
else (
jBd (fX11_lackOfSeven s3) fun x9 s10 =>
if x2 ≤ x9 then (
bX11_lackOf_32 x2 s10)
else (
jBd (fX11_lackOfSeven s10) fun x13 s14 =>
bX11_lackOf_32 x13 s14)))
else (
bX11_lackOf_32 x2 s3)
def gX11_lackOf (vs : List Int) (s : jMem) : jO := match vs with
  | [a0] => jGd (a0 = 53) <| fX11_lackOf s
  | _ => none
set_option maxRecDepth 100000 in
set_option maxHeartbeats 4000000 in
theorem obX11_lackOf_32 {E : jEnv} {Rr : Int → jMem → Prop} : ∀ (l1 : Int) (s : jMem), jHo Rr (bX11_lackOf_32 l1 s) → jGo E MX11_lackOf 2 Rr [3, 1] 32 [53, l1] ([]) s := by
  intro l1 s0 hF
  unfold bX11_lackOf_32 at hF
  refine ji_aload_n (n := 0) (pc := 32) 53 rfl rfl rfl dX11_lackOf_32 (fun r1 => ?_)
  refine ji_getfi (pc := 33) wfX11_158 (jRc3 rfl) jcl_53 hF dX11_lackOf_33 (fun x2 r_x2 hF => ?_)
  refine ji_if_ne 59 (pc := 36) r_x2 hF dX11_lackOf_36 rfl (fun hF => ?_) (fun hF => ?_)
  · refine ji_iload_n (n := 1) (pc := 59) l1 rfl rfl rfl dX11_lackOf_59 (fun r3 => ?_)
    exact ji_reti (pc := 60) rfl r3 hF dX11_lackOf_60
  · refine ji_aload_n (n := 0) (pc := 39) 53 rfl rfl rfl dX11_lackOf_39 (fun r4 => ?_)
    refine ji_getfz (pc := 40) wfX11_155 (jRc3 rfl) jcl_53 hF dX11_lackOf_40 (fun x5 r_x5 hF => ?_)
    refine ji_if_eq 59 (pc := 43) (jR51 r_x5) hF dX11_lackOf_43 rfl (fun hF => ?_) (fun hF => ?_)
    · refine ji_iload_n (n := 1) (pc := 59) l1 rfl rfl rfl dX11_lackOf_59 (fun r6 => ?_)
      exact ji_reti (pc := 60) rfl r6 hF dX11_lackOf_60
    · refine ji_aload_n (n := 0) (pc := 46) 53 rfl rfl rfl dX11_lackOf_46 (fun r7 => ?_)
      refine ji_callVi (pc := 47) 53 [] ([]) oX11_lackOfOuter wlX11_220 wmX11_lackOfOuter rfl rfl (Nat.le_of_ble_eq_true rfl) (jRaC (jRc3 rfl) jRa0) rfl jcl_53 rfl (Nat.le_of_ble_eq_true rfl) hF dX11_lackOf_47 (fun x8 s9 r_x8 hF => ?_)
      refine ji_iload_n (n := 1) (pc := 50) l1 rfl rfl rfl dX11_lackOf_50 (fun r10 => ?_)
      refine ji_icmp_ge 59 (pc := 51) r_x8 r10 hF dX11_lackOf_51 rfl (fun hF => ?_) (fun hF => ?_)
      · refine ji_iload_n (n := 1) (pc := 59) l1 rfl rfl rfl dX11_lackOf_59 (fun r11 => ?_)
        exact ji_reti (pc := 60) rfl r11 hF dX11_lackOf_60
      · refine ji_aload_n (n := 0) (pc := 54) 53 rfl rfl rfl dX11_lackOf_54 (fun r12 => ?_)
        refine ji_callVi (pc := 55) 53 [] ([]) oX11_lackOfOuter wlX11_220 wmX11_lackOfOuter rfl rfl (Nat.le_of_ble_eq_true rfl) (jRaC (jRc3 rfl) jRa0) rfl jcl_53 rfl (Nat.le_of_ble_eq_true rfl) hF dX11_lackOf_55 (fun x13 s14 r_x13 hF => ?_)
        refine ji_istore_n (n := 1) (pc := 58) [3, 1] [53, x13] rfl r_x13 (Nat.le_of_ble_eq_true rfl) rfl rfl dX11_lackOf_58 ?_
        refine ji_iload_n (n := 1) (pc := 59) x13 rfl rfl rfl dX11_lackOf_59 (fun r15 => ?_)
        exact ji_reti (pc := 60) rfl r15 hF dX11_lackOf_60
set_option maxRecDepth 100000 in
set_option maxHeartbeats 4000000 in
theorem oX11_lackOf : jOk MX11_lackOf [3] 2 (jFn gX11_lackOf) := by
  refine jOk_fn (by decide +kernel) (Nat.le_of_ble_eq_true rfl) (by decide +kernel) (.inr (.inl rfl)) ?_
  intro E vs s0 Rr hF ha
  obtain ⟨l0, t0, rfl, r_l0, ha⟩ := jRa_ci ha
  obtain rfl := jRa_ni ha
  replace hF : jHo Rr (jGd (l0 = 53) <| fX11_lackOf s0) := hF
  have hG := jHo_as hF
  clear hF
  obtain ⟨rfl, hF⟩ := hG
  refine jg_norm [3, 0] [53, 0] rfl rfl ?_
  unfold fX11_lackOf at hF
  refine ji_aload_n (n := 0) (pc := 0) 53 rfl rfl rfl dX11_lackOf_0 (fun r1 => ?_)
  refine ji_callVi (pc := 1) 53 [] ([]) oX11_lackByWay wlX11_214 wmX11_lackByWay rfl rfl (Nat.le_of_ble_eq_true rfl) (jRaC (jRc3 rfl) jRa0) rfl jcl_53 rfl (Nat.le_of_ble_eq_true rfl) hF dX11_lackOf_1 (fun x2 s3 r_x2 hF => ?_)
  refine ji_istore_n (n := 1) (pc := 4) [3, 1] [53, x2] rfl r_x2 (Nat.le_of_ble_eq_true rfl) rfl rfl dX11_lackOf_4 ?_
  refine ji_aload_n (n := 0) (pc := 5) 53 rfl rfl rfl dX11_lackOf_5 (fun r4 => ?_)
  refine ji_getfi (pc := 6) wfX11_158 (jRc3 rfl) jcl_53 hF dX11_lackOf_6 (fun x5 r_x5 hF => ?_)
  refine ji_if_ne 32 (pc := 9) r_x5 hF dX11_lackOf_9 rfl (fun hF => ?_) (fun hF => ?_)
  · refine jg_norm [3, 1] [53, x2] rfl rfl ?_
    exact obX11_lackOf_32 _ _ hF
  · refine ji_aload_n (n := 0) (pc := 12) 53 rfl rfl rfl dX11_lackOf_12 (fun r6 => ?_)
    refine ji_getfz (pc := 13) wfX11_151 (jRc3 rfl) jcl_53 hF dX11_lackOf_13 (fun x7 r_x7 hF => ?_)
    refine ji_if_eq 32 (pc := 16) (jR51 r_x7) hF dX11_lackOf_16 rfl (fun hF => ?_) (fun hF => ?_)
    · refine jg_norm [3, 1] [53, x2] rfl rfl ?_
      exact obX11_lackOf_32 _ _ hF
    · refine ji_aload_n (n := 0) (pc := 19) 53 rfl rfl rfl dX11_lackOf_19 (fun r8 => ?_)
      refine ji_callVi (pc := 20) 53 [] ([]) oX11_lackOfSeven wlX11_217 wmX11_lackOfSeven rfl rfl (Nat.le_of_ble_eq_true rfl) (jRaC (jRc3 rfl) jRa0) rfl jcl_53 rfl (Nat.le_of_ble_eq_true rfl) hF dX11_lackOf_20 (fun x9 s10 r_x9 hF => ?_)
      refine ji_iload_n (n := 1) (pc := 23) x2 rfl rfl rfl dX11_lackOf_23 (fun r11 => ?_)
      refine ji_icmp_ge 32 (pc := 24) r_x9 r11 hF dX11_lackOf_24 rfl (fun hF => ?_) (fun hF => ?_)
      · refine jg_norm [3, 1] [53, x2] rfl rfl ?_
        exact obX11_lackOf_32 _ _ hF
      · refine ji_aload_n (n := 0) (pc := 27) 53 rfl rfl rfl dX11_lackOf_27 (fun r12 => ?_)
        refine ji_callVi (pc := 28) 53 [] ([]) oX11_lackOfSeven wlX11_217 wmX11_lackOfSeven rfl rfl (Nat.le_of_ble_eq_true rfl) (jRaC (jRc3 rfl) jRa0) rfl jcl_53 rfl (Nat.le_of_ble_eq_true rfl) hF dX11_lackOf_28 (fun x13 s14 r_x13 hF => ?_)
        refine ji_istore_n (n := 1) (pc := 31) [3, 1] [53, x13] rfl r_x13 (Nat.le_of_ble_eq_true rfl) rfl rfl dX11_lackOf_31 ?_
        refine jg_norm [3, 1] [53, x13] rfl rfl ?_
        exact obX11_lackOf_32 _ _ hF
def fX11_change (l1 l2 : Int) (s0 : jMem) : jO :=
jGd ((0 : Int) ≤ l1 ∧ l1 < jik 68) <| jLet (s0 68 l1) fun x3 =>
jLet (j32 (x3 + l2)) fun x5 =>
jGd ((0 : Int) ≤ l1 ∧ l1 < jik 68) <| jLet (jU s0 68 l1 x5) fun s6 =>
jBd (fX11_rowOf l1 s6) fun x9 s10 =>
jBd (fX11_layLacks x9 s10) fun x11 s12 =>
jRet 0 s12
def gX11_change (vs : List Int) (s : jMem) : jO := match vs with
  | [a0, a1, a2] => jGd (a0 = 53) <| fX11_change a1 a2 s
  | _ => none
set_option maxRecDepth 100000 in
set_option maxHeartbeats 4000000 in
theorem oX11_change : jOk MX11_change [3, 1, 1] 3 (jFn gX11_change) := by
  refine jOk_fn (by decide +kernel) (Nat.le_of_ble_eq_true rfl) (by decide +kernel) (.inl rfl) ?_
  intro E vs s0 Rr hF ha
  obtain ⟨l0, t0, rfl, r_l0, ha⟩ := jRa_ci ha
  obtain ⟨l1, t1, rfl, r_l1, ha⟩ := jRa_ci ha
  obtain ⟨l2, t2, rfl, r_l2, ha⟩ := jRa_ci ha
  obtain rfl := jRa_ni ha
  replace hF : jHo Rr (jGd (l0 = 53) <| fX11_change l1 l2 s0) := hF
  have hG := jHo_as hF
  clear hF
  obtain ⟨rfl, hF⟩ := hG
  refine jg_norm [3, 1, 1] [53, l1, l2] rfl rfl ?_
  unfold fX11_change at hF
  refine ji_aload_n (n := 0) (pc := 0) 53 rfl rfl rfl dX11_change_0 (fun r1 => ?_)
  refine ji_getr (pc := 1) 68 wfX11_56 (jRc3 rfl) jcl_53 jrf_53_18 dX11_change_1 ?_
  refine ji_iload_n (n := 1) (pc := 4) l1 rfl rfl rfl dX11_change_4 (fun r2 => ?_)
  refine jg_dup2 (pc := 5) (by decide) (by decide) dX11_change_5 ?_
  refine ji_iaload (pc := 6) (jRc3 rfl) r2 hF dX11_change_6 (fun x3 r_x3 hF => ?_)
  refine ji_iload_n (n := 2) (pc := 7) l2 rfl rfl rfl dX11_change_7 (fun r4 => ?_)
  refine ji_iadd (pc := 8)  hF dX11_change_8 (fun x5 r_x5 hF => ?_)
  refine ji_iastore (pc := 9) (jRc3 rfl) r2 r_x5 hF dX11_change_9 (fun s6 hF => ?_)
  refine ji_aload_n (n := 0) (pc := 10) 53 rfl rfl rfl dX11_change_10 (fun r7 => ?_)
  refine ji_iload_n (n := 1) (pc := 11) l1 rfl rfl rfl dX11_change_11 (fun r8 => ?_)
  refine ji_callSi (pc := 12) [l1] (jV E 3 53 :: []) oX11_rowOf wlX11_165 wmX11_rowOf rfl rfl (Nat.le_of_ble_eq_true rfl) (jRaC r8 jRa0) rfl rfl (Nat.le_of_ble_eq_true rfl) hF dX11_change_12 (fun x9 s10 r_x9 hF => ?_)
  refine ji_callVv (pc := 15) 53 [x9] ([]) oX11_layLacks wlX11_211 wmX11_layLacks rfl rfl (Nat.le_of_ble_eq_true rfl) (jRaC (jRc3 rfl) (jRaC r_x9 jRa0)) rfl jcl_53 rfl (Nat.le_of_ble_eq_true rfl) hF dX11_change_15 (fun x11 s12 hF => ?_)
  exact ji_retv (pc := 18) rfl hF dX11_change_18
def fX11_distanceOf (l0 : Int) (s0 : jMem) : jO :=
if 1 ≤ l0 then (
jLet (j32 (l0 - 1)) fun x3 =>
jRet x3 s0)
else (
jRet 0 s0)
def gX11_distanceOf (vs : List Int) (s : jMem) : jO := match vs with
  | [a0] => fX11_distanceOf a0 s
  | _ => none
set_option maxRecDepth 100000 in
set_option maxHeartbeats 4000000 in
theorem oX11_distanceOf : jOk MX11_distanceOf [1] 0 (jFn gX11_distanceOf) := by
  refine jOk_fn (by decide +kernel) (Nat.le_of_ble_eq_true rfl) (by decide +kernel) (.inr (.inl rfl)) ?_
  intro E vs s0 Rr hF ha
  obtain ⟨l0, t0, rfl, r_l0, ha⟩ := jRa_ci ha
  obtain rfl := jRa_ni ha
  replace hF : jHo Rr (fX11_distanceOf l0 s0) := hF
  refine jg_norm [1] [l0] rfl rfl ?_
  unfold fX11_distanceOf at hF
  refine ji_iload_n (n := 0) (pc := 0) l0 rfl rfl rfl dX11_distanceOf_0 (fun r1 => ?_)
  refine ji_iconst (pc := 1) dX11_distanceOf_1 ?_
  refine ji_icmp_ge 9 (pc := 2) r1 (jRc rfl) hF dX11_distanceOf_2 rfl (fun hF => ?_) (fun hF => ?_)
  · refine ji_iload_n (n := 0) (pc := 9) l0 rfl rfl rfl dX11_distanceOf_9 (fun r2 => ?_)
    refine ji_iconst (pc := 10) dX11_distanceOf_10 ?_
    refine ji_isub (pc := 11)  hF dX11_distanceOf_11 (fun x3 r_x3 hF => ?_)
    exact ji_reti (pc := 12) rfl r_x3 hF dX11_distanceOf_12
  · refine ji_iconst (pc := 5) dX11_distanceOf_5 ?_
    refine jg_goto (pc := 6) 12 dX11_distanceOf_6 rfl ?_
    exact ji_reti (pc := 12) rfl (jRc rfl) hF dX11_distanceOf_12
end

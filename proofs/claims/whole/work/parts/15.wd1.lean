section
def fX10_helps (l1 l2 : Int) (s0 : jMem) : jO :=
jBd (fX10_isHand l1 s0) fun x2 s3 =>
if x2 = 0 then (
jRet (-1) s3)
else (
if 0 ≤ l2 then (
jGd ((0 : Int) ≤ l1 ∧ l1 < jrk 2 6) <| jLet (jrf 2 l1) fun x7 =>
jGd (jcl x7 = 0) <| jBd (fX1_rests x7 s3) fun x9 s10 =>
if x9 = 0 then (
jRet (-2) s10)
else (
jGd ((0 : Int) ≤ l1 ∧ l1 < jrk 2 6) <| jLet (jrf 2 l1) fun x14 =>
jBd (fX3_reckon x14 14 s10) fun x15 s16 =>
jBd (fX3_helper l2 s16) fun x19 s20 =>
jRet x19 s20))
else (
jRet (-1) s3))
def gX10_helps (vs : List Int) (s : jMem) : jO := match vs with
  | [a0, a1, a2] => jGd (a0 = 0) <| fX10_helps a1 a2 s
  | _ => none
set_option maxRecDepth 100000 in
set_option maxHeartbeats 4000000 in
theorem oX10_helps : jOk MX10_helps [3, 1, 1] 5 (jFn gX10_helps) := by
  refine jOk_fn (by decide +kernel) (Nat.le_of_ble_eq_true rfl) (by decide +kernel) (.inr (.inl rfl)) ?_
  intro E vs s0 Rr hF ha
  obtain ⟨l0, t0, rfl, r_l0, ha⟩ := jRa_ci ha
  obtain ⟨l1, t1, rfl, r_l1, ha⟩ := jRa_ci ha
  obtain ⟨l2, t2, rfl, r_l2, ha⟩ := jRa_ci ha
  obtain rfl := jRa_ni ha
  replace hF : jHo Rr (jGd (l0 = 0) <| fX10_helps l1 l2 s0) := hF
  have hG := jHo_as hF
  clear hF
  obtain ⟨rfl, hF⟩ := hG
  refine jg_norm [3, 1, 1] [0, l1, l2] rfl rfl ?_
  unfold fX10_helps at hF
  refine ji_iload_n (n := 1) (pc := 0) l1 rfl rfl rfl dX10_helps_0 (fun r1 => ?_)
  refine ji_callSz (pc := 1) [l1] ([]) oX10_isHand wlX10_103 wmX10_isHand rfl rfl (Nat.le_of_ble_eq_true rfl) (jRaC r1 jRa0) rfl rfl (Nat.le_of_ble_eq_true rfl) hF dX10_helps_1 (fun x2 s3 r_x2 hF => ?_)
  refine ji_if_eq 11 (pc := 4) (jR51 r_x2) hF dX10_helps_4 rfl (fun hF => ?_) (fun hF => ?_)
  · refine ji_iconst (pc := 11) dX10_helps_11 ?_
    exact ji_reti (pc := 12) rfl (jRc rfl) hF dX10_helps_12
  · refine ji_iload_n (n := 2) (pc := 7) l2 rfl rfl rfl dX10_helps_7 (fun r4 => ?_)
    refine ji_if_ge 13 (pc := 8) r4 hF dX10_helps_8 rfl (fun hF => ?_) (fun hF => ?_)
    · refine ji_aload_n (n := 0) (pc := 13) 0 rfl rfl rfl dX10_helps_13 (fun r5 => ?_)
      refine ji_getr (pc := 14) 2 wfX10_17 (jRc3 rfl) jcl_0 jrf_0_1 dX10_helps_14 ?_
      refine ji_iload_n (n := 1) (pc := 17) l1 rfl rfl rfl dX10_helps_17 (fun r6 => ?_)
      refine ji_aaload (pc := 18) 6 4 (jRc3 rfl) r6 (.inr ⟨rfl, rfl, rfl⟩) hF dX10_helps_18 (fun x7 r_x7 hF => ?_)
      obtain ⟨h8, hF⟩ := jHo_as hF
      refine ji_callVz (pc := 19) x7 [] ([]) oX1_rests wlX10_186 wmX1_rests rfl rfl (Nat.le_of_ble_eq_true rfl) (jRaC r_x7 jRa0) rfl h8 rfl (Nat.le_of_ble_eq_true rfl) hF dX10_helps_19 (fun x9 s10 r_x9 hF => ?_)
      refine ji_if_ne 28 (pc := 22) (jR51 r_x9) hF dX10_helps_22 rfl (fun hF => ?_) (fun hF => ?_)
      · refine ji_aload_n (n := 0) (pc := 28) 0 rfl rfl rfl dX10_helps_28 (fun r11 => ?_)
        refine ji_getr (pc := 29) 7 wfX10_45 (jRc3 rfl) jcl_0 jrf_0_6 dX10_helps_29 ?_
        refine ji_aload_n (n := 0) (pc := 32) 0 rfl rfl rfl dX10_helps_32 (fun r12 => ?_)
        refine ji_getr (pc := 33) 2 wfX10_17 (jRc3 rfl) jcl_0 jrf_0_1 dX10_helps_33 ?_
        refine ji_iload_n (n := 1) (pc := 36) l1 rfl rfl rfl dX10_helps_36 (fun r13 => ?_)
        refine ji_aaload (pc := 37) 6 4 (jRc3 rfl) r13 (.inr ⟨rfl, rfl, rfl⟩) hF dX10_helps_37 (fun x14 r_x14 hF => ?_)
        refine jg_bipush (pc := 38) rfl dX10_helps_38 ?_
        refine ji_callVv (pc := 40) 7 [x14, 14] ([]) oX3_reckon wlX10_189 wmX3_reckon rfl rfl (Nat.le_of_ble_eq_true rfl) (jRaC (jRc3 rfl) (jRaC r_x14 (jRaC (jRc rfl) jRa0))) rfl jcl_7 rfl (Nat.le_of_ble_eq_true rfl) hF dX10_helps_40 (fun x15 s16 hF => ?_)
        refine ji_aload_n (n := 0) (pc := 43) 0 rfl rfl rfl dX10_helps_43 (fun r17 => ?_)
        refine ji_getr (pc := 44) 7 wfX10_45 (jRc3 rfl) jcl_0 jrf_0_6 dX10_helps_44 ?_
        refine ji_iload_n (n := 2) (pc := 47) l2 rfl rfl rfl dX10_helps_47 (fun r18 => ?_)
        refine ji_callVi (pc := 48) 7 [l2] ([]) oX3_helper wlX10_201 wmX3_helper rfl rfl (Nat.le_of_ble_eq_true rfl) (jRaC (jRc3 rfl) (jRaC r18 jRa0)) rfl jcl_7 rfl (Nat.le_of_ble_eq_true rfl) hF dX10_helps_48 (fun x19 s20 r_x19 hF => ?_)
        exact ji_reti (pc := 51) rfl r_x19 hF dX10_helps_51
      · refine jg_bipush (pc := 25) rfl dX10_helps_25 ?_
        exact ji_reti (pc := 27) rfl (jRc rfl) hF dX10_helps_27
    · refine ji_iconst (pc := 11) dX10_helps_11 ?_
      exact ji_reti (pc := 12) rfl (jRc rfl) hF dX10_helps_12
def fX10_refusalOfThrow (l1 l2 : Int) (s0 : jMem) : jO :=
jBd (fX10_isHand l1 s0) fun x2 s3 =>
if x2 = 0 then (
jRet (-1) s3)
else (
jBd (fX8_isSort l2 s3) fun x5 s6 =>
if x5 = 0 then (
jRet (-1) s6)
else (
jGd ((0 : Int) ≤ l1 ∧ l1 < jrk 2 6) <| jLet (jrf 2 l1) fun x9 =>
jGd (jcl x9 = 0) <| jBd (fX1_isFull x9 s6) fun x11 s12 =>
if x11 = 0 then (
jRet (-2) s12)
else (
jGd ((0 : Int) ≤ l1 ∧ l1 < jrk 2 6) <| jLet (jrf 2 l1) fun x15 =>
jGd (jcl x15 = 0) <| jLet (jrf x15 0) fun x17 =>
jGd ((0 : Int) ≤ l2 ∧ l2 < jik x17) <| jLet (s12 x17 l2) fun x19 =>
if x19 = 0 then (
jRet (-2) s12)
else (
jRet 0 s12))))
def gX10_refusalOfThrow (vs : List Int) (s : jMem) : jO := match vs with
  | [a0, a1, a2] => jGd (a0 = 0) <| fX10_refusalOfThrow a1 a2 s
  | _ => none
set_option maxRecDepth 100000 in
set_option maxHeartbeats 4000000 in
theorem oX10_refusalOfThrow : jOk MX10_refusalOfThrow [3, 1, 1] 2 (jFn gX10_refusalOfThrow) := by
  refine jOk_fn (by decide +kernel) (Nat.le_of_ble_eq_true rfl) (by decide +kernel) (.inr (.inl rfl)) ?_
  intro E vs s0 Rr hF ha
  obtain ⟨l0, t0, rfl, r_l0, ha⟩ := jRa_ci ha
  obtain ⟨l1, t1, rfl, r_l1, ha⟩ := jRa_ci ha
  obtain ⟨l2, t2, rfl, r_l2, ha⟩ := jRa_ci ha
  obtain rfl := jRa_ni ha
  replace hF : jHo Rr (jGd (l0 = 0) <| fX10_refusalOfThrow l1 l2 s0) := hF
  have hG := jHo_as hF
  clear hF
  obtain ⟨rfl, hF⟩ := hG
  refine jg_norm [3, 1, 1] [0, l1, l2] rfl rfl ?_
  unfold fX10_refusalOfThrow at hF
  refine ji_iload_n (n := 1) (pc := 0) l1 rfl rfl rfl dX10_refusalOfThrow_0 (fun r1 => ?_)
  refine ji_callSz (pc := 1) [l1] ([]) oX10_isHand wlX10_103 wmX10_isHand rfl rfl (Nat.le_of_ble_eq_true rfl) (jRaC r1 jRa0) rfl rfl (Nat.le_of_ble_eq_true rfl) hF dX10_refusalOfThrow_1 (fun x2 s3 r_x2 hF => ?_)
  refine ji_if_eq 14 (pc := 4) (jR51 r_x2) hF dX10_refusalOfThrow_4 rfl (fun hF => ?_) (fun hF => ?_)
  · refine ji_iconst (pc := 14) dX10_refusalOfThrow_14 ?_
    exact ji_reti (pc := 15) rfl (jRc rfl) hF dX10_refusalOfThrow_15
  · refine ji_iload_n (n := 2) (pc := 7) l2 rfl rfl rfl dX10_refusalOfThrow_7 (fun r4 => ?_)
    refine ji_callSz (pc := 8) [l2] ([]) oX8_isSort wlX10_114 wmX8_isSort rfl rfl (Nat.le_of_ble_eq_true rfl) (jRaC r4 jRa0) rfl rfl (Nat.le_of_ble_eq_true rfl) hF dX10_refusalOfThrow_8 (fun x5 s6 r_x5 hF => ?_)
    refine ji_if_ne 16 (pc := 11) (jR51 r_x5) hF dX10_refusalOfThrow_11 rfl (fun hF => ?_) (fun hF => ?_)
    · refine ji_aload_n (n := 0) (pc := 16) 0 rfl rfl rfl dX10_refusalOfThrow_16 (fun r7 => ?_)
      refine ji_getr (pc := 17) 2 wfX10_17 (jRc3 rfl) jcl_0 jrf_0_1 dX10_refusalOfThrow_17 ?_
      refine ji_iload_n (n := 1) (pc := 20) l1 rfl rfl rfl dX10_refusalOfThrow_20 (fun r8 => ?_)
      refine ji_aaload (pc := 21) 6 4 (jRc3 rfl) r8 (.inr ⟨rfl, rfl, rfl⟩) hF dX10_refusalOfThrow_21 (fun x9 r_x9 hF => ?_)
      obtain ⟨h10, hF⟩ := jHo_as hF
      refine ji_callVz (pc := 22) x9 [] ([]) oX1_isFull wlX10_117 wmX1_isFull rfl rfl (Nat.le_of_ble_eq_true rfl) (jRaC r_x9 jRa0) rfl h10 rfl (Nat.le_of_ble_eq_true rfl) hF dX10_refusalOfThrow_22 (fun x11 s12 r_x11 hF => ?_)
      refine ji_if_eq 42 (pc := 25) (jR51 r_x11) hF dX10_refusalOfThrow_25 rfl (fun hF => ?_) (fun hF => ?_)
      · refine jg_bipush (pc := 42) rfl dX10_refusalOfThrow_42 ?_
        refine jg_goto (pc := 44) 48 dX10_refusalOfThrow_44 rfl ?_
        exact ji_reti (pc := 48) rfl (jRc rfl) hF dX10_refusalOfThrow_48
      · refine ji_aload_n (n := 0) (pc := 28) 0 rfl rfl rfl dX10_refusalOfThrow_28 (fun r13 => ?_)
        refine ji_getr (pc := 29) 2 wfX10_17 (jRc3 rfl) jcl_0 jrf_0_1 dX10_refusalOfThrow_29 ?_
        refine ji_iload_n (n := 1) (pc := 32) l1 rfl rfl rfl dX10_refusalOfThrow_32 (fun r14 => ?_)
        refine ji_aaload (pc := 33) 6 4 (jRc3 rfl) r14 (.inr ⟨rfl, rfl, rfl⟩) hF dX10_refusalOfThrow_33 (fun x15 r_x15 hF => ?_)
        obtain ⟨h16, hF⟩ := jHo_as hF
        refine ji_getrL (pc := 34) wfX10_132 r_x15 h16 hF dX10_refusalOfThrow_34 (fun x17 r_x17 hF => ?_)
        refine ji_iload_n (n := 2) (pc := 37) l2 rfl rfl rfl dX10_refusalOfThrow_37 (fun r18 => ?_)
        refine ji_iaload (pc := 38) r_x17 r18 hF dX10_refusalOfThrow_38 (fun x19 r_x19 hF => ?_)
        refine ji_if_ne 47 (pc := 39) r_x19 hF dX10_refusalOfThrow_39 rfl (fun hF => ?_) (fun hF => ?_)
        · refine ji_iconst (pc := 47) dX10_refusalOfThrow_47 ?_
          exact ji_reti (pc := 48) rfl (jRc rfl) hF dX10_refusalOfThrow_48
        · refine jg_bipush (pc := 42) rfl dX10_refusalOfThrow_42 ?_
          refine jg_goto (pc := 44) 48 dX10_refusalOfThrow_44 rfl ?_
          exact ji_reti (pc := 48) rfl (jRc rfl) hF dX10_refusalOfThrow_48
    · refine ji_iconst (pc := 14) dX10_refusalOfThrow_14 ?_
      exact ji_reti (pc := 15) rfl (jRc rfl) hF dX10_refusalOfThrow_15
def fX10_reckonWithout (l1 l2 : Int) (s0 : jMem) : jO :=
jBd (fX3_reckon l1 14 s0) fun x3 s4 =>
jBd (fX3_change l2 (-1) s4) fun x7 s8 =>
jBd (fX3_total s8) fun x10 s11 =>
jRet 0 s11
def gX10_reckonWithout (vs : List Int) (s : jMem) : jO := match vs with
  | [a0, a1, a2] => jGd (a0 = 0) <| fX10_reckonWithout a1 a2 s
  | _ => none
set_option maxRecDepth 100000 in
set_option maxHeartbeats 4000000 in
theorem oX10_reckonWithout : jOk MX10_reckonWithout [3, 3, 1] 5 (jFn gX10_reckonWithout) := by
  refine jOk_fn (by decide +kernel) (Nat.le_of_ble_eq_true rfl) (by decide +kernel) (.inl rfl) ?_
  intro E vs s0 Rr hF ha
  obtain ⟨l0, t0, rfl, r_l0, ha⟩ := jRa_ci ha
  obtain ⟨l1, t1, rfl, r_l1, ha⟩ := jRa_ci ha
  obtain ⟨l2, t2, rfl, r_l2, ha⟩ := jRa_ci ha
  obtain rfl := jRa_ni ha
  replace hF : jHo Rr (jGd (l0 = 0) <| fX10_reckonWithout l1 l2 s0) := hF
  have hG := jHo_as hF
  clear hF
  obtain ⟨rfl, hF⟩ := hG
  refine jg_norm [3, 3, 1] [0, l1, l2] rfl rfl ?_
  unfold fX10_reckonWithout at hF
  refine ji_aload_n (n := 0) (pc := 0) 0 rfl rfl rfl dX10_reckonWithout_0 (fun r1 => ?_)
  refine ji_getr (pc := 1) 7 wfX10_45 (jRc3 rfl) jcl_0 jrf_0_6 dX10_reckonWithout_1 ?_
  refine ji_aload_n (n := 1) (pc := 4) l1 rfl rfl rfl dX10_reckonWithout_4 (fun r2 => ?_)
  refine jg_bipush (pc := 5) rfl dX10_reckonWithout_5 ?_
  refine ji_callVv (pc := 7) 7 [l1, 14] ([]) oX3_reckon wlX10_189 wmX3_reckon rfl rfl (Nat.le_of_ble_eq_true rfl) (jRaC (jRc3 rfl) (jRaC r2 (jRaC (jRc rfl) jRa0))) rfl jcl_7 rfl (Nat.le_of_ble_eq_true rfl) hF dX10_reckonWithout_7 (fun x3 s4 hF => ?_)
  refine ji_aload_n (n := 0) (pc := 10) 0 rfl rfl rfl dX10_reckonWithout_10 (fun r5 => ?_)
  refine ji_getr (pc := 11) 7 wfX10_45 (jRc3 rfl) jcl_0 jrf_0_6 dX10_reckonWithout_11 ?_
  refine ji_iload_n (n := 2) (pc := 14) l2 rfl rfl rfl dX10_reckonWithout_14 (fun r6 => ?_)
  refine ji_iconst (pc := 15) dX10_reckonWithout_15 ?_
  refine ji_callVv (pc := 16) 7 [l2, (-1)] ([]) oX3_change wlX10_224 wmX3_change rfl rfl (Nat.le_of_ble_eq_true rfl) (jRaC (jRc3 rfl) (jRaC r6 (jRaC (jRc rfl) jRa0))) rfl jcl_7 rfl (Nat.le_of_ble_eq_true rfl) hF dX10_reckonWithout_16 (fun x7 s8 hF => ?_)
  refine ji_aload_n (n := 0) (pc := 19) 0 rfl rfl rfl dX10_reckonWithout_19 (fun r9 => ?_)
  refine ji_getr (pc := 20) 7 wfX10_45 (jRc3 rfl) jcl_0 jrf_0_6 dX10_reckonWithout_20 ?_
  refine ji_callVv (pc := 23) 7 [] ([]) oX3_total wlX10_227 wmX3_total rfl rfl (Nat.le_of_ble_eq_true rfl) (jRaC (jRc3 rfl) jRa0) rfl jcl_7 rfl (Nat.le_of_ble_eq_true rfl) hF dX10_reckonWithout_23 (fun x10 s11 hF => ?_)
  exact ji_retv (pc := 26) rfl hF dX10_reckonWithout_26
def fX10_without (l1 l2 : Int) (s0 : jMem) : jO :=
jBd (fX10_refusalOfThrow l1 l2 s0) fun x4 s5 =>
if x4 = 0 then (
jGd ((0 : Int) ≤ l1 ∧ l1 < jrk 2 6) <| jLet (jrf 2 l1) fun x10 =>
jBd (fX10_reckonWithout x10 l2 s5) fun x12 s13 =>
jLet (s13 7 12) fun x15 =>
jLet (j32 (x15 - 1)) fun x16 =>
jRet x16 s13)
else (
jRet x4 s5)
def gX10_without (vs : List Int) (s : jMem) : jO := match vs with
  | [a0, a1, a2] => jGd (a0 = 0) <| fX10_without a1 a2 s
  | _ => none
set_option maxRecDepth 100000 in
set_option maxHeartbeats 4000000 in
theorem oX10_without : jOk MX10_without [3, 1, 1] 6 (jFn gX10_without) := by
  refine jOk_fn (by decide +kernel) (Nat.le_of_ble_eq_true rfl) (by decide +kernel) (.inr (.inl rfl)) ?_
  intro E vs s0 Rr hF ha
  obtain ⟨l0, t0, rfl, r_l0, ha⟩ := jRa_ci ha
  obtain ⟨l1, t1, rfl, r_l1, ha⟩ := jRa_ci ha
  obtain ⟨l2, t2, rfl, r_l2, ha⟩ := jRa_ci ha
  obtain rfl := jRa_ni ha
  replace hF : jHo Rr (jGd (l0 = 0) <| fX10_without l1 l2 s0) := hF
  have hG := jHo_as hF
  clear hF
  obtain ⟨rfl, hF⟩ := hG
  refine jg_norm [3, 1, 1, 0] [0, l1, l2, 0] rfl rfl ?_
  unfold fX10_without at hF
  refine ji_aload_n (n := 0) (pc := 0) 0 rfl rfl rfl dX10_without_0 (fun r1 => ?_)
  refine ji_iload_n (n := 1) (pc := 1) l1 rfl rfl rfl dX10_without_1 (fun r2 => ?_)
  refine ji_iload_n (n := 2) (pc := 2) l2 rfl rfl rfl dX10_without_2 (fun r3 => ?_)
  refine ji_callVi (pc := 3) 0 [l1, l2] ([]) oX10_refusalOfThrow wlX10_205 wmX10_refusalOfThrow rfl rfl (Nat.le_of_ble_eq_true rfl) (jRaC (jRc3 rfl) (jRaC r2 (jRaC r3 jRa0))) rfl jcl_0 rfl (Nat.le_of_ble_eq_true rfl) hF dX10_without_3 (fun x4 s5 r_x4 hF => ?_)
  refine ji_istore_n (n := 3) (pc := 6) [3, 1, 1, 1] [0, l1, l2, x4] rfl r_x4 (Nat.le_of_ble_eq_true rfl) rfl rfl dX10_without_6 ?_
  refine ji_iload_n (n := 3) (pc := 7) x4 rfl rfl rfl dX10_without_7 (fun r6 => ?_)
  refine ji_if_eq 13 (pc := 8) r6 hF dX10_without_8 rfl (fun hF => ?_) (fun hF => ?_)
  · refine ji_aload_n (n := 0) (pc := 13) 0 rfl rfl rfl dX10_without_13 (fun r7 => ?_)
    refine ji_aload_n (n := 0) (pc := 14) 0 rfl rfl rfl dX10_without_14 (fun r8 => ?_)
    refine ji_getr (pc := 15) 2 wfX10_17 (jRc3 rfl) jcl_0 jrf_0_1 dX10_without_15 ?_
    refine ji_iload_n (n := 1) (pc := 18) l1 rfl rfl rfl dX10_without_18 (fun r9 => ?_)
    refine ji_aaload (pc := 19) 6 4 (jRc3 rfl) r9 (.inr ⟨rfl, rfl, rfl⟩) hF dX10_without_19 (fun x10 r_x10 hF => ?_)
    refine ji_iload_n (n := 2) (pc := 20) l2 rfl rfl rfl dX10_without_20 (fun r11 => ?_)
    refine ji_callVv (pc := 21) 0 [x10, l2] ([]) oX10_reckonWithout wlX10_208 wmX10_reckonWithout rfl rfl (Nat.le_of_ble_eq_true rfl) (jRaC (jRc3 rfl) (jRaC r_x10 (jRaC r11 jRa0))) rfl jcl_0 rfl (Nat.le_of_ble_eq_true rfl) hF dX10_without_21 (fun x12 s13 hF => ?_)
    refine ji_aload_n (n := 0) (pc := 24) 0 rfl rfl rfl dX10_without_24 (fun r14 => ?_)
    refine ji_getr (pc := 25) 7 wfX10_45 (jRc3 rfl) jcl_0 jrf_0_6 dX10_without_25 ?_
    refine ji_getfi (pc := 28) wfX10_193 (jRc3 rfl) jcl_7 hF dX10_without_28 (fun x15 r_x15 hF => ?_)
    refine ji_iconst (pc := 31) dX10_without_31 ?_
    refine ji_isub (pc := 32)  hF dX10_without_32 (fun x16 r_x16 hF => ?_)
    exact ji_reti (pc := 33) rfl r_x16 hF dX10_without_33
  · refine ji_iload_n (n := 3) (pc := 11) x4 rfl rfl rfl dX10_without_11 (fun r17 => ?_)
    exact ji_reti (pc := 12) rfl r17 hF dX10_without_12
def bX10_countHidden_25 (k52 : Int → Int → Int → jMem → jO) (rec : Int → Int → Int → Int → jMem → jO) (l1 l2 l3 l4 : Int) (s0 : jMem) : jO :=
if 4 ≤ l4 then (
k52 l1 l2 l3 s0)
else (
jGd ((0 : Int) ≤ l4 ∧ l4 < jrk 2 6) <| jLet (jrf 2 l4) fun x5 =>
jGd (jcl x5 = 0) <| jLet (jrf x5 1) fun x7 =>
jGd ((0 : Int) ≤ l2 ∧ l2 < jik x7) <| jLet (s0 x7 l2) fun x9 =>
jLet (j32 (l3 + x9)) fun x10 =>
jLet (j32 (l4 + 1)) fun x11 =>
rec l1 l2 x10 x11 s0)
def bX10_countHidden_52 (k2 : Int → Int → jMem → jO) (l1 l2 l3 : Int) (s0 : jMem) : jO :=
jLet (j32 (4 - l3)) fun x4 =>
jGd ((0 : Int) ≤ l2 ∧ l2 < jik 5) <| jLet (jU s0 5 l2 x4) fun s5 =>
jLet (j32 (l2 + 1)) fun x6 =>
k2 l1 x6 s5
def bX10_countHidden_2 (rec : Int → Int → jMem → jO) (l1 l2 : Int) (s0 : jMem) : jO :=
if 34 ≤ l2 then (
jBd (fX8_sum 5 s0) fun x3 s4 =>
jRet x3 s4)
else (
jGd (jcl l1 = 0) <| jLet (jrf l1 0) fun x7 =>
jGd ((0 : Int) ≤ l2 ∧ l2 < jik x7) <| jLet (s0 x7 l2) fun x9 =>
jGd ((0 : Int) ≤ l2 ∧ l2 < jik 4) <| jLet (s0 4 l2) fun x12 =>
jLet (j32 (x9 + x12)) fun x13 =>
jIt (fun _ _ _ _ _ => none) (bX10_countHidden_25 (bX10_countHidden_52 rec)) 1000 l1 l2 x13 0 s0)
def fX10_countHidden (l1 : Int) (s0 : jMem) : jO :=
jIt (fun _ _ _ => none) (bX10_countHidden_2) 1000 l1 0 s0
def gX10_countHidden (vs : List Int) (s : jMem) : jO := match vs with
  | [a0, a1] => jGd (a0 = 0) <| fX10_countHidden a1 s
  | _ => none
set_option maxRecDepth 100000 in
set_option maxHeartbeats 4000000 in
theorem obX10_countHidden_25 {E : jEnv} {Rr : Int → jMem → Prop} {k52 : Int → Int → Int → jMem → jO} (hk52 : ∀ (l1 l2 l3 : Int) (s : jMem), jHo Rr (k52 l1 l2 l3 s) → jGo E MX10_countHidden 1 Rr [3, 3, 1, 1, 0] 52 [0, l1, l2, l3, 0] ([]) s) {rec : Int → Int → Int → Int → jMem → jO} (hrec : ∀ (l1 l2 l3 l4 : Int) (s : jMem), jHo Rr (rec l1 l2 l3 l4 s) → jGo E MX10_countHidden 1 Rr [3, 3, 1, 1, 1] 25 [0, l1, l2, l3, l4] ([]) s) : ∀ (l1 l2 l3 l4 : Int) (s : jMem), jHo Rr (bX10_countHidden_25 k52 rec l1 l2 l3 l4 s) → jGo E MX10_countHidden 1 Rr [3, 3, 1, 1, 1] 25 [0, l1, l2, l3, l4] ([]) s := by
  intro l1 l2 l3 l4 s0 hF
  unfold bX10_countHidden_25 at hF
  refine ji_iload (pc := 25) l4 rfl rfl dX10_countHidden_25 (fun r1 => ?_)
  refine ji_iconst (pc := 27) dX10_countHidden_27 ?_
  refine ji_icmp_ge 52 (pc := 28) r1 (jRc rfl) hF dX10_countHidden_28 rfl (fun hF => ?_) (fun hF => ?_)
  · refine jg_norm [3, 3, 1, 1, 0] [0, l1, l2, l3, 0] rfl rfl ?_
    exact hk52 _ _ _ _ hF
  · refine ji_iload_n (n := 3) (pc := 31) l3 rfl rfl rfl dX10_countHidden_31 (fun r2 => ?_)
    refine ji_aload_n (n := 0) (pc := 32) 0 rfl rfl rfl dX10_countHidden_32 (fun r3 => ?_)
    refine ji_getr (pc := 33) 2 wfX10_17 (jRc3 rfl) jcl_0 jrf_0_1 dX10_countHidden_33 ?_
    refine ji_iload (pc := 36) l4 rfl rfl dX10_countHidden_36 (fun r4 => ?_)
    refine ji_aaload (pc := 38) 6 4 (jRc3 rfl) r4 (.inr ⟨rfl, rfl, rfl⟩) hF dX10_countHidden_38 (fun x5 r_x5 hF => ?_)
    obtain ⟨h6, hF⟩ := jHo_as hF
    refine ji_getrL (pc := 39) wfX10_152 r_x5 h6 hF dX10_countHidden_39 (fun x7 r_x7 hF => ?_)
    refine ji_iload_n (n := 2) (pc := 42) l2 rfl rfl rfl dX10_countHidden_42 (fun r8 => ?_)
    refine ji_iaload (pc := 43) r_x7 r8 hF dX10_countHidden_43 (fun x9 r_x9 hF => ?_)
    refine ji_iadd (pc := 44)  hF dX10_countHidden_44 (fun x10 r_x10 hF => ?_)
    refine ji_istore_n (n := 3) (pc := 45) [3, 3, 1, 1, 1] [0, l1, l2, x10, l4] rfl r_x10 (Nat.le_of_ble_eq_true rfl) rfl rfl dX10_countHidden_45 ?_
    refine ji_iinc (pc := 46) l4 (fun w => [0, l1, l2, x10, w]) rfl rfl rfl (fun _ => rfl) hF dX10_countHidden_46 (fun x11 r_x11 hF => ?_)
    refine jg_goto (pc := 49) 25 dX10_countHidden_49 rfl ?_
    refine jg_norm [3, 3, 1, 1, 1] [0, l1, l2, x10, x11] rfl rfl ?_
    exact hrec _ _ _ _ _ hF
theorem obX10_countHidden_25W {E : jEnv} {Rr : Int → jMem → Prop} {k52 : Int → Int → Int → jMem → jO} (hk52 : ∀ (l1 l2 l3 : Int) (s : jMem), jHo Rr (k52 l1 l2 l3 s) → jGo E MX10_countHidden 1 Rr [3, 3, 1, 1, 0] 52 [0, l1, l2, l3, 0] ([]) s) : ∀ n : Nat, ∀ (l1 l2 l3 l4 : Int) (s : jMem), jHo Rr (jIt (fun _ _ _ _ _ => none) (bX10_countHidden_25 k52) n l1 l2 l3 l4 s) → jGo E MX10_countHidden 1 Rr [3, 3, 1, 1, 1] 25 [0, l1, l2, l3, l4] ([]) s := by
  intro n
  induction n with
  | zero => intro l1 l2 l3 l4 s hF; exact jHo_none hF
  | succ n ih => exact obX10_countHidden_25 hk52 ih

set_option maxRecDepth 100000 in
set_option maxHeartbeats 4000000 in
theorem obX10_countHidden_52 {E : jEnv} {Rr : Int → jMem → Prop} {k2 : Int → Int → jMem → jO} (hk2 : ∀ (l1 l2 : Int) (s : jMem), jHo Rr (k2 l1 l2 s) → jGo E MX10_countHidden 1 Rr [3, 3, 1, 0, 0] 2 [0, l1, l2, 0, 0] ([]) s) : ∀ (l1 l2 l3 : Int) (s : jMem), jHo Rr (bX10_countHidden_52 k2 l1 l2 l3 s) → jGo E MX10_countHidden 1 Rr [3, 3, 1, 1, 0] 52 [0, l1, l2, l3, 0] ([]) s := by
  intro l1 l2 l3 s0 hF
  unfold bX10_countHidden_52 at hF
  refine ji_aload_n (n := 0) (pc := 52) 0 rfl rfl rfl dX10_countHidden_52 (fun r1 => ?_)
  refine ji_getr (pc := 53) 5 wfX10_30 (jRc3 rfl) jcl_0 jrf_0_4 dX10_countHidden_53 ?_
  refine ji_iload_n (n := 2) (pc := 56) l2 rfl rfl rfl dX10_countHidden_56 (fun r2 => ?_)
  refine ji_iconst (pc := 57) dX10_countHidden_57 ?_
  refine ji_iload_n (n := 3) (pc := 58) l3 rfl rfl rfl dX10_countHidden_58 (fun r3 => ?_)
  refine ji_isub (pc := 59)  hF dX10_countHidden_59 (fun x4 r_x4 hF => ?_)
  refine ji_iastore (pc := 60) (jRc3 rfl) r2 r_x4 hF dX10_countHidden_60 (fun s5 hF => ?_)
  refine ji_iinc (pc := 61) l2 (fun w => [0, l1, w, l3, 0]) rfl rfl rfl (fun _ => rfl) hF dX10_countHidden_61 (fun x6 r_x6 hF => ?_)
  refine jg_goto (pc := 64) 2 dX10_countHidden_64 rfl ?_
  refine jg_norm [3, 3, 1, 0, 0] [0, l1, x6, 0, 0] rfl rfl ?_
  exact hk2 _ _ _ hF
set_option maxRecDepth 100000 in
set_option maxHeartbeats 4000000 in
theorem obX10_countHidden_2 {E : jEnv} {Rr : Int → jMem → Prop} {rec : Int → Int → jMem → jO} (hrec : ∀ (l1 l2 : Int) (s : jMem), jHo Rr (rec l1 l2 s) → jGo E MX10_countHidden 1 Rr [3, 3, 1, 0, 0] 2 [0, l1, l2, 0, 0] ([]) s) : ∀ (l1 l2 : Int) (s : jMem), jHo Rr (bX10_countHidden_2 rec l1 l2 s) → jGo E MX10_countHidden 1 Rr [3, 3, 1, 0, 0] 2 [0, l1, l2, 0, 0] ([]) s := by
  intro l1 l2 s0 hF
  unfold bX10_countHidden_2 at hF
  refine ji_iload_n (n := 2) (pc := 2) l2 rfl rfl rfl dX10_countHidden_2 (fun r1 => ?_)
  refine jg_bipush (pc := 3) rfl dX10_countHidden_3 ?_
  refine ji_icmp_ge 67 (pc := 5) r1 (jRc rfl) hF dX10_countHidden_5 rfl (fun hF => ?_) (fun hF => ?_)
  · refine ji_aload_n (n := 0) (pc := 67) 0 rfl rfl rfl dX10_countHidden_67 (fun r2 => ?_)
    refine ji_getr (pc := 68) 5 wfX10_30 (jRc3 rfl) jcl_0 jrf_0_4 dX10_countHidden_68 ?_
    refine ji_callSi (pc := 71) [5] ([]) oX8_sum wlX10_279 wmX8_sum rfl rfl (Nat.le_of_ble_eq_true rfl) (jRaC (jRc3 rfl) jRa0) rfl rfl (Nat.le_of_ble_eq_true rfl) hF dX10_countHidden_71 (fun x3 s4 r_x3 hF => ?_)
    exact ji_reti (pc := 74) rfl r_x3 hF dX10_countHidden_74
  · refine ji_aload_n (n := 1) (pc := 8) l1 rfl rfl rfl dX10_countHidden_8 (fun r5 => ?_)
    obtain ⟨h6, hF⟩ := jHo_as hF
    refine ji_getrL (pc := 9) wfX10_132 r5 h6 hF dX10_countHidden_9 (fun x7 r_x7 hF => ?_)
    refine ji_iload_n (n := 2) (pc := 12) l2 rfl rfl rfl dX10_countHidden_12 (fun r8 => ?_)
    refine ji_iaload (pc := 13) r_x7 r8 hF dX10_countHidden_13 (fun x9 r_x9 hF => ?_)
    refine ji_aload_n (n := 0) (pc := 14) 0 rfl rfl rfl dX10_countHidden_14 (fun r10 => ?_)
    refine ji_getr (pc := 15) 4 wfX10_27 (jRc3 rfl) jcl_0 jrf_0_3 dX10_countHidden_15 ?_
    refine ji_iload_n (n := 2) (pc := 18) l2 rfl rfl rfl dX10_countHidden_18 (fun r11 => ?_)
    refine ji_iaload (pc := 19) (jRc3 rfl) r11 hF dX10_countHidden_19 (fun x12 r_x12 hF => ?_)
    refine ji_iadd (pc := 20)  hF dX10_countHidden_20 (fun x13 r_x13 hF => ?_)
    refine ji_istore_n (n := 3) (pc := 21) [3, 3, 1, 1, 0] [0, l1, l2, x13, 0] rfl r_x13 (Nat.le_of_ble_eq_true rfl) rfl rfl dX10_countHidden_21 ?_
    refine ji_iconst (pc := 22) dX10_countHidden_22 ?_
    refine ji_istore (n := 4) (pc := 23) [3, 3, 1, 1, 1] [0, l1, l2, x13, 0] (jRc rfl) (Nat.le_of_ble_eq_true rfl) rfl rfl dX10_countHidden_23 ?_
    refine jg_norm [3, 3, 1, 1, 1] [0, l1, l2, x13, 0] rfl rfl ?_
    exact obX10_countHidden_25W (obX10_countHidden_52 hrec) 1000 _ _ _ _ _ hF
theorem obX10_countHidden_2W {E : jEnv} {Rr : Int → jMem → Prop} : ∀ n : Nat, ∀ (l1 l2 : Int) (s : jMem), jHo Rr (jIt (fun _ _ _ => none) (bX10_countHidden_2) n l1 l2 s) → jGo E MX10_countHidden 1 Rr [3, 3, 1, 0, 0] 2 [0, l1, l2, 0, 0] ([]) s := by
  intro n
  induction n with
  | zero => intro l1 l2 s hF; exact jHo_none hF
  | succ n ih => exact obX10_countHidden_2 ih

set_option maxRecDepth 100000 in
set_option maxHeartbeats 4000000 in
theorem oX10_countHidden : jOk MX10_countHidden [3, 3] 1 (jFn gX10_countHidden) := by
  refine jOk_fn (by decide +kernel) (Nat.le_of_ble_eq_true rfl) (by decide +kernel) (.inr (.inl rfl)) ?_
  intro E vs s0 Rr hF ha
  obtain ⟨l0, t0, rfl, r_l0, ha⟩ := jRa_ci ha
  obtain ⟨l1, t1, rfl, r_l1, ha⟩ := jRa_ci ha
  obtain rfl := jRa_ni ha
  replace hF : jHo Rr (jGd (l0 = 0) <| fX10_countHidden l1 s0) := hF
  have hG := jHo_as hF
  clear hF
  obtain ⟨rfl, hF⟩ := hG
  refine jg_norm [3, 3, 0, 0, 0] [0, l1, 0, 0, 0] rfl rfl ?_
  unfold fX10_countHidden at hF
  refine ji_iconst (pc := 0) dX10_countHidden_0 ?_
  refine ji_istore_n (n := 2) (pc := 1) [3, 3, 1, 0, 0] [0, l1, 0, 0, 0] rfl (jRc rfl) (Nat.le_of_ble_eq_true rfl) rfl rfl dX10_countHidden_1 ?_
  refine jg_norm [3, 3, 1, 0, 0] [0, l1, 0, 0, 0] rfl rfl ?_
  exact obX10_countHidden_2W 1000 _ _ _ hF
def fX10_more (l1 l2 : Int) (s0 : jMem) : jO :=
jBd (fX10_refusalOfThrow l1 l2 s0) fun x4 s5 =>
if x4 = 0 then (
jGd ((0 : Int) ≤ l1 ∧ l1 < jrk 2 6) <| jLet (jrf 2 l1) fun x10 =>
jBd (fX10_countHidden x10 s5) fun x11 s12 =>
jGd ((0 : Int) ≤ l1 ∧ l1 < jrk 2 6) <| jLet (jrf 2 l1) fun x16 =>
jBd (fX10_reckonWithout x16 l2 s12) fun x18 s19 =>
jBd (fX3_helpingOf 5 s19) fun x22 s23 =>
jRet x22 s23)
else (
jRet x4 s5)
def gX10_more (vs : List Int) (s : jMem) : jO := match vs with
  | [a0, a1, a2] => jGd (a0 = 0) <| fX10_more a1 a2 s
  | _ => none
set_option maxRecDepth 100000 in
set_option maxHeartbeats 4000000 in
theorem oX10_more : jOk MX10_more [3, 1, 1] 6 (jFn gX10_more) := by
  refine jOk_fn (by decide +kernel) (Nat.le_of_ble_eq_true rfl) (by decide +kernel) (.inr (.inl rfl)) ?_
  intro E vs s0 Rr hF ha
  obtain ⟨l0, t0, rfl, r_l0, ha⟩ := jRa_ci ha
  obtain ⟨l1, t1, rfl, r_l1, ha⟩ := jRa_ci ha
  obtain ⟨l2, t2, rfl, r_l2, ha⟩ := jRa_ci ha
  obtain rfl := jRa_ni ha
  replace hF : jHo Rr (jGd (l0 = 0) <| fX10_more l1 l2 s0) := hF
  have hG := jHo_as hF
  clear hF
  obtain ⟨rfl, hF⟩ := hG
  refine jg_norm [3, 1, 1, 0] [0, l1, l2, 0] rfl rfl ?_
  unfold fX10_more at hF
  refine ji_aload_n (n := 0) (pc := 0) 0 rfl rfl rfl dX10_more_0 (fun r1 => ?_)
  refine ji_iload_n (n := 1) (pc := 1) l1 rfl rfl rfl dX10_more_1 (fun r2 => ?_)
  refine ji_iload_n (n := 2) (pc := 2) l2 rfl rfl rfl dX10_more_2 (fun r3 => ?_)
  refine ji_callVi (pc := 3) 0 [l1, l2] ([]) oX10_refusalOfThrow wlX10_205 wmX10_refusalOfThrow rfl rfl (Nat.le_of_ble_eq_true rfl) (jRaC (jRc3 rfl) (jRaC r2 (jRaC r3 jRa0))) rfl jcl_0 rfl (Nat.le_of_ble_eq_true rfl) hF dX10_more_3 (fun x4 s5 r_x4 hF => ?_)
  refine ji_istore_n (n := 3) (pc := 6) [3, 1, 1, 1] [0, l1, l2, x4] rfl r_x4 (Nat.le_of_ble_eq_true rfl) rfl rfl dX10_more_6 ?_
  refine ji_iload_n (n := 3) (pc := 7) x4 rfl rfl rfl dX10_more_7 (fun r6 => ?_)
  refine ji_if_eq 13 (pc := 8) r6 hF dX10_more_8 rfl (fun hF => ?_) (fun hF => ?_)
  · refine ji_aload_n (n := 0) (pc := 13) 0 rfl rfl rfl dX10_more_13 (fun r7 => ?_)
    refine ji_aload_n (n := 0) (pc := 14) 0 rfl rfl rfl dX10_more_14 (fun r8 => ?_)
    refine ji_getr (pc := 15) 2 wfX10_17 (jRc3 rfl) jcl_0 jrf_0_1 dX10_more_15 ?_
    refine ji_iload_n (n := 1) (pc := 18) l1 rfl rfl rfl dX10_more_18 (fun r9 => ?_)
    refine ji_aaload (pc := 19) 6 4 (jRc3 rfl) r9 (.inr ⟨rfl, rfl, rfl⟩) hF dX10_more_19 (fun x10 r_x10 hF => ?_)
    refine ji_callVi (pc := 20) 0 [x10] ([]) oX10_countHidden wlX10_211 wmX10_countHidden rfl rfl (Nat.le_of_ble_eq_true rfl) (jRaC (jRc3 rfl) (jRaC r_x10 jRa0)) rfl jcl_0 rfl (Nat.le_of_ble_eq_true rfl) hF dX10_more_20 (fun x11 s12 r_x11 hF => ?_)
    refine jg_pop (pc := 23) (by decide) dX10_more_23 ?_
    refine ji_aload_n (n := 0) (pc := 24) 0 rfl rfl rfl dX10_more_24 (fun r13 => ?_)
    refine ji_aload_n (n := 0) (pc := 25) 0 rfl rfl rfl dX10_more_25 (fun r14 => ?_)
    refine ji_getr (pc := 26) 2 wfX10_17 (jRc3 rfl) jcl_0 jrf_0_1 dX10_more_26 ?_
    refine ji_iload_n (n := 1) (pc := 29) l1 rfl rfl rfl dX10_more_29 (fun r15 => ?_)
    refine ji_aaload (pc := 30) 6 4 (jRc3 rfl) r15 (.inr ⟨rfl, rfl, rfl⟩) hF dX10_more_30 (fun x16 r_x16 hF => ?_)
    refine ji_iload_n (n := 2) (pc := 31) l2 rfl rfl rfl dX10_more_31 (fun r17 => ?_)
    refine ji_callVv (pc := 32) 0 [x16, l2] ([]) oX10_reckonWithout wlX10_208 wmX10_reckonWithout rfl rfl (Nat.le_of_ble_eq_true rfl) (jRaC (jRc3 rfl) (jRaC r_x16 (jRaC r17 jRa0))) rfl jcl_0 rfl (Nat.le_of_ble_eq_true rfl) hF dX10_more_32 (fun x18 s19 hF => ?_)
    refine ji_aload_n (n := 0) (pc := 35) 0 rfl rfl rfl dX10_more_35 (fun r20 => ?_)
    refine ji_getr (pc := 36) 7 wfX10_45 (jRc3 rfl) jcl_0 jrf_0_6 dX10_more_36 ?_
    refine ji_aload_n (n := 0) (pc := 39) 0 rfl rfl rfl dX10_more_39 (fun r21 => ?_)
    refine ji_getr (pc := 40) 5 wfX10_30 (jRc3 rfl) jcl_0 jrf_0_4 dX10_more_40 ?_
    refine ji_callVi (pc := 43) 7 [5] ([]) oX3_helpingOf wlX10_214 wmX3_helpingOf rfl rfl (Nat.le_of_ble_eq_true rfl) (jRaC (jRc3 rfl) (jRaC (jRc3 rfl) jRa0)) rfl jcl_7 rfl (Nat.le_of_ble_eq_true rfl) hF dX10_more_43 (fun x22 s23 r_x22 hF => ?_)
    exact ji_reti (pc := 46) rfl r_x22 hF dX10_more_46
  · refine ji_iload_n (n := 3) (pc := 11) x4 rfl rfl rfl dX10_more_11 (fun r24 => ?_)
    exact ji_reti (pc := 12) rfl r24 hF dX10_more_12
def bX10_bestThrow_122 (k132 : Int → Int → Int → Int → Int → jMem → jO) (l1 l2 l3 l4 l5 : Int) (s0 : jMem) : jO :=
jBd (fX3_change l5 1 s0) fun x3 s4 =>
k132 l1 l2 l3 l4 l5 s4
def bX10_bestThrow_106 (k132 : Int → Int → Int → Int → Int → jMem → jO) (l1 l2 l3 l4 l5 t0 : Int) (s0 : jMem) : jO :=
if t0 ≤ l4 then (
bX10_bestThrow_122 k132 l1 l2 l3 l4 l5 s0)
else (
bX10_bestThrow_122 k132 l1 l2 l5 t0 l5 s0)
def bX10_bestThrow_132 (k46 : Int → Int → Int → Int → Int → jMem → jO) (l1 l2 l3 l4 l5 : Int) (s0 : jMem) : jO :=
jLet (j32 (l5 + 1)) fun x1 =>
k46 l1 l2 l3 l4 x1 s0
def bX10_bestThrow_46 (rec : Int → Int → Int → Int → Int → jMem → jO) (l1 l2 l3 l4 l5 : Int) (s0 : jMem) : jO :=
if 34 ≤ l5 then (
jRet l3 s0)
else (
jGd (jcl l1 = 0) <| jLet (jrf l1 0) fun x5 =>
jGd ((0 : Int) ≤ l5 ∧ l5 < jik x5) <| jLet (s0 x5 l5) fun x7 =>
if x7 ≤ 0 then (
bX10_bestThrow_132 rec l1 l2 l3 l4 l5 s0)
else (
jBd (fX3_change l5 (-1) s0) fun x10 s11 =>
jBd (fX3_total s11) fun x13 s14 =>
jLet (s14 7 12) fun x16 =>
if x16 = l2 then (
jBd (fX3_helpingOf 5 s14) fun x20 s21 =>
bX10_bestThrow_106 (bX10_bestThrow_132 rec) l1 l2 l3 l4 l5 x20 s21)
else (
bX10_bestThrow_106 (bX10_bestThrow_132 rec) l1 l2 l3 l4 l5 (-1) s14)))
def fX10_bestThrow (l1 : Int) (s0 : jMem) : jO :=
jBd (fX3_reckon l1 14 s0) fun x3 s4 =>
jLet (s4 7 12) fun x6 =>
jLet (jmax x6 1) fun x7 =>
jBd (fX10_countHidden l1 s4) fun x10 s11 =>
jBd (fX3_reckon l1 x7 s11) fun x15 s16 =>
jIt (fun _ _ _ _ _ _ => none) (bX10_bestThrow_46) 1000 l1 x7 (-3) (-1) 0 s16
def gX10_bestThrow (vs : List Int) (s : jMem) : jO := match vs with
  | [a0, a1] => jGd (a0 = 0) <| fX10_bestThrow a1 s
  | _ => none
set_option maxRecDepth 100000 in
set_option maxHeartbeats 4000000 in
theorem obX10_bestThrow_122 {E : jEnv} {Rr : Int → jMem → Prop} {k132 : Int → Int → Int → Int → Int → jMem → jO} (hk132 : ∀ (l1 l2 l3 l4 l5 : Int) (s : jMem), jHo Rr (k132 l1 l2 l3 l4 l5 s) → jGo E MX10_bestThrow 5 Rr [3, 3, 1, 1, 1, 1, 0] 132 [0, l1, l2, l3, l4, l5, 0] ([]) s) : ∀ (l1 l2 l3 l4 l5 : Int) (s : jMem), jHo Rr (bX10_bestThrow_122 k132 l1 l2 l3 l4 l5 s) → jGo E MX10_bestThrow 5 Rr [3, 3, 1, 1, 1, 1, 0] 122 [0, l1, l2, l3, l4, l5, 0] ([]) s := by
  intro l1 l2 l3 l4 l5 s0 hF
  unfold bX10_bestThrow_122 at hF
  refine ji_aload_n (n := 0) (pc := 122) 0 rfl rfl rfl dX10_bestThrow_122 (fun r1 => ?_)
  refine ji_getr (pc := 123) 7 wfX10_45 (jRc3 rfl) jcl_0 jrf_0_6 dX10_bestThrow_123 ?_
  refine ji_iload (pc := 126) l5 rfl rfl dX10_bestThrow_126 (fun r2 => ?_)
  refine ji_iconst (pc := 128) dX10_bestThrow_128 ?_
  refine ji_callVv (pc := 129) 7 [l5, 1] ([]) oX3_change wlX10_224 wmX3_change rfl rfl (Nat.le_of_ble_eq_true rfl) (jRaC (jRc3 rfl) (jRaC r2 (jRaC (jRc rfl) jRa0))) rfl jcl_7 rfl (Nat.le_of_ble_eq_true rfl) hF dX10_bestThrow_129 (fun x3 s4 hF => ?_)
  refine jg_norm [3, 3, 1, 1, 1, 1, 0] [0, l1, l2, l3, l4, l5, 0] rfl rfl ?_
  exact hk132 _ _ _ _ _ _ hF
set_option maxRecDepth 100000 in
set_option maxHeartbeats 4000000 in
theorem obX10_bestThrow_106 {E : jEnv} {Rr : Int → jMem → Prop} {k132 : Int → Int → Int → Int → Int → jMem → jO} (hk132 : ∀ (l1 l2 l3 l4 l5 : Int) (s : jMem), jHo Rr (k132 l1 l2 l3 l4 l5 s) → jGo E MX10_bestThrow 5 Rr [3, 3, 1, 1, 1, 1, 0] 132 [0, l1, l2, l3, l4, l5, 0] ([]) s) : ∀ (l1 l2 l3 l4 l5 t0 : Int) (s : jMem), jR 1 t0 → jHo Rr (bX10_bestThrow_106 k132 l1 l2 l3 l4 l5 t0 s) → jGo E MX10_bestThrow 5 Rr [3, 3, 1, 1, 1, 1, 0] 106 [0, l1, l2, l3, l4, l5, 0] (jV E 1 t0 :: []) s := by
  intro l1 l2 l3 l4 l5 t0 s0 r_t0 hF
  unfold bX10_bestThrow_106 at hF
  refine ji_istore (n := 6) (pc := 106) [3, 3, 1, 1, 1, 1, 1] [0, l1, l2, l3, l4, l5, t0] r_t0 (Nat.le_of_ble_eq_true rfl) rfl rfl dX10_bestThrow_106 ?_
  refine ji_iload (pc := 108) t0 rfl rfl dX10_bestThrow_108 (fun r1 => ?_)
  refine ji_iload (pc := 110) l4 rfl rfl dX10_bestThrow_110 (fun r2 => ?_)
  refine ji_icmp_le 122 (pc := 112) r1 r2 hF dX10_bestThrow_112 rfl (fun hF => ?_) (fun hF => ?_)
  · refine jg_norm [3, 3, 1, 1, 1, 1, 0] [0, l1, l2, l3, l4, l5, 0] rfl rfl ?_
    exact obX10_bestThrow_122 hk132 _ _ _ _ _ _ hF
  · refine ji_iload (pc := 115) t0 rfl rfl dX10_bestThrow_115 (fun r3 => ?_)
    refine ji_istore (n := 4) (pc := 117) [3, 3, 1, 1, 1, 1, 1] [0, l1, l2, l3, t0, l5, t0] r3 (Nat.le_of_ble_eq_true rfl) rfl rfl dX10_bestThrow_117 ?_
    refine ji_iload (pc := 119) l5 rfl rfl dX10_bestThrow_119 (fun r4 => ?_)
    refine ji_istore_n (n := 3) (pc := 121) [3, 3, 1, 1, 1, 1, 1] [0, l1, l2, l5, t0, l5, t0] rfl r4 (Nat.le_of_ble_eq_true rfl) rfl rfl dX10_bestThrow_121 ?_
    refine jg_norm [3, 3, 1, 1, 1, 1, 0] [0, l1, l2, l5, t0, l5, 0] rfl rfl ?_
    exact obX10_bestThrow_122 hk132 _ _ _ _ _ _ hF
set_option maxRecDepth 100000 in
set_option maxHeartbeats 4000000 in
theorem obX10_bestThrow_132 {E : jEnv} {Rr : Int → jMem → Prop} {k46 : Int → Int → Int → Int → Int → jMem → jO} (hk46 : ∀ (l1 l2 l3 l4 l5 : Int) (s : jMem), jHo Rr (k46 l1 l2 l3 l4 l5 s) → jGo E MX10_bestThrow 5 Rr [3, 3, 1, 1, 1, 1, 0] 46 [0, l1, l2, l3, l4, l5, 0] ([]) s) : ∀ (l1 l2 l3 l4 l5 : Int) (s : jMem), jHo Rr (bX10_bestThrow_132 k46 l1 l2 l3 l4 l5 s) → jGo E MX10_bestThrow 5 Rr [3, 3, 1, 1, 1, 1, 0] 132 [0, l1, l2, l3, l4, l5, 0] ([]) s := by
  intro l1 l2 l3 l4 l5 s0 hF
  unfold bX10_bestThrow_132 at hF
  refine ji_iinc (pc := 132) l5 (fun w => [0, l1, l2, l3, l4, w, 0]) rfl rfl rfl (fun _ => rfl) hF dX10_bestThrow_132 (fun x1 r_x1 hF => ?_)
  refine jg_goto (pc := 135) 46 dX10_bestThrow_135 rfl ?_
  refine jg_norm [3, 3, 1, 1, 1, 1, 0] [0, l1, l2, l3, l4, x1, 0] rfl rfl ?_
  exact hk46 _ _ _ _ _ _ hF
set_option maxRecDepth 100000 in
set_option maxHeartbeats 4000000 in
theorem obX10_bestThrow_46 {E : jEnv} {Rr : Int → jMem → Prop} {rec : Int → Int → Int → Int → Int → jMem → jO} (hrec : ∀ (l1 l2 l3 l4 l5 : Int) (s : jMem), jHo Rr (rec l1 l2 l3 l4 l5 s) → jGo E MX10_bestThrow 5 Rr [3, 3, 1, 1, 1, 1, 0] 46 [0, l1, l2, l3, l4, l5, 0] ([]) s) : ∀ (l1 l2 l3 l4 l5 : Int) (s : jMem), jHo Rr (bX10_bestThrow_46 rec l1 l2 l3 l4 l5 s) → jGo E MX10_bestThrow 5 Rr [3, 3, 1, 1, 1, 1, 0] 46 [0, l1, l2, l3, l4, l5, 0] ([]) s := by
  intro l1 l2 l3 l4 l5 s0 hF
  unfold bX10_bestThrow_46 at hF
  refine ji_iload (pc := 46) l5 rfl rfl dX10_bestThrow_46 (fun r1 => ?_)
  refine jg_bipush (pc := 48) rfl dX10_bestThrow_48 ?_
  refine ji_icmp_ge 138 (pc := 50) r1 (jRc rfl) hF dX10_bestThrow_50 rfl (fun hF => ?_) (fun hF => ?_)
  · refine ji_iload_n (n := 3) (pc := 138) l3 rfl rfl rfl dX10_bestThrow_138 (fun r2 => ?_)
    exact ji_reti (pc := 139) rfl r2 hF dX10_bestThrow_139
  · refine ji_aload_n (n := 1) (pc := 53) l1 rfl rfl rfl dX10_bestThrow_53 (fun r3 => ?_)
    obtain ⟨h4, hF⟩ := jHo_as hF
    refine ji_getrL (pc := 54) wfX10_132 r3 h4 hF dX10_bestThrow_54 (fun x5 r_x5 hF => ?_)
    refine ji_iload (pc := 57) l5 rfl rfl dX10_bestThrow_57 (fun r6 => ?_)
    refine ji_iaload (pc := 59) r_x5 r6 hF dX10_bestThrow_59 (fun x7 r_x7 hF => ?_)
    refine ji_if_le 132 (pc := 60) r_x7 hF dX10_bestThrow_60 rfl (fun hF => ?_) (fun hF => ?_)
    · refine jg_norm [3, 3, 1, 1, 1, 1, 0] [0, l1, l2, l3, l4, l5, 0] rfl rfl ?_
      exact obX10_bestThrow_132 hrec _ _ _ _ _ _ hF
    · refine ji_aload_n (n := 0) (pc := 63) 0 rfl rfl rfl dX10_bestThrow_63 (fun r8 => ?_)
      refine ji_getr (pc := 64) 7 wfX10_45 (jRc3 rfl) jcl_0 jrf_0_6 dX10_bestThrow_64 ?_
      refine ji_iload (pc := 67) l5 rfl rfl dX10_bestThrow_67 (fun r9 => ?_)
      refine ji_iconst (pc := 69) dX10_bestThrow_69 ?_
      refine ji_callVv (pc := 70) 7 [l5, (-1)] ([]) oX3_change wlX10_224 wmX3_change rfl rfl (Nat.le_of_ble_eq_true rfl) (jRaC (jRc3 rfl) (jRaC r9 (jRaC (jRc rfl) jRa0))) rfl jcl_7 rfl (Nat.le_of_ble_eq_true rfl) hF dX10_bestThrow_70 (fun x10 s11 hF => ?_)
      refine ji_aload_n (n := 0) (pc := 73) 0 rfl rfl rfl dX10_bestThrow_73 (fun r12 => ?_)
      refine ji_getr (pc := 74) 7 wfX10_45 (jRc3 rfl) jcl_0 jrf_0_6 dX10_bestThrow_74 ?_
      refine ji_callVv (pc := 77) 7 [] ([]) oX3_total wlX10_227 wmX3_total rfl rfl (Nat.le_of_ble_eq_true rfl) (jRaC (jRc3 rfl) jRa0) rfl jcl_7 rfl (Nat.le_of_ble_eq_true rfl) hF dX10_bestThrow_77 (fun x13 s14 hF => ?_)
      refine ji_aload_n (n := 0) (pc := 80) 0 rfl rfl rfl dX10_bestThrow_80 (fun r15 => ?_)
      refine ji_getr (pc := 81) 7 wfX10_45 (jRc3 rfl) jcl_0 jrf_0_6 dX10_bestThrow_81 ?_
      refine ji_getfi (pc := 84) wfX10_193 (jRc3 rfl) jcl_7 hF dX10_bestThrow_84 (fun x16 r_x16 hF => ?_)
      refine ji_iload_n (n := 2) (pc := 87) l2 rfl rfl rfl dX10_bestThrow_87 (fun r17 => ?_)
      refine ji_icmp_ne 105 (pc := 88) r_x16 r17 hF dX10_bestThrow_88 rfl (fun hF => ?_) (fun hF => ?_)
      · refine ji_iconst (pc := 105) dX10_bestThrow_105 ?_
        refine jg_norm [3, 3, 1, 1, 1, 1, 0] [0, l1, l2, l3, l4, l5, 0] rfl rfl ?_
        exact obX10_bestThrow_106 (obX10_bestThrow_132 hrec) _ _ _ _ _ _ _ (jRc rfl) hF
      · refine ji_aload_n (n := 0) (pc := 91) 0 rfl rfl rfl dX10_bestThrow_91 (fun r18 => ?_)
        refine ji_getr (pc := 92) 7 wfX10_45 (jRc3 rfl) jcl_0 jrf_0_6 dX10_bestThrow_92 ?_
        refine ji_aload_n (n := 0) (pc := 95) 0 rfl rfl rfl dX10_bestThrow_95 (fun r19 => ?_)
        refine ji_getr (pc := 96) 5 wfX10_30 (jRc3 rfl) jcl_0 jrf_0_4 dX10_bestThrow_96 ?_
        refine ji_callVi (pc := 99) 7 [5] ([]) oX3_helpingOf wlX10_214 wmX3_helpingOf rfl rfl (Nat.le_of_ble_eq_true rfl) (jRaC (jRc3 rfl) (jRaC (jRc3 rfl) jRa0)) rfl jcl_7 rfl (Nat.le_of_ble_eq_true rfl) hF dX10_bestThrow_99 (fun x20 s21 r_x20 hF => ?_)
        refine jg_goto (pc := 102) 106 dX10_bestThrow_102 rfl ?_
        refine jg_norm [3, 3, 1, 1, 1, 1, 0] [0, l1, l2, l3, l4, l5, 0] rfl rfl ?_
        exact obX10_bestThrow_106 (obX10_bestThrow_132 hrec) _ _ _ _ _ _ _ r_x20 hF
theorem obX10_bestThrow_46W {E : jEnv} {Rr : Int → jMem → Prop} : ∀ n : Nat, ∀ (l1 l2 l3 l4 l5 : Int) (s : jMem), jHo Rr (jIt (fun _ _ _ _ _ _ => none) (bX10_bestThrow_46) n l1 l2 l3 l4 l5 s) → jGo E MX10_bestThrow 5 Rr [3, 3, 1, 1, 1, 1, 0] 46 [0, l1, l2, l3, l4, l5, 0] ([]) s := by
  intro n
  induction n with
  | zero => intro l1 l2 l3 l4 l5 s hF; exact jHo_none hF
  | succ n ih => exact obX10_bestThrow_46 ih

set_option maxRecDepth 100000 in
set_option maxHeartbeats 4000000 in
theorem oX10_bestThrow : jOk MX10_bestThrow [3, 3] 5 (jFn gX10_bestThrow) := by
  refine jOk_fn (by decide +kernel) (Nat.le_of_ble_eq_true rfl) (by decide +kernel) (.inr (.inl rfl)) ?_
  intro E vs s0 Rr hF ha
  obtain ⟨l0, t0, rfl, r_l0, ha⟩ := jRa_ci ha
  obtain ⟨l1, t1, rfl, r_l1, ha⟩ := jRa_ci ha
  obtain rfl := jRa_ni ha
  replace hF : jHo Rr (jGd (l0 = 0) <| fX10_bestThrow l1 s0) := hF
  have hG := jHo_as hF
  clear hF
  obtain ⟨rfl, hF⟩ := hG
  refine jg_norm [3, 3, 0, 0, 0, 0, 0] [0, l1, 0, 0, 0, 0, 0] rfl rfl ?_
  unfold fX10_bestThrow at hF
  refine ji_aload_n (n := 0) (pc := 0) 0 rfl rfl rfl dX10_bestThrow_0 (fun r1 => ?_)
  refine ji_getr (pc := 1) 7 wfX10_45 (jRc3 rfl) jcl_0 jrf_0_6 dX10_bestThrow_1 ?_
  refine ji_aload_n (n := 1) (pc := 4) l1 rfl rfl rfl dX10_bestThrow_4 (fun r2 => ?_)
  refine jg_bipush (pc := 5) rfl dX10_bestThrow_5 ?_
  refine ji_callVv (pc := 7) 7 [l1, 14] ([]) oX3_reckon wlX10_189 wmX3_reckon rfl rfl (Nat.le_of_ble_eq_true rfl) (jRaC (jRc3 rfl) (jRaC r2 (jRaC (jRc rfl) jRa0))) rfl jcl_7 rfl (Nat.le_of_ble_eq_true rfl) hF dX10_bestThrow_7 (fun x3 s4 hF => ?_)
  refine ji_aload_n (n := 0) (pc := 10) 0 rfl rfl rfl dX10_bestThrow_10 (fun r5 => ?_)
  refine ji_getr (pc := 11) 7 wfX10_45 (jRc3 rfl) jcl_0 jrf_0_6 dX10_bestThrow_11 ?_
  refine ji_getfi (pc := 14) wfX10_193 (jRc3 rfl) jcl_7 hF dX10_bestThrow_14 (fun x6 r_x6 hF => ?_)
  refine ji_iconst (pc := 17) dX10_bestThrow_17 ?_
  refine ji_max (pc := 18) r_x6 (jRc rfl) (Nat.le_of_ble_eq_true rfl) (Nat.le_of_ble_eq_true rfl) ⟨wlX10_196, wq_max⟩ hF dX10_bestThrow_18 (fun x7 r_x7 hF => ?_)
  refine ji_istore_n (n := 2) (pc := 21) [3, 3, 1, 0, 0, 0, 0] [0, l1, x7, 0, 0, 0, 0] rfl r_x7 (Nat.le_of_ble_eq_true rfl) rfl rfl dX10_bestThrow_21 ?_
  refine ji_aload_n (n := 0) (pc := 22) 0 rfl rfl rfl dX10_bestThrow_22 (fun r8 => ?_)
  refine ji_aload_n (n := 1) (pc := 23) l1 rfl rfl rfl dX10_bestThrow_23 (fun r9 => ?_)
  refine ji_callVi (pc := 24) 0 [l1] ([]) oX10_countHidden wlX10_211 wmX10_countHidden rfl rfl (Nat.le_of_ble_eq_true rfl) (jRaC (jRc3 rfl) (jRaC r9 jRa0)) rfl jcl_0 rfl (Nat.le_of_ble_eq_true rfl) hF dX10_bestThrow_24 (fun x10 s11 r_x10 hF => ?_)
  refine jg_pop (pc := 27) (by decide) dX10_bestThrow_27 ?_
  refine ji_aload_n (n := 0) (pc := 28) 0 rfl rfl rfl dX10_bestThrow_28 (fun r12 => ?_)
  refine ji_getr (pc := 29) 7 wfX10_45 (jRc3 rfl) jcl_0 jrf_0_6 dX10_bestThrow_29 ?_
  refine ji_aload_n (n := 1) (pc := 32) l1 rfl rfl rfl dX10_bestThrow_32 (fun r13 => ?_)
  refine ji_iload_n (n := 2) (pc := 33) x7 rfl rfl rfl dX10_bestThrow_33 (fun r14 => ?_)
  refine ji_callVv (pc := 34) 7 [l1, x7] ([]) oX3_reckon wlX10_189 wmX3_reckon rfl rfl (Nat.le_of_ble_eq_true rfl) (jRaC (jRc3 rfl) (jRaC r13 (jRaC r14 jRa0))) rfl jcl_7 rfl (Nat.le_of_ble_eq_true rfl) hF dX10_bestThrow_34 (fun x15 s16 hF => ?_)
  refine jg_bipush (pc := 37) rfl dX10_bestThrow_37 ?_
  refine ji_istore_n (n := 3) (pc := 39) [3, 3, 1, 1, 0, 0, 0] [0, l1, x7, (-3), 0, 0, 0] rfl (jRc rfl) (Nat.le_of_ble_eq_true rfl) rfl rfl dX10_bestThrow_39 ?_
  refine ji_iconst (pc := 40) dX10_bestThrow_40 ?_
  refine ji_istore (n := 4) (pc := 41) [3, 3, 1, 1, 1, 0, 0] [0, l1, x7, (-3), (-1), 0, 0] (jRc rfl) (Nat.le_of_ble_eq_true rfl) rfl rfl dX10_bestThrow_41 ?_
  refine ji_iconst (pc := 43) dX10_bestThrow_43 ?_
  refine ji_istore (n := 5) (pc := 44) [3, 3, 1, 1, 1, 1, 0] [0, l1, x7, (-3), (-1), 0, 0] (jRc rfl) (Nat.le_of_ble_eq_true rfl) rfl rfl dX10_bestThrow_44 ?_
  refine jg_norm [3, 3, 1, 1, 1, 1, 0] [0, l1, x7, (-3), (-1), 0, 0] rfl rfl ?_
  exact obX10_bestThrow_46W 1000 _ _ _ _ _ _ hF
def fX10_best (l1 : Int) (s0 : jMem) : jO :=
jBd (fX10_isHand l1 s0) fun x2 s3 =>
if x2 = 0 then (
jRet (-1) s3)
else (
jGd ((0 : Int) ≤ l1 ∧ l1 < jrk 2 6) <| jLet (jrf 2 l1) fun x6 =>
jGd (jcl x6 = 0) <| jBd (fX1_isFull x6 s3) fun x8 s9 =>
if x8 = 0 then (
jRet (-2) s9)
else (
jGd ((0 : Int) ≤ l1 ∧ l1 < jrk 2 6) <| jLet (jrf 2 l1) fun x13 =>
jBd (fX10_bestThrow x13 s9) fun x14 s15 =>
jRet x14 s15))
def gX10_best (vs : List Int) (s : jMem) : jO := match vs with
  | [a0, a1] => jGd (a0 = 0) <| fX10_best a1 s
  | _ => none
set_option maxRecDepth 100000 in
set_option maxHeartbeats 4000000 in
theorem oX10_best : jOk MX10_best [3, 1] 6 (jFn gX10_best) := by
  refine jOk_fn (by decide +kernel) (Nat.le_of_ble_eq_true rfl) (by decide +kernel) (.inr (.inl rfl)) ?_
  intro E vs s0 Rr hF ha
  obtain ⟨l0, t0, rfl, r_l0, ha⟩ := jRa_ci ha
  obtain ⟨l1, t1, rfl, r_l1, ha⟩ := jRa_ci ha
  obtain rfl := jRa_ni ha
  replace hF : jHo Rr (jGd (l0 = 0) <| fX10_best l1 s0) := hF
  have hG := jHo_as hF
  clear hF
  obtain ⟨rfl, hF⟩ := hG
  refine jg_norm [3, 1] [0, l1] rfl rfl ?_
  unfold fX10_best at hF
  refine ji_iload_n (n := 1) (pc := 0) l1 rfl rfl rfl dX10_best_0 (fun r1 => ?_)
  refine ji_callSz (pc := 1) [l1] ([]) oX10_isHand wlX10_103 wmX10_isHand rfl rfl (Nat.le_of_ble_eq_true rfl) (jRaC r1 jRa0) rfl rfl (Nat.le_of_ble_eq_true rfl) hF dX10_best_1 (fun x2 s3 r_x2 hF => ?_)
  refine ji_if_ne 9 (pc := 4) (jR51 r_x2) hF dX10_best_4 rfl (fun hF => ?_) (fun hF => ?_)
  · refine ji_aload_n (n := 0) (pc := 9) 0 rfl rfl rfl dX10_best_9 (fun r4 => ?_)
    refine ji_getr (pc := 10) 2 wfX10_17 (jRc3 rfl) jcl_0 jrf_0_1 dX10_best_10 ?_
    refine ji_iload_n (n := 1) (pc := 13) l1 rfl rfl rfl dX10_best_13 (fun r5 => ?_)
    refine ji_aaload (pc := 14) 6 4 (jRc3 rfl) r5 (.inr ⟨rfl, rfl, rfl⟩) hF dX10_best_14 (fun x6 r_x6 hF => ?_)
    obtain ⟨h7, hF⟩ := jHo_as hF
    refine ji_callVz (pc := 15) x6 [] ([]) oX1_isFull wlX10_117 wmX1_isFull rfl rfl (Nat.le_of_ble_eq_true rfl) (jRaC r_x6 jRa0) rfl h7 rfl (Nat.le_of_ble_eq_true rfl) hF dX10_best_15 (fun x8 s9 r_x8 hF => ?_)
    refine ji_if_ne 24 (pc := 18) (jR51 r_x8) hF dX10_best_18 rfl (fun hF => ?_) (fun hF => ?_)
    · refine ji_aload_n (n := 0) (pc := 24) 0 rfl rfl rfl dX10_best_24 (fun r10 => ?_)
      refine ji_aload_n (n := 0) (pc := 25) 0 rfl rfl rfl dX10_best_25 (fun r11 => ?_)
      refine ji_getr (pc := 26) 2 wfX10_17 (jRc3 rfl) jcl_0 jrf_0_1 dX10_best_26 ?_
      refine ji_iload_n (n := 1) (pc := 29) l1 rfl rfl rfl dX10_best_29 (fun r12 => ?_)
      refine ji_aaload (pc := 30) 6 4 (jRc3 rfl) r12 (.inr ⟨rfl, rfl, rfl⟩) hF dX10_best_30 (fun x13 r_x13 hF => ?_)
      refine ji_callVi (pc := 31) 0 [x13] ([]) oX10_bestThrow wlX10_217 wmX10_bestThrow rfl rfl (Nat.le_of_ble_eq_true rfl) (jRaC (jRc3 rfl) (jRaC r_x13 jRa0)) rfl jcl_0 rfl (Nat.le_of_ble_eq_true rfl) hF dX10_best_31 (fun x14 s15 r_x14 hF => ?_)
      exact ji_reti (pc := 34) rfl r_x14 hF dX10_best_34
    · refine jg_bipush (pc := 21) rfl dX10_best_21 ?_
      exact ji_reti (pc := 23) rfl (jRc rfl) hF dX10_best_23
  · refine ji_iconst (pc := 7) dX10_best_7 ?_
    exact ji_reti (pc := 8) rfl (jRc rfl) hF dX10_best_8
def fX10_lack (l1 l2 l3 l4 : Int) (s0 : jMem) : jO :=
jBd (fX10_isHand l1 s0) fun x2 s3 =>
if x2 = 0 then (
jRet (-1) s3)
else (
if l2 < 0 then (
jRet (-1) s3)
else (
if 4 ≤ l2 then (
jRet (-1) s3)
else (
if l3 < 0 then (
jRet (-1) s3)
else (
if 4 < l3 then (
jRet (-1) s3)
else (
if l4 < 0 then (
jRet (-1) s3)
else (
if l4 ≤ 1 then (
jGd ((0 : Int) ≤ l1 ∧ l1 < jrk 2 6) <| jLet (jrf 2 l1) fun x13 =>
jBd (fX3_ofRow x13 l2 l3 l4 s3) fun x17 s18 =>
jRet x17 s18)
else (
jRet (-1) s3)))))))
def gX10_lack (vs : List Int) (s : jMem) : jO := match vs with
  | [a0, a1, a2, a3, a4] => jGd (a0 = 0) <| fX10_lack a1 a2 a3 a4 s
  | _ => none
set_option maxRecDepth 100000 in
set_option maxHeartbeats 4000000 in
theorem oX10_lack : jOk MX10_lack [3, 1, 1, 1, 1] 5 (jFn gX10_lack) := by
  refine jOk_fn (by decide +kernel) (Nat.le_of_ble_eq_true rfl) (by decide +kernel) (.inr (.inl rfl)) ?_
  intro E vs s0 Rr hF ha
  obtain ⟨l0, t0, rfl, r_l0, ha⟩ := jRa_ci ha
  obtain ⟨l1, t1, rfl, r_l1, ha⟩ := jRa_ci ha
  obtain ⟨l2, t2, rfl, r_l2, ha⟩ := jRa_ci ha
  obtain ⟨l3, t3, rfl, r_l3, ha⟩ := jRa_ci ha
  obtain ⟨l4, t4, rfl, r_l4, ha⟩ := jRa_ci ha
  obtain rfl := jRa_ni ha
  replace hF : jHo Rr (jGd (l0 = 0) <| fX10_lack l1 l2 l3 l4 s0) := hF
  have hG := jHo_as hF
  clear hF
  obtain ⟨rfl, hF⟩ := hG
  refine jg_norm [3, 1, 1, 1, 1] [0, l1, l2, l3, l4] rfl rfl ?_
  unfold fX10_lack at hF
  refine ji_iload_n (n := 1) (pc := 0) l1 rfl rfl rfl dX10_lack_0 (fun r1 => ?_)
  refine ji_callSz (pc := 1) [l1] ([]) oX10_isHand wlX10_103 wmX10_isHand rfl rfl (Nat.le_of_ble_eq_true rfl) (jRaC r1 jRa0) rfl rfl (Nat.le_of_ble_eq_true rfl) hF dX10_lack_1 (fun x2 s3 r_x2 hF => ?_)
  refine ji_if_eq 36 (pc := 4) (jR51 r_x2) hF dX10_lack_4 rfl (fun hF => ?_) (fun hF => ?_)
  · refine ji_iconst (pc := 36) dX10_lack_36 ?_
    exact ji_reti (pc := 37) rfl (jRc rfl) hF dX10_lack_37
  · refine ji_iload_n (n := 2) (pc := 7) l2 rfl rfl rfl dX10_lack_7 (fun r4 => ?_)
    refine ji_if_lt 36 (pc := 8) r4 hF dX10_lack_8 rfl (fun hF => ?_) (fun hF => ?_)
    · refine ji_iconst (pc := 36) dX10_lack_36 ?_
      exact ji_reti (pc := 37) rfl (jRc rfl) hF dX10_lack_37
    · refine ji_iload_n (n := 2) (pc := 11) l2 rfl rfl rfl dX10_lack_11 (fun r5 => ?_)
      refine ji_iconst (pc := 12) dX10_lack_12 ?_
      refine ji_icmp_ge 36 (pc := 13) r5 (jRc rfl) hF dX10_lack_13 rfl (fun hF => ?_) (fun hF => ?_)
      · refine ji_iconst (pc := 36) dX10_lack_36 ?_
        exact ji_reti (pc := 37) rfl (jRc rfl) hF dX10_lack_37
      · refine ji_iload_n (n := 3) (pc := 16) l3 rfl rfl rfl dX10_lack_16 (fun r6 => ?_)
        refine ji_if_lt 36 (pc := 17) r6 hF dX10_lack_17 rfl (fun hF => ?_) (fun hF => ?_)
        · refine ji_iconst (pc := 36) dX10_lack_36 ?_
          exact ji_reti (pc := 37) rfl (jRc rfl) hF dX10_lack_37
        · refine ji_iload_n (n := 3) (pc := 20) l3 rfl rfl rfl dX10_lack_20 (fun r7 => ?_)
          refine ji_iconst (pc := 21) dX10_lack_21 ?_
          refine ji_icmp_gt 36 (pc := 22) r7 (jRc rfl) hF dX10_lack_22 rfl (fun hF => ?_) (fun hF => ?_)
          · refine ji_iconst (pc := 36) dX10_lack_36 ?_
            exact ji_reti (pc := 37) rfl (jRc rfl) hF dX10_lack_37
          · refine ji_iload (pc := 25) l4 rfl rfl dX10_lack_25 (fun r8 => ?_)
            refine ji_if_lt 36 (pc := 27) r8 hF dX10_lack_27 rfl (fun hF => ?_) (fun hF => ?_)
            · refine ji_iconst (pc := 36) dX10_lack_36 ?_
              exact ji_reti (pc := 37) rfl (jRc rfl) hF dX10_lack_37
            · refine ji_iload (pc := 30) l4 rfl rfl dX10_lack_30 (fun r9 => ?_)
              refine ji_iconst (pc := 32) dX10_lack_32 ?_
              refine ji_icmp_le 38 (pc := 33) r9 (jRc rfl) hF dX10_lack_33 rfl (fun hF => ?_) (fun hF => ?_)
              · refine ji_aload_n (n := 0) (pc := 38) 0 rfl rfl rfl dX10_lack_38 (fun r10 => ?_)
                refine ji_getr (pc := 39) 7 wfX10_45 (jRc3 rfl) jcl_0 jrf_0_6 dX10_lack_39 ?_
                refine ji_aload_n (n := 0) (pc := 42) 0 rfl rfl rfl dX10_lack_42 (fun r11 => ?_)
                refine ji_getr (pc := 43) 2 wfX10_17 (jRc3 rfl) jcl_0 jrf_0_1 dX10_lack_43 ?_
                refine ji_iload_n (n := 1) (pc := 46) l1 rfl rfl rfl dX10_lack_46 (fun r12 => ?_)
                refine ji_aaload (pc := 47) 6 4 (jRc3 rfl) r12 (.inr ⟨rfl, rfl, rfl⟩) hF dX10_lack_47 (fun x13 r_x13 hF => ?_)
                refine ji_iload_n (n := 2) (pc := 48) l2 rfl rfl rfl dX10_lack_48 (fun r14 => ?_)
                refine ji_iload_n (n := 3) (pc := 49) l3 rfl rfl rfl dX10_lack_49 (fun r15 => ?_)
                refine ji_iload (pc := 50) l4 rfl rfl dX10_lack_50 (fun r16 => ?_)
                refine ji_callVi (pc := 52) 7 [x13, l2, l3, l4] ([]) oX3_ofRow wlX10_220 wmX3_ofRow rfl rfl (Nat.le_of_ble_eq_true rfl) (jRaC (jRc3 rfl) (jRaC r_x13 (jRaC r14 (jRaC r15 (jRaC r16 jRa0))))) rfl jcl_7 rfl (Nat.le_of_ble_eq_true rfl) hF dX10_lack_52 (fun x17 s18 r_x17 hF => ?_)
                exact ji_reti (pc := 55) rfl r_x17 hF dX10_lack_55
              · refine ji_iconst (pc := 36) dX10_lack_36 ?_
                exact ji_reti (pc := 37) rfl (jRc rfl) hF dX10_lack_37
def bX10_secondTiles_88 (k97 : Int → Int → Int → jMem → jO) (l1 l2 l3 : Int) (s0 : jMem) : jO :=
jBd (fX3_change l3 1 s0) fun x3 s4 =>
k97 l1 l2 l3 s4
def bX10_secondTiles_97 (k27 : Int → Int → Int → jMem → jO) (l1 l2 l3 : Int) (s0 : jMem) : jO :=
jLet (j32 (l3 + 1)) fun x1 =>
k27 l1 l2 x1 s0
def bX10_secondTiles_27 (k103 : Int → Int → jMem → jO) (rec : Int → Int → Int → jMem → jO) (l1 l2 l3 : Int) (s0 : jMem) : jO :=
if 34 ≤ l3 then (
k103 l1 l2 s0)
else (
jGd ((0 : Int) ≤ l3 ∧ l3 < jik 8) <| jLet (s0 8 l3) fun x4 =>
if x4 ≤ 0 then (
bX10_secondTiles_97 rec l1 l2 l3 s0)
else (
jBd (fX3_change l3 (-1) s0) fun x7 s8 =>
jBd (fX3_total s8) fun x10 s11 =>
jLet (s11 7 12) fun x13 =>
if x13 = 1 then (
jBd (fX3_helpingOf 5 s11) fun x17 s18 =>
jLet (jmax l2 x17) fun x19 =>
bX10_secondTiles_88 (bX10_secondTiles_97 rec) l1 x19 l3 s18)
else (
bX10_secondTiles_88 (bX10_secondTiles_97 rec) l1 l2 l3 s11)))
def bX10_secondTiles_103 (l1 l2 : Int) (s0 : jMem) : jO :=
jGd ((0 : Int) ≤ l1 ∧ l1 < jik 5) <| jLet (s0 5 l1) fun x3 =>
jLet (j32 (x3 + 1)) fun x4 =>
jGd ((0 : Int) ≤ l1 ∧ l1 < jik 5) <| jLet (jU s0 5 l1 x4) fun s5 =>
jRet l2 s5
def fX10_secondTiles (l1 : Int) (s0 : jMem) : jO :=
jLet (s0 7 12) fun x2 =>
if x2 ≤ 1 then (
jGd ((0 : Int) ≤ l1 ∧ l1 < jik 5) <| jLet (s0 5 l1) fun x5 =>
jLet (j32 (x5 - 1)) fun x6 =>
jGd ((0 : Int) ≤ l1 ∧ l1 < jik 5) <| jLet (jU s0 5 l1 x6) fun s7 =>
jIt (fun _ _ _ _ => none) (bX10_secondTiles_27 bX10_secondTiles_103) 1000 l1 0 0 s7)
else (
jRet 0 s0)
def gX10_secondTiles (vs : List Int) (s : jMem) : jO := match vs with
  | [a0, a1] => jGd (a0 = 0) <| fX10_secondTiles a1 s
  | _ => none
set_option maxRecDepth 100000 in
set_option maxHeartbeats 4000000 in
theorem obX10_secondTiles_88 {E : jEnv} {Rr : Int → jMem → Prop} {k97 : Int → Int → Int → jMem → jO} (hk97 : ∀ (l1 l2 l3 : Int) (s : jMem), jHo Rr (k97 l1 l2 l3 s) → jGo E MX10_secondTiles 5 Rr [3, 1, 1, 1] 97 [0, l1, l2, l3] ([]) s) : ∀ (l1 l2 l3 : Int) (s : jMem), jHo Rr (bX10_secondTiles_88 k97 l1 l2 l3 s) → jGo E MX10_secondTiles 5 Rr [3, 1, 1, 1] 88 [0, l1, l2, l3] ([]) s := by
  intro l1 l2 l3 s0 hF
  unfold bX10_secondTiles_88 at hF
  refine ji_aload_n (n := 0) (pc := 88) 0 rfl rfl rfl dX10_secondTiles_88 (fun r1 => ?_)
  refine ji_getr (pc := 89) 7 wfX10_45 (jRc3 rfl) jcl_0 jrf_0_6 dX10_secondTiles_89 ?_
  refine ji_iload_n (n := 3) (pc := 92) l3 rfl rfl rfl dX10_secondTiles_92 (fun r2 => ?_)
  refine ji_iconst (pc := 93) dX10_secondTiles_93 ?_
  refine ji_callVv (pc := 94) 7 [l3, 1] ([]) oX3_change wlX10_224 wmX3_change rfl rfl (Nat.le_of_ble_eq_true rfl) (jRaC (jRc3 rfl) (jRaC r2 (jRaC (jRc rfl) jRa0))) rfl jcl_7 rfl (Nat.le_of_ble_eq_true rfl) hF dX10_secondTiles_94 (fun x3 s4 hF => ?_)
  refine jg_norm [3, 1, 1, 1] [0, l1, l2, l3] rfl rfl ?_
  exact hk97 _ _ _ _ hF
set_option maxRecDepth 100000 in
set_option maxHeartbeats 4000000 in
theorem obX10_secondTiles_97 {E : jEnv} {Rr : Int → jMem → Prop} {k27 : Int → Int → Int → jMem → jO} (hk27 : ∀ (l1 l2 l3 : Int) (s : jMem), jHo Rr (k27 l1 l2 l3 s) → jGo E MX10_secondTiles 5 Rr [3, 1, 1, 1] 27 [0, l1, l2, l3] ([]) s) : ∀ (l1 l2 l3 : Int) (s : jMem), jHo Rr (bX10_secondTiles_97 k27 l1 l2 l3 s) → jGo E MX10_secondTiles 5 Rr [3, 1, 1, 1] 97 [0, l1, l2, l3] ([]) s := by
  intro l1 l2 l3 s0 hF
  unfold bX10_secondTiles_97 at hF
  refine ji_iinc (pc := 97) l3 (fun w => [0, l1, l2, w]) rfl rfl rfl (fun _ => rfl) hF dX10_secondTiles_97 (fun x1 r_x1 hF => ?_)
  refine jg_goto (pc := 100) 27 dX10_secondTiles_100 rfl ?_
  refine jg_norm [3, 1, 1, 1] [0, l1, l2, x1] rfl rfl ?_
  exact hk27 _ _ _ _ hF
set_option maxRecDepth 100000 in
set_option maxHeartbeats 4000000 in
theorem obX10_secondTiles_27 {E : jEnv} {Rr : Int → jMem → Prop} {k103 : Int → Int → jMem → jO} (hk103 : ∀ (l1 l2 : Int) (s : jMem), jHo Rr (k103 l1 l2 s) → jGo E MX10_secondTiles 5 Rr [3, 1, 1, 0] 103 [0, l1, l2, 0] ([]) s) {rec : Int → Int → Int → jMem → jO} (hrec : ∀ (l1 l2 l3 : Int) (s : jMem), jHo Rr (rec l1 l2 l3 s) → jGo E MX10_secondTiles 5 Rr [3, 1, 1, 1] 27 [0, l1, l2, l3] ([]) s) : ∀ (l1 l2 l3 : Int) (s : jMem), jHo Rr (bX10_secondTiles_27 k103 rec l1 l2 l3 s) → jGo E MX10_secondTiles 5 Rr [3, 1, 1, 1] 27 [0, l1, l2, l3] ([]) s := by
  intro l1 l2 l3 s0 hF
  unfold bX10_secondTiles_27 at hF
  refine ji_iload_n (n := 3) (pc := 27) l3 rfl rfl rfl dX10_secondTiles_27 (fun r1 => ?_)
  refine jg_bipush (pc := 28) rfl dX10_secondTiles_28 ?_
  refine ji_icmp_ge 103 (pc := 30) r1 (jRc rfl) hF dX10_secondTiles_30 rfl (fun hF => ?_) (fun hF => ?_)
  · refine jg_norm [3, 1, 1, 0] [0, l1, l2, 0] rfl rfl ?_
    exact hk103 _ _ _ hF
  · refine ji_aload_n (n := 0) (pc := 33) 0 rfl rfl rfl dX10_secondTiles_33 (fun r2 => ?_)
    refine ji_getr (pc := 34) 7 wfX10_45 (jRc3 rfl) jcl_0 jrf_0_6 dX10_secondTiles_34 ?_
    refine ji_getr (pc := 37) 8 wfX10_287 (jRc3 rfl) jcl_7 jrf_7_1 dX10_secondTiles_37 ?_
    refine ji_iload_n (n := 3) (pc := 40) l3 rfl rfl rfl dX10_secondTiles_40 (fun r3 => ?_)
    refine ji_iaload (pc := 41) (jRc3 rfl) r3 hF dX10_secondTiles_41 (fun x4 r_x4 hF => ?_)
    refine ji_if_le 97 (pc := 42) r_x4 hF dX10_secondTiles_42 rfl (fun hF => ?_) (fun hF => ?_)
    · refine jg_norm [3, 1, 1, 1] [0, l1, l2, l3] rfl rfl ?_
      exact obX10_secondTiles_97 hrec _ _ _ _ hF
    · refine ji_aload_n (n := 0) (pc := 45) 0 rfl rfl rfl dX10_secondTiles_45 (fun r5 => ?_)
      refine ji_getr (pc := 46) 7 wfX10_45 (jRc3 rfl) jcl_0 jrf_0_6 dX10_secondTiles_46 ?_
      refine ji_iload_n (n := 3) (pc := 49) l3 rfl rfl rfl dX10_secondTiles_49 (fun r6 => ?_)
      refine ji_iconst (pc := 50) dX10_secondTiles_50 ?_
      refine ji_callVv (pc := 51) 7 [l3, (-1)] ([]) oX3_change wlX10_224 wmX3_change rfl rfl (Nat.le_of_ble_eq_true rfl) (jRaC (jRc3 rfl) (jRaC r6 (jRaC (jRc rfl) jRa0))) rfl jcl_7 rfl (Nat.le_of_ble_eq_true rfl) hF dX10_secondTiles_51 (fun x7 s8 hF => ?_)
      refine ji_aload_n (n := 0) (pc := 54) 0 rfl rfl rfl dX10_secondTiles_54 (fun r9 => ?_)
      refine ji_getr (pc := 55) 7 wfX10_45 (jRc3 rfl) jcl_0 jrf_0_6 dX10_secondTiles_55 ?_
      refine ji_callVv (pc := 58) 7 [] ([]) oX3_total wlX10_227 wmX3_total rfl rfl (Nat.le_of_ble_eq_true rfl) (jRaC (jRc3 rfl) jRa0) rfl jcl_7 rfl (Nat.le_of_ble_eq_true rfl) hF dX10_secondTiles_58 (fun x10 s11 hF => ?_)
      refine ji_aload_n (n := 0) (pc := 61) 0 rfl rfl rfl dX10_secondTiles_61 (fun r12 => ?_)
      refine ji_getr (pc := 62) 7 wfX10_45 (jRc3 rfl) jcl_0 jrf_0_6 dX10_secondTiles_62 ?_
      refine ji_getfi (pc := 65) wfX10_193 (jRc3 rfl) jcl_7 hF dX10_secondTiles_65 (fun x13 r_x13 hF => ?_)
      refine ji_iconst (pc := 68) dX10_secondTiles_68 ?_
      refine ji_icmp_ne 88 (pc := 69) r_x13 (jRc rfl) hF dX10_secondTiles_69 rfl (fun hF => ?_) (fun hF => ?_)
      · refine jg_norm [3, 1, 1, 1] [0, l1, l2, l3] rfl rfl ?_
        exact obX10_secondTiles_88 (obX10_secondTiles_97 hrec) _ _ _ _ hF
      · refine ji_iload_n (n := 2) (pc := 72) l2 rfl rfl rfl dX10_secondTiles_72 (fun r14 => ?_)
        refine ji_aload_n (n := 0) (pc := 73) 0 rfl rfl rfl dX10_secondTiles_73 (fun r15 => ?_)
        refine ji_getr (pc := 74) 7 wfX10_45 (jRc3 rfl) jcl_0 jrf_0_6 dX10_secondTiles_74 ?_
        refine ji_aload_n (n := 0) (pc := 77) 0 rfl rfl rfl dX10_secondTiles_77 (fun r16 => ?_)
        refine ji_getr (pc := 78) 5 wfX10_30 (jRc3 rfl) jcl_0 jrf_0_4 dX10_secondTiles_78 ?_
        refine ji_callVi (pc := 81) 7 [5] (jV E 1 l2 :: []) oX3_helpingOf wlX10_214 wmX3_helpingOf rfl rfl (Nat.le_of_ble_eq_true rfl) (jRaC (jRc3 rfl) (jRaC (jRc3 rfl) jRa0)) rfl jcl_7 rfl (Nat.le_of_ble_eq_true rfl) hF dX10_secondTiles_81 (fun x17 s18 r_x17 hF => ?_)
        refine ji_max (pc := 84) r14 r_x17 (Nat.le_of_ble_eq_true rfl) (Nat.le_of_ble_eq_true rfl) ⟨wlX10_196, wq_max⟩ hF dX10_secondTiles_84 (fun x19 r_x19 hF => ?_)
        refine ji_istore_n (n := 2) (pc := 87) [3, 1, 1, 1] [0, l1, x19, l3] rfl r_x19 (Nat.le_of_ble_eq_true rfl) rfl rfl dX10_secondTiles_87 ?_
        refine jg_norm [3, 1, 1, 1] [0, l1, x19, l3] rfl rfl ?_
        exact obX10_secondTiles_88 (obX10_secondTiles_97 hrec) _ _ _ _ hF
theorem obX10_secondTiles_27W {E : jEnv} {Rr : Int → jMem → Prop} {k103 : Int → Int → jMem → jO} (hk103 : ∀ (l1 l2 : Int) (s : jMem), jHo Rr (k103 l1 l2 s) → jGo E MX10_secondTiles 5 Rr [3, 1, 1, 0] 103 [0, l1, l2, 0] ([]) s) : ∀ n : Nat, ∀ (l1 l2 l3 : Int) (s : jMem), jHo Rr (jIt (fun _ _ _ _ => none) (bX10_secondTiles_27 k103) n l1 l2 l3 s) → jGo E MX10_secondTiles 5 Rr [3, 1, 1, 1] 27 [0, l1, l2, l3] ([]) s := by
  intro n
  induction n with
  | zero => intro l1 l2 l3 s hF; exact jHo_none hF
  | succ n ih => exact obX10_secondTiles_27 hk103 ih

set_option maxRecDepth 100000 in
set_option maxHeartbeats 4000000 in
theorem obX10_secondTiles_103 {E : jEnv} {Rr : Int → jMem → Prop} : ∀ (l1 l2 : Int) (s : jMem), jHo Rr (bX10_secondTiles_103 l1 l2 s) → jGo E MX10_secondTiles 5 Rr [3, 1, 1, 0] 103 [0, l1, l2, 0] ([]) s := by
  intro l1 l2 s0 hF
  unfold bX10_secondTiles_103 at hF
  refine ji_aload_n (n := 0) (pc := 103) 0 rfl rfl rfl dX10_secondTiles_103 (fun r1 => ?_)
  refine ji_getr (pc := 104) 5 wfX10_30 (jRc3 rfl) jcl_0 jrf_0_4 dX10_secondTiles_104 ?_
  refine ji_iload_n (n := 1) (pc := 107) l1 rfl rfl rfl dX10_secondTiles_107 (fun r2 => ?_)
  refine jg_dup2 (pc := 108) (by decide) (by decide) dX10_secondTiles_108 ?_
  refine ji_iaload (pc := 109) (jRc3 rfl) r2 hF dX10_secondTiles_109 (fun x3 r_x3 hF => ?_)
  refine ji_iconst (pc := 110) dX10_secondTiles_110 ?_
  refine ji_iadd (pc := 111)  hF dX10_secondTiles_111 (fun x4 r_x4 hF => ?_)
  refine ji_iastore (pc := 112) (jRc3 rfl) r2 r_x4 hF dX10_secondTiles_112 (fun s5 hF => ?_)
  refine ji_iload_n (n := 2) (pc := 113) l2 rfl rfl rfl dX10_secondTiles_113 (fun r6 => ?_)
  exact ji_reti (pc := 114) rfl r6 hF dX10_secondTiles_114
set_option maxRecDepth 100000 in
set_option maxHeartbeats 4000000 in
theorem oX10_secondTiles : jOk MX10_secondTiles [3, 1] 5 (jFn gX10_secondTiles) := by
  refine jOk_fn (by decide +kernel) (Nat.le_of_ble_eq_true rfl) (by decide +kernel) (.inr (.inl rfl)) ?_
  intro E vs s0 Rr hF ha
  obtain ⟨l0, t0, rfl, r_l0, ha⟩ := jRa_ci ha
  obtain ⟨l1, t1, rfl, r_l1, ha⟩ := jRa_ci ha
  obtain rfl := jRa_ni ha
  replace hF : jHo Rr (jGd (l0 = 0) <| fX10_secondTiles l1 s0) := hF
  have hG := jHo_as hF
  clear hF
  obtain ⟨rfl, hF⟩ := hG
  refine jg_norm [3, 1, 0, 0] [0, l1, 0, 0] rfl rfl ?_
  unfold fX10_secondTiles at hF
  refine ji_aload_n (n := 0) (pc := 0) 0 rfl rfl rfl dX10_secondTiles_0 (fun r1 => ?_)
  refine ji_getr (pc := 1) 7 wfX10_45 (jRc3 rfl) jcl_0 jrf_0_6 dX10_secondTiles_1 ?_
  refine ji_getfi (pc := 4) wfX10_193 (jRc3 rfl) jcl_7 hF dX10_secondTiles_4 (fun x2 r_x2 hF => ?_)
  refine ji_iconst (pc := 7) dX10_secondTiles_7 ?_
  refine ji_icmp_le 13 (pc := 8) r_x2 (jRc rfl) hF dX10_secondTiles_8 rfl (fun hF => ?_) (fun hF => ?_)
  · refine ji_iconst (pc := 13) dX10_secondTiles_13 ?_
    refine ji_istore_n (n := 2) (pc := 14) [3, 1, 1, 0] [0, l1, 0, 0] rfl (jRc rfl) (Nat.le_of_ble_eq_true rfl) rfl rfl dX10_secondTiles_14 ?_
    refine ji_aload_n (n := 0) (pc := 15) 0 rfl rfl rfl dX10_secondTiles_15 (fun r3 => ?_)
    refine ji_getr (pc := 16) 5 wfX10_30 (jRc3 rfl) jcl_0 jrf_0_4 dX10_secondTiles_16 ?_
    refine ji_iload_n (n := 1) (pc := 19) l1 rfl rfl rfl dX10_secondTiles_19 (fun r4 => ?_)
    refine jg_dup2 (pc := 20) (by decide) (by decide) dX10_secondTiles_20 ?_
    refine ji_iaload (pc := 21) (jRc3 rfl) r4 hF dX10_secondTiles_21 (fun x5 r_x5 hF => ?_)
    refine ji_iconst (pc := 22) dX10_secondTiles_22 ?_
    refine ji_isub (pc := 23)  hF dX10_secondTiles_23 (fun x6 r_x6 hF => ?_)
    refine ji_iastore (pc := 24) (jRc3 rfl) r4 r_x6 hF dX10_secondTiles_24 (fun s7 hF => ?_)
    refine ji_iconst (pc := 25) dX10_secondTiles_25 ?_
    refine ji_istore_n (n := 3) (pc := 26) [3, 1, 1, 1] [0, l1, 0, 0] rfl (jRc rfl) (Nat.le_of_ble_eq_true rfl) rfl rfl dX10_secondTiles_26 ?_
    refine jg_norm [3, 1, 1, 1] [0, l1, 0, 0] rfl rfl ?_
    exact obX10_secondTiles_27W obX10_secondTiles_103 1000 _ _ _ _ hF
  · refine ji_iconst (pc := 11) dX10_secondTiles_11 ?_
    exact ji_reti (pc := 12) rfl (jRc rfl) hF dX10_secondTiles_12
def bX10_odds_174 (k188 : Int → Int → Int → jMem → jO) (l3 l5 t0 t1 t2 : Int) (s0 : jMem) : jO :=
jLet (j32 (t1 * t2)) fun x1 =>
jLet (j32 (t0 + x1)) fun x2 =>
jBd (fX3_change l5 (-1) s0) fun x5 s6 =>
k188 l3 x2 l5 s6
def bX10_odds_188 (k111 : Int → Int → Int → jMem → jO) (l3 l4 l5 : Int) (s0 : jMem) : jO :=
jLet (j32 (l5 + 1)) fun x1 =>
k111 l3 l4 x1 s0
def bX10_odds_111 (rec : Int → Int → Int → jMem → jO) (l3 l4 l5 : Int) (s0 : jMem) : jO :=
if 34 ≤ l5 then (
jRet l4 s0)
else (
jGd ((0 : Int) ≤ l5 ∧ l5 < jik 5) <| jLet (s0 5 l5) fun x5 =>
if x5 ≤ 0 then (
bX10_odds_188 rec l3 l4 l5 s0)
else (
jBd (fX3_change l5 1 s0) fun x8 s9 =>
jBd (fX3_total s9) fun x11 s12 =>
jGd ((0 : Int) ≤ l5 ∧ l5 < jik 5) <| jLet (s12 5 l5) fun x16 =>
jLet (s12 7 12) fun x18 =>
if x18 = 0 then (
bX10_odds_174 (bX10_odds_188 rec) l3 l5 l4 x16 l3 s12)
else (
jBd (fX10_secondTiles l5 s12) fun x21 s22 =>
bX10_odds_174 (bX10_odds_188 rec) l3 l5 l4 x16 x21 s22)))
def fX10_odds (l1 l2 : Int) (s0 : jMem) : jO :=
jBd (fX10_isHand l1 s0) fun x2 s3 =>
if x2 = 0 then (
jRet (-1) s3)
else (
if l2 < 1 then (
jRet (-1) s3)
else (
if l2 ≤ 2 then (
jGd ((0 : Int) ≤ l1 ∧ l1 < jrk 2 6) <| jLet (jrf 2 l1) fun x8 =>
jGd (jcl x8 = 0) <| jBd (fX1_rests x8 s3) fun x10 s11 =>
if x10 = 0 then (
jRet (-2) s11)
else (
jGd ((0 : Int) ≤ l1 ∧ l1 < jrk 2 6) <| jLet (jrf 2 l1) fun x15 =>
jBd (fX10_countHidden x15 s11) fun x16 s17 =>
jLet (j32 (x16 - 1)) fun x18 =>
jGd ((0 : Int) ≤ l1 ∧ l1 < jrk 2 6) <| jLet (jrf 2 l1) fun x22 =>
jBd (fX3_reckon x22 l2 s17) fun x24 s25 =>
jLet (s25 7 12) fun x27 =>
if x27 ≤ l2 then (
if l2 = 1 then (
jBd (fX3_helpingOf 5 s25) fun x38 s39 =>
jRet x38 s39)
else (
jGd ((0 : Int) ≤ l1 ∧ l1 < jrk 2 6) <| jLet (jrf 2 l1) fun x33 =>
jBd (fX3_reckon x33 1 s25) fun x34 s35 =>
jIt (fun _ _ _ _ => none) (bX10_odds_111) 1000 x18 0 0 s35))
else (
jRet 0 s25)))
else (
jRet (-1) s3)))
def gX10_odds (vs : List Int) (s : jMem) : jO := match vs with
  | [a0, a1, a2] => jGd (a0 = 0) <| fX10_odds a1 a2 s
  | _ => none
set_option maxRecDepth 100000 in
set_option maxHeartbeats 4000000 in
theorem obX10_odds_174 {E : jEnv} {Rr : Int → jMem → Prop} {k188 : Int → Int → Int → jMem → jO} (hk188 : ∀ (l3 l4 l5 : Int) (s : jMem), jHo Rr (k188 l3 l4 l5 s) → jGo E MX10_odds 6 Rr [3, 0, 0, 1, 1, 1] 188 [0, 0, 0, l3, l4, l5] ([]) s) : ∀ (l3 l5 t0 t1 t2 : Int) (s : jMem), jR 1 t0 → jR 1 t1 → jR 1 t2 → jHo Rr (bX10_odds_174 k188 l3 l5 t0 t1 t2 s) → jGo E MX10_odds 6 Rr [3, 0, 0, 1, 0, 1] 174 [0, 0, 0, l3, 0, l5] (jV E 1 t2 :: jV E 1 t1 :: jV E 1 t0 :: []) s := by
  intro l3 l5 t0 t1 t2 s0 r_t0 r_t1 r_t2 hF
  unfold bX10_odds_174 at hF
  refine ji_imul (pc := 174)  hF dX10_odds_174 (fun x1 r_x1 hF => ?_)
  refine ji_iadd (pc := 175)  hF dX10_odds_175 (fun x2 r_x2 hF => ?_)
  refine ji_istore (n := 4) (pc := 176) [3, 0, 0, 1, 1, 1] [0, 0, 0, l3, x2, l5] r_x2 (Nat.le_of_ble_eq_true rfl) rfl rfl dX10_odds_176 ?_
  refine ji_aload_n (n := 0) (pc := 178) 0 rfl rfl rfl dX10_odds_178 (fun r3 => ?_)
  refine ji_getr (pc := 179) 7 wfX10_45 (jRc3 rfl) jcl_0 jrf_0_6 dX10_odds_179 ?_
  refine ji_iload (pc := 182) l5 rfl rfl dX10_odds_182 (fun r4 => ?_)
  refine ji_iconst (pc := 184) dX10_odds_184 ?_
  refine ji_callVv (pc := 185) 7 [l5, (-1)] ([]) oX3_change wlX10_224 wmX3_change rfl rfl (Nat.le_of_ble_eq_true rfl) (jRaC (jRc3 rfl) (jRaC r4 (jRaC (jRc rfl) jRa0))) rfl jcl_7 rfl (Nat.le_of_ble_eq_true rfl) hF dX10_odds_185 (fun x5 s6 hF => ?_)
  refine jg_norm [3, 0, 0, 1, 1, 1] [0, 0, 0, l3, x2, l5] rfl rfl ?_
  exact hk188 _ _ _ _ hF
set_option maxRecDepth 100000 in
set_option maxHeartbeats 4000000 in
theorem obX10_odds_188 {E : jEnv} {Rr : Int → jMem → Prop} {k111 : Int → Int → Int → jMem → jO} (hk111 : ∀ (l3 l4 l5 : Int) (s : jMem), jHo Rr (k111 l3 l4 l5 s) → jGo E MX10_odds 6 Rr [3, 0, 0, 1, 1, 1] 111 [0, 0, 0, l3, l4, l5] ([]) s) : ∀ (l3 l4 l5 : Int) (s : jMem), jHo Rr (bX10_odds_188 k111 l3 l4 l5 s) → jGo E MX10_odds 6 Rr [3, 0, 0, 1, 1, 1] 188 [0, 0, 0, l3, l4, l5] ([]) s := by
  intro l3 l4 l5 s0 hF
  unfold bX10_odds_188 at hF
  refine ji_iinc (pc := 188) l5 (fun w => [0, 0, 0, l3, l4, w]) rfl rfl rfl (fun _ => rfl) hF dX10_odds_188 (fun x1 r_x1 hF => ?_)
  refine jg_goto (pc := 191) 111 dX10_odds_191 rfl ?_
  refine jg_norm [3, 0, 0, 1, 1, 1] [0, 0, 0, l3, l4, x1] rfl rfl ?_
  exact hk111 _ _ _ _ hF
set_option maxRecDepth 100000 in
set_option maxHeartbeats 4000000 in
theorem obX10_odds_111 {E : jEnv} {Rr : Int → jMem → Prop} {rec : Int → Int → Int → jMem → jO} (hrec : ∀ (l3 l4 l5 : Int) (s : jMem), jHo Rr (rec l3 l4 l5 s) → jGo E MX10_odds 6 Rr [3, 0, 0, 1, 1, 1] 111 [0, 0, 0, l3, l4, l5] ([]) s) : ∀ (l3 l4 l5 : Int) (s : jMem), jHo Rr (bX10_odds_111 rec l3 l4 l5 s) → jGo E MX10_odds 6 Rr [3, 0, 0, 1, 1, 1] 111 [0, 0, 0, l3, l4, l5] ([]) s := by
  intro l3 l4 l5 s0 hF
  unfold bX10_odds_111 at hF
  refine ji_iload (pc := 111) l5 rfl rfl dX10_odds_111 (fun r1 => ?_)
  refine jg_bipush (pc := 113) rfl dX10_odds_113 ?_
  refine ji_icmp_ge 194 (pc := 115) r1 (jRc rfl) hF dX10_odds_115 rfl (fun hF => ?_) (fun hF => ?_)
  · refine ji_iload (pc := 194) l4 rfl rfl dX10_odds_194 (fun r2 => ?_)
    exact ji_reti (pc := 196) rfl r2 hF dX10_odds_196
  · refine ji_aload_n (n := 0) (pc := 118) 0 rfl rfl rfl dX10_odds_118 (fun r3 => ?_)
    refine ji_getr (pc := 119) 5 wfX10_30 (jRc3 rfl) jcl_0 jrf_0_4 dX10_odds_119 ?_
    refine ji_iload (pc := 122) l5 rfl rfl dX10_odds_122 (fun r4 => ?_)
    refine ji_iaload (pc := 124) (jRc3 rfl) r4 hF dX10_odds_124 (fun x5 r_x5 hF => ?_)
    refine ji_if_le 188 (pc := 125) r_x5 hF dX10_odds_125 rfl (fun hF => ?_) (fun hF => ?_)
    · refine jg_norm [3, 0, 0, 1, 1, 1] [0, 0, 0, l3, l4, l5] rfl rfl ?_
      exact obX10_odds_188 hrec _ _ _ _ hF
    · refine ji_aload_n (n := 0) (pc := 128) 0 rfl rfl rfl dX10_odds_128 (fun r6 => ?_)
      refine ji_getr (pc := 129) 7 wfX10_45 (jRc3 rfl) jcl_0 jrf_0_6 dX10_odds_129 ?_
      refine ji_iload (pc := 132) l5 rfl rfl dX10_odds_132 (fun r7 => ?_)
      refine ji_iconst (pc := 134) dX10_odds_134 ?_
      refine ji_callVv (pc := 135) 7 [l5, 1] ([]) oX3_change wlX10_224 wmX3_change rfl rfl (Nat.le_of_ble_eq_true rfl) (jRaC (jRc3 rfl) (jRaC r7 (jRaC (jRc rfl) jRa0))) rfl jcl_7 rfl (Nat.le_of_ble_eq_true rfl) hF dX10_odds_135 (fun x8 s9 hF => ?_)
      refine ji_aload_n (n := 0) (pc := 138) 0 rfl rfl rfl dX10_odds_138 (fun r10 => ?_)
      refine ji_getr (pc := 139) 7 wfX10_45 (jRc3 rfl) jcl_0 jrf_0_6 dX10_odds_139 ?_
      refine ji_callVv (pc := 142) 7 [] ([]) oX3_total wlX10_227 wmX3_total rfl rfl (Nat.le_of_ble_eq_true rfl) (jRaC (jRc3 rfl) jRa0) rfl jcl_7 rfl (Nat.le_of_ble_eq_true rfl) hF dX10_odds_142 (fun x11 s12 hF => ?_)
      refine ji_iload (pc := 145) l4 rfl rfl dX10_odds_145 (fun r13 => ?_)
      refine ji_aload_n (n := 0) (pc := 147) 0 rfl rfl rfl dX10_odds_147 (fun r14 => ?_)
      refine ji_getr (pc := 148) 5 wfX10_30 (jRc3 rfl) jcl_0 jrf_0_4 dX10_odds_148 ?_
      refine ji_iload (pc := 151) l5 rfl rfl dX10_odds_151 (fun r15 => ?_)
      refine ji_iaload (pc := 153) (jRc3 rfl) r15 hF dX10_odds_153 (fun x16 r_x16 hF => ?_)
      refine ji_aload_n (n := 0) (pc := 154) 0 rfl rfl rfl dX10_odds_154 (fun r17 => ?_)
      refine ji_getr (pc := 155) 7 wfX10_45 (jRc3 rfl) jcl_0 jrf_0_6 dX10_odds_155 ?_
      refine ji_getfi (pc := 158) wfX10_193 (jRc3 rfl) jcl_7 hF dX10_odds_158 (fun x18 r_x18 hF => ?_)
      refine ji_if_ne 168 (pc := 161) r_x18 hF dX10_odds_161 rfl (fun hF => ?_) (fun hF => ?_)
      · refine ji_aload_n (n := 0) (pc := 168) 0 rfl rfl rfl dX10_odds_168 (fun r19 => ?_)
        refine ji_iload (pc := 169) l5 rfl rfl dX10_odds_169 (fun r20 => ?_)
        refine ji_callVi (pc := 171) 0 [l5] (jV E 1 x16 :: jV E 1 l4 :: []) oX10_secondTiles wlX10_230 wmX10_secondTiles rfl rfl (Nat.le_of_ble_eq_true rfl) (jRaC (jRc3 rfl) (jRaC r20 jRa0)) rfl jcl_0 rfl (Nat.le_of_ble_eq_true rfl) hF dX10_odds_171 (fun x21 s22 r_x21 hF => ?_)
        refine jg_norm [3, 0, 0, 1, 0, 1] [0, 0, 0, l3, 0, l5] rfl rfl ?_
        exact obX10_odds_174 (obX10_odds_188 hrec) _ _ _ _ _ _ r13 r_x16 r_x21 hF
      · refine ji_iload_n (n := 3) (pc := 164) l3 rfl rfl rfl dX10_odds_164 (fun r23 => ?_)
        refine jg_goto (pc := 165) 174 dX10_odds_165 rfl ?_
        refine jg_norm [3, 0, 0, 1, 0, 1] [0, 0, 0, l3, 0, l5] rfl rfl ?_
        exact obX10_odds_174 (obX10_odds_188 hrec) _ _ _ _ _ _ r13 r_x16 r23 hF
theorem obX10_odds_111W {E : jEnv} {Rr : Int → jMem → Prop} : ∀ n : Nat, ∀ (l3 l4 l5 : Int) (s : jMem), jHo Rr (jIt (fun _ _ _ _ => none) (bX10_odds_111) n l3 l4 l5 s) → jGo E MX10_odds 6 Rr [3, 0, 0, 1, 1, 1] 111 [0, 0, 0, l3, l4, l5] ([]) s := by
  intro n
  induction n with
  | zero => intro l3 l4 l5 s hF; exact jHo_none hF
  | succ n ih => exact obX10_odds_111 ih

set_option maxRecDepth 100000 in
set_option maxHeartbeats 4000000 in
theorem oX10_odds : jOk MX10_odds [3, 1, 1] 6 (jFn gX10_odds) := by
  refine jOk_fn (by decide +kernel) (Nat.le_of_ble_eq_true rfl) (by decide +kernel) (.inr (.inl rfl)) ?_
  intro E vs s0 Rr hF ha
  obtain ⟨l0, t0, rfl, r_l0, ha⟩ := jRa_ci ha
  obtain ⟨l1, t1, rfl, r_l1, ha⟩ := jRa_ci ha
  obtain ⟨l2, t2, rfl, r_l2, ha⟩ := jRa_ci ha
  obtain rfl := jRa_ni ha
  replace hF : jHo Rr (jGd (l0 = 0) <| fX10_odds l1 l2 s0) := hF
  have hG := jHo_as hF
  clear hF
  obtain ⟨rfl, hF⟩ := hG
  refine jg_norm [3, 1, 1, 0, 0, 0] [0, l1, l2, 0, 0, 0] rfl rfl ?_
  unfold fX10_odds at hF
  refine ji_iload_n (n := 1) (pc := 0) l1 rfl rfl rfl dX10_odds_0 (fun r1 => ?_)
  refine ji_callSz (pc := 1) [l1] ([]) oX10_isHand wlX10_103 wmX10_isHand rfl rfl (Nat.le_of_ble_eq_true rfl) (jRaC r1 jRa0) rfl rfl (Nat.le_of_ble_eq_true rfl) hF dX10_odds_1 (fun x2 s3 r_x2 hF => ?_)
  refine ji_if_eq 17 (pc := 4) (jR51 r_x2) hF dX10_odds_4 rfl (fun hF => ?_) (fun hF => ?_)
  · refine ji_iconst (pc := 17) dX10_odds_17 ?_
    exact ji_reti (pc := 18) rfl (jRc rfl) hF dX10_odds_18
  · refine ji_iload_n (n := 2) (pc := 7) l2 rfl rfl rfl dX10_odds_7 (fun r4 => ?_)
    refine ji_iconst (pc := 8) dX10_odds_8 ?_
    refine ji_icmp_lt 17 (pc := 9) r4 (jRc rfl) hF dX10_odds_9 rfl (fun hF => ?_) (fun hF => ?_)
    · refine ji_iconst (pc := 17) dX10_odds_17 ?_
      exact ji_reti (pc := 18) rfl (jRc rfl) hF dX10_odds_18
    · refine ji_iload_n (n := 2) (pc := 12) l2 rfl rfl rfl dX10_odds_12 (fun r5 => ?_)
      refine ji_iconst (pc := 13) dX10_odds_13 ?_
      refine ji_icmp_le 19 (pc := 14) r5 (jRc rfl) hF dX10_odds_14 rfl (fun hF => ?_) (fun hF => ?_)
      · refine ji_aload_n (n := 0) (pc := 19) 0 rfl rfl rfl dX10_odds_19 (fun r6 => ?_)
        refine ji_getr (pc := 20) 2 wfX10_17 (jRc3 rfl) jcl_0 jrf_0_1 dX10_odds_20 ?_
        refine ji_iload_n (n := 1) (pc := 23) l1 rfl rfl rfl dX10_odds_23 (fun r7 => ?_)
        refine ji_aaload (pc := 24) 6 4 (jRc3 rfl) r7 (.inr ⟨rfl, rfl, rfl⟩) hF dX10_odds_24 (fun x8 r_x8 hF => ?_)
        obtain ⟨h9, hF⟩ := jHo_as hF
        refine ji_callVz (pc := 25) x8 [] ([]) oX1_rests wlX10_186 wmX1_rests rfl rfl (Nat.le_of_ble_eq_true rfl) (jRaC r_x8 jRa0) rfl h9 rfl (Nat.le_of_ble_eq_true rfl) hF dX10_odds_25 (fun x10 s11 r_x10 hF => ?_)
        refine ji_if_ne 34 (pc := 28) (jR51 r_x10) hF dX10_odds_28 rfl (fun hF => ?_) (fun hF => ?_)
        · refine ji_aload_n (n := 0) (pc := 34) 0 rfl rfl rfl dX10_odds_34 (fun r12 => ?_)
          refine ji_aload_n (n := 0) (pc := 35) 0 rfl rfl rfl dX10_odds_35 (fun r13 => ?_)
          refine ji_getr (pc := 36) 2 wfX10_17 (jRc3 rfl) jcl_0 jrf_0_1 dX10_odds_36 ?_
          refine ji_iload_n (n := 1) (pc := 39) l1 rfl rfl rfl dX10_odds_39 (fun r14 => ?_)
          refine ji_aaload (pc := 40) 6 4 (jRc3 rfl) r14 (.inr ⟨rfl, rfl, rfl⟩) hF dX10_odds_40 (fun x15 r_x15 hF => ?_)
          refine ji_callVi (pc := 41) 0 [x15] ([]) oX10_countHidden wlX10_211 wmX10_countHidden rfl rfl (Nat.le_of_ble_eq_true rfl) (jRaC (jRc3 rfl) (jRaC r_x15 jRa0)) rfl jcl_0 rfl (Nat.le_of_ble_eq_true rfl) hF dX10_odds_41 (fun x16 s17 r_x16 hF => ?_)
          refine ji_iconst (pc := 44) dX10_odds_44 ?_
          refine ji_isub (pc := 45)  hF dX10_odds_45 (fun x18 r_x18 hF => ?_)
          refine ji_istore_n (n := 3) (pc := 46) [3, 1, 1, 1, 0, 0] [0, l1, l2, x18, 0, 0] rfl r_x18 (Nat.le_of_ble_eq_true rfl) rfl rfl dX10_odds_46 ?_
          refine ji_aload_n (n := 0) (pc := 47) 0 rfl rfl rfl dX10_odds_47 (fun r19 => ?_)
          refine ji_getr (pc := 48) 7 wfX10_45 (jRc3 rfl) jcl_0 jrf_0_6 dX10_odds_48 ?_
          refine ji_aload_n (n := 0) (pc := 51) 0 rfl rfl rfl dX10_odds_51 (fun r20 => ?_)
          refine ji_getr (pc := 52) 2 wfX10_17 (jRc3 rfl) jcl_0 jrf_0_1 dX10_odds_52 ?_
          refine ji_iload_n (n := 1) (pc := 55) l1 rfl rfl rfl dX10_odds_55 (fun r21 => ?_)
          refine ji_aaload (pc := 56) 6 4 (jRc3 rfl) r21 (.inr ⟨rfl, rfl, rfl⟩) hF dX10_odds_56 (fun x22 r_x22 hF => ?_)
          refine ji_iload_n (n := 2) (pc := 57) l2 rfl rfl rfl dX10_odds_57 (fun r23 => ?_)
          refine ji_callVv (pc := 58) 7 [x22, l2] ([]) oX3_reckon wlX10_189 wmX3_reckon rfl rfl (Nat.le_of_ble_eq_true rfl) (jRaC (jRc3 rfl) (jRaC r_x22 (jRaC r23 jRa0))) rfl jcl_7 rfl (Nat.le_of_ble_eq_true rfl) hF dX10_odds_58 (fun x24 s25 hF => ?_)
          refine ji_aload_n (n := 0) (pc := 61) 0 rfl rfl rfl dX10_odds_61 (fun r26 => ?_)
          refine ji_getr (pc := 62) 7 wfX10_45 (jRc3 rfl) jcl_0 jrf_0_6 dX10_odds_62 ?_
          refine ji_getfi (pc := 65) wfX10_193 (jRc3 rfl) jcl_7 hF dX10_odds_65 (fun x27 r_x27 hF => ?_)
          refine ji_iload_n (n := 2) (pc := 68) l2 rfl rfl rfl dX10_odds_68 (fun r28 => ?_)
          refine ji_icmp_le 74 (pc := 69) r_x27 r28 hF dX10_odds_69 rfl (fun hF => ?_) (fun hF => ?_)
          · refine ji_iload_n (n := 2) (pc := 74) l2 rfl rfl rfl dX10_odds_74 (fun r29 => ?_)
            refine ji_iconst (pc := 75) dX10_odds_75 ?_
            refine ji_icmp_ne 91 (pc := 76) r29 (jRc rfl) hF dX10_odds_76 rfl (fun hF => ?_) (fun hF => ?_)
            · refine ji_aload_n (n := 0) (pc := 91) 0 rfl rfl rfl dX10_odds_91 (fun r30 => ?_)
              refine ji_getr (pc := 92) 7 wfX10_45 (jRc3 rfl) jcl_0 jrf_0_6 dX10_odds_92 ?_
              refine ji_aload_n (n := 0) (pc := 95) 0 rfl rfl rfl dX10_odds_95 (fun r31 => ?_)
              refine ji_getr (pc := 96) 2 wfX10_17 (jRc3 rfl) jcl_0 jrf_0_1 dX10_odds_96 ?_
              refine ji_iload_n (n := 1) (pc := 99) l1 rfl rfl rfl dX10_odds_99 (fun r32 => ?_)
              refine ji_aaload (pc := 100) 6 4 (jRc3 rfl) r32 (.inr ⟨rfl, rfl, rfl⟩) hF dX10_odds_100 (fun x33 r_x33 hF => ?_)
              refine ji_iconst (pc := 101) dX10_odds_101 ?_
              refine ji_callVv (pc := 102) 7 [x33, 1] ([]) oX3_reckon wlX10_189 wmX3_reckon rfl rfl (Nat.le_of_ble_eq_true rfl) (jRaC (jRc3 rfl) (jRaC r_x33 (jRaC (jRc rfl) jRa0))) rfl jcl_7 rfl (Nat.le_of_ble_eq_true rfl) hF dX10_odds_102 (fun x34 s35 hF => ?_)
              refine ji_iconst (pc := 105) dX10_odds_105 ?_
              refine ji_istore (n := 4) (pc := 106) [3, 1, 1, 1, 1, 0] [0, l1, l2, x18, 0, 0] (jRc rfl) (Nat.le_of_ble_eq_true rfl) rfl rfl dX10_odds_106 ?_
              refine ji_iconst (pc := 108) dX10_odds_108 ?_
              refine ji_istore (n := 5) (pc := 109) [3, 1, 1, 1, 1, 1] [0, l1, l2, x18, 0, 0] (jRc rfl) (Nat.le_of_ble_eq_true rfl) rfl rfl dX10_odds_109 ?_
              refine jg_norm [3, 0, 0, 1, 1, 1] [0, 0, 0, x18, 0, 0] rfl rfl ?_
              exact obX10_odds_111W 1000 _ _ _ _ hF
            · refine ji_aload_n (n := 0) (pc := 79) 0 rfl rfl rfl dX10_odds_79 (fun r36 => ?_)
              refine ji_getr (pc := 80) 7 wfX10_45 (jRc3 rfl) jcl_0 jrf_0_6 dX10_odds_80 ?_
              refine ji_aload_n (n := 0) (pc := 83) 0 rfl rfl rfl dX10_odds_83 (fun r37 => ?_)
              refine ji_getr (pc := 84) 5 wfX10_30 (jRc3 rfl) jcl_0 jrf_0_4 dX10_odds_84 ?_
              refine ji_callVi (pc := 87) 7 [5] ([]) oX3_helpingOf wlX10_214 wmX3_helpingOf rfl rfl (Nat.le_of_ble_eq_true rfl) (jRaC (jRc3 rfl) (jRaC (jRc3 rfl) jRa0)) rfl jcl_7 rfl (Nat.le_of_ble_eq_true rfl) hF dX10_odds_87 (fun x38 s39 r_x38 hF => ?_)
              exact ji_reti (pc := 90) rfl r_x38 hF dX10_odds_90
          · refine ji_iconst (pc := 72) dX10_odds_72 ?_
            exact ji_reti (pc := 73) rfl (jRc rfl) hF dX10_odds_73
        · refine jg_bipush (pc := 31) rfl dX10_odds_31 ?_
          exact ji_reti (pc := 33) rfl (jRc rfl) hF dX10_odds_33
      · refine ji_iconst (pc := 17) dX10_odds_17 ?_
        exact ji_reti (pc := 18) rfl (jRc rfl) hF dX10_odds_18
def fX10_unseen (l1 : Int) (s0 : jMem) : jO :=
jBd (fX10_isHand l1 s0) fun x2 s3 =>
if x2 = 0 then (
jRet (-1) s3)
else (
jGd ((0 : Int) ≤ l1 ∧ l1 < jrk 2 6) <| jLet (jrf 2 l1) fun x7 =>
jBd (fX10_countHidden x7 s3) fun x8 s9 =>
jRet x8 s9)
def gX10_unseen (vs : List Int) (s : jMem) : jO := match vs with
  | [a0, a1] => jGd (a0 = 0) <| fX10_unseen a1 s
  | _ => none
set_option maxRecDepth 100000 in
set_option maxHeartbeats 4000000 in
theorem oX10_unseen : jOk MX10_unseen [3, 1] 2 (jFn gX10_unseen) := by
  refine jOk_fn (by decide +kernel) (Nat.le_of_ble_eq_true rfl) (by decide +kernel) (.inr (.inl rfl)) ?_
  intro E vs s0 Rr hF ha
  obtain ⟨l0, t0, rfl, r_l0, ha⟩ := jRa_ci ha
  obtain ⟨l1, t1, rfl, r_l1, ha⟩ := jRa_ci ha
  obtain rfl := jRa_ni ha
  replace hF : jHo Rr (jGd (l0 = 0) <| fX10_unseen l1 s0) := hF
  have hG := jHo_as hF
  clear hF
  obtain ⟨rfl, hF⟩ := hG
  refine jg_norm [3, 1] [0, l1] rfl rfl ?_
  unfold fX10_unseen at hF
  refine ji_iload_n (n := 1) (pc := 0) l1 rfl rfl rfl dX10_unseen_0 (fun r1 => ?_)
  refine ji_callSz (pc := 1) [l1] ([]) oX10_isHand wlX10_103 wmX10_isHand rfl rfl (Nat.le_of_ble_eq_true rfl) (jRaC r1 jRa0) rfl rfl (Nat.le_of_ble_eq_true rfl) hF dX10_unseen_1 (fun x2 s3 r_x2 hF => ?_)
  refine ji_if_eq 20 (pc := 4) (jR51 r_x2) hF dX10_unseen_4 rfl (fun hF => ?_) (fun hF => ?_)
  · refine ji_iconst (pc := 20) dX10_unseen_20 ?_
    exact ji_reti (pc := 21) rfl (jRc rfl) hF dX10_unseen_21
  · refine ji_aload_n (n := 0) (pc := 7) 0 rfl rfl rfl dX10_unseen_7 (fun r4 => ?_)
    refine ji_aload_n (n := 0) (pc := 8) 0 rfl rfl rfl dX10_unseen_8 (fun r5 => ?_)
    refine ji_getr (pc := 9) 2 wfX10_17 (jRc3 rfl) jcl_0 jrf_0_1 dX10_unseen_9 ?_
    refine ji_iload_n (n := 1) (pc := 12) l1 rfl rfl rfl dX10_unseen_12 (fun r6 => ?_)
    refine ji_aaload (pc := 13) 6 4 (jRc3 rfl) r6 (.inr ⟨rfl, rfl, rfl⟩) hF dX10_unseen_13 (fun x7 r_x7 hF => ?_)
    refine ji_callVi (pc := 14) 0 [x7] ([]) oX10_countHidden wlX10_211 wmX10_countHidden rfl rfl (Nat.le_of_ble_eq_true rfl) (jRaC (jRc3 rfl) (jRaC r_x7 jRa0)) rfl jcl_0 rfl (Nat.le_of_ble_eq_true rfl) hF dX10_unseen_14 (fun x8 s9 r_x8 hF => ?_)
    refine jg_goto (pc := 17) 21 dX10_unseen_17 rfl ?_
    exact ji_reti (pc := 21) rfl r_x8 hF dX10_unseen_21
def fX10_alike (l1 l2 : Int) (s0 : jMem) : jO :=
jBd (fX10_isHand l1 s0) fun x2 s3 =>
if x2 = 0 then (
jRet (-1) s3)
else (
jBd (fX10_isHand l2 s3) fun x5 s6 =>
if x5 = 0 then (
jRet (-1) s6)
else (
jGd ((0 : Int) ≤ l1 ∧ l1 < jrk 2 6) <| jLet (jrf 2 l1) fun x9 =>
jGd (jcl x9 = 0) <| jLet (jrf x9 0) fun x11 =>
jGd ((0 : Int) ≤ l2 ∧ l2 < jrk 2 6) <| jLet (jrf 2 l2) fun x14 =>
jGd (jcl x14 = 0) <| jLet (jrf x14 0) fun x16 =>
jBd (fX7_same x11 x16 s6) fun x17 s18 =>
if x17 = 0 then (
jRet 0 s18)
else (
jRet 1 s18)))
def gX10_alike (vs : List Int) (s : jMem) : jO := match vs with
  | [a0, a1, a2] => jGd (a0 = 0) <| fX10_alike a1 a2 s
  | _ => none
set_option maxRecDepth 100000 in
set_option maxHeartbeats 4000000 in
theorem oX10_alike : jOk MX10_alike [3, 1, 1] 3 (jFn gX10_alike) := by
  refine jOk_fn (by decide +kernel) (Nat.le_of_ble_eq_true rfl) (by decide +kernel) (.inr (.inl rfl)) ?_
  intro E vs s0 Rr hF ha
  obtain ⟨l0, t0, rfl, r_l0, ha⟩ := jRa_ci ha
  obtain ⟨l1, t1, rfl, r_l1, ha⟩ := jRa_ci ha
  obtain ⟨l2, t2, rfl, r_l2, ha⟩ := jRa_ci ha
  obtain rfl := jRa_ni ha
  replace hF : jHo Rr (jGd (l0 = 0) <| fX10_alike l1 l2 s0) := hF
  have hG := jHo_as hF
  clear hF
  obtain ⟨rfl, hF⟩ := hG
  refine jg_norm [3, 1, 1] [0, l1, l2] rfl rfl ?_
  unfold fX10_alike at hF
  refine ji_iload_n (n := 1) (pc := 0) l1 rfl rfl rfl dX10_alike_0 (fun r1 => ?_)
  refine ji_callSz (pc := 1) [l1] ([]) oX10_isHand wlX10_103 wmX10_isHand rfl rfl (Nat.le_of_ble_eq_true rfl) (jRaC r1 jRa0) rfl rfl (Nat.le_of_ble_eq_true rfl) hF dX10_alike_1 (fun x2 s3 r_x2 hF => ?_)
  refine ji_if_eq 14 (pc := 4) (jR51 r_x2) hF dX10_alike_4 rfl (fun hF => ?_) (fun hF => ?_)
  · refine ji_iconst (pc := 14) dX10_alike_14 ?_
    exact ji_reti (pc := 15) rfl (jRc rfl) hF dX10_alike_15
  · refine ji_iload_n (n := 2) (pc := 7) l2 rfl rfl rfl dX10_alike_7 (fun r4 => ?_)
    refine ji_callSz (pc := 8) [l2] ([]) oX10_isHand wlX10_103 wmX10_isHand rfl rfl (Nat.le_of_ble_eq_true rfl) (jRaC r4 jRa0) rfl rfl (Nat.le_of_ble_eq_true rfl) hF dX10_alike_8 (fun x5 s6 r_x5 hF => ?_)
    refine ji_if_ne 16 (pc := 11) (jR51 r_x5) hF dX10_alike_11 rfl (fun hF => ?_) (fun hF => ?_)
    · refine ji_aload_n (n := 0) (pc := 16) 0 rfl rfl rfl dX10_alike_16 (fun r7 => ?_)
      refine ji_getr (pc := 17) 2 wfX10_17 (jRc3 rfl) jcl_0 jrf_0_1 dX10_alike_17 ?_
      refine ji_iload_n (n := 1) (pc := 20) l1 rfl rfl rfl dX10_alike_20 (fun r8 => ?_)
      refine ji_aaload (pc := 21) 6 4 (jRc3 rfl) r8 (.inr ⟨rfl, rfl, rfl⟩) hF dX10_alike_21 (fun x9 r_x9 hF => ?_)
      obtain ⟨h10, hF⟩ := jHo_as hF
      refine ji_getrL (pc := 22) wfX10_132 r_x9 h10 hF dX10_alike_22 (fun x11 r_x11 hF => ?_)
      refine ji_aload_n (n := 0) (pc := 25) 0 rfl rfl rfl dX10_alike_25 (fun r12 => ?_)
      refine ji_getr (pc := 26) 2 wfX10_17 (jRc3 rfl) jcl_0 jrf_0_1 dX10_alike_26 ?_
      refine ji_iload_n (n := 2) (pc := 29) l2 rfl rfl rfl dX10_alike_29 (fun r13 => ?_)
      refine ji_aaload (pc := 30) 6 4 (jRc3 rfl) r13 (.inr ⟨rfl, rfl, rfl⟩) hF dX10_alike_30 (fun x14 r_x14 hF => ?_)
      obtain ⟨h15, hF⟩ := jHo_as hF
      refine ji_getrL (pc := 31) wfX10_132 r_x14 h15 hF dX10_alike_31 (fun x16 r_x16 hF => ?_)
      refine ji_callSz (pc := 34) [x11, x16] ([]) oX7_same wlX10_233 wmX7_same rfl rfl (Nat.le_of_ble_eq_true rfl) (jRaC r_x11 (jRaC r_x16 jRa0)) rfl rfl (Nat.le_of_ble_eq_true rfl) hF dX10_alike_34 (fun x17 s18 r_x17 hF => ?_)
      refine ji_if_eq 44 (pc := 37) (jR51 r_x17) hF dX10_alike_37 rfl (fun hF => ?_) (fun hF => ?_)
      · refine ji_iconst (pc := 44) dX10_alike_44 ?_
        exact ji_reti (pc := 45) rfl (jRc rfl) hF dX10_alike_45
      · refine ji_iconst (pc := 40) dX10_alike_40 ?_
        refine jg_goto (pc := 41) 45 dX10_alike_41 rfl ?_
        exact ji_reti (pc := 45) rfl (jRc rfl) hF dX10_alike_45
    · refine ji_iconst (pc := 14) dX10_alike_14 ?_
      exact ji_reti (pc := 15) rfl (jRc rfl) hF dX10_alike_15
def bX10_rule_34 (l1 l2 l3 : Int) (s0 : jMem) : jO :=
jLet (s0 21 3) fun x2 =>
if x2 < 20 then (
jBd (fX6_add l1 l2 l3 s0) fun x7 s8 =>
jRet x7 s8)
else (
jRet (-4) s0)
def fX10_rule (l1 l2 l3 : Int) (s0 : jMem) : jO :=
jBd (fX6_isCondition l1 s0) fun x2 s3 =>
if x2 = 0 then (
jRet (-1) s3)
else (
if l2 < 0 then (
jRet (-1) s3)
else (
if l2 ≤ 1000 then (
if l3 = (-1) then (
bX10_rule_34 l1 l2 l3 s3)
else (
jBd (fX6_isCondition l3 s3) fun x8 s9 =>
if x8 = 0 then (
jRet (-1) s9)
else (
bX10_rule_34 l1 l2 l3 s9)))
else (
jRet (-1) s3)))
def gX10_rule (vs : List Int) (s : jMem) : jO := match vs with
  | [a0, a1, a2, a3] => jGd (a0 = 0) <| fX10_rule a1 a2 a3 s
  | _ => none
set_option maxRecDepth 100000 in
set_option maxHeartbeats 4000000 in
theorem obX10_rule_34 {E : jEnv} {Rr : Int → jMem → Prop} : ∀ (l1 l2 l3 : Int) (s : jMem), jHo Rr (bX10_rule_34 l1 l2 l3 s) → jGo E MX10_rule 1 Rr [3, 1, 1, 1] 34 [0, l1, l2, l3] ([]) s := by
  intro l1 l2 l3 s0 hF
  unfold bX10_rule_34 at hF
  refine ji_aload_n (n := 0) (pc := 34) 0 rfl rfl rfl dX10_rule_34 (fun r1 => ?_)
  refine ji_getr (pc := 35) 16 wfX10_52 (jRc3 rfl) jcl_0 jrf_0_7 dX10_rule_35 ?_
  refine ji_getr (pc := 38) 21 wfX10_244 (jRc3 rfl) jcl_16 jrf_16_1 dX10_rule_38 ?_
  refine ji_getfi (pc := 41) wfX10_248 (jRc3 rfl) jcl_21 hF dX10_rule_41 (fun x2 r_x2 hF => ?_)
  refine jg_bipush (pc := 44) rfl dX10_rule_44 ?_
  refine ji_icmp_lt 52 (pc := 46) r_x2 (jRc rfl) hF dX10_rule_46 rfl (fun hF => ?_) (fun hF => ?_)
  · refine ji_aload_n (n := 0) (pc := 52) 0 rfl rfl rfl dX10_rule_52 (fun r3 => ?_)
    refine ji_getr (pc := 53) 16 wfX10_52 (jRc3 rfl) jcl_0 jrf_0_7 dX10_rule_53 ?_
    refine ji_getr (pc := 56) 21 wfX10_244 (jRc3 rfl) jcl_16 jrf_16_1 dX10_rule_56 ?_
    refine ji_iload_n (n := 1) (pc := 59) l1 rfl rfl rfl dX10_rule_59 (fun r4 => ?_)
    refine ji_iload_n (n := 2) (pc := 60) l2 rfl rfl rfl dX10_rule_60 (fun r5 => ?_)
    refine ji_iload_n (n := 3) (pc := 61) l3 rfl rfl rfl dX10_rule_61 (fun r6 => ?_)
    refine ji_callVi (pc := 62) 21 [l1, l2, l3] ([]) oX6_add wlX10_249 wmX6_add rfl rfl (Nat.le_of_ble_eq_true rfl) (jRaC (jRc3 rfl) (jRaC r4 (jRaC r5 (jRaC r6 jRa0)))) rfl jcl_21 rfl (Nat.le_of_ble_eq_true rfl) hF dX10_rule_62 (fun x7 s8 r_x7 hF => ?_)
    exact ji_reti (pc := 65) rfl r_x7 hF dX10_rule_65
  · refine jg_bipush (pc := 49) rfl dX10_rule_49 ?_
    exact ji_reti (pc := 51) rfl (jRc rfl) hF dX10_rule_51
set_option maxRecDepth 100000 in
set_option maxHeartbeats 4000000 in
theorem oX10_rule : jOk MX10_rule [3, 1, 1, 1] 1 (jFn gX10_rule) := by
  refine jOk_fn (by decide +kernel) (Nat.le_of_ble_eq_true rfl) (by decide +kernel) (.inr (.inl rfl)) ?_
  intro E vs s0 Rr hF ha
  obtain ⟨l0, t0, rfl, r_l0, ha⟩ := jRa_ci ha
  obtain ⟨l1, t1, rfl, r_l1, ha⟩ := jRa_ci ha
  obtain ⟨l2, t2, rfl, r_l2, ha⟩ := jRa_ci ha
  obtain ⟨l3, t3, rfl, r_l3, ha⟩ := jRa_ci ha
  obtain rfl := jRa_ni ha
  replace hF : jHo Rr (jGd (l0 = 0) <| fX10_rule l1 l2 l3 s0) := hF
  have hG := jHo_as hF
  clear hF
  obtain ⟨rfl, hF⟩ := hG
  refine jg_norm [3, 1, 1, 1] [0, l1, l2, l3] rfl rfl ?_
  unfold fX10_rule at hF
  refine ji_iload_n (n := 1) (pc := 0) l1 rfl rfl rfl dX10_rule_0 (fun r1 => ?_)
  refine ji_callSz (pc := 1) [l1] ([]) oX6_isCondition wlX10_239 wmX6_isCondition rfl rfl (Nat.le_of_ble_eq_true rfl) (jRaC r1 jRa0) rfl rfl (Nat.le_of_ble_eq_true rfl) hF dX10_rule_1 (fun x2 s3 r_x2 hF => ?_)
  refine ji_if_eq 18 (pc := 4) (jR51 r_x2) hF dX10_rule_4 rfl (fun hF => ?_) (fun hF => ?_)
  · refine ji_iconst (pc := 18) dX10_rule_18 ?_
    exact ji_reti (pc := 19) rfl (jRc rfl) hF dX10_rule_19
  · refine ji_iload_n (n := 2) (pc := 7) l2 rfl rfl rfl dX10_rule_7 (fun r4 => ?_)
    refine ji_if_lt 18 (pc := 8) r4 hF dX10_rule_8 rfl (fun hF => ?_) (fun hF => ?_)
    · refine ji_iconst (pc := 18) dX10_rule_18 ?_
      exact ji_reti (pc := 19) rfl (jRc rfl) hF dX10_rule_19
    · refine ji_iload_n (n := 2) (pc := 11) l2 rfl rfl rfl dX10_rule_11 (fun r5 => ?_)
      refine jg_sipush (pc := 12) rfl dX10_rule_12 ?_
      refine ji_icmp_le 20 (pc := 15) r5 (jRc rfl) hF dX10_rule_15 rfl (fun hF => ?_) (fun hF => ?_)
      · refine ji_iload_n (n := 3) (pc := 20) l3 rfl rfl rfl dX10_rule_20 (fun r6 => ?_)
        refine ji_iconst (pc := 21) dX10_rule_21 ?_
        refine ji_icmp_eq 34 (pc := 22) r6 (jRc rfl) hF dX10_rule_22 rfl (fun hF => ?_) (fun hF => ?_)
        · refine jg_norm [3, 1, 1, 1] [0, l1, l2, l3] rfl rfl ?_
          exact obX10_rule_34 _ _ _ _ hF
        · refine ji_iload_n (n := 3) (pc := 25) l3 rfl rfl rfl dX10_rule_25 (fun r7 => ?_)
          refine ji_callSz (pc := 26) [l3] ([]) oX6_isCondition wlX10_239 wmX6_isCondition rfl rfl (Nat.le_of_ble_eq_true rfl) (jRaC r7 jRa0) rfl rfl (Nat.le_of_ble_eq_true rfl) hF dX10_rule_26 (fun x8 s9 r_x8 hF => ?_)
          refine ji_if_ne 34 (pc := 29) (jR51 r_x8) hF dX10_rule_29 rfl (fun hF => ?_) (fun hF => ?_)
          · refine jg_norm [3, 1, 1, 1] [0, l1, l2, l3] rfl rfl ?_
            exact obX10_rule_34 _ _ _ _ hF
          · refine ji_iconst (pc := 32) dX10_rule_32 ?_
            exact ji_reti (pc := 33) rfl (jRc rfl) hF dX10_rule_33
      · refine ji_iconst (pc := 18) dX10_rule_18 ?_
        exact ji_reti (pc := 19) rfl (jRc rfl) hF dX10_rule_19
def fX10_clearRules (s0 : jMem) : jO :=
jLet (s0 21 3) fun x2 =>
jLet (jU s0 21 3 0) fun s4 =>
jRet x2 s4
def gX10_clearRules (vs : List Int) (s : jMem) : jO := match vs with
  | [a0] => jGd (a0 = 0) <| fX10_clearRules s
  | _ => none
set_option maxRecDepth 100000 in
set_option maxHeartbeats 4000000 in
theorem oX10_clearRules : jOk MX10_clearRules [3] 0 (jFn gX10_clearRules) := by
  refine jOk_fn (by decide +kernel) (Nat.le_of_ble_eq_true rfl) (by decide +kernel) (.inr (.inl rfl)) ?_
  intro E vs s0 Rr hF ha
  obtain ⟨l0, t0, rfl, r_l0, ha⟩ := jRa_ci ha
  obtain rfl := jRa_ni ha
  replace hF : jHo Rr (jGd (l0 = 0) <| fX10_clearRules s0) := hF
  have hG := jHo_as hF
  clear hF
  obtain ⟨rfl, hF⟩ := hG
  refine jg_norm [3, 0] [0, 0] rfl rfl ?_
  unfold fX10_clearRules at hF
  refine ji_aload_n (n := 0) (pc := 0) 0 rfl rfl rfl dX10_clearRules_0 (fun r1 => ?_)
  refine ji_getr (pc := 1) 16 wfX10_52 (jRc3 rfl) jcl_0 jrf_0_7 dX10_clearRules_1 ?_
  refine ji_getr (pc := 4) 21 wfX10_244 (jRc3 rfl) jcl_16 jrf_16_1 dX10_clearRules_4 ?_
  refine ji_getfi (pc := 7) wfX10_248 (jRc3 rfl) jcl_21 hF dX10_clearRules_7 (fun x2 r_x2 hF => ?_)
  refine ji_istore_n (n := 1) (pc := 10) [3, 1] [0, x2] rfl r_x2 (Nat.le_of_ble_eq_true rfl) rfl rfl dX10_clearRules_10 ?_
  refine ji_aload_n (n := 0) (pc := 11) 0 rfl rfl rfl dX10_clearRules_11 (fun r3 => ?_)
  refine ji_getr (pc := 12) 16 wfX10_52 (jRc3 rfl) jcl_0 jrf_0_7 dX10_clearRules_12 ?_
  refine ji_getr (pc := 15) 21 wfX10_244 (jRc3 rfl) jcl_16 jrf_16_1 dX10_clearRules_15 ?_
  refine ji_iconst (pc := 18) dX10_clearRules_18 ?_
  refine ji_putfi (pc := 19) wpX10_248 (jRc3 rfl) jcl_21 (jRc rfl) hF dX10_clearRules_19 (fun s4 hF => ?_)
  refine ji_iload_n (n := 1) (pc := 22) x2 rfl rfl rfl dX10_clearRules_22 (fun r5 => ?_)
  exact ji_reti (pc := 23) rfl r5 hF dX10_clearRules_23
def fX10_worth (l1 : Int) (s0 : jMem) : jO :=
jBd (fX10_isHand l1 s0) fun x2 s3 =>
if x2 = 0 then (
jRet (-1) s3)
else (
jGd ((0 : Int) ≤ l1 ∧ l1 < jrk 2 6) <| jLet (jrf 2 l1) fun x7 =>
jBd (fX2_weigh x7 s3) fun x8 s9 =>
if x8 = 0 then (
jRet (-2) s9)
else (
jLet (s9 16 3) fun x11 =>
jRet x11 s9))
def gX10_worth (vs : List Int) (s : jMem) : jO := match vs with
  | [a0, a1] => jGd (a0 = 0) <| fX10_worth a1 s
  | _ => none
set_option maxRecDepth 100000 in
set_option maxHeartbeats 4000000 in
theorem oX10_worth : jOk MX10_worth [3, 1] 12 (jFn gX10_worth) := by
  refine jOk_fn (by decide +kernel) (Nat.le_of_ble_eq_true rfl) (by decide +kernel) (.inr (.inl rfl)) ?_
  intro E vs s0 Rr hF ha
  obtain ⟨l0, t0, rfl, r_l0, ha⟩ := jRa_ci ha
  obtain ⟨l1, t1, rfl, r_l1, ha⟩ := jRa_ci ha
  obtain rfl := jRa_ni ha
  replace hF : jHo Rr (jGd (l0 = 0) <| fX10_worth l1 s0) := hF
  have hG := jHo_as hF
  clear hF
  obtain ⟨rfl, hF⟩ := hG
  refine jg_norm [3, 1] [0, l1] rfl rfl ?_
  unfold fX10_worth at hF
  refine ji_iload_n (n := 1) (pc := 0) l1 rfl rfl rfl dX10_worth_0 (fun r1 => ?_)
  refine ji_callSz (pc := 1) [l1] ([]) oX10_isHand wlX10_103 wmX10_isHand rfl rfl (Nat.le_of_ble_eq_true rfl) (jRaC r1 jRa0) rfl rfl (Nat.le_of_ble_eq_true rfl) hF dX10_worth_1 (fun x2 s3 r_x2 hF => ?_)
  refine ji_if_ne 9 (pc := 4) (jR51 r_x2) hF dX10_worth_4 rfl (fun hF => ?_) (fun hF => ?_)
  · refine ji_aload_n (n := 0) (pc := 9) 0 rfl rfl rfl dX10_worth_9 (fun r4 => ?_)
    refine ji_getr (pc := 10) 16 wfX10_52 (jRc3 rfl) jcl_0 jrf_0_7 dX10_worth_10 ?_
    refine ji_aload_n (n := 0) (pc := 13) 0 rfl rfl rfl dX10_worth_13 (fun r5 => ?_)
    refine ji_getr (pc := 14) 2 wfX10_17 (jRc3 rfl) jcl_0 jrf_0_1 dX10_worth_14 ?_
    refine ji_iload_n (n := 1) (pc := 17) l1 rfl rfl rfl dX10_worth_17 (fun r6 => ?_)
    refine ji_aaload (pc := 18) 6 4 (jRc3 rfl) r6 (.inr ⟨rfl, rfl, rfl⟩) hF dX10_worth_18 (fun x7 r_x7 hF => ?_)
    refine ji_callVz (pc := 19) 16 [x7] ([]) oX2_weigh wlX10_253 wmX2_weigh rfl rfl (Nat.le_of_ble_eq_true rfl) (jRaC (jRc3 rfl) (jRaC r_x7 jRa0)) rfl jcl_16 rfl (Nat.le_of_ble_eq_true rfl) hF dX10_worth_19 (fun x8 s9 r_x8 hF => ?_)
    refine ji_if_eq 35 (pc := 22) (jR51 r_x8) hF dX10_worth_22 rfl (fun hF => ?_) (fun hF => ?_)
    · refine jg_bipush (pc := 35) rfl dX10_worth_35 ?_
      exact ji_reti (pc := 37) rfl (jRc rfl) hF dX10_worth_37
    · refine ji_aload_n (n := 0) (pc := 25) 0 rfl rfl rfl dX10_worth_25 (fun r10 => ?_)
      refine ji_getr (pc := 26) 16 wfX10_52 (jRc3 rfl) jcl_0 jrf_0_7 dX10_worth_26 ?_
      refine ji_getfi (pc := 29) wfX10_257 (jRc3 rfl) jcl_16 hF dX10_worth_29 (fun x11 r_x11 hF => ?_)
      refine jg_goto (pc := 32) 37 dX10_worth_32 rfl ?_
      exact ji_reti (pc := 37) rfl r_x11 hF dX10_worth_37
  · refine ji_iconst (pc := 7) dX10_worth_7 ?_
    exact ji_reti (pc := 8) rfl (jRc rfl) hF dX10_worth_8
def fX10_by (l1 : Int) (s0 : jMem) : jO :=
jBd (fX10_isHand l1 s0) fun x2 s3 =>
if x2 = 0 then (
jRet (-1) s3)
else (
jGd ((0 : Int) ≤ l1 ∧ l1 < jrk 2 6) <| jLet (jrf 2 l1) fun x7 =>
jBd (fX2_weigh x7 s3) fun x8 s9 =>
if x8 = 0 then (
jRet (-2) s9)
else (
jLet (s9 16 4) fun x11 =>
jRet x11 s9))
def gX10_by (vs : List Int) (s : jMem) : jO := match vs with
  | [a0, a1] => jGd (a0 = 0) <| fX10_by a1 s
  | _ => none
set_option maxRecDepth 100000 in
set_option maxHeartbeats 4000000 in
theorem oX10_by : jOk MX10_by [3, 1] 12 (jFn gX10_by) := by
  refine jOk_fn (by decide +kernel) (Nat.le_of_ble_eq_true rfl) (by decide +kernel) (.inr (.inl rfl)) ?_
  intro E vs s0 Rr hF ha
  obtain ⟨l0, t0, rfl, r_l0, ha⟩ := jRa_ci ha
  obtain ⟨l1, t1, rfl, r_l1, ha⟩ := jRa_ci ha
  obtain rfl := jRa_ni ha
  replace hF : jHo Rr (jGd (l0 = 0) <| fX10_by l1 s0) := hF
  have hG := jHo_as hF
  clear hF
  obtain ⟨rfl, hF⟩ := hG
  refine jg_norm [3, 1] [0, l1] rfl rfl ?_
  unfold fX10_by at hF
  refine ji_iload_n (n := 1) (pc := 0) l1 rfl rfl rfl dX10_by_0 (fun r1 => ?_)
  refine ji_callSz (pc := 1) [l1] ([]) oX10_isHand wlX10_103 wmX10_isHand rfl rfl (Nat.le_of_ble_eq_true rfl) (jRaC r1 jRa0) rfl rfl (Nat.le_of_ble_eq_true rfl) hF dX10_by_1 (fun x2 s3 r_x2 hF => ?_)
  refine ji_if_ne 9 (pc := 4) (jR51 r_x2) hF dX10_by_4 rfl (fun hF => ?_) (fun hF => ?_)
  · refine ji_aload_n (n := 0) (pc := 9) 0 rfl rfl rfl dX10_by_9 (fun r4 => ?_)
    refine ji_getr (pc := 10) 16 wfX10_52 (jRc3 rfl) jcl_0 jrf_0_7 dX10_by_10 ?_
    refine ji_aload_n (n := 0) (pc := 13) 0 rfl rfl rfl dX10_by_13 (fun r5 => ?_)
    refine ji_getr (pc := 14) 2 wfX10_17 (jRc3 rfl) jcl_0 jrf_0_1 dX10_by_14 ?_
    refine ji_iload_n (n := 1) (pc := 17) l1 rfl rfl rfl dX10_by_17 (fun r6 => ?_)
    refine ji_aaload (pc := 18) 6 4 (jRc3 rfl) r6 (.inr ⟨rfl, rfl, rfl⟩) hF dX10_by_18 (fun x7 r_x7 hF => ?_)
    refine ji_callVz (pc := 19) 16 [x7] ([]) oX2_weigh wlX10_253 wmX2_weigh rfl rfl (Nat.le_of_ble_eq_true rfl) (jRaC (jRc3 rfl) (jRaC r_x7 jRa0)) rfl jcl_16 rfl (Nat.le_of_ble_eq_true rfl) hF dX10_by_19 (fun x8 s9 r_x8 hF => ?_)
    refine ji_if_eq 35 (pc := 22) (jR51 r_x8) hF dX10_by_22 rfl (fun hF => ?_) (fun hF => ?_)
    · refine jg_bipush (pc := 35) rfl dX10_by_35 ?_
      exact ji_reti (pc := 37) rfl (jRc rfl) hF dX10_by_37
    · refine ji_aload_n (n := 0) (pc := 25) 0 rfl rfl rfl dX10_by_25 (fun r10 => ?_)
      refine ji_getr (pc := 26) 16 wfX10_52 (jRc3 rfl) jcl_0 jrf_0_7 dX10_by_26 ?_
      refine ji_getfi (pc := 29) wfX10_260 (jRc3 rfl) jcl_16 hF dX10_by_29 (fun x11 r_x11 hF => ?_)
      refine jg_goto (pc := 32) 37 dX10_by_32 rfl ?_
      exact ji_reti (pc := 37) rfl r_x11 hF dX10_by_37
  · refine ji_iconst (pc := 7) dX10_by_7 ?_
    exact ji_reti (pc := 8) rfl (jRc rfl) hF dX10_by_8
def fX10_holds (l1 l2 : Int) (s0 : jMem) : jO :=
jBd (fX10_isHand l1 s0) fun x2 s3 =>
if x2 = 0 then (
jRet (-1) s3)
else (
jBd (fX6_isCondition l2 s3) fun x5 s6 =>
if x5 = 0 then (
jRet (-1) s6)
else (
jGd ((0 : Int) ≤ l1 ∧ l1 < jrk 2 6) <| jLet (jrf 2 l1) fun x10 =>
jBd (fX2_weigh x10 s6) fun x11 s12 =>
if x11 = 0 then (
jRet (-2) s12)
else (
jLet (s12 16 5) fun x15 =>
jBd (fX6_isIn l2 x15 s12) fun x16 s17 =>
if x16 = 0 then (
jRet 0 s17)
else (
jRet 1 s17))))
def gX10_holds (vs : List Int) (s : jMem) : jO := match vs with
  | [a0, a1, a2] => jGd (a0 = 0) <| fX10_holds a1 a2 s
  | _ => none
set_option maxRecDepth 100000 in
set_option maxHeartbeats 4000000 in
theorem oX10_holds : jOk MX10_holds [3, 1, 1] 12 (jFn gX10_holds) := by
  refine jOk_fn (by decide +kernel) (Nat.le_of_ble_eq_true rfl) (by decide +kernel) (.inr (.inl rfl)) ?_
  intro E vs s0 Rr hF ha
  obtain ⟨l0, t0, rfl, r_l0, ha⟩ := jRa_ci ha
  obtain ⟨l1, t1, rfl, r_l1, ha⟩ := jRa_ci ha
  obtain ⟨l2, t2, rfl, r_l2, ha⟩ := jRa_ci ha
  obtain rfl := jRa_ni ha
  replace hF : jHo Rr (jGd (l0 = 0) <| fX10_holds l1 l2 s0) := hF
  have hG := jHo_as hF
  clear hF
  obtain ⟨rfl, hF⟩ := hG
  refine jg_norm [3, 1, 1] [0, l1, l2] rfl rfl ?_
  unfold fX10_holds at hF
  refine ji_iload_n (n := 1) (pc := 0) l1 rfl rfl rfl dX10_holds_0 (fun r1 => ?_)
  refine ji_callSz (pc := 1) [l1] ([]) oX10_isHand wlX10_103 wmX10_isHand rfl rfl (Nat.le_of_ble_eq_true rfl) (jRaC r1 jRa0) rfl rfl (Nat.le_of_ble_eq_true rfl) hF dX10_holds_1 (fun x2 s3 r_x2 hF => ?_)
  refine ji_if_eq 14 (pc := 4) (jR51 r_x2) hF dX10_holds_4 rfl (fun hF => ?_) (fun hF => ?_)
  · refine ji_iconst (pc := 14) dX10_holds_14 ?_
    exact ji_reti (pc := 15) rfl (jRc rfl) hF dX10_holds_15
  · refine ji_iload_n (n := 2) (pc := 7) l2 rfl rfl rfl dX10_holds_7 (fun r4 => ?_)
    refine ji_callSz (pc := 8) [l2] ([]) oX6_isCondition wlX10_239 wmX6_isCondition rfl rfl (Nat.le_of_ble_eq_true rfl) (jRaC r4 jRa0) rfl rfl (Nat.le_of_ble_eq_true rfl) hF dX10_holds_8 (fun x5 s6 r_x5 hF => ?_)
    refine ji_if_ne 16 (pc := 11) (jR51 r_x5) hF dX10_holds_11 rfl (fun hF => ?_) (fun hF => ?_)
    · refine ji_aload_n (n := 0) (pc := 16) 0 rfl rfl rfl dX10_holds_16 (fun r7 => ?_)
      refine ji_getr (pc := 17) 16 wfX10_52 (jRc3 rfl) jcl_0 jrf_0_7 dX10_holds_17 ?_
      refine ji_aload_n (n := 0) (pc := 20) 0 rfl rfl rfl dX10_holds_20 (fun r8 => ?_)
      refine ji_getr (pc := 21) 2 wfX10_17 (jRc3 rfl) jcl_0 jrf_0_1 dX10_holds_21 ?_
      refine ji_iload_n (n := 1) (pc := 24) l1 rfl rfl rfl dX10_holds_24 (fun r9 => ?_)
      refine ji_aaload (pc := 25) 6 4 (jRc3 rfl) r9 (.inr ⟨rfl, rfl, rfl⟩) hF dX10_holds_25 (fun x10 r_x10 hF => ?_)
      refine ji_callVz (pc := 26) 16 [x10] ([]) oX2_weigh wlX10_253 wmX2_weigh rfl rfl (Nat.le_of_ble_eq_true rfl) (jRaC (jRc3 rfl) (jRaC r_x10 jRa0)) rfl jcl_16 rfl (Nat.le_of_ble_eq_true rfl) hF dX10_holds_26 (fun x11 s12 r_x11 hF => ?_)
      refine ji_if_ne 35 (pc := 29) (jR51 r_x11) hF dX10_holds_29 rfl (fun hF => ?_) (fun hF => ?_)
      · refine ji_iload_n (n := 2) (pc := 35) l2 rfl rfl rfl dX10_holds_35 (fun r13 => ?_)
        refine ji_aload_n (n := 0) (pc := 36) 0 rfl rfl rfl dX10_holds_36 (fun r14 => ?_)
        refine ji_getr (pc := 37) 16 wfX10_52 (jRc3 rfl) jcl_0 jrf_0_7 dX10_holds_37 ?_
        refine ji_getfi (pc := 40) wfX10_263 (jRc3 rfl) jcl_16 hF dX10_holds_40 (fun x15 r_x15 hF => ?_)
        refine ji_callSz (pc := 43) [l2, x15] ([]) oX6_isIn wlX10_266 wmX6_isIn rfl rfl (Nat.le_of_ble_eq_true rfl) (jRaC r13 (jRaC r_x15 jRa0)) rfl rfl (Nat.le_of_ble_eq_true rfl) hF dX10_holds_43 (fun x16 s17 r_x16 hF => ?_)
        refine ji_if_eq 53 (pc := 46) (jR51 r_x16) hF dX10_holds_46 rfl (fun hF => ?_) (fun hF => ?_)
        · refine ji_iconst (pc := 53) dX10_holds_53 ?_
          exact ji_reti (pc := 54) rfl (jRc rfl) hF dX10_holds_54
        · refine ji_iconst (pc := 49) dX10_holds_49 ?_
          refine jg_goto (pc := 50) 54 dX10_holds_50 rfl ?_
          exact ji_reti (pc := 54) rfl (jRc rfl) hF dX10_holds_54
      · refine jg_bipush (pc := 32) rfl dX10_holds_32 ?_
        exact ji_reti (pc := 34) rfl (jRc rfl) hF dX10_holds_34
    · refine ji_iconst (pc := 14) dX10_holds_14 ?_
      exact ji_reti (pc := 15) rfl (jRc rfl) hF dX10_holds_15
end

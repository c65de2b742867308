section
def fX7_same (l0 l1 : Int) (s0 : jMem) : jO :=
jBd (fX7_rowKey l0 0 s0) fun x2 s3 =>
jBd (fX7_rowKey l0 1 s3) fun x5 s6 =>
jBd (fX7_rowKey l0 2 s6) fun x8 s9 =>
jBd (fX7_rowKey l1 0 s9) fun x11 s12 =>
jBd (fX7_rowKey l1 1 s12) fun x14 s15 =>
jBd (fX7_rowKey l1 2 s15) fun x17 s18 =>
jLet (jmin x5 x8) fun x22 =>
jLet (jmin x2 x22) fun x23 =>
jLet (jmin x14 x17) fun x27 =>
jLet (jmin x11 x27) fun x28 =>
if x23 = x28 then (
jLet (jmax x5 x8) fun x32 =>
jLet (jmax x2 x32) fun x33 =>
jLet (jmax x14 x17) fun x37 =>
jLet (jmax x11 x37) fun x38 =>
if x33 = x38 then (
jLet (j32 (x2 + x5)) fun x41 =>
jLet (j32 (x41 + x8)) fun x43 =>
jLet (j32 (x11 + x14)) fun x46 =>
jLet (j32 (x46 + x17)) fun x48 =>
if x43 = x48 then (
jBd (fX7_lastRowKey l0 s18) fun x50 s51 =>
jBd (fX7_lastRowKey l1 s51) fun x53 s54 =>
if x50 = x53 then (
jRet 1 s54)
else (
jRet 0 s54))
else (
jRet 0 s18))
else (
jRet 0 s18))
else (
jRet 0 s18)
def gX7_same (vs : List Int) (s : jMem) : jO := match vs with
  | [a0, a1] => fX7_same a0 a1 s
  | _ => none
set_option maxRecDepth 100000 in
set_option maxHeartbeats 4000000 in
theorem oX7_same : jOk MX7_same [3, 3] 2 (jFn gX7_same) := by
  refine jOk_fn (by decide +kernel) (Nat.le_of_ble_eq_true rfl) (by decide +kernel) (.inr (.inr (.inr rfl))) ?_
  intro E vs s0 Rr hF ha
  obtain ⟨l0, t0, rfl, r_l0, ha⟩ := jRa_ci ha
  obtain ⟨l1, t1, rfl, r_l1, ha⟩ := jRa_ci ha
  obtain rfl := jRa_ni ha
  replace hF : jHo Rr (fX7_same l0 l1 s0) := hF
  refine jg_norm [3, 3, 0, 0, 0, 0, 0, 0] [l0, l1, 0, 0, 0, 0, 0, 0] rfl rfl ?_
  unfold fX7_same at hF
  refine ji_aload_n (n := 0) (pc := 0) l0 rfl rfl rfl dX7_same_0 (fun r1 => ?_)
  refine ji_iconst (pc := 1) dX7_same_1 ?_
  refine ji_callSi (pc := 2) [l0, 0] ([]) oX7_rowKey wlX7_7 wmX7_rowKey rfl rfl (Nat.le_of_ble_eq_true rfl) (jRaC r1 (jRaC (jRc rfl) jRa0)) rfl rfl (Nat.le_of_ble_eq_true rfl) hF dX7_same_2 (fun x2 s3 r_x2 hF => ?_)
  refine ji_istore_n (n := 2) (pc := 5) [3, 3, 1, 0, 0, 0, 0, 0] [l0, l1, x2, 0, 0, 0, 0, 0] rfl r_x2 (Nat.le_of_ble_eq_true rfl) rfl rfl dX7_same_5 ?_
  refine ji_aload_n (n := 0) (pc := 6) l0 rfl rfl rfl dX7_same_6 (fun r4 => ?_)
  refine ji_iconst (pc := 7) dX7_same_7 ?_
  refine ji_callSi (pc := 8) [l0, 1] ([]) oX7_rowKey wlX7_7 wmX7_rowKey rfl rfl (Nat.le_of_ble_eq_true rfl) (jRaC r4 (jRaC (jRc rfl) jRa0)) rfl rfl (Nat.le_of_ble_eq_true rfl) hF dX7_same_8 (fun x5 s6 r_x5 hF => ?_)
  refine ji_istore_n (n := 3) (pc := 11) [3, 3, 1, 1, 0, 0, 0, 0] [l0, l1, x2, x5, 0, 0, 0, 0] rfl r_x5 (Nat.le_of_ble_eq_true rfl) rfl rfl dX7_same_11 ?_
  refine ji_aload_n (n := 0) (pc := 12) l0 rfl rfl rfl dX7_same_12 (fun r7 => ?_)
  refine ji_iconst (pc := 13) dX7_same_13 ?_
  refine ji_callSi (pc := 14) [l0, 2] ([]) oX7_rowKey wlX7_7 wmX7_rowKey rfl rfl (Nat.le_of_ble_eq_true rfl) (jRaC r7 (jRaC (jRc rfl) jRa0)) rfl rfl (Nat.le_of_ble_eq_true rfl) hF dX7_same_14 (fun x8 s9 r_x8 hF => ?_)
  refine ji_istore (n := 4) (pc := 17) [3, 3, 1, 1, 1, 0, 0, 0] [l0, l1, x2, x5, x8, 0, 0, 0] r_x8 (Nat.le_of_ble_eq_true rfl) rfl rfl dX7_same_17 ?_
  refine ji_aload_n (n := 1) (pc := 19) l1 rfl rfl rfl dX7_same_19 (fun r10 => ?_)
  refine ji_iconst (pc := 20) dX7_same_20 ?_
  refine ji_callSi (pc := 21) [l1, 0] ([]) oX7_rowKey wlX7_7 wmX7_rowKey rfl rfl (Nat.le_of_ble_eq_true rfl) (jRaC r10 (jRaC (jRc rfl) jRa0)) rfl rfl (Nat.le_of_ble_eq_true rfl) hF dX7_same_21 (fun x11 s12 r_x11 hF => ?_)
  refine ji_istore (n := 5) (pc := 24) [3, 3, 1, 1, 1, 1, 0, 0] [l0, l1, x2, x5, x8, x11, 0, 0] r_x11 (Nat.le_of_ble_eq_true rfl) rfl rfl dX7_same_24 ?_
  refine ji_aload_n (n := 1) (pc := 26) l1 rfl rfl rfl dX7_same_26 (fun r13 => ?_)
  refine ji_iconst (pc := 27) dX7_same_27 ?_
  refine ji_callSi (pc := 28) [l1, 1] ([]) oX7_rowKey wlX7_7 wmX7_rowKey rfl rfl (Nat.le_of_ble_eq_true rfl) (jRaC r13 (jRaC (jRc rfl) jRa0)) rfl rfl (Nat.le_of_ble_eq_true rfl) hF dX7_same_28 (fun x14 s15 r_x14 hF => ?_)
  refine ji_istore (n := 6) (pc := 31) [3, 3, 1, 1, 1, 1, 1, 0] [l0, l1, x2, x5, x8, x11, x14, 0] r_x14 (Nat.le_of_ble_eq_true rfl) rfl rfl dX7_same_31 ?_
  refine ji_aload_n (n := 1) (pc := 33) l1 rfl rfl rfl dX7_same_33 (fun r16 => ?_)
  refine ji_iconst (pc := 34) dX7_same_34 ?_
  refine ji_callSi (pc := 35) [l1, 2] ([]) oX7_rowKey wlX7_7 wmX7_rowKey rfl rfl (Nat.le_of_ble_eq_true rfl) (jRaC r16 (jRaC (jRc rfl) jRa0)) rfl rfl (Nat.le_of_ble_eq_true rfl) hF dX7_same_35 (fun x17 s18 r_x17 hF => ?_)
  refine ji_istore (n := 7) (pc := 38) [3, 3, 1, 1, 1, 1, 1, 1] [l0, l1, x2, x5, x8, x11, x14, x17] r_x17 (Nat.le_of_ble_eq_true rfl) rfl rfl dX7_same_38 ?_
  refine ji_iload_n (n := 2) (pc := 40) x2 rfl rfl rfl dX7_same_40 (fun r19 => ?_)
  refine ji_iload_n (n := 3) (pc := 41) x5 rfl rfl rfl dX7_same_41 (fun r20 => ?_)
  refine ji_iload (pc := 42) x8 rfl rfl dX7_same_42 (fun r21 => ?_)
  refine ji_min (pc := 44) r20 r21 (Nat.le_of_ble_eq_true rfl) (Nat.le_of_ble_eq_true rfl) ⟨wlX7_13, wq_min⟩ hF dX7_same_44 (fun x22 r_x22 hF => ?_)
  refine ji_min (pc := 47) r19 r_x22 (Nat.le_of_ble_eq_true rfl) (Nat.le_of_ble_eq_true rfl) ⟨wlX7_13, wq_min⟩ hF dX7_same_47 (fun x23 r_x23 hF => ?_)
  refine ji_iload (pc := 50) x11 rfl rfl dX7_same_50 (fun r24 => ?_)
  refine ji_iload (pc := 52) x14 rfl rfl dX7_same_52 (fun r25 => ?_)
  refine ji_iload (pc := 54) x17 rfl rfl dX7_same_54 (fun r26 => ?_)
  refine ji_min (pc := 56) r25 r26 (Nat.le_of_ble_eq_true rfl) (Nat.le_of_ble_eq_true rfl) ⟨wlX7_13, wq_min⟩ hF dX7_same_56 (fun x27 r_x27 hF => ?_)
  refine ji_min (pc := 59) r24 r_x27 (Nat.le_of_ble_eq_true rfl) (Nat.le_of_ble_eq_true rfl) ⟨wlX7_13, wq_min⟩ hF dX7_same_59 (fun x28 r_x28 hF => ?_)
  refine ji_icmp_ne 122 (pc := 62) r_x23 r_x28 hF dX7_same_62 rfl (fun hF => ?_) (fun hF => ?_)
  · refine ji_iconst (pc := 122) dX7_same_122 ?_
    exact ji_retz (pc := 123) rfl (jRc5 rfl) hF dX7_same_123
  · refine ji_iload_n (n := 2) (pc := 65) x2 rfl rfl rfl dX7_same_65 (fun r29 => ?_)
    refine ji_iload_n (n := 3) (pc := 66) x5 rfl rfl rfl dX7_same_66 (fun r30 => ?_)
    refine ji_iload (pc := 67) x8 rfl rfl dX7_same_67 (fun r31 => ?_)
    refine ji_max (pc := 69) r30 r31 (Nat.le_of_ble_eq_true rfl) (Nat.le_of_ble_eq_true rfl) ⟨wlX7_19, wq_max⟩ hF dX7_same_69 (fun x32 r_x32 hF => ?_)
    refine ji_max (pc := 72) r29 r_x32 (Nat.le_of_ble_eq_true rfl) (Nat.le_of_ble_eq_true rfl) ⟨wlX7_19, wq_max⟩ hF dX7_same_72 (fun x33 r_x33 hF => ?_)
    refine ji_iload (pc := 75) x11 rfl rfl dX7_same_75 (fun r34 => ?_)
    refine ji_iload (pc := 77) x14 rfl rfl dX7_same_77 (fun r35 => ?_)
    refine ji_iload (pc := 79) x17 rfl rfl dX7_same_79 (fun r36 => ?_)
    refine ji_max (pc := 81) r35 r36 (Nat.le_of_ble_eq_true rfl) (Nat.le_of_ble_eq_true rfl) ⟨wlX7_19, wq_max⟩ hF dX7_same_81 (fun x37 r_x37 hF => ?_)
    refine ji_max (pc := 84) r34 r_x37 (Nat.le_of_ble_eq_true rfl) (Nat.le_of_ble_eq_true rfl) ⟨wlX7_19, wq_max⟩ hF dX7_same_84 (fun x38 r_x38 hF => ?_)
    refine ji_icmp_ne 122 (pc := 87) r_x33 r_x38 hF dX7_same_87 rfl (fun hF => ?_) (fun hF => ?_)
    · refine ji_iconst (pc := 122) dX7_same_122 ?_
      exact ji_retz (pc := 123) rfl (jRc5 rfl) hF dX7_same_123
    · refine ji_iload_n (n := 2) (pc := 90) x2 rfl rfl rfl dX7_same_90 (fun r39 => ?_)
      refine ji_iload_n (n := 3) (pc := 91) x5 rfl rfl rfl dX7_same_91 (fun r40 => ?_)
      refine ji_iadd (pc := 92)  hF dX7_same_92 (fun x41 r_x41 hF => ?_)
      refine ji_iload (pc := 93) x8 rfl rfl dX7_same_93 (fun r42 => ?_)
      refine ji_iadd (pc := 95)  hF dX7_same_95 (fun x43 r_x43 hF => ?_)
      refine ji_iload (pc := 96) x11 rfl rfl dX7_same_96 (fun r44 => ?_)
      refine ji_iload (pc := 98) x14 rfl rfl dX7_same_98 (fun r45 => ?_)
      refine ji_iadd (pc := 100)  hF dX7_same_100 (fun x46 r_x46 hF => ?_)
      refine ji_iload (pc := 101) x17 rfl rfl dX7_same_101 (fun r47 => ?_)
      refine ji_iadd (pc := 103)  hF dX7_same_103 (fun x48 r_x48 hF => ?_)
      refine ji_icmp_ne 122 (pc := 104) r_x43 r_x48 hF dX7_same_104 rfl (fun hF => ?_) (fun hF => ?_)
      · refine ji_iconst (pc := 122) dX7_same_122 ?_
        exact ji_retz (pc := 123) rfl (jRc5 rfl) hF dX7_same_123
      · refine ji_aload_n (n := 0) (pc := 107) l0 rfl rfl rfl dX7_same_107 (fun r49 => ?_)
        refine ji_callSi (pc := 108) [l0] ([]) oX7_lastRowKey wlX7_22 wmX7_lastRowKey rfl rfl (Nat.le_of_ble_eq_true rfl) (jRaC r49 jRa0) rfl rfl (Nat.le_of_ble_eq_true rfl) hF dX7_same_108 (fun x50 s51 r_x50 hF => ?_)
        refine ji_aload_n (n := 1) (pc := 111) l1 rfl rfl rfl dX7_same_111 (fun r52 => ?_)
        refine ji_callSi (pc := 112) [l1] (jV E 1 x50 :: []) oX7_lastRowKey wlX7_22 wmX7_lastRowKey rfl rfl (Nat.le_of_ble_eq_true rfl) (jRaC r52 jRa0) rfl rfl (Nat.le_of_ble_eq_true rfl) hF dX7_same_112 (fun x53 s54 r_x53 hF => ?_)
        refine ji_icmp_ne 122 (pc := 115) r_x50 r_x53 hF dX7_same_115 rfl (fun hF => ?_) (fun hF => ?_)
        · refine ji_iconst (pc := 122) dX7_same_122 ?_
          exact ji_retz (pc := 123) rfl (jRc5 rfl) hF dX7_same_123
        · refine ji_iconst (pc := 118) dX7_same_118 ?_
          refine jg_goto (pc := 119) 123 dX7_same_119 rfl ?_
          exact ji_retz (pc := 123) rfl (jRc5 rfl) hF dX7_same_123
def fX8_isSort (l0 : Int) (s0 : jMem) : jO :=
if l0 < 0 then (
jRet 0 s0)
else (
if 34 ≤ l0 then (
jRet 0 s0)
else (
jRet 1 s0))
def gX8_isSort (vs : List Int) (s : jMem) : jO := match vs with
  | [a0] => fX8_isSort a0 s
  | _ => none
set_option maxRecDepth 100000 in
set_option maxHeartbeats 4000000 in
theorem oX8_isSort : jOk MX8_isSort [1] 0 (jFn gX8_isSort) := by
  refine jOk_fn (by decide +kernel) (Nat.le_of_ble_eq_true rfl) (by decide +kernel) (.inr (.inr (.inr rfl))) ?_
  intro E vs s0 Rr hF ha
  obtain ⟨l0, t0, rfl, r_l0, ha⟩ := jRa_ci ha
  obtain rfl := jRa_ni ha
  replace hF : jHo Rr (fX8_isSort l0 s0) := hF
  refine jg_norm [1] [l0] rfl rfl ?_
  unfold fX8_isSort at hF
  refine ji_iload_n (n := 0) (pc := 0) l0 rfl rfl rfl dX8_isSort_0 (fun r1 => ?_)
  refine ji_if_lt 14 (pc := 1) r1 hF dX8_isSort_1 rfl (fun hF => ?_) (fun hF => ?_)
  · refine ji_iconst (pc := 14) dX8_isSort_14 ?_
    exact ji_retz (pc := 15) rfl (jRc5 rfl) hF dX8_isSort_15
  · refine ji_iload_n (n := 0) (pc := 4) l0 rfl rfl rfl dX8_isSort_4 (fun r2 => ?_)
    refine jg_bipush (pc := 5) rfl dX8_isSort_5 ?_
    refine ji_icmp_ge 14 (pc := 7) r2 (jRc rfl) hF dX8_isSort_7 rfl (fun hF => ?_) (fun hF => ?_)
    · refine ji_iconst (pc := 14) dX8_isSort_14 ?_
      exact ji_retz (pc := 15) rfl (jRc5 rfl) hF dX8_isSort_15
    · refine ji_iconst (pc := 10) dX8_isSort_10 ?_
      refine jg_goto (pc := 11) 15 dX8_isSort_11 rfl ?_
      exact ji_retz (pc := 15) rfl (jRc5 rfl) hF dX8_isSort_15
end

section
def fX10_isRack (l0 : Int) (s0 : jMem) : jO :=
if l0 < 0 then (
jRet 0 s0)
else (
if 6 ≤ l0 then (
jRet 0 s0)
else (
jRet 1 s0))
def gX10_isRack (vs : List Int) (s : jMem) : jO := match vs with
  | [a0] => fX10_isRack a0 s
  | _ => none
set_option maxRecDepth 100000 in
set_option maxHeartbeats 4000000 in
theorem oX10_isRack : jOk MX10_isRack [1] 0 (jFn gX10_isRack) := by
  refine jOk_fn (by decide +kernel) (Nat.le_of_ble_eq_true rfl) (by decide +kernel) (.inr (.inr (.inr rfl))) ?_
  intro E vs s0 Rr hF ha
  obtain ⟨l0, t0, rfl, r_l0, ha⟩ := jRa_ci ha
  obtain rfl := jRa_ni ha
  replace hF : jHo Rr (fX10_isRack l0 s0) := hF
  refine jg_norm [1] [l0] rfl rfl ?_
  unfold fX10_isRack at hF
  refine ji_iload_n (n := 0) (pc := 0) l0 rfl rfl rfl dX10_isRack_0 (fun r1 => ?_)
  refine ji_if_lt 14 (pc := 1) r1 hF dX10_isRack_1 rfl (fun hF => ?_) (fun hF => ?_)
  · refine ji_iconst (pc := 14) dX10_isRack_14 ?_
    exact ji_retz (pc := 15) rfl (jRc5 rfl) hF dX10_isRack_15
  · refine ji_iload_n (n := 0) (pc := 4) l0 rfl rfl rfl dX10_isRack_4 (fun r2 => ?_)
    refine jg_bipush (pc := 5) rfl dX10_isRack_5 ?_
    refine ji_icmp_ge 14 (pc := 7) r2 (jRc rfl) hF dX10_isRack_7 rfl (fun hF => ?_) (fun hF => ?_)
    · refine ji_iconst (pc := 14) dX10_isRack_14 ?_
      exact ji_retz (pc := 15) rfl (jRc5 rfl) hF dX10_isRack_15
    · refine ji_iconst (pc := 10) dX10_isRack_10 ?_
      refine jg_goto (pc := 11) 15 dX10_isRack_11 rfl ?_
      exact ji_retz (pc := 15) rfl (jRc5 rfl) hF dX10_isRack_15
def fX10_rack (l1 l2 l3 : Int) (s0 : jMem) : jO :=
jBd (fX10_isRack l1 s0) fun x2 s3 =>
if x2 = 0 then (
jRet (-1) s3)
else (
if l2 < (-1) then (
jRet (-1) s3)
else (
if l2 ≤ 2 then (
if l2 = (-1) then (
jGd ((0 : Int) ≤ l1 ∧ l1 < jrk 1 5) <| jLet (jrf 1 l1) fun x19 =>
jGd (jcl x19 = 4) <| jBd (fX5_become x19 l2 0 s3) fun x22 s23 =>
jRet 0 s23)
else (
if 0 ≤ l3 then (
if l3 ≤ 40 then (
jGd ((0 : Int) ≤ l1 ∧ l1 < jrk 1 5) <| jLet (jrf 1 l1) fun x11 =>
jGd (jcl x11 = 4) <| jBd (fX5_become x11 l2 l3 s3) fun x15 s16 =>
jRet 0 s16)
else (
jRet (-4) s3))
else (
jRet (-13) s3)))
else (
jRet (-1) s3)))
def gX10_rack (vs : List Int) (s : jMem) : jO := match vs with
  | [a0, a1, a2, a3] => jGd (a0 = 0) <| fX10_rack a1 a2 a3 s
  | _ => none
set_option maxRecDepth 100000 in
set_option maxHeartbeats 4000000 in
theorem oX10_rack : jOk MX10_rack [3, 1, 1, 1] 2 (jFn gX10_rack) := by
  refine jOk_fn (by decide +kernel) (Nat.le_of_ble_eq_true rfl) (by decide +kernel) (.inr (.inl rfl)) ?_
  intro E vs s0 Rr hF ha
  obtain ⟨l0, t0, rfl, r_l0, ha⟩ := jRa_ci ha
  obtain ⟨l1, t1, rfl, r_l1, ha⟩ := jRa_ci ha
  obtain ⟨l2, t2, rfl, r_l2, ha⟩ := jRa_ci ha
  obtain ⟨l3, t3, rfl, r_l3, ha⟩ := jRa_ci ha
  obtain rfl := jRa_ni ha
  replace hF : jHo Rr (jGd (l0 = 0) <| fX10_rack l1 l2 l3 s0) := hF
  have hG := jHo_as hF
  clear hF
  obtain ⟨rfl, hF⟩ := hG
  refine jg_norm [3, 1, 1, 1] [0, l1, l2, l3] rfl rfl ?_
  unfold fX10_rack at hF
  refine ji_iload_n (n := 1) (pc := 0) l1 rfl rfl rfl dX10_rack_0 (fun r1 => ?_)
  refine ji_callSz (pc := 1) [l1] ([]) oX10_isRack wlX10_68 wmX10_isRack rfl rfl (Nat.le_of_ble_eq_true rfl) (jRaC r1 jRa0) rfl rfl (Nat.le_of_ble_eq_true rfl) hF dX10_rack_1 (fun x2 s3 r_x2 hF => ?_)
  refine ji_if_eq 17 (pc := 4) (jR51 r_x2) hF dX10_rack_4 rfl (fun hF => ?_) (fun hF => ?_)
  · refine ji_iconst (pc := 17) dX10_rack_17 ?_
    exact ji_reti (pc := 18) rfl (jRc rfl) hF dX10_rack_18
  · refine ji_iload_n (n := 2) (pc := 7) l2 rfl rfl rfl dX10_rack_7 (fun r4 => ?_)
    refine ji_iconst (pc := 8) dX10_rack_8 ?_
    refine ji_icmp_lt 17 (pc := 9) r4 (jRc rfl) hF dX10_rack_9 rfl (fun hF => ?_) (fun hF => ?_)
    · refine ji_iconst (pc := 17) dX10_rack_17 ?_
      exact ji_reti (pc := 18) rfl (jRc rfl) hF dX10_rack_18
    · refine ji_iload_n (n := 2) (pc := 12) l2 rfl rfl rfl dX10_rack_12 (fun r5 => ?_)
      refine ji_iconst (pc := 13) dX10_rack_13 ?_
      refine ji_icmp_le 19 (pc := 14) r5 (jRc rfl) hF dX10_rack_14 rfl (fun hF => ?_) (fun hF => ?_)
      · refine ji_iload_n (n := 2) (pc := 19) l2 rfl rfl rfl dX10_rack_19 (fun r6 => ?_)
        refine ji_iconst (pc := 20) dX10_rack_20 ?_
        refine ji_icmp_ne 37 (pc := 21) r6 (jRc rfl) hF dX10_rack_21 rfl (fun hF => ?_) (fun hF => ?_)
        · refine ji_iload_n (n := 3) (pc := 37) l3 rfl rfl rfl dX10_rack_37 (fun r7 => ?_)
          refine ji_if_ge 44 (pc := 38) r7 hF dX10_rack_38 rfl (fun hF => ?_) (fun hF => ?_)
          · refine ji_iload_n (n := 3) (pc := 44) l3 rfl rfl rfl dX10_rack_44 (fun r8 => ?_)
            refine jg_bipush (pc := 45) rfl dX10_rack_45 ?_
            refine ji_icmp_le 53 (pc := 47) r8 (jRc rfl) hF dX10_rack_47 rfl (fun hF => ?_) (fun hF => ?_)
            · refine ji_aload_n (n := 0) (pc := 53) 0 rfl rfl rfl dX10_rack_53 (fun r9 => ?_)
              refine ji_getr (pc := 54) 1 wfX10_11 (jRc3 rfl) jcl_0 jrf_0_0 dX10_rack_54 ?_
              refine ji_iload_n (n := 1) (pc := 57) l1 rfl rfl rfl dX10_rack_57 (fun r10 => ?_)
              refine ji_aaload (pc := 58) 5 3 (jRc3 rfl) r10 (.inl ⟨rfl, rfl, rfl⟩) hF dX10_rack_58 (fun x11 r_x11 hF => ?_)
              refine ji_iload_n (n := 2) (pc := 59) l2 rfl rfl rfl dX10_rack_59 (fun r12 => ?_)
              refine ji_iload_n (n := 3) (pc := 60) l3 rfl rfl rfl dX10_rack_60 (fun r13 => ?_)
              obtain ⟨h14, hF⟩ := jHo_as hF
              refine ji_callVv (pc := 61) x11 [l2, l3] ([]) oX5_become wlX10_72 wmX5_become rfl rfl (Nat.le_of_ble_eq_true rfl) (jRaC r_x11 (jRaC r12 (jRaC r13 jRa0))) rfl h14 rfl (Nat.le_of_ble_eq_true rfl) hF dX10_rack_61 (fun x15 s16 hF => ?_)
              refine ji_iconst (pc := 64) dX10_rack_64 ?_
              exact ji_reti (pc := 65) rfl (jRc rfl) hF dX10_rack_65
            · refine jg_bipush (pc := 50) rfl dX10_rack_50 ?_
              exact ji_reti (pc := 52) rfl (jRc rfl) hF dX10_rack_52
          · refine jg_bipush (pc := 41) rfl dX10_rack_41 ?_
            exact ji_reti (pc := 43) rfl (jRc rfl) hF dX10_rack_43
        · refine ji_aload_n (n := 0) (pc := 24) 0 rfl rfl rfl dX10_rack_24 (fun r17 => ?_)
          refine ji_getr (pc := 25) 1 wfX10_11 (jRc3 rfl) jcl_0 jrf_0_0 dX10_rack_25 ?_
          refine ji_iload_n (n := 1) (pc := 28) l1 rfl rfl rfl dX10_rack_28 (fun r18 => ?_)
          refine ji_aaload (pc := 29) 5 3 (jRc3 rfl) r18 (.inl ⟨rfl, rfl, rfl⟩) hF dX10_rack_29 (fun x19 r_x19 hF => ?_)
          refine ji_iload_n (n := 2) (pc := 30) l2 rfl rfl rfl dX10_rack_30 (fun r20 => ?_)
          refine ji_iconst (pc := 31) dX10_rack_31 ?_
          obtain ⟨h21, hF⟩ := jHo_as hF
          refine ji_callVv (pc := 32) x19 [l2, 0] ([]) oX5_become wlX10_72 wmX5_become rfl rfl (Nat.le_of_ble_eq_true rfl) (jRaC r_x19 (jRaC r20 (jRaC (jRc rfl) jRa0))) rfl h21 rfl (Nat.le_of_ble_eq_true rfl) hF dX10_rack_32 (fun x22 s23 hF => ?_)
          refine ji_iconst (pc := 35) dX10_rack_35 ?_
          exact ji_reti (pc := 36) rfl (jRc rfl) hF dX10_rack_36
      · refine ji_iconst (pc := 17) dX10_rack_17 ?_
        exact ji_reti (pc := 18) rfl (jRc rfl) hF dX10_rack_18
def fX10_refusalOfPlace (l1 l2 : Int) (s0 : jMem) : jO :=
jBd (fX10_isRack l1 s0) fun x2 s3 =>
if x2 = 0 then (
jRet (-100000) s3)
else (
jGd ((0 : Int) ≤ l1 ∧ l1 < jrk 1 5) <| jLet (jrf 1 l1) fun x6 =>
jGd (jcl x6 = 4) <| jBd (fX5_isMissing x6 s3) fun x8 s9 =>
if x8 = 0 then (
if l2 < 0 then (
jRet (-100012) s9)
else (
jGd ((0 : Int) ≤ l1 ∧ l1 < jrk 1 5) <| jLet (jrf 1 l1) fun x14 =>
jGd (jcl x14 = 4) <| jLet (s9 x14 2) fun x16 =>
if l2 < x16 then (
jRet 0 s9)
else (
jRet (-100012) s9)))
else (
jRet (-100011) s9))
def gX10_refusalOfPlace (vs : List Int) (s : jMem) : jO := match vs with
  | [a0, a1, a2] => jGd (a0 = 0) <| fX10_refusalOfPlace a1 a2 s
  | _ => none
set_option maxRecDepth 100000 in
set_option maxHeartbeats 4000000 in
theorem oX10_refusalOfPlace : jOk MX10_refusalOfPlace [3, 1, 1] 1 (jFn gX10_refusalOfPlace) := by
  refine jOk_fn (by decide +kernel) (Nat.le_of_ble_eq_true rfl) (by decide +kernel) (.inr (.inl rfl)) ?_
  intro E vs s0 Rr hF ha
  obtain ⟨l0, t0, rfl, r_l0, ha⟩ := jRa_ci ha
  obtain ⟨l1, t1, rfl, r_l1, ha⟩ := jRa_ci ha
  obtain ⟨l2, t2, rfl, r_l2, ha⟩ := jRa_ci ha
  obtain rfl := jRa_ni ha
  replace hF : jHo Rr (jGd (l0 = 0) <| fX10_refusalOfPlace l1 l2 s0) := hF
  have hG := jHo_as hF
  clear hF
  obtain ⟨rfl, hF⟩ := hG
  refine jg_norm [3, 1, 1] [0, l1, l2] rfl rfl ?_
  unfold fX10_refusalOfPlace at hF
  refine ji_iload_n (n := 1) (pc := 0) l1 rfl rfl rfl dX10_refusalOfPlace_0 (fun r1 => ?_)
  refine ji_callSz (pc := 1) [l1] ([]) oX10_isRack wlX10_68 wmX10_isRack rfl rfl (Nat.le_of_ble_eq_true rfl) (jRaC r1 jRa0) rfl rfl (Nat.le_of_ble_eq_true rfl) hF dX10_refusalOfPlace_1 (fun x2 s3 r_x2 hF => ?_)
  refine ji_if_ne 11 (pc := 4) (jR51 r_x2) hF dX10_refusalOfPlace_4 rfl (fun hF => ?_) (fun hF => ?_)
  · refine ji_aload_n (n := 0) (pc := 11) 0 rfl rfl rfl dX10_refusalOfPlace_11 (fun r4 => ?_)
    refine ji_getr (pc := 12) 1 wfX10_11 (jRc3 rfl) jcl_0 jrf_0_0 dX10_refusalOfPlace_12 ?_
    refine ji_iload_n (n := 1) (pc := 15) l1 rfl rfl rfl dX10_refusalOfPlace_15 (fun r5 => ?_)
    refine ji_aaload (pc := 16) 5 3 (jRc3 rfl) r5 (.inl ⟨rfl, rfl, rfl⟩) hF dX10_refusalOfPlace_16 (fun x6 r_x6 hF => ?_)
    obtain ⟨h7, hF⟩ := jHo_as hF
    refine ji_callVz (pc := 17) x6 [] ([]) oX5_isMissing wlX10_83 wmX5_isMissing rfl rfl (Nat.le_of_ble_eq_true rfl) (jRaC r_x6 jRa0) rfl h7 rfl (Nat.le_of_ble_eq_true rfl) hF dX10_refusalOfPlace_17 (fun x8 s9 r_x8 hF => ?_)
    refine ji_if_eq 27 (pc := 20) (jR51 r_x8) hF dX10_refusalOfPlace_20 rfl (fun hF => ?_) (fun hF => ?_)
    · refine ji_iload_n (n := 2) (pc := 27) l2 rfl rfl rfl dX10_refusalOfPlace_27 (fun r10 => ?_)
      refine ji_if_lt 44 (pc := 28) r10 hF dX10_refusalOfPlace_28 rfl (fun hF => ?_) (fun hF => ?_)
      · refine jg_ldcw (n := (-100012)) (pc := 44) wnX10_274 dX10_refusalOfPlace_44 ?_
        refine jg_goto (pc := 47) 51 dX10_refusalOfPlace_47 rfl ?_
        exact ji_reti (pc := 51) rfl (jRc rfl) hF dX10_refusalOfPlace_51
      · refine ji_iload_n (n := 2) (pc := 31) l2 rfl rfl rfl dX10_refusalOfPlace_31 (fun r11 => ?_)
        refine ji_aload_n (n := 0) (pc := 32) 0 rfl rfl rfl dX10_refusalOfPlace_32 (fun r12 => ?_)
        refine ji_getr (pc := 33) 1 wfX10_11 (jRc3 rfl) jcl_0 jrf_0_0 dX10_refusalOfPlace_33 ?_
        refine ji_iload_n (n := 1) (pc := 36) l1 rfl rfl rfl dX10_refusalOfPlace_36 (fun r13 => ?_)
        refine ji_aaload (pc := 37) 5 3 (jRc3 rfl) r13 (.inl ⟨rfl, rfl, rfl⟩) hF dX10_refusalOfPlace_37 (fun x14 r_x14 hF => ?_)
        obtain ⟨h15, hF⟩ := jHo_as hF
        refine ji_getfi (pc := 38) wfX10_271 r_x14 h15 hF dX10_refusalOfPlace_38 (fun x16 r_x16 hF => ?_)
        refine ji_icmp_lt 50 (pc := 41) r11 r_x16 hF dX10_refusalOfPlace_41 rfl (fun hF => ?_) (fun hF => ?_)
        · refine ji_iconst (pc := 50) dX10_refusalOfPlace_50 ?_
          exact ji_reti (pc := 51) rfl (jRc rfl) hF dX10_refusalOfPlace_51
        · refine jg_ldcw (n := (-100012)) (pc := 44) wnX10_274 dX10_refusalOfPlace_44 ?_
          refine jg_goto (pc := 47) 51 dX10_refusalOfPlace_47 rfl ?_
          exact ji_reti (pc := 51) rfl (jRc rfl) hF dX10_refusalOfPlace_51
    · refine jg_ldcw (n := (-100011)) (pc := 23) wnX10_270 dX10_refusalOfPlace_23 ?_
      exact ji_reti (pc := 26) rfl (jRc rfl) hF dX10_refusalOfPlace_26
  · refine jg_ldcw (n := (-100000)) (pc := 7) wnX10_269 dX10_refusalOfPlace_7 ?_
    exact ji_reti (pc := 10) rfl (jRc rfl) hF dX10_refusalOfPlace_10
def fX10_place (l1 l2 l3 : Int) (s0 : jMem) : jO :=
jBd (fX10_refusalOfPlace l1 l2 s0) fun x4 s5 =>
if x4 = 0 then (
jGd ((0 : Int) ≤ l1 ∧ l1 < jrk 1 5) <| jLet (jrf 1 l1) fun x9 =>
jGd (jcl x9 = 4) <| jBd (fX5_keep x9 l2 l3 s5) fun x13 s14 =>
jRet x13 s14)
else (
jRet x4 s5)
def gX10_place (vs : List Int) (s : jMem) : jO := match vs with
  | [a0, a1, a2, a3] => jGd (a0 = 0) <| fX10_place a1 a2 a3 s
  | _ => none
set_option maxRecDepth 100000 in
set_option maxHeartbeats 4000000 in
theorem oX10_place : jOk MX10_place [3, 1, 1, 1] 2 (jFn gX10_place) := by
  refine jOk_fn (by decide +kernel) (Nat.le_of_ble_eq_true rfl) (by decide +kernel) (.inr (.inl rfl)) ?_
  intro E vs s0 Rr hF ha
  obtain ⟨l0, t0, rfl, r_l0, ha⟩ := jRa_ci ha
  obtain ⟨l1, t1, rfl, r_l1, ha⟩ := jRa_ci ha
  obtain ⟨l2, t2, rfl, r_l2, ha⟩ := jRa_ci ha
  obtain ⟨l3, t3, rfl, r_l3, ha⟩ := jRa_ci ha
  obtain rfl := jRa_ni ha
  replace hF : jHo Rr (jGd (l0 = 0) <| fX10_place l1 l2 l3 s0) := hF
  have hG := jHo_as hF
  clear hF
  obtain ⟨rfl, hF⟩ := hG
  refine jg_norm [3, 1, 1, 1, 0] [0, l1, l2, l3, 0] rfl rfl ?_
  unfold fX10_place at hF
  refine ji_aload_n (n := 0) (pc := 0) 0 rfl rfl rfl dX10_place_0 (fun r1 => ?_)
  refine ji_iload_n (n := 1) (pc := 1) l1 rfl rfl rfl dX10_place_1 (fun r2 => ?_)
  refine ji_iload_n (n := 2) (pc := 2) l2 rfl rfl rfl dX10_place_2 (fun r3 => ?_)
  refine ji_callVi (pc := 3) 0 [l1, l2] ([]) oX10_refusalOfPlace wlX10_76 wmX10_refusalOfPlace rfl rfl (Nat.le_of_ble_eq_true rfl) (jRaC (jRc3 rfl) (jRaC r2 (jRaC r3 jRa0))) rfl jcl_0 rfl (Nat.le_of_ble_eq_true rfl) hF dX10_place_3 (fun x4 s5 r_x4 hF => ?_)
  refine ji_istore (n := 4) (pc := 6) [3, 1, 1, 1, 1] [0, l1, l2, l3, x4] r_x4 (Nat.le_of_ble_eq_true rfl) rfl rfl dX10_place_6 ?_
  refine ji_iload (pc := 8) x4 rfl rfl dX10_place_8 (fun r6 => ?_)
  refine ji_if_eq 18 (pc := 10) r6 hF dX10_place_10 rfl (fun hF => ?_) (fun hF => ?_)
  · refine ji_aload_n (n := 0) (pc := 18) 0 rfl rfl rfl dX10_place_18 (fun r7 => ?_)
    refine ji_getr (pc := 19) 1 wfX10_11 (jRc3 rfl) jcl_0 jrf_0_0 dX10_place_19 ?_
    refine ji_iload_n (n := 1) (pc := 22) l1 rfl rfl rfl dX10_place_22 (fun r8 => ?_)
    refine ji_aaload (pc := 23) 5 3 (jRc3 rfl) r8 (.inl ⟨rfl, rfl, rfl⟩) hF dX10_place_23 (fun x9 r_x9 hF => ?_)
    refine ji_iload_n (n := 2) (pc := 24) l2 rfl rfl rfl dX10_place_24 (fun r10 => ?_)
    refine ji_iload_n (n := 3) (pc := 25) l3 rfl rfl rfl dX10_place_25 (fun r11 => ?_)
    obtain ⟨h12, hF⟩ := jHo_as hF
    refine ji_callVi (pc := 26) x9 [l2, l3] ([]) oX5_keep wlX10_80 wmX5_keep rfl rfl (Nat.le_of_ble_eq_true rfl) (jRaC r_x9 (jRaC r10 (jRaC r11 jRa0))) rfl h12 rfl (Nat.le_of_ble_eq_true rfl) hF dX10_place_26 (fun x13 s14 r_x13 hF => ?_)
    exact ji_reti (pc := 29) rfl r_x13 hF dX10_place_29
  · refine ji_iload (pc := 13) x4 rfl rfl dX10_place_13 (fun r15 => ?_)
    refine jg_goto (pc := 15) 29 dX10_place_15 rfl ?_
    exact ji_reti (pc := 29) rfl r15 hF dX10_place_29
def fX10_copy (l1 l2 l3 l4 l5 : Int) (s0 : jMem) : jO :=
jBd (fX10_isRack l1 s0) fun x2 s3 =>
if x2 = 0 then (
jRet (-1) s3)
else (
jBd (fX10_isRack l3 s3) fun x5 s6 =>
if x5 = 0 then (
jRet (-1) s6)
else (
jGd ((0 : Int) ≤ l1 ∧ l1 < jrk 1 5) <| jLet (jrf 1 l1) fun x9 =>
jGd ((0 : Int) ≤ l3 ∧ l3 < jrk 1 5) <| jLet (jrf 1 l3) fun x12 =>
jGd (jcl x9 = 4) <| jBd (fX5_isMissing x9 s6) fun x15 s16 =>
if x15 = 0 then (
jGd (jcl x12 = 4) <| jBd (fX5_isMissing x12 s16) fun x19 s20 =>
if x19 = 0 then (
jLet (s20 x9 1) fun x22 =>
jLet (s20 x12 1) fun x24 =>
if x22 = x24 then (
jBd (fX5_reaches x9 l2 l5 s20) fun x28 s29 =>
if x28 = 0 then (
jRet (-12) s29)
else (
jBd (fX5_reaches x12 l4 l5 s29) fun x33 s34 =>
if x33 = 0 then (
jRet (-12) s34)
else (
jLet (jrf x9 0) fun x36 =>
jLet (jrf x12 0) fun x39 =>
jGd ((0 : Int) ≤ l2 ∧ (0 : Int) ≤ l4 ∧ (0 : Int) ≤ l5 ∧ l2 + l5 ≤ jik x36 ∧ l4 + l5 ≤ jik x39 ∧ 0 < jik x36 ∧ 0 < jik x39) <| jLet (jCp s34 x36 l2 x39 l4 l5) fun s42 =>
jRet 0 s42)))
else (
jRet (-14) s20))
else (
jRet (-11) s20))
else (
jRet (-11) s16)))
def gX10_copy (vs : List Int) (s : jMem) : jO := match vs with
  | [a0, a1, a2, a3, a4, a5] => jGd (a0 = 0) <| fX10_copy a1 a2 a3 a4 a5 s
  | _ => none
set_option maxRecDepth 100000 in
set_option maxHeartbeats 4000000 in
theorem oX10_copy : jOk MX10_copy [3, 1, 1, 1, 1, 1] 1 (jFn gX10_copy) := by
  refine jOk_fn (by decide +kernel) (Nat.le_of_ble_eq_true rfl) (by decide +kernel) (.inr (.inl rfl)) ?_
  intro E vs s0 Rr hF ha
  obtain ⟨l0, t0, rfl, r_l0, ha⟩ := jRa_ci ha
  obtain ⟨l1, t1, rfl, r_l1, ha⟩ := jRa_ci ha
  obtain ⟨l2, t2, rfl, r_l2, ha⟩ := jRa_ci ha
  obtain ⟨l3, t3, rfl, r_l3, ha⟩ := jRa_ci ha
  obtain ⟨l4, t4, rfl, r_l4, ha⟩ := jRa_ci ha
  obtain ⟨l5, t5, rfl, r_l5, ha⟩ := jRa_ci ha
  obtain rfl := jRa_ni ha
  replace hF : jHo Rr (jGd (l0 = 0) <| fX10_copy l1 l2 l3 l4 l5 s0) := hF
  have hG := jHo_as hF
  clear hF
  obtain ⟨rfl, hF⟩ := hG
  refine jg_norm [3, 1, 1, 1, 1, 1, 0, 0] [0, l1, l2, l3, l4, l5, 0, 0] rfl rfl ?_
  unfold fX10_copy at hF
  refine ji_iload_n (n := 1) (pc := 0) l1 rfl rfl rfl dX10_copy_0 (fun r1 => ?_)
  refine ji_callSz (pc := 1) [l1] ([]) oX10_isRack wlX10_68 wmX10_isRack rfl rfl (Nat.le_of_ble_eq_true rfl) (jRaC r1 jRa0) rfl rfl (Nat.le_of_ble_eq_true rfl) hF dX10_copy_1 (fun x2 s3 r_x2 hF => ?_)
  refine ji_if_eq 14 (pc := 4) (jR51 r_x2) hF dX10_copy_4 rfl (fun hF => ?_) (fun hF => ?_)
  · refine ji_iconst (pc := 14) dX10_copy_14 ?_
    exact ji_reti (pc := 15) rfl (jRc rfl) hF dX10_copy_15
  · refine ji_iload_n (n := 3) (pc := 7) l3 rfl rfl rfl dX10_copy_7 (fun r4 => ?_)
    refine ji_callSz (pc := 8) [l3] ([]) oX10_isRack wlX10_68 wmX10_isRack rfl rfl (Nat.le_of_ble_eq_true rfl) (jRaC r4 jRa0) rfl rfl (Nat.le_of_ble_eq_true rfl) hF dX10_copy_8 (fun x5 s6 r_x5 hF => ?_)
    refine ji_if_ne 16 (pc := 11) (jR51 r_x5) hF dX10_copy_11 rfl (fun hF => ?_) (fun hF => ?_)
    · refine ji_aload_n (n := 0) (pc := 16) 0 rfl rfl rfl dX10_copy_16 (fun r7 => ?_)
      refine ji_getr (pc := 17) 1 wfX10_11 (jRc3 rfl) jcl_0 jrf_0_0 dX10_copy_17 ?_
      refine ji_iload_n (n := 1) (pc := 20) l1 rfl rfl rfl dX10_copy_20 (fun r8 => ?_)
      refine ji_aaload (pc := 21) 5 3 (jRc3 rfl) r8 (.inl ⟨rfl, rfl, rfl⟩) hF dX10_copy_21 (fun x9 r_x9 hF => ?_)
      refine ji_astore (n := 6) (pc := 22) [3, 1, 1, 1, 1, 1, 3, 0] [0, l1, l2, l3, l4, l5, x9, 0] r_x9 (Nat.le_of_ble_eq_true rfl) rfl rfl dX10_copy_22 ?_
      refine ji_aload_n (n := 0) (pc := 24) 0 rfl rfl rfl dX10_copy_24 (fun r10 => ?_)
      refine ji_getr (pc := 25) 1 wfX10_11 (jRc3 rfl) jcl_0 jrf_0_0 dX10_copy_25 ?_
      refine ji_iload_n (n := 3) (pc := 28) l3 rfl rfl rfl dX10_copy_28 (fun r11 => ?_)
      refine ji_aaload (pc := 29) 5 3 (jRc3 rfl) r11 (.inl ⟨rfl, rfl, rfl⟩) hF dX10_copy_29 (fun x12 r_x12 hF => ?_)
      refine ji_astore (n := 7) (pc := 30) [3, 1, 1, 1, 1, 1, 3, 3] [0, l1, l2, l3, l4, l5, x9, x12] r_x12 (Nat.le_of_ble_eq_true rfl) rfl rfl dX10_copy_30 ?_
      refine ji_aload (pc := 32) x9 rfl rfl dX10_copy_32 (fun r13 => ?_)
      obtain ⟨h14, hF⟩ := jHo_as hF
      refine ji_callVz (pc := 34) x9 [] ([]) oX5_isMissing wlX10_83 wmX5_isMissing rfl rfl (Nat.le_of_ble_eq_true rfl) (jRaC r13 jRa0) rfl h14 rfl (Nat.le_of_ble_eq_true rfl) hF dX10_copy_34 (fun x15 s16 r_x15 hF => ?_)
      refine ji_if_ne 48 (pc := 37) (jR51 r_x15) hF dX10_copy_37 rfl (fun hF => ?_) (fun hF => ?_)
      · refine jg_bipush (pc := 48) rfl dX10_copy_48 ?_
        exact ji_reti (pc := 50) rfl (jRc rfl) hF dX10_copy_50
      · refine ji_aload (pc := 40) x12 rfl rfl dX10_copy_40 (fun r17 => ?_)
        obtain ⟨h18, hF⟩ := jHo_as hF
        refine ji_callVz (pc := 42) x12 [] ([]) oX5_isMissing wlX10_83 wmX5_isMissing rfl rfl (Nat.le_of_ble_eq_true rfl) (jRaC r17 jRa0) rfl h18 rfl (Nat.le_of_ble_eq_true rfl) hF dX10_copy_42 (fun x19 s20 r_x19 hF => ?_)
        refine ji_if_eq 51 (pc := 45) (jR51 r_x19) hF dX10_copy_45 rfl (fun hF => ?_) (fun hF => ?_)
        · refine ji_aload (pc := 51) x9 rfl rfl dX10_copy_51 (fun r21 => ?_)
          refine ji_getfi (pc := 53) wfX10_87 r21 h14 hF dX10_copy_53 (fun x22 r_x22 hF => ?_)
          refine ji_aload (pc := 56) x12 rfl rfl dX10_copy_56 (fun r23 => ?_)
          refine ji_getfi (pc := 58) wfX10_87 r23 h18 hF dX10_copy_58 (fun x24 r_x24 hF => ?_)
          refine ji_icmp_eq 67 (pc := 61) r_x22 r_x24 hF dX10_copy_61 rfl (fun hF => ?_) (fun hF => ?_)
          · refine ji_aload (pc := 67) x9 rfl rfl dX10_copy_67 (fun r25 => ?_)
            refine ji_iload_n (n := 2) (pc := 69) l2 rfl rfl rfl dX10_copy_69 (fun r26 => ?_)
            refine ji_iload (pc := 70) l5 rfl rfl dX10_copy_70 (fun r27 => ?_)
            refine ji_callVz (pc := 72) x9 [l2, l5] ([]) oX5_reaches wlX10_90 wmX5_reaches rfl rfl (Nat.le_of_ble_eq_true rfl) (jRaC r25 (jRaC r26 (jRaC r27 jRa0))) rfl h14 rfl (Nat.le_of_ble_eq_true rfl) hF dX10_copy_72 (fun x28 s29 r_x28 hF => ?_)
            refine ji_if_eq 90 (pc := 75) (jR51 r_x28) hF dX10_copy_75 rfl (fun hF => ?_) (fun hF => ?_)
            · refine jg_bipush (pc := 90) rfl dX10_copy_90 ?_
              exact ji_reti (pc := 92) rfl (jRc rfl) hF dX10_copy_92
            · refine ji_aload (pc := 78) x12 rfl rfl dX10_copy_78 (fun r30 => ?_)
              refine ji_iload (pc := 80) l4 rfl rfl dX10_copy_80 (fun r31 => ?_)
              refine ji_iload (pc := 82) l5 rfl rfl dX10_copy_82 (fun r32 => ?_)
              refine ji_callVz (pc := 84) x12 [l4, l5] ([]) oX5_reaches wlX10_90 wmX5_reaches rfl rfl (Nat.le_of_ble_eq_true rfl) (jRaC r30 (jRaC r31 (jRaC r32 jRa0))) rfl h18 rfl (Nat.le_of_ble_eq_true rfl) hF dX10_copy_84 (fun x33 s34 r_x33 hF => ?_)
              refine ji_if_ne 93 (pc := 87) (jR51 r_x33) hF dX10_copy_87 rfl (fun hF => ?_) (fun hF => ?_)
              · refine ji_aload (pc := 93) x9 rfl rfl dX10_copy_93 (fun r35 => ?_)
                refine ji_getrL (pc := 95) wfX10_94 r35 h14 hF dX10_copy_95 (fun x36 r_x36 hF => ?_)
                refine ji_iload_n (n := 2) (pc := 98) l2 rfl rfl rfl dX10_copy_98 (fun r37 => ?_)
                refine ji_aload (pc := 99) x12 rfl rfl dX10_copy_99 (fun r38 => ?_)
                refine ji_getrL (pc := 101) wfX10_94 r38 h18 hF dX10_copy_101 (fun x39 r_x39 hF => ?_)
                refine ji_iload (pc := 104) l4 rfl rfl dX10_copy_104 (fun r40 => ?_)
                refine ji_iload (pc := 106) l5 rfl rfl dX10_copy_106 (fun r41 => ?_)
                refine ji_copyi (pc := 108) r_x36 r_x39 r37 r40 r41 (Nat.le_of_ble_eq_true rfl) (Nat.le_of_ble_eq_true rfl) ⟨wlX10_97, wq_copy⟩ hF dX10_copy_108 (fun s42 hF => ?_)
                refine ji_iconst (pc := 111) dX10_copy_111 ?_
                exact ji_reti (pc := 112) rfl (jRc rfl) hF dX10_copy_112
              · refine jg_bipush (pc := 90) rfl dX10_copy_90 ?_
                exact ji_reti (pc := 92) rfl (jRc rfl) hF dX10_copy_92
          · refine jg_bipush (pc := 64) rfl dX10_copy_64 ?_
            exact ji_reti (pc := 66) rfl (jRc rfl) hF dX10_copy_66
        · refine jg_bipush (pc := 48) rfl dX10_copy_48 ?_
          exact ji_reti (pc := 50) rfl (jRc rfl) hF dX10_copy_50
    · refine ji_iconst (pc := 14) dX10_copy_14 ?_
      exact ji_reti (pc := 15) rfl (jRc rfl) hF dX10_copy_15
def fX10_told (l1 l2 : Int) (s0 : jMem) : jO :=
jBd (fX10_refusalOfPlace l1 l2 s0) fun x4 s5 =>
if x4 = 0 then (
jGd ((0 : Int) ≤ l1 ∧ l1 < jrk 1 5) <| jLet (jrf 1 l1) fun x9 =>
jGd (jcl x9 = 4) <| jLet (jrf x9 0) fun x11 =>
jGd ((0 : Int) ≤ l2 ∧ l2 < jik x11) <| jLet (s5 x11 l2) fun x13 =>
jRet x13 s5)
else (
jRet x4 s5)
def gX10_told (vs : List Int) (s : jMem) : jO := match vs with
  | [a0, a1, a2] => jGd (a0 = 0) <| fX10_told a1 a2 s
  | _ => none
set_option maxRecDepth 100000 in
set_option maxHeartbeats 4000000 in
theorem oX10_told : jOk MX10_told [3, 1, 1] 2 (jFn gX10_told) := by
  refine jOk_fn (by decide +kernel) (Nat.le_of_ble_eq_true rfl) (by decide +kernel) (.inr (.inl rfl)) ?_
  intro E vs s0 Rr hF ha
  obtain ⟨l0, t0, rfl, r_l0, ha⟩ := jRa_ci ha
  obtain ⟨l1, t1, rfl, r_l1, ha⟩ := jRa_ci ha
  obtain ⟨l2, t2, rfl, r_l2, ha⟩ := jRa_ci ha
  obtain rfl := jRa_ni ha
  replace hF : jHo Rr (jGd (l0 = 0) <| fX10_told l1 l2 s0) := hF
  have hG := jHo_as hF
  clear hF
  obtain ⟨rfl, hF⟩ := hG
  refine jg_norm [3, 1, 1, 0] [0, l1, l2, 0] rfl rfl ?_
  unfold fX10_told at hF
  refine ji_aload_n (n := 0) (pc := 0) 0 rfl rfl rfl dX10_told_0 (fun r1 => ?_)
  refine ji_iload_n (n := 1) (pc := 1) l1 rfl rfl rfl dX10_told_1 (fun r2 => ?_)
  refine ji_iload_n (n := 2) (pc := 2) l2 rfl rfl rfl dX10_told_2 (fun r3 => ?_)
  refine ji_callVi (pc := 3) 0 [l1, l2] ([]) oX10_refusalOfPlace wlX10_76 wmX10_refusalOfPlace rfl rfl (Nat.le_of_ble_eq_true rfl) (jRaC (jRc3 rfl) (jRaC r2 (jRaC r3 jRa0))) rfl jcl_0 rfl (Nat.le_of_ble_eq_true rfl) hF dX10_told_3 (fun x4 s5 r_x4 hF => ?_)
  refine ji_istore_n (n := 3) (pc := 6) [3, 1, 1, 1] [0, l1, l2, x4] rfl r_x4 (Nat.le_of_ble_eq_true rfl) rfl rfl dX10_told_6 ?_
  refine ji_iload_n (n := 3) (pc := 7) x4 rfl rfl rfl dX10_told_7 (fun r6 => ?_)
  refine ji_if_eq 15 (pc := 8) r6 hF dX10_told_8 rfl (fun hF => ?_) (fun hF => ?_)
  · refine ji_aload_n (n := 0) (pc := 15) 0 rfl rfl rfl dX10_told_15 (fun r7 => ?_)
    refine ji_getr (pc := 16) 1 wfX10_11 (jRc3 rfl) jcl_0 jrf_0_0 dX10_told_16 ?_
    refine ji_iload_n (n := 1) (pc := 19) l1 rfl rfl rfl dX10_told_19 (fun r8 => ?_)
    refine ji_aaload (pc := 20) 5 3 (jRc3 rfl) r8 (.inl ⟨rfl, rfl, rfl⟩) hF dX10_told_20 (fun x9 r_x9 hF => ?_)
    obtain ⟨h10, hF⟩ := jHo_as hF
    refine ji_getrL (pc := 21) wfX10_94 r_x9 h10 hF dX10_told_21 (fun x11 r_x11 hF => ?_)
    refine ji_iload_n (n := 2) (pc := 24) l2 rfl rfl rfl dX10_told_24 (fun r12 => ?_)
    refine ji_iaload (pc := 25) r_x11 r12 hF dX10_told_25 (fun x13 r_x13 hF => ?_)
    exact ji_reti (pc := 26) rfl r_x13 hF dX10_told_26
  · refine ji_iload_n (n := 3) (pc := 11) x4 rfl rfl rfl dX10_told_11 (fun r14 => ?_)
    refine jg_goto (pc := 12) 26 dX10_told_12 rfl ?_
    exact ji_reti (pc := 26) rfl r14 hF dX10_told_26
def fX10_isHand (l0 : Int) (s0 : jMem) : jO :=
if l0 < 0 then (
jRet 0 s0)
else (
if 4 ≤ l0 then (
jRet 0 s0)
else (
jRet 1 s0))
def gX10_isHand (vs : List Int) (s : jMem) : jO := match vs with
  | [a0] => fX10_isHand a0 s
  | _ => none
set_option maxRecDepth 100000 in
set_option maxHeartbeats 4000000 in
theorem oX10_isHand : jOk MX10_isHand [1] 0 (jFn gX10_isHand) := by
  refine jOk_fn (by decide +kernel) (Nat.le_of_ble_eq_true rfl) (by decide +kernel) (.inr (.inr (.inr rfl))) ?_
  intro E vs s0 Rr hF ha
  obtain ⟨l0, t0, rfl, r_l0, ha⟩ := jRa_ci ha
  obtain rfl := jRa_ni ha
  replace hF : jHo Rr (fX10_isHand l0 s0) := hF
  refine jg_norm [1] [l0] rfl rfl ?_
  unfold fX10_isHand at hF
  refine ji_iload_n (n := 0) (pc := 0) l0 rfl rfl rfl dX10_isHand_0 (fun r1 => ?_)
  refine ji_if_lt 13 (pc := 1) r1 hF dX10_isHand_1 rfl (fun hF => ?_) (fun hF => ?_)
  · refine ji_iconst (pc := 13) dX10_isHand_13 ?_
    exact ji_retz (pc := 14) rfl (jRc5 rfl) hF dX10_isHand_14
  · refine ji_iload_n (n := 0) (pc := 4) l0 rfl rfl rfl dX10_isHand_4 (fun r2 => ?_)
    refine ji_iconst (pc := 5) dX10_isHand_5 ?_
    refine ji_icmp_ge 13 (pc := 6) r2 (jRc rfl) hF dX10_isHand_6 rfl (fun hF => ?_) (fun hF => ?_)
    · refine ji_iconst (pc := 13) dX10_isHand_13 ?_
      exact ji_retz (pc := 14) rfl (jRc5 rfl) hF dX10_isHand_14
    · refine ji_iconst (pc := 9) dX10_isHand_9 ?_
      refine jg_goto (pc := 10) 14 dX10_isHand_10 rfl ?_
      exact ji_retz (pc := 14) rfl (jRc5 rfl) hF dX10_isHand_14
def bX10_unread_3 (rec : Int → Int → Int → Int → Int → jMem → jO) (l1 l2 l3 l4 l5 : Int) (s0 : jMem) : jO :=
if l4 ≤ l5 then (
jRet 0 s0)
else (
jGd (jcl l2 = 4) <| jLet (jrf l2 0) fun x5 =>
jLet (j32 (l3 + l5)) fun x8 =>
jGd ((0 : Int) ≤ x8 ∧ x8 < jik x5) <| jLet (s0 x5 x8) fun x9 =>
jGd (jcl l1 = 0) <| jBd (fX1_lose l1 x9 s0) fun x13 s14 =>
jGd ((0 : Int) ≤ x9 ∧ x9 < jik 3) <| jLet (s14 3 x9) fun x17 =>
jLet (j32 (x17 + 1)) fun x18 =>
jGd ((0 : Int) ≤ x9 ∧ x9 < jik 3) <| jLet (jU s14 3 x9 x18) fun s19 =>
jLet (j32 (l5 + 1)) fun x20 =>
rec l1 l2 l3 l4 x20 s19)
def fX10_unread (l1 l2 l3 l4 : Int) (s0 : jMem) : jO :=
jIt (fun _ _ _ _ _ _ => none) (bX10_unread_3) 1000 l1 l2 l3 l4 0 s0
def gX10_unread (vs : List Int) (s : jMem) : jO := match vs with
  | [a0, a1, a2, a3, a4] => jGd (a0 = 0) <| fX10_unread a1 a2 a3 a4 s
  | _ => none
set_option maxRecDepth 100000 in
set_option maxHeartbeats 4000000 in
theorem obX10_unread_3 {E : jEnv} {Rr : Int → jMem → Prop} {rec : Int → Int → Int → Int → Int → jMem → jO} (hrec : ∀ (l1 l2 l3 l4 l5 : Int) (s : jMem), jHo Rr (rec l1 l2 l3 l4 l5 s) → jGo E MX10_unread 1 Rr [3, 3, 3, 1, 1, 1, 0] 3 [0, l1, l2, l3, l4, l5, 0] ([]) s) : ∀ (l1 l2 l3 l4 l5 : Int) (s : jMem), jHo Rr (bX10_unread_3 rec l1 l2 l3 l4 l5 s) → jGo E MX10_unread 1 Rr [3, 3, 3, 1, 1, 1, 0] 3 [0, l1, l2, l3, l4, l5, 0] ([]) s := by
  intro l1 l2 l3 l4 l5 s0 hF
  unfold bX10_unread_3 at hF
  refine ji_iload (pc := 3) l5 rfl rfl dX10_unread_3 (fun r1 => ?_)
  refine ji_iload (pc := 5) l4 rfl rfl dX10_unread_5 (fun r2 => ?_)
  refine ji_icmp_ge 44 (pc := 7) r1 r2 hF dX10_unread_7 rfl (fun hF => ?_) (fun hF => ?_)
  · exact ji_retv (pc := 44) rfl hF dX10_unread_44
  · refine ji_aload_n (n := 2) (pc := 10) l2 rfl rfl rfl dX10_unread_10 (fun r3 => ?_)
    obtain ⟨h4, hF⟩ := jHo_as hF
    refine ji_getrL (pc := 11) wfX10_94 r3 h4 hF dX10_unread_11 (fun x5 r_x5 hF => ?_)
    refine ji_iload_n (n := 3) (pc := 14) l3 rfl rfl rfl dX10_unread_14 (fun r6 => ?_)
    refine ji_iload (pc := 15) l5 rfl rfl dX10_unread_15 (fun r7 => ?_)
    refine ji_iadd (pc := 17)  hF dX10_unread_17 (fun x8 r_x8 hF => ?_)
    refine ji_iaload (pc := 18) r_x5 r_x8 hF dX10_unread_18 (fun x9 r_x9 hF => ?_)
    refine ji_istore (n := 6) (pc := 19) [3, 3, 3, 1, 1, 1, 1] [0, l1, l2, l3, l4, l5, x9] r_x9 (Nat.le_of_ble_eq_true rfl) rfl rfl dX10_unread_19 ?_
    refine ji_aload_n (n := 1) (pc := 21) l1 rfl rfl rfl dX10_unread_21 (fun r10 => ?_)
    refine ji_iload (pc := 22) x9 rfl rfl dX10_unread_22 (fun r11 => ?_)
    obtain ⟨h12, hF⟩ := jHo_as hF
    refine ji_callVv (pc := 24) l1 [x9] ([]) oX1_lose wlX10_135 wmX1_lose rfl rfl (Nat.le_of_ble_eq_true rfl) (jRaC r10 (jRaC r11 jRa0)) rfl h12 rfl (Nat.le_of_ble_eq_true rfl) hF dX10_unread_24 (fun x13 s14 hF => ?_)
    refine ji_aload_n (n := 0) (pc := 27) 0 rfl rfl rfl dX10_unread_27 (fun r15 => ?_)
    refine ji_getr (pc := 28) 3 wfX10_23 (jRc3 rfl) jcl_0 jrf_0_2 dX10_unread_28 ?_
    refine ji_iload (pc := 31) x9 rfl rfl dX10_unread_31 (fun r16 => ?_)
    refine jg_dup2 (pc := 33) (by decide) (by decide) dX10_unread_33 ?_
    refine ji_iaload (pc := 34) (jRc3 rfl) r16 hF dX10_unread_34 (fun x17 r_x17 hF => ?_)
    refine ji_iconst (pc := 35) dX10_unread_35 ?_
    refine ji_iadd (pc := 36)  hF dX10_unread_36 (fun x18 r_x18 hF => ?_)
    refine ji_iastore (pc := 37) (jRc3 rfl) r16 r_x18 hF dX10_unread_37 (fun s19 hF => ?_)
    refine ji_iinc (pc := 38) l5 (fun w => [0, l1, l2, l3, l4, w, x9]) rfl rfl rfl (fun _ => rfl) hF dX10_unread_38 (fun x20 r_x20 hF => ?_)
    refine jg_goto (pc := 41) 3 dX10_unread_41 rfl ?_
    refine jg_norm [3, 3, 3, 1, 1, 1, 0] [0, l1, l2, l3, l4, x20, 0] rfl rfl ?_
    exact hrec _ _ _ _ _ _ hF
theorem obX10_unread_3W {E : jEnv} {Rr : Int → jMem → Prop} : ∀ n : Nat, ∀ (l1 l2 l3 l4 l5 : Int) (s : jMem), jHo Rr (jIt (fun _ _ _ _ _ _ => none) (bX10_unread_3) n l1 l2 l3 l4 l5 s) → jGo E MX10_unread 1 Rr [3, 3, 3, 1, 1, 1, 0] 3 [0, l1, l2, l3, l4, l5, 0] ([]) s := by
  intro n
  induction n with
  | zero => intro l1 l2 l3 l4 l5 s hF; exact jHo_none hF
  | succ n ih => exact obX10_unread_3 ih

set_option maxRecDepth 100000 in
set_option maxHeartbeats 4000000 in
theorem oX10_unread : jOk MX10_unread [3, 3, 3, 1, 1] 1 (jFn gX10_unread) := by
  refine jOk_fn (by decide +kernel) (Nat.le_of_ble_eq_true rfl) (by decide +kernel) (.inl rfl) ?_
  intro E vs s0 Rr hF ha
  obtain ⟨l0, t0, rfl, r_l0, ha⟩ := jRa_ci ha
  obtain ⟨l1, t1, rfl, r_l1, ha⟩ := jRa_ci ha
  obtain ⟨l2, t2, rfl, r_l2, ha⟩ := jRa_ci ha
  obtain ⟨l3, t3, rfl, r_l3, ha⟩ := jRa_ci ha
  obtain ⟨l4, t4, rfl, r_l4, ha⟩ := jRa_ci ha
  obtain rfl := jRa_ni ha
  replace hF : jHo Rr (jGd (l0 = 0) <| fX10_unread l1 l2 l3 l4 s0) := hF
  have hG := jHo_as hF
  clear hF
  obtain ⟨rfl, hF⟩ := hG
  refine jg_norm [3, 3, 3, 1, 1, 0, 0] [0, l1, l2, l3, l4, 0, 0] rfl rfl ?_
  unfold fX10_unread at hF
  refine ji_iconst (pc := 0) dX10_unread_0 ?_
  refine ji_istore (n := 5) (pc := 1) [3, 3, 3, 1, 1, 1, 0] [0, l1, l2, l3, l4, 0, 0] (jRc rfl) (Nat.le_of_ble_eq_true rfl) rfl rfl dX10_unread_1 ?_
  refine jg_norm [3, 3, 3, 1, 1, 1, 0] [0, l1, l2, l3, l4, 0, 0] rfl rfl ?_
  exact obX10_unread_3W 1000 _ _ _ _ _ _ hF
def bX10_readAll_3 (k39 : Int → Int → Int → Int → Int → jMem → jO) (rec : Int → Int → Int → Int → Int → jMem → jO) (l1 l2 l3 l4 l5 : Int) (s0 : jMem) : jO :=
if l4 ≤ l5 then (
jGd (jcl l1 = 0) <| jBd (fX1_size l1 s0) fun x5 s6 =>
jRet x5 s6)
else (
jGd (jcl l2 = 4) <| jLet (jrf l2 0) fun x9 =>
jLet (j32 (l3 + l5)) fun x12 =>
jGd ((0 : Int) ≤ x12 ∧ x12 < jik x9) <| jLet (s0 x9 x12) fun x13 =>
jBd (fX8_isSort x13 s0) fun x15 s16 =>
if x15 = 0 then (
k39 l1 l2 l3 l5 x13 s16)
else (
jGd ((0 : Int) ≤ x13 ∧ x13 < jik 3) <| jLet (s16 3 x13) fun x19 =>
if x19 = 0 then (
k39 l1 l2 l3 l5 x13 s16)
else (
jGd ((0 : Int) ≤ x13 ∧ x13 < jik 3) <| jLet (s16 3 x13) fun x22 =>
jLet (j32 (x22 - 1)) fun x23 =>
jGd ((0 : Int) ≤ x13 ∧ x13 < jik 3) <| jLet (jU s16 3 x13 x23) fun s24 =>
jGd (jcl l1 = 0) <| jBd (fX1_gain l1 x13 s24) fun x28 s29 =>
jLet (j32 (l5 + 1)) fun x30 =>
rec l1 l2 l3 l4 x30 s29)))
def bX10_readAll_39 (l1 l2 l3 l5 l6 : Int) (s0 : jMem) : jO :=
jBd (fX10_unread l1 l2 l3 l5 s0) fun x6 s7 =>
jBd (fX8_isSort l6 s7) fun x9 s10 =>
if x9 = 0 then (
jRet (-15) s10)
else (
jRet (-16) s10)
def fX10_readAll (l1 l2 l3 l4 : Int) (s0 : jMem) : jO :=
jIt (fun _ _ _ _ _ _ => none) (bX10_readAll_3 bX10_readAll_39) 1000 l1 l2 l3 l4 0 s0
def gX10_readAll (vs : List Int) (s : jMem) : jO := match vs with
  | [a0, a1, a2, a3, a4] => jGd (a0 = 0) <| fX10_readAll a1 a2 a3 a4 s
  | _ => none
set_option maxRecDepth 100000 in
set_option maxHeartbeats 4000000 in
theorem obX10_readAll_3 {E : jEnv} {Rr : Int → jMem → Prop} {k39 : Int → Int → Int → Int → Int → jMem → jO} (hk39 : ∀ (l1 l2 l3 l5 l6 : Int) (s : jMem), jHo Rr (k39 l1 l2 l3 l5 l6 s) → jGo E MX10_readAll 2 Rr [3, 3, 3, 1, 0, 1, 1] 39 [0, l1, l2, l3, 0, l5, l6] ([]) s) {rec : Int → Int → Int → Int → Int → jMem → jO} (hrec : ∀ (l1 l2 l3 l4 l5 : Int) (s : jMem), jHo Rr (rec l1 l2 l3 l4 l5 s) → jGo E MX10_readAll 2 Rr [3, 3, 3, 1, 1, 1, 0] 3 [0, l1, l2, l3, l4, l5, 0] ([]) s) : ∀ (l1 l2 l3 l4 l5 : Int) (s : jMem), jHo Rr (bX10_readAll_3 k39 rec l1 l2 l3 l4 l5 s) → jGo E MX10_readAll 2 Rr [3, 3, 3, 1, 1, 1, 0] 3 [0, l1, l2, l3, l4, l5, 0] ([]) s := by
  intro l1 l2 l3 l4 l5 s0 hF
  unfold bX10_readAll_3 at hF
  refine ji_iload (pc := 3) l5 rfl rfl dX10_readAll_3 (fun r1 => ?_)
  refine ji_iload (pc := 5) l4 rfl rfl dX10_readAll_5 (fun r2 => ?_)
  refine ji_icmp_ge 87 (pc := 7) r1 r2 hF dX10_readAll_7 rfl (fun hF => ?_) (fun hF => ?_)
  · refine ji_aload_n (n := 1) (pc := 87) l1 rfl rfl rfl dX10_readAll_87 (fun r3 => ?_)
    obtain ⟨h4, hF⟩ := jHo_as hF
    refine ji_callVi (pc := 88) l1 [] ([]) oX1_size wlX10_106 wmX1_size rfl rfl (Nat.le_of_ble_eq_true rfl) (jRaC r3 jRa0) rfl h4 rfl (Nat.le_of_ble_eq_true rfl) hF dX10_readAll_88 (fun x5 s6 r_x5 hF => ?_)
    exact ji_reti (pc := 91) rfl r_x5 hF dX10_readAll_91
  · refine ji_aload_n (n := 2) (pc := 10) l2 rfl rfl rfl dX10_readAll_10 (fun r7 => ?_)
    obtain ⟨h8, hF⟩ := jHo_as hF
    refine ji_getrL (pc := 11) wfX10_94 r7 h8 hF dX10_readAll_11 (fun x9 r_x9 hF => ?_)
    refine ji_iload_n (n := 3) (pc := 14) l3 rfl rfl rfl dX10_readAll_14 (fun r10 => ?_)
    refine ji_iload (pc := 15) l5 rfl rfl dX10_readAll_15 (fun r11 => ?_)
    refine ji_iadd (pc := 17)  hF dX10_readAll_17 (fun x12 r_x12 hF => ?_)
    refine ji_iaload (pc := 18) r_x9 r_x12 hF dX10_readAll_18 (fun x13 r_x13 hF => ?_)
    refine ji_istore (n := 6) (pc := 19) [3, 3, 3, 1, 1, 1, 1] [0, l1, l2, l3, l4, l5, x13] r_x13 (Nat.le_of_ble_eq_true rfl) rfl rfl dX10_readAll_19 ?_
    refine ji_iload (pc := 21) x13 rfl rfl dX10_readAll_21 (fun r14 => ?_)
    refine ji_callSz (pc := 23) [x13] ([]) oX8_isSort wlX10_114 wmX8_isSort rfl rfl (Nat.le_of_ble_eq_true rfl) (jRaC r14 jRa0) rfl rfl (Nat.le_of_ble_eq_true rfl) hF dX10_readAll_23 (fun x15 s16 r_x15 hF => ?_)
    refine ji_if_eq 39 (pc := 26) (jR51 r_x15) hF dX10_readAll_26 rfl (fun hF => ?_) (fun hF => ?_)
    · refine jg_norm [3, 3, 3, 1, 0, 1, 1] [0, l1, l2, l3, 0, l5, x13] rfl rfl ?_
      exact hk39 _ _ _ _ _ _ hF
    · refine ji_aload_n (n := 0) (pc := 29) 0 rfl rfl rfl dX10_readAll_29 (fun r17 => ?_)
      refine ji_getr (pc := 30) 3 wfX10_23 (jRc3 rfl) jcl_0 jrf_0_2 dX10_readAll_30 ?_
      refine ji_iload (pc := 33) x13 rfl rfl dX10_readAll_33 (fun r18 => ?_)
      refine ji_iaload (pc := 35) (jRc3 rfl) r18 hF dX10_readAll_35 (fun x19 r_x19 hF => ?_)
      refine ji_if_ne 64 (pc := 36) r_x19 hF dX10_readAll_36 rfl (fun hF => ?_) (fun hF => ?_)
      · refine ji_aload_n (n := 0) (pc := 64) 0 rfl rfl rfl dX10_readAll_64 (fun r20 => ?_)
        refine ji_getr (pc := 65) 3 wfX10_23 (jRc3 rfl) jcl_0 jrf_0_2 dX10_readAll_65 ?_
        refine ji_iload (pc := 68) x13 rfl rfl dX10_readAll_68 (fun r21 => ?_)
        refine jg_dup2 (pc := 70) (by decide) (by decide) dX10_readAll_70 ?_
        refine ji_iaload (pc := 71) (jRc3 rfl) r21 hF dX10_readAll_71 (fun x22 r_x22 hF => ?_)
        refine ji_iconst (pc := 72) dX10_readAll_72 ?_
        refine ji_isub (pc := 73)  hF dX10_readAll_73 (fun x23 r_x23 hF => ?_)
        refine ji_iastore (pc := 74) (jRc3 rfl) r21 r_x23 hF dX10_readAll_74 (fun s24 hF => ?_)
        refine ji_aload_n (n := 1) (pc := 75) l1 rfl rfl rfl dX10_readAll_75 (fun r25 => ?_)
        refine ji_iload (pc := 76) x13 rfl rfl dX10_readAll_76 (fun r26 => ?_)
        obtain ⟨h27, hF⟩ := jHo_as hF
        refine ji_callVv (pc := 78) l1 [x13] ([]) oX1_gain wlX10_120 wmX1_gain rfl rfl (Nat.le_of_ble_eq_true rfl) (jRaC r25 (jRaC r26 jRa0)) rfl h27 rfl (Nat.le_of_ble_eq_true rfl) hF dX10_readAll_78 (fun x28 s29 hF => ?_)
        refine ji_iinc (pc := 81) l5 (fun w => [0, l1, l2, l3, l4, w, x13]) rfl rfl rfl (fun _ => rfl) hF dX10_readAll_81 (fun x30 r_x30 hF => ?_)
        refine jg_goto (pc := 84) 3 dX10_readAll_84 rfl ?_
        refine jg_norm [3, 3, 3, 1, 1, 1, 0] [0, l1, l2, l3, l4, x30, 0] rfl rfl ?_
        exact hrec _ _ _ _ _ _ hF
      · refine jg_norm [3, 3, 3, 1, 0, 1, 1] [0, l1, l2, l3, 0, l5, x13] rfl rfl ?_
        exact hk39 _ _ _ _ _ _ hF
theorem obX10_readAll_3W {E : jEnv} {Rr : Int → jMem → Prop} {k39 : Int → Int → Int → Int → Int → jMem → jO} (hk39 : ∀ (l1 l2 l3 l5 l6 : Int) (s : jMem), jHo Rr (k39 l1 l2 l3 l5 l6 s) → jGo E MX10_readAll 2 Rr [3, 3, 3, 1, 0, 1, 1] 39 [0, l1, l2, l3, 0, l5, l6] ([]) s) : ∀ n : Nat, ∀ (l1 l2 l3 l4 l5 : Int) (s : jMem), jHo Rr (jIt (fun _ _ _ _ _ _ => none) (bX10_readAll_3 k39) n l1 l2 l3 l4 l5 s) → jGo E MX10_readAll 2 Rr [3, 3, 3, 1, 1, 1, 0] 3 [0, l1, l2, l3, l4, l5, 0] ([]) s := by
  intro n
  induction n with
  | zero => intro l1 l2 l3 l4 l5 s hF; exact jHo_none hF
  | succ n ih => exact obX10_readAll_3 hk39 ih

set_option maxRecDepth 100000 in
set_option maxHeartbeats 4000000 in
theorem obX10_readAll_39 {E : jEnv} {Rr : Int → jMem → Prop} : ∀ (l1 l2 l3 l5 l6 : Int) (s : jMem), jHo Rr (bX10_readAll_39 l1 l2 l3 l5 l6 s) → jGo E MX10_readAll 2 Rr [3, 3, 3, 1, 0, 1, 1] 39 [0, l1, l2, l3, 0, l5, l6] ([]) s := by
  intro l1 l2 l3 l5 l6 s0 hF
  unfold bX10_readAll_39 at hF
  refine ji_aload_n (n := 0) (pc := 39) 0 rfl rfl rfl dX10_readAll_39 (fun r1 => ?_)
  refine ji_aload_n (n := 1) (pc := 40) l1 rfl rfl rfl dX10_readAll_40 (fun r2 => ?_)
  refine ji_aload_n (n := 2) (pc := 41) l2 rfl rfl rfl dX10_readAll_41 (fun r3 => ?_)
  refine ji_iload_n (n := 3) (pc := 42) l3 rfl rfl rfl dX10_readAll_42 (fun r4 => ?_)
  refine ji_iload (pc := 43) l5 rfl rfl dX10_readAll_43 (fun r5 => ?_)
  refine ji_callVv (pc := 45) 0 [l1, l2, l3, l5] ([]) oX10_unread wlX10_275 wmX10_unread rfl rfl (Nat.le_of_ble_eq_true rfl) (jRaC (jRc3 rfl) (jRaC r2 (jRaC r3 (jRaC r4 (jRaC r5 jRa0))))) rfl jcl_0 rfl (Nat.le_of_ble_eq_true rfl) hF dX10_readAll_45 (fun x6 s7 hF => ?_)
  refine ji_iload (pc := 48) l6 rfl rfl dX10_readAll_48 (fun r8 => ?_)
  refine ji_callSz (pc := 50) [l6] ([]) oX8_isSort wlX10_114 wmX8_isSort rfl rfl (Nat.le_of_ble_eq_true rfl) (jRaC r8 jRa0) rfl rfl (Nat.le_of_ble_eq_true rfl) hF dX10_readAll_50 (fun x9 s10 r_x9 hF => ?_)
  refine ji_if_eq 61 (pc := 53) (jR51 r_x9) hF dX10_readAll_53 rfl (fun hF => ?_) (fun hF => ?_)
  · refine jg_bipush (pc := 61) rfl dX10_readAll_61 ?_
    exact ji_reti (pc := 63) rfl (jRc rfl) hF dX10_readAll_63
  · refine jg_bipush (pc := 56) rfl dX10_readAll_56 ?_
    refine jg_goto (pc := 58) 63 dX10_readAll_58 rfl ?_
    exact ji_reti (pc := 63) rfl (jRc rfl) hF dX10_readAll_63
set_option maxRecDepth 100000 in
set_option maxHeartbeats 4000000 in
theorem oX10_readAll : jOk MX10_readAll [3, 3, 3, 1, 1] 2 (jFn gX10_readAll) := by
  refine jOk_fn (by decide +kernel) (Nat.le_of_ble_eq_true rfl) (by decide +kernel) (.inr (.inl rfl)) ?_
  intro E vs s0 Rr hF ha
  obtain ⟨l0, t0, rfl, r_l0, ha⟩ := jRa_ci ha
  obtain ⟨l1, t1, rfl, r_l1, ha⟩ := jRa_ci ha
  obtain ⟨l2, t2, rfl, r_l2, ha⟩ := jRa_ci ha
  obtain ⟨l3, t3, rfl, r_l3, ha⟩ := jRa_ci ha
  obtain ⟨l4, t4, rfl, r_l4, ha⟩ := jRa_ci ha
  obtain rfl := jRa_ni ha
  replace hF : jHo Rr (jGd (l0 = 0) <| fX10_readAll l1 l2 l3 l4 s0) := hF
  have hG := jHo_as hF
  clear hF
  obtain ⟨rfl, hF⟩ := hG
  refine jg_norm [3, 3, 3, 1, 1, 0, 0] [0, l1, l2, l3, l4, 0, 0] rfl rfl ?_
  unfold fX10_readAll at hF
  refine ji_iconst (pc := 0) dX10_readAll_0 ?_
  refine ji_istore (n := 5) (pc := 1) [3, 3, 3, 1, 1, 1, 0] [0, l1, l2, l3, l4, 0, 0] (jRc rfl) (Nat.le_of_ble_eq_true rfl) rfl rfl dX10_readAll_1 ?_
  refine jg_norm [3, 3, 3, 1, 1, 1, 0] [0, l1, l2, l3, l4, 0, 0] rfl rfl ?_
  exact obX10_readAll_3W obX10_readAll_39 1000 _ _ _ _ _ _ hF
def fX10_read (l1 l2 l3 l4 : Int) (s0 : jMem) : jO :=
jBd (fX10_isHand l1 s0) fun x2 s3 =>
if x2 = 0 then (
jRet (-1) s3)
else (
jBd (fX10_isRack l2 s3) fun x5 s6 =>
if x5 = 0 then (
jRet (-1) s6)
else (
jGd ((0 : Int) ≤ l2 ∧ l2 < jrk 1 5) <| jLet (jrf 1 l2) fun x9 =>
jGd ((0 : Int) ≤ l1 ∧ l1 < jrk 2 6) <| jLet (jrf 2 l1) fun x12 =>
jGd (jcl x9 = 4) <| jBd (fX5_isMissing x9 s6) fun x15 s16 =>
if x15 = 0 then (
if 0 ≤ l4 then (
jBd (fX5_reaches x9 l3 l4 s16) fun x21 s22 =>
if x21 = 0 then (
jRet (-12) s22)
else (
jGd (jcl x12 = 0) <| jBd (fX1_size x12 s22) fun x25 s26 =>
jLet (j32 (x25 + l4)) fun x28 =>
if x28 ≤ 14 then (
jBd (fX10_readAll x12 x9 l3 l4 s26) fun x34 s35 =>
jRet x34 s35)
else (
jRet (-17) s26)))
else (
jRet (-13) s16))
else (
jRet (-11) s16)))
def gX10_read (vs : List Int) (s : jMem) : jO := match vs with
  | [a0, a1, a2, a3, a4] => jGd (a0 = 0) <| fX10_read a1 a2 a3 a4 s
  | _ => none
set_option maxRecDepth 100000 in
set_option maxHeartbeats 4000000 in
theorem oX10_read : jOk MX10_read [3, 1, 1, 1, 1] 3 (jFn gX10_read) := by
  refine jOk_fn (by decide +kernel) (Nat.le_of_ble_eq_true rfl) (by decide +kernel) (.inr (.inl rfl)) ?_
  intro E vs s0 Rr hF ha
  obtain ⟨l0, t0, rfl, r_l0, ha⟩ := jRa_ci ha
  obtain ⟨l1, t1, rfl, r_l1, ha⟩ := jRa_ci ha
  obtain ⟨l2, t2, rfl, r_l2, ha⟩ := jRa_ci ha
  obtain ⟨l3, t3, rfl, r_l3, ha⟩ := jRa_ci ha
  obtain ⟨l4, t4, rfl, r_l4, ha⟩ := jRa_ci ha
  obtain rfl := jRa_ni ha
  replace hF : jHo Rr (jGd (l0 = 0) <| fX10_read l1 l2 l3 l4 s0) := hF
  have hG := jHo_as hF
  clear hF
  obtain ⟨rfl, hF⟩ := hG
  refine jg_norm [3, 1, 1, 1, 1, 0, 0] [0, l1, l2, l3, l4, 0, 0] rfl rfl ?_
  unfold fX10_read at hF
  refine ji_iload_n (n := 1) (pc := 0) l1 rfl rfl rfl dX10_read_0 (fun r1 => ?_)
  refine ji_callSz (pc := 1) [l1] ([]) oX10_isHand wlX10_103 wmX10_isHand rfl rfl (Nat.le_of_ble_eq_true rfl) (jRaC r1 jRa0) rfl rfl (Nat.le_of_ble_eq_true rfl) hF dX10_read_1 (fun x2 s3 r_x2 hF => ?_)
  refine ji_if_eq 14 (pc := 4) (jR51 r_x2) hF dX10_read_4 rfl (fun hF => ?_) (fun hF => ?_)
  · refine ji_iconst (pc := 14) dX10_read_14 ?_
    exact ji_reti (pc := 15) rfl (jRc rfl) hF dX10_read_15
  · refine ji_iload_n (n := 2) (pc := 7) l2 rfl rfl rfl dX10_read_7 (fun r4 => ?_)
    refine ji_callSz (pc := 8) [l2] ([]) oX10_isRack wlX10_68 wmX10_isRack rfl rfl (Nat.le_of_ble_eq_true rfl) (jRaC r4 jRa0) rfl rfl (Nat.le_of_ble_eq_true rfl) hF dX10_read_8 (fun x5 s6 r_x5 hF => ?_)
    refine ji_if_ne 16 (pc := 11) (jR51 r_x5) hF dX10_read_11 rfl (fun hF => ?_) (fun hF => ?_)
    · refine ji_aload_n (n := 0) (pc := 16) 0 rfl rfl rfl dX10_read_16 (fun r7 => ?_)
      refine ji_getr (pc := 17) 1 wfX10_11 (jRc3 rfl) jcl_0 jrf_0_0 dX10_read_17 ?_
      refine ji_iload_n (n := 2) (pc := 20) l2 rfl rfl rfl dX10_read_20 (fun r8 => ?_)
      refine ji_aaload (pc := 21) 5 3 (jRc3 rfl) r8 (.inl ⟨rfl, rfl, rfl⟩) hF dX10_read_21 (fun x9 r_x9 hF => ?_)
      refine ji_astore (n := 5) (pc := 22) [3, 1, 1, 1, 1, 3, 0] [0, l1, l2, l3, l4, x9, 0] r_x9 (Nat.le_of_ble_eq_true rfl) rfl rfl dX10_read_22 ?_
      refine ji_aload_n (n := 0) (pc := 24) 0 rfl rfl rfl dX10_read_24 (fun r10 => ?_)
      refine ji_getr (pc := 25) 2 wfX10_17 (jRc3 rfl) jcl_0 jrf_0_1 dX10_read_25 ?_
      refine ji_iload_n (n := 1) (pc := 28) l1 rfl rfl rfl dX10_read_28 (fun r11 => ?_)
      refine ji_aaload (pc := 29) 6 4 (jRc3 rfl) r11 (.inr ⟨rfl, rfl, rfl⟩) hF dX10_read_29 (fun x12 r_x12 hF => ?_)
      refine ji_astore (n := 6) (pc := 30) [3, 1, 1, 1, 1, 3, 3] [0, l1, l2, l3, l4, x9, x12] r_x12 (Nat.le_of_ble_eq_true rfl) rfl rfl dX10_read_30 ?_
      refine ji_aload (pc := 32) x9 rfl rfl dX10_read_32 (fun r13 => ?_)
      obtain ⟨h14, hF⟩ := jHo_as hF
      refine ji_callVz (pc := 34) x9 [] ([]) oX5_isMissing wlX10_83 wmX5_isMissing rfl rfl (Nat.le_of_ble_eq_true rfl) (jRaC r13 jRa0) rfl h14 rfl (Nat.le_of_ble_eq_true rfl) hF dX10_read_34 (fun x15 s16 r_x15 hF => ?_)
      refine ji_if_eq 43 (pc := 37) (jR51 r_x15) hF dX10_read_37 rfl (fun hF => ?_) (fun hF => ?_)
      · refine ji_iload (pc := 43) l4 rfl rfl dX10_read_43 (fun r17 => ?_)
        refine ji_if_ge 51 (pc := 45) r17 hF dX10_read_45 rfl (fun hF => ?_) (fun hF => ?_)
        · refine ji_aload (pc := 51) x9 rfl rfl dX10_read_51 (fun r18 => ?_)
          refine ji_iload_n (n := 3) (pc := 53) l3 rfl rfl rfl dX10_read_53 (fun r19 => ?_)
          refine ji_iload (pc := 54) l4 rfl rfl dX10_read_54 (fun r20 => ?_)
          refine ji_callVz (pc := 56) x9 [l3, l4] ([]) oX5_reaches wlX10_90 wmX5_reaches rfl rfl (Nat.le_of_ble_eq_true rfl) (jRaC r18 (jRaC r19 (jRaC r20 jRa0))) rfl h14 rfl (Nat.le_of_ble_eq_true rfl) hF dX10_read_56 (fun x21 s22 r_x21 hF => ?_)
          refine ji_if_ne 65 (pc := 59) (jR51 r_x21) hF dX10_read_59 rfl (fun hF => ?_) (fun hF => ?_)
          · refine ji_aload (pc := 65) x12 rfl rfl dX10_read_65 (fun r23 => ?_)
            obtain ⟨h24, hF⟩ := jHo_as hF
            refine ji_callVi (pc := 67) x12 [] ([]) oX1_size wlX10_106 wmX1_size rfl rfl (Nat.le_of_ble_eq_true rfl) (jRaC r23 jRa0) rfl h24 rfl (Nat.le_of_ble_eq_true rfl) hF dX10_read_67 (fun x25 s26 r_x25 hF => ?_)
            refine ji_iload (pc := 70) l4 rfl rfl dX10_read_70 (fun r27 => ?_)
            refine ji_iadd (pc := 72)  hF dX10_read_72 (fun x28 r_x28 hF => ?_)
            refine jg_bipush (pc := 73) rfl dX10_read_73 ?_
            refine ji_icmp_le 81 (pc := 75) r_x28 (jRc rfl) hF dX10_read_75 rfl (fun hF => ?_) (fun hF => ?_)
            · refine ji_aload_n (n := 0) (pc := 81) 0 rfl rfl rfl dX10_read_81 (fun r29 => ?_)
              refine ji_aload (pc := 82) x12 rfl rfl dX10_read_82 (fun r30 => ?_)
              refine ji_aload (pc := 84) x9 rfl rfl dX10_read_84 (fun r31 => ?_)
              refine ji_iload_n (n := 3) (pc := 86) l3 rfl rfl rfl dX10_read_86 (fun r32 => ?_)
              refine ji_iload (pc := 87) l4 rfl rfl dX10_read_87 (fun r33 => ?_)
              refine ji_callVi (pc := 89) 0 [x12, x9, l3, l4] ([]) oX10_readAll wlX10_110 wmX10_readAll rfl rfl (Nat.le_of_ble_eq_true rfl) (jRaC (jRc3 rfl) (jRaC r30 (jRaC r31 (jRaC r32 (jRaC r33 jRa0))))) rfl jcl_0 rfl (Nat.le_of_ble_eq_true rfl) hF dX10_read_89 (fun x34 s35 r_x34 hF => ?_)
              exact ji_reti (pc := 92) rfl r_x34 hF dX10_read_92
            · refine jg_bipush (pc := 78) rfl dX10_read_78 ?_
              exact ji_reti (pc := 80) rfl (jRc rfl) hF dX10_read_80
          · refine jg_bipush (pc := 62) rfl dX10_read_62 ?_
            exact ji_reti (pc := 64) rfl (jRc rfl) hF dX10_read_64
        · refine jg_bipush (pc := 48) rfl dX10_read_48 ?_
          exact ji_reti (pc := 50) rfl (jRc rfl) hF dX10_read_50
      · refine jg_bipush (pc := 40) rfl dX10_read_40 ?_
        exact ji_reti (pc := 42) rfl (jRc rfl) hF dX10_read_42
    · refine ji_iconst (pc := 14) dX10_read_14 ?_
      exact ji_reti (pc := 15) rfl (jRc rfl) hF dX10_read_15
def fX10_take (l1 l2 : Int) (s0 : jMem) : jO :=
jBd (fX10_isHand l1 s0) fun x2 s3 =>
if x2 = 0 then (
jRet (-1) s3)
else (
jBd (fX8_isSort l2 s3) fun x5 s6 =>
if x5 = 0 then (
jRet (-1) s6)
else (
jGd ((0 : Int) ≤ l1 ∧ l1 < jrk 2 6) <| jLet (jrf 2 l1) fun x9 =>
jGd (jcl x9 = 0) <| jBd (fX1_isFull x9 s6) fun x11 s12 =>
if x11 = 0 then (
jGd ((0 : Int) ≤ l2 ∧ l2 < jik 3) <| jLet (s12 3 l2) fun x15 =>
if x15 = 0 then (
jRet (-16) s12)
else (
jGd ((0 : Int) ≤ l2 ∧ l2 < jik 3) <| jLet (s12 3 l2) fun x18 =>
jLet (j32 (x18 - 1)) fun x19 =>
jGd ((0 : Int) ≤ l2 ∧ l2 < jik 3) <| jLet (jU s12 3 l2 x19) fun s20 =>
jGd ((0 : Int) ≤ l1 ∧ l1 < jrk 2 6) <| jLet (jrf 2 l1) fun x23 =>
jGd (jcl x23 = 0) <| jBd (fX1_gain x23 l2 s20) fun x26 s27 =>
jGd ((0 : Int) ≤ l1 ∧ l1 < jrk 2 6) <| jLet (jrf 2 l1) fun x30 =>
jGd (jcl x30 = 0) <| jBd (fX1_size x30 s27) fun x32 s33 =>
jRet x32 s33))
else (
jRet (-2) s12)))
def gX10_take (vs : List Int) (s : jMem) : jO := match vs with
  | [a0, a1, a2] => jGd (a0 = 0) <| fX10_take a1 a2 s
  | _ => none
set_option maxRecDepth 100000 in
set_option maxHeartbeats 4000000 in
theorem oX10_take : jOk MX10_take [3, 1, 1] 2 (jFn gX10_take) := by
  refine jOk_fn (by decide +kernel) (Nat.le_of_ble_eq_true rfl) (by decide +kernel) (.inr (.inl rfl)) ?_
  intro E vs s0 Rr hF ha
  obtain ⟨l0, t0, rfl, r_l0, ha⟩ := jRa_ci ha
  obtain ⟨l1, t1, rfl, r_l1, ha⟩ := jRa_ci ha
  obtain ⟨l2, t2, rfl, r_l2, ha⟩ := jRa_ci ha
  obtain rfl := jRa_ni ha
  replace hF : jHo Rr (jGd (l0 = 0) <| fX10_take l1 l2 s0) := hF
  have hG := jHo_as hF
  clear hF
  obtain ⟨rfl, hF⟩ := hG
  refine jg_norm [3, 1, 1] [0, l1, l2] rfl rfl ?_
  unfold fX10_take at hF
  refine ji_iload_n (n := 1) (pc := 0) l1 rfl rfl rfl dX10_take_0 (fun r1 => ?_)
  refine ji_callSz (pc := 1) [l1] ([]) oX10_isHand wlX10_103 wmX10_isHand rfl rfl (Nat.le_of_ble_eq_true rfl) (jRaC r1 jRa0) rfl rfl (Nat.le_of_ble_eq_true rfl) hF dX10_take_1 (fun x2 s3 r_x2 hF => ?_)
  refine ji_if_eq 14 (pc := 4) (jR51 r_x2) hF dX10_take_4 rfl (fun hF => ?_) (fun hF => ?_)
  · refine ji_iconst (pc := 14) dX10_take_14 ?_
    exact ji_reti (pc := 15) rfl (jRc rfl) hF dX10_take_15
  · refine ji_iload_n (n := 2) (pc := 7) l2 rfl rfl rfl dX10_take_7 (fun r4 => ?_)
    refine ji_callSz (pc := 8) [l2] ([]) oX8_isSort wlX10_114 wmX8_isSort rfl rfl (Nat.le_of_ble_eq_true rfl) (jRaC r4 jRa0) rfl rfl (Nat.le_of_ble_eq_true rfl) hF dX10_take_8 (fun x5 s6 r_x5 hF => ?_)
    refine ji_if_ne 16 (pc := 11) (jR51 r_x5) hF dX10_take_11 rfl (fun hF => ?_) (fun hF => ?_)
    · refine ji_aload_n (n := 0) (pc := 16) 0 rfl rfl rfl dX10_take_16 (fun r7 => ?_)
      refine ji_getr (pc := 17) 2 wfX10_17 (jRc3 rfl) jcl_0 jrf_0_1 dX10_take_17 ?_
      refine ji_iload_n (n := 1) (pc := 20) l1 rfl rfl rfl dX10_take_20 (fun r8 => ?_)
      refine ji_aaload (pc := 21) 6 4 (jRc3 rfl) r8 (.inr ⟨rfl, rfl, rfl⟩) hF dX10_take_21 (fun x9 r_x9 hF => ?_)
      obtain ⟨h10, hF⟩ := jHo_as hF
      refine ji_callVz (pc := 22) x9 [] ([]) oX1_isFull wlX10_117 wmX1_isFull rfl rfl (Nat.le_of_ble_eq_true rfl) (jRaC r_x9 jRa0) rfl h10 rfl (Nat.le_of_ble_eq_true rfl) hF dX10_take_22 (fun x11 s12 r_x11 hF => ?_)
      refine ji_if_eq 31 (pc := 25) (jR51 r_x11) hF dX10_take_25 rfl (fun hF => ?_) (fun hF => ?_)
      · refine ji_aload_n (n := 0) (pc := 31) 0 rfl rfl rfl dX10_take_31 (fun r13 => ?_)
        refine ji_getr (pc := 32) 3 wfX10_23 (jRc3 rfl) jcl_0 jrf_0_2 dX10_take_32 ?_
        refine ji_iload_n (n := 2) (pc := 35) l2 rfl rfl rfl dX10_take_35 (fun r14 => ?_)
        refine ji_iaload (pc := 36) (jRc3 rfl) r14 hF dX10_take_36 (fun x15 r_x15 hF => ?_)
        refine ji_if_ne 43 (pc := 37) r_x15 hF dX10_take_37 rfl (fun hF => ?_) (fun hF => ?_)
        · refine ji_aload_n (n := 0) (pc := 43) 0 rfl rfl rfl dX10_take_43 (fun r16 => ?_)
          refine ji_getr (pc := 44) 3 wfX10_23 (jRc3 rfl) jcl_0 jrf_0_2 dX10_take_44 ?_
          refine ji_iload_n (n := 2) (pc := 47) l2 rfl rfl rfl dX10_take_47 (fun r17 => ?_)
          refine jg_dup2 (pc := 48) (by decide) (by decide) dX10_take_48 ?_
          refine ji_iaload (pc := 49) (jRc3 rfl) r17 hF dX10_take_49 (fun x18 r_x18 hF => ?_)
          refine ji_iconst (pc := 50) dX10_take_50 ?_
          refine ji_isub (pc := 51)  hF dX10_take_51 (fun x19 r_x19 hF => ?_)
          refine ji_iastore (pc := 52) (jRc3 rfl) r17 r_x19 hF dX10_take_52 (fun s20 hF => ?_)
          refine ji_aload_n (n := 0) (pc := 53) 0 rfl rfl rfl dX10_take_53 (fun r21 => ?_)
          refine ji_getr (pc := 54) 2 wfX10_17 (jRc3 rfl) jcl_0 jrf_0_1 dX10_take_54 ?_
          refine ji_iload_n (n := 1) (pc := 57) l1 rfl rfl rfl dX10_take_57 (fun r22 => ?_)
          refine ji_aaload (pc := 58) 6 4 (jRc3 rfl) r22 (.inr ⟨rfl, rfl, rfl⟩) hF dX10_take_58 (fun x23 r_x23 hF => ?_)
          refine ji_iload_n (n := 2) (pc := 59) l2 rfl rfl rfl dX10_take_59 (fun r24 => ?_)
          obtain ⟨h25, hF⟩ := jHo_as hF
          refine ji_callVv (pc := 60) x23 [l2] ([]) oX1_gain wlX10_120 wmX1_gain rfl rfl (Nat.le_of_ble_eq_true rfl) (jRaC r_x23 (jRaC r24 jRa0)) rfl h25 rfl (Nat.le_of_ble_eq_true rfl) hF dX10_take_60 (fun x26 s27 hF => ?_)
          refine ji_aload_n (n := 0) (pc := 63) 0 rfl rfl rfl dX10_take_63 (fun r28 => ?_)
          refine ji_getr (pc := 64) 2 wfX10_17 (jRc3 rfl) jcl_0 jrf_0_1 dX10_take_64 ?_
          refine ji_iload_n (n := 1) (pc := 67) l1 rfl rfl rfl dX10_take_67 (fun r29 => ?_)
          refine ji_aaload (pc := 68) 6 4 (jRc3 rfl) r29 (.inr ⟨rfl, rfl, rfl⟩) hF dX10_take_68 (fun x30 r_x30 hF => ?_)
          obtain ⟨h31, hF⟩ := jHo_as hF
          refine ji_callVi (pc := 69) x30 [] ([]) oX1_size wlX10_106 wmX1_size rfl rfl (Nat.le_of_ble_eq_true rfl) (jRaC r_x30 jRa0) rfl h31 rfl (Nat.le_of_ble_eq_true rfl) hF dX10_take_69 (fun x32 s33 r_x32 hF => ?_)
          exact ji_reti (pc := 72) rfl r_x32 hF dX10_take_72
        · refine jg_bipush (pc := 40) rfl dX10_take_40 ?_
          exact ji_reti (pc := 42) rfl (jRc rfl) hF dX10_take_42
      · refine jg_bipush (pc := 28) rfl dX10_take_28 ?_
        exact ji_reti (pc := 30) rfl (jRc rfl) hF dX10_take_30
    · refine ji_iconst (pc := 14) dX10_take_14 ?_
      exact ji_reti (pc := 15) rfl (jRc rfl) hF dX10_take_15
def fX10_seed (l1 : Int) (s0 : jMem) : jO :=
if 0 ≤ l1 then (
jLet (jU s0 0 8 l1) fun s4 =>
jRet 0 s4)
else (
jRet (-1) s0)
def gX10_seed (vs : List Int) (s : jMem) : jO := match vs with
  | [a0, a1] => jGd (a0 = 0) <| fX10_seed a1 s
  | _ => none
set_option maxRecDepth 100000 in
set_option maxHeartbeats 4000000 in
theorem oX10_seed : jOk MX10_seed [3, 1] 0 (jFn gX10_seed) := by
  refine jOk_fn (by decide +kernel) (Nat.le_of_ble_eq_true rfl) (by decide +kernel) (.inr (.inl rfl)) ?_
  intro E vs s0 Rr hF ha
  obtain ⟨l0, t0, rfl, r_l0, ha⟩ := jRa_ci ha
  obtain ⟨l1, t1, rfl, r_l1, ha⟩ := jRa_ci ha
  obtain rfl := jRa_ni ha
  replace hF : jHo Rr (jGd (l0 = 0) <| fX10_seed l1 s0) := hF
  have hG := jHo_as hF
  clear hF
  obtain ⟨rfl, hF⟩ := hG
  refine jg_norm [3, 1] [0, l1] rfl rfl ?_
  unfold fX10_seed at hF
  refine ji_iload_n (n := 1) (pc := 0) l1 rfl rfl rfl dX10_seed_0 (fun r1 => ?_)
  refine ji_if_ge 6 (pc := 1) r1 hF dX10_seed_1 rfl (fun hF => ?_) (fun hF => ?_)
  · refine ji_aload_n (n := 0) (pc := 6) 0 rfl rfl rfl dX10_seed_6 (fun r2 => ?_)
    refine ji_iload_n (n := 1) (pc := 7) l1 rfl rfl rfl dX10_seed_7 (fun r3 => ?_)
    refine ji_putfi (pc := 8) wpX10_56 (jRc3 rfl) jcl_0 r3 hF dX10_seed_8 (fun s4 hF => ?_)
    refine ji_iconst (pc := 11) dX10_seed_11 ?_
    exact ji_reti (pc := 12) rfl (jRc rfl) hF dX10_seed_12
  · refine ji_iconst (pc := 4) dX10_seed_4 ?_
    exact ji_reti (pc := 5) rfl (jRc rfl) hF dX10_seed_5
def bX10_drawNext_50 (k68 : Int → Int → jMem → jO) (rec : Int → Int → Int → jMem → jO) (l1 l3 l4 : Int) (s0 : jMem) : jO :=
if 34 ≤ l4 then (
jRet (-3) s0)
else (
jGd ((0 : Int) ≤ l4 ∧ l4 < jik 3) <| jLet (s0 3 l4) fun x5 =>
if x5 ≤ l3 then (
jGd ((0 : Int) ≤ l4 ∧ l4 < jik 3) <| jLet (s0 3 l4) fun x9 =>
jLet (j32 (l3 - x9)) fun x10 =>
jLet (j32 (l4 + 1)) fun x11 =>
rec l1 x10 x11 s0)
else (
k68 l1 l4 s0))
def bX10_drawNext_68 (l1 l4 : Int) (s0 : jMem) : jO :=
jGd ((0 : Int) ≤ l4 ∧ l4 < jik 3) <| jLet (s0 3 l4) fun x3 =>
jLet (j32 (x3 - 1)) fun x4 =>
jGd ((0 : Int) ≤ l4 ∧ l4 < jik 3) <| jLet (jU s0 3 l4 x4) fun s5 =>
jGd (jcl l1 = 0) <| jBd (fX1_gain l1 l4 s5) fun x9 s10 =>
jRet l4 s10
def fX10_drawNext (l1 : Int) (s0 : jMem) : jO :=
jBd (fX8_sum 3 s0) fun x2 s3 =>
if x2 = 0 then (
jRet (-3) s3)
else (
jLet (s3 0 8) fun x7 =>
jLet (j64 (x7 * 48271)) fun x8 =>
jLet (j64 (x8 + 11)) fun x9 =>
jLet (jandl x9 2147483647) fun x10 =>
jLet (j32 x10) fun x11 =>
jLet (jU s3 0 8 x11) fun s12 =>
jLet (s12 0 8) fun x14 =>
jGd (¬ (64 : Int) = 0) <| jLet (jdiv x14 64) fun x15 =>
jGd (¬ (x2 : Int) = 0) <| jLet (jrem x15 x2) fun x17 =>
jIt (fun _ _ _ _ => none) (bX10_drawNext_50 bX10_drawNext_68) 1000 l1 x17 0 s12)
def gX10_drawNext (vs : List Int) (s : jMem) : jO := match vs with
  | [a0, a1] => jGd (a0 = 0) <| fX10_drawNext a1 s
  | _ => none
set_option maxRecDepth 100000 in
set_option maxHeartbeats 4000000 in
theorem obX10_drawNext_50 {E : jEnv} {Rr : Int → jMem → Prop} {k68 : Int → Int → jMem → jO} (hk68 : ∀ (l1 l4 : Int) (s : jMem), jHo Rr (k68 l1 l4 s) → jGo E MX10_drawNext 1 Rr [3, 3, 0, 0, 1] 68 [0, l1, 0, 0, l4] ([]) s) {rec : Int → Int → Int → jMem → jO} (hrec : ∀ (l1 l3 l4 : Int) (s : jMem), jHo Rr (rec l1 l3 l4 s) → jGo E MX10_drawNext 1 Rr [3, 3, 0, 1, 1] 50 [0, l1, 0, l3, l4] ([]) s) : ∀ (l1 l3 l4 : Int) (s : jMem), jHo Rr (bX10_drawNext_50 k68 rec l1 l3 l4 s) → jGo E MX10_drawNext 1 Rr [3, 3, 0, 1, 1] 50 [0, l1, 0, l3, l4] ([]) s := by
  intro l1 l3 l4 s0 hF
  unfold bX10_drawNext_50 at hF
  refine ji_iload (pc := 50) l4 rfl rfl dX10_drawNext_50 (fun r1 => ?_)
  refine jg_bipush (pc := 52) rfl dX10_drawNext_52 ?_
  refine ji_icmp_ge 104 (pc := 54) r1 (jRc rfl) hF dX10_drawNext_54 rfl (fun hF => ?_) (fun hF => ?_)
  · refine jg_bipush (pc := 104) rfl dX10_drawNext_104 ?_
    exact ji_reti (pc := 106) rfl (jRc rfl) hF dX10_drawNext_106
  · refine ji_iload_n (n := 3) (pc := 57) l3 rfl rfl rfl dX10_drawNext_57 (fun r2 => ?_)
    refine ji_aload_n (n := 0) (pc := 58) 0 rfl rfl rfl dX10_drawNext_58 (fun r3 => ?_)
    refine ji_getr (pc := 59) 3 wfX10_23 (jRc3 rfl) jcl_0 jrf_0_2 dX10_drawNext_59 ?_
    refine ji_iload (pc := 62) l4 rfl rfl dX10_drawNext_62 (fun r4 => ?_)
    refine ji_iaload (pc := 64) (jRc3 rfl) r4 hF dX10_drawNext_64 (fun x5 r_x5 hF => ?_)
    refine ji_icmp_ge 88 (pc := 65) r2 r_x5 hF dX10_drawNext_65 rfl (fun hF => ?_) (fun hF => ?_)
    · refine ji_iload_n (n := 3) (pc := 88) l3 rfl rfl rfl dX10_drawNext_88 (fun r6 => ?_)
      refine ji_aload_n (n := 0) (pc := 89) 0 rfl rfl rfl dX10_drawNext_89 (fun r7 => ?_)
      refine ji_getr (pc := 90) 3 wfX10_23 (jRc3 rfl) jcl_0 jrf_0_2 dX10_drawNext_90 ?_
      refine ji_iload (pc := 93) l4 rfl rfl dX10_drawNext_93 (fun r8 => ?_)
      refine ji_iaload (pc := 95) (jRc3 rfl) r8 hF dX10_drawNext_95 (fun x9 r_x9 hF => ?_)
      refine ji_isub (pc := 96)  hF dX10_drawNext_96 (fun x10 r_x10 hF => ?_)
      refine ji_istore_n (n := 3) (pc := 97) [3, 3, 0, 1, 1] [0, l1, 0, x10, l4] rfl r_x10 (Nat.le_of_ble_eq_true rfl) rfl rfl dX10_drawNext_97 ?_
      refine ji_iinc (pc := 98) l4 (fun w => [0, l1, 0, x10, w]) rfl rfl rfl (fun _ => rfl) hF dX10_drawNext_98 (fun x11 r_x11 hF => ?_)
      refine jg_goto (pc := 101) 50 dX10_drawNext_101 rfl ?_
      refine jg_norm [3, 3, 0, 1, 1] [0, l1, 0, x10, x11] rfl rfl ?_
      exact hrec _ _ _ _ hF
    · refine jg_norm [3, 3, 0, 0, 1] [0, l1, 0, 0, l4] rfl rfl ?_
      exact hk68 _ _ _ hF
theorem obX10_drawNext_50W {E : jEnv} {Rr : Int → jMem → Prop} {k68 : Int → Int → jMem → jO} (hk68 : ∀ (l1 l4 : Int) (s : jMem), jHo Rr (k68 l1 l4 s) → jGo E MX10_drawNext 1 Rr [3, 3, 0, 0, 1] 68 [0, l1, 0, 0, l4] ([]) s) : ∀ n : Nat, ∀ (l1 l3 l4 : Int) (s : jMem), jHo Rr (jIt (fun _ _ _ _ => none) (bX10_drawNext_50 k68) n l1 l3 l4 s) → jGo E MX10_drawNext 1 Rr [3, 3, 0, 1, 1] 50 [0, l1, 0, l3, l4] ([]) s := by
  intro n
  induction n with
  | zero => intro l1 l3 l4 s hF; exact jHo_none hF
  | succ n ih => exact obX10_drawNext_50 hk68 ih

set_option maxRecDepth 100000 in
set_option maxHeartbeats 4000000 in
theorem obX10_drawNext_68 {E : jEnv} {Rr : Int → jMem → Prop} : ∀ (l1 l4 : Int) (s : jMem), jHo Rr (bX10_drawNext_68 l1 l4 s) → jGo E MX10_drawNext 1 Rr [3, 3, 0, 0, 1] 68 [0, l1, 0, 0, l4] ([]) s := by
  intro l1 l4 s0 hF
  unfold bX10_drawNext_68 at hF
  refine ji_aload_n (n := 0) (pc := 68) 0 rfl rfl rfl dX10_drawNext_68 (fun r1 => ?_)
  refine ji_getr (pc := 69) 3 wfX10_23 (jRc3 rfl) jcl_0 jrf_0_2 dX10_drawNext_69 ?_
  refine ji_iload (pc := 72) l4 rfl rfl dX10_drawNext_72 (fun r2 => ?_)
  refine jg_dup2 (pc := 74) (by decide) (by decide) dX10_drawNext_74 ?_
  refine ji_iaload (pc := 75) (jRc3 rfl) r2 hF dX10_drawNext_75 (fun x3 r_x3 hF => ?_)
  refine ji_iconst (pc := 76) dX10_drawNext_76 ?_
  refine ji_isub (pc := 77)  hF dX10_drawNext_77 (fun x4 r_x4 hF => ?_)
  refine ji_iastore (pc := 78) (jRc3 rfl) r2 r_x4 hF dX10_drawNext_78 (fun s5 hF => ?_)
  refine ji_aload_n (n := 1) (pc := 79) l1 rfl rfl rfl dX10_drawNext_79 (fun r6 => ?_)
  refine ji_iload (pc := 80) l4 rfl rfl dX10_drawNext_80 (fun r7 => ?_)
  obtain ⟨h8, hF⟩ := jHo_as hF
  refine ji_callVv (pc := 82) l1 [l4] ([]) oX1_gain wlX10_120 wmX1_gain rfl rfl (Nat.le_of_ble_eq_true rfl) (jRaC r6 (jRaC r7 jRa0)) rfl h8 rfl (Nat.le_of_ble_eq_true rfl) hF dX10_drawNext_82 (fun x9 s10 hF => ?_)
  refine ji_iload (pc := 85) l4 rfl rfl dX10_drawNext_85 (fun r11 => ?_)
  exact ji_reti (pc := 87) rfl r11 hF dX10_drawNext_87
set_option maxRecDepth 100000 in
set_option maxHeartbeats 4000000 in
theorem oX10_drawNext : jOk MX10_drawNext [3, 3] 1 (jFn gX10_drawNext) := by
  refine jOk_fn (by decide +kernel) (Nat.le_of_ble_eq_true rfl) (by decide +kernel) (.inr (.inl rfl)) ?_
  intro E vs s0 Rr hF ha
  obtain ⟨l0, t0, rfl, r_l0, ha⟩ := jRa_ci ha
  obtain ⟨l1, t1, rfl, r_l1, ha⟩ := jRa_ci ha
  obtain rfl := jRa_ni ha
  replace hF : jHo Rr (jGd (l0 = 0) <| fX10_drawNext l1 s0) := hF
  have hG := jHo_as hF
  clear hF
  obtain ⟨rfl, hF⟩ := hG
  refine jg_norm [3, 3, 0, 0, 0] [0, l1, 0, 0, 0] rfl rfl ?_
  unfold fX10_drawNext at hF
  refine ji_aload_n (n := 0) (pc := 0) 0 rfl rfl rfl dX10_drawNext_0 (fun r1 => ?_)
  refine ji_getr (pc := 1) 3 wfX10_23 (jRc3 rfl) jcl_0 jrf_0_2 dX10_drawNext_1 ?_
  refine ji_callSi (pc := 4) [3] ([]) oX8_sum wlX10_279 wmX8_sum rfl rfl (Nat.le_of_ble_eq_true rfl) (jRaC (jRc3 rfl) jRa0) rfl rfl (Nat.le_of_ble_eq_true rfl) hF dX10_drawNext_4 (fun x2 s3 r_x2 hF => ?_)
  refine ji_istore_n (n := 2) (pc := 7) [3, 3, 1, 0, 0] [0, l1, x2, 0, 0] rfl r_x2 (Nat.le_of_ble_eq_true rfl) rfl rfl dX10_drawNext_7 ?_
  refine ji_iload_n (n := 2) (pc := 8) x2 rfl rfl rfl dX10_drawNext_8 (fun r4 => ?_)
  refine ji_if_ne 15 (pc := 9) r4 hF dX10_drawNext_9 rfl (fun hF => ?_) (fun hF => ?_)
  · refine ji_aload_n (n := 0) (pc := 15) 0 rfl rfl rfl dX10_drawNext_15 (fun r5 => ?_)
    refine ji_aload_n (n := 0) (pc := 16) 0 rfl rfl rfl dX10_drawNext_16 (fun r6 => ?_)
    refine ji_getfi (pc := 17) wfX10_56 (jRc3 rfl) jcl_0 hF dX10_drawNext_17 (fun x7 r_x7 hF => ?_)
    refine jg_i2l (pc := 20) r_x7 dX10_drawNext_20 ?_
    refine jg_ldc2 (n := 48271) (pc := 21) wnX10_281 dX10_drawNext_21 ?_
    refine ji_lmul (pc := 24)  hF dX10_drawNext_24 (fun x8 r_x8 hF => ?_)
    refine jg_ldc2 (n := 11) (pc := 25) wnX10_283 dX10_drawNext_25 ?_
    refine ji_ladd (pc := 28)  hF dX10_drawNext_28 (fun x9 r_x9 hF => ?_)
    refine jg_ldc2 (n := 2147483647) (pc := 29) wnX10_285 dX10_drawNext_29 ?_
    refine ji_land (pc := 32)  hF dX10_drawNext_32 (fun x10 r_x10 hF => ?_)
    refine ji_l2i (pc := 33)  hF dX10_drawNext_33 (fun x11 r_x11 hF => ?_)
    refine ji_putfi (pc := 34) wpX10_56 (jRc3 rfl) jcl_0 r_x11 hF dX10_drawNext_34 (fun s12 hF => ?_)
    refine ji_aload_n (n := 0) (pc := 37) 0 rfl rfl rfl dX10_drawNext_37 (fun r13 => ?_)
    refine ji_getfi (pc := 38) wfX10_56 (jRc3 rfl) jcl_0 hF dX10_drawNext_38 (fun x14 r_x14 hF => ?_)
    refine jg_bipush (pc := 41) rfl dX10_drawNext_41 ?_
    refine ji_idiv (pc := 43) (jRc rfl) hF dX10_drawNext_43 (fun x15 r_x15 hF => ?_)
    refine ji_iload_n (n := 2) (pc := 44) x2 rfl rfl rfl dX10_drawNext_44 (fun r16 => ?_)
    refine ji_irem (pc := 45) r16 hF dX10_drawNext_45 (fun x17 r_x17 hF => ?_)
    refine ji_istore_n (n := 3) (pc := 46) [3, 3, 1, 1, 0] [0, l1, x2, x17, 0] rfl r_x17 (Nat.le_of_ble_eq_true rfl) rfl rfl dX10_drawNext_46 ?_
    refine ji_iconst (pc := 47) dX10_drawNext_47 ?_
    refine ji_istore (n := 4) (pc := 48) [3, 3, 1, 1, 1] [0, l1, x2, x17, 0] (jRc rfl) (Nat.le_of_ble_eq_true rfl) rfl rfl dX10_drawNext_48 ?_
    refine jg_norm [3, 3, 0, 1, 1] [0, l1, 0, x17, 0] rfl rfl ?_
    exact obX10_drawNext_50W obX10_drawNext_68 1000 _ _ _ _ hF
  · refine jg_bipush (pc := 12) rfl dX10_drawNext_12 ?_
    exact ji_reti (pc := 14) rfl (jRc rfl) hF dX10_drawNext_14
def fX10_draw (l1 : Int) (s0 : jMem) : jO :=
jBd (fX10_isHand l1 s0) fun x2 s3 =>
if x2 = 0 then (
jRet (-1) s3)
else (
jGd ((0 : Int) ≤ l1 ∧ l1 < jrk 2 6) <| jLet (jrf 2 l1) fun x6 =>
jGd (jcl x6 = 0) <| jBd (fX1_isFull x6 s3) fun x8 s9 =>
if x8 = 0 then (
jGd ((0 : Int) ≤ l1 ∧ l1 < jrk 2 6) <| jLet (jrf 2 l1) fun x13 =>
jBd (fX10_drawNext x13 s9) fun x14 s15 =>
jRet x14 s15)
else (
jRet (-2) s9))
def gX10_draw (vs : List Int) (s : jMem) : jO := match vs with
  | [a0, a1] => jGd (a0 = 0) <| fX10_draw a1 s
  | _ => none
set_option maxRecDepth 100000 in
set_option maxHeartbeats 4000000 in
theorem oX10_draw : jOk MX10_draw [3, 1] 2 (jFn gX10_draw) := by
  refine jOk_fn (by decide +kernel) (Nat.le_of_ble_eq_true rfl) (by decide +kernel) (.inr (.inl rfl)) ?_
  intro E vs s0 Rr hF ha
  obtain ⟨l0, t0, rfl, r_l0, ha⟩ := jRa_ci ha
  obtain ⟨l1, t1, rfl, r_l1, ha⟩ := jRa_ci ha
  obtain rfl := jRa_ni ha
  replace hF : jHo Rr (jGd (l0 = 0) <| fX10_draw l1 s0) := hF
  have hG := jHo_as hF
  clear hF
  obtain ⟨rfl, hF⟩ := hG
  refine jg_norm [3, 1] [0, l1] rfl rfl ?_
  unfold fX10_draw at hF
  refine ji_iload_n (n := 1) (pc := 0) l1 rfl rfl rfl dX10_draw_0 (fun r1 => ?_)
  refine ji_callSz (pc := 1) [l1] ([]) oX10_isHand wlX10_103 wmX10_isHand rfl rfl (Nat.le_of_ble_eq_true rfl) (jRaC r1 jRa0) rfl rfl (Nat.le_of_ble_eq_true rfl) hF dX10_draw_1 (fun x2 s3 r_x2 hF => ?_)
  refine ji_if_ne 9 (pc := 4) (jR51 r_x2) hF dX10_draw_4 rfl (fun hF => ?_) (fun hF => ?_)
  · refine ji_aload_n (n := 0) (pc := 9) 0 rfl rfl rfl dX10_draw_9 (fun r4 => ?_)
    refine ji_getr (pc := 10) 2 wfX10_17 (jRc3 rfl) jcl_0 jrf_0_1 dX10_draw_10 ?_
    refine ji_iload_n (n := 1) (pc := 13) l1 rfl rfl rfl dX10_draw_13 (fun r5 => ?_)
    refine ji_aaload (pc := 14) 6 4 (jRc3 rfl) r5 (.inr ⟨rfl, rfl, rfl⟩) hF dX10_draw_14 (fun x6 r_x6 hF => ?_)
    obtain ⟨h7, hF⟩ := jHo_as hF
    refine ji_callVz (pc := 15) x6 [] ([]) oX1_isFull wlX10_117 wmX1_isFull rfl rfl (Nat.le_of_ble_eq_true rfl) (jRaC r_x6 jRa0) rfl h7 rfl (Nat.le_of_ble_eq_true rfl) hF dX10_draw_15 (fun x8 s9 r_x8 hF => ?_)
    refine ji_if_eq 24 (pc := 18) (jR51 r_x8) hF dX10_draw_18 rfl (fun hF => ?_) (fun hF => ?_)
    · refine ji_aload_n (n := 0) (pc := 24) 0 rfl rfl rfl dX10_draw_24 (fun r10 => ?_)
      refine ji_aload_n (n := 0) (pc := 25) 0 rfl rfl rfl dX10_draw_25 (fun r11 => ?_)
      refine ji_getr (pc := 26) 2 wfX10_17 (jRc3 rfl) jcl_0 jrf_0_1 dX10_draw_26 ?_
      refine ji_iload_n (n := 1) (pc := 29) l1 rfl rfl rfl dX10_draw_29 (fun r12 => ?_)
      refine ji_aaload (pc := 30) 6 4 (jRc3 rfl) r12 (.inr ⟨rfl, rfl, rfl⟩) hF dX10_draw_30 (fun x13 r_x13 hF => ?_)
      refine ji_callVi (pc := 31) 0 [x13] ([]) oX10_drawNext wlX10_124 wmX10_drawNext rfl rfl (Nat.le_of_ble_eq_true rfl) (jRaC (jRc3 rfl) (jRaC r_x13 jRa0)) rfl jcl_0 rfl (Nat.le_of_ble_eq_true rfl) hF dX10_draw_31 (fun x14 s15 r_x14 hF => ?_)
      exact ji_reti (pc := 34) rfl r_x14 hF dX10_draw_34
    · refine jg_bipush (pc := 21) rfl dX10_draw_21 ?_
      exact ji_reti (pc := 23) rfl (jRc rfl) hF dX10_draw_23
  · refine ji_iconst (pc := 7) dX10_draw_7 ?_
    exact ji_reti (pc := 8) rfl (jRc rfl) hF dX10_draw_8
def bX10_deal_13 (k38 : jMem → jO) (rec : Int → jMem → jO) (l2 : Int) (s0 : jMem) : jO :=
if 4 ≤ l2 then (
k38 s0)
else (
jGd ((0 : Int) ≤ l2 ∧ l2 < jrk 2 6) <| jLet (jrf 2 l2) fun x4 =>
jGd (jcl x4 = 0) <| jBd (fX1_giveBack x4 3 s0) fun x7 s8 =>
jLet (j32 (l2 + 1)) fun x9 =>
rec x9 s8)
def bX10_deal_63 (k86 : Int → jMem → jO) (rec : Int → Int → jMem → jO) (l2 l3 : Int) (s0 : jMem) : jO :=
if 13 ≤ l3 then (
k86 l2 s0)
else (
jGd ((0 : Int) ≤ l2 ∧ l2 < jrk 2 6) <| jLet (jrf 2 l2) fun x5 =>
jBd (fX10_drawNext x5 s0) fun x6 s7 =>
jLet (j32 (l3 + 1)) fun x8 =>
rec l2 x8 s7)
def bX10_deal_86 (k56 : Int → jMem → jO) (l2 : Int) (s0 : jMem) : jO :=
jLet (j32 (l2 + 1)) fun x1 =>
k56 x1 s0
def bX10_deal_56 (rec : Int → jMem → jO) (l2 : Int) (s0 : jMem) : jO :=
if 4 ≤ l2 then (
jRet 0 s0)
else (
jIt (fun _ _ _ => none) (bX10_deal_63 (bX10_deal_86 rec)) 1000 l2 0 s0)
def bX10_deal_38 (s0 : jMem) : jO :=
jBd (fJ7_fill_53178 3 4 s0) fun x2 s3 =>
jBd (fJ7_fill_53178 4 0 s3) fun x5 s6 =>
jIt (fun _ _ => none) (bX10_deal_56) 1000 0 s6
def fX10_deal (l1 : Int) (s0 : jMem) : jO :=
if 0 ≤ l1 then (
jLet (jU s0 0 8 l1) fun s4 =>
jIt (fun _ _ => none) (bX10_deal_13 bX10_deal_38) 1000 0 s4)
else (
jRet (-1) s0)
def gX10_deal (vs : List Int) (s : jMem) : jO := match vs with
  | [a0, a1] => jGd (a0 = 0) <| fX10_deal a1 s
  | _ => none
set_option maxRecDepth 100000 in
set_option maxHeartbeats 4000000 in
theorem obX10_deal_13 {E : jEnv} {Rr : Int → jMem → Prop} {k38 : jMem → jO} (hk38 : ∀ (s : jMem), jHo Rr (k38 s) → jGo E MX10_deal 2 Rr [3, 0, 0, 0] 38 [0, 0, 0, 0] ([]) s) {rec : Int → jMem → jO} (hrec : ∀ (l2 : Int) (s : jMem), jHo Rr (rec l2 s) → jGo E MX10_deal 2 Rr [3, 0, 1, 0] 13 [0, 0, l2, 0] ([]) s) : ∀ (l2 : Int) (s : jMem), jHo Rr (bX10_deal_13 k38 rec l2 s) → jGo E MX10_deal 2 Rr [3, 0, 1, 0] 13 [0, 0, l2, 0] ([]) s := by
  intro l2 s0 hF
  unfold bX10_deal_13 at hF
  refine ji_iload_n (n := 2) (pc := 13) l2 rfl rfl rfl dX10_deal_13 (fun r1 => ?_)
  refine ji_iconst (pc := 14) dX10_deal_14 ?_
  refine ji_icmp_ge 38 (pc := 15) r1 (jRc rfl) hF dX10_deal_15 rfl (fun hF => ?_) (fun hF => ?_)
  · refine jg_norm [3, 0, 0, 0] [0, 0, 0, 0] rfl rfl ?_
    exact hk38 _ hF
  · refine ji_aload_n (n := 0) (pc := 18) 0 rfl rfl rfl dX10_deal_18 (fun r2 => ?_)
    refine ji_getr (pc := 19) 2 wfX10_17 (jRc3 rfl) jcl_0 jrf_0_1 dX10_deal_19 ?_
    refine ji_iload_n (n := 2) (pc := 22) l2 rfl rfl rfl dX10_deal_22 (fun r3 => ?_)
    refine ji_aaload (pc := 23) 6 4 (jRc3 rfl) r3 (.inr ⟨rfl, rfl, rfl⟩) hF dX10_deal_23 (fun x4 r_x4 hF => ?_)
    refine ji_aload_n (n := 0) (pc := 24) 0 rfl rfl rfl dX10_deal_24 (fun r5 => ?_)
    refine ji_getr (pc := 25) 3 wfX10_23 (jRc3 rfl) jcl_0 jrf_0_2 dX10_deal_25 ?_
    obtain ⟨h6, hF⟩ := jHo_as hF
    refine ji_callVi (pc := 28) x4 [3] ([]) oX1_giveBack wlX10_128 wmX1_giveBack rfl rfl (Nat.le_of_ble_eq_true rfl) (jRaC r_x4 (jRaC (jRc3 rfl) jRa0)) rfl h6 rfl (Nat.le_of_ble_eq_true rfl) hF dX10_deal_28 (fun x7 s8 r_x7 hF => ?_)
    refine jg_pop (pc := 31) (by decide) dX10_deal_31 ?_
    refine ji_iinc (pc := 32) l2 (fun w => [0, 0, w, 0]) rfl rfl rfl (fun _ => rfl) hF dX10_deal_32 (fun x9 r_x9 hF => ?_)
    refine jg_goto (pc := 35) 13 dX10_deal_35 rfl ?_
    refine jg_norm [3, 0, 1, 0] [0, 0, x9, 0] rfl rfl ?_
    exact hrec _ _ hF
theorem obX10_deal_13W {E : jEnv} {Rr : Int → jMem → Prop} {k38 : jMem → jO} (hk38 : ∀ (s : jMem), jHo Rr (k38 s) → jGo E MX10_deal 2 Rr [3, 0, 0, 0] 38 [0, 0, 0, 0] ([]) s) : ∀ n : Nat, ∀ (l2 : Int) (s : jMem), jHo Rr (jIt (fun _ _ => none) (bX10_deal_13 k38) n l2 s) → jGo E MX10_deal 2 Rr [3, 0, 1, 0] 13 [0, 0, l2, 0] ([]) s := by
  intro n
  induction n with
  | zero => intro l2 s hF; exact jHo_none hF
  | succ n ih => exact obX10_deal_13 hk38 ih

set_option maxRecDepth 100000 in
set_option maxHeartbeats 4000000 in
theorem obX10_deal_63 {E : jEnv} {Rr : Int → jMem → Prop} {k86 : Int → jMem → jO} (hk86 : ∀ (l2 : Int) (s : jMem), jHo Rr (k86 l2 s) → jGo E MX10_deal 2 Rr [3, 0, 1, 0] 86 [0, 0, l2, 0] ([]) s) {rec : Int → Int → jMem → jO} (hrec : ∀ (l2 l3 : Int) (s : jMem), jHo Rr (rec l2 l3 s) → jGo E MX10_deal 2 Rr [3, 0, 1, 1] 63 [0, 0, l2, l3] ([]) s) : ∀ (l2 l3 : Int) (s : jMem), jHo Rr (bX10_deal_63 k86 rec l2 l3 s) → jGo E MX10_deal 2 Rr [3, 0, 1, 1] 63 [0, 0, l2, l3] ([]) s := by
  intro l2 l3 s0 hF
  unfold bX10_deal_63 at hF
  refine ji_iload_n (n := 3) (pc := 63) l3 rfl rfl rfl dX10_deal_63 (fun r1 => ?_)
  refine jg_bipush (pc := 64) rfl dX10_deal_64 ?_
  refine ji_icmp_ge 86 (pc := 66) r1 (jRc rfl) hF dX10_deal_66 rfl (fun hF => ?_) (fun hF => ?_)
  · refine jg_norm [3, 0, 1, 0] [0, 0, l2, 0] rfl rfl ?_
    exact hk86 _ _ hF
  · refine ji_aload_n (n := 0) (pc := 69) 0 rfl rfl rfl dX10_deal_69 (fun r2 => ?_)
    refine ji_aload_n (n := 0) (pc := 70) 0 rfl rfl rfl dX10_deal_70 (fun r3 => ?_)
    refine ji_getr (pc := 71) 2 wfX10_17 (jRc3 rfl) jcl_0 jrf_0_1 dX10_deal_71 ?_
    refine ji_iload_n (n := 2) (pc := 74) l2 rfl rfl rfl dX10_deal_74 (fun r4 => ?_)
    refine ji_aaload (pc := 75) 6 4 (jRc3 rfl) r4 (.inr ⟨rfl, rfl, rfl⟩) hF dX10_deal_75 (fun x5 r_x5 hF => ?_)
    refine ji_callVi (pc := 76) 0 [x5] ([]) oX10_drawNext wlX10_124 wmX10_drawNext rfl rfl (Nat.le_of_ble_eq_true rfl) (jRaC (jRc3 rfl) (jRaC r_x5 jRa0)) rfl jcl_0 rfl (Nat.le_of_ble_eq_true rfl) hF dX10_deal_76 (fun x6 s7 r_x6 hF => ?_)
    refine jg_pop (pc := 79) (by decide) dX10_deal_79 ?_
    refine ji_iinc (pc := 80) l3 (fun w => [0, 0, l2, w]) rfl rfl rfl (fun _ => rfl) hF dX10_deal_80 (fun x8 r_x8 hF => ?_)
    refine jg_goto (pc := 83) 63 dX10_deal_83 rfl ?_
    refine jg_norm [3, 0, 1, 1] [0, 0, l2, x8] rfl rfl ?_
    exact hrec _ _ _ hF
theorem obX10_deal_63W {E : jEnv} {Rr : Int → jMem → Prop} {k86 : Int → jMem → jO} (hk86 : ∀ (l2 : Int) (s : jMem), jHo Rr (k86 l2 s) → jGo E MX10_deal 2 Rr [3, 0, 1, 0] 86 [0, 0, l2, 0] ([]) s) : ∀ n : Nat, ∀ (l2 l3 : Int) (s : jMem), jHo Rr (jIt (fun _ _ _ => none) (bX10_deal_63 k86) n l2 l3 s) → jGo E MX10_deal 2 Rr [3, 0, 1, 1] 63 [0, 0, l2, l3] ([]) s := by
  intro n
  induction n with
  | zero => intro l2 l3 s hF; exact jHo_none hF
  | succ n ih => exact obX10_deal_63 hk86 ih

set_option maxRecDepth 100000 in
set_option maxHeartbeats 4000000 in
theorem obX10_deal_86 {E : jEnv} {Rr : Int → jMem → Prop} {k56 : Int → jMem → jO} (hk56 : ∀ (l2 : Int) (s : jMem), jHo Rr (k56 l2 s) → jGo E MX10_deal 2 Rr [3, 0, 1, 0] 56 [0, 0, l2, 0] ([]) s) : ∀ (l2 : Int) (s : jMem), jHo Rr (bX10_deal_86 k56 l2 s) → jGo E MX10_deal 2 Rr [3, 0, 1, 0] 86 [0, 0, l2, 0] ([]) s := by
  intro l2 s0 hF
  unfold bX10_deal_86 at hF
  refine ji_iinc (pc := 86) l2 (fun w => [0, 0, w, 0]) rfl rfl rfl (fun _ => rfl) hF dX10_deal_86 (fun x1 r_x1 hF => ?_)
  refine jg_goto (pc := 89) 56 dX10_deal_89 rfl ?_
  refine jg_norm [3, 0, 1, 0] [0, 0, x1, 0] rfl rfl ?_
  exact hk56 _ _ hF
set_option maxRecDepth 100000 in
set_option maxHeartbeats 4000000 in
theorem obX10_deal_56 {E : jEnv} {Rr : Int → jMem → Prop} {rec : Int → jMem → jO} (hrec : ∀ (l2 : Int) (s : jMem), jHo Rr (rec l2 s) → jGo E MX10_deal 2 Rr [3, 0, 1, 0] 56 [0, 0, l2, 0] ([]) s) : ∀ (l2 : Int) (s : jMem), jHo Rr (bX10_deal_56 rec l2 s) → jGo E MX10_deal 2 Rr [3, 0, 1, 0] 56 [0, 0, l2, 0] ([]) s := by
  intro l2 s0 hF
  unfold bX10_deal_56 at hF
  refine ji_iload_n (n := 2) (pc := 56) l2 rfl rfl rfl dX10_deal_56 (fun r1 => ?_)
  refine ji_iconst (pc := 57) dX10_deal_57 ?_
  refine ji_icmp_ge 92 (pc := 58) r1 (jRc rfl) hF dX10_deal_58 rfl (fun hF => ?_) (fun hF => ?_)
  · refine ji_iconst (pc := 92) dX10_deal_92 ?_
    exact ji_reti (pc := 93) rfl (jRc rfl) hF dX10_deal_93
  · refine ji_iconst (pc := 61) dX10_deal_61 ?_
    refine ji_istore_n (n := 3) (pc := 62) [3, 0, 1, 1] [0, 0, l2, 0] rfl (jRc rfl) (Nat.le_of_ble_eq_true rfl) rfl rfl dX10_deal_62 ?_
    refine jg_norm [3, 0, 1, 1] [0, 0, l2, 0] rfl rfl ?_
    exact obX10_deal_63W (obX10_deal_86 hrec) 1000 _ _ _ hF
theorem obX10_deal_56W {E : jEnv} {Rr : Int → jMem → Prop} : ∀ n : Nat, ∀ (l2 : Int) (s : jMem), jHo Rr (jIt (fun _ _ => none) (bX10_deal_56) n l2 s) → jGo E MX10_deal 2 Rr [3, 0, 1, 0] 56 [0, 0, l2, 0] ([]) s := by
  intro n
  induction n with
  | zero => intro l2 s hF; exact jHo_none hF
  | succ n ih => exact obX10_deal_56 ih

set_option maxRecDepth 100000 in
set_option maxHeartbeats 4000000 in
theorem obX10_deal_38 {E : jEnv} {Rr : Int → jMem → Prop} : ∀ (s : jMem), jHo Rr (bX10_deal_38 s) → jGo E MX10_deal 2 Rr [3, 0, 0, 0] 38 [0, 0, 0, 0] ([]) s := by
  intro s0 hF
  unfold bX10_deal_38 at hF
  refine ji_aload_n (n := 0) (pc := 38) 0 rfl rfl rfl dX10_deal_38 (fun r1 => ?_)
  refine ji_getr (pc := 39) 3 wfX10_23 (jRc3 rfl) jcl_0 jrf_0_2 dX10_deal_39 ?_
  refine ji_iconst (pc := 42) dX10_deal_42 ?_
  refine ji_callSv (pc := 43) [3, 4] ([]) oJ7_fill_53178 wlX10_62 wmJ7_fill_53178 rfl rfl (Nat.le_of_ble_eq_true rfl) (jRaC (jRc3 rfl) (jRaC (jRc rfl) jRa0)) rfl rfl (Nat.le_of_ble_eq_true rfl) hF dX10_deal_43 (fun x2 s3 hF => ?_)
  refine ji_aload_n (n := 0) (pc := 46) 0 rfl rfl rfl dX10_deal_46 (fun r4 => ?_)
  refine ji_getr (pc := 47) 4 wfX10_27 (jRc3 rfl) jcl_0 jrf_0_3 dX10_deal_47 ?_
  refine ji_iconst (pc := 50) dX10_deal_50 ?_
  refine ji_callSv (pc := 51) [4, 0] ([]) oJ7_fill_53178 wlX10_62 wmJ7_fill_53178 rfl rfl (Nat.le_of_ble_eq_true rfl) (jRaC (jRc3 rfl) (jRaC (jRc rfl) jRa0)) rfl rfl (Nat.le_of_ble_eq_true rfl) hF dX10_deal_51 (fun x5 s6 hF => ?_)
  refine ji_iconst (pc := 54) dX10_deal_54 ?_
  refine ji_istore_n (n := 2) (pc := 55) [3, 0, 1, 0] [0, 0, 0, 0] rfl (jRc rfl) (Nat.le_of_ble_eq_true rfl) rfl rfl dX10_deal_55 ?_
  refine jg_norm [3, 0, 1, 0] [0, 0, 0, 0] rfl rfl ?_
  exact obX10_deal_56W 1000 _ _ hF
set_option maxRecDepth 100000 in
set_option maxHeartbeats 4000000 in
theorem oX10_deal : jOk MX10_deal [3, 1] 2 (jFn gX10_deal) := by
  refine jOk_fn (by decide +kernel) (Nat.le_of_ble_eq_true rfl) (by decide +kernel) (.inr (.inl rfl)) ?_
  intro E vs s0 Rr hF ha
  obtain ⟨l0, t0, rfl, r_l0, ha⟩ := jRa_ci ha
  obtain ⟨l1, t1, rfl, r_l1, ha⟩ := jRa_ci ha
  obtain rfl := jRa_ni ha
  replace hF : jHo Rr (jGd (l0 = 0) <| fX10_deal l1 s0) := hF
  have hG := jHo_as hF
  clear hF
  obtain ⟨rfl, hF⟩ := hG
  refine jg_norm [3, 1, 0, 0] [0, l1, 0, 0] rfl rfl ?_
  unfold fX10_deal at hF
  refine ji_iload_n (n := 1) (pc := 0) l1 rfl rfl rfl dX10_deal_0 (fun r1 => ?_)
  refine ji_if_ge 6 (pc := 1) r1 hF dX10_deal_1 rfl (fun hF => ?_) (fun hF => ?_)
  · refine ji_aload_n (n := 0) (pc := 6) 0 rfl rfl rfl dX10_deal_6 (fun r2 => ?_)
    refine ji_iload_n (n := 1) (pc := 7) l1 rfl rfl rfl dX10_deal_7 (fun r3 => ?_)
    refine ji_putfi (pc := 8) wpX10_56 (jRc3 rfl) jcl_0 r3 hF dX10_deal_8 (fun s4 hF => ?_)
    refine ji_iconst (pc := 11) dX10_deal_11 ?_
    refine ji_istore_n (n := 2) (pc := 12) [3, 1, 1, 0] [0, l1, 0, 0] rfl (jRc rfl) (Nat.le_of_ble_eq_true rfl) rfl rfl dX10_deal_12 ?_
    refine jg_norm [3, 0, 1, 0] [0, 0, 0, 0] rfl rfl ?_
    exact obX10_deal_13W obX10_deal_38 1000 _ _ hF
  · refine ji_iconst (pc := 4) dX10_deal_4 ?_
    exact ji_reti (pc := 5) rfl (jRc rfl) hF dX10_deal_5
def fX10_discard (l1 l2 : Int) (s0 : jMem) : jO :=
jBd (fX10_isHand l1 s0) fun x2 s3 =>
if x2 = 0 then (
jRet (-1) s3)
else (
jBd (fX8_isSort l2 s3) fun x5 s6 =>
if x5 = 0 then (
jRet (-1) s6)
else (
jGd ((0 : Int) ≤ l1 ∧ l1 < jrk 2 6) <| jLet (jrf 2 l1) fun x9 =>
jGd (jcl x9 = 0) <| jLet (jrf x9 0) fun x11 =>
jGd ((0 : Int) ≤ l2 ∧ l2 < jik x11) <| jLet (s6 x11 l2) fun x13 =>
if x13 = 0 then (
jRet (-2) s6)
else (
jGd ((0 : Int) ≤ l1 ∧ l1 < jrk 2 6) <| jLet (jrf 2 l1) fun x16 =>
jGd (jcl x16 = 0) <| jBd (fX1_lose x16 l2 s6) fun x19 s20 =>
jGd ((0 : Int) ≤ l2 ∧ l2 < jik 4) <| jLet (s20 4 l2) fun x23 =>
jLet (j32 (x23 + 1)) fun x24 =>
jGd ((0 : Int) ≤ l2 ∧ l2 < jik 4) <| jLet (jU s20 4 l2 x24) fun s25 =>
jGd ((0 : Int) ≤ l1 ∧ l1 < jrk 2 6) <| jLet (jrf 2 l1) fun x28 =>
jGd (jcl x28 = 0) <| jBd (fX1_size x28 s25) fun x30 s31 =>
jRet x30 s31)))
def gX10_discard (vs : List Int) (s : jMem) : jO := match vs with
  | [a0, a1, a2] => jGd (a0 = 0) <| fX10_discard a1 a2 s
  | _ => none
set_option maxRecDepth 100000 in
set_option maxHeartbeats 4000000 in
theorem oX10_discard : jOk MX10_discard [3, 1, 1] 1 (jFn gX10_discard) := by
  refine jOk_fn (by decide +kernel) (Nat.le_of_ble_eq_true rfl) (by decide +kernel) (.inr (.inl rfl)) ?_
  intro E vs s0 Rr hF ha
  obtain ⟨l0, t0, rfl, r_l0, ha⟩ := jRa_ci ha
  obtain ⟨l1, t1, rfl, r_l1, ha⟩ := jRa_ci ha
  obtain ⟨l2, t2, rfl, r_l2, ha⟩ := jRa_ci ha
  obtain rfl := jRa_ni ha
  replace hF : jHo Rr (jGd (l0 = 0) <| fX10_discard l1 l2 s0) := hF
  have hG := jHo_as hF
  clear hF
  obtain ⟨rfl, hF⟩ := hG
  refine jg_norm [3, 1, 1] [0, l1, l2] rfl rfl ?_
  unfold fX10_discard at hF
  refine ji_iload_n (n := 1) (pc := 0) l1 rfl rfl rfl dX10_discard_0 (fun r1 => ?_)
  refine ji_callSz (pc := 1) [l1] ([]) oX10_isHand wlX10_103 wmX10_isHand rfl rfl (Nat.le_of_ble_eq_true rfl) (jRaC r1 jRa0) rfl rfl (Nat.le_of_ble_eq_true rfl) hF dX10_discard_1 (fun x2 s3 r_x2 hF => ?_)
  refine ji_if_eq 14 (pc := 4) (jR51 r_x2) hF dX10_discard_4 rfl (fun hF => ?_) (fun hF => ?_)
  · refine ji_iconst (pc := 14) dX10_discard_14 ?_
    exact ji_reti (pc := 15) rfl (jRc rfl) hF dX10_discard_15
  · refine ji_iload_n (n := 2) (pc := 7) l2 rfl rfl rfl dX10_discard_7 (fun r4 => ?_)
    refine ji_callSz (pc := 8) [l2] ([]) oX8_isSort wlX10_114 wmX8_isSort rfl rfl (Nat.le_of_ble_eq_true rfl) (jRaC r4 jRa0) rfl rfl (Nat.le_of_ble_eq_true rfl) hF dX10_discard_8 (fun x5 s6 r_x5 hF => ?_)
    refine ji_if_ne 16 (pc := 11) (jR51 r_x5) hF dX10_discard_11 rfl (fun hF => ?_) (fun hF => ?_)
    · refine ji_aload_n (n := 0) (pc := 16) 0 rfl rfl rfl dX10_discard_16 (fun r7 => ?_)
      refine ji_getr (pc := 17) 2 wfX10_17 (jRc3 rfl) jcl_0 jrf_0_1 dX10_discard_17 ?_
      refine ji_iload_n (n := 1) (pc := 20) l1 rfl rfl rfl dX10_discard_20 (fun r8 => ?_)
      refine ji_aaload (pc := 21) 6 4 (jRc3 rfl) r8 (.inr ⟨rfl, rfl, rfl⟩) hF dX10_discard_21 (fun x9 r_x9 hF => ?_)
      obtain ⟨h10, hF⟩ := jHo_as hF
      refine ji_getrL (pc := 22) wfX10_132 r_x9 h10 hF dX10_discard_22 (fun x11 r_x11 hF => ?_)
      refine ji_iload_n (n := 2) (pc := 25) l2 rfl rfl rfl dX10_discard_25 (fun r12 => ?_)
      refine ji_iaload (pc := 26) r_x11 r12 hF dX10_discard_26 (fun x13 r_x13 hF => ?_)
      refine ji_if_ne 33 (pc := 27) r_x13 hF dX10_discard_27 rfl (fun hF => ?_) (fun hF => ?_)
      · refine ji_aload_n (n := 0) (pc := 33) 0 rfl rfl rfl dX10_discard_33 (fun r14 => ?_)
        refine ji_getr (pc := 34) 2 wfX10_17 (jRc3 rfl) jcl_0 jrf_0_1 dX10_discard_34 ?_
        refine ji_iload_n (n := 1) (pc := 37) l1 rfl rfl rfl dX10_discard_37 (fun r15 => ?_)
        refine ji_aaload (pc := 38) 6 4 (jRc3 rfl) r15 (.inr ⟨rfl, rfl, rfl⟩) hF dX10_discard_38 (fun x16 r_x16 hF => ?_)
        refine ji_iload_n (n := 2) (pc := 39) l2 rfl rfl rfl dX10_discard_39 (fun r17 => ?_)
        obtain ⟨h18, hF⟩ := jHo_as hF
        refine ji_callVv (pc := 40) x16 [l2] ([]) oX1_lose wlX10_135 wmX1_lose rfl rfl (Nat.le_of_ble_eq_true rfl) (jRaC r_x16 (jRaC r17 jRa0)) rfl h18 rfl (Nat.le_of_ble_eq_true rfl) hF dX10_discard_40 (fun x19 s20 hF => ?_)
        refine ji_aload_n (n := 0) (pc := 43) 0 rfl rfl rfl dX10_discard_43 (fun r21 => ?_)
        refine ji_getr (pc := 44) 4 wfX10_27 (jRc3 rfl) jcl_0 jrf_0_3 dX10_discard_44 ?_
        refine ji_iload_n (n := 2) (pc := 47) l2 rfl rfl rfl dX10_discard_47 (fun r22 => ?_)
        refine jg_dup2 (pc := 48) (by decide) (by decide) dX10_discard_48 ?_
        refine ji_iaload (pc := 49) (jRc3 rfl) r22 hF dX10_discard_49 (fun x23 r_x23 hF => ?_)
        refine ji_iconst (pc := 50) dX10_discard_50 ?_
        refine ji_iadd (pc := 51)  hF dX10_discard_51 (fun x24 r_x24 hF => ?_)
        refine ji_iastore (pc := 52) (jRc3 rfl) r22 r_x24 hF dX10_discard_52 (fun s25 hF => ?_)
        refine ji_aload_n (n := 0) (pc := 53) 0 rfl rfl rfl dX10_discard_53 (fun r26 => ?_)
        refine ji_getr (pc := 54) 2 wfX10_17 (jRc3 rfl) jcl_0 jrf_0_1 dX10_discard_54 ?_
        refine ji_iload_n (n := 1) (pc := 57) l1 rfl rfl rfl dX10_discard_57 (fun r27 => ?_)
        refine ji_aaload (pc := 58) 6 4 (jRc3 rfl) r27 (.inr ⟨rfl, rfl, rfl⟩) hF dX10_discard_58 (fun x28 r_x28 hF => ?_)
        obtain ⟨h29, hF⟩ := jHo_as hF
        refine ji_callVi (pc := 59) x28 [] ([]) oX1_size wlX10_106 wmX1_size rfl rfl (Nat.le_of_ble_eq_true rfl) (jRaC r_x28 jRa0) rfl h29 rfl (Nat.le_of_ble_eq_true rfl) hF dX10_discard_59 (fun x30 s31 r_x30 hF => ?_)
        exact ji_reti (pc := 62) rfl r_x30 hF dX10_discard_62
      · refine jg_bipush (pc := 30) rfl dX10_discard_30 ?_
        exact ji_reti (pc := 32) rfl (jRc rfl) hF dX10_discard_32
    · refine ji_iconst (pc := 14) dX10_discard_14 ?_
      exact ji_reti (pc := 15) rfl (jRc rfl) hF dX10_discard_15
def bX10_open_40 (l1 l2 l3 : Int) (s0 : jMem) : jO :=
jGd ((0 : Int) ≤ l1 ∧ l1 < jrk 2 6) <| jLet (jrf 2 l1) fun x3 =>
jGd (jcl x3 = 0) <| jBd (fX1_canLay x3 l2 l3 s0) fun x7 s8 =>
if x7 = 0 then (
jRet (-2) s8)
else (
jGd ((0 : Int) ≤ l1 ∧ l1 < jrk 2 6) <| jLet (jrf 2 l1) fun x11 =>
jGd (jcl x11 = 0) <| jBd (fX1_lay x11 l2 l3 s8) fun x15 s16 =>
jGd ((0 : Int) ≤ l1 ∧ l1 < jrk 2 6) <| jLet (jrf 2 l1) fun x19 =>
jGd (jcl x19 = 0) <| jLet (s16 x19 4) fun x21 =>
jRet x21 s16)
def fX10_open (l1 l2 l3 : Int) (s0 : jMem) : jO :=
jBd (fX10_isHand l1 s0) fun x2 s3 =>
if x2 = 0 then (
jRet (-1) s3)
else (
jBd (fX8_isSort l3 s3) fun x5 s6 =>
if x5 = 0 then (
jRet (-1) s6)
else (
if l2 < 1 then (
jRet (-1) s6)
else (
if l2 ≤ 3 then (
if l2 = 1 then (
jBd (fX8_startsRun l3 s6) fun x11 s12 =>
if x11 = 0 then (
jRet (-1) s12)
else (
bX10_open_40 l1 l2 l3 s12))
else (
bX10_open_40 l1 l2 l3 s6))
else (
jRet (-1) s6))))
def gX10_open (vs : List Int) (s : jMem) : jO := match vs with
  | [a0, a1, a2, a3] => jGd (a0 = 0) <| fX10_open a1 a2 a3 s
  | _ => none
set_option maxRecDepth 100000 in
set_option maxHeartbeats 4000000 in
theorem obX10_open_40 {E : jEnv} {Rr : Int → jMem → Prop} : ∀ (l1 l2 l3 : Int) (s : jMem), jHo Rr (bX10_open_40 l1 l2 l3 s) → jGo E MX10_open 2 Rr [3, 1, 1, 1] 40 [0, l1, l2, l3] ([]) s := by
  intro l1 l2 l3 s0 hF
  unfold bX10_open_40 at hF
  refine ji_aload_n (n := 0) (pc := 40) 0 rfl rfl rfl dX10_open_40 (fun r1 => ?_)
  refine ji_getr (pc := 41) 2 wfX10_17 (jRc3 rfl) jcl_0 jrf_0_1 dX10_open_41 ?_
  refine ji_iload_n (n := 1) (pc := 44) l1 rfl rfl rfl dX10_open_44 (fun r2 => ?_)
  refine ji_aaload (pc := 45) 6 4 (jRc3 rfl) r2 (.inr ⟨rfl, rfl, rfl⟩) hF dX10_open_45 (fun x3 r_x3 hF => ?_)
  refine ji_iload_n (n := 2) (pc := 46) l2 rfl rfl rfl dX10_open_46 (fun r4 => ?_)
  refine ji_iload_n (n := 3) (pc := 47) l3 rfl rfl rfl dX10_open_47 (fun r5 => ?_)
  obtain ⟨h6, hF⟩ := jHo_as hF
  refine ji_callVz (pc := 48) x3 [l2, l3] ([]) oX1_canLay wlX10_143 wmX1_canLay rfl rfl (Nat.le_of_ble_eq_true rfl) (jRaC r_x3 (jRaC r4 (jRaC r5 jRa0))) rfl h6 rfl (Nat.le_of_ble_eq_true rfl) hF dX10_open_48 (fun x7 s8 r_x7 hF => ?_)
  refine ji_if_ne 57 (pc := 51) (jR51 r_x7) hF dX10_open_51 rfl (fun hF => ?_) (fun hF => ?_)
  · refine ji_aload_n (n := 0) (pc := 57) 0 rfl rfl rfl dX10_open_57 (fun r9 => ?_)
    refine ji_getr (pc := 58) 2 wfX10_17 (jRc3 rfl) jcl_0 jrf_0_1 dX10_open_58 ?_
    refine ji_iload_n (n := 1) (pc := 61) l1 rfl rfl rfl dX10_open_61 (fun r10 => ?_)
    refine ji_aaload (pc := 62) 6 4 (jRc3 rfl) r10 (.inr ⟨rfl, rfl, rfl⟩) hF dX10_open_62 (fun x11 r_x11 hF => ?_)
    refine ji_iload_n (n := 2) (pc := 63) l2 rfl rfl rfl dX10_open_63 (fun r12 => ?_)
    refine ji_iload_n (n := 3) (pc := 64) l3 rfl rfl rfl dX10_open_64 (fun r13 => ?_)
    obtain ⟨h14, hF⟩ := jHo_as hF
    refine ji_callVv (pc := 65) x11 [l2, l3] ([]) oX1_lay wlX10_146 wmX1_lay rfl rfl (Nat.le_of_ble_eq_true rfl) (jRaC r_x11 (jRaC r12 (jRaC r13 jRa0))) rfl h14 rfl (Nat.le_of_ble_eq_true rfl) hF dX10_open_65 (fun x15 s16 hF => ?_)
    refine ji_aload_n (n := 0) (pc := 68) 0 rfl rfl rfl dX10_open_68 (fun r17 => ?_)
    refine ji_getr (pc := 69) 2 wfX10_17 (jRc3 rfl) jcl_0 jrf_0_1 dX10_open_69 ?_
    refine ji_iload_n (n := 1) (pc := 72) l1 rfl rfl rfl dX10_open_72 (fun r18 => ?_)
    refine ji_aaload (pc := 73) 6 4 (jRc3 rfl) r18 (.inr ⟨rfl, rfl, rfl⟩) hF dX10_open_73 (fun x19 r_x19 hF => ?_)
    obtain ⟨h20, hF⟩ := jHo_as hF
    refine ji_getfi (pc := 74) wfX10_149 r_x19 h20 hF dX10_open_74 (fun x21 r_x21 hF => ?_)
    exact ji_reti (pc := 77) rfl r_x21 hF dX10_open_77
  · refine jg_bipush (pc := 54) rfl dX10_open_54 ?_
    exact ji_reti (pc := 56) rfl (jRc rfl) hF dX10_open_56
set_option maxRecDepth 100000 in
set_option maxHeartbeats 4000000 in
theorem oX10_open : jOk MX10_open [3, 1, 1, 1] 2 (jFn gX10_open) := by
  refine jOk_fn (by decide +kernel) (Nat.le_of_ble_eq_true rfl) (by decide +kernel) (.inr (.inl rfl)) ?_
  intro E vs s0 Rr hF ha
  obtain ⟨l0, t0, rfl, r_l0, ha⟩ := jRa_ci ha
  obtain ⟨l1, t1, rfl, r_l1, ha⟩ := jRa_ci ha
  obtain ⟨l2, t2, rfl, r_l2, ha⟩ := jRa_ci ha
  obtain ⟨l3, t3, rfl, r_l3, ha⟩ := jRa_ci ha
  obtain rfl := jRa_ni ha
  replace hF : jHo Rr (jGd (l0 = 0) <| fX10_open l1 l2 l3 s0) := hF
  have hG := jHo_as hF
  clear hF
  obtain ⟨rfl, hF⟩ := hG
  refine jg_norm [3, 1, 1, 1] [0, l1, l2, l3] rfl rfl ?_
  unfold fX10_open at hF
  refine ji_iload_n (n := 1) (pc := 0) l1 rfl rfl rfl dX10_open_0 (fun r1 => ?_)
  refine ji_callSz (pc := 1) [l1] ([]) oX10_isHand wlX10_103 wmX10_isHand rfl rfl (Nat.le_of_ble_eq_true rfl) (jRaC r1 jRa0) rfl rfl (Nat.le_of_ble_eq_true rfl) hF dX10_open_1 (fun x2 s3 r_x2 hF => ?_)
  refine ji_if_eq 24 (pc := 4) (jR51 r_x2) hF dX10_open_4 rfl (fun hF => ?_) (fun hF => ?_)
  · refine ji_iconst (pc := 24) dX10_open_24 ?_
    exact ji_reti (pc := 25) rfl (jRc rfl) hF dX10_open_25
  · refine ji_iload_n (n := 3) (pc := 7) l3 rfl rfl rfl dX10_open_7 (fun r4 => ?_)
    refine ji_callSz (pc := 8) [l3] ([]) oX8_isSort wlX10_114 wmX8_isSort rfl rfl (Nat.le_of_ble_eq_true rfl) (jRaC r4 jRa0) rfl rfl (Nat.le_of_ble_eq_true rfl) hF dX10_open_8 (fun x5 s6 r_x5 hF => ?_)
    refine ji_if_eq 24 (pc := 11) (jR51 r_x5) hF dX10_open_11 rfl (fun hF => ?_) (fun hF => ?_)
    · refine ji_iconst (pc := 24) dX10_open_24 ?_
      exact ji_reti (pc := 25) rfl (jRc rfl) hF dX10_open_25
    · refine ji_iload_n (n := 2) (pc := 14) l2 rfl rfl rfl dX10_open_14 (fun r7 => ?_)
      refine ji_iconst (pc := 15) dX10_open_15 ?_
      refine ji_icmp_lt 24 (pc := 16) r7 (jRc rfl) hF dX10_open_16 rfl (fun hF => ?_) (fun hF => ?_)
      · refine ji_iconst (pc := 24) dX10_open_24 ?_
        exact ji_reti (pc := 25) rfl (jRc rfl) hF dX10_open_25
      · refine ji_iload_n (n := 2) (pc := 19) l2 rfl rfl rfl dX10_open_19 (fun r8 => ?_)
        refine ji_iconst (pc := 20) dX10_open_20 ?_
        refine ji_icmp_le 26 (pc := 21) r8 (jRc rfl) hF dX10_open_21 rfl (fun hF => ?_) (fun hF => ?_)
        · refine ji_iload_n (n := 2) (pc := 26) l2 rfl rfl rfl dX10_open_26 (fun r9 => ?_)
          refine ji_iconst (pc := 27) dX10_open_27 ?_
          refine ji_icmp_ne 40 (pc := 28) r9 (jRc rfl) hF dX10_open_28 rfl (fun hF => ?_) (fun hF => ?_)
          · refine jg_norm [3, 1, 1, 1] [0, l1, l2, l3] rfl rfl ?_
            exact obX10_open_40 _ _ _ _ hF
          · refine ji_iload_n (n := 3) (pc := 31) l3 rfl rfl rfl dX10_open_31 (fun r10 => ?_)
            refine ji_callSz (pc := 32) [l3] ([]) oX8_startsRun wlX10_140 wmX8_startsRun rfl rfl (Nat.le_of_ble_eq_true rfl) (jRaC r10 jRa0) rfl rfl (Nat.le_of_ble_eq_true rfl) hF dX10_open_32 (fun x11 s12 r_x11 hF => ?_)
            refine ji_if_ne 40 (pc := 35) (jR51 r_x11) hF dX10_open_35 rfl (fun hF => ?_) (fun hF => ?_)
            · refine jg_norm [3, 1, 1, 1] [0, l1, l2, l3] rfl rfl ?_
              exact obX10_open_40 _ _ _ _ hF
            · refine ji_iconst (pc := 38) dX10_open_38 ?_
              exact ji_reti (pc := 39) rfl (jRc rfl) hF dX10_open_39
        · refine ji_iconst (pc := 24) dX10_open_24 ?_
          exact ji_reti (pc := 25) rfl (jRc rfl) hF dX10_open_25
def fX10_clear (l1 : Int) (s0 : jMem) : jO :=
jBd (fX10_isHand l1 s0) fun x2 s3 =>
if x2 = 0 then (
jRet (-1) s3)
else (
jGd ((0 : Int) ≤ l1 ∧ l1 < jrk 2 6) <| jLet (jrf 2 l1) fun x6 =>
jGd (jcl x6 = 0) <| jBd (fX1_giveBack x6 3 s3) fun x9 s10 =>
jRet x9 s10)
def gX10_clear (vs : List Int) (s : jMem) : jO := match vs with
  | [a0, a1] => jGd (a0 = 0) <| fX10_clear a1 s
  | _ => none
set_option maxRecDepth 100000 in
set_option maxHeartbeats 4000000 in
theorem oX10_clear : jOk MX10_clear [3, 1] 2 (jFn gX10_clear) := by
  refine jOk_fn (by decide +kernel) (Nat.le_of_ble_eq_true rfl) (by decide +kernel) (.inr (.inl rfl)) ?_
  intro E vs s0 Rr hF ha
  obtain ⟨l0, t0, rfl, r_l0, ha⟩ := jRa_ci ha
  obtain ⟨l1, t1, rfl, r_l1, ha⟩ := jRa_ci ha
  obtain rfl := jRa_ni ha
  replace hF : jHo Rr (jGd (l0 = 0) <| fX10_clear l1 s0) := hF
  have hG := jHo_as hF
  clear hF
  obtain ⟨rfl, hF⟩ := hG
  refine jg_norm [3, 1] [0, l1] rfl rfl ?_
  unfold fX10_clear at hF
  refine ji_iload_n (n := 1) (pc := 0) l1 rfl rfl rfl dX10_clear_0 (fun r1 => ?_)
  refine ji_callSz (pc := 1) [l1] ([]) oX10_isHand wlX10_103 wmX10_isHand rfl rfl (Nat.le_of_ble_eq_true rfl) (jRaC r1 jRa0) rfl rfl (Nat.le_of_ble_eq_true rfl) hF dX10_clear_1 (fun x2 s3 r_x2 hF => ?_)
  refine ji_if_eq 23 (pc := 4) (jR51 r_x2) hF dX10_clear_4 rfl (fun hF => ?_) (fun hF => ?_)
  · refine ji_iconst (pc := 23) dX10_clear_23 ?_
    exact ji_reti (pc := 24) rfl (jRc rfl) hF dX10_clear_24
  · refine ji_aload_n (n := 0) (pc := 7) 0 rfl rfl rfl dX10_clear_7 (fun r4 => ?_)
    refine ji_getr (pc := 8) 2 wfX10_17 (jRc3 rfl) jcl_0 jrf_0_1 dX10_clear_8 ?_
    refine ji_iload_n (n := 1) (pc := 11) l1 rfl rfl rfl dX10_clear_11 (fun r5 => ?_)
    refine ji_aaload (pc := 12) 6 4 (jRc3 rfl) r5 (.inr ⟨rfl, rfl, rfl⟩) hF dX10_clear_12 (fun x6 r_x6 hF => ?_)
    refine ji_aload_n (n := 0) (pc := 13) 0 rfl rfl rfl dX10_clear_13 (fun r7 => ?_)
    refine ji_getr (pc := 14) 3 wfX10_23 (jRc3 rfl) jcl_0 jrf_0_2 dX10_clear_14 ?_
    obtain ⟨h8, hF⟩ := jHo_as hF
    refine ji_callVi (pc := 17) x6 [3] ([]) oX1_giveBack wlX10_128 wmX1_giveBack rfl rfl (Nat.le_of_ble_eq_true rfl) (jRaC r_x6 (jRaC (jRc3 rfl) jRa0)) rfl h8 rfl (Nat.le_of_ble_eq_true rfl) hF dX10_clear_17 (fun x9 s10 r_x9 hF => ?_)
    refine jg_goto (pc := 20) 24 dX10_clear_20 rfl ?_
    exact ji_reti (pc := 24) rfl r_x9 hF dX10_clear_24
def fX10_tiles (l1 l2 : Int) (s0 : jMem) : jO :=
jBd (fX8_isSort l1 s0) fun x2 s3 =>
if x2 = 0 then (
jRet (-1) s3)
else (
if l2 < 0 then (
jRet (-1) s3)
else (
if l2 < 10 then (
if l2 = 0 then (
jGd ((0 : Int) ≤ l1 ∧ l1 < jik 3) <| jLet (s3 3 l1) fun x30 =>
jRet x30 s3)
else (
if l2 = 1 then (
jGd ((0 : Int) ≤ l1 ∧ l1 < jik 4) <| jLet (s3 4 l1) fun x27 =>
jRet x27 s3)
else (
if 6 ≤ l2 then (
jLet (j32 (l2 - 6)) fun x11 =>
jGd ((0 : Int) ≤ x11 ∧ x11 < jrk 2 6) <| jLet (jrf 2 x11) fun x12 =>
jGd (jcl x12 = 0) <| jLet (jrf x12 1) fun x14 =>
jGd ((0 : Int) ≤ l1 ∧ l1 < jik x14) <| jLet (s3 x14 l1) fun x16 =>
jRet x16 s3)
else (
jLet (j32 (l2 - 2)) fun x19 =>
jGd ((0 : Int) ≤ x19 ∧ x19 < jrk 2 6) <| jLet (jrf 2 x19) fun x20 =>
jGd (jcl x20 = 0) <| jLet (jrf x20 0) fun x22 =>
jGd ((0 : Int) ≤ l1 ∧ l1 < jik x22) <| jLet (s3 x22 l1) fun x24 =>
jRet x24 s3))))
else (
jRet (-1) s3)))
def gX10_tiles (vs : List Int) (s : jMem) : jO := match vs with
  | [a0, a1, a2] => jGd (a0 = 0) <| fX10_tiles a1 a2 s
  | _ => none
set_option maxRecDepth 100000 in
set_option maxHeartbeats 4000000 in
theorem oX10_tiles : jOk MX10_tiles [3, 1, 1] 1 (jFn gX10_tiles) := by
  refine jOk_fn (by decide +kernel) (Nat.le_of_ble_eq_true rfl) (by decide +kernel) (.inr (.inl rfl)) ?_
  intro E vs s0 Rr hF ha
  obtain ⟨l0, t0, rfl, r_l0, ha⟩ := jRa_ci ha
  obtain ⟨l1, t1, rfl, r_l1, ha⟩ := jRa_ci ha
  obtain ⟨l2, t2, rfl, r_l2, ha⟩ := jRa_ci ha
  obtain rfl := jRa_ni ha
  replace hF : jHo Rr (jGd (l0 = 0) <| fX10_tiles l1 l2 s0) := hF
  have hG := jHo_as hF
  clear hF
  obtain ⟨rfl, hF⟩ := hG
  refine jg_norm [3, 1, 1] [0, l1, l2] rfl rfl ?_
  unfold fX10_tiles at hF
  refine ji_iload_n (n := 1) (pc := 0) l1 rfl rfl rfl dX10_tiles_0 (fun r1 => ?_)
  refine ji_callSz (pc := 1) [l1] ([]) oX8_isSort wlX10_114 wmX8_isSort rfl rfl (Nat.le_of_ble_eq_true rfl) (jRaC r1 jRa0) rfl rfl (Nat.le_of_ble_eq_true rfl) hF dX10_tiles_1 (fun x2 s3 r_x2 hF => ?_)
  refine ji_if_eq 17 (pc := 4) (jR51 r_x2) hF dX10_tiles_4 rfl (fun hF => ?_) (fun hF => ?_)
  · refine ji_iconst (pc := 17) dX10_tiles_17 ?_
    exact ji_reti (pc := 18) rfl (jRc rfl) hF dX10_tiles_18
  · refine ji_iload_n (n := 2) (pc := 7) l2 rfl rfl rfl dX10_tiles_7 (fun r4 => ?_)
    refine ji_if_lt 17 (pc := 8) r4 hF dX10_tiles_8 rfl (fun hF => ?_) (fun hF => ?_)
    · refine ji_iconst (pc := 17) dX10_tiles_17 ?_
      exact ji_reti (pc := 18) rfl (jRc rfl) hF dX10_tiles_18
    · refine ji_iload_n (n := 2) (pc := 11) l2 rfl rfl rfl dX10_tiles_11 (fun r5 => ?_)
      refine jg_bipush (pc := 12) rfl dX10_tiles_12 ?_
      refine ji_icmp_lt 19 (pc := 14) r5 (jRc rfl) hF dX10_tiles_14 rfl (fun hF => ?_) (fun hF => ?_)
      · refine ji_iload_n (n := 2) (pc := 19) l2 rfl rfl rfl dX10_tiles_19 (fun r6 => ?_)
        refine ji_if_ne 30 (pc := 20) r6 hF dX10_tiles_20 rfl (fun hF => ?_) (fun hF => ?_)
        · refine ji_iload_n (n := 2) (pc := 30) l2 rfl rfl rfl dX10_tiles_30 (fun r7 => ?_)
          refine ji_iconst (pc := 31) dX10_tiles_31 ?_
          refine ji_icmp_ne 42 (pc := 32) r7 (jRc rfl) hF dX10_tiles_32 rfl (fun hF => ?_) (fun hF => ?_)
          · refine ji_iload_n (n := 2) (pc := 42) l2 rfl rfl rfl dX10_tiles_42 (fun r8 => ?_)
            refine jg_bipush (pc := 43) rfl dX10_tiles_43 ?_
            refine ji_icmp_ge 64 (pc := 45) r8 (jRc rfl) hF dX10_tiles_45 rfl (fun hF => ?_) (fun hF => ?_)
            · refine ji_aload_n (n := 0) (pc := 64) 0 rfl rfl rfl dX10_tiles_64 (fun r9 => ?_)
              refine ji_getr (pc := 65) 2 wfX10_17 (jRc3 rfl) jcl_0 jrf_0_1 dX10_tiles_65 ?_
              refine ji_iload_n (n := 2) (pc := 68) l2 rfl rfl rfl dX10_tiles_68 (fun r10 => ?_)
              refine jg_bipush (pc := 69) rfl dX10_tiles_69 ?_
              refine ji_isub (pc := 71)  hF dX10_tiles_71 (fun x11 r_x11 hF => ?_)
              refine ji_aaload (pc := 72) 6 4 (jRc3 rfl) r_x11 (.inr ⟨rfl, rfl, rfl⟩) hF dX10_tiles_72 (fun x12 r_x12 hF => ?_)
              obtain ⟨h13, hF⟩ := jHo_as hF
              refine ji_getrL (pc := 73) wfX10_152 r_x12 h13 hF dX10_tiles_73 (fun x14 r_x14 hF => ?_)
              refine ji_iload_n (n := 1) (pc := 76) l1 rfl rfl rfl dX10_tiles_76 (fun r15 => ?_)
              refine ji_iaload (pc := 77) r_x14 r15 hF dX10_tiles_77 (fun x16 r_x16 hF => ?_)
              exact ji_reti (pc := 78) rfl r_x16 hF dX10_tiles_78
            · refine ji_aload_n (n := 0) (pc := 48) 0 rfl rfl rfl dX10_tiles_48 (fun r17 => ?_)
              refine ji_getr (pc := 49) 2 wfX10_17 (jRc3 rfl) jcl_0 jrf_0_1 dX10_tiles_49 ?_
              refine ji_iload_n (n := 2) (pc := 52) l2 rfl rfl rfl dX10_tiles_52 (fun r18 => ?_)
              refine ji_iconst (pc := 53) dX10_tiles_53 ?_
              refine ji_isub (pc := 54)  hF dX10_tiles_54 (fun x19 r_x19 hF => ?_)
              refine ji_aaload (pc := 55) 6 4 (jRc3 rfl) r_x19 (.inr ⟨rfl, rfl, rfl⟩) hF dX10_tiles_55 (fun x20 r_x20 hF => ?_)
              obtain ⟨h21, hF⟩ := jHo_as hF
              refine ji_getrL (pc := 56) wfX10_132 r_x20 h21 hF dX10_tiles_56 (fun x22 r_x22 hF => ?_)
              refine ji_iload_n (n := 1) (pc := 59) l1 rfl rfl rfl dX10_tiles_59 (fun r23 => ?_)
              refine ji_iaload (pc := 60) r_x22 r23 hF dX10_tiles_60 (fun x24 r_x24 hF => ?_)
              refine jg_goto (pc := 61) 78 dX10_tiles_61 rfl ?_
              exact ji_reti (pc := 78) rfl r_x24 hF dX10_tiles_78
          · refine ji_aload_n (n := 0) (pc := 35) 0 rfl rfl rfl dX10_tiles_35 (fun r25 => ?_)
            refine ji_getr (pc := 36) 4 wfX10_27 (jRc3 rfl) jcl_0 jrf_0_3 dX10_tiles_36 ?_
            refine ji_iload_n (n := 1) (pc := 39) l1 rfl rfl rfl dX10_tiles_39 (fun r26 => ?_)
            refine ji_iaload (pc := 40) (jRc3 rfl) r26 hF dX10_tiles_40 (fun x27 r_x27 hF => ?_)
            exact ji_reti (pc := 41) rfl r_x27 hF dX10_tiles_41
        · refine ji_aload_n (n := 0) (pc := 23) 0 rfl rfl rfl dX10_tiles_23 (fun r28 => ?_)
          refine ji_getr (pc := 24) 3 wfX10_23 (jRc3 rfl) jcl_0 jrf_0_2 dX10_tiles_24 ?_
          refine ji_iload_n (n := 1) (pc := 27) l1 rfl rfl rfl dX10_tiles_27 (fun r29 => ?_)
          refine ji_iaload (pc := 28) (jRc3 rfl) r29 hF dX10_tiles_28 (fun x30 r_x30 hF => ?_)
          exact ji_reti (pc := 29) rfl r_x30 hF dX10_tiles_29
      · refine ji_iconst (pc := 17) dX10_tiles_17 ?_
        exact ji_reti (pc := 18) rfl (jRc rfl) hF dX10_tiles_18
def fX10_about (l1 l2 : Int) (s0 : jMem) : jO :=
jBd (fX10_isHand l1 s0) fun x2 s3 =>
if x2 = 0 then (
jRet (-1) s3)
else (
if l2 < 0 then (
jRet (-1) s3)
else (
if l2 < 7 then (
jGd ((0 : Int) ≤ l1 ∧ l1 < jrk 2 6) <| jLet (jrf 2 l1) fun x8 =>
if l2 = 0 then (
jGd (jcl x8 = 0) <| jBd (fX1_size x8 s3) fun x30 s31 =>
jRet x30 s31)
else (
if l2 = 1 then (
jGd (jcl x8 = 0) <| jLet (s3 x8 3) fun x27 =>
jRet x27 s3)
else (
if l2 = 2 then (
jGd (jcl x8 = 0) <| jLet (s3 x8 4) fun x24 =>
jRet x24 s3)
else (
jLet (j32 (l2 - 3)) fun x13 =>
jGd (jcl x8 = 0) <| jLet (s3 x8 4) fun x17 =>
if x17 ≤ x13 then (
jRet (-3) s3)
else (
jLet (jrf x8 2) fun x19 =>
jGd ((0 : Int) ≤ x13 ∧ x13 < jik x19) <| jLet (s3 x19 x13) fun x21 =>
jRet x21 s3)))))
else (
jRet (-1) s3)))
def gX10_about (vs : List Int) (s : jMem) : jO := match vs with
  | [a0, a1, a2] => jGd (a0 = 0) <| fX10_about a1 a2 s
  | _ => none
set_option maxRecDepth 100000 in
set_option maxHeartbeats 4000000 in
theorem oX10_about : jOk MX10_about [3, 1, 1] 1 (jFn gX10_about) := by
  refine jOk_fn (by decide +kernel) (Nat.le_of_ble_eq_true rfl) (by decide +kernel) (.inr (.inl rfl)) ?_
  intro E vs s0 Rr hF ha
  obtain ⟨l0, t0, rfl, r_l0, ha⟩ := jRa_ci ha
  obtain ⟨l1, t1, rfl, r_l1, ha⟩ := jRa_ci ha
  obtain ⟨l2, t2, rfl, r_l2, ha⟩ := jRa_ci ha
  obtain rfl := jRa_ni ha
  replace hF : jHo Rr (jGd (l0 = 0) <| fX10_about l1 l2 s0) := hF
  have hG := jHo_as hF
  clear hF
  obtain ⟨rfl, hF⟩ := hG
  refine jg_norm [3, 1, 1, 0, 0] [0, l1, l2, 0, 0] rfl rfl ?_
  unfold fX10_about at hF
  refine ji_iload_n (n := 1) (pc := 0) l1 rfl rfl rfl dX10_about_0 (fun r1 => ?_)
  refine ji_callSz (pc := 1) [l1] ([]) oX10_isHand wlX10_103 wmX10_isHand rfl rfl (Nat.le_of_ble_eq_true rfl) (jRaC r1 jRa0) rfl rfl (Nat.le_of_ble_eq_true rfl) hF dX10_about_1 (fun x2 s3 r_x2 hF => ?_)
  refine ji_if_eq 17 (pc := 4) (jR51 r_x2) hF dX10_about_4 rfl (fun hF => ?_) (fun hF => ?_)
  · refine ji_iconst (pc := 17) dX10_about_17 ?_
    exact ji_reti (pc := 18) rfl (jRc rfl) hF dX10_about_18
  · refine ji_iload_n (n := 2) (pc := 7) l2 rfl rfl rfl dX10_about_7 (fun r4 => ?_)
    refine ji_if_lt 17 (pc := 8) r4 hF dX10_about_8 rfl (fun hF => ?_) (fun hF => ?_)
    · refine ji_iconst (pc := 17) dX10_about_17 ?_
      exact ji_reti (pc := 18) rfl (jRc rfl) hF dX10_about_18
    · refine ji_iload_n (n := 2) (pc := 11) l2 rfl rfl rfl dX10_about_11 (fun r5 => ?_)
      refine jg_bipush (pc := 12) rfl dX10_about_12 ?_
      refine ji_icmp_lt 19 (pc := 14) r5 (jRc rfl) hF dX10_about_14 rfl (fun hF => ?_) (fun hF => ?_)
      · refine ji_aload_n (n := 0) (pc := 19) 0 rfl rfl rfl dX10_about_19 (fun r6 => ?_)
        refine ji_getr (pc := 20) 2 wfX10_17 (jRc3 rfl) jcl_0 jrf_0_1 dX10_about_20 ?_
        refine ji_iload_n (n := 1) (pc := 23) l1 rfl rfl rfl dX10_about_23 (fun r7 => ?_)
        refine ji_aaload (pc := 24) 6 4 (jRc3 rfl) r7 (.inr ⟨rfl, rfl, rfl⟩) hF dX10_about_24 (fun x8 r_x8 hF => ?_)
        refine ji_astore_n (n := 3) (pc := 25) [3, 1, 1, 3, 0] [0, l1, l2, x8, 0] rfl r_x8 (Nat.le_of_ble_eq_true rfl) rfl rfl dX10_about_25 ?_
        refine ji_iload_n (n := 2) (pc := 26) l2 rfl rfl rfl dX10_about_26 (fun r9 => ?_)
        refine ji_if_ne 35 (pc := 27) r9 hF dX10_about_27 rfl (fun hF => ?_) (fun hF => ?_)
        · refine ji_iload_n (n := 2) (pc := 35) l2 rfl rfl rfl dX10_about_35 (fun r10 => ?_)
          refine ji_iconst (pc := 36) dX10_about_36 ?_
          refine ji_icmp_ne 45 (pc := 37) r10 (jRc rfl) hF dX10_about_37 rfl (fun hF => ?_) (fun hF => ?_)
          · refine ji_iload_n (n := 2) (pc := 45) l2 rfl rfl rfl dX10_about_45 (fun r11 => ?_)
            refine ji_iconst (pc := 46) dX10_about_46 ?_
            refine ji_icmp_ne 55 (pc := 47) r11 (jRc rfl) hF dX10_about_47 rfl (fun hF => ?_) (fun hF => ?_)
            · refine ji_iload_n (n := 2) (pc := 55) l2 rfl rfl rfl dX10_about_55 (fun r12 => ?_)
              refine ji_iconst (pc := 56) dX10_about_56 ?_
              refine ji_isub (pc := 57)  hF dX10_about_57 (fun x13 r_x13 hF => ?_)
              refine ji_istore (n := 4) (pc := 58) [3, 1, 1, 3, 1] [0, l1, l2, x8, x13] r_x13 (Nat.le_of_ble_eq_true rfl) rfl rfl dX10_about_58 ?_
              refine ji_iload (pc := 60) x13 rfl rfl dX10_about_60 (fun r14 => ?_)
              refine ji_aload_n (n := 3) (pc := 62) x8 rfl rfl rfl dX10_about_62 (fun r15 => ?_)
              obtain ⟨h16, hF⟩ := jHo_as hF
              refine ji_getfi (pc := 63) wfX10_149 r15 h16 hF dX10_about_63 (fun x17 r_x17 hF => ?_)
              refine ji_icmp_ge 79 (pc := 66) r14 r_x17 hF dX10_about_66 rfl (fun hF => ?_) (fun hF => ?_)
              · refine jg_bipush (pc := 79) rfl dX10_about_79 ?_
                exact ji_reti (pc := 81) rfl (jRc rfl) hF dX10_about_81
              · refine ji_aload_n (n := 3) (pc := 69) x8 rfl rfl rfl dX10_about_69 (fun r18 => ?_)
                refine ji_getrL (pc := 70) wfX10_158 r18 h16 hF dX10_about_70 (fun x19 r_x19 hF => ?_)
                refine ji_iload (pc := 73) x13 rfl rfl dX10_about_73 (fun r20 => ?_)
                refine ji_iaload (pc := 75) r_x19 r20 hF dX10_about_75 (fun x21 r_x21 hF => ?_)
                refine jg_goto (pc := 76) 81 dX10_about_76 rfl ?_
                exact ji_reti (pc := 81) rfl r_x21 hF dX10_about_81
            · refine ji_aload_n (n := 3) (pc := 50) x8 rfl rfl rfl dX10_about_50 (fun r22 => ?_)
              obtain ⟨h23, hF⟩ := jHo_as hF
              refine ji_getfi (pc := 51) wfX10_149 r22 h23 hF dX10_about_51 (fun x24 r_x24 hF => ?_)
              exact ji_reti (pc := 54) rfl r_x24 hF dX10_about_54
          · refine ji_aload_n (n := 3) (pc := 40) x8 rfl rfl rfl dX10_about_40 (fun r25 => ?_)
            obtain ⟨h26, hF⟩ := jHo_as hF
            refine ji_getfi (pc := 41) wfX10_155 r25 h26 hF dX10_about_41 (fun x27 r_x27 hF => ?_)
            exact ji_reti (pc := 44) rfl r_x27 hF dX10_about_44
        · refine ji_aload_n (n := 3) (pc := 30) x8 rfl rfl rfl dX10_about_30 (fun r28 => ?_)
          obtain ⟨h29, hF⟩ := jHo_as hF
          refine ji_callVi (pc := 31) x8 [] ([]) oX1_size wlX10_106 wmX1_size rfl rfl (Nat.le_of_ble_eq_true rfl) (jRaC r28 jRa0) rfl h29 rfl (Nat.le_of_ble_eq_true rfl) hF dX10_about_31 (fun x30 s31 r_x30 hF => ?_)
          exact ji_reti (pc := 34) rfl r_x30 hF dX10_about_34
      · refine ji_iconst (pc := 17) dX10_about_17 ?_
        exact ji_reti (pc := 18) rfl (jRc rfl) hF dX10_about_18
def bX10_count_56 (l3 : Int) (s0 : jMem) : jO :=
if l3 = 0 then (
jRet 0 s0)
else (
jRet 1 s0)
def bX10_count_32 (l1 l2 t0 : Int) (s0 : jMem) : jO :=
if l1 = 0 then (
jGd (0 ≤ l2 ∧ l2 ≤ 1) <| jLet (jU s0 6 0 l2) fun s9 =>
bX10_count_56 t0 s9)
else (
jGd (0 ≤ l2 ∧ l2 ≤ 1) <| jLet (jU s0 6 1 l2) fun s5 =>
bX10_count_56 t0 s5)
def bX10_count_11 (l1 l2 : Int) (s0 : jMem) : jO :=
if l1 = 0 then (
jLet (s0 6 0) fun x5 =>
bX10_count_32 l1 l2 x5 s0)
else (
jLet (s0 6 1) fun x3 =>
bX10_count_32 l1 l2 x3 s0)
def fX10_count (l1 l2 : Int) (s0 : jMem) : jO :=
if l1 = 0 then (
bX10_count_11 l1 l2 s0)
else (
if l1 = 1 then (
bX10_count_11 l1 l2 s0)
else (
jRet (-1) s0))
def gX10_count (vs : List Int) (s : jMem) : jO := match vs with
  | [a0, a1, a2] => jGd (a0 = 0) <| fX10_count a1 a2 s
  | _ => none
set_option maxRecDepth 100000 in
set_option maxHeartbeats 4000000 in
theorem obX10_count_56 {E : jEnv} {Rr : Int → jMem → Prop} : ∀ (l3 : Int) (s : jMem), jHo Rr (bX10_count_56 l3 s) → jGo E MX10_count 0 Rr [0, 0, 0, 1] 56 [0, 0, 0, l3] ([]) s := by
  intro l3 s0 hF
  unfold bX10_count_56 at hF
  refine ji_iload_n (n := 3) (pc := 56) l3 rfl rfl rfl dX10_count_56 (fun r1 => ?_)
  refine ji_if_eq 64 (pc := 57) r1 hF dX10_count_57 rfl (fun hF => ?_) (fun hF => ?_)
  · refine ji_iconst (pc := 64) dX10_count_64 ?_
    exact ji_reti (pc := 65) rfl (jRc rfl) hF dX10_count_65
  · refine ji_iconst (pc := 60) dX10_count_60 ?_
    refine jg_goto (pc := 61) 65 dX10_count_61 rfl ?_
    exact ji_reti (pc := 65) rfl (jRc rfl) hF dX10_count_65
set_option maxRecDepth 100000 in
set_option maxHeartbeats 4000000 in
theorem obX10_count_32 {E : jEnv} {Rr : Int → jMem → Prop} : ∀ (l1 l2 t0 : Int) (s : jMem), jR 1 t0 → jHo Rr (bX10_count_32 l1 l2 t0 s) → jGo E MX10_count 0 Rr [3, 1, 1, 0] 32 [0, l1, l2, 0] (jV E 1 t0 :: []) s := by
  intro l1 l2 t0 s0 r_t0 hF
  unfold bX10_count_32 at hF
  refine ji_istore_n (n := 3) (pc := 32) [3, 1, 1, 1] [0, l1, l2, t0] rfl r_t0 (Nat.le_of_ble_eq_true rfl) rfl rfl dX10_count_32 ?_
  refine ji_iload_n (n := 1) (pc := 33) l1 rfl rfl rfl dX10_count_33 (fun r1 => ?_)
  refine ji_if_ne 48 (pc := 34) r1 hF dX10_count_34 rfl (fun hF => ?_) (fun hF => ?_)
  · refine ji_aload_n (n := 0) (pc := 48) 0 rfl rfl rfl dX10_count_48 (fun r2 => ?_)
    refine ji_getr (pc := 49) 6 wfX10_36 (jRc3 rfl) jcl_0 jrf_0_5 dX10_count_49 ?_
    refine ji_iload_n (n := 2) (pc := 52) l2 rfl rfl rfl dX10_count_52 (fun r3 => ?_)
    obtain ⟨h4, hF⟩ := jHo_as hF
    refine ji_putfz (pc := 53) wpX10_165 (jRc3 rfl) jcl_6 h4 hF dX10_count_53 (fun s5 hF => ?_)
    refine jg_norm [0, 0, 0, 1] [0, 0, 0, t0] rfl rfl ?_
    exact obX10_count_56 _ _ hF
  · refine ji_aload_n (n := 0) (pc := 37) 0 rfl rfl rfl dX10_count_37 (fun r6 => ?_)
    refine ji_getr (pc := 38) 6 wfX10_36 (jRc3 rfl) jcl_0 jrf_0_5 dX10_count_38 ?_
    refine ji_iload_n (n := 2) (pc := 41) l2 rfl rfl rfl dX10_count_41 (fun r7 => ?_)
    obtain ⟨h8, hF⟩ := jHo_as hF
    refine ji_putfz (pc := 42) wpX10_161 (jRc3 rfl) jcl_6 h8 hF dX10_count_42 (fun s9 hF => ?_)
    refine jg_goto (pc := 45) 56 dX10_count_45 rfl ?_
    refine jg_norm [0, 0, 0, 1] [0, 0, 0, t0] rfl rfl ?_
    exact obX10_count_56 _ _ hF
set_option maxRecDepth 100000 in
set_option maxHeartbeats 4000000 in
theorem obX10_count_11 {E : jEnv} {Rr : Int → jMem → Prop} : ∀ (l1 l2 : Int) (s : jMem), jHo Rr (bX10_count_11 l1 l2 s) → jGo E MX10_count 0 Rr [3, 1, 1, 0] 11 [0, l1, l2, 0] ([]) s := by
  intro l1 l2 s0 hF
  unfold bX10_count_11 at hF
  refine ji_iload_n (n := 1) (pc := 11) l1 rfl rfl rfl dX10_count_11 (fun r1 => ?_)
  refine ji_if_ne 25 (pc := 12) r1 hF dX10_count_12 rfl (fun hF => ?_) (fun hF => ?_)
  · refine ji_aload_n (n := 0) (pc := 25) 0 rfl rfl rfl dX10_count_25 (fun r2 => ?_)
    refine ji_getr (pc := 26) 6 wfX10_36 (jRc3 rfl) jcl_0 jrf_0_5 dX10_count_26 ?_
    refine ji_getfz (pc := 29) wfX10_165 (jRc3 rfl) jcl_6 hF dX10_count_29 (fun x3 r_x3 hF => ?_)
    refine jg_norm [3, 1, 1, 0] [0, l1, l2, 0] rfl rfl ?_
    exact obX10_count_32 _ _ _ _ (jR51 r_x3) hF
  · refine ji_aload_n (n := 0) (pc := 15) 0 rfl rfl rfl dX10_count_15 (fun r4 => ?_)
    refine ji_getr (pc := 16) 6 wfX10_36 (jRc3 rfl) jcl_0 jrf_0_5 dX10_count_16 ?_
    refine ji_getfz (pc := 19) wfX10_161 (jRc3 rfl) jcl_6 hF dX10_count_19 (fun x5 r_x5 hF => ?_)
    refine jg_goto (pc := 22) 32 dX10_count_22 rfl ?_
    refine jg_norm [3, 1, 1, 0] [0, l1, l2, 0] rfl rfl ?_
    exact obX10_count_32 _ _ _ _ (jR51 r_x5) hF
set_option maxRecDepth 100000 in
set_option maxHeartbeats 4000000 in
theorem oX10_count : jOk MX10_count [3, 1, 1] 0 (jFn gX10_count) := by
  refine jOk_fn (by decide +kernel) (Nat.le_of_ble_eq_true rfl) (by decide +kernel) (.inr (.inl rfl)) ?_
  intro E vs s0 Rr hF ha
  obtain ⟨l0, t0, rfl, r_l0, ha⟩ := jRa_ci ha
  obtain ⟨l1, t1, rfl, r_l1, ha⟩ := jRa_ci ha
  obtain ⟨l2, t2, rfl, r_l2, ha⟩ := jRa_ci ha
  obtain rfl := jRa_ni ha
  replace hF : jHo Rr (jGd (l0 = 0) <| fX10_count l1 l2 s0) := hF
  have hG := jHo_as hF
  clear hF
  obtain ⟨rfl, hF⟩ := hG
  refine jg_norm [3, 1, 1, 0] [0, l1, l2, 0] rfl rfl ?_
  unfold fX10_count at hF
  refine ji_iload_n (n := 1) (pc := 0) l1 rfl rfl rfl dX10_count_0 (fun r1 => ?_)
  refine ji_if_eq 11 (pc := 1) r1 hF dX10_count_1 rfl (fun hF => ?_) (fun hF => ?_)
  · refine jg_norm [3, 1, 1, 0] [0, l1, l2, 0] rfl rfl ?_
    exact obX10_count_11 _ _ _ hF
  · refine ji_iload_n (n := 1) (pc := 4) l1 rfl rfl rfl dX10_count_4 (fun r2 => ?_)
    refine ji_iconst (pc := 5) dX10_count_5 ?_
    refine ji_icmp_eq 11 (pc := 6) r2 (jRc rfl) hF dX10_count_6 rfl (fun hF => ?_) (fun hF => ?_)
    · refine jg_norm [3, 1, 1, 0] [0, l1, l2, 0] rfl rfl ?_
      exact obX10_count_11 _ _ _ hF
    · refine ji_iconst (pc := 9) dX10_count_9 ?_
      exact ji_reti (pc := 10) rfl (jRc rfl) hF dX10_count_10
def fX10_done (l1 : Int) (s0 : jMem) : jO :=
jBd (fX10_isHand l1 s0) fun x2 s3 =>
if x2 = 0 then (
jRet (-1) s3)
else (
jGd ((0 : Int) ≤ l1 ∧ l1 < jrk 2 6) <| jLet (jrf 2 l1) fun x7 =>
jBd (fX2_howDone x7 s3) fun x8 s9 =>
jRet x8 s9)
def gX10_done (vs : List Int) (s : jMem) : jO := match vs with
  | [a0, a1] => jGd (a0 = 0) <| fX10_done a1 s
  | _ => none
set_option maxRecDepth 100000 in
set_option maxHeartbeats 4000000 in
theorem oX10_done : jOk MX10_done [3, 1] 11 (jFn gX10_done) := by
  refine jOk_fn (by decide +kernel) (Nat.le_of_ble_eq_true rfl) (by decide +kernel) (.inr (.inl rfl)) ?_
  intro E vs s0 Rr hF ha
  obtain ⟨l0, t0, rfl, r_l0, ha⟩ := jRa_ci ha
  obtain ⟨l1, t1, rfl, r_l1, ha⟩ := jRa_ci ha
  obtain rfl := jRa_ni ha
  replace hF : jHo Rr (jGd (l0 = 0) <| fX10_done l1 s0) := hF
  have hG := jHo_as hF
  clear hF
  obtain ⟨rfl, hF⟩ := hG
  refine jg_norm [3, 1] [0, l1] rfl rfl ?_
  unfold fX10_done at hF
  refine ji_iload_n (n := 1) (pc := 0) l1 rfl rfl rfl dX10_done_0 (fun r1 => ?_)
  refine ji_callSz (pc := 1) [l1] ([]) oX10_isHand wlX10_103 wmX10_isHand rfl rfl (Nat.le_of_ble_eq_true rfl) (jRaC r1 jRa0) rfl rfl (Nat.le_of_ble_eq_true rfl) hF dX10_done_1 (fun x2 s3 r_x2 hF => ?_)
  refine ji_if_eq 23 (pc := 4) (jR51 r_x2) hF dX10_done_4 rfl (fun hF => ?_) (fun hF => ?_)
  · refine ji_iconst (pc := 23) dX10_done_23 ?_
    exact ji_reti (pc := 24) rfl (jRc rfl) hF dX10_done_24
  · refine ji_aload_n (n := 0) (pc := 7) 0 rfl rfl rfl dX10_done_7 (fun r4 => ?_)
    refine ji_getr (pc := 8) 16 wfX10_52 (jRc3 rfl) jcl_0 jrf_0_7 dX10_done_8 ?_
    refine ji_aload_n (n := 0) (pc := 11) 0 rfl rfl rfl dX10_done_11 (fun r5 => ?_)
    refine ji_getr (pc := 12) 2 wfX10_17 (jRc3 rfl) jcl_0 jrf_0_1 dX10_done_12 ?_
    refine ji_iload_n (n := 1) (pc := 15) l1 rfl rfl rfl dX10_done_15 (fun r6 => ?_)
    refine ji_aaload (pc := 16) 6 4 (jRc3 rfl) r6 (.inr ⟨rfl, rfl, rfl⟩) hF dX10_done_16 (fun x7 r_x7 hF => ?_)
    refine ji_callVi (pc := 17) 16 [x7] ([]) oX2_howDone wlX10_168 wmX2_howDone rfl rfl (Nat.le_of_ble_eq_true rfl) (jRaC (jRc3 rfl) (jRaC r_x7 jRa0)) rfl jcl_16 rfl (Nat.le_of_ble_eq_true rfl) hF dX10_done_17 (fun x8 s9 r_x8 hF => ?_)
    refine jg_goto (pc := 20) 24 dX10_done_20 rfl ?_
    exact ji_reti (pc := 24) rfl r_x8 hF dX10_done_24
def fX10_ways (l1 : Int) (s0 : jMem) : jO :=
jBd (fX10_isHand l1 s0) fun x2 s3 =>
if x2 = 0 then (
jRet (-1) s3)
else (
jGd ((0 : Int) ≤ l1 ∧ l1 < jrk 2 6) <| jLet (jrf 2 l1) fun x6 =>
jGd (jcl x6 = 0) <| jBd (fX1_isFull x6 s3) fun x8 s9 =>
if x8 = 0 then (
jRet (-2) s9)
else (
jGd ((0 : Int) ≤ l1 ∧ l1 < jrk 2 6) <| jLet (jrf 2 l1) fun x13 =>
jBd (fX9_find x13 s9) fun x14 s15 =>
jLet (s15 17 4) fun x17 =>
jRet x17 s15))
def gX10_ways (vs : List Int) (s : jMem) : jO := match vs with
  | [a0, a1] => jGd (a0 = 0) <| fX10_ways a1 s
  | _ => none
set_option maxRecDepth 100000 in
set_option maxHeartbeats 4000000 in
theorem oX10_ways : jOk MX10_ways [3, 1] 10 (jFn gX10_ways) := by
  refine jOk_fn (by decide +kernel) (Nat.le_of_ble_eq_true rfl) (by decide +kernel) (.inr (.inl rfl)) ?_
  intro E vs s0 Rr hF ha
  obtain ⟨l0, t0, rfl, r_l0, ha⟩ := jRa_ci ha
  obtain ⟨l1, t1, rfl, r_l1, ha⟩ := jRa_ci ha
  obtain rfl := jRa_ni ha
  replace hF : jHo Rr (jGd (l0 = 0) <| fX10_ways l1 s0) := hF
  have hG := jHo_as hF
  clear hF
  obtain ⟨rfl, hF⟩ := hG
  refine jg_norm [3, 1] [0, l1] rfl rfl ?_
  unfold fX10_ways at hF
  refine ji_iload_n (n := 1) (pc := 0) l1 rfl rfl rfl dX10_ways_0 (fun r1 => ?_)
  refine ji_callSz (pc := 1) [l1] ([]) oX10_isHand wlX10_103 wmX10_isHand rfl rfl (Nat.le_of_ble_eq_true rfl) (jRaC r1 jRa0) rfl rfl (Nat.le_of_ble_eq_true rfl) hF dX10_ways_1 (fun x2 s3 r_x2 hF => ?_)
  refine ji_if_ne 9 (pc := 4) (jR51 r_x2) hF dX10_ways_4 rfl (fun hF => ?_) (fun hF => ?_)
  · refine ji_aload_n (n := 0) (pc := 9) 0 rfl rfl rfl dX10_ways_9 (fun r4 => ?_)
    refine ji_getr (pc := 10) 2 wfX10_17 (jRc3 rfl) jcl_0 jrf_0_1 dX10_ways_10 ?_
    refine ji_iload_n (n := 1) (pc := 13) l1 rfl rfl rfl dX10_ways_13 (fun r5 => ?_)
    refine ji_aaload (pc := 14) 6 4 (jRc3 rfl) r5 (.inr ⟨rfl, rfl, rfl⟩) hF dX10_ways_14 (fun x6 r_x6 hF => ?_)
    obtain ⟨h7, hF⟩ := jHo_as hF
    refine ji_callVz (pc := 15) x6 [] ([]) oX1_isFull wlX10_117 wmX1_isFull rfl rfl (Nat.le_of_ble_eq_true rfl) (jRaC r_x6 jRa0) rfl h7 rfl (Nat.le_of_ble_eq_true rfl) hF dX10_ways_15 (fun x8 s9 r_x8 hF => ?_)
    refine ji_if_ne 24 (pc := 18) (jR51 r_x8) hF dX10_ways_18 rfl (fun hF => ?_) (fun hF => ?_)
    · refine ji_aload_n (n := 0) (pc := 24) 0 rfl rfl rfl dX10_ways_24 (fun r10 => ?_)
      refine ji_getr (pc := 25) 16 wfX10_52 (jRc3 rfl) jcl_0 jrf_0_7 dX10_ways_25 ?_
      refine ji_getr (pc := 28) 17 wfX10_171 (jRc3 rfl) jcl_16 jrf_16_0 dX10_ways_28 ?_
      refine ji_aload_n (n := 0) (pc := 31) 0 rfl rfl rfl dX10_ways_31 (fun r11 => ?_)
      refine ji_getr (pc := 32) 2 wfX10_17 (jRc3 rfl) jcl_0 jrf_0_1 dX10_ways_32 ?_
      refine ji_iload_n (n := 1) (pc := 35) l1 rfl rfl rfl dX10_ways_35 (fun r12 => ?_)
      refine ji_aaload (pc := 36) 6 4 (jRc3 rfl) r12 (.inr ⟨rfl, rfl, rfl⟩) hF dX10_ways_36 (fun x13 r_x13 hF => ?_)
      refine ji_callVv (pc := 37) 17 [x13] ([]) oX9_find wlX10_175 wmX9_find rfl rfl (Nat.le_of_ble_eq_true rfl) (jRaC (jRc3 rfl) (jRaC r_x13 jRa0)) rfl jcl_17 rfl (Nat.le_of_ble_eq_true rfl) hF dX10_ways_37 (fun x14 s15 hF => ?_)
      refine ji_aload_n (n := 0) (pc := 40) 0 rfl rfl rfl dX10_ways_40 (fun r16 => ?_)
      refine ji_getr (pc := 41) 16 wfX10_52 (jRc3 rfl) jcl_0 jrf_0_7 dX10_ways_41 ?_
      refine ji_getr (pc := 44) 17 wfX10_171 (jRc3 rfl) jcl_16 jrf_16_0 dX10_ways_44 ?_
      refine ji_getfi (pc := 47) wfX10_181 (jRc3 rfl) jcl_17 hF dX10_ways_47 (fun x17 r_x17 hF => ?_)
      exact ji_reti (pc := 50) rfl r_x17 hF dX10_ways_50
    · refine jg_bipush (pc := 21) rfl dX10_ways_21 ?_
      exact ji_reti (pc := 23) rfl (jRc rfl) hF dX10_ways_23
  · refine ji_iconst (pc := 7) dX10_ways_7 ?_
    exact ji_reti (pc := 8) rfl (jRc rfl) hF dX10_ways_8
def fX10_way (l1 l2 l3 : Int) (s0 : jMem) : jO :=
jBd (fX10_isHand l1 s0) fun x2 s3 =>
if x2 = 0 then (
jRet (-1) s3)
else (
if l3 < 0 then (
jRet (-1) s3)
else (
if l3 < 5 then (
jGd ((0 : Int) ≤ l1 ∧ l1 < jrk 2 6) <| jLet (jrf 2 l1) fun x8 =>
jGd (jcl x8 = 0) <| jBd (fX1_isFull x8 s3) fun x10 s11 =>
if x10 = 0 then (
jRet (-2) s11)
else (
jGd ((0 : Int) ≤ l1 ∧ l1 < jrk 2 6) <| jLet (jrf 2 l1) fun x15 =>
jBd (fX9_find x15 s11) fun x16 s17 =>
if l2 < 0 then (
jRet (-3) s17)
else (
jLet (s17 17 4) fun x21 =>
if x21 ≤ l2 then (
jRet (-3) s17)
else (
jBd (fX9_codeAt l2 l3 s17) fun x25 s26 =>
jRet x25 s26))))
else (
jRet (-1) s3)))
def gX10_way (vs : List Int) (s : jMem) : jO := match vs with
  | [a0, a1, a2, a3] => jGd (a0 = 0) <| fX10_way a1 a2 a3 s
  | _ => none
set_option maxRecDepth 100000 in
set_option maxHeartbeats 4000000 in
theorem oX10_way : jOk MX10_way [3, 1, 1, 1] 10 (jFn gX10_way) := by
  refine jOk_fn (by decide +kernel) (Nat.le_of_ble_eq_true rfl) (by decide +kernel) (.inr (.inl rfl)) ?_
  intro E vs s0 Rr hF ha
  obtain ⟨l0, t0, rfl, r_l0, ha⟩ := jRa_ci ha
  obtain ⟨l1, t1, rfl, r_l1, ha⟩ := jRa_ci ha
  obtain ⟨l2, t2, rfl, r_l2, ha⟩ := jRa_ci ha
  obtain ⟨l3, t3, rfl, r_l3, ha⟩ := jRa_ci ha
  obtain rfl := jRa_ni ha
  replace hF : jHo Rr (jGd (l0 = 0) <| fX10_way l1 l2 l3 s0) := hF
  have hG := jHo_as hF
  clear hF
  obtain ⟨rfl, hF⟩ := hG
  refine jg_norm [3, 1, 1, 1] [0, l1, l2, l3] rfl rfl ?_
  unfold fX10_way at hF
  refine ji_iload_n (n := 1) (pc := 0) l1 rfl rfl rfl dX10_way_0 (fun r1 => ?_)
  refine ji_callSz (pc := 1) [l1] ([]) oX10_isHand wlX10_103 wmX10_isHand rfl rfl (Nat.le_of_ble_eq_true rfl) (jRaC r1 jRa0) rfl rfl (Nat.le_of_ble_eq_true rfl) hF dX10_way_1 (fun x2 s3 r_x2 hF => ?_)
  refine ji_if_eq 16 (pc := 4) (jR51 r_x2) hF dX10_way_4 rfl (fun hF => ?_) (fun hF => ?_)
  · refine ji_iconst (pc := 16) dX10_way_16 ?_
    exact ji_reti (pc := 17) rfl (jRc rfl) hF dX10_way_17
  · refine ji_iload_n (n := 3) (pc := 7) l3 rfl rfl rfl dX10_way_7 (fun r4 => ?_)
    refine ji_if_lt 16 (pc := 8) r4 hF dX10_way_8 rfl (fun hF => ?_) (fun hF => ?_)
    · refine ji_iconst (pc := 16) dX10_way_16 ?_
      exact ji_reti (pc := 17) rfl (jRc rfl) hF dX10_way_17
    · refine ji_iload_n (n := 3) (pc := 11) l3 rfl rfl rfl dX10_way_11 (fun r5 => ?_)
      refine ji_iconst (pc := 12) dX10_way_12 ?_
      refine ji_icmp_lt 18 (pc := 13) r5 (jRc rfl) hF dX10_way_13 rfl (fun hF => ?_) (fun hF => ?_)
      · refine ji_aload_n (n := 0) (pc := 18) 0 rfl rfl rfl dX10_way_18 (fun r6 => ?_)
        refine ji_getr (pc := 19) 2 wfX10_17 (jRc3 rfl) jcl_0 jrf_0_1 dX10_way_19 ?_
        refine ji_iload_n (n := 1) (pc := 22) l1 rfl rfl rfl dX10_way_22 (fun r7 => ?_)
        refine ji_aaload (pc := 23) 6 4 (jRc3 rfl) r7 (.inr ⟨rfl, rfl, rfl⟩) hF dX10_way_23 (fun x8 r_x8 hF => ?_)
        obtain ⟨h9, hF⟩ := jHo_as hF
        refine ji_callVz (pc := 24) x8 [] ([]) oX1_isFull wlX10_117 wmX1_isFull rfl rfl (Nat.le_of_ble_eq_true rfl) (jRaC r_x8 jRa0) rfl h9 rfl (Nat.le_of_ble_eq_true rfl) hF dX10_way_24 (fun x10 s11 r_x10 hF => ?_)
        refine ji_if_ne 33 (pc := 27) (jR51 r_x10) hF dX10_way_27 rfl (fun hF => ?_) (fun hF => ?_)
        · refine ji_aload_n (n := 0) (pc := 33) 0 rfl rfl rfl dX10_way_33 (fun r12 => ?_)
          refine ji_getr (pc := 34) 16 wfX10_52 (jRc3 rfl) jcl_0 jrf_0_7 dX10_way_34 ?_
          refine ji_getr (pc := 37) 17 wfX10_171 (jRc3 rfl) jcl_16 jrf_16_0 dX10_way_37 ?_
          refine ji_aload_n (n := 0) (pc := 40) 0 rfl rfl rfl dX10_way_40 (fun r13 => ?_)
          refine ji_getr (pc := 41) 2 wfX10_17 (jRc3 rfl) jcl_0 jrf_0_1 dX10_way_41 ?_
          refine ji_iload_n (n := 1) (pc := 44) l1 rfl rfl rfl dX10_way_44 (fun r14 => ?_)
          refine ji_aaload (pc := 45) 6 4 (jRc3 rfl) r14 (.inr ⟨rfl, rfl, rfl⟩) hF dX10_way_45 (fun x15 r_x15 hF => ?_)
          refine ji_callVv (pc := 46) 17 [x15] ([]) oX9_find wlX10_175 wmX9_find rfl rfl (Nat.le_of_ble_eq_true rfl) (jRaC (jRc3 rfl) (jRaC r_x15 jRa0)) rfl jcl_17 rfl (Nat.le_of_ble_eq_true rfl) hF dX10_way_46 (fun x16 s17 hF => ?_)
          refine ji_iload_n (n := 2) (pc := 49) l2 rfl rfl rfl dX10_way_49 (fun r18 => ?_)
          refine ji_if_lt 82 (pc := 50) r18 hF dX10_way_50 rfl (fun hF => ?_) (fun hF => ?_)
          · refine jg_bipush (pc := 82) rfl dX10_way_82 ?_
            exact ji_reti (pc := 84) rfl (jRc rfl) hF dX10_way_84
          · refine ji_iload_n (n := 2) (pc := 53) l2 rfl rfl rfl dX10_way_53 (fun r19 => ?_)
            refine ji_aload_n (n := 0) (pc := 54) 0 rfl rfl rfl dX10_way_54 (fun r20 => ?_)
            refine ji_getr (pc := 55) 16 wfX10_52 (jRc3 rfl) jcl_0 jrf_0_7 dX10_way_55 ?_
            refine ji_getr (pc := 58) 17 wfX10_171 (jRc3 rfl) jcl_16 jrf_16_0 dX10_way_58 ?_
            refine ji_getfi (pc := 61) wfX10_181 (jRc3 rfl) jcl_17 hF dX10_way_61 (fun x21 r_x21 hF => ?_)
            refine ji_icmp_ge 82 (pc := 64) r19 r_x21 hF dX10_way_64 rfl (fun hF => ?_) (fun hF => ?_)
            · refine jg_bipush (pc := 82) rfl dX10_way_82 ?_
              exact ji_reti (pc := 84) rfl (jRc rfl) hF dX10_way_84
            · refine ji_aload_n (n := 0) (pc := 67) 0 rfl rfl rfl dX10_way_67 (fun r22 => ?_)
              refine ji_getr (pc := 68) 16 wfX10_52 (jRc3 rfl) jcl_0 jrf_0_7 dX10_way_68 ?_
              refine ji_getr (pc := 71) 17 wfX10_171 (jRc3 rfl) jcl_16 jrf_16_0 dX10_way_71 ?_
              refine ji_iload_n (n := 2) (pc := 74) l2 rfl rfl rfl dX10_way_74 (fun r23 => ?_)
              refine ji_iload_n (n := 3) (pc := 75) l3 rfl rfl rfl dX10_way_75 (fun r24 => ?_)
              refine ji_callVi (pc := 76) 17 [l2, l3] ([]) oX9_codeAt wlX10_183 wmX9_codeAt rfl rfl (Nat.le_of_ble_eq_true rfl) (jRaC (jRc3 rfl) (jRaC r23 (jRaC r24 jRa0))) rfl jcl_17 rfl (Nat.le_of_ble_eq_true rfl) hF dX10_way_76 (fun x25 s26 r_x25 hF => ?_)
              refine jg_goto (pc := 79) 84 dX10_way_79 rfl ?_
              exact ji_reti (pc := 84) rfl r_x25 hF dX10_way_84
        · refine jg_bipush (pc := 30) rfl dX10_way_30 ?_
          exact ji_reti (pc := 32) rfl (jRc rfl) hF dX10_way_32
      · refine ji_iconst (pc := 16) dX10_way_16 ?_
        exact ji_reti (pc := 17) rfl (jRc rfl) hF dX10_way_17
def bX10_distance_36 (l1 : Int) (s0 : jMem) : jO :=
jGd ((0 : Int) ≤ l1 ∧ l1 < jrk 2 6) <| jLet (jrf 2 l1) fun x4 =>
jBd (fX3_reckon x4 14 s0) fun x5 s6 =>
jLet (s6 7 12) fun x8 =>
jLet (jmax x8 1) fun x9 =>
jLet (j32 (x9 - 1)) fun x10 =>
jRet x10 s6
def fX10_distance (l1 : Int) (s0 : jMem) : jO :=
jBd (fX10_isHand l1 s0) fun x2 s3 =>
if x2 = 0 then (
jRet (-1) s3)
else (
jGd ((0 : Int) ≤ l1 ∧ l1 < jrk 2 6) <| jLet (jrf 2 l1) fun x6 =>
jGd (jcl x6 = 0) <| jBd (fX1_isFull x6 s3) fun x8 s9 =>
if x8 = 0 then (
jGd ((0 : Int) ≤ l1 ∧ l1 < jrk 2 6) <| jLet (jrf 2 l1) fun x12 =>
jGd (jcl x12 = 0) <| jBd (fX1_rests x12 s9) fun x14 s15 =>
if x14 = 0 then (
jRet (-2) s15)
else (
bX10_distance_36 l1 s15))
else (
bX10_distance_36 l1 s9))
def gX10_distance (vs : List Int) (s : jMem) : jO := match vs with
  | [a0, a1] => jGd (a0 = 0) <| fX10_distance a1 s
  | _ => none
set_option maxRecDepth 100000 in
set_option maxHeartbeats 4000000 in
theorem obX10_distance_36 {E : jEnv} {Rr : Int → jMem → Prop} : ∀ (l1 : Int) (s : jMem), jHo Rr (bX10_distance_36 l1 s) → jGo E MX10_distance 5 Rr [3, 1] 36 [0, l1] ([]) s := by
  intro l1 s0 hF
  unfold bX10_distance_36 at hF
  refine ji_aload_n (n := 0) (pc := 36) 0 rfl rfl rfl dX10_distance_36 (fun r1 => ?_)
  refine ji_getr (pc := 37) 7 wfX10_45 (jRc3 rfl) jcl_0 jrf_0_6 dX10_distance_37 ?_
  refine ji_aload_n (n := 0) (pc := 40) 0 rfl rfl rfl dX10_distance_40 (fun r2 => ?_)
  refine ji_getr (pc := 41) 2 wfX10_17 (jRc3 rfl) jcl_0 jrf_0_1 dX10_distance_41 ?_
  refine ji_iload_n (n := 1) (pc := 44) l1 rfl rfl rfl dX10_distance_44 (fun r3 => ?_)
  refine ji_aaload (pc := 45) 6 4 (jRc3 rfl) r3 (.inr ⟨rfl, rfl, rfl⟩) hF dX10_distance_45 (fun x4 r_x4 hF => ?_)
  refine jg_bipush (pc := 46) rfl dX10_distance_46 ?_
  refine ji_callVv (pc := 48) 7 [x4, 14] ([]) oX3_reckon wlX10_189 wmX3_reckon rfl rfl (Nat.le_of_ble_eq_true rfl) (jRaC (jRc3 rfl) (jRaC r_x4 (jRaC (jRc rfl) jRa0))) rfl jcl_7 rfl (Nat.le_of_ble_eq_true rfl) hF dX10_distance_48 (fun x5 s6 hF => ?_)
  refine ji_aload_n (n := 0) (pc := 51) 0 rfl rfl rfl dX10_distance_51 (fun r7 => ?_)
  refine ji_getr (pc := 52) 7 wfX10_45 (jRc3 rfl) jcl_0 jrf_0_6 dX10_distance_52 ?_
  refine ji_getfi (pc := 55) wfX10_193 (jRc3 rfl) jcl_7 hF dX10_distance_55 (fun x8 r_x8 hF => ?_)
  refine ji_iconst (pc := 58) dX10_distance_58 ?_
  refine ji_max (pc := 59) r_x8 (jRc rfl) (Nat.le_of_ble_eq_true rfl) (Nat.le_of_ble_eq_true rfl) ⟨wlX10_196, wq_max⟩ hF dX10_distance_59 (fun x9 r_x9 hF => ?_)
  refine ji_iconst (pc := 62) dX10_distance_62 ?_
  refine ji_isub (pc := 63)  hF dX10_distance_63 (fun x10 r_x10 hF => ?_)
  exact ji_reti (pc := 64) rfl r_x10 hF dX10_distance_64
set_option maxRecDepth 100000 in
set_option maxHeartbeats 4000000 in
theorem oX10_distance : jOk MX10_distance [3, 1] 5 (jFn gX10_distance) := by
  refine jOk_fn (by decide +kernel) (Nat.le_of_ble_eq_true rfl) (by decide +kernel) (.inr (.inl rfl)) ?_
  intro E vs s0 Rr hF ha
  obtain ⟨l0, t0, rfl, r_l0, ha⟩ := jRa_ci ha
  obtain ⟨l1, t1, rfl, r_l1, ha⟩ := jRa_ci ha
  obtain rfl := jRa_ni ha
  replace hF : jHo Rr (jGd (l0 = 0) <| fX10_distance l1 s0) := hF
  have hG := jHo_as hF
  clear hF
  obtain ⟨rfl, hF⟩ := hG
  refine jg_norm [3, 1] [0, l1] rfl rfl ?_
  unfold fX10_distance at hF
  refine ji_iload_n (n := 1) (pc := 0) l1 rfl rfl rfl dX10_distance_0 (fun r1 => ?_)
  refine ji_callSz (pc := 1) [l1] ([]) oX10_isHand wlX10_103 wmX10_isHand rfl rfl (Nat.le_of_ble_eq_true rfl) (jRaC r1 jRa0) rfl rfl (Nat.le_of_ble_eq_true rfl) hF dX10_distance_1 (fun x2 s3 r_x2 hF => ?_)
  refine ji_if_ne 9 (pc := 4) (jR51 r_x2) hF dX10_distance_4 rfl (fun hF => ?_) (fun hF => ?_)
  · refine ji_aload_n (n := 0) (pc := 9) 0 rfl rfl rfl dX10_distance_9 (fun r4 => ?_)
    refine ji_getr (pc := 10) 2 wfX10_17 (jRc3 rfl) jcl_0 jrf_0_1 dX10_distance_10 ?_
    refine ji_iload_n (n := 1) (pc := 13) l1 rfl rfl rfl dX10_distance_13 (fun r5 => ?_)
    refine ji_aaload (pc := 14) 6 4 (jRc3 rfl) r5 (.inr ⟨rfl, rfl, rfl⟩) hF dX10_distance_14 (fun x6 r_x6 hF => ?_)
    obtain ⟨h7, hF⟩ := jHo_as hF
    refine ji_callVz (pc := 15) x6 [] ([]) oX1_isFull wlX10_117 wmX1_isFull rfl rfl (Nat.le_of_ble_eq_true rfl) (jRaC r_x6 jRa0) rfl h7 rfl (Nat.le_of_ble_eq_true rfl) hF dX10_distance_15 (fun x8 s9 r_x8 hF => ?_)
    refine ji_if_ne 36 (pc := 18) (jR51 r_x8) hF dX10_distance_18 rfl (fun hF => ?_) (fun hF => ?_)
    · refine jg_norm [3, 1] [0, l1] rfl rfl ?_
      exact obX10_distance_36 _ _ hF
    · refine ji_aload_n (n := 0) (pc := 21) 0 rfl rfl rfl dX10_distance_21 (fun r10 => ?_)
      refine ji_getr (pc := 22) 2 wfX10_17 (jRc3 rfl) jcl_0 jrf_0_1 dX10_distance_22 ?_
      refine ji_iload_n (n := 1) (pc := 25) l1 rfl rfl rfl dX10_distance_25 (fun r11 => ?_)
      refine ji_aaload (pc := 26) 6 4 (jRc3 rfl) r11 (.inr ⟨rfl, rfl, rfl⟩) hF dX10_distance_26 (fun x12 r_x12 hF => ?_)
      obtain ⟨h13, hF⟩ := jHo_as hF
      refine ji_callVz (pc := 27) x12 [] ([]) oX1_rests wlX10_186 wmX1_rests rfl rfl (Nat.le_of_ble_eq_true rfl) (jRaC r_x12 jRa0) rfl h13 rfl (Nat.le_of_ble_eq_true rfl) hF dX10_distance_27 (fun x14 s15 r_x14 hF => ?_)
      refine ji_if_ne 36 (pc := 30) (jR51 r_x14) hF dX10_distance_30 rfl (fun hF => ?_) (fun hF => ?_)
      · refine jg_norm [3, 1] [0, l1] rfl rfl ?_
        exact obX10_distance_36 _ _ hF
      · refine jg_bipush (pc := 33) rfl dX10_distance_33 ?_
        exact ji_reti (pc := 35) rfl (jRc rfl) hF dX10_distance_35
  · refine ji_iconst (pc := 7) dX10_distance_7 ?_
    exact ji_reti (pc := 8) rfl (jRc rfl) hF dX10_distance_8
def fX10_waits (l1 l2 : Int) (s0 : jMem) : jO :=
jBd (fX10_isHand l1 s0) fun x2 s3 =>
if x2 = 0 then (
jRet (-1) s3)
else (
if 0 ≤ l2 then (
jGd ((0 : Int) ≤ l1 ∧ l1 < jrk 2 6) <| jLet (jrf 2 l1) fun x7 =>
jGd (jcl x7 = 0) <| jBd (fX1_rests x7 s3) fun x9 s10 =>
if x9 = 0 then (
jRet (-2) s10)
else (
jGd ((0 : Int) ≤ l1 ∧ l1 < jrk 2 6) <| jLet (jrf 2 l1) fun x14 =>
jBd (fX3_reckon x14 1 s10) fun x15 s16 =>
jLet (s16 7 12) fun x18 =>
if x18 = 1 then (
jBd (fX3_helper l2 s16) fun x21 s22 =>
jRet x21 s22)
else (
jRet (-3) s16)))
else (
jRet (-1) s3))
def gX10_waits (vs : List Int) (s : jMem) : jO := match vs with
  | [a0, a1, a2] => jGd (a0 = 0) <| fX10_waits a1 a2 s
  | _ => none
set_option maxRecDepth 100000 in
set_option maxHeartbeats 4000000 in
theorem oX10_waits : jOk MX10_waits [3, 1, 1] 5 (jFn gX10_waits) := by
  refine jOk_fn (by decide +kernel) (Nat.le_of_ble_eq_true rfl) (by decide +kernel) (.inr (.inl rfl)) ?_
  intro E vs s0 Rr hF ha
  obtain ⟨l0, t0, rfl, r_l0, ha⟩ := jRa_ci ha
  obtain ⟨l1, t1, rfl, r_l1, ha⟩ := jRa_ci ha
  obtain ⟨l2, t2, rfl, r_l2, ha⟩ := jRa_ci ha
  obtain rfl := jRa_ni ha
  replace hF : jHo Rr (jGd (l0 = 0) <| fX10_waits l1 l2 s0) := hF
  have hG := jHo_as hF
  clear hF
  obtain ⟨rfl, hF⟩ := hG
  refine jg_norm [3, 1, 1] [0, l1, l2] rfl rfl ?_
  unfold fX10_waits at hF
  refine ji_iload_n (n := 1) (pc := 0) l1 rfl rfl rfl dX10_waits_0 (fun r1 => ?_)
  refine ji_callSz (pc := 1) [l1] ([]) oX10_isHand wlX10_103 wmX10_isHand rfl rfl (Nat.le_of_ble_eq_true rfl) (jRaC r1 jRa0) rfl rfl (Nat.le_of_ble_eq_true rfl) hF dX10_waits_1 (fun x2 s3 r_x2 hF => ?_)
  refine ji_if_eq 11 (pc := 4) (jR51 r_x2) hF dX10_waits_4 rfl (fun hF => ?_) (fun hF => ?_)
  · refine ji_iconst (pc := 11) dX10_waits_11 ?_
    exact ji_reti (pc := 12) rfl (jRc rfl) hF dX10_waits_12
  · refine ji_iload_n (n := 2) (pc := 7) l2 rfl rfl rfl dX10_waits_7 (fun r4 => ?_)
    refine ji_if_ge 13 (pc := 8) r4 hF dX10_waits_8 rfl (fun hF => ?_) (fun hF => ?_)
    · refine ji_aload_n (n := 0) (pc := 13) 0 rfl rfl rfl dX10_waits_13 (fun r5 => ?_)
      refine ji_getr (pc := 14) 2 wfX10_17 (jRc3 rfl) jcl_0 jrf_0_1 dX10_waits_14 ?_
      refine ji_iload_n (n := 1) (pc := 17) l1 rfl rfl rfl dX10_waits_17 (fun r6 => ?_)
      refine ji_aaload (pc := 18) 6 4 (jRc3 rfl) r6 (.inr ⟨rfl, rfl, rfl⟩) hF dX10_waits_18 (fun x7 r_x7 hF => ?_)
      obtain ⟨h8, hF⟩ := jHo_as hF
      refine ji_callVz (pc := 19) x7 [] ([]) oX1_rests wlX10_186 wmX1_rests rfl rfl (Nat.le_of_ble_eq_true rfl) (jRaC r_x7 jRa0) rfl h8 rfl (Nat.le_of_ble_eq_true rfl) hF dX10_waits_19 (fun x9 s10 r_x9 hF => ?_)
      refine ji_if_ne 28 (pc := 22) (jR51 r_x9) hF dX10_waits_22 rfl (fun hF => ?_) (fun hF => ?_)
      · refine ji_aload_n (n := 0) (pc := 28) 0 rfl rfl rfl dX10_waits_28 (fun r11 => ?_)
        refine ji_getr (pc := 29) 7 wfX10_45 (jRc3 rfl) jcl_0 jrf_0_6 dX10_waits_29 ?_
        refine ji_aload_n (n := 0) (pc := 32) 0 rfl rfl rfl dX10_waits_32 (fun r12 => ?_)
        refine ji_getr (pc := 33) 2 wfX10_17 (jRc3 rfl) jcl_0 jrf_0_1 dX10_waits_33 ?_
        refine ji_iload_n (n := 1) (pc := 36) l1 rfl rfl rfl dX10_waits_36 (fun r13 => ?_)
        refine ji_aaload (pc := 37) 6 4 (jRc3 rfl) r13 (.inr ⟨rfl, rfl, rfl⟩) hF dX10_waits_37 (fun x14 r_x14 hF => ?_)
        refine ji_iconst (pc := 38) dX10_waits_38 ?_
        refine ji_callVv (pc := 39) 7 [x14, 1] ([]) oX3_reckon wlX10_189 wmX3_reckon rfl rfl (Nat.le_of_ble_eq_true rfl) (jRaC (jRc3 rfl) (jRaC r_x14 (jRaC (jRc rfl) jRa0))) rfl jcl_7 rfl (Nat.le_of_ble_eq_true rfl) hF dX10_waits_39 (fun x15 s16 hF => ?_)
        refine ji_aload_n (n := 0) (pc := 42) 0 rfl rfl rfl dX10_waits_42 (fun r17 => ?_)
        refine ji_getr (pc := 43) 7 wfX10_45 (jRc3 rfl) jcl_0 jrf_0_6 dX10_waits_43 ?_
        refine ji_getfi (pc := 46) wfX10_193 (jRc3 rfl) jcl_7 hF dX10_waits_46 (fun x18 r_x18 hF => ?_)
        refine ji_iconst (pc := 49) dX10_waits_49 ?_
        refine ji_icmp_ne 64 (pc := 50) r_x18 (jRc rfl) hF dX10_waits_50 rfl (fun hF => ?_) (fun hF => ?_)
        · refine jg_bipush (pc := 64) rfl dX10_waits_64 ?_
          exact ji_reti (pc := 66) rfl (jRc rfl) hF dX10_waits_66
        · refine ji_aload_n (n := 0) (pc := 53) 0 rfl rfl rfl dX10_waits_53 (fun r19 => ?_)
          refine ji_getr (pc := 54) 7 wfX10_45 (jRc3 rfl) jcl_0 jrf_0_6 dX10_waits_54 ?_
          refine ji_iload_n (n := 2) (pc := 57) l2 rfl rfl rfl dX10_waits_57 (fun r20 => ?_)
          refine ji_callVi (pc := 58) 7 [l2] ([]) oX3_helper wlX10_201 wmX3_helper rfl rfl (Nat.le_of_ble_eq_true rfl) (jRaC (jRc3 rfl) (jRaC r20 jRa0)) rfl jcl_7 rfl (Nat.le_of_ble_eq_true rfl) hF dX10_waits_58 (fun x21 s22 r_x21 hF => ?_)
          refine jg_goto (pc := 61) 66 dX10_waits_61 rfl ?_
          exact ji_reti (pc := 66) rfl r_x21 hF dX10_waits_66
      · refine jg_bipush (pc := 25) rfl dX10_waits_25 ?_
        exact ji_reti (pc := 27) rfl (jRc rfl) hF dX10_waits_27
    · refine ji_iconst (pc := 11) dX10_waits_11 ?_
      exact ji_reti (pc := 12) rfl (jRc rfl) hF dX10_waits_12
end

section
def fX0_code (l0 l1 : Int) (s0 : jMem) : jO :=
jLet (j32 (100 * l0)) fun x2 =>
jLet (j32 (x2 + l1)) fun x4 =>
jRet x4 s0
def gX0_code (vs : List Int) (s : jMem) : jO := match vs with
  | [a0, a1] => fX0_code a0 a1 s
  | _ => none
set_option maxRecDepth 100000 in
set_option maxHeartbeats 4000000 in
theorem oX0_code : jOk MX0_code [1, 1] 0 (jFn gX0_code) := by
  refine jOk_fn (by decide +kernel) (Nat.le_of_ble_eq_true rfl) (by decide +kernel) (.inr (.inl rfl)) ?_
  intro E vs s0 Rr hF ha
  obtain ⟨l0, t0, rfl, r_l0, ha⟩ := jRa_ci ha
  obtain ⟨l1, t1, rfl, r_l1, ha⟩ := jRa_ci ha
  obtain rfl := jRa_ni ha
  replace hF : jHo Rr (fX0_code l0 l1 s0) := hF
  refine jg_norm [1, 1] [l0, l1] rfl rfl ?_
  unfold fX0_code at hF
  refine jg_bipush (pc := 0) rfl dX0_code_0 ?_
  refine ji_iload_n (n := 0) (pc := 2) l0 rfl rfl rfl dX0_code_2 (fun r1 => ?_)
  refine ji_imul (pc := 3)  hF dX0_code_3 (fun x2 r_x2 hF => ?_)
  refine ji_iload_n (n := 1) (pc := 4) l1 rfl rfl rfl dX0_code_4 (fun r3 => ?_)
  refine ji_iadd (pc := 5)  hF dX0_code_5 (fun x4 r_x4 hF => ?_)
  exact ji_reti (pc := 6) rfl r_x4 hF dX0_code_6
def fX0_tilesAlike (l0 : Int) (s0 : jMem) : jO :=
jLet (j32 (l0 + 1)) fun x2 =>
jRet x2 s0
def gX0_tilesAlike (vs : List Int) (s : jMem) : jO := match vs with
  | [a0] => fX0_tilesAlike a0 s
  | _ => none
set_option maxRecDepth 100000 in
set_option maxHeartbeats 4000000 in
theorem oX0_tilesAlike : jOk MX0_tilesAlike [1] 0 (jFn gX0_tilesAlike) := by
  refine jOk_fn (by decide +kernel) (Nat.le_of_ble_eq_true rfl) (by decide +kernel) (.inr (.inl rfl)) ?_
  intro E vs s0 Rr hF ha
  obtain ⟨l0, t0, rfl, r_l0, ha⟩ := jRa_ci ha
  obtain rfl := jRa_ni ha
  replace hF : jHo Rr (fX0_tilesAlike l0 s0) := hF
  refine jg_norm [1] [l0] rfl rfl ?_
  unfold fX0_tilesAlike at hF
  refine ji_iload_n (n := 0) (pc := 0) l0 rfl rfl rfl dX0_tilesAlike_0 (fun r1 => ?_)
  refine ji_iconst (pc := 1) dX0_tilesAlike_1 ?_
  refine ji_iadd (pc := 2)  hF dX0_tilesAlike_2 (fun x2 r_x2 hF => ?_)
  exact ji_reti (pc := 3) rfl r_x2 hF dX0_tilesAlike_3
def fX1_size (l0 : Int) (s0 : jMem) : jO :=
jGd (jcl l0 = 0) <| jLet (s0 l0 3) fun x3 =>
jLet (s0 l0 4) fun x5 =>
jLet (j32 (3 * x5)) fun x6 =>
jLet (j32 (x3 + x6)) fun x7 =>
jRet x7 s0
def gX1_size (vs : List Int) (s : jMem) : jO := match vs with
  | [a0] => fX1_size a0 s
  | _ => none
set_option maxRecDepth 100000 in
set_option maxHeartbeats 4000000 in
theorem oX1_size : jOk MX1_size [3] 0 (jFn gX1_size) := by
  refine jOk_fn (by decide +kernel) (Nat.le_of_ble_eq_true rfl) (by decide +kernel) (.inr (.inl rfl)) ?_
  intro E vs s0 Rr hF ha
  obtain ⟨l0, t0, rfl, r_l0, ha⟩ := jRa_ci ha
  obtain rfl := jRa_ni ha
  replace hF : jHo Rr (fX1_size l0 s0) := hF
  refine jg_norm [3] [l0] rfl rfl ?_
  unfold fX1_size at hF
  refine ji_aload_n (n := 0) (pc := 0) l0 rfl rfl rfl dX1_size_0 (fun r1 => ?_)
  obtain ⟨h2, hF⟩ := jHo_as hF
  refine ji_getfi (pc := 1) wfX1_21 r1 h2 hF dX1_size_1 (fun x3 r_x3 hF => ?_)
  refine ji_iconst (pc := 4) dX1_size_4 ?_
  refine ji_aload_n (n := 0) (pc := 5) l0 rfl rfl rfl dX1_size_5 (fun r4 => ?_)
  refine ji_getfi (pc := 6) wfX1_25 r4 h2 hF dX1_size_6 (fun x5 r_x5 hF => ?_)
  refine ji_imul (pc := 9)  hF dX1_size_9 (fun x6 r_x6 hF => ?_)
  refine ji_iadd (pc := 10)  hF dX1_size_10 (fun x7 r_x7 hF => ?_)
  exact ji_reti (pc := 11) rfl r_x7 hF dX1_size_11
def fX1_isFull (l0 : Int) (s0 : jMem) : jO :=
jGd (jcl l0 = 0) <| jBd (fX1_size l0 s0) fun x3 s4 =>
if x3 = 14 then (
jRet 1 s4)
else (
jRet 0 s4)
def gX1_isFull (vs : List Int) (s : jMem) : jO := match vs with
  | [a0] => fX1_isFull a0 s
  | _ => none
set_option maxRecDepth 100000 in
set_option maxHeartbeats 4000000 in
theorem oX1_isFull : jOk MX1_isFull [3] 1 (jFn gX1_isFull) := by
  refine jOk_fn (by decide +kernel) (Nat.le_of_ble_eq_true rfl) (by decide +kernel) (.inr (.inr (.inr rfl))) ?_
  intro E vs s0 Rr hF ha
  obtain ⟨l0, t0, rfl, r_l0, ha⟩ := jRa_ci ha
  obtain rfl := jRa_ni ha
  replace hF : jHo Rr (fX1_isFull l0 s0) := hF
  refine jg_norm [3] [l0] rfl rfl ?_
  unfold fX1_isFull at hF
  refine ji_aload_n (n := 0) (pc := 0) l0 rfl rfl rfl dX1_isFull_0 (fun r1 => ?_)
  obtain ⟨h2, hF⟩ := jHo_as hF
  refine ji_callVi (pc := 1) l0 [] ([]) oX1_size wlX1_28 wmX1_size rfl rfl (Nat.le_of_ble_eq_true rfl) (jRaC r1 jRa0) rfl h2 rfl (Nat.le_of_ble_eq_true rfl) hF dX1_isFull_1 (fun x3 s4 r_x3 hF => ?_)
  refine jg_bipush (pc := 4) rfl dX1_isFull_4 ?_
  refine ji_icmp_ne 13 (pc := 6) r_x3 (jRc rfl) hF dX1_isFull_6 rfl (fun hF => ?_) (fun hF => ?_)
  · refine ji_iconst (pc := 13) dX1_isFull_13 ?_
    exact ji_retz (pc := 14) rfl (jRc5 rfl) hF dX1_isFull_14
  · refine ji_iconst (pc := 9) dX1_isFull_9 ?_
    refine jg_goto (pc := 10) 14 dX1_isFull_10 rfl ?_
    exact ji_retz (pc := 14) rfl (jRc5 rfl) hF dX1_isFull_14
def fX1_rests (l0 : Int) (s0 : jMem) : jO :=
jGd (jcl l0 = 0) <| jBd (fX1_size l0 s0) fun x3 s4 =>
if x3 = 13 then (
jRet 1 s4)
else (
jRet 0 s4)
def gX1_rests (vs : List Int) (s : jMem) : jO := match vs with
  | [a0] => fX1_rests a0 s
  | _ => none
set_option maxRecDepth 100000 in
set_option maxHeartbeats 4000000 in
theorem oX1_rests : jOk MX1_rests [3] 1 (jFn gX1_rests) := by
  refine jOk_fn (by decide +kernel) (Nat.le_of_ble_eq_true rfl) (by decide +kernel) (.inr (.inr (.inr rfl))) ?_
  intro E vs s0 Rr hF ha
  obtain ⟨l0, t0, rfl, r_l0, ha⟩ := jRa_ci ha
  obtain rfl := jRa_ni ha
  replace hF : jHo Rr (fX1_rests l0 s0) := hF
  refine jg_norm [3] [l0] rfl rfl ?_
  unfold fX1_rests at hF
  refine ji_aload_n (n := 0) (pc := 0) l0 rfl rfl rfl dX1_rests_0 (fun r1 => ?_)
  obtain ⟨h2, hF⟩ := jHo_as hF
  refine ji_callVi (pc := 1) l0 [] ([]) oX1_size wlX1_28 wmX1_size rfl rfl (Nat.le_of_ble_eq_true rfl) (jRaC r1 jRa0) rfl h2 rfl (Nat.le_of_ble_eq_true rfl) hF dX1_rests_1 (fun x3 s4 r_x3 hF => ?_)
  refine jg_bipush (pc := 4) rfl dX1_rests_4 ?_
  refine ji_icmp_ne 13 (pc := 6) r_x3 (jRc rfl) hF dX1_rests_6 rfl (fun hF => ?_) (fun hF => ?_)
  · refine ji_iconst (pc := 13) dX1_rests_13 ?_
    exact ji_retz (pc := 14) rfl (jRc5 rfl) hF dX1_rests_14
  · refine ji_iconst (pc := 9) dX1_rests_9 ?_
    refine jg_goto (pc := 10) 14 dX1_rests_10 rfl ?_
    exact ji_retz (pc := 14) rfl (jRc5 rfl) hF dX1_rests_14
def fX1_gain (l0 l1 : Int) (s0 : jMem) : jO :=
jGd (jcl l0 = 0) <| jLet (jrf l0 0) fun x3 =>
jGd ((0 : Int) ≤ l1 ∧ l1 < jik x3) <| jLet (s0 x3 l1) fun x5 =>
jLet (j32 (x5 + 1)) fun x6 =>
jGd ((0 : Int) ≤ l1 ∧ l1 < jik x3) <| jLet (jU s0 x3 l1 x6) fun s7 =>
jLet (s7 l0 3) fun x9 =>
jLet (j32 (x9 + 1)) fun x10 =>
jLet (jU s7 l0 3 x10) fun s11 =>
jRet 0 s11
def gX1_gain (vs : List Int) (s : jMem) : jO := match vs with
  | [a0, a1] => fX1_gain a0 a1 s
  | _ => none
set_option maxRecDepth 100000 in
set_option maxHeartbeats 4000000 in
theorem oX1_gain : jOk MX1_gain [3, 1] 0 (jFn gX1_gain) := by
  refine jOk_fn (by decide +kernel) (Nat.le_of_ble_eq_true rfl) (by decide +kernel) (.inl rfl) ?_
  intro E vs s0 Rr hF ha
  obtain ⟨l0, t0, rfl, r_l0, ha⟩ := jRa_ci ha
  obtain ⟨l1, t1, rfl, r_l1, ha⟩ := jRa_ci ha
  obtain rfl := jRa_ni ha
  replace hF : jHo Rr (fX1_gain l0 l1 s0) := hF
  refine jg_norm [3, 1] [l0, l1] rfl rfl ?_
  unfold fX1_gain at hF
  refine ji_aload_n (n := 0) (pc := 0) l0 rfl rfl rfl dX1_gain_0 (fun r1 => ?_)
  obtain ⟨h2, hF⟩ := jHo_as hF
  refine ji_getrL (pc := 1) wfX1_9 r1 h2 hF dX1_gain_1 (fun x3 r_x3 hF => ?_)
  refine ji_iload_n (n := 1) (pc := 4) l1 rfl rfl rfl dX1_gain_4 (fun r4 => ?_)
  refine jg_dup2 (pc := 5) (by decide) (by decide) dX1_gain_5 ?_
  refine ji_iaload (pc := 6) r_x3 r4 hF dX1_gain_6 (fun x5 r_x5 hF => ?_)
  refine ji_iconst (pc := 7) dX1_gain_7 ?_
  refine ji_iadd (pc := 8)  hF dX1_gain_8 (fun x6 r_x6 hF => ?_)
  refine ji_iastore (pc := 9) r_x3 r4 r_x6 hF dX1_gain_9 (fun s7 hF => ?_)
  refine ji_aload_n (n := 0) (pc := 10) l0 rfl rfl rfl dX1_gain_10 (fun r8 => ?_)
  refine jg_dup (pc := 11) (by decide) dX1_gain_11 ?_
  refine ji_getfi (pc := 12) wfX1_21 r8 h2 hF dX1_gain_12 (fun x9 r_x9 hF => ?_)
  refine ji_iconst (pc := 15) dX1_gain_15 ?_
  refine ji_iadd (pc := 16)  hF dX1_gain_16 (fun x10 r_x10 hF => ?_)
  refine ji_putfi (pc := 17) wpX1_21 r8 h2 r_x10 hF dX1_gain_17 (fun s11 hF => ?_)
  exact ji_retv (pc := 20) rfl hF dX1_gain_20
def fX1_lose (l0 l1 : Int) (s0 : jMem) : jO :=
jGd (jcl l0 = 0) <| jLet (jrf l0 0) fun x3 =>
jGd ((0 : Int) ≤ l1 ∧ l1 < jik x3) <| jLet (s0 x3 l1) fun x5 =>
jLet (j32 (x5 - 1)) fun x6 =>
jGd ((0 : Int) ≤ l1 ∧ l1 < jik x3) <| jLet (jU s0 x3 l1 x6) fun s7 =>
jLet (s7 l0 3) fun x9 =>
jLet (j32 (x9 - 1)) fun x10 =>
jLet (jU s7 l0 3 x10) fun s11 =>
jRet 0 s11
def gX1_lose (vs : List Int) (s : jMem) : jO := match vs with
  | [a0, a1] => fX1_lose a0 a1 s
  | _ => none
set_option maxRecDepth 100000 in
set_option maxHeartbeats 4000000 in
theorem oX1_lose : jOk MX1_lose [3, 1] 0 (jFn gX1_lose) := by
  refine jOk_fn (by decide +kernel) (Nat.le_of_ble_eq_true rfl) (by decide +kernel) (.inl rfl) ?_
  intro E vs s0 Rr hF ha
  obtain ⟨l0, t0, rfl, r_l0, ha⟩ := jRa_ci ha
  obtain ⟨l1, t1, rfl, r_l1, ha⟩ := jRa_ci ha
  obtain rfl := jRa_ni ha
  replace hF : jHo Rr (fX1_lose l0 l1 s0) := hF
  refine jg_norm [3, 1] [l0, l1] rfl rfl ?_
  unfold fX1_lose at hF
  refine ji_aload_n (n := 0) (pc := 0) l0 rfl rfl rfl dX1_lose_0 (fun r1 => ?_)
  obtain ⟨h2, hF⟩ := jHo_as hF
  refine ji_getrL (pc := 1) wfX1_9 r1 h2 hF dX1_lose_1 (fun x3 r_x3 hF => ?_)
  refine ji_iload_n (n := 1) (pc := 4) l1 rfl rfl rfl dX1_lose_4 (fun r4 => ?_)
  refine jg_dup2 (pc := 5) (by decide) (by decide) dX1_lose_5 ?_
  refine ji_iaload (pc := 6) r_x3 r4 hF dX1_lose_6 (fun x5 r_x5 hF => ?_)
  refine ji_iconst (pc := 7) dX1_lose_7 ?_
  refine ji_isub (pc := 8)  hF dX1_lose_8 (fun x6 r_x6 hF => ?_)
  refine ji_iastore (pc := 9) r_x3 r4 r_x6 hF dX1_lose_9 (fun s7 hF => ?_)
  refine ji_aload_n (n := 0) (pc := 10) l0 rfl rfl rfl dX1_lose_10 (fun r8 => ?_)
  refine jg_dup (pc := 11) (by decide) dX1_lose_11 ?_
  refine ji_getfi (pc := 12) wfX1_21 r8 h2 hF dX1_lose_12 (fun x9 r_x9 hF => ?_)
  refine ji_iconst (pc := 15) dX1_lose_15 ?_
  refine ji_isub (pc := 16)  hF dX1_lose_16 (fun x10 r_x10 hF => ?_)
  refine ji_putfi (pc := 17) wpX1_21 r8 h2 r_x10 hF dX1_lose_17 (fun s11 hF => ?_)
  exact ji_retv (pc := 20) rfl hF dX1_lose_20
def fX1_canLay (l0 l1 l2 : Int) (s0 : jMem) : jO :=
jGd (jcl l0 = 0) <| jLet (s0 l0 4) fun x3 =>
if x3 < 4 then (
if l1 = 1 then (
jLet (jrf l0 0) fun x13 =>
jGd ((0 : Int) ≤ l2 ∧ l2 < jik x13) <| jLet (s0 x13 l2) fun x15 =>
if x15 ≤ 0 then (
jRet 0 s0)
else (
jLet (jrf l0 0) fun x17 =>
jLet (j32 (l2 + 1)) fun x19 =>
jGd ((0 : Int) ≤ x19 ∧ x19 < jik x17) <| jLet (s0 x17 x19) fun x20 =>
if x20 ≤ 0 then (
jRet 0 s0)
else (
jLet (jrf l0 0) fun x22 =>
jLet (j32 (l2 + 2)) fun x24 =>
jGd ((0 : Int) ≤ x24 ∧ x24 < jik x22) <| jLet (s0 x22 x24) fun x25 =>
if x25 ≤ 0 then (
jRet 0 s0)
else (
jRet 1 s0))))
else (
jLet (jrf l0 0) fun x6 =>
jGd ((0 : Int) ≤ l2 ∧ l2 < jik x6) <| jLet (s0 x6 l2) fun x8 =>
jBd (fX0_tilesAlike l1 s0) fun x10 s11 =>
if x8 < x10 then (
jRet 0 s11)
else (
jRet 1 s11)))
else (
jRet 0 s0)
def gX1_canLay (vs : List Int) (s : jMem) : jO := match vs with
  | [a0, a1, a2] => fX1_canLay a0 a1 a2 s
  | _ => none
set_option maxRecDepth 100000 in
set_option maxHeartbeats 4000000 in
theorem oX1_canLay : jOk MX1_canLay [3, 1, 1] 1 (jFn gX1_canLay) := by
  refine jOk_fn (by decide +kernel) (Nat.le_of_ble_eq_true rfl) (by decide +kernel) (.inr (.inr (.inr rfl))) ?_
  intro E vs s0 Rr hF ha
  obtain ⟨l0, t0, rfl, r_l0, ha⟩ := jRa_ci ha
  obtain ⟨l1, t1, rfl, r_l1, ha⟩ := jRa_ci ha
  obtain ⟨l2, t2, rfl, r_l2, ha⟩ := jRa_ci ha
  obtain rfl := jRa_ni ha
  replace hF : jHo Rr (fX1_canLay l0 l1 l2 s0) := hF
  refine jg_norm [3, 1, 1] [l0, l1, l2] rfl rfl ?_
  unfold fX1_canLay at hF
  refine ji_aload_n (n := 0) (pc := 0) l0 rfl rfl rfl dX1_canLay_0 (fun r1 => ?_)
  obtain ⟨h2, hF⟩ := jHo_as hF
  refine ji_getfi (pc := 1) wfX1_25 r1 h2 hF dX1_canLay_1 (fun x3 r_x3 hF => ?_)
  refine ji_iconst (pc := 4) dX1_canLay_4 ?_
  refine ji_icmp_lt 10 (pc := 5) r_x3 (jRc rfl) hF dX1_canLay_5 rfl (fun hF => ?_) (fun hF => ?_)
  · refine ji_iload_n (n := 1) (pc := 10) l1 rfl rfl rfl dX1_canLay_10 (fun r4 => ?_)
    refine ji_iconst (pc := 11) dX1_canLay_11 ?_
    refine ji_icmp_ne 52 (pc := 12) r4 (jRc rfl) hF dX1_canLay_12 rfl (fun hF => ?_) (fun hF => ?_)
    · refine ji_aload_n (n := 0) (pc := 52) l0 rfl rfl rfl dX1_canLay_52 (fun r5 => ?_)
      refine ji_getrL (pc := 53) wfX1_9 r5 h2 hF dX1_canLay_53 (fun x6 r_x6 hF => ?_)
      refine ji_iload_n (n := 2) (pc := 56) l2 rfl rfl rfl dX1_canLay_56 (fun r7 => ?_)
      refine ji_iaload (pc := 57) r_x6 r7 hF dX1_canLay_57 (fun x8 r_x8 hF => ?_)
      refine ji_iload_n (n := 1) (pc := 58) l1 rfl rfl rfl dX1_canLay_58 (fun r9 => ?_)
      refine ji_callSi (pc := 59) [l1] (jV E 1 x8 :: []) oX0_tilesAlike wlX1_34 wmX0_tilesAlike rfl rfl (Nat.le_of_ble_eq_true rfl) (jRaC r9 jRa0) rfl rfl (Nat.le_of_ble_eq_true rfl) hF dX1_canLay_59 (fun x10 s11 r_x10 hF => ?_)
      refine ji_icmp_lt 69 (pc := 62) r_x8 r_x10 hF dX1_canLay_62 rfl (fun hF => ?_) (fun hF => ?_)
      · refine ji_iconst (pc := 69) dX1_canLay_69 ?_
        exact ji_retz (pc := 70) rfl (jRc5 rfl) hF dX1_canLay_70
      · refine ji_iconst (pc := 65) dX1_canLay_65 ?_
        refine jg_goto (pc := 66) 70 dX1_canLay_66 rfl ?_
        exact ji_retz (pc := 70) rfl (jRc5 rfl) hF dX1_canLay_70
    · refine ji_aload_n (n := 0) (pc := 15) l0 rfl rfl rfl dX1_canLay_15 (fun r12 => ?_)
      refine ji_getrL (pc := 16) wfX1_9 r12 h2 hF dX1_canLay_16 (fun x13 r_x13 hF => ?_)
      refine ji_iload_n (n := 2) (pc := 19) l2 rfl rfl rfl dX1_canLay_19 (fun r14 => ?_)
      refine ji_iaload (pc := 20) r_x13 r14 hF dX1_canLay_20 (fun x15 r_x15 hF => ?_)
      refine ji_if_le 50 (pc := 21) r_x15 hF dX1_canLay_21 rfl (fun hF => ?_) (fun hF => ?_)
      · refine ji_iconst (pc := 50) dX1_canLay_50 ?_
        exact ji_retz (pc := 51) rfl (jRc5 rfl) hF dX1_canLay_51
      · refine ji_aload_n (n := 0) (pc := 24) l0 rfl rfl rfl dX1_canLay_24 (fun r16 => ?_)
        refine ji_getrL (pc := 25) wfX1_9 r16 h2 hF dX1_canLay_25 (fun x17 r_x17 hF => ?_)
        refine ji_iload_n (n := 2) (pc := 28) l2 rfl rfl rfl dX1_canLay_28 (fun r18 => ?_)
        refine ji_iconst (pc := 29) dX1_canLay_29 ?_
        refine ji_iadd (pc := 30)  hF dX1_canLay_30 (fun x19 r_x19 hF => ?_)
        refine ji_iaload (pc := 31) r_x17 r_x19 hF dX1_canLay_31 (fun x20 r_x20 hF => ?_)
        refine ji_if_le 50 (pc := 32) r_x20 hF dX1_canLay_32 rfl (fun hF => ?_) (fun hF => ?_)
        · refine ji_iconst (pc := 50) dX1_canLay_50 ?_
          exact ji_retz (pc := 51) rfl (jRc5 rfl) hF dX1_canLay_51
        · refine ji_aload_n (n := 0) (pc := 35) l0 rfl rfl rfl dX1_canLay_35 (fun r21 => ?_)
          refine ji_getrL (pc := 36) wfX1_9 r21 h2 hF dX1_canLay_36 (fun x22 r_x22 hF => ?_)
          refine ji_iload_n (n := 2) (pc := 39) l2 rfl rfl rfl dX1_canLay_39 (fun r23 => ?_)
          refine ji_iconst (pc := 40) dX1_canLay_40 ?_
          refine ji_iadd (pc := 41)  hF dX1_canLay_41 (fun x24 r_x24 hF => ?_)
          refine ji_iaload (pc := 42) r_x22 r_x24 hF dX1_canLay_42 (fun x25 r_x25 hF => ?_)
          refine ji_if_le 50 (pc := 43) r_x25 hF dX1_canLay_43 rfl (fun hF => ?_) (fun hF => ?_)
          · refine ji_iconst (pc := 50) dX1_canLay_50 ?_
            exact ji_retz (pc := 51) rfl (jRc5 rfl) hF dX1_canLay_51
          · refine ji_iconst (pc := 46) dX1_canLay_46 ?_
            refine jg_goto (pc := 47) 51 dX1_canLay_47 rfl ?_
            exact ji_retz (pc := 51) rfl (jRc5 rfl) hF dX1_canLay_51
  · refine ji_iconst (pc := 8) dX1_canLay_8 ?_
    exact ji_retz (pc := 9) rfl (jRc5 rfl) hF dX1_canLay_9
def bX1_lay_36 (k17 : Int → Int → Int → Int → Int → jMem → jO) (l0 l1 l2 l3 l4 t0 : Int) (s0 : jMem) : jO :=
jGd (jcl l0 = 0) <| jBd (fX1_lose l0 t0 s0) fun x4 s5 =>
jLet (jrf l0 1) fun x7 =>
jGd ((0 : Int) ≤ t0 ∧ t0 < jik x7) <| jLet (s5 x7 t0) fun x9 =>
jLet (j32 (x9 + 1)) fun x10 =>
jGd ((0 : Int) ≤ t0 ∧ t0 < jik x7) <| jLet (jU s5 x7 t0 x10) fun s11 =>
jLet (j32 (l4 + 1)) fun x12 =>
k17 l0 l1 l2 l3 x12 s11
def bX1_lay_17 (k61 : Int → Int → Int → jMem → jO) (rec : Int → Int → Int → Int → Int → jMem → jO) (l0 l1 l2 l3 l4 : Int) (s0 : jMem) : jO :=
if l3 ≤ l4 then (
k61 l0 l1 l2 s0)
else (
if l1 = 1 then (
jLet (j32 (l2 + l4)) fun x7 =>
bX1_lay_36 rec l0 l1 l2 l3 l4 x7 s0)
else (
bX1_lay_36 rec l0 l1 l2 l3 l4 l2 s0))
def bX1_lay_61 (l0 l1 l2 : Int) (s0 : jMem) : jO :=
jGd (jcl l0 = 0) <| jLet (jrf l0 2) fun x3 =>
jLet (s0 l0 4) fun x5 =>
jBd (fX0_code l1 l2 s0) fun x8 s9 =>
jGd ((0 : Int) ≤ x5 ∧ x5 < jik x3) <| jLet (jU s9 x3 x5 x8) fun s10 =>
jLet (s10 l0 4) fun x12 =>
jLet (j32 (x12 + 1)) fun x13 =>
jLet (jU s10 l0 4 x13) fun s14 =>
jRet 0 s14
def bX1_lay_13 (l0 l1 l2 t0 : Int) (s0 : jMem) : jO :=
jIt (fun _ _ _ _ _ _ => none) (bX1_lay_17 bX1_lay_61) 1000 l0 l1 l2 t0 0 s0
def fX1_lay (l0 l1 l2 : Int) (s0 : jMem) : jO :=
if l1 = 1 then (
bX1_lay_13 l0 l1 l2 3 s0)
else (
jBd (fX0_tilesAlike l1 s0) fun x3 s4 =>
bX1_lay_13 l0 l1 l2 x3 s4)
def gX1_lay (vs : List Int) (s : jMem) : jO := match vs with
  | [a0, a1, a2] => fX1_lay a0 a1 a2 s
  | _ => none
set_option maxRecDepth 100000 in
set_option maxHeartbeats 4000000 in
theorem obX1_lay_36 {E : jEnv} {Rr : Int → jMem → Prop} {k17 : Int → Int → Int → Int → Int → jMem → jO} (hk17 : ∀ (l0 l1 l2 l3 l4 : Int) (s : jMem), jHo Rr (k17 l0 l1 l2 l3 l4 s) → jGo E MX1_lay 1 Rr [3, 1, 1, 1, 1, 0] 17 [l0, l1, l2, l3, l4, 0] ([]) s) : ∀ (l0 l1 l2 l3 l4 t0 : Int) (s : jMem), jR 1 t0 → jHo Rr (bX1_lay_36 k17 l0 l1 l2 l3 l4 t0 s) → jGo E MX1_lay 1 Rr [3, 1, 1, 1, 1, 0] 36 [l0, l1, l2, l3, l4, 0] (jV E 1 t0 :: []) s := by
  intro l0 l1 l2 l3 l4 t0 s0 r_t0 hF
  unfold bX1_lay_36 at hF
  refine ji_istore (n := 5) (pc := 36) [3, 1, 1, 1, 1, 1] [l0, l1, l2, l3, l4, t0] r_t0 (Nat.le_of_ble_eq_true rfl) rfl rfl dX1_lay_36 ?_
  refine ji_aload_n (n := 0) (pc := 38) l0 rfl rfl rfl dX1_lay_38 (fun r1 => ?_)
  refine ji_iload (pc := 39) t0 rfl rfl dX1_lay_39 (fun r2 => ?_)
  obtain ⟨h3, hF⟩ := jHo_as hF
  refine ji_callVv (pc := 41) l0 [t0] ([]) oX1_lose wlX1_38 wmX1_lose rfl rfl (Nat.le_of_ble_eq_true rfl) (jRaC r1 (jRaC r2 jRa0)) rfl h3 rfl (Nat.le_of_ble_eq_true rfl) hF dX1_lay_41 (fun x4 s5 hF => ?_)
  refine ji_aload_n (n := 0) (pc := 44) l0 rfl rfl rfl dX1_lay_44 (fun r6 => ?_)
  refine ji_getrL (pc := 45) wfX1_15 r6 h3 hF dX1_lay_45 (fun x7 r_x7 hF => ?_)
  refine ji_iload (pc := 48) t0 rfl rfl dX1_lay_48 (fun r8 => ?_)
  refine jg_dup2 (pc := 50) (by decide) (by decide) dX1_lay_50 ?_
  refine ji_iaload (pc := 51) r_x7 r8 hF dX1_lay_51 (fun x9 r_x9 hF => ?_)
  refine ji_iconst (pc := 52) dX1_lay_52 ?_
  refine ji_iadd (pc := 53)  hF dX1_lay_53 (fun x10 r_x10 hF => ?_)
  refine ji_iastore (pc := 54) r_x7 r8 r_x10 hF dX1_lay_54 (fun s11 hF => ?_)
  refine ji_iinc (pc := 55) l4 (fun w => [l0, l1, l2, l3, w, t0]) rfl rfl rfl (fun _ => rfl) hF dX1_lay_55 (fun x12 r_x12 hF => ?_)
  refine jg_goto (pc := 58) 17 dX1_lay_58 rfl ?_
  refine jg_norm [3, 1, 1, 1, 1, 0] [l0, l1, l2, l3, x12, 0] rfl rfl ?_
  exact hk17 _ _ _ _ _ _ hF
set_option maxRecDepth 100000 in
set_option maxHeartbeats 4000000 in
theorem obX1_lay_17 {E : jEnv} {Rr : Int → jMem → Prop} {k61 : Int → Int → Int → jMem → jO} (hk61 : ∀ (l0 l1 l2 : Int) (s : jMem), jHo Rr (k61 l0 l1 l2 s) → jGo E MX1_lay 1 Rr [3, 1, 1, 0, 0, 0] 61 [l0, l1, l2, 0, 0, 0] ([]) s) {rec : Int → Int → Int → Int → Int → jMem → jO} (hrec : ∀ (l0 l1 l2 l3 l4 : Int) (s : jMem), jHo Rr (rec l0 l1 l2 l3 l4 s) → jGo E MX1_lay 1 Rr [3, 1, 1, 1, 1, 0] 17 [l0, l1, l2, l3, l4, 0] ([]) s) : ∀ (l0 l1 l2 l3 l4 : Int) (s : jMem), jHo Rr (bX1_lay_17 k61 rec l0 l1 l2 l3 l4 s) → jGo E MX1_lay 1 Rr [3, 1, 1, 1, 1, 0] 17 [l0, l1, l2, l3, l4, 0] ([]) s := by
  intro l0 l1 l2 l3 l4 s0 hF
  unfold bX1_lay_17 at hF
  refine ji_iload (pc := 17) l4 rfl rfl dX1_lay_17 (fun r1 => ?_)
  refine ji_iload_n (n := 3) (pc := 19) l3 rfl rfl rfl dX1_lay_19 (fun r2 => ?_)
  refine ji_icmp_ge 61 (pc := 20) r1 r2 hF dX1_lay_20 rfl (fun hF => ?_) (fun hF => ?_)
  · refine jg_norm [3, 1, 1, 0, 0, 0] [l0, l1, l2, 0, 0, 0] rfl rfl ?_
    exact hk61 _ _ _ _ hF
  · refine ji_iload_n (n := 1) (pc := 23) l1 rfl rfl rfl dX1_lay_23 (fun r3 => ?_)
    refine ji_iconst (pc := 24) dX1_lay_24 ?_
    refine ji_icmp_ne 35 (pc := 25) r3 (jRc rfl) hF dX1_lay_25 rfl (fun hF => ?_) (fun hF => ?_)
    · refine ji_iload_n (n := 2) (pc := 35) l2 rfl rfl rfl dX1_lay_35 (fun r4 => ?_)
      refine jg_norm [3, 1, 1, 1, 1, 0] [l0, l1, l2, l3, l4, 0] rfl rfl ?_
      exact obX1_lay_36 hrec _ _ _ _ _ _ _ r4 hF
    · refine ji_iload_n (n := 2) (pc := 28) l2 rfl rfl rfl dX1_lay_28 (fun r5 => ?_)
      refine ji_iload (pc := 29) l4 rfl rfl dX1_lay_29 (fun r6 => ?_)
      refine ji_iadd (pc := 31)  hF dX1_lay_31 (fun x7 r_x7 hF => ?_)
      refine jg_goto (pc := 32) 36 dX1_lay_32 rfl ?_
      refine jg_norm [3, 1, 1, 1, 1, 0] [l0, l1, l2, l3, l4, 0] rfl rfl ?_
      exact obX1_lay_36 hrec _ _ _ _ _ _ _ r_x7 hF
theorem obX1_lay_17W {E : jEnv} {Rr : Int → jMem → Prop} {k61 : Int → Int → Int → jMem → jO} (hk61 : ∀ (l0 l1 l2 : Int) (s : jMem), jHo Rr (k61 l0 l1 l2 s) → jGo E MX1_lay 1 Rr [3, 1, 1, 0, 0, 0] 61 [l0, l1, l2, 0, 0, 0] ([]) s) : ∀ n : Nat, ∀ (l0 l1 l2 l3 l4 : Int) (s : jMem), jHo Rr (jIt (fun _ _ _ _ _ _ => none) (bX1_lay_17 k61) n l0 l1 l2 l3 l4 s) → jGo E MX1_lay 1 Rr [3, 1, 1, 1, 1, 0] 17 [l0, l1, l2, l3, l4, 0] ([]) s := by
  intro n
  induction n with
  | zero => intro l0 l1 l2 l3 l4 s hF; exact jHo_none hF
  | succ n ih => exact obX1_lay_17 hk61 ih

set_option maxRecDepth 100000 in
set_option maxHeartbeats 4000000 in
theorem obX1_lay_61 {E : jEnv} {Rr : Int → jMem → Prop} : ∀ (l0 l1 l2 : Int) (s : jMem), jHo Rr (bX1_lay_61 l0 l1 l2 s) → jGo E MX1_lay 1 Rr [3, 1, 1, 0, 0, 0] 61 [l0, l1, l2, 0, 0, 0] ([]) s := by
  intro l0 l1 l2 s0 hF
  unfold bX1_lay_61 at hF
  refine ji_aload_n (n := 0) (pc := 61) l0 rfl rfl rfl dX1_lay_61 (fun r1 => ?_)
  obtain ⟨h2, hF⟩ := jHo_as hF
  refine ji_getrL (pc := 62) wfX1_18 r1 h2 hF dX1_lay_62 (fun x3 r_x3 hF => ?_)
  refine ji_aload_n (n := 0) (pc := 65) l0 rfl rfl rfl dX1_lay_65 (fun r4 => ?_)
  refine ji_getfi (pc := 66) wfX1_25 r4 h2 hF dX1_lay_66 (fun x5 r_x5 hF => ?_)
  refine ji_iload_n (n := 1) (pc := 69) l1 rfl rfl rfl dX1_lay_69 (fun r6 => ?_)
  refine ji_iload_n (n := 2) (pc := 70) l2 rfl rfl rfl dX1_lay_70 (fun r7 => ?_)
  refine ji_callSi (pc := 71) [l1, l2] (jV E 1 x5 :: jV E 3 x3 :: []) oX0_code wlX1_42 wmX0_code rfl rfl (Nat.le_of_ble_eq_true rfl) (jRaC r6 (jRaC r7 jRa0)) rfl rfl (Nat.le_of_ble_eq_true rfl) hF dX1_lay_71 (fun x8 s9 r_x8 hF => ?_)
  refine ji_iastore (pc := 74) r_x3 r_x5 r_x8 hF dX1_lay_74 (fun s10 hF => ?_)
  refine ji_aload_n (n := 0) (pc := 75) l0 rfl rfl rfl dX1_lay_75 (fun r11 => ?_)
  refine jg_dup (pc := 76) (by decide) dX1_lay_76 ?_
  refine ji_getfi (pc := 77) wfX1_25 r11 h2 hF dX1_lay_77 (fun x12 r_x12 hF => ?_)
  refine ji_iconst (pc := 80) dX1_lay_80 ?_
  refine ji_iadd (pc := 81)  hF dX1_lay_81 (fun x13 r_x13 hF => ?_)
  refine ji_putfi (pc := 82) wpX1_25 r11 h2 r_x13 hF dX1_lay_82 (fun s14 hF => ?_)
  exact ji_retv (pc := 85) rfl hF dX1_lay_85
set_option maxRecDepth 100000 in
set_option maxHeartbeats 4000000 in
theorem obX1_lay_13 {E : jEnv} {Rr : Int → jMem → Prop} : ∀ (l0 l1 l2 t0 : Int) (s : jMem), jR 1 t0 → jHo Rr (bX1_lay_13 l0 l1 l2 t0 s) → jGo E MX1_lay 1 Rr [3, 1, 1, 0, 0, 0] 13 [l0, l1, l2, 0, 0, 0] (jV E 1 t0 :: []) s := by
  intro l0 l1 l2 t0 s0 r_t0 hF
  unfold bX1_lay_13 at hF
  refine ji_istore_n (n := 3) (pc := 13) [3, 1, 1, 1, 0, 0] [l0, l1, l2, t0, 0, 0] rfl r_t0 (Nat.le_of_ble_eq_true rfl) rfl rfl dX1_lay_13 ?_
  refine ji_iconst (pc := 14) dX1_lay_14 ?_
  refine ji_istore (n := 4) (pc := 15) [3, 1, 1, 1, 1, 0] [l0, l1, l2, t0, 0, 0] (jRc rfl) (Nat.le_of_ble_eq_true rfl) rfl rfl dX1_lay_15 ?_
  refine jg_norm [3, 1, 1, 1, 1, 0] [l0, l1, l2, t0, 0, 0] rfl rfl ?_
  exact obX1_lay_17W obX1_lay_61 1000 _ _ _ _ _ _ hF
set_option maxRecDepth 100000 in
set_option maxHeartbeats 4000000 in
theorem oX1_lay : jOk MX1_lay [3, 1, 1] 1 (jFn gX1_lay) := by
  refine jOk_fn (by decide +kernel) (Nat.le_of_ble_eq_true rfl) (by decide +kernel) (.inl rfl) ?_
  intro E vs s0 Rr hF ha
  obtain ⟨l0, t0, rfl, r_l0, ha⟩ := jRa_ci ha
  obtain ⟨l1, t1, rfl, r_l1, ha⟩ := jRa_ci ha
  obtain ⟨l2, t2, rfl, r_l2, ha⟩ := jRa_ci ha
  obtain rfl := jRa_ni ha
  replace hF : jHo Rr (fX1_lay l0 l1 l2 s0) := hF
  refine jg_norm [3, 1, 1, 0, 0, 0] [l0, l1, l2, 0, 0, 0] rfl rfl ?_
  unfold fX1_lay at hF
  refine ji_iload_n (n := 1) (pc := 0) l1 rfl rfl rfl dX1_lay_0 (fun r1 => ?_)
  refine ji_iconst (pc := 1) dX1_lay_1 ?_
  refine ji_icmp_ne 9 (pc := 2) r1 (jRc rfl) hF dX1_lay_2 rfl (fun hF => ?_) (fun hF => ?_)
  · refine ji_iload_n (n := 1) (pc := 9) l1 rfl rfl rfl dX1_lay_9 (fun r2 => ?_)
    refine ji_callSi (pc := 10) [l1] ([]) oX0_tilesAlike wlX1_34 wmX0_tilesAlike rfl rfl (Nat.le_of_ble_eq_true rfl) (jRaC r2 jRa0) rfl rfl (Nat.le_of_ble_eq_true rfl) hF dX1_lay_10 (fun x3 s4 r_x3 hF => ?_)
    refine jg_norm [3, 1, 1, 0, 0, 0] [l0, l1, l2, 0, 0, 0] rfl rfl ?_
    exact obX1_lay_13 _ _ _ _ _ r_x3 hF
  · refine ji_iconst (pc := 5) dX1_lay_5 ?_
    refine jg_goto (pc := 6) 13 dX1_lay_6 rfl ?_
    refine jg_norm [3, 1, 1, 0, 0, 0] [l0, l1, l2, 0, 0, 0] rfl rfl ?_
    exact obX1_lay_13 _ _ _ _ _ (jRc rfl) hF
def bX8_sum_10 (rec : Int → Int → Int → Int → jMem → jO) (l1 l2 l3 l4 : Int) (s0 : jMem) : jO :=
if l3 ≤ l4 then (
jRet l1 s0)
else (
jGd ((0 : Int) ≤ l4 ∧ l4 < jik l2) <| jLet (s0 l2 l4) fun x6 =>
jLet (j32 (l1 + x6)) fun x9 =>
jLet (j32 (l4 + 1)) fun x10 =>
rec x9 l2 l3 x10 s0)
def fX8_sum (l0 : Int) (s0 : jMem) : jO :=
jGd (0 ≤ jln l0) <| jLet (jln l0) fun x3 =>
jIt (fun _ _ _ _ _ => none) (bX8_sum_10) 1000 0 l0 x3 0 s0
def gX8_sum (vs : List Int) (s : jMem) : jO := match vs with
  | [a0] => fX8_sum a0 s
  | _ => none
set_option maxRecDepth 100000 in
set_option maxHeartbeats 4000000 in
theorem obX8_sum_10 {E : jEnv} {Rr : Int → jMem → Prop} {rec : Int → Int → Int → Int → jMem → jO} (hrec : ∀ (l1 l2 l3 l4 : Int) (s : jMem), jHo Rr (rec l1 l2 l3 l4 s) → jGo E MX8_sum 0 Rr [0, 1, 3, 1, 1, 0] 10 [0, l1, l2, l3, l4, 0] ([]) s) : ∀ (l1 l2 l3 l4 : Int) (s : jMem), jHo Rr (bX8_sum_10 rec l1 l2 l3 l4 s) → jGo E MX8_sum 0 Rr [0, 1, 3, 1, 1, 0] 10 [0, l1, l2, l3, l4, 0] ([]) s := by
  intro l1 l2 l3 l4 s0 hF
  unfold bX8_sum_10 at hF
  refine ji_iload (pc := 10) l4 rfl rfl dX8_sum_10 (fun r1 => ?_)
  refine ji_iload_n (n := 3) (pc := 12) l3 rfl rfl rfl dX8_sum_12 (fun r2 => ?_)
  refine ji_icmp_ge 33 (pc := 13) r1 r2 hF dX8_sum_13 rfl (fun hF => ?_) (fun hF => ?_)
  · refine ji_iload_n (n := 1) (pc := 33) l1 rfl rfl rfl dX8_sum_33 (fun r3 => ?_)
    exact ji_reti (pc := 34) rfl r3 hF dX8_sum_34
  · refine ji_aload_n (n := 2) (pc := 16) l2 rfl rfl rfl dX8_sum_16 (fun r4 => ?_)
    refine ji_iload (pc := 17) l4 rfl rfl dX8_sum_17 (fun r5 => ?_)
    refine ji_iaload (pc := 19) r4 r5 hF dX8_sum_19 (fun x6 r_x6 hF => ?_)
    refine ji_istore (n := 5) (pc := 20) [0, 1, 3, 1, 1, 1] [0, l1, l2, l3, l4, x6] r_x6 (Nat.le_of_ble_eq_true rfl) rfl rfl dX8_sum_20 ?_
    refine ji_iload_n (n := 1) (pc := 22) l1 rfl rfl rfl dX8_sum_22 (fun r7 => ?_)
    refine ji_iload (pc := 23) x6 rfl rfl dX8_sum_23 (fun r8 => ?_)
    refine ji_iadd (pc := 25)  hF dX8_sum_25 (fun x9 r_x9 hF => ?_)
    refine ji_istore_n (n := 1) (pc := 26) [0, 1, 3, 1, 1, 1] [0, x9, l2, l3, l4, x6] rfl r_x9 (Nat.le_of_ble_eq_true rfl) rfl rfl dX8_sum_26 ?_
    refine ji_iinc (pc := 27) l4 (fun w => [0, x9, l2, l3, w, x6]) rfl rfl rfl (fun _ => rfl) hF dX8_sum_27 (fun x10 r_x10 hF => ?_)
    refine jg_goto (pc := 30) 10 dX8_sum_30 rfl ?_
    refine jg_norm [0, 1, 3, 1, 1, 0] [0, x9, l2, l3, x10, 0] rfl rfl ?_
    exact hrec _ _ _ _ _ hF
theorem obX8_sum_10W {E : jEnv} {Rr : Int → jMem → Prop} : ∀ n : Nat, ∀ (l1 l2 l3 l4 : Int) (s : jMem), jHo Rr (jIt (fun _ _ _ _ _ => none) (bX8_sum_10) n l1 l2 l3 l4 s) → jGo E MX8_sum 0 Rr [0, 1, 3, 1, 1, 0] 10 [0, l1, l2, l3, l4, 0] ([]) s := by
  intro n
  induction n with
  | zero => intro l1 l2 l3 l4 s hF; exact jHo_none hF
  | succ n ih => exact obX8_sum_10 ih

set_option maxRecDepth 100000 in
set_option maxHeartbeats 4000000 in
theorem oX8_sum : jOk MX8_sum [3] 0 (jFn gX8_sum) := by
  refine jOk_fn (by decide +kernel) (Nat.le_of_ble_eq_true rfl) (by decide +kernel) (.inr (.inl rfl)) ?_
  intro E vs s0 Rr hF ha
  obtain ⟨l0, t0, rfl, r_l0, ha⟩ := jRa_ci ha
  obtain rfl := jRa_ni ha
  replace hF : jHo Rr (fX8_sum l0 s0) := hF
  refine jg_norm [3, 0, 0, 0, 0, 0] [l0, 0, 0, 0, 0, 0] rfl rfl ?_
  unfold fX8_sum at hF
  refine ji_iconst (pc := 0) dX8_sum_0 ?_
  refine ji_istore_n (n := 1) (pc := 1) [3, 1, 0, 0, 0, 0] [l0, 0, 0, 0, 0, 0] rfl (jRc rfl) (Nat.le_of_ble_eq_true rfl) rfl rfl dX8_sum_1 ?_
  refine ji_aload_n (n := 0) (pc := 2) l0 rfl rfl rfl dX8_sum_2 (fun r1 => ?_)
  refine ji_astore_n (n := 2) (pc := 3) [3, 1, 3, 0, 0, 0] [l0, 0, l0, 0, 0, 0] rfl r1 (Nat.le_of_ble_eq_true rfl) rfl rfl dX8_sum_3 ?_
  refine ji_aload_n (n := 2) (pc := 4) l0 rfl rfl rfl dX8_sum_4 (fun r2 => ?_)
  refine ji_alen (pc := 5) r2 hF dX8_sum_5 (fun x3 r_x3 hF => ?_)
  refine ji_istore_n (n := 3) (pc := 6) [3, 1, 3, 1, 0, 0] [l0, 0, l0, x3, 0, 0] rfl r_x3 (Nat.le_of_ble_eq_true rfl) rfl rfl dX8_sum_6 ?_
  refine ji_iconst (pc := 7) dX8_sum_7 ?_
  refine ji_istore (n := 4) (pc := 8) [3, 1, 3, 1, 1, 0] [l0, 0, l0, x3, 0, 0] (jRc rfl) (Nat.le_of_ble_eq_true rfl) rfl rfl dX8_sum_8 ?_
  refine jg_norm [0, 1, 3, 1, 1, 0] [0, 0, l0, x3, 0, 0] rfl rfl ?_
  exact obX8_sum_10W 1000 _ _ _ _ _ hF
def bJ7_fill_53178_5 (rec : Int → Int → Int → Int → jMem → jO) (l0 l1 l2 l3 : Int) (s0 : jMem) : jO :=
if l3 ≤ l2 then (
jRet 0 s0)
else (
jGd ((0 : Int) ≤ l2 ∧ l2 < jik l0) <| jLet (jU s0 l0 l2 l1) fun s6 =>
jLet (j32 (l2 + 1)) fun x7 =>
rec l0 l1 x7 l3 s6)
def fJ7_fill_53178 (l0 l1 : Int) (s0 : jMem) : jO :=
jGd (0 ≤ jln l0) <| jLet (jln l0) fun x2 =>
jIt (fun _ _ _ _ _ => none) (bJ7_fill_53178_5) 1000 l0 l1 0 x2 s0
def gJ7_fill_53178 (vs : List Int) (s : jMem) : jO := match vs with
  | [a0, a1] => fJ7_fill_53178 a0 a1 s
  | _ => none
set_option maxRecDepth 100000 in
set_option maxHeartbeats 4000000 in
theorem obJ7_fill_53178_5 {E : jEnv} {Rr : Int → jMem → Prop} {rec : Int → Int → Int → Int → jMem → jO} (hrec : ∀ (l0 l1 l2 l3 : Int) (s : jMem), jHo Rr (rec l0 l1 l2 l3 s) → jGo E MJ7_fill_53178 0 Rr [3, 1, 1, 1] 5 [l0, l1, l2, l3] ([]) s) : ∀ (l0 l1 l2 l3 : Int) (s : jMem), jHo Rr (bJ7_fill_53178_5 rec l0 l1 l2 l3 s) → jGo E MJ7_fill_53178 0 Rr [3, 1, 1, 1] 5 [l0, l1, l2, l3] ([]) s := by
  intro l0 l1 l2 l3 s0 hF
  unfold bJ7_fill_53178_5 at hF
  refine ji_iload_n (n := 2) (pc := 5) l2 rfl rfl rfl dJ7_fill_53178_5 (fun r1 => ?_)
  refine ji_iload_n (n := 3) (pc := 6) l3 rfl rfl rfl dJ7_fill_53178_6 (fun r2 => ?_)
  refine ji_icmp_ge 20 (pc := 7) r1 r2 hF dJ7_fill_53178_7 rfl (fun hF => ?_) (fun hF => ?_)
  · exact ji_retv (pc := 20) rfl hF dJ7_fill_53178_20
  · refine ji_aload_n (n := 0) (pc := 10) l0 rfl rfl rfl dJ7_fill_53178_10 (fun r3 => ?_)
    refine ji_iload_n (n := 2) (pc := 11) l2 rfl rfl rfl dJ7_fill_53178_11 (fun r4 => ?_)
    refine ji_iload_n (n := 1) (pc := 12) l1 rfl rfl rfl dJ7_fill_53178_12 (fun r5 => ?_)
    refine ji_iastore (pc := 13) r3 r4 r5 hF dJ7_fill_53178_13 (fun s6 hF => ?_)
    refine ji_iinc (pc := 14) l2 (fun w => [l0, l1, w, l3]) rfl rfl rfl (fun _ => rfl) hF dJ7_fill_53178_14 (fun x7 r_x7 hF => ?_)
    refine jg_goto (pc := 17) 5 dJ7_fill_53178_17 rfl ?_
    refine jg_norm [3, 1, 1, 1] [l0, l1, x7, l3] rfl rfl ?_
    exact hrec _ _ _ _ _ hF
theorem obJ7_fill_53178_5W {E : jEnv} {Rr : Int → jMem → Prop} : ∀ n : Nat, ∀ (l0 l1 l2 l3 : Int) (s : jMem), jHo Rr (jIt (fun _ _ _ _ _ => none) (bJ7_fill_53178_5) n l0 l1 l2 l3 s) → jGo E MJ7_fill_53178 0 Rr [3, 1, 1, 1] 5 [l0, l1, l2, l3] ([]) s := by
  intro n
  induction n with
  | zero => intro l0 l1 l2 l3 s hF; exact jHo_none hF
  | succ n ih => exact obJ7_fill_53178_5 ih

set_option maxRecDepth 100000 in
set_option maxHeartbeats 4000000 in
theorem oJ7_fill_53178 : jOk MJ7_fill_53178 [3, 1] 0 (jFn gJ7_fill_53178) := by
  refine jOk_fn (by decide +kernel) (Nat.le_of_ble_eq_true rfl) (by decide +kernel) (.inl rfl) ?_
  intro E vs s0 Rr hF ha
  obtain ⟨l0, t0, rfl, r_l0, ha⟩ := jRa_ci ha
  obtain ⟨l1, t1, rfl, r_l1, ha⟩ := jRa_ci ha
  obtain rfl := jRa_ni ha
  replace hF : jHo Rr (fJ7_fill_53178 l0 l1 s0) := hF
  refine jg_norm [3, 1, 0, 0] [l0, l1, 0, 0] rfl rfl ?_
  unfold fJ7_fill_53178 at hF
  refine ji_iconst (pc := 0) dJ7_fill_53178_0 ?_
  refine ji_istore_n (n := 2) (pc := 1) [3, 1, 1, 0] [l0, l1, 0, 0] rfl (jRc rfl) (Nat.le_of_ble_eq_true rfl) rfl rfl dJ7_fill_53178_1 ?_
  refine ji_aload_n (n := 0) (pc := 2) l0 rfl rfl rfl dJ7_fill_53178_2 (fun r1 => ?_)
  refine ji_alen (pc := 3) r1 hF dJ7_fill_53178_3 (fun x2 r_x2 hF => ?_)
  refine ji_istore_n (n := 3) (pc := 4) [3, 1, 1, 1] [l0, l1, 0, x2] rfl r_x2 (Nat.le_of_ble_eq_true rfl) rfl rfl dJ7_fill_53178_4 ?_
  refine jg_norm [3, 1, 1, 1] [l0, l1, 0, x2] rfl rfl ?_
  exact obJ7_fill_53178_5W 1000 _ _ _ _ _ hF
def bX1_giveBack_18 (k49 : Int → Int → jMem → jO) (rec : Int → Int → Int → Int → jMem → jO) (l0 l1 l2 l3 : Int) (s0 : jMem) : jO :=
if 34 ≤ l3 then (
k49 l0 l2 s0)
else (
jGd ((0 : Int) ≤ l3 ∧ l3 < jik l1) <| jLet (s0 l1 l3) fun x4 =>
jGd (jcl l0 = 0) <| jLet (jrf l0 0) fun x7 =>
jGd ((0 : Int) ≤ l3 ∧ l3 < jik x7) <| jLet (s0 x7 l3) fun x9 =>
jLet (jrf l0 1) fun x11 =>
jGd ((0 : Int) ≤ l3 ∧ l3 < jik x11) <| jLet (s0 x11 l3) fun x13 =>
jLet (j32 (x9 + x13)) fun x14 =>
jLet (j32 (x4 + x14)) fun x15 =>
jGd ((0 : Int) ≤ l3 ∧ l3 < jik l1) <| jLet (jU s0 l1 l3 x15) fun s16 =>
jLet (j32 (l3 + 1)) fun x17 =>
rec l0 l1 l2 x17 s16)
def bX1_giveBack_49 (l0 l2 : Int) (s0 : jMem) : jO :=
jGd (jcl l0 = 0) <| jLet (jrf l0 0) fun x3 =>
jBd (fJ7_fill_53178 x3 0 s0) fun x4 s5 =>
jLet (jrf l0 1) fun x7 =>
jBd (fJ7_fill_53178 x7 0 s5) fun x8 s9 =>
jLet (jU s9 l0 3 0) fun s11 =>
jLet (jU s11 l0 4 0) fun s13 =>
jRet l2 s13
def fX1_giveBack (l0 l1 : Int) (s0 : jMem) : jO :=
jGd (jcl l0 = 0) <| jLet (jrf l0 0) fun x3 =>
jBd (fX8_sum x3 s0) fun x4 s5 =>
jLet (jrf l0 1) fun x7 =>
jBd (fX8_sum x7 s5) fun x8 s9 =>
jLet (j32 (x4 + x8)) fun x10 =>
jIt (fun _ _ _ _ _ => none) (bX1_giveBack_18 bX1_giveBack_49) 1000 l0 l1 x10 0 s9
def gX1_giveBack (vs : List Int) (s : jMem) : jO := match vs with
  | [a0, a1] => fX1_giveBack a0 a1 s
  | _ => none
set_option maxRecDepth 100000 in
set_option maxHeartbeats 4000000 in
theorem obX1_giveBack_18 {E : jEnv} {Rr : Int → jMem → Prop} {k49 : Int → Int → jMem → jO} (hk49 : ∀ (l0 l2 : Int) (s : jMem), jHo Rr (k49 l0 l2 s) → jGo E MX1_giveBack 1 Rr [3, 0, 1, 0] 49 [l0, 0, l2, 0] ([]) s) {rec : Int → Int → Int → Int → jMem → jO} (hrec : ∀ (l0 l1 l2 l3 : Int) (s : jMem), jHo Rr (rec l0 l1 l2 l3 s) → jGo E MX1_giveBack 1 Rr [3, 3, 1, 1] 18 [l0, l1, l2, l3] ([]) s) : ∀ (l0 l1 l2 l3 : Int) (s : jMem), jHo Rr (bX1_giveBack_18 k49 rec l0 l1 l2 l3 s) → jGo E MX1_giveBack 1 Rr [3, 3, 1, 1] 18 [l0, l1, l2, l3] ([]) s := by
  intro l0 l1 l2 l3 s0 hF
  unfold bX1_giveBack_18 at hF
  refine ji_iload_n (n := 3) (pc := 18) l3 rfl rfl rfl dX1_giveBack_18 (fun r1 => ?_)
  refine jg_bipush (pc := 19) rfl dX1_giveBack_19 ?_
  refine ji_icmp_ge 49 (pc := 21) r1 (jRc rfl) hF dX1_giveBack_21 rfl (fun hF => ?_) (fun hF => ?_)
  · refine jg_norm [3, 0, 1, 0] [l0, 0, l2, 0] rfl rfl ?_
    exact hk49 _ _ _ hF
  · refine ji_aload_n (n := 1) (pc := 24) l1 rfl rfl rfl dX1_giveBack_24 (fun r2 => ?_)
    refine ji_iload_n (n := 3) (pc := 25) l3 rfl rfl rfl dX1_giveBack_25 (fun r3 => ?_)
    refine jg_dup2 (pc := 26) (by decide) (by decide) dX1_giveBack_26 ?_
    refine ji_iaload (pc := 27) r2 r3 hF dX1_giveBack_27 (fun x4 r_x4 hF => ?_)
    refine ji_aload_n (n := 0) (pc := 28) l0 rfl rfl rfl dX1_giveBack_28 (fun r5 => ?_)
    obtain ⟨h6, hF⟩ := jHo_as hF
    refine ji_getrL (pc := 29) wfX1_9 r5 h6 hF dX1_giveBack_29 (fun x7 r_x7 hF => ?_)
    refine ji_iload_n (n := 3) (pc := 32) l3 rfl rfl rfl dX1_giveBack_32 (fun r8 => ?_)
    refine ji_iaload (pc := 33) r_x7 r8 hF dX1_giveBack_33 (fun x9 r_x9 hF => ?_)
    refine ji_aload_n (n := 0) (pc := 34) l0 rfl rfl rfl dX1_giveBack_34 (fun r10 => ?_)
    refine ji_getrL (pc := 35) wfX1_15 r10 h6 hF dX1_giveBack_35 (fun x11 r_x11 hF => ?_)
    refine ji_iload_n (n := 3) (pc := 38) l3 rfl rfl rfl dX1_giveBack_38 (fun r12 => ?_)
    refine ji_iaload (pc := 39) r_x11 r12 hF dX1_giveBack_39 (fun x13 r_x13 hF => ?_)
    refine ji_iadd (pc := 40)  hF dX1_giveBack_40 (fun x14 r_x14 hF => ?_)
    refine ji_iadd (pc := 41)  hF dX1_giveBack_41 (fun x15 r_x15 hF => ?_)
    refine ji_iastore (pc := 42) r2 r3 r_x15 hF dX1_giveBack_42 (fun s16 hF => ?_)
    refine ji_iinc (pc := 43) l3 (fun w => [l0, l1, l2, w]) rfl rfl rfl (fun _ => rfl) hF dX1_giveBack_43 (fun x17 r_x17 hF => ?_)
    refine jg_goto (pc := 46) 18 dX1_giveBack_46 rfl ?_
    refine jg_norm [3, 3, 1, 1] [l0, l1, l2, x17] rfl rfl ?_
    exact hrec _ _ _ _ _ hF
theorem obX1_giveBack_18W {E : jEnv} {Rr : Int → jMem → Prop} {k49 : Int → Int → jMem → jO} (hk49 : ∀ (l0 l2 : Int) (s : jMem), jHo Rr (k49 l0 l2 s) → jGo E MX1_giveBack 1 Rr [3, 0, 1, 0] 49 [l0, 0, l2, 0] ([]) s) : ∀ n : Nat, ∀ (l0 l1 l2 l3 : Int) (s : jMem), jHo Rr (jIt (fun _ _ _ _ _ => none) (bX1_giveBack_18 k49) n l0 l1 l2 l3 s) → jGo E MX1_giveBack 1 Rr [3, 3, 1, 1] 18 [l0, l1, l2, l3] ([]) s := by
  intro n
  induction n with
  | zero => intro l0 l1 l2 l3 s hF; exact jHo_none hF
  | succ n ih => exact obX1_giveBack_18 hk49 ih

set_option maxRecDepth 100000 in
set_option maxHeartbeats 4000000 in
theorem obX1_giveBack_49 {E : jEnv} {Rr : Int → jMem → Prop} : ∀ (l0 l2 : Int) (s : jMem), jHo Rr (bX1_giveBack_49 l0 l2 s) → jGo E MX1_giveBack 1 Rr [3, 0, 1, 0] 49 [l0, 0, l2, 0] ([]) s := by
  intro l0 l2 s0 hF
  unfold bX1_giveBack_49 at hF
  refine ji_aload_n (n := 0) (pc := 49) l0 rfl rfl rfl dX1_giveBack_49 (fun r1 => ?_)
  obtain ⟨h2, hF⟩ := jHo_as hF
  refine ji_getrL (pc := 50) wfX1_9 r1 h2 hF dX1_giveBack_50 (fun x3 r_x3 hF => ?_)
  refine ji_iconst (pc := 53) dX1_giveBack_53 ?_
  refine ji_callSv (pc := 54) [x3, 0] ([]) oJ7_fill_53178 wlX1_50 wmJ7_fill_53178 rfl rfl (Nat.le_of_ble_eq_true rfl) (jRaC r_x3 (jRaC (jRc rfl) jRa0)) rfl rfl (Nat.le_of_ble_eq_true rfl) hF dX1_giveBack_54 (fun x4 s5 hF => ?_)
  refine ji_aload_n (n := 0) (pc := 57) l0 rfl rfl rfl dX1_giveBack_57 (fun r6 => ?_)
  refine ji_getrL (pc := 58) wfX1_15 r6 h2 hF dX1_giveBack_58 (fun x7 r_x7 hF => ?_)
  refine ji_iconst (pc := 61) dX1_giveBack_61 ?_
  refine ji_callSv (pc := 62) [x7, 0] ([]) oJ7_fill_53178 wlX1_50 wmJ7_fill_53178 rfl rfl (Nat.le_of_ble_eq_true rfl) (jRaC r_x7 (jRaC (jRc rfl) jRa0)) rfl rfl (Nat.le_of_ble_eq_true rfl) hF dX1_giveBack_62 (fun x8 s9 hF => ?_)
  refine ji_aload_n (n := 0) (pc := 65) l0 rfl rfl rfl dX1_giveBack_65 (fun r10 => ?_)
  refine ji_iconst (pc := 66) dX1_giveBack_66 ?_
  refine ji_putfi (pc := 67) wpX1_21 r10 h2 (jRc rfl) hF dX1_giveBack_67 (fun s11 hF => ?_)
  refine ji_aload_n (n := 0) (pc := 70) l0 rfl rfl rfl dX1_giveBack_70 (fun r12 => ?_)
  refine ji_iconst (pc := 71) dX1_giveBack_71 ?_
  refine ji_putfi (pc := 72) wpX1_25 r12 h2 (jRc rfl) hF dX1_giveBack_72 (fun s13 hF => ?_)
  refine ji_iload_n (n := 2) (pc := 75) l2 rfl rfl rfl dX1_giveBack_75 (fun r14 => ?_)
  exact ji_reti (pc := 76) rfl r14 hF dX1_giveBack_76
set_option maxRecDepth 100000 in
set_option maxHeartbeats 4000000 in
theorem oX1_giveBack : jOk MX1_giveBack [3, 3] 1 (jFn gX1_giveBack) := by
  refine jOk_fn (by decide +kernel) (Nat.le_of_ble_eq_true rfl) (by decide +kernel) (.inr (.inl rfl)) ?_
  intro E vs s0 Rr hF ha
  obtain ⟨l0, t0, rfl, r_l0, ha⟩ := jRa_ci ha
  obtain ⟨l1, t1, rfl, r_l1, ha⟩ := jRa_ci ha
  obtain rfl := jRa_ni ha
  replace hF : jHo Rr (fX1_giveBack l0 l1 s0) := hF
  refine jg_norm [3, 3, 0, 0] [l0, l1, 0, 0] rfl rfl ?_
  unfold fX1_giveBack at hF
  refine ji_aload_n (n := 0) (pc := 0) l0 rfl rfl rfl dX1_giveBack_0 (fun r1 => ?_)
  obtain ⟨h2, hF⟩ := jHo_as hF
  refine ji_getrL (pc := 1) wfX1_9 r1 h2 hF dX1_giveBack_1 (fun x3 r_x3 hF => ?_)
  refine ji_callSi (pc := 4) [x3] ([]) oX8_sum wlX1_46 wmX8_sum rfl rfl (Nat.le_of_ble_eq_true rfl) (jRaC r_x3 jRa0) rfl rfl (Nat.le_of_ble_eq_true rfl) hF dX1_giveBack_4 (fun x4 s5 r_x4 hF => ?_)
  refine ji_aload_n (n := 0) (pc := 7) l0 rfl rfl rfl dX1_giveBack_7 (fun r6 => ?_)
  refine ji_getrL (pc := 8) wfX1_15 r6 h2 hF dX1_giveBack_8 (fun x7 r_x7 hF => ?_)
  refine ji_callSi (pc := 11) [x7] (jV E 1 x4 :: []) oX8_sum wlX1_46 wmX8_sum rfl rfl (Nat.le_of_ble_eq_true rfl) (jRaC r_x7 jRa0) rfl rfl (Nat.le_of_ble_eq_true rfl) hF dX1_giveBack_11 (fun x8 s9 r_x8 hF => ?_)
  refine ji_iadd (pc := 14)  hF dX1_giveBack_14 (fun x10 r_x10 hF => ?_)
  refine ji_istore_n (n := 2) (pc := 15) [3, 3, 1, 0] [l0, l1, x10, 0] rfl r_x10 (Nat.le_of_ble_eq_true rfl) rfl rfl dX1_giveBack_15 ?_
  refine ji_iconst (pc := 16) dX1_giveBack_16 ?_
  refine ji_istore_n (n := 3) (pc := 17) [3, 3, 1, 1] [l0, l1, x10, 0] rfl (jRc rfl) (Nat.le_of_ble_eq_true rfl) rfl rfl dX1_giveBack_17 ?_
  refine jg_norm [3, 3, 1, 1] [l0, l1, x10, 0] rfl rfl ?_
  exact obX1_giveBack_18W obX1_giveBack_49 1000 _ _ _ _ _ hF
def fX9_keepPath (s0 : jMem) : jO :=
jLet (s0 17 4) fun x2 =>
if 8 ≤ x2 then (
jRet 0 s0)
else (
jLet (s0 17 4) fun x6 =>
jLet (j32 (5 * x6)) fun x7 =>
jGd ((0 : Int) ≤ 0 ∧ (0 : Int) ≤ x7 ∧ (0 : Int) ≤ 5 ∧ 0 + 5 ≤ jik 19 ∧ x7 + 5 ≤ jik 20 ∧ 0 < jik 19 ∧ 0 < jik 20) <| jLet (jCp s0 19 0 20 x7 5) fun s8 =>
jLet (s8 17 4) fun x10 =>
jLet (j32 (x10 + 1)) fun x11 =>
jLet (jU s8 17 4 x11) fun s12 =>
jRet 0 s12)
def gX9_keepPath (vs : List Int) (s : jMem) : jO := match vs with
  | [a0] => jGd (a0 = 17) <| fX9_keepPath s
  | _ => none
set_option maxRecDepth 100000 in
set_option maxHeartbeats 4000000 in
theorem oX9_keepPath : jOk MX9_keepPath [3] 1 (jFn gX9_keepPath) := by
  refine jOk_fn (by decide +kernel) (Nat.le_of_ble_eq_true rfl) (by decide +kernel) (.inl rfl) ?_
  intro E vs s0 Rr hF ha
  obtain ⟨l0, t0, rfl, r_l0, ha⟩ := jRa_ci ha
  obtain rfl := jRa_ni ha
  replace hF : jHo Rr (jGd (l0 = 17) <| fX9_keepPath s0) := hF
  have hG := jHo_as hF
  clear hF
  obtain ⟨rfl, hF⟩ := hG
  refine jg_norm [3] [17] rfl rfl ?_
  unfold fX9_keepPath at hF
  refine ji_aload_n (n := 0) (pc := 0) 17 rfl rfl rfl dX9_keepPath_0 (fun r1 => ?_)
  refine ji_getfi (pc := 1) wfX9_25 (jRc3 rfl) jcl_17 hF dX9_keepPath_1 (fun x2 r_x2 hF => ?_)
  refine jg_bipush (pc := 4) rfl dX9_keepPath_4 ?_
  refine ji_icmp_ge 38 (pc := 6) r_x2 (jRc rfl) hF dX9_keepPath_6 rfl (fun hF => ?_) (fun hF => ?_)
  · exact ji_retv (pc := 38) rfl hF dX9_keepPath_38
  · refine ji_aload_n (n := 0) (pc := 9) 17 rfl rfl rfl dX9_keepPath_9 (fun r3 => ?_)
    refine ji_getr (pc := 10) 19 wfX9_15 (jRc3 rfl) jcl_17 jrf_17_1 dX9_keepPath_10 ?_
    refine ji_iconst (pc := 13) dX9_keepPath_13 ?_
    refine ji_aload_n (n := 0) (pc := 14) 17 rfl rfl rfl dX9_keepPath_14 (fun r4 => ?_)
    refine ji_getr (pc := 15) 20 wfX9_18 (jRc3 rfl) jcl_17 jrf_17_2 dX9_keepPath_15 ?_
    refine ji_iconst (pc := 18) dX9_keepPath_18 ?_
    refine ji_aload_n (n := 0) (pc := 19) 17 rfl rfl rfl dX9_keepPath_19 (fun r5 => ?_)
    refine ji_getfi (pc := 20) wfX9_25 (jRc3 rfl) jcl_17 hF dX9_keepPath_20 (fun x6 r_x6 hF => ?_)
    refine ji_imul (pc := 23)  hF dX9_keepPath_23 (fun x7 r_x7 hF => ?_)
    refine ji_iconst (pc := 24) dX9_keepPath_24 ?_
    refine ji_copyi (pc := 25) (jRc3 rfl) (jRc3 rfl) (jRc rfl) r_x7 (jRc rfl) (Nat.le_of_ble_eq_true rfl) (Nat.le_of_ble_eq_true rfl) ⟨wlX9_36, wq_copy⟩ hF dX9_keepPath_25 (fun s8 hF => ?_)
    refine ji_aload_n (n := 0) (pc := 28) 17 rfl rfl rfl dX9_keepPath_28 (fun r9 => ?_)
    refine jg_dup (pc := 29) (by decide) dX9_keepPath_29 ?_
    refine ji_getfi (pc := 30) wfX9_25 (jRc3 rfl) jcl_17 hF dX9_keepPath_30 (fun x10 r_x10 hF => ?_)
    refine ji_iconst (pc := 33) dX9_keepPath_33 ?_
    refine ji_iadd (pc := 34)  hF dX9_keepPath_34 (fun x11 r_x11 hF => ?_)
    refine ji_putfi (pc := 35) wpX9_25 (jRc3 rfl) jcl_17 r_x11 hF dX9_keepPath_35 (fun s12 hF => ?_)
    exact ji_retv (pc := 38) rfl hF dX9_keepPath_38
def fX8_startsRun (l0 : Int) (s0 : jMem) : jO :=
if 27 ≤ l0 then (
jRet 0 s0)
else (
jGd (¬ (9 : Int) = 0) <| jLet (jrem l0 9) fun x3 =>
if 6 < x3 then (
jRet 0 s0)
else (
jRet 1 s0))
def gX8_startsRun (vs : List Int) (s : jMem) : jO := match vs with
  | [a0] => fX8_startsRun a0 s
  | _ => none
set_option maxRecDepth 100000 in
set_option maxHeartbeats 4000000 in
theorem oX8_startsRun : jOk MX8_startsRun [1] 0 (jFn gX8_startsRun) := by
  refine jOk_fn (by decide +kernel) (Nat.le_of_ble_eq_true rfl) (by decide +kernel) (.inr (.inr (.inr rfl))) ?_
  intro E vs s0 Rr hF ha
  obtain ⟨l0, t0, rfl, r_l0, ha⟩ := jRa_ci ha
  obtain rfl := jRa_ni ha
  replace hF : jHo Rr (fX8_startsRun l0 s0) := hF
  refine jg_norm [1] [l0] rfl rfl ?_
  unfold fX8_startsRun at hF
  refine ji_iload_n (n := 0) (pc := 0) l0 rfl rfl rfl dX8_startsRun_0 (fun r1 => ?_)
  refine jg_bipush (pc := 1) rfl dX8_startsRun_1 ?_
  refine ji_icmp_ge 19 (pc := 3) r1 (jRc rfl) hF dX8_startsRun_3 rfl (fun hF => ?_) (fun hF => ?_)
  · refine ji_iconst (pc := 19) dX8_startsRun_19 ?_
    exact ji_retz (pc := 20) rfl (jRc5 rfl) hF dX8_startsRun_20
  · refine ji_iload_n (n := 0) (pc := 6) l0 rfl rfl rfl dX8_startsRun_6 (fun r2 => ?_)
    refine jg_bipush (pc := 7) rfl dX8_startsRun_7 ?_
    refine ji_irem (pc := 9) (jRc rfl) hF dX8_startsRun_9 (fun x3 r_x3 hF => ?_)
    refine jg_bipush (pc := 10) rfl dX8_startsRun_10 ?_
    refine ji_icmp_gt 19 (pc := 12) r_x3 (jRc rfl) hF dX8_startsRun_12 rfl (fun hF => ?_) (fun hF => ?_)
    · refine ji_iconst (pc := 19) dX8_startsRun_19 ?_
      exact ji_retz (pc := 20) rfl (jRc5 rfl) hF dX8_startsRun_20
    · refine ji_iconst (pc := 15) dX8_startsRun_15 ?_
      refine jg_goto (pc := 16) 20 dX8_startsRun_16 rfl ?_
      exact ji_retz (pc := 20) rfl (jRc5 rfl) hF dX8_startsRun_20
def fX9_shiftRun (l1 l2 : Int) (s0 : jMem) : jO :=
jGd ((0 : Int) ≤ l1 ∧ l1 < jik 18) <| jLet (s0 18 l1) fun x3 =>
jLet (j32 (x3 + l2)) fun x5 =>
jGd ((0 : Int) ≤ l1 ∧ l1 < jik 18) <| jLet (jU s0 18 l1 x5) fun s6 =>
jLet (j32 (l1 + 1)) fun x9 =>
jGd ((0 : Int) ≤ x9 ∧ x9 < jik 18) <| jLet (s6 18 x9) fun x10 =>
jLet (j32 (x10 + l2)) fun x12 =>
jGd ((0 : Int) ≤ x9 ∧ x9 < jik 18) <| jLet (jU s6 18 x9 x12) fun s13 =>
jLet (j32 (l1 + 2)) fun x16 =>
jGd ((0 : Int) ≤ x16 ∧ x16 < jik 18) <| jLet (s13 18 x16) fun x17 =>
jLet (j32 (x17 + l2)) fun x19 =>
jGd ((0 : Int) ≤ x16 ∧ x16 < jik 18) <| jLet (jU s13 18 x16 x19) fun s20 =>
jRet 0 s20
def gX9_shiftRun (vs : List Int) (s : jMem) : jO := match vs with
  | [a0, a1, a2] => jGd (a0 = 17) <| fX9_shiftRun a1 a2 s
  | _ => none
set_option maxRecDepth 100000 in
set_option maxHeartbeats 4000000 in
theorem oX9_shiftRun : jOk MX9_shiftRun [3, 1, 1] 0 (jFn gX9_shiftRun) := by
  refine jOk_fn (by decide +kernel) (Nat.le_of_ble_eq_true rfl) (by decide +kernel) (.inl rfl) ?_
  intro E vs s0 Rr hF ha
  obtain ⟨l0, t0, rfl, r_l0, ha⟩ := jRa_ci ha
  obtain ⟨l1, t1, rfl, r_l1, ha⟩ := jRa_ci ha
  obtain ⟨l2, t2, rfl, r_l2, ha⟩ := jRa_ci ha
  obtain rfl := jRa_ni ha
  replace hF : jHo Rr (jGd (l0 = 17) <| fX9_shiftRun l1 l2 s0) := hF
  have hG := jHo_as hF
  clear hF
  obtain ⟨rfl, hF⟩ := hG
  refine jg_norm [3, 1, 1] [17, l1, l2] rfl rfl ?_
  unfold fX9_shiftRun at hF
  refine ji_aload_n (n := 0) (pc := 0) 17 rfl rfl rfl dX9_shiftRun_0 (fun r1 => ?_)
  refine ji_getr (pc := 1) 18 wfX9_9 (jRc3 rfl) jcl_17 jrf_17_0 dX9_shiftRun_1 ?_
  refine ji_iload_n (n := 1) (pc := 4) l1 rfl rfl rfl dX9_shiftRun_4 (fun r2 => ?_)
  refine jg_dup2 (pc := 5) (by decide) (by decide) dX9_shiftRun_5 ?_
  refine ji_iaload (pc := 6) (jRc3 rfl) r2 hF dX9_shiftRun_6 (fun x3 r_x3 hF => ?_)
  refine ji_iload_n (n := 2) (pc := 7) l2 rfl rfl rfl dX9_shiftRun_7 (fun r4 => ?_)
  refine ji_iadd (pc := 8)  hF dX9_shiftRun_8 (fun x5 r_x5 hF => ?_)
  refine ji_iastore (pc := 9) (jRc3 rfl) r2 r_x5 hF dX9_shiftRun_9 (fun s6 hF => ?_)
  refine ji_aload_n (n := 0) (pc := 10) 17 rfl rfl rfl dX9_shiftRun_10 (fun r7 => ?_)
  refine ji_getr (pc := 11) 18 wfX9_9 (jRc3 rfl) jcl_17 jrf_17_0 dX9_shiftRun_11 ?_
  refine ji_iload_n (n := 1) (pc := 14) l1 rfl rfl rfl dX9_shiftRun_14 (fun r8 => ?_)
  refine ji_iconst (pc := 15) dX9_shiftRun_15 ?_
  refine ji_iadd (pc := 16)  hF dX9_shiftRun_16 (fun x9 r_x9 hF => ?_)
  refine jg_dup2 (pc := 17) (by decide) (by decide) dX9_shiftRun_17 ?_
  refine ji_iaload (pc := 18) (jRc3 rfl) r_x9 hF dX9_shiftRun_18 (fun x10 r_x10 hF => ?_)
  refine ji_iload_n (n := 2) (pc := 19) l2 rfl rfl rfl dX9_shiftRun_19 (fun r11 => ?_)
  refine ji_iadd (pc := 20)  hF dX9_shiftRun_20 (fun x12 r_x12 hF => ?_)
  refine ji_iastore (pc := 21) (jRc3 rfl) r_x9 r_x12 hF dX9_shiftRun_21 (fun s13 hF => ?_)
  refine ji_aload_n (n := 0) (pc := 22) 17 rfl rfl rfl dX9_shiftRun_22 (fun r14 => ?_)
  refine ji_getr (pc := 23) 18 wfX9_9 (jRc3 rfl) jcl_17 jrf_17_0 dX9_shiftRun_23 ?_
  refine ji_iload_n (n := 1) (pc := 26) l1 rfl rfl rfl dX9_shiftRun_26 (fun r15 => ?_)
  refine ji_iconst (pc := 27) dX9_shiftRun_27 ?_
  refine ji_iadd (pc := 28)  hF dX9_shiftRun_28 (fun x16 r_x16 hF => ?_)
  refine jg_dup2 (pc := 29) (by decide) (by decide) dX9_shiftRun_29 ?_
  refine ji_iaload (pc := 30) (jRc3 rfl) r_x16 hF dX9_shiftRun_30 (fun x17 r_x17 hF => ?_)
  refine ji_iload_n (n := 2) (pc := 31) l2 rfl rfl rfl dX9_shiftRun_31 (fun r18 => ?_)
  refine ji_iadd (pc := 32)  hF dX9_shiftRun_32 (fun x19 r_x19 hF => ?_)
  refine ji_iastore (pc := 33) (jRc3 rfl) r_x16 r_x19 hF dX9_shiftRun_33 (fun s20 hF => ?_)
  exact ji_retv (pc := 34) rfl hF dX9_shiftRun_34
def bX9_seek_22 (rc : Int → Int → Int → jMem → jO) (k43 : Int → Int → Int → jMem → jO) (rec : Int → Int → Int → jMem → jO) (l1 l3 l5 : Int) (s0 : jMem) : jO :=
if 34 ≤ l5 then (
k43 l1 l3 l5 s0)
else (
jGd ((0 : Int) ≤ l5 ∧ l5 < jik 18) <| jLet (s0 18 l5) fun x4 =>
if x4 = 0 then (
jLet (j32 (l5 + 1)) fun x5 =>
rec l1 l3 x5 s0)
else (
k43 l1 l3 l5 s0))
def bX9_seek_106 (rc : Int → Int → Int → jMem → jO) (l1 l5 : Int) (s0 : jMem) : jO :=
jBd (fX8_startsRun l5 s0) fun x2 s3 =>
if x2 = 0 then (
jRet 0 s3)
else (
jLet (j32 (l5 + 1)) fun x6 =>
jGd ((0 : Int) ≤ x6 ∧ x6 < jik 18) <| jLet (s3 18 x6) fun x7 =>
if x7 ≤ 0 then (
jRet 0 s3)
else (
jLet (j32 (l5 + 2)) fun x10 =>
jGd ((0 : Int) ≤ x10 ∧ x10 < jik 18) <| jLet (s3 18 x10) fun x11 =>
if x11 ≤ 0 then (
jRet 0 s3)
else (
jBd (fX9_shiftRun l5 (-1) s3) fun x14 s15 =>
jBd (fX0_code 1 l5 s15) fun x19 s20 =>
jGd ((0 : Int) ≤ l1 ∧ l1 < jik 19) <| jLet (jU s20 19 l1 x19) fun s21 =>
jLet (j32 (l1 + 1)) fun x24 =>
jBd (rc x24 l5 l5 s21) fun x27 s28 =>
jBd (fX9_shiftRun l5 1 s28) fun x31 s32 =>
jRet 0 s32)))
def bX9_seek_43 (rc : Int → Int → Int → jMem → jO) (l1 l3 l5 : Int) (s0 : jMem) : jO :=
if l5 < 34 then (
jGd ((0 : Int) ≤ l5 ∧ l5 < jik 18) <| jLet (s0 18 l5) fun x4 =>
if x4 < 3 then (
bX9_seek_106 rc l1 l5 s0)
else (
if l5 = l3 then (
bX9_seek_106 rc l1 l5 s0)
else (
jGd ((0 : Int) ≤ l5 ∧ l5 < jik 18) <| jLet (s0 18 l5) fun x9 =>
jLet (j32 (x9 - 3)) fun x10 =>
jGd ((0 : Int) ≤ l5 ∧ l5 < jik 18) <| jLet (jU s0 18 l5 x10) fun s11 =>
jBd (fX0_code 2 l5 s11) fun x15 s16 =>
jGd ((0 : Int) ≤ l1 ∧ l1 < jik 19) <| jLet (jU s16 19 l1 x15) fun s17 =>
jLet (j32 (l1 + 1)) fun x20 =>
jBd (rc x20 l5 l3 s17) fun x23 s24 =>
jGd ((0 : Int) ≤ l5 ∧ l5 < jik 18) <| jLet (s24 18 l5) fun x27 =>
jLet (j32 (x27 + 3)) fun x28 =>
jGd ((0 : Int) ≤ l5 ∧ l5 < jik 18) <| jLet (jU s24 18 l5 x28) fun s29 =>
bX9_seek_106 rc l1 l5 s29)))
else (
jRet 0 s0)
def fX9_seek (rc : Int → Int → Int → jMem → jO) (l1 l2 l3 : Int) (s0 : jMem) : jO :=
jLet (s0 17 3) fun x3 =>
if l1 ≤ x3 then (
jIt (fun _ _ _ _ => none) (bX9_seek_22 rc (bX9_seek_43 rc)) 1000 l1 l3 l2 s0)
else (
jBd (fX9_keepPath s0) fun x7 s8 =>
jRet 0 s8)
def gX9_seek (rc : Int → Int → Int → jMem → jO) (vs : List Int) (s : jMem) : jO := match vs with
  | [a0, a1, a2, a3] => jGd (a0 = 17) <| rc a1 a2 a3 s
  | _ => none
set_option maxRecDepth 100000 in
set_option maxHeartbeats 4000000 in
theorem obX9_seek_22 {E : jEnv} {Rr : Int → jMem → Prop} {d : Nat} {rc : Int → Int → Int → jMem → jO} (hd : 2 ≤ d) (hrc : jOk MX9_seek [3, 1, 1, 1] d (jFn (gX9_seek rc))) {k43 : Int → Int → Int → jMem → jO} (hk43 : ∀ (l1 l3 l5 : Int) (s : jMem), jHo Rr (k43 l1 l3 l5 s) → jGo E MX9_seek (d + 1) Rr [3, 1, 0, 1, 3, 1] 43 [17, l1, 0, l3, 18, l5] ([]) s) {rec : Int → Int → Int → jMem → jO} (hrec : ∀ (l1 l3 l5 : Int) (s : jMem), jHo Rr (rec l1 l3 l5 s) → jGo E MX9_seek (d + 1) Rr [3, 1, 0, 1, 3, 1] 22 [17, l1, 0, l3, 18, l5] ([]) s) : ∀ (l1 l3 l5 : Int) (s : jMem), jHo Rr (bX9_seek_22 rc k43 rec l1 l3 l5 s) → jGo E MX9_seek (d + 1) Rr [3, 1, 0, 1, 3, 1] 22 [17, l1, 0, l3, 18, l5] ([]) s := by
  intro l1 l3 l5 s0 hF
  unfold bX9_seek_22 at hF
  refine ji_iload (pc := 22) l5 rfl rfl dX9_seek_22 (fun r1 => ?_)
  refine jg_bipush (pc := 24) rfl dX9_seek_24 ?_
  refine ji_icmp_ge 43 (pc := 26) r1 (jRc rfl) hF dX9_seek_26 rfl (fun hF => ?_) (fun hF => ?_)
  · refine jg_norm [3, 1, 0, 1, 3, 1] [17, l1, 0, l3, 18, l5] rfl rfl ?_
    exact hk43 _ _ _ _ hF
  · refine ji_aload (pc := 29) 18 rfl rfl dX9_seek_29 (fun r2 => ?_)
    refine ji_iload (pc := 31) l5 rfl rfl dX9_seek_31 (fun r3 => ?_)
    refine ji_iaload (pc := 33) (jRc3 rfl) r3 hF dX9_seek_33 (fun x4 r_x4 hF => ?_)
    refine ji_if_ne 43 (pc := 34) r_x4 hF dX9_seek_34 rfl (fun hF => ?_) (fun hF => ?_)
    · refine jg_norm [3, 1, 0, 1, 3, 1] [17, l1, 0, l3, 18, l5] rfl rfl ?_
      exact hk43 _ _ _ _ hF
    · refine ji_iinc (pc := 37) l5 (fun w => [17, l1, 0, l3, 18, w]) rfl rfl rfl (fun _ => rfl) hF dX9_seek_37 (fun x5 r_x5 hF => ?_)
      refine jg_goto (pc := 40) 22 dX9_seek_40 rfl ?_
      refine jg_norm [3, 1, 0, 1, 3, 1] [17, l1, 0, l3, 18, x5] rfl rfl ?_
      exact hrec _ _ _ _ hF
theorem obX9_seek_22W {E : jEnv} {Rr : Int → jMem → Prop} {d : Nat} {rc : Int → Int → Int → jMem → jO} (hd : 2 ≤ d) (hrc : jOk MX9_seek [3, 1, 1, 1] d (jFn (gX9_seek rc))) {k43 : Int → Int → Int → jMem → jO} (hk43 : ∀ (l1 l3 l5 : Int) (s : jMem), jHo Rr (k43 l1 l3 l5 s) → jGo E MX9_seek (d + 1) Rr [3, 1, 0, 1, 3, 1] 43 [17, l1, 0, l3, 18, l5] ([]) s) : ∀ n : Nat, ∀ (l1 l3 l5 : Int) (s : jMem), jHo Rr (jIt (fun _ _ _ _ => none) (bX9_seek_22 rc k43) n l1 l3 l5 s) → jGo E MX9_seek (d + 1) Rr [3, 1, 0, 1, 3, 1] 22 [17, l1, 0, l3, 18, l5] ([]) s := by
  intro n
  induction n with
  | zero => intro l1 l3 l5 s hF; exact jHo_none hF
  | succ n ih => exact obX9_seek_22 hd hrc hk43 ih

set_option maxRecDepth 100000 in
set_option maxHeartbeats 4000000 in
theorem obX9_seek_106 {E : jEnv} {Rr : Int → jMem → Prop} {d : Nat} {rc : Int → Int → Int → jMem → jO} (hd : 2 ≤ d) (hrc : jOk MX9_seek [3, 1, 1, 1] d (jFn (gX9_seek rc))) : ∀ (l1 l5 : Int) (s : jMem), jHo Rr (bX9_seek_106 rc l1 l5 s) → jGo E MX9_seek (d + 1) Rr [3, 1, 0, 0, 3, 1] 106 [17, l1, 0, 0, 18, l5] ([]) s := by
  intro l1 l5 s0 hF
  unfold bX9_seek_106 at hF
  refine ji_iload (pc := 106) l5 rfl rfl dX9_seek_106 (fun r1 => ?_)
  refine ji_callSz (pc := 108) [l5] ([]) oX8_startsRun wlX9_56 wmX8_startsRun rfl rfl (Nat.le_of_ble_eq_true rfl) (jRaC r1 jRa0) rfl rfl (Nat.le_trans (Nat.le_of_ble_eq_true rfl) (Nat.le_succ_of_le hd)) hF dX9_seek_108 (fun x2 s3 r_x2 hF => ?_)
  refine ji_if_eq 171 (pc := 111) (jR51 r_x2) hF dX9_seek_111 rfl (fun hF => ?_) (fun hF => ?_)
  · exact ji_retv (pc := 171) rfl hF dX9_seek_171
  · refine ji_aload (pc := 114) 18 rfl rfl dX9_seek_114 (fun r4 => ?_)
    refine ji_iload (pc := 116) l5 rfl rfl dX9_seek_116 (fun r5 => ?_)
    refine ji_iconst (pc := 118) dX9_seek_118 ?_
    refine ji_iadd (pc := 119)  hF dX9_seek_119 (fun x6 r_x6 hF => ?_)
    refine ji_iaload (pc := 120) (jRc3 rfl) r_x6 hF dX9_seek_120 (fun x7 r_x7 hF => ?_)
    refine ji_if_le 171 (pc := 121) r_x7 hF dX9_seek_121 rfl (fun hF => ?_) (fun hF => ?_)
    · exact ji_retv (pc := 171) rfl hF dX9_seek_171
    · refine ji_aload (pc := 124) 18 rfl rfl dX9_seek_124 (fun r8 => ?_)
      refine ji_iload (pc := 126) l5 rfl rfl dX9_seek_126 (fun r9 => ?_)
      refine ji_iconst (pc := 128) dX9_seek_128 ?_
      refine ji_iadd (pc := 129)  hF dX9_seek_129 (fun x10 r_x10 hF => ?_)
      refine ji_iaload (pc := 130) (jRc3 rfl) r_x10 hF dX9_seek_130 (fun x11 r_x11 hF => ?_)
      refine ji_if_le 171 (pc := 131) r_x11 hF dX9_seek_131 rfl (fun hF => ?_) (fun hF => ?_)
      · exact ji_retv (pc := 171) rfl hF dX9_seek_171
      · refine ji_aload_n (n := 0) (pc := 134) 17 rfl rfl rfl dX9_seek_134 (fun r12 => ?_)
        refine ji_iload (pc := 135) l5 rfl rfl dX9_seek_135 (fun r13 => ?_)
        refine ji_iconst (pc := 137) dX9_seek_137 ?_
        refine ji_callVv (pc := 138) 17 [l5, (-1)] ([]) oX9_shiftRun wlX9_60 wmX9_shiftRun rfl rfl (Nat.le_of_ble_eq_true rfl) (jRaC (jRc3 rfl) (jRaC r13 (jRaC (jRc rfl) jRa0))) rfl jcl_17 rfl (Nat.le_trans (Nat.le_of_ble_eq_true rfl) (Nat.le_succ_of_le hd)) hF dX9_seek_138 (fun x14 s15 hF => ?_)
        refine ji_aload_n (n := 0) (pc := 141) 17 rfl rfl rfl dX9_seek_141 (fun r16 => ?_)
        refine ji_getr (pc := 142) 19 wfX9_15 (jRc3 rfl) jcl_17 jrf_17_1 dX9_seek_142 ?_
        refine ji_iload_n (n := 1) (pc := 145) l1 rfl rfl rfl dX9_seek_145 (fun r17 => ?_)
        refine ji_iconst (pc := 146) dX9_seek_146 ?_
        refine ji_iload (pc := 147) l5 rfl rfl dX9_seek_147 (fun r18 => ?_)
        refine ji_callSi (pc := 149) [1, l5] (jV E 1 l1 :: jV E 3 19 :: []) oX0_code wlX9_45 wmX0_code rfl rfl (Nat.le_of_ble_eq_true rfl) (jRaC (jRc rfl) (jRaC r18 jRa0)) rfl rfl (Nat.le_trans (Nat.le_of_ble_eq_true rfl) (Nat.le_succ_of_le hd)) hF dX9_seek_149 (fun x19 s20 r_x19 hF => ?_)
        refine ji_iastore (pc := 152) (jRc3 rfl) r17 r_x19 hF dX9_seek_152 (fun s21 hF => ?_)
        refine ji_aload_n (n := 0) (pc := 153) 17 rfl rfl rfl dX9_seek_153 (fun r22 => ?_)
        refine ji_iload_n (n := 1) (pc := 154) l1 rfl rfl rfl dX9_seek_154 (fun r23 => ?_)
        refine ji_iconst (pc := 155) dX9_seek_155 ?_
        refine ji_iadd (pc := 156)  hF dX9_seek_156 (fun x24 r_x24 hF => ?_)
        refine ji_iload (pc := 157) l5 rfl rfl dX9_seek_157 (fun r25 => ?_)
        refine ji_iload (pc := 159) l5 rfl rfl dX9_seek_159 (fun r26 => ?_)
        refine ji_callSv (pc := 161) [17, x24, l5, l5] ([]) hrc wlX9_49 wmX9_seek rfl rfl (Nat.le_of_ble_eq_true rfl) (jRaC (jRc3 rfl) (jRaC r_x24 (jRaC r25 (jRaC r26 jRa0)))) rfl rfl (Nat.le_refl _) hF dX9_seek_161 (fun x27 s28 hF => ?_)
        refine ji_aload_n (n := 0) (pc := 164) 17 rfl rfl rfl dX9_seek_164 (fun r29 => ?_)
        refine ji_iload (pc := 165) l5 rfl rfl dX9_seek_165 (fun r30 => ?_)
        refine ji_iconst (pc := 167) dX9_seek_167 ?_
        refine ji_callVv (pc := 168) 17 [l5, 1] ([]) oX9_shiftRun wlX9_60 wmX9_shiftRun rfl rfl (Nat.le_of_ble_eq_true rfl) (jRaC (jRc3 rfl) (jRaC r30 (jRaC (jRc rfl) jRa0))) rfl jcl_17 rfl (Nat.le_trans (Nat.le_of_ble_eq_true rfl) (Nat.le_succ_of_le hd)) hF dX9_seek_168 (fun x31 s32 hF => ?_)
        exact ji_retv (pc := 171) rfl hF dX9_seek_171
set_option maxRecDepth 100000 in
set_option maxHeartbeats 4000000 in
theorem obX9_seek_43 {E : jEnv} {Rr : Int → jMem → Prop} {d : Nat} {rc : Int → Int → Int → jMem → jO} (hd : 2 ≤ d) (hrc : jOk MX9_seek [3, 1, 1, 1] d (jFn (gX9_seek rc))) : ∀ (l1 l3 l5 : Int) (s : jMem), jHo Rr (bX9_seek_43 rc l1 l3 l5 s) → jGo E MX9_seek (d + 1) Rr [3, 1, 0, 1, 3, 1] 43 [17, l1, 0, l3, 18, l5] ([]) s := by
  intro l1 l3 l5 s0 hF
  unfold bX9_seek_43 at hF
  refine ji_iload (pc := 43) l5 rfl rfl dX9_seek_43 (fun r1 => ?_)
  refine jg_bipush (pc := 45) rfl dX9_seek_45 ?_
  refine ji_icmp_lt 51 (pc := 47) r1 (jRc rfl) hF dX9_seek_47 rfl (fun hF => ?_) (fun hF => ?_)
  · refine ji_aload (pc := 51) 18 rfl rfl dX9_seek_51 (fun r2 => ?_)
    refine ji_iload (pc := 53) l5 rfl rfl dX9_seek_53 (fun r3 => ?_)
    refine ji_iaload (pc := 55) (jRc3 rfl) r3 hF dX9_seek_55 (fun x4 r_x4 hF => ?_)
    refine ji_iconst (pc := 56) dX9_seek_56 ?_
    refine ji_icmp_lt 106 (pc := 57) r_x4 (jRc rfl) hF dX9_seek_57 rfl (fun hF => ?_) (fun hF => ?_)
    · refine jg_norm [3, 1, 0, 0, 3, 1] [17, l1, 0, 0, 18, l5] rfl rfl ?_
      exact obX9_seek_106 hd hrc _ _ _ hF
    · refine ji_iload (pc := 60) l5 rfl rfl dX9_seek_60 (fun r5 => ?_)
      refine ji_iload_n (n := 3) (pc := 62) l3 rfl rfl rfl dX9_seek_62 (fun r6 => ?_)
      refine ji_icmp_eq 106 (pc := 63) r5 r6 hF dX9_seek_63 rfl (fun hF => ?_) (fun hF => ?_)
      · refine jg_norm [3, 1, 0, 0, 3, 1] [17, l1, 0, 0, 18, l5] rfl rfl ?_
        exact obX9_seek_106 hd hrc _ _ _ hF
      · refine ji_aload (pc := 66) 18 rfl rfl dX9_seek_66 (fun r7 => ?_)
        refine ji_iload (pc := 68) l5 rfl rfl dX9_seek_68 (fun r8 => ?_)
        refine jg_dup2 (pc := 70) (by decide) (by decide) dX9_seek_70 ?_
        refine ji_iaload (pc := 71) (jRc3 rfl) r8 hF dX9_seek_71 (fun x9 r_x9 hF => ?_)
        refine ji_iconst (pc := 72) dX9_seek_72 ?_
        refine ji_isub (pc := 73)  hF dX9_seek_73 (fun x10 r_x10 hF => ?_)
        refine ji_iastore (pc := 74) (jRc3 rfl) r8 r_x10 hF dX9_seek_74 (fun s11 hF => ?_)
        refine ji_aload_n (n := 0) (pc := 75) 17 rfl rfl rfl dX9_seek_75 (fun r12 => ?_)
        refine ji_getr (pc := 76) 19 wfX9_15 (jRc3 rfl) jcl_17 jrf_17_1 dX9_seek_76 ?_
        refine ji_iload_n (n := 1) (pc := 79) l1 rfl rfl rfl dX9_seek_79 (fun r13 => ?_)
        refine ji_iconst (pc := 80) dX9_seek_80 ?_
        refine ji_iload (pc := 81) l5 rfl rfl dX9_seek_81 (fun r14 => ?_)
        refine ji_callSi (pc := 83) [2, l5] (jV E 1 l1 :: jV E 3 19 :: []) oX0_code wlX9_45 wmX0_code rfl rfl (Nat.le_of_ble_eq_true rfl) (jRaC (jRc rfl) (jRaC r14 jRa0)) rfl rfl (Nat.le_trans (Nat.le_of_ble_eq_true rfl) (Nat.le_succ_of_le hd)) hF dX9_seek_83 (fun x15 s16 r_x15 hF => ?_)
        refine ji_iastore (pc := 86) (jRc3 rfl) r13 r_x15 hF dX9_seek_86 (fun s17 hF => ?_)
        refine ji_aload_n (n := 0) (pc := 87) 17 rfl rfl rfl dX9_seek_87 (fun r18 => ?_)
        refine ji_iload_n (n := 1) (pc := 88) l1 rfl rfl rfl dX9_seek_88 (fun r19 => ?_)
        refine ji_iconst (pc := 89) dX9_seek_89 ?_
        refine ji_iadd (pc := 90)  hF dX9_seek_90 (fun x20 r_x20 hF => ?_)
        refine ji_iload (pc := 91) l5 rfl rfl dX9_seek_91 (fun r21 => ?_)
        refine ji_iload_n (n := 3) (pc := 93) l3 rfl rfl rfl dX9_seek_93 (fun r22 => ?_)
        refine ji_callSv (pc := 94) [17, x20, l5, l3] ([]) hrc wlX9_49 wmX9_seek rfl rfl (Nat.le_of_ble_eq_true rfl) (jRaC (jRc3 rfl) (jRaC r_x20 (jRaC r21 (jRaC r22 jRa0)))) rfl rfl (Nat.le_refl _) hF dX9_seek_94 (fun x23 s24 hF => ?_)
        refine ji_aload (pc := 97) 18 rfl rfl dX9_seek_97 (fun r25 => ?_)
        refine ji_iload (pc := 99) l5 rfl rfl dX9_seek_99 (fun r26 => ?_)
        refine jg_dup2 (pc := 101) (by decide) (by decide) dX9_seek_101 ?_
        refine ji_iaload (pc := 102) (jRc3 rfl) r26 hF dX9_seek_102 (fun x27 r_x27 hF => ?_)
        refine ji_iconst (pc := 103) dX9_seek_103 ?_
        refine ji_iadd (pc := 104)  hF dX9_seek_104 (fun x28 r_x28 hF => ?_)
        refine ji_iastore (pc := 105) (jRc3 rfl) r26 r_x28 hF dX9_seek_105 (fun s29 hF => ?_)
        refine jg_norm [3, 1, 0, 0, 3, 1] [17, l1, 0, 0, 18, l5] rfl rfl ?_
        exact obX9_seek_106 hd hrc _ _ _ hF
  · exact ji_retv (pc := 50) rfl hF dX9_seek_50
set_option maxRecDepth 100000 in
set_option maxHeartbeats 4000000 in
theorem oX9_seek1 {d : Nat} {rc : Int → Int → Int → jMem → jO} (hd : 2 ≤ d) (hrc : jOk MX9_seek [3, 1, 1, 1] d (jFn (gX9_seek rc))) : jOk MX9_seek [3, 1, 1, 1] (d + 1) (jFn (gX9_seek (fX9_seek rc))) := by
  refine jOk_fn (by decide +kernel) (Nat.le_of_ble_eq_true rfl) (by decide +kernel) (.inl rfl) ?_
  intro E vs s0 Rr hF ha
  obtain ⟨l0, t0, rfl, r_l0, ha⟩ := jRa_ci ha
  obtain ⟨l1, t1, rfl, r_l1, ha⟩ := jRa_ci ha
  obtain ⟨l2, t2, rfl, r_l2, ha⟩ := jRa_ci ha
  obtain ⟨l3, t3, rfl, r_l3, ha⟩ := jRa_ci ha
  obtain rfl := jRa_ni ha
  replace hF : jHo Rr (jGd (l0 = 17) <| fX9_seek rc l1 l2 l3 s0) := hF
  have hG := jHo_as hF
  clear hF
  obtain ⟨rfl, hF⟩ := hG
  refine jg_norm [3, 1, 1, 1, 0, 0] [17, l1, l2, l3, 0, 0] rfl rfl ?_
  unfold fX9_seek at hF
  refine ji_iload_n (n := 1) (pc := 0) l1 rfl rfl rfl dX9_seek_0 (fun r1 => ?_)
  refine ji_aload_n (n := 0) (pc := 1) 17 rfl rfl rfl dX9_seek_1 (fun r2 => ?_)
  refine ji_getfi (pc := 2) wfX9_21 (jRc3 rfl) jcl_17 hF dX9_seek_2 (fun x3 r_x3 hF => ?_)
  refine ji_icmp_le 13 (pc := 5) r1 r_x3 hF dX9_seek_5 rfl (fun hF => ?_) (fun hF => ?_)
  · refine ji_aload_n (n := 0) (pc := 13) 17 rfl rfl rfl dX9_seek_13 (fun r4 => ?_)
    refine ji_getr (pc := 14) 18 wfX9_9 (jRc3 rfl) jcl_17 jrf_17_0 dX9_seek_14 ?_
    refine ji_astore (n := 4) (pc := 17) [3, 1, 1, 1, 3, 0] [17, l1, l2, l3, 18, 0] (jRc3 rfl) (Nat.le_of_ble_eq_true rfl) rfl rfl dX9_seek_17 ?_
    refine ji_iload_n (n := 2) (pc := 19) l2 rfl rfl rfl dX9_seek_19 (fun r5 => ?_)
    refine ji_istore (n := 5) (pc := 20) [3, 1, 1, 1, 3, 1] [17, l1, l2, l3, 18, l2] r5 (Nat.le_of_ble_eq_true rfl) rfl rfl dX9_seek_20 ?_
    refine jg_norm [3, 1, 0, 1, 3, 1] [17, l1, 0, l3, 18, l2] rfl rfl ?_
    exact obX9_seek_22W hd hrc (obX9_seek_43 hd hrc) 1000 _ _ _ _ hF
  · refine ji_aload_n (n := 0) (pc := 8) 17 rfl rfl rfl dX9_seek_8 (fun r6 => ?_)
    refine ji_callVv (pc := 9) 17 [] ([]) oX9_keepPath wlX9_53 wmX9_keepPath rfl rfl (Nat.le_of_ble_eq_true rfl) (jRaC (jRc3 rfl) jRa0) rfl jcl_17 rfl (Nat.le_trans (Nat.le_of_ble_eq_true rfl) (Nat.le_succ_of_le hd)) hF dX9_seek_9 (fun x7 s8 hF => ?_)
    exact ji_retv (pc := 12) rfl hF dX9_seek_12
theorem oX9_seekW : ∀ n : Nat, jOk MX9_seek [3, 1, 1, 1] (2 + n) (jFn (gX9_seek (jIt (fun _ _ _ _ => none) fX9_seek n))) := by
  intro n
  induction n with
  | zero =>
    intro l E vs σ Rr hI ha hR hf
    exfalso
    obtain ⟨l0, t0, rfl, -, ha⟩ := jRa_ci ha
    obtain ⟨l1, t1, rfl, -, ha⟩ := jRa_ci ha
    obtain ⟨l2, t2, rfl, -, ha⟩ := jRa_ci ha
    obtain ⟨l3, t3, rfl, -, ha⟩ := jRa_ci ha
    obtain rfl := jRa_ni ha
    replace hf : jHo Rr (jGd (l0 = 17) <| none) := hf
    obtain ⟨-, hf⟩ := jHo_as hf
    exact jHo_none hf
  | succ n ih => exact oX9_seek1 (Nat.le_add_right _ _) ih
def bX9_find_32 (k65 : jMem → jO) (rec : Int → Int → jMem → jO) (l1 l2 : Int) (s0 : jMem) : jO :=
jGd (jcl l1 = 0) <| jLet (s0 l1 4) fun x4 =>
if x4 ≤ l2 then (
k65 s0)
else (
jLet (s0 17 3) fun x7 =>
jLet (j32 (1 + x7)) fun x8 =>
jLet (j32 (x8 + l2)) fun x10 =>
jLet (jrf l1 2) fun x12 =>
jGd ((0 : Int) ≤ l2 ∧ l2 < jik x12) <| jLet (s0 x12 l2) fun x14 =>
jGd ((0 : Int) ≤ x10 ∧ x10 < jik 19) <| jLet (jU s0 19 x10 x14) fun s15 =>
jLet (j32 (l2 + 1)) fun x16 =>
rec l1 x16 s15)
def bX9_find_121 (k67 : Int → jMem → jO) (l2 : Int) (s0 : jMem) : jO :=
jLet (j32 (l2 + 1)) fun x1 =>
k67 x1 s0
def bX9_find_67 (rec : Int → jMem → jO) (l2 : Int) (s0 : jMem) : jO :=
if 34 ≤ l2 then (
jRet 0 s0)
else (
jGd ((0 : Int) ≤ l2 ∧ l2 < jik 18) <| jLet (s0 18 l2) fun x4 =>
if x4 < 2 then (
bX9_find_121 rec l2 s0)
else (
jGd ((0 : Int) ≤ l2 ∧ l2 < jik 18) <| jLet (s0 18 l2) fun x7 =>
jLet (j32 (x7 - 2)) fun x8 =>
jGd ((0 : Int) ≤ l2 ∧ l2 < jik 18) <| jLet (jU s0 18 l2 x8) fun s9 =>
jBd (fX0_code 0 l2 s9) fun x12 s13 =>
jGd ((0 : Int) ≤ 0 ∧ 0 < jik 19) <| jLet (jU s13 19 0 x12) fun s14 =>
jBd (jIt (fun _ _ _ _ => none) fX9_seek 6 1 0 (-1) s14) fun x16 s17 =>
jGd ((0 : Int) ≤ l2 ∧ l2 < jik 18) <| jLet (s17 18 l2) fun x20 =>
jLet (j32 (x20 + 2)) fun x21 =>
jGd ((0 : Int) ≤ l2 ∧ l2 < jik 18) <| jLet (jU s17 18 l2 x21) fun s22 =>
bX9_find_121 rec l2 s22))
def bX9_find_65 (s0 : jMem) : jO :=
jIt (fun _ _ => none) (bX9_find_67) 1000 0 s0
def fX9_find (l1 : Int) (s0 : jMem) : jO :=
jLet (jU s0 17 4 0) fun s2 =>
jGd (jcl l1 = 0) <| jLet (s2 l1 4) fun x6 =>
jLet (j32 (4 - x6)) fun x7 =>
jLet (jU s2 17 3 x7) fun s8 =>
jLet (jrf l1 0) fun x10 =>
jGd ((0 : Int) ≤ 0 ∧ (0 : Int) ≤ 0 ∧ (0 : Int) ≤ 34 ∧ 0 + 34 ≤ jik x10 ∧ 0 + 34 ≤ jik 18 ∧ 0 < jik x10 ∧ 0 < jik 18) <| jLet (jCp s8 x10 0 18 0 34) fun s12 =>
jIt (fun _ _ _ => none) (bX9_find_32 bX9_find_65) 1000 l1 0 s12
def gX9_find (vs : List Int) (s : jMem) : jO := match vs with
  | [a0, a1] => jGd (a0 = 17) <| fX9_find a1 s
  | _ => none
set_option maxRecDepth 100000 in
set_option maxHeartbeats 4000000 in
theorem obX9_find_32 {E : jEnv} {Rr : Int → jMem → Prop} {k65 : jMem → jO} (hk65 : ∀ (s : jMem), jHo Rr (k65 s) → jGo E MX9_find 9 Rr [3, 0, 0] 65 [17, 0, 0] ([]) s) {rec : Int → Int → jMem → jO} (hrec : ∀ (l1 l2 : Int) (s : jMem), jHo Rr (rec l1 l2 s) → jGo E MX9_find 9 Rr [3, 3, 1] 32 [17, l1, l2] ([]) s) : ∀ (l1 l2 : Int) (s : jMem), jHo Rr (bX9_find_32 k65 rec l1 l2 s) → jGo E MX9_find 9 Rr [3, 3, 1] 32 [17, l1, l2] ([]) s := by
  intro l1 l2 s0 hF
  unfold bX9_find_32 at hF
  refine ji_iload_n (n := 2) (pc := 32) l2 rfl rfl rfl dX9_find_32 (fun r1 => ?_)
  refine ji_aload_n (n := 1) (pc := 33) l1 rfl rfl rfl dX9_find_33 (fun r2 => ?_)
  obtain ⟨h3, hF⟩ := jHo_as hF
  refine ji_getfi (pc := 34) wfX9_30 r2 h3 hF dX9_find_34 (fun x4 r_x4 hF => ?_)
  refine ji_icmp_ge 65 (pc := 37) r1 r_x4 hF dX9_find_37 rfl (fun hF => ?_) (fun hF => ?_)
  · refine jg_norm [3, 0, 0] [17, 0, 0] rfl rfl ?_
    exact hk65 _ hF
  · refine ji_aload_n (n := 0) (pc := 40) 17 rfl rfl rfl dX9_find_40 (fun r5 => ?_)
    refine ji_getr (pc := 41) 19 wfX9_15 (jRc3 rfl) jcl_17 jrf_17_1 dX9_find_41 ?_
    refine ji_iconst (pc := 44) dX9_find_44 ?_
    refine ji_aload_n (n := 0) (pc := 45) 17 rfl rfl rfl dX9_find_45 (fun r6 => ?_)
    refine ji_getfi (pc := 46) wfX9_21 (jRc3 rfl) jcl_17 hF dX9_find_46 (fun x7 r_x7 hF => ?_)
    refine ji_iadd (pc := 49)  hF dX9_find_49 (fun x8 r_x8 hF => ?_)
    refine ji_iload_n (n := 2) (pc := 50) l2 rfl rfl rfl dX9_find_50 (fun r9 => ?_)
    refine ji_iadd (pc := 51)  hF dX9_find_51 (fun x10 r_x10 hF => ?_)
    refine ji_aload_n (n := 1) (pc := 52) l1 rfl rfl rfl dX9_find_52 (fun r11 => ?_)
    refine ji_getrL (pc := 53) wfX9_42 r11 h3 hF dX9_find_53 (fun x12 r_x12 hF => ?_)
    refine ji_iload_n (n := 2) (pc := 56) l2 rfl rfl rfl dX9_find_56 (fun r13 => ?_)
    refine ji_iaload (pc := 57) r_x12 r13 hF dX9_find_57 (fun x14 r_x14 hF => ?_)
    refine ji_iastore (pc := 58) (jRc3 rfl) r_x10 r_x14 hF dX9_find_58 (fun s15 hF => ?_)
    refine ji_iinc (pc := 59) l2 (fun w => [17, l1, w]) rfl rfl rfl (fun _ => rfl) hF dX9_find_59 (fun x16 r_x16 hF => ?_)
    refine jg_goto (pc := 62) 32 dX9_find_62 rfl ?_
    refine jg_norm [3, 3, 1] [17, l1, x16] rfl rfl ?_
    exact hrec _ _ _ hF
theorem obX9_find_32W {E : jEnv} {Rr : Int → jMem → Prop} {k65 : jMem → jO} (hk65 : ∀ (s : jMem), jHo Rr (k65 s) → jGo E MX9_find 9 Rr [3, 0, 0] 65 [17, 0, 0] ([]) s) : ∀ n : Nat, ∀ (l1 l2 : Int) (s : jMem), jHo Rr (jIt (fun _ _ _ => none) (bX9_find_32 k65) n l1 l2 s) → jGo E MX9_find 9 Rr [3, 3, 1] 32 [17, l1, l2] ([]) s := by
  intro n
  induction n with
  | zero => intro l1 l2 s hF; exact jHo_none hF
  | succ n ih => exact obX9_find_32 hk65 ih

set_option maxRecDepth 100000 in
set_option maxHeartbeats 4000000 in
theorem obX9_find_121 {E : jEnv} {Rr : Int → jMem → Prop} {k67 : Int → jMem → jO} (hk67 : ∀ (l2 : Int) (s : jMem), jHo Rr (k67 l2 s) → jGo E MX9_find 9 Rr [3, 0, 1] 67 [17, 0, l2] ([]) s) : ∀ (l2 : Int) (s : jMem), jHo Rr (bX9_find_121 k67 l2 s) → jGo E MX9_find 9 Rr [3, 0, 1] 121 [17, 0, l2] ([]) s := by
  intro l2 s0 hF
  unfold bX9_find_121 at hF
  refine ji_iinc (pc := 121) l2 (fun w => [17, 0, w]) rfl rfl rfl (fun _ => rfl) hF dX9_find_121 (fun x1 r_x1 hF => ?_)
  refine jg_goto (pc := 124) 67 dX9_find_124 rfl ?_
  refine jg_norm [3, 0, 1] [17, 0, x1] rfl rfl ?_
  exact hk67 _ _ hF
set_option maxRecDepth 100000 in
set_option maxHeartbeats 4000000 in
theorem obX9_find_67 {E : jEnv} {Rr : Int → jMem → Prop} {rec : Int → jMem → jO} (hrec : ∀ (l2 : Int) (s : jMem), jHo Rr (rec l2 s) → jGo E MX9_find 9 Rr [3, 0, 1] 67 [17, 0, l2] ([]) s) : ∀ (l2 : Int) (s : jMem), jHo Rr (bX9_find_67 rec l2 s) → jGo E MX9_find 9 Rr [3, 0, 1] 67 [17, 0, l2] ([]) s := by
  intro l2 s0 hF
  unfold bX9_find_67 at hF
  refine ji_iload_n (n := 2) (pc := 67) l2 rfl rfl rfl dX9_find_67 (fun r1 => ?_)
  refine jg_bipush (pc := 68) rfl dX9_find_68 ?_
  refine ji_icmp_ge 127 (pc := 70) r1 (jRc rfl) hF dX9_find_70 rfl (fun hF => ?_) (fun hF => ?_)
  · exact ji_retv (pc := 127) rfl hF dX9_find_127
  · refine ji_aload_n (n := 0) (pc := 73) 17 rfl rfl rfl dX9_find_73 (fun r2 => ?_)
    refine ji_getr (pc := 74) 18 wfX9_9 (jRc3 rfl) jcl_17 jrf_17_0 dX9_find_74 ?_
    refine ji_iload_n (n := 2) (pc := 77) l2 rfl rfl rfl dX9_find_77 (fun r3 => ?_)
    refine ji_iaload (pc := 78) (jRc3 rfl) r3 hF dX9_find_78 (fun x4 r_x4 hF => ?_)
    refine ji_iconst (pc := 79) dX9_find_79 ?_
    refine ji_icmp_lt 121 (pc := 80) r_x4 (jRc rfl) hF dX9_find_80 rfl (fun hF => ?_) (fun hF => ?_)
    · refine jg_norm [3, 0, 1] [17, 0, l2] rfl rfl ?_
      exact obX9_find_121 hrec _ _ hF
    · refine ji_aload_n (n := 0) (pc := 83) 17 rfl rfl rfl dX9_find_83 (fun r5 => ?_)
      refine ji_getr (pc := 84) 18 wfX9_9 (jRc3 rfl) jcl_17 jrf_17_0 dX9_find_84 ?_
      refine ji_iload_n (n := 2) (pc := 87) l2 rfl rfl rfl dX9_find_87 (fun r6 => ?_)
      refine jg_dup2 (pc := 88) (by decide) (by decide) dX9_find_88 ?_
      refine ji_iaload (pc := 89) (jRc3 rfl) r6 hF dX9_find_89 (fun x7 r_x7 hF => ?_)
      refine ji_iconst (pc := 90) dX9_find_90 ?_
      refine ji_isub (pc := 91)  hF dX9_find_91 (fun x8 r_x8 hF => ?_)
      refine ji_iastore (pc := 92) (jRc3 rfl) r6 r_x8 hF dX9_find_92 (fun s9 hF => ?_)
      refine ji_aload_n (n := 0) (pc := 93) 17 rfl rfl rfl dX9_find_93 (fun r10 => ?_)
      refine ji_getr (pc := 94) 19 wfX9_15 (jRc3 rfl) jcl_17 jrf_17_1 dX9_find_94 ?_
      refine ji_iconst (pc := 97) dX9_find_97 ?_
      refine ji_iconst (pc := 98) dX9_find_98 ?_
      refine ji_iload_n (n := 2) (pc := 99) l2 rfl rfl rfl dX9_find_99 (fun r11 => ?_)
      refine ji_callSi (pc := 100) [0, l2] (jV E 1 0 :: jV E 3 19 :: []) oX0_code wlX9_45 wmX0_code rfl rfl (Nat.le_of_ble_eq_true rfl) (jRaC (jRc rfl) (jRaC r11 jRa0)) rfl rfl (Nat.le_of_ble_eq_true rfl) hF dX9_find_100 (fun x12 s13 r_x12 hF => ?_)
      refine ji_iastore (pc := 103) (jRc3 rfl) (jRc rfl) r_x12 hF dX9_find_103 (fun s14 hF => ?_)
      refine ji_aload_n (n := 0) (pc := 104) 17 rfl rfl rfl dX9_find_104 (fun r15 => ?_)
      refine ji_iconst (pc := 105) dX9_find_105 ?_
      refine ji_iconst (pc := 106) dX9_find_106 ?_
      refine ji_iconst (pc := 107) dX9_find_107 ?_
      refine ji_callSv (pc := 108) [17, 1, 0, (-1)] ([]) (oX9_seekW 6) wlX9_49 wmX9_seek rfl rfl (Nat.le_of_ble_eq_true rfl) (jRaC (jRc3 rfl) (jRaC (jRc rfl) (jRaC (jRc rfl) (jRaC (jRc rfl) jRa0)))) rfl rfl (Nat.le_of_ble_eq_true rfl) hF dX9_find_108 (fun x16 s17 hF => ?_)
      refine ji_aload_n (n := 0) (pc := 111) 17 rfl rfl rfl dX9_find_111 (fun r18 => ?_)
      refine ji_getr (pc := 112) 18 wfX9_9 (jRc3 rfl) jcl_17 jrf_17_0 dX9_find_112 ?_
      refine ji_iload_n (n := 2) (pc := 115) l2 rfl rfl rfl dX9_find_115 (fun r19 => ?_)
      refine jg_dup2 (pc := 116) (by decide) (by decide) dX9_find_116 ?_
      refine ji_iaload (pc := 117) (jRc3 rfl) r19 hF dX9_find_117 (fun x20 r_x20 hF => ?_)
      refine ji_iconst (pc := 118) dX9_find_118 ?_
      refine ji_iadd (pc := 119)  hF dX9_find_119 (fun x21 r_x21 hF => ?_)
      refine ji_iastore (pc := 120) (jRc3 rfl) r19 r_x21 hF dX9_find_120 (fun s22 hF => ?_)
      refine jg_norm [3, 0, 1] [17, 0, l2] rfl rfl ?_
      exact obX9_find_121 hrec _ _ hF
theorem obX9_find_67W {E : jEnv} {Rr : Int → jMem → Prop} : ∀ n : Nat, ∀ (l2 : Int) (s : jMem), jHo Rr (jIt (fun _ _ => none) (bX9_find_67) n l2 s) → jGo E MX9_find 9 Rr [3, 0, 1] 67 [17, 0, l2] ([]) s := by
  intro n
  induction n with
  | zero => intro l2 s hF; exact jHo_none hF
  | succ n ih => exact obX9_find_67 ih

set_option maxRecDepth 100000 in
set_option maxHeartbeats 4000000 in
theorem obX9_find_65 {E : jEnv} {Rr : Int → jMem → Prop} : ∀ (s : jMem), jHo Rr (bX9_find_65 s) → jGo E MX9_find 9 Rr [3, 0, 0] 65 [17, 0, 0] ([]) s := by
  intro s0 hF
  unfold bX9_find_65 at hF
  refine ji_iconst (pc := 65) dX9_find_65 ?_
  refine ji_istore_n (n := 2) (pc := 66) [3, 0, 1] [17, 0, 0] rfl (jRc rfl) (Nat.le_of_ble_eq_true rfl) rfl rfl dX9_find_66 ?_
  refine jg_norm [3, 0, 1] [17, 0, 0] rfl rfl ?_
  exact obX9_find_67W 1000 _ _ hF
set_option maxRecDepth 100000 in
set_option maxHeartbeats 4000000 in
theorem oX9_find : jOk MX9_find [3, 3] 9 (jFn gX9_find) := by
  refine jOk_fn (by decide +kernel) (Nat.le_of_ble_eq_true rfl) (by decide +kernel) (.inl rfl) ?_
  intro E vs s0 Rr hF ha
  obtain ⟨l0, t0, rfl, r_l0, ha⟩ := jRa_ci ha
  obtain ⟨l1, t1, rfl, r_l1, ha⟩ := jRa_ci ha
  obtain rfl := jRa_ni ha
  replace hF : jHo Rr (jGd (l0 = 17) <| fX9_find l1 s0) := hF
  have hG := jHo_as hF
  clear hF
  obtain ⟨rfl, hF⟩ := hG
  refine jg_norm [3, 3, 0] [17, l1, 0] rfl rfl ?_
  unfold fX9_find at hF
  refine ji_aload_n (n := 0) (pc := 0) 17 rfl rfl rfl dX9_find_0 (fun r1 => ?_)
  refine ji_iconst (pc := 1) dX9_find_1 ?_
  refine ji_putfi (pc := 2) wpX9_25 (jRc3 rfl) jcl_17 (jRc rfl) hF dX9_find_2 (fun s2 hF => ?_)
  refine ji_aload_n (n := 0) (pc := 5) 17 rfl rfl rfl dX9_find_5 (fun r3 => ?_)
  refine ji_iconst (pc := 6) dX9_find_6 ?_
  refine ji_aload_n (n := 1) (pc := 7) l1 rfl rfl rfl dX9_find_7 (fun r4 => ?_)
  obtain ⟨h5, hF⟩ := jHo_as hF
  refine ji_getfi (pc := 8) wfX9_30 r4 h5 hF dX9_find_8 (fun x6 r_x6 hF => ?_)
  refine ji_isub (pc := 11)  hF dX9_find_11 (fun x7 r_x7 hF => ?_)
  refine ji_putfi (pc := 12) wpX9_21 (jRc3 rfl) jcl_17 r_x7 hF dX9_find_12 (fun s8 hF => ?_)
  refine ji_aload_n (n := 1) (pc := 15) l1 rfl rfl rfl dX9_find_15 (fun r9 => ?_)
  refine ji_getrL (pc := 16) wfX9_33 r9 h5 hF dX9_find_16 (fun x10 r_x10 hF => ?_)
  refine ji_iconst (pc := 19) dX9_find_19 ?_
  refine ji_aload_n (n := 0) (pc := 20) 17 rfl rfl rfl dX9_find_20 (fun r11 => ?_)
  refine ji_getr (pc := 21) 18 wfX9_9 (jRc3 rfl) jcl_17 jrf_17_0 dX9_find_21 ?_
  refine ji_iconst (pc := 24) dX9_find_24 ?_
  refine jg_bipush (pc := 25) rfl dX9_find_25 ?_
  refine ji_copyi (pc := 27) r_x10 (jRc3 rfl) (jRc rfl) (jRc rfl) (jRc rfl) (Nat.le_of_ble_eq_true rfl) (Nat.le_of_ble_eq_true rfl) ⟨wlX9_36, wq_copy⟩ hF dX9_find_27 (fun s12 hF => ?_)
  refine ji_iconst (pc := 30) dX9_find_30 ?_
  refine ji_istore_n (n := 2) (pc := 31) [3, 3, 1] [17, l1, 0] rfl (jRc rfl) (Nat.le_of_ble_eq_true rfl) rfl rfl dX9_find_31 ?_
  refine jg_norm [3, 3, 1] [17, l1, 0] rfl rfl ?_
  exact obX9_find_32W obX9_find_65 1000 _ _ _ hF
def bX4_lackOfSeven_52 (k13 : Int → Int → Int → Int → Int → jMem → jO) (l1 l3 l4 l5 t0 t1 : Int) (s0 : jMem) : jO :=
jLet (j32 (t0 + t1)) fun x1 =>
jLet (j32 (l5 + 1)) fun x2 =>
k13 l1 x1 l3 l4 x2 s0
def bX4_lackOfSeven_38 (k13 : Int → Int → Int → Int → Int → jMem → jO) (l2 l3 l4 l5 l6 t0 t1 : Int) (s0 : jMem) : jO :=
jLet (j32 (t0 + t1)) fun x1 =>
if l6 < 1 then (
bX4_lackOfSeven_52 k13 x1 l3 l4 l5 l2 0 s0)
else (
bX4_lackOfSeven_52 k13 x1 l3 l4 l5 l2 1 s0)
def bX4_lackOfSeven_13 (k60 : Int → Int → jMem → jO) (rec : Int → Int → Int → Int → Int → jMem → jO) (l1 l2 l3 l4 l5 : Int) (s0 : jMem) : jO :=
if l4 ≤ l5 then (
k60 l1 l2 s0)
else (
jGd ((0 : Int) ≤ l5 ∧ l5 < jik l3) <| jLet (s0 l3 l5) fun x5 =>
if x5 < 2 then (
bX4_lackOfSeven_38 rec l2 l3 l4 l5 x5 l1 0 s0)
else (
bX4_lackOfSeven_38 rec l2 l3 l4 l5 x5 l1 1 s0))
def bX4_lackOfSeven_60 (l1 l2 : Int) (s0 : jMem) : jO :=
jLet (jmin l1 7) fun x2 =>
jLet (j32 (14 - x2)) fun x3 =>
jLet (jmin l2 7) fun x5 =>
jLet (j32 (x3 - x5)) fun x6 =>
jRet x6 s0
def fX4_lackOfSeven (l0 : Int) (s0 : jMem) : jO :=
jGd (0 ≤ jln l0) <| jLet (jln l0) fun x3 =>
jIt (fun _ _ _ _ _ _ => none) (bX4_lackOfSeven_13 bX4_lackOfSeven_60) 1000 0 0 l0 x3 0 s0
def gX4_lackOfSeven (vs : List Int) (s : jMem) : jO := match vs with
  | [a0] => fX4_lackOfSeven a0 s
  | _ => none
set_option maxRecDepth 100000 in
set_option maxHeartbeats 4000000 in
theorem obX4_lackOfSeven_52 {E : jEnv} {Rr : Int → jMem → Prop} {k13 : Int → Int → Int → Int → Int → jMem → jO} (hk13 : ∀ (l1 l2 l3 l4 l5 : Int) (s : jMem), jHo Rr (k13 l1 l2 l3 l4 l5 s) → jGo E MX4_lackOfSeven 1 Rr [0, 1, 1, 3, 1, 1, 0] 13 [0, l1, l2, l3, l4, l5, 0] ([]) s) : ∀ (l1 l3 l4 l5 t0 t1 : Int) (s : jMem), jR 1 t0 → jR 1 t1 → jHo Rr (bX4_lackOfSeven_52 k13 l1 l3 l4 l5 t0 t1 s) → jGo E MX4_lackOfSeven 1 Rr [0, 1, 0, 3, 1, 1, 0] 52 [0, l1, 0, l3, l4, l5, 0] (jV E 1 t1 :: jV E 1 t0 :: []) s := by
  intro l1 l3 l4 l5 t0 t1 s0 r_t0 r_t1 hF
  unfold bX4_lackOfSeven_52 at hF
  refine ji_iadd (pc := 52)  hF dX4_lackOfSeven_52 (fun x1 r_x1 hF => ?_)
  refine ji_istore_n (n := 2) (pc := 53) [0, 1, 1, 3, 1, 1, 0] [0, l1, x1, l3, l4, l5, 0] rfl r_x1 (Nat.le_of_ble_eq_true rfl) rfl rfl dX4_lackOfSeven_53 ?_
  refine ji_iinc (pc := 54) l5 (fun w => [0, l1, x1, l3, l4, w, 0]) rfl rfl rfl (fun _ => rfl) hF dX4_lackOfSeven_54 (fun x2 r_x2 hF => ?_)
  refine jg_goto (pc := 57) 13 dX4_lackOfSeven_57 rfl ?_
  refine jg_norm [0, 1, 1, 3, 1, 1, 0] [0, l1, x1, l3, l4, x2, 0] rfl rfl ?_
  exact hk13 _ _ _ _ _ _ hF
set_option maxRecDepth 100000 in
set_option maxHeartbeats 4000000 in
theorem obX4_lackOfSeven_38 {E : jEnv} {Rr : Int → jMem → Prop} {k13 : Int → Int → Int → Int → Int → jMem → jO} (hk13 : ∀ (l1 l2 l3 l4 l5 : Int) (s : jMem), jHo Rr (k13 l1 l2 l3 l4 l5 s) → jGo E MX4_lackOfSeven 1 Rr [0, 1, 1, 3, 1, 1, 0] 13 [0, l1, l2, l3, l4, l5, 0] ([]) s) : ∀ (l2 l3 l4 l5 l6 t0 t1 : Int) (s : jMem), jR 1 t0 → jR 1 t1 → jHo Rr (bX4_lackOfSeven_38 k13 l2 l3 l4 l5 l6 t0 t1 s) → jGo E MX4_lackOfSeven 1 Rr [0, 0, 1, 3, 1, 1, 1] 38 [0, 0, l2, l3, l4, l5, l6] (jV E 1 t1 :: jV E 1 t0 :: []) s := by
  intro l2 l3 l4 l5 l6 t0 t1 s0 r_t0 r_t1 hF
  unfold bX4_lackOfSeven_38 at hF
  refine ji_iadd (pc := 38)  hF dX4_lackOfSeven_38 (fun x1 r_x1 hF => ?_)
  refine ji_istore_n (n := 1) (pc := 39) [0, 1, 1, 3, 1, 1, 1] [0, x1, l2, l3, l4, l5, l6] rfl r_x1 (Nat.le_of_ble_eq_true rfl) rfl rfl dX4_lackOfSeven_39 ?_
  refine ji_iload_n (n := 2) (pc := 40) l2 rfl rfl rfl dX4_lackOfSeven_40 (fun r2 => ?_)
  refine ji_iload (pc := 41) l6 rfl rfl dX4_lackOfSeven_41 (fun r3 => ?_)
  refine ji_iconst (pc := 43) dX4_lackOfSeven_43 ?_
  refine ji_icmp_lt 51 (pc := 44) r3 (jRc rfl) hF dX4_lackOfSeven_44 rfl (fun hF => ?_) (fun hF => ?_)
  · refine ji_iconst (pc := 51) dX4_lackOfSeven_51 ?_
    refine jg_norm [0, 1, 0, 3, 1, 1, 0] [0, x1, 0, l3, l4, l5, 0] rfl rfl ?_
    exact obX4_lackOfSeven_52 hk13 _ _ _ _ _ _ _ r2 (jRc rfl) hF
  · refine ji_iconst (pc := 47) dX4_lackOfSeven_47 ?_
    refine jg_goto (pc := 48) 52 dX4_lackOfSeven_48 rfl ?_
    refine jg_norm [0, 1, 0, 3, 1, 1, 0] [0, x1, 0, l3, l4, l5, 0] rfl rfl ?_
    exact obX4_lackOfSeven_52 hk13 _ _ _ _ _ _ _ r2 (jRc rfl) hF
set_option maxRecDepth 100000 in
set_option maxHeartbeats 4000000 in
theorem obX4_lackOfSeven_13 {E : jEnv} {Rr : Int → jMem → Prop} {k60 : Int → Int → jMem → jO} (hk60 : ∀ (l1 l2 : Int) (s : jMem), jHo Rr (k60 l1 l2 s) → jGo E MX4_lackOfSeven 1 Rr [0, 1, 1, 0, 0, 0, 0] 60 [0, l1, l2, 0, 0, 0, 0] ([]) s) {rec : Int → Int → Int → Int → Int → jMem → jO} (hrec : ∀ (l1 l2 l3 l4 l5 : Int) (s : jMem), jHo Rr (rec l1 l2 l3 l4 l5 s) → jGo E MX4_lackOfSeven 1 Rr [0, 1, 1, 3, 1, 1, 0] 13 [0, l1, l2, l3, l4, l5, 0] ([]) s) : ∀ (l1 l2 l3 l4 l5 : Int) (s : jMem), jHo Rr (bX4_lackOfSeven_13 k60 rec l1 l2 l3 l4 l5 s) → jGo E MX4_lackOfSeven 1 Rr [0, 1, 1, 3, 1, 1, 0] 13 [0, l1, l2, l3, l4, l5, 0] ([]) s := by
  intro l1 l2 l3 l4 l5 s0 hF
  unfold bX4_lackOfSeven_13 at hF
  refine ji_iload (pc := 13) l5 rfl rfl dX4_lackOfSeven_13 (fun r1 => ?_)
  refine ji_iload (pc := 15) l4 rfl rfl dX4_lackOfSeven_15 (fun r2 => ?_)
  refine ji_icmp_ge 60 (pc := 17) r1 r2 hF dX4_lackOfSeven_17 rfl (fun hF => ?_) (fun hF => ?_)
  · refine jg_norm [0, 1, 1, 0, 0, 0, 0] [0, l1, l2, 0, 0, 0, 0] rfl rfl ?_
    exact hk60 _ _ _ hF
  · refine ji_aload_n (n := 3) (pc := 20) l3 rfl rfl rfl dX4_lackOfSeven_20 (fun r3 => ?_)
    refine ji_iload (pc := 21) l5 rfl rfl dX4_lackOfSeven_21 (fun r4 => ?_)
    refine ji_iaload (pc := 23) r3 r4 hF dX4_lackOfSeven_23 (fun x5 r_x5 hF => ?_)
    refine ji_istore (n := 6) (pc := 24) [0, 1, 1, 3, 1, 1, 1] [0, l1, l2, l3, l4, l5, x5] r_x5 (Nat.le_of_ble_eq_true rfl) rfl rfl dX4_lackOfSeven_24 ?_
    refine ji_iload_n (n := 1) (pc := 26) l1 rfl rfl rfl dX4_lackOfSeven_26 (fun r6 => ?_)
    refine ji_iload (pc := 27) x5 rfl rfl dX4_lackOfSeven_27 (fun r7 => ?_)
    refine ji_iconst (pc := 29) dX4_lackOfSeven_29 ?_
    refine ji_icmp_lt 37 (pc := 30) r7 (jRc rfl) hF dX4_lackOfSeven_30 rfl (fun hF => ?_) (fun hF => ?_)
    · refine ji_iconst (pc := 37) dX4_lackOfSeven_37 ?_
      refine jg_norm [0, 0, 1, 3, 1, 1, 1] [0, 0, l2, l3, l4, l5, x5] rfl rfl ?_
      exact obX4_lackOfSeven_38 hrec _ _ _ _ _ _ _ _ r6 (jRc rfl) hF
    · refine ji_iconst (pc := 33) dX4_lackOfSeven_33 ?_
      refine jg_goto (pc := 34) 38 dX4_lackOfSeven_34 rfl ?_
      refine jg_norm [0, 0, 1, 3, 1, 1, 1] [0, 0, l2, l3, l4, l5, x5] rfl rfl ?_
      exact obX4_lackOfSeven_38 hrec _ _ _ _ _ _ _ _ r6 (jRc rfl) hF
theorem obX4_lackOfSeven_13W {E : jEnv} {Rr : Int → jMem → Prop} {k60 : Int → Int → jMem → jO} (hk60 : ∀ (l1 l2 : Int) (s : jMem), jHo Rr (k60 l1 l2 s) → jGo E MX4_lackOfSeven 1 Rr [0, 1, 1, 0, 0, 0, 0] 60 [0, l1, l2, 0, 0, 0, 0] ([]) s) : ∀ n : Nat, ∀ (l1 l2 l3 l4 l5 : Int) (s : jMem), jHo Rr (jIt (fun _ _ _ _ _ _ => none) (bX4_lackOfSeven_13 k60) n l1 l2 l3 l4 l5 s) → jGo E MX4_lackOfSeven 1 Rr [0, 1, 1, 3, 1, 1, 0] 13 [0, l1, l2, l3, l4, l5, 0] ([]) s := by
  intro n
  induction n with
  | zero => intro l1 l2 l3 l4 l5 s hF; exact jHo_none hF
  | succ n ih => exact obX4_lackOfSeven_13 hk60 ih

set_option maxRecDepth 100000 in
set_option maxHeartbeats 4000000 in
theorem obX4_lackOfSeven_60 {E : jEnv} {Rr : Int → jMem → Prop} : ∀ (l1 l2 : Int) (s : jMem), jHo Rr (bX4_lackOfSeven_60 l1 l2 s) → jGo E MX4_lackOfSeven 1 Rr [0, 1, 1, 0, 0, 0, 0] 60 [0, l1, l2, 0, 0, 0, 0] ([]) s := by
  intro l1 l2 s0 hF
  unfold bX4_lackOfSeven_60 at hF
  refine jg_bipush (pc := 60) rfl dX4_lackOfSeven_60 ?_
  refine ji_iload_n (n := 1) (pc := 62) l1 rfl rfl rfl dX4_lackOfSeven_62 (fun r1 => ?_)
  refine jg_bipush (pc := 63) rfl dX4_lackOfSeven_63 ?_
  refine ji_min (pc := 65) r1 (jRc rfl) (Nat.le_of_ble_eq_true rfl) (Nat.le_of_ble_eq_true rfl) ⟨wlX4_16, wq_min⟩ hF dX4_lackOfSeven_65 (fun x2 r_x2 hF => ?_)
  refine ji_isub (pc := 68)  hF dX4_lackOfSeven_68 (fun x3 r_x3 hF => ?_)
  refine ji_iload_n (n := 2) (pc := 69) l2 rfl rfl rfl dX4_lackOfSeven_69 (fun r4 => ?_)
  refine jg_bipush (pc := 70) rfl dX4_lackOfSeven_70 ?_
  refine ji_min (pc := 72) r4 (jRc rfl) (Nat.le_of_ble_eq_true rfl) (Nat.le_of_ble_eq_true rfl) ⟨wlX4_16, wq_min⟩ hF dX4_lackOfSeven_72 (fun x5 r_x5 hF => ?_)
  refine ji_isub (pc := 75)  hF dX4_lackOfSeven_75 (fun x6 r_x6 hF => ?_)
  exact ji_reti (pc := 76) rfl r_x6 hF dX4_lackOfSeven_76
set_option maxRecDepth 100000 in
set_option maxHeartbeats 4000000 in
theorem oX4_lackOfSeven : jOk MX4_lackOfSeven [3] 1 (jFn gX4_lackOfSeven) := by
  refine jOk_fn (by decide +kernel) (Nat.le_of_ble_eq_true rfl) (by decide +kernel) (.inr (.inl rfl)) ?_
  intro E vs s0 Rr hF ha
  obtain ⟨l0, t0, rfl, r_l0, ha⟩ := jRa_ci ha
  obtain rfl := jRa_ni ha
  replace hF : jHo Rr (fX4_lackOfSeven l0 s0) := hF
  refine jg_norm [3, 0, 0, 0, 0, 0, 0] [l0, 0, 0, 0, 0, 0, 0] rfl rfl ?_
  unfold fX4_lackOfSeven at hF
  refine ji_iconst (pc := 0) dX4_lackOfSeven_0 ?_
  refine ji_istore_n (n := 1) (pc := 1) [3, 1, 0, 0, 0, 0, 0] [l0, 0, 0, 0, 0, 0, 0] rfl (jRc rfl) (Nat.le_of_ble_eq_true rfl) rfl rfl dX4_lackOfSeven_1 ?_
  refine ji_iconst (pc := 2) dX4_lackOfSeven_2 ?_
  refine ji_istore_n (n := 2) (pc := 3) [3, 1, 1, 0, 0, 0, 0] [l0, 0, 0, 0, 0, 0, 0] rfl (jRc rfl) (Nat.le_of_ble_eq_true rfl) rfl rfl dX4_lackOfSeven_3 ?_
  refine ji_aload_n (n := 0) (pc := 4) l0 rfl rfl rfl dX4_lackOfSeven_4 (fun r1 => ?_)
  refine ji_astore_n (n := 3) (pc := 5) [3, 1, 1, 3, 0, 0, 0] [l0, 0, 0, l0, 0, 0, 0] rfl r1 (Nat.le_of_ble_eq_true rfl) rfl rfl dX4_lackOfSeven_5 ?_
  refine ji_aload_n (n := 3) (pc := 6) l0 rfl rfl rfl dX4_lackOfSeven_6 (fun r2 => ?_)
  refine ji_alen (pc := 7) r2 hF dX4_lackOfSeven_7 (fun x3 r_x3 hF => ?_)
  refine ji_istore (n := 4) (pc := 8) [3, 1, 1, 3, 1, 0, 0] [l0, 0, 0, l0, x3, 0, 0] r_x3 (Nat.le_of_ble_eq_true rfl) rfl rfl dX4_lackOfSeven_8 ?_
  refine ji_iconst (pc := 10) dX4_lackOfSeven_10 ?_
  refine ji_istore (n := 5) (pc := 11) [3, 1, 1, 3, 1, 1, 0] [l0, 0, 0, l0, x3, 0, 0] (jRc rfl) (Nat.le_of_ble_eq_true rfl) rfl rfl dX4_lackOfSeven_11 ?_
  refine jg_norm [0, 1, 1, 3, 1, 1, 0] [0, 0, 0, l0, x3, 0, 0] rfl rfl ?_
  exact obX4_lackOfSeven_13W obX4_lackOfSeven_60 1000 _ _ _ _ _ _ hF
def fX2_isSeven (l1 : Int) (s0 : jMem) : jO :=
jLet (s0 6 0) fun x2 =>
if x2 = 0 then (
jRet 0 s0)
else (
jGd (jcl l1 = 0) <| jLet (s0 l1 4) fun x5 =>
if x5 = 0 then (
jLet (jrf l1 0) fun x7 =>
jBd (fX4_lackOfSeven x7 s0) fun x8 s9 =>
if x8 = 0 then (
jRet 1 s9)
else (
jRet 0 s9))
else (
jRet 0 s0))
def gX2_isSeven (vs : List Int) (s : jMem) : jO := match vs with
  | [a0, a1] => jGd (a0 = 16) <| fX2_isSeven a1 s
  | _ => none
set_option maxRecDepth 100000 in
set_option maxHeartbeats 4000000 in
theorem oX2_isSeven : jOk MX2_isSeven [3, 3] 2 (jFn gX2_isSeven) := by
  refine jOk_fn (by decide +kernel) (Nat.le_of_ble_eq_true rfl) (by decide +kernel) (.inr (.inr (.inr rfl))) ?_
  intro E vs s0 Rr hF ha
  obtain ⟨l0, t0, rfl, r_l0, ha⟩ := jRa_ci ha
  obtain ⟨l1, t1, rfl, r_l1, ha⟩ := jRa_ci ha
  obtain rfl := jRa_ni ha
  replace hF : jHo Rr (jGd (l0 = 16) <| fX2_isSeven l1 s0) := hF
  have hG := jHo_as hF
  clear hF
  obtain ⟨rfl, hF⟩ := hG
  refine jg_norm [3, 3] [16, l1] rfl rfl ?_
  unfold fX2_isSeven at hF
  refine ji_aload_n (n := 0) (pc := 0) 16 rfl rfl rfl dX2_isSeven_0 (fun r1 => ?_)
  refine ji_getr (pc := 1) 6 wfX2_35 (jRc3 rfl) jcl_16 jrf_16_2 dX2_isSeven_1 ?_
  refine ji_getfz (pc := 4) wfX2_86 (jRc3 rfl) jcl_6 hF dX2_isSeven_4 (fun x2 r_x2 hF => ?_)
  refine ji_if_eq 31 (pc := 7) (jR51 r_x2) hF dX2_isSeven_7 rfl (fun hF => ?_) (fun hF => ?_)
  · refine ji_iconst (pc := 31) dX2_isSeven_31 ?_
    exact ji_retz (pc := 32) rfl (jRc5 rfl) hF dX2_isSeven_32
  · refine ji_aload_n (n := 1) (pc := 10) l1 rfl rfl rfl dX2_isSeven_10 (fun r3 => ?_)
    obtain ⟨h4, hF⟩ := jHo_as hF
    refine ji_getfi (pc := 11) wfX2_92 r3 h4 hF dX2_isSeven_11 (fun x5 r_x5 hF => ?_)
    refine ji_if_ne 31 (pc := 14) r_x5 hF dX2_isSeven_14 rfl (fun hF => ?_) (fun hF => ?_)
    · refine ji_iconst (pc := 31) dX2_isSeven_31 ?_
      exact ji_retz (pc := 32) rfl (jRc5 rfl) hF dX2_isSeven_32
    · refine ji_aload_n (n := 1) (pc := 17) l1 rfl rfl rfl dX2_isSeven_17 (fun r6 => ?_)
      refine ji_getrL (pc := 18) wfX2_71 r6 h4 hF dX2_isSeven_18 (fun x7 r_x7 hF => ?_)
      refine ji_callSi (pc := 21) [x7] ([]) oX4_lackOfSeven wlX2_95 wmX4_lackOfSeven rfl rfl (Nat.le_of_ble_eq_true rfl) (jRaC r_x7 jRa0) rfl rfl (Nat.le_of_ble_eq_true rfl) hF dX2_isSeven_21 (fun x8 s9 r_x8 hF => ?_)
      refine ji_if_ne 31 (pc := 24) r_x8 hF dX2_isSeven_24 rfl (fun hF => ?_) (fun hF => ?_)
      · refine ji_iconst (pc := 31) dX2_isSeven_31 ?_
        exact ji_retz (pc := 32) rfl (jRc5 rfl) hF dX2_isSeven_32
      · refine ji_iconst (pc := 27) dX2_isSeven_27 ?_
        refine jg_goto (pc := 28) 32 dX2_isSeven_28 rfl ?_
        exact ji_retz (pc := 32) rfl (jRc5 rfl) hF dX2_isSeven_32
def fX8_isOuter (l0 : Int) (s0 : jMem) : jO :=
jGd (¬ (9 : Int) = 0) <| jLet (jrem l0 9) fun x2 =>
if 27 ≤ l0 then (
jRet 1 s0)
else (
if x2 = 0 then (
jRet 1 s0)
else (
if x2 = 8 then (
jRet 1 s0)
else (
jRet 0 s0)))
def gX8_isOuter (vs : List Int) (s : jMem) : jO := match vs with
  | [a0] => fX8_isOuter a0 s
  | _ => none
set_option maxRecDepth 100000 in
set_option maxHeartbeats 4000000 in
theorem oX8_isOuter : jOk MX8_isOuter [1] 0 (jFn gX8_isOuter) := by
  refine jOk_fn (by decide +kernel) (Nat.le_of_ble_eq_true rfl) (by decide +kernel) (.inr (.inr (.inr rfl))) ?_
  intro E vs s0 Rr hF ha
  obtain ⟨l0, t0, rfl, r_l0, ha⟩ := jRa_ci ha
  obtain rfl := jRa_ni ha
  replace hF : jHo Rr (fX8_isOuter l0 s0) := hF
  refine jg_norm [1, 0] [l0, 0] rfl rfl ?_
  unfold fX8_isOuter at hF
  refine ji_iload_n (n := 0) (pc := 0) l0 rfl rfl rfl dX8_isOuter_0 (fun r1 => ?_)
  refine jg_bipush (pc := 1) rfl dX8_isOuter_1 ?_
  refine ji_irem (pc := 3) (jRc rfl) hF dX8_isOuter_3 (fun x2 r_x2 hF => ?_)
  refine ji_istore_n (n := 1) (pc := 4) [1, 1] [l0, x2] rfl r_x2 (Nat.le_of_ble_eq_true rfl) rfl rfl dX8_isOuter_4 ?_
  refine ji_iload_n (n := 0) (pc := 5) l0 rfl rfl rfl dX8_isOuter_5 (fun r3 => ?_)
  refine jg_bipush (pc := 6) rfl dX8_isOuter_6 ?_
  refine ji_icmp_ge 21 (pc := 8) r3 (jRc rfl) hF dX8_isOuter_8 rfl (fun hF => ?_) (fun hF => ?_)
  · refine ji_iconst (pc := 21) dX8_isOuter_21 ?_
    refine jg_goto (pc := 22) 26 dX8_isOuter_22 rfl ?_
    exact ji_retz (pc := 26) rfl (jRc5 rfl) hF dX8_isOuter_26
  · refine ji_iload_n (n := 1) (pc := 11) x2 rfl rfl rfl dX8_isOuter_11 (fun r4 => ?_)
    refine ji_if_eq 21 (pc := 12) r4 hF dX8_isOuter_12 rfl (fun hF => ?_) (fun hF => ?_)
    · refine ji_iconst (pc := 21) dX8_isOuter_21 ?_
      refine jg_goto (pc := 22) 26 dX8_isOuter_22 rfl ?_
      exact ji_retz (pc := 26) rfl (jRc5 rfl) hF dX8_isOuter_26
    · refine ji_iload_n (n := 1) (pc := 15) x2 rfl rfl rfl dX8_isOuter_15 (fun r5 => ?_)
      refine jg_bipush (pc := 16) rfl dX8_isOuter_16 ?_
      refine ji_icmp_ne 25 (pc := 18) r5 (jRc rfl) hF dX8_isOuter_18 rfl (fun hF => ?_) (fun hF => ?_)
      · refine ji_iconst (pc := 25) dX8_isOuter_25 ?_
        exact ji_retz (pc := 26) rfl (jRc5 rfl) hF dX8_isOuter_26
      · refine ji_iconst (pc := 21) dX8_isOuter_21 ?_
        refine jg_goto (pc := 22) 26 dX8_isOuter_22 rfl ?_
        exact ji_retz (pc := 26) rfl (jRc5 rfl) hF dX8_isOuter_26
def bX4_hasOuterPair_24 (k2 : Int → Int → jMem → jO) (l0 l1 : Int) (s0 : jMem) : jO :=
jLet (j32 (l1 + 1)) fun x1 =>
k2 l0 x1 s0
def bX4_hasOuterPair_2 (rec : Int → Int → jMem → jO) (l0 l1 : Int) (s0 : jMem) : jO :=
if 34 ≤ l1 then (
jRet 0 s0)
else (
jBd (fX8_isOuter l1 s0) fun x3 s4 =>
if x3 = 0 then (
bX4_hasOuterPair_24 rec l0 l1 s4)
else (
jGd ((0 : Int) ≤ l1 ∧ l1 < jik l0) <| jLet (s4 l0 l1) fun x7 =>
if x7 < 2 then (
bX4_hasOuterPair_24 rec l0 l1 s4)
else (
jRet 1 s4)))
def fX4_hasOuterPair (l0 : Int) (s0 : jMem) : jO :=
jIt (fun _ _ _ => none) (bX4_hasOuterPair_2) 1000 l0 0 s0
def gX4_hasOuterPair (vs : List Int) (s : jMem) : jO := match vs with
  | [a0] => fX4_hasOuterPair a0 s
  | _ => none
set_option maxRecDepth 100000 in
set_option maxHeartbeats 4000000 in
theorem obX4_hasOuterPair_24 {E : jEnv} {Rr : Int → jMem → Prop} {k2 : Int → Int → jMem → jO} (hk2 : ∀ (l0 l1 : Int) (s : jMem), jHo Rr (k2 l0 l1 s) → jGo E MX4_hasOuterPair 1 Rr [3, 1] 2 [l0, l1] ([]) s) : ∀ (l0 l1 : Int) (s : jMem), jHo Rr (bX4_hasOuterPair_24 k2 l0 l1 s) → jGo E MX4_hasOuterPair 1 Rr [3, 1] 24 [l0, l1] ([]) s := by
  intro l0 l1 s0 hF
  unfold bX4_hasOuterPair_24 at hF
  refine ji_iinc (pc := 24) l1 (fun w => [l0, w]) rfl rfl rfl (fun _ => rfl) hF dX4_hasOuterPair_24 (fun x1 r_x1 hF => ?_)
  refine jg_goto (pc := 27) 2 dX4_hasOuterPair_27 rfl ?_
  refine jg_norm [3, 1] [l0, x1] rfl rfl ?_
  exact hk2 _ _ _ hF
set_option maxRecDepth 100000 in
set_option maxHeartbeats 4000000 in
theorem obX4_hasOuterPair_2 {E : jEnv} {Rr : Int → jMem → Prop} {rec : Int → Int → jMem → jO} (hrec : ∀ (l0 l1 : Int) (s : jMem), jHo Rr (rec l0 l1 s) → jGo E MX4_hasOuterPair 1 Rr [3, 1] 2 [l0, l1] ([]) s) : ∀ (l0 l1 : Int) (s : jMem), jHo Rr (bX4_hasOuterPair_2 rec l0 l1 s) → jGo E MX4_hasOuterPair 1 Rr [3, 1] 2 [l0, l1] ([]) s := by
  intro l0 l1 s0 hF
  unfold bX4_hasOuterPair_2 at hF
  refine ji_iload_n (n := 1) (pc := 2) l1 rfl rfl rfl dX4_hasOuterPair_2 (fun r1 => ?_)
  refine jg_bipush (pc := 3) rfl dX4_hasOuterPair_3 ?_
  refine ji_icmp_ge 30 (pc := 5) r1 (jRc rfl) hF dX4_hasOuterPair_5 rfl (fun hF => ?_) (fun hF => ?_)
  · refine ji_iconst (pc := 30) dX4_hasOuterPair_30 ?_
    exact ji_retz (pc := 31) rfl (jRc5 rfl) hF dX4_hasOuterPair_31
  · refine ji_iload_n (n := 1) (pc := 8) l1 rfl rfl rfl dX4_hasOuterPair_8 (fun r2 => ?_)
    refine ji_callSz (pc := 9) [l1] ([]) oX8_isOuter wlX4_24 wmX8_isOuter rfl rfl (Nat.le_of_ble_eq_true rfl) (jRaC r2 jRa0) rfl rfl (Nat.le_of_ble_eq_true rfl) hF dX4_hasOuterPair_9 (fun x3 s4 r_x3 hF => ?_)
    refine ji_if_eq 24 (pc := 12) (jR51 r_x3) hF dX4_hasOuterPair_12 rfl (fun hF => ?_) (fun hF => ?_)
    · refine jg_norm [3, 1] [l0, l1] rfl rfl ?_
      exact obX4_hasOuterPair_24 hrec _ _ _ hF
    · refine ji_aload_n (n := 0) (pc := 15) l0 rfl rfl rfl dX4_hasOuterPair_15 (fun r5 => ?_)
      refine ji_iload_n (n := 1) (pc := 16) l1 rfl rfl rfl dX4_hasOuterPair_16 (fun r6 => ?_)
      refine ji_iaload (pc := 17) r5 r6 hF dX4_hasOuterPair_17 (fun x7 r_x7 hF => ?_)
      refine ji_iconst (pc := 18) dX4_hasOuterPair_18 ?_
      refine ji_icmp_lt 24 (pc := 19) r_x7 (jRc rfl) hF dX4_hasOuterPair_19 rfl (fun hF => ?_) (fun hF => ?_)
      · refine jg_norm [3, 1] [l0, l1] rfl rfl ?_
        exact obX4_hasOuterPair_24 hrec _ _ _ hF
      · refine ji_iconst (pc := 22) dX4_hasOuterPair_22 ?_
        exact ji_retz (pc := 23) rfl (jRc5 rfl) hF dX4_hasOuterPair_23
theorem obX4_hasOuterPair_2W {E : jEnv} {Rr : Int → jMem → Prop} : ∀ n : Nat, ∀ (l0 l1 : Int) (s : jMem), jHo Rr (jIt (fun _ _ _ => none) (bX4_hasOuterPair_2) n l0 l1 s) → jGo E MX4_hasOuterPair 1 Rr [3, 1] 2 [l0, l1] ([]) s := by
  intro n
  induction n with
  | zero => intro l0 l1 s hF; exact jHo_none hF
  | succ n ih => exact obX4_hasOuterPair_2 ih

set_option maxRecDepth 100000 in
set_option maxHeartbeats 4000000 in
theorem oX4_hasOuterPair : jOk MX4_hasOuterPair [3] 1 (jFn gX4_hasOuterPair) := by
  refine jOk_fn (by decide +kernel) (Nat.le_of_ble_eq_true rfl) (by decide +kernel) (.inr (.inr (.inr rfl))) ?_
  intro E vs s0 Rr hF ha
  obtain ⟨l0, t0, rfl, r_l0, ha⟩ := jRa_ci ha
  obtain rfl := jRa_ni ha
  replace hF : jHo Rr (fX4_hasOuterPair l0 s0) := hF
  refine jg_norm [3, 0] [l0, 0] rfl rfl ?_
  unfold fX4_hasOuterPair at hF
  refine ji_iconst (pc := 0) dX4_hasOuterPair_0 ?_
  refine ji_istore_n (n := 1) (pc := 1) [3, 1] [l0, 0] rfl (jRc rfl) (Nat.le_of_ble_eq_true rfl) rfl rfl dX4_hasOuterPair_1 ?_
  refine jg_norm [3, 1] [l0, 0] rfl rfl ?_
  exact obX4_hasOuterPair_2W 1000 _ _ _ hF
def bX4_lackOfOuter_26 (k4 : Int → Int → Int → jMem → jO) (l0 l1 l2 : Int) (s0 : jMem) : jO :=
jLet (j32 (l2 + 1)) fun x1 =>
k4 l0 l1 x1 s0
def bX4_lackOfOuter_4 (k32 : Int → Int → jMem → jO) (rec : Int → Int → Int → jMem → jO) (l0 l1 l2 : Int) (s0 : jMem) : jO :=
if 34 ≤ l2 then (
k32 l0 l1 s0)
else (
jBd (fX8_isOuter l2 s0) fun x3 s4 =>
if x3 = 0 then (
bX4_lackOfOuter_26 rec l0 l1 l2 s4)
else (
jGd ((0 : Int) ≤ l2 ∧ l2 < jik l0) <| jLet (s4 l0 l2) fun x7 =>
if x7 ≤ 0 then (
bX4_lackOfOuter_26 rec l0 l1 l2 s4)
else (
jLet (j32 (l1 + 1)) fun x8 =>
bX4_lackOfOuter_26 rec l0 x8 l2 s4)))
def bX4_lackOfOuter_32 (l0 l1 : Int) (s0 : jMem) : jO :=
jLet (j32 (13 - l1)) fun x2 =>
jBd (fX4_hasOuterPair l0 s0) fun x4 s5 =>
if x4 = 0 then (
jLet (j32 (x2 + 1)) fun x6 =>
jRet x6 s5)
else (
jLet (j32 (x2 + 0)) fun x7 =>
jRet x7 s5)
def fX4_lackOfOuter (l0 : Int) (s0 : jMem) : jO :=
jIt (fun _ _ _ _ => none) (bX4_lackOfOuter_4 bX4_lackOfOuter_32) 1000 l0 0 0 s0
def gX4_lackOfOuter (vs : List Int) (s : jMem) : jO := match vs with
  | [a0] => fX4_lackOfOuter a0 s
  | _ => none
set_option maxRecDepth 100000 in
set_option maxHeartbeats 4000000 in
theorem obX4_lackOfOuter_26 {E : jEnv} {Rr : Int → jMem → Prop} {k4 : Int → Int → Int → jMem → jO} (hk4 : ∀ (l0 l1 l2 : Int) (s : jMem), jHo Rr (k4 l0 l1 l2 s) → jGo E MX4_lackOfOuter 2 Rr [3, 1, 1] 4 [l0, l1, l2] ([]) s) : ∀ (l0 l1 l2 : Int) (s : jMem), jHo Rr (bX4_lackOfOuter_26 k4 l0 l1 l2 s) → jGo E MX4_lackOfOuter 2 Rr [3, 1, 1] 26 [l0, l1, l2] ([]) s := by
  intro l0 l1 l2 s0 hF
  unfold bX4_lackOfOuter_26 at hF
  refine ji_iinc (pc := 26) l2 (fun w => [l0, l1, w]) rfl rfl rfl (fun _ => rfl) hF dX4_lackOfOuter_26 (fun x1 r_x1 hF => ?_)
  refine jg_goto (pc := 29) 4 dX4_lackOfOuter_29 rfl ?_
  refine jg_norm [3, 1, 1] [l0, l1, x1] rfl rfl ?_
  exact hk4 _ _ _ _ hF
set_option maxRecDepth 100000 in
set_option maxHeartbeats 4000000 in
theorem obX4_lackOfOuter_4 {E : jEnv} {Rr : Int → jMem → Prop} {k32 : Int → Int → jMem → jO} (hk32 : ∀ (l0 l1 : Int) (s : jMem), jHo Rr (k32 l0 l1 s) → jGo E MX4_lackOfOuter 2 Rr [3, 1, 0] 32 [l0, l1, 0] ([]) s) {rec : Int → Int → Int → jMem → jO} (hrec : ∀ (l0 l1 l2 : Int) (s : jMem), jHo Rr (rec l0 l1 l2 s) → jGo E MX4_lackOfOuter 2 Rr [3, 1, 1] 4 [l0, l1, l2] ([]) s) : ∀ (l0 l1 l2 : Int) (s : jMem), jHo Rr (bX4_lackOfOuter_4 k32 rec l0 l1 l2 s) → jGo E MX4_lackOfOuter 2 Rr [3, 1, 1] 4 [l0, l1, l2] ([]) s := by
  intro l0 l1 l2 s0 hF
  unfold bX4_lackOfOuter_4 at hF
  refine ji_iload_n (n := 2) (pc := 4) l2 rfl rfl rfl dX4_lackOfOuter_4 (fun r1 => ?_)
  refine jg_bipush (pc := 5) rfl dX4_lackOfOuter_5 ?_
  refine ji_icmp_ge 32 (pc := 7) r1 (jRc rfl) hF dX4_lackOfOuter_7 rfl (fun hF => ?_) (fun hF => ?_)
  · refine jg_norm [3, 1, 0] [l0, l1, 0] rfl rfl ?_
    exact hk32 _ _ _ hF
  · refine ji_iload_n (n := 2) (pc := 10) l2 rfl rfl rfl dX4_lackOfOuter_10 (fun r2 => ?_)
    refine ji_callSz (pc := 11) [l2] ([]) oX8_isOuter wlX4_24 wmX8_isOuter rfl rfl (Nat.le_of_ble_eq_true rfl) (jRaC r2 jRa0) rfl rfl (Nat.le_of_ble_eq_true rfl) hF dX4_lackOfOuter_11 (fun x3 s4 r_x3 hF => ?_)
    refine ji_if_eq 26 (pc := 14) (jR51 r_x3) hF dX4_lackOfOuter_14 rfl (fun hF => ?_) (fun hF => ?_)
    · refine jg_norm [3, 1, 1] [l0, l1, l2] rfl rfl ?_
      exact obX4_lackOfOuter_26 hrec _ _ _ _ hF
    · refine ji_aload_n (n := 0) (pc := 17) l0 rfl rfl rfl dX4_lackOfOuter_17 (fun r5 => ?_)
      refine ji_iload_n (n := 2) (pc := 18) l2 rfl rfl rfl dX4_lackOfOuter_18 (fun r6 => ?_)
      refine ji_iaload (pc := 19) r5 r6 hF dX4_lackOfOuter_19 (fun x7 r_x7 hF => ?_)
      refine ji_if_le 26 (pc := 20) r_x7 hF dX4_lackOfOuter_20 rfl (fun hF => ?_) (fun hF => ?_)
      · refine jg_norm [3, 1, 1] [l0, l1, l2] rfl rfl ?_
        exact obX4_lackOfOuter_26 hrec _ _ _ _ hF
      · refine ji_iinc (pc := 23) l1 (fun w => [l0, w, l2]) rfl rfl rfl (fun _ => rfl) hF dX4_lackOfOuter_23 (fun x8 r_x8 hF => ?_)
        refine jg_norm [3, 1, 1] [l0, x8, l2] rfl rfl ?_
        exact obX4_lackOfOuter_26 hrec _ _ _ _ hF
theorem obX4_lackOfOuter_4W {E : jEnv} {Rr : Int → jMem → Prop} {k32 : Int → Int → jMem → jO} (hk32 : ∀ (l0 l1 : Int) (s : jMem), jHo Rr (k32 l0 l1 s) → jGo E MX4_lackOfOuter 2 Rr [3, 1, 0] 32 [l0, l1, 0] ([]) s) : ∀ n : Nat, ∀ (l0 l1 l2 : Int) (s : jMem), jHo Rr (jIt (fun _ _ _ _ => none) (bX4_lackOfOuter_4 k32) n l0 l1 l2 s) → jGo E MX4_lackOfOuter 2 Rr [3, 1, 1] 4 [l0, l1, l2] ([]) s := by
  intro n
  induction n with
  | zero => intro l0 l1 l2 s hF; exact jHo_none hF
  | succ n ih => exact obX4_lackOfOuter_4 hk32 ih

set_option maxRecDepth 100000 in
set_option maxHeartbeats 4000000 in
theorem obX4_lackOfOuter_32 {E : jEnv} {Rr : Int → jMem → Prop} : ∀ (l0 l1 : Int) (s : jMem), jHo Rr (bX4_lackOfOuter_32 l0 l1 s) → jGo E MX4_lackOfOuter 2 Rr [3, 1, 0] 32 [l0, l1, 0] ([]) s := by
  intro l0 l1 s0 hF
  unfold bX4_lackOfOuter_32 at hF
  refine jg_bipush (pc := 32) rfl dX4_lackOfOuter_32 ?_
  refine ji_iload_n (n := 1) (pc := 34) l1 rfl rfl rfl dX4_lackOfOuter_34 (fun r1 => ?_)
  refine ji_isub (pc := 35)  hF dX4_lackOfOuter_35 (fun x2 r_x2 hF => ?_)
  refine ji_aload_n (n := 0) (pc := 36) l0 rfl rfl rfl dX4_lackOfOuter_36 (fun r3 => ?_)
  refine ji_callSz (pc := 37) [l0] (jV E 1 x2 :: []) oX4_hasOuterPair wlX4_28 wmX4_hasOuterPair rfl rfl (Nat.le_of_ble_eq_true rfl) (jRaC r3 jRa0) rfl rfl (Nat.le_of_ble_eq_true rfl) hF dX4_lackOfOuter_37 (fun x4 s5 r_x4 hF => ?_)
  refine ji_if_eq 47 (pc := 40) (jR51 r_x4) hF dX4_lackOfOuter_40 rfl (fun hF => ?_) (fun hF => ?_)
  · refine ji_iconst (pc := 47) dX4_lackOfOuter_47 ?_
    refine ji_iadd (pc := 48)  hF dX4_lackOfOuter_48 (fun x6 r_x6 hF => ?_)
    exact ji_reti (pc := 49) rfl r_x6 hF dX4_lackOfOuter_49
  · refine ji_iconst (pc := 43) dX4_lackOfOuter_43 ?_
    refine jg_goto (pc := 44) 48 dX4_lackOfOuter_44 rfl ?_
    refine ji_iadd (pc := 48)  hF dX4_lackOfOuter_48 (fun x7 r_x7 hF => ?_)
    exact ji_reti (pc := 49) rfl r_x7 hF dX4_lackOfOuter_49
set_option maxRecDepth 100000 in
set_option maxHeartbeats 4000000 in
theorem oX4_lackOfOuter : jOk MX4_lackOfOuter [3] 2 (jFn gX4_lackOfOuter) := by
  refine jOk_fn (by decide +kernel) (Nat.le_of_ble_eq_true rfl) (by decide +kernel) (.inr (.inl rfl)) ?_
  intro E vs s0 Rr hF ha
  obtain ⟨l0, t0, rfl, r_l0, ha⟩ := jRa_ci ha
  obtain rfl := jRa_ni ha
  replace hF : jHo Rr (fX4_lackOfOuter l0 s0) := hF
  refine jg_norm [3, 0, 0] [l0, 0, 0] rfl rfl ?_
  unfold fX4_lackOfOuter at hF
  refine ji_iconst (pc := 0) dX4_lackOfOuter_0 ?_
  refine ji_istore_n (n := 1) (pc := 1) [3, 1, 0] [l0, 0, 0] rfl (jRc rfl) (Nat.le_of_ble_eq_true rfl) rfl rfl dX4_lackOfOuter_1 ?_
  refine ji_iconst (pc := 2) dX4_lackOfOuter_2 ?_
  refine ji_istore_n (n := 2) (pc := 3) [3, 1, 1] [l0, 0, 0] rfl (jRc rfl) (Nat.le_of_ble_eq_true rfl) rfl rfl dX4_lackOfOuter_3 ?_
  refine jg_norm [3, 1, 1] [l0, 0, 0] rfl rfl ?_
  exact obX4_lackOfOuter_4W obX4_lackOfOuter_32 1000 _ _ _ _ hF
def fX2_isOuterOnes (l1 : Int) (s0 : jMem) : jO :=
jLet (s0 6 1) fun x2 =>
if x2 = 0 then (
jRet 0 s0)
else (
jGd (jcl l1 = 0) <| jLet (s0 l1 4) fun x5 =>
if x5 = 0 then (
jLet (jrf l1 0) fun x7 =>
jBd (fX4_lackOfOuter x7 s0) fun x8 s9 =>
if x8 = 0 then (
jRet 1 s9)
else (
jRet 0 s9))
else (
jRet 0 s0))
def gX2_isOuterOnes (vs : List Int) (s : jMem) : jO := match vs with
  | [a0, a1] => jGd (a0 = 16) <| fX2_isOuterOnes a1 s
  | _ => none
set_option maxRecDepth 100000 in
set_option maxHeartbeats 4000000 in
theorem oX2_isOuterOnes : jOk MX2_isOuterOnes [3, 3] 3 (jFn gX2_isOuterOnes) := by
  refine jOk_fn (by decide +kernel) (Nat.le_of_ble_eq_true rfl) (by decide +kernel) (.inr (.inr (.inr rfl))) ?_
  intro E vs s0 Rr hF ha
  obtain ⟨l0, t0, rfl, r_l0, ha⟩ := jRa_ci ha
  obtain ⟨l1, t1, rfl, r_l1, ha⟩ := jRa_ci ha
  obtain rfl := jRa_ni ha
  replace hF : jHo Rr (jGd (l0 = 16) <| fX2_isOuterOnes l1 s0) := hF
  have hG := jHo_as hF
  clear hF
  obtain ⟨rfl, hF⟩ := hG
  refine jg_norm [3, 3] [16, l1] rfl rfl ?_
  unfold fX2_isOuterOnes at hF
  refine ji_aload_n (n := 0) (pc := 0) 16 rfl rfl rfl dX2_isOuterOnes_0 (fun r1 => ?_)
  refine ji_getr (pc := 1) 6 wfX2_35 (jRc3 rfl) jcl_16 jrf_16_2 dX2_isOuterOnes_1 ?_
  refine ji_getfz (pc := 4) wfX2_98 (jRc3 rfl) jcl_6 hF dX2_isOuterOnes_4 (fun x2 r_x2 hF => ?_)
  refine ji_if_eq 31 (pc := 7) (jR51 r_x2) hF dX2_isOuterOnes_7 rfl (fun hF => ?_) (fun hF => ?_)
  · refine ji_iconst (pc := 31) dX2_isOuterOnes_31 ?_
    exact ji_retz (pc := 32) rfl (jRc5 rfl) hF dX2_isOuterOnes_32
  · refine ji_aload_n (n := 1) (pc := 10) l1 rfl rfl rfl dX2_isOuterOnes_10 (fun r3 => ?_)
    obtain ⟨h4, hF⟩ := jHo_as hF
    refine ji_getfi (pc := 11) wfX2_92 r3 h4 hF dX2_isOuterOnes_11 (fun x5 r_x5 hF => ?_)
    refine ji_if_ne 31 (pc := 14) r_x5 hF dX2_isOuterOnes_14 rfl (fun hF => ?_) (fun hF => ?_)
    · refine ji_iconst (pc := 31) dX2_isOuterOnes_31 ?_
      exact ji_retz (pc := 32) rfl (jRc5 rfl) hF dX2_isOuterOnes_32
    · refine ji_aload_n (n := 1) (pc := 17) l1 rfl rfl rfl dX2_isOuterOnes_17 (fun r6 => ?_)
      refine ji_getrL (pc := 18) wfX2_71 r6 h4 hF dX2_isOuterOnes_18 (fun x7 r_x7 hF => ?_)
      refine ji_callSi (pc := 21) [x7] ([]) oX4_lackOfOuter wlX2_101 wmX4_lackOfOuter rfl rfl (Nat.le_of_ble_eq_true rfl) (jRaC r_x7 jRa0) rfl rfl (Nat.le_of_ble_eq_true rfl) hF dX2_isOuterOnes_21 (fun x8 s9 r_x8 hF => ?_)
      refine ji_if_ne 31 (pc := 24) r_x8 hF dX2_isOuterOnes_24 rfl (fun hF => ?_) (fun hF => ?_)
      · refine ji_iconst (pc := 31) dX2_isOuterOnes_31 ?_
        exact ji_retz (pc := 32) rfl (jRc5 rfl) hF dX2_isOuterOnes_32
      · refine ji_iconst (pc := 27) dX2_isOuterOnes_27 ?_
        refine jg_goto (pc := 28) 32 dX2_isOuterOnes_28 rfl ?_
        exact ji_retz (pc := 32) rfl (jRc5 rfl) hF dX2_isOuterOnes_32
def fX2_howDone (l1 : Int) (s0 : jMem) : jO :=
jGd (jcl l1 = 0) <| jBd (fX1_isFull l1 s0) fun x3 s4 =>
if x3 = 0 then (
jRet (-2) s4)
else (
jBd (fX9_find l1 s4) fun x7 s8 =>
jLet (s8 17 4) fun x10 =>
if x10 ≤ 0 then (
jBd (fX2_isSeven l1 s8) fun x13 s14 =>
if x13 = 0 then (
jBd (fX2_isOuterOnes l1 s14) fun x17 s18 =>
if x17 = 0 then (
jRet 0 s18)
else (
jRet 3 s18))
else (
jRet 2 s14))
else (
jRet 1 s8))
def gX2_howDone (vs : List Int) (s : jMem) : jO := match vs with
  | [a0, a1] => jGd (a0 = 16) <| fX2_howDone a1 s
  | _ => none
set_option maxRecDepth 100000 in
set_option maxHeartbeats 4000000 in
theorem oX2_howDone : jOk MX2_howDone [3, 3] 10 (jFn gX2_howDone) := by
  refine jOk_fn (by decide +kernel) (Nat.le_of_ble_eq_true rfl) (by decide +kernel) (.inr (.inl rfl)) ?_
  intro E vs s0 Rr hF ha
  obtain ⟨l0, t0, rfl, r_l0, ha⟩ := jRa_ci ha
  obtain ⟨l1, t1, rfl, r_l1, ha⟩ := jRa_ci ha
  obtain rfl := jRa_ni ha
  replace hF : jHo Rr (jGd (l0 = 16) <| fX2_howDone l1 s0) := hF
  have hG := jHo_as hF
  clear hF
  obtain ⟨rfl, hF⟩ := hG
  refine jg_norm [3, 3] [16, l1] rfl rfl ?_
  unfold fX2_howDone at hF
  refine ji_aload_n (n := 1) (pc := 0) l1 rfl rfl rfl dX2_howDone_0 (fun r1 => ?_)
  obtain ⟨h2, hF⟩ := jHo_as hF
  refine ji_callVz (pc := 1) l1 [] ([]) oX1_isFull wlX2_39 wmX1_isFull rfl rfl (Nat.le_of_ble_eq_true rfl) (jRaC r1 jRa0) rfl h2 rfl (Nat.le_of_ble_eq_true rfl) hF dX2_howDone_1 (fun x3 s4 r_x3 hF => ?_)
  refine ji_if_ne 10 (pc := 4) (jR51 r_x3) hF dX2_howDone_4 rfl (fun hF => ?_) (fun hF => ?_)
  · refine ji_aload_n (n := 0) (pc := 10) 16 rfl rfl rfl dX2_howDone_10 (fun r5 => ?_)
    refine ji_getr (pc := 11) 17 wfX2_12 (jRc3 rfl) jcl_16 jrf_16_0 dX2_howDone_11 ?_
    refine ji_aload_n (n := 1) (pc := 14) l1 rfl rfl rfl dX2_howDone_14 (fun r6 => ?_)
    refine ji_callVv (pc := 15) 17 [l1] ([]) oX9_find wlX2_45 wmX9_find rfl rfl (Nat.le_of_ble_eq_true rfl) (jRaC (jRc3 rfl) (jRaC r6 jRa0)) rfl jcl_17 rfl (Nat.le_of_ble_eq_true rfl) hF dX2_howDone_15 (fun x7 s8 hF => ?_)
    refine ji_aload_n (n := 0) (pc := 18) 16 rfl rfl rfl dX2_howDone_18 (fun r9 => ?_)
    refine ji_getr (pc := 19) 17 wfX2_12 (jRc3 rfl) jcl_16 jrf_16_0 dX2_howDone_19 ?_
    refine ji_getfi (pc := 22) wfX2_49 (jRc3 rfl) jcl_17 hF dX2_howDone_22 (fun x10 r_x10 hF => ?_)
    refine ji_if_le 30 (pc := 25) r_x10 hF dX2_howDone_25 rfl (fun hF => ?_) (fun hF => ?_)
    · refine ji_aload_n (n := 0) (pc := 30) 16 rfl rfl rfl dX2_howDone_30 (fun r11 => ?_)
      refine ji_aload_n (n := 1) (pc := 31) l1 rfl rfl rfl dX2_howDone_31 (fun r12 => ?_)
      refine ji_callVz (pc := 32) 16 [l1] ([]) oX2_isSeven wlX2_52 wmX2_isSeven rfl rfl (Nat.le_of_ble_eq_true rfl) (jRaC (jRc3 rfl) (jRaC r12 jRa0)) rfl jcl_16 rfl (Nat.le_of_ble_eq_true rfl) hF dX2_howDone_32 (fun x13 s14 r_x13 hF => ?_)
      refine ji_if_eq 40 (pc := 35) (jR51 r_x13) hF dX2_howDone_35 rfl (fun hF => ?_) (fun hF => ?_)
      · refine ji_aload_n (n := 0) (pc := 40) 16 rfl rfl rfl dX2_howDone_40 (fun r15 => ?_)
        refine ji_aload_n (n := 1) (pc := 41) l1 rfl rfl rfl dX2_howDone_41 (fun r16 => ?_)
        refine ji_callVz (pc := 42) 16 [l1] ([]) oX2_isOuterOnes wlX2_56 wmX2_isOuterOnes rfl rfl (Nat.le_of_ble_eq_true rfl) (jRaC (jRc3 rfl) (jRaC r16 jRa0)) rfl jcl_16 rfl (Nat.le_of_ble_eq_true rfl) hF dX2_howDone_42 (fun x17 s18 r_x17 hF => ?_)
        refine ji_if_eq 52 (pc := 45) (jR51 r_x17) hF dX2_howDone_45 rfl (fun hF => ?_) (fun hF => ?_)
        · refine ji_iconst (pc := 52) dX2_howDone_52 ?_
          exact ji_reti (pc := 53) rfl (jRc rfl) hF dX2_howDone_53
        · refine ji_iconst (pc := 48) dX2_howDone_48 ?_
          refine jg_goto (pc := 49) 53 dX2_howDone_49 rfl ?_
          exact ji_reti (pc := 53) rfl (jRc rfl) hF dX2_howDone_53
      · refine ji_iconst (pc := 38) dX2_howDone_38 ?_
        exact ji_reti (pc := 39) rfl (jRc rfl) hF dX2_howDone_39
    · refine ji_iconst (pc := 28) dX2_howDone_28 ?_
      exact ji_reti (pc := 29) rfl (jRc rfl) hF dX2_howDone_29
  · refine jg_bipush (pc := 7) rfl dX2_howDone_7 ?_
    exact ji_reti (pc := 9) rfl (jRc rfl) hF dX2_howDone_9
def fX3_look (l1 l2 : Int) (s0 : jMem) : jO :=
jGd (jcl l1 = 0) <| jLet (jrf l1 0) fun x3 =>
jGd ((0 : Int) ≤ 0 ∧ (0 : Int) ≤ 0 ∧ (0 : Int) ≤ 34 ∧ 0 + 34 ≤ jik x3 ∧ 0 + 34 ≤ jik 8 ∧ 0 < jik x3 ∧ 0 < jik 8) <| jLet (jCp s0 x3 0 8 0 34) fun s5 =>
jLet (jrf l1 1) fun x7 =>
jGd ((0 : Int) ≤ 0 ∧ (0 : Int) ≤ 0 ∧ (0 : Int) ≤ 34 ∧ 0 + 34 ≤ jik x7 ∧ 0 + 34 ≤ jik 9 ∧ 0 < jik x7 ∧ 0 < jik 9) <| jLet (jCp s5 x7 0 9 0 34) fun s9 =>
jLet (s9 l1 4) fun x12 =>
jLet (j32 (4 - x12)) fun x13 =>
jLet (jU s9 7 10 x13) fun s14 =>
jLet (jU s14 7 9 l2) fun s17 =>
jRet 0 s17
def gX3_look (vs : List Int) (s : jMem) : jO := match vs with
  | [a0, a1, a2] => jGd (a0 = 7) <| fX3_look a1 a2 s
  | _ => none
set_option maxRecDepth 100000 in
set_option maxHeartbeats 4000000 in
theorem oX3_look : jOk MX3_look [3, 3, 1] 1 (jFn gX3_look) := by
  refine jOk_fn (by decide +kernel) (Nat.le_of_ble_eq_true rfl) (by decide +kernel) (.inl rfl) ?_
  intro E vs s0 Rr hF ha
  obtain ⟨l0, t0, rfl, r_l0, ha⟩ := jRa_ci ha
  obtain ⟨l1, t1, rfl, r_l1, ha⟩ := jRa_ci ha
  obtain ⟨l2, t2, rfl, r_l2, ha⟩ := jRa_ci ha
  obtain rfl := jRa_ni ha
  replace hF : jHo Rr (jGd (l0 = 7) <| fX3_look l1 l2 s0) := hF
  have hG := jHo_as hF
  clear hF
  obtain ⟨rfl, hF⟩ := hG
  refine jg_norm [3, 3, 1] [7, l1, l2] rfl rfl ?_
  unfold fX3_look at hF
  refine ji_aload_n (n := 1) (pc := 0) l1 rfl rfl rfl dX3_look_0 (fun r1 => ?_)
  obtain ⟨h2, hF⟩ := jHo_as hF
  refine ji_getrL (pc := 1) wfX3_92 r1 h2 hF dX3_look_1 (fun x3 r_x3 hF => ?_)
  refine ji_iconst (pc := 4) dX3_look_4 ?_
  refine ji_aload_n (n := 0) (pc := 5) 7 rfl rfl rfl dX3_look_5 (fun r4 => ?_)
  refine ji_getr (pc := 6) 8 wfX3_13 (jRc3 rfl) jcl_7 jrf_7_1 dX3_look_6 ?_
  refine ji_iconst (pc := 9) dX3_look_9 ?_
  refine jg_bipush (pc := 10) rfl dX3_look_10 ?_
  refine ji_copyi (pc := 12) r_x3 (jRc3 rfl) (jRc rfl) (jRc rfl) (jRc rfl) (Nat.le_of_ble_eq_true rfl) (Nat.le_of_ble_eq_true rfl) ⟨wlX3_95, wq_copy⟩ hF dX3_look_12 (fun s5 hF => ?_)
  refine ji_aload_n (n := 1) (pc := 15) l1 rfl rfl rfl dX3_look_15 (fun r6 => ?_)
  refine ji_getrL (pc := 16) wfX3_101 r6 h2 hF dX3_look_16 (fun x7 r_x7 hF => ?_)
  refine ji_iconst (pc := 19) dX3_look_19 ?_
  refine ji_aload_n (n := 0) (pc := 20) 7 rfl rfl rfl dX3_look_20 (fun r8 => ?_)
  refine ji_getr (pc := 21) 9 wfX3_17 (jRc3 rfl) jcl_7 jrf_7_2 dX3_look_21 ?_
  refine ji_iconst (pc := 24) dX3_look_24 ?_
  refine jg_bipush (pc := 25) rfl dX3_look_25 ?_
  refine ji_copyi (pc := 27) r_x7 (jRc3 rfl) (jRc rfl) (jRc rfl) (jRc rfl) (Nat.le_of_ble_eq_true rfl) (Nat.le_of_ble_eq_true rfl) ⟨wlX3_95, wq_copy⟩ hF dX3_look_27 (fun s9 hF => ?_)
  refine ji_aload_n (n := 0) (pc := 30) 7 rfl rfl rfl dX3_look_30 (fun r10 => ?_)
  refine ji_iconst (pc := 31) dX3_look_31 ?_
  refine ji_aload_n (n := 1) (pc := 32) l1 rfl rfl rfl dX3_look_32 (fun r11 => ?_)
  refine ji_getfi (pc := 33) wfX3_102 r11 h2 hF dX3_look_33 (fun x12 r_x12 hF => ?_)
  refine ji_isub (pc := 36)  hF dX3_look_36 (fun x13 r_x13 hF => ?_)
  refine ji_putfi (pc := 37) wpX3_43 (jRc3 rfl) jcl_7 r_x13 hF dX3_look_37 (fun s14 hF => ?_)
  refine ji_aload_n (n := 0) (pc := 40) 7 rfl rfl rfl dX3_look_40 (fun r15 => ?_)
  refine ji_iload_n (n := 2) (pc := 41) l2 rfl rfl rfl dX3_look_41 (fun r16 => ?_)
  refine ji_putfi (pc := 42) wpX3_39 (jRc3 rfl) jcl_7 r16 hF dX3_look_42 (fun s17 hF => ?_)
  exact ji_retv (pc := 45) rfl hF dX3_look_45
def fX8_lengthOf (l0 : Int) (s0 : jMem) : jO :=
if 3 ≤ l0 then (
jRet 7 s0)
else (
jRet 9 s0)
def gX8_lengthOf (vs : List Int) (s : jMem) : jO := match vs with
  | [a0] => fX8_lengthOf a0 s
  | _ => none
set_option maxRecDepth 100000 in
set_option maxHeartbeats 4000000 in
theorem oX8_lengthOf : jOk MX8_lengthOf [1] 0 (jFn gX8_lengthOf) := by
  refine jOk_fn (by decide +kernel) (Nat.le_of_ble_eq_true rfl) (by decide +kernel) (.inr (.inl rfl)) ?_
  intro E vs s0 Rr hF ha
  obtain ⟨l0, t0, rfl, r_l0, ha⟩ := jRa_ci ha
  obtain rfl := jRa_ni ha
  replace hF : jHo Rr (fX8_lengthOf l0 s0) := hF
  refine jg_norm [1] [l0] rfl rfl ?_
  unfold fX8_lengthOf at hF
  refine ji_iload_n (n := 0) (pc := 0) l0 rfl rfl rfl dX8_lengthOf_0 (fun r1 => ?_)
  refine ji_iconst (pc := 1) dX8_lengthOf_1 ?_
  refine ji_icmp_ge 10 (pc := 2) r1 (jRc rfl) hF dX8_lengthOf_2 rfl (fun hF => ?_) (fun hF => ?_)
  · refine jg_bipush (pc := 10) rfl dX8_lengthOf_10 ?_
    exact ji_reti (pc := 12) rfl (jRc rfl) hF dX8_lengthOf_12
  · refine jg_bipush (pc := 5) rfl dX8_lengthOf_5 ?_
    refine jg_goto (pc := 7) 12 dX8_lengthOf_7 rfl ?_
    exact ji_reti (pc := 12) rfl (jRc rfl) hF dX8_lengthOf_12
def bX3_keyOf_9 (rec : Int → Int → Int → jMem → jO) (l1 l2 l4 : Int) (s0 : jMem) : jO :=
jBd (fX8_lengthOf l1 s0) fun x3 s4 =>
if x3 ≤ l4 then (
jRet l2 s4)
else (
jLet (j32 (l1 * 9)) fun x7 =>
jLet (j32 (x7 + l4)) fun x9 =>
jLet (j64 (l2 * 25)) fun x11 =>
jGd ((0 : Int) ≤ x9 ∧ x9 < jik 8) <| jLet (s4 8 x9) fun x14 =>
jLet (j32 (x14 * 5)) fun x15 =>
jLet (j64 (x11 + x15)) fun x16 =>
jGd ((0 : Int) ≤ x9 ∧ x9 < jik 9) <| jLet (s4 9 x9) fun x19 =>
jLet (j64 (x16 + x19)) fun x20 =>
jLet (j32 (l4 + 1)) fun x21 =>
rec l1 x20 x21 s4)
def fX3_keyOf (l1 : Int) (s0 : jMem) : jO :=
jLet (s0 7 9) fun x2 =>
jIt (fun _ _ _ _ => none) (bX3_keyOf_9) 1000 l1 x2 0 s0
def gX3_keyOf (vs : List Int) (s : jMem) : jO := match vs with
  | [a0, a1] => jGd (a0 = 7) <| fX3_keyOf a1 s
  | _ => none
set_option maxRecDepth 100000 in
set_option maxHeartbeats 4000000 in
theorem obX3_keyOf_9 {E : jEnv} {Rr : Int → jMem → Prop} {rec : Int → Int → Int → jMem → jO} (hrec : ∀ (l1 l2 l4 : Int) (s : jMem), jHo Rr (rec l1 l2 l4 s) → jGo E MX3_keyOf 1 Rr [3, 1, 2, 0, 1, 0] 9 [7, l1, l2, 0, l4, 0] ([]) s) : ∀ (l1 l2 l4 : Int) (s : jMem), jHo Rr (bX3_keyOf_9 rec l1 l2 l4 s) → jGo E MX3_keyOf 1 Rr [3, 1, 2, 0, 1, 0] 9 [7, l1, l2, 0, l4, 0] ([]) s := by
  intro l1 l2 l4 s0 hF
  unfold bX3_keyOf_9 at hF
  refine ji_iload (pc := 9) l4 rfl rfl dX3_keyOf_9 (fun r1 => ?_)
  refine ji_iload_n (n := 1) (pc := 11) l1 rfl rfl rfl dX3_keyOf_11 (fun r2 => ?_)
  refine ji_callSi (pc := 12) [l1] (jV E 1 l4 :: []) oX8_lengthOf wlX3_160 wmX8_lengthOf rfl rfl (Nat.le_of_ble_eq_true rfl) (jRaC r2 jRa0) rfl rfl (Nat.le_of_ble_eq_true rfl) hF dX3_keyOf_12 (fun x3 s4 r_x3 hF => ?_)
  refine ji_icmp_ge 59 (pc := 15) r1 r_x3 hF dX3_keyOf_15 rfl (fun hF => ?_) (fun hF => ?_)
  · refine ji_lload_n (n := 2) (pc := 59) l2 rfl rfl rfl dX3_keyOf_59 (fun r5 => ?_)
    exact ji_retl (pc := 60) rfl r5 hF dX3_keyOf_60
  · refine ji_iload_n (n := 1) (pc := 18) l1 rfl rfl rfl dX3_keyOf_18 (fun r6 => ?_)
    refine jg_bipush (pc := 19) rfl dX3_keyOf_19 ?_
    refine ji_imul (pc := 21)  hF dX3_keyOf_21 (fun x7 r_x7 hF => ?_)
    refine ji_iload (pc := 22) l4 rfl rfl dX3_keyOf_22 (fun r8 => ?_)
    refine ji_iadd (pc := 24)  hF dX3_keyOf_24 (fun x9 r_x9 hF => ?_)
    refine ji_istore (n := 5) (pc := 25) [3, 1, 2, 0, 1, 1] [7, l1, l2, 0, l4, x9] r_x9 (Nat.le_of_ble_eq_true rfl) rfl rfl dX3_keyOf_25 ?_
    refine ji_lload_n (n := 2) (pc := 27) l2 rfl rfl rfl dX3_keyOf_27 (fun r10 => ?_)
    refine jg_ldc2 (n := 25) (pc := 28) wnX3_163 dX3_keyOf_28 ?_
    refine ji_lmul (pc := 31)  hF dX3_keyOf_31 (fun x11 r_x11 hF => ?_)
    refine ji_aload_n (n := 0) (pc := 32) 7 rfl rfl rfl dX3_keyOf_32 (fun r12 => ?_)
    refine ji_getr (pc := 33) 8 wfX3_13 (jRc3 rfl) jcl_7 jrf_7_1 dX3_keyOf_33 ?_
    refine ji_iload (pc := 36) x9 rfl rfl dX3_keyOf_36 (fun r13 => ?_)
    refine ji_iaload (pc := 38) (jRc3 rfl) r13 hF dX3_keyOf_38 (fun x14 r_x14 hF => ?_)
    refine ji_iconst (pc := 39) dX3_keyOf_39 ?_
    refine ji_imul (pc := 40)  hF dX3_keyOf_40 (fun x15 r_x15 hF => ?_)
    refine jg_i2l (pc := 41) r_x15 dX3_keyOf_41 ?_
    refine ji_ladd (pc := 42)  hF dX3_keyOf_42 (fun x16 r_x16 hF => ?_)
    refine ji_aload_n (n := 0) (pc := 43) 7 rfl rfl rfl dX3_keyOf_43 (fun r17 => ?_)
    refine ji_getr (pc := 44) 9 wfX3_17 (jRc3 rfl) jcl_7 jrf_7_2 dX3_keyOf_44 ?_
    refine ji_iload (pc := 47) x9 rfl rfl dX3_keyOf_47 (fun r18 => ?_)
    refine ji_iaload (pc := 49) (jRc3 rfl) r18 hF dX3_keyOf_49 (fun x19 r_x19 hF => ?_)
    refine jg_i2l (pc := 50) r_x19 dX3_keyOf_50 ?_
    refine ji_ladd (pc := 51)  hF dX3_keyOf_51 (fun x20 r_x20 hF => ?_)
    refine ji_lstore_n (n := 2) (pc := 52) [3, 1, 2, 0, 1, 1] [7, l1, x20, 0, l4, x9] rfl r_x20 (Nat.le_of_ble_eq_true rfl) rfl rfl dX3_keyOf_52 ?_
    refine ji_iinc (pc := 53) l4 (fun w => [7, l1, x20, 0, w, x9]) rfl rfl rfl (fun _ => rfl) hF dX3_keyOf_53 (fun x21 r_x21 hF => ?_)
    refine jg_goto (pc := 56) 9 dX3_keyOf_56 rfl ?_
    refine jg_norm [3, 1, 2, 0, 1, 0] [7, l1, x20, 0, x21, 0] rfl rfl ?_
    exact hrec _ _ _ _ hF
theorem obX3_keyOf_9W {E : jEnv} {Rr : Int → jMem → Prop} : ∀ n : Nat, ∀ (l1 l2 l4 : Int) (s : jMem), jHo Rr (jIt (fun _ _ _ _ => none) (bX3_keyOf_9) n l1 l2 l4 s) → jGo E MX3_keyOf 1 Rr [3, 1, 2, 0, 1, 0] 9 [7, l1, l2, 0, l4, 0] ([]) s := by
  intro n
  induction n with
  | zero => intro l1 l2 l4 s hF; exact jHo_none hF
  | succ n ih => exact obX3_keyOf_9 ih

set_option maxRecDepth 100000 in
set_option maxHeartbeats 4000000 in
theorem oX3_keyOf : jOk MX3_keyOf [3, 1] 1 (jFn gX3_keyOf) := by
  refine jOk_fn (by decide +kernel) (Nat.le_of_ble_eq_true rfl) (by decide +kernel) (.inr (.inr (.inl rfl))) ?_
  intro E vs s0 Rr hF ha
  obtain ⟨l0, t0, rfl, r_l0, ha⟩ := jRa_ci ha
  obtain ⟨l1, t1, rfl, r_l1, ha⟩ := jRa_ci ha
  obtain rfl := jRa_ni ha
  replace hF : jHo Rr (jGd (l0 = 7) <| fX3_keyOf l1 s0) := hF
  have hG := jHo_as hF
  clear hF
  obtain ⟨rfl, hF⟩ := hG
  refine jg_norm [3, 1, 0, 0, 0, 0] [7, l1, 0, 0, 0, 0] rfl rfl ?_
  unfold fX3_keyOf at hF
  refine ji_aload_n (n := 0) (pc := 0) 7 rfl rfl rfl dX3_keyOf_0 (fun r1 => ?_)
  refine ji_getfi (pc := 1) wfX3_39 (jRc3 rfl) jcl_7 hF dX3_keyOf_1 (fun x2 r_x2 hF => ?_)
  refine jg_i2l (pc := 4) r_x2 dX3_keyOf_4 ?_
  refine ji_lstore_n (n := 2) (pc := 5) [3, 1, 2, 0, 0, 0] [7, l1, x2, 0, 0, 0] rfl (jR12 r_x2) (Nat.le_of_ble_eq_true rfl) rfl rfl dX3_keyOf_5 ?_
  refine ji_iconst (pc := 6) dX3_keyOf_6 ?_
  refine ji_istore (n := 4) (pc := 7) [3, 1, 2, 0, 1, 0] [7, l1, x2, 0, 0, 0] (jRc rfl) (Nat.le_of_ble_eq_true rfl) rfl rfl dX3_keyOf_7 ?_
  refine jg_norm [3, 1, 2, 0, 1, 0] [7, l1, x2, 0, 0, 0] rfl rfl ?_
  exact obX3_keyOf_9W 1000 _ _ _ _ hF
def bJ7_fill_d0a16_6 (rec : Int → Int → Int → Int → jMem → jO) (l0 l1 l3 l4 : Int) (s0 : jMem) : jO :=
if l4 ≤ l3 then (
jRet 0 s0)
else (
jGd ((0 : Int) ≤ l3 ∧ l3 < jjk l0) <| jLet (jU s0 l0 l3 l1) fun s6 =>
jLet (j32 (l3 + 1)) fun x7 =>
rec l0 l1 x7 l4 s6)
def fJ7_fill_d0a16 (l0 l1 : Int) (s0 : jMem) : jO :=
jGd (0 ≤ jln l0) <| jLet (jln l0) fun x2 =>
jIt (fun _ _ _ _ _ => none) (bJ7_fill_d0a16_6) 1000 l0 l1 0 x2 s0
def gJ7_fill_d0a16 (vs : List Int) (s : jMem) : jO := match vs with
  | [a0, a1] => fJ7_fill_d0a16 a0 a1 s
  | _ => none
set_option maxRecDepth 100000 in
set_option maxHeartbeats 4000000 in
theorem obJ7_fill_d0a16_6 {E : jEnv} {Rr : Int → jMem → Prop} {rec : Int → Int → Int → Int → jMem → jO} (hrec : ∀ (l0 l1 l3 l4 : Int) (s : jMem), jHo Rr (rec l0 l1 l3 l4 s) → jGo E MJ7_fill_d0a16 0 Rr [3, 2, 0, 1, 1] 6 [l0, l1, 0, l3, l4] ([]) s) : ∀ (l0 l1 l3 l4 : Int) (s : jMem), jHo Rr (bJ7_fill_d0a16_6 rec l0 l1 l3 l4 s) → jGo E MJ7_fill_d0a16 0 Rr [3, 2, 0, 1, 1] 6 [l0, l1, 0, l3, l4] ([]) s := by
  intro l0 l1 l3 l4 s0 hF
  unfold bJ7_fill_d0a16_6 at hF
  refine ji_iload_n (n := 3) (pc := 6) l3 rfl rfl rfl dJ7_fill_d0a16_6 (fun r1 => ?_)
  refine ji_iload (pc := 7) l4 rfl rfl dJ7_fill_d0a16_7 (fun r2 => ?_)
  refine ji_icmp_ge 22 (pc := 9) r1 r2 hF dJ7_fill_d0a16_9 rfl (fun hF => ?_) (fun hF => ?_)
  · exact ji_retv (pc := 22) rfl hF dJ7_fill_d0a16_22
  · refine ji_aload_n (n := 0) (pc := 12) l0 rfl rfl rfl dJ7_fill_d0a16_12 (fun r3 => ?_)
    refine ji_iload_n (n := 3) (pc := 13) l3 rfl rfl rfl dJ7_fill_d0a16_13 (fun r4 => ?_)
    refine ji_lload_n (n := 1) (pc := 14) l1 rfl rfl rfl dJ7_fill_d0a16_14 (fun r5 => ?_)
    refine ji_lastore (pc := 15) r3 r4 r5 hF dJ7_fill_d0a16_15 (fun s6 hF => ?_)
    refine ji_iinc (pc := 16) l3 (fun w => [l0, l1, 0, w, l4]) rfl rfl rfl (fun _ => rfl) hF dJ7_fill_d0a16_16 (fun x7 r_x7 hF => ?_)
    refine jg_goto (pc := 19) 6 dJ7_fill_d0a16_19 rfl ?_
    refine jg_norm [3, 2, 0, 1, 1] [l0, l1, 0, x7, l4] rfl rfl ?_
    exact hrec _ _ _ _ _ hF
theorem obJ7_fill_d0a16_6W {E : jEnv} {Rr : Int → jMem → Prop} : ∀ n : Nat, ∀ (l0 l1 l3 l4 : Int) (s : jMem), jHo Rr (jIt (fun _ _ _ _ _ => none) (bJ7_fill_d0a16_6) n l0 l1 l3 l4 s) → jGo E MJ7_fill_d0a16 0 Rr [3, 2, 0, 1, 1] 6 [l0, l1, 0, l3, l4] ([]) s := by
  intro n
  induction n with
  | zero => intro l0 l1 l3 l4 s hF; exact jHo_none hF
  | succ n ih => exact obJ7_fill_d0a16_6 ih

set_option maxRecDepth 100000 in
set_option maxHeartbeats 4000000 in
theorem oJ7_fill_d0a16 : jOk MJ7_fill_d0a16 [3, 2] 0 (jFn gJ7_fill_d0a16) := by
  refine jOk_fn (by decide +kernel) (Nat.le_of_ble_eq_true rfl) (by decide +kernel) (.inl rfl) ?_
  intro E vs s0 Rr hF ha
  obtain ⟨l0, t0, rfl, r_l0, ha⟩ := jRa_ci ha
  obtain ⟨l1, t1, rfl, r_l1, ha⟩ := jRa_ci ha
  obtain rfl := jRa_ni ha
  replace hF : jHo Rr (fJ7_fill_d0a16 l0 l1 s0) := hF
  refine jg_norm [3, 2, 0, 0, 0] [l0, l1, 0, 0, 0] rfl rfl ?_
  unfold fJ7_fill_d0a16 at hF
  refine ji_iconst (pc := 0) dJ7_fill_d0a16_0 ?_
  refine ji_istore_n (n := 3) (pc := 1) [3, 2, 0, 1, 0] [l0, l1, 0, 0, 0] rfl (jRc rfl) (Nat.le_of_ble_eq_true rfl) rfl rfl dJ7_fill_d0a16_1 ?_
  refine ji_aload_n (n := 0) (pc := 2) l0 rfl rfl rfl dJ7_fill_d0a16_2 (fun r1 => ?_)
  refine ji_alen (pc := 3) r1 hF dJ7_fill_d0a16_3 (fun x2 r_x2 hF => ?_)
  refine ji_istore (n := 4) (pc := 4) [3, 2, 0, 1, 1] [l0, l1, 0, 0, x2] r_x2 (Nat.le_of_ble_eq_true rfl) rfl rfl dJ7_fill_d0a16_4 ?_
  refine jg_norm [3, 2, 0, 1, 1] [l0, l1, 0, 0, x2] rfl rfl ?_
  exact obJ7_fill_d0a16_6W 1000 _ _ _ _ _ hF
def fX3_less (l1 l3 : Int) (s0 : jMem) : jO :=
jLet (jshrl l3 34) fun x2 =>
jLet (jshrl l1 34) fun x4 =>
jLet (j64 (x2 - x4)) fun x5 =>
jLet (jcmp x5 0) fun x7 =>
if 0 < x7 then (
jRet l1 s0)
else (
jLet (jshrl l3 34) fun x10 =>
jLet (s0 7 9) fun x12 =>
jLet (jcmp x10 x12) fun x13 =>
if x13 ≤ 0 then (
jLet (jcmp x5 0) fun x15 =>
if 0 ≤ x15 then (
jLet (jorl l1 l3) fun x18 =>
jRet x18 s0)
else (
jRet l3 s0))
else (
jRet l1 s0))
def gX3_less (vs : List Int) (s : jMem) : jO := match vs with
  | [a0, a1, a2] => jGd (a0 = 7) <| fX3_less a1 a2 s
  | _ => none
set_option maxRecDepth 100000 in
set_option maxHeartbeats 4000000 in
theorem oX3_less : jOk MX3_less [3, 2, 2] 0 (jFn gX3_less) := by
  refine jOk_fn (by decide +kernel) (Nat.le_of_ble_eq_true rfl) (by decide +kernel) (.inr (.inr (.inl rfl))) ?_
  intro E vs s0 Rr hF ha
  obtain ⟨l0, t0, rfl, r_l0, ha⟩ := jRa_ci ha
  obtain ⟨l1, t1, rfl, r_l1, ha⟩ := jRa_ci ha
  obtain ⟨l3, t2, rfl, r_l3, ha⟩ := jRa_ci ha
  obtain rfl := jRa_ni ha
  replace hF : jHo Rr (jGd (l0 = 7) <| fX3_less l1 l3 s0) := hF
  have hG := jHo_as hF
  clear hF
  obtain ⟨rfl, hF⟩ := hG
  refine jg_norm [3, 2, 0, 2, 0, 0, 0] [7, l1, 0, l3, 0, 0, 0] rfl rfl ?_
  unfold fX3_less at hF
  refine ji_lload_n (n := 3) (pc := 0) l3 rfl rfl rfl dX3_less_0 (fun r1 => ?_)
  refine jg_bipush (pc := 1) rfl dX3_less_1 ?_
  refine ji_lshr (pc := 3)  hF dX3_less_3 (fun x2 r_x2 hF => ?_)
  refine ji_lload_n (n := 1) (pc := 4) l1 rfl rfl rfl dX3_less_4 (fun r3 => ?_)
  refine jg_bipush (pc := 5) rfl dX3_less_5 ?_
  refine ji_lshr (pc := 7)  hF dX3_less_7 (fun x4 r_x4 hF => ?_)
  refine ji_lsub (pc := 8)  hF dX3_less_8 (fun x5 r_x5 hF => ?_)
  refine ji_lstore (n := 5) (pc := 9) [3, 2, 0, 2, 0, 2, 0] [7, l1, 0, l3, 0, x5, 0] r_x5 (Nat.le_of_ble_eq_true rfl) rfl rfl dX3_less_9 ?_
  refine ji_lload (pc := 11) x5 rfl rfl dX3_less_11 (fun r6 => ?_)
  refine jg_lconst (n := 0) (pc := 13) rfl dX3_less_13 ?_
  refine ji_lcmp (pc := 14) r6 (jRc2 rfl) hF dX3_less_14 (fun x7 r_x7 hF => ?_)
  refine ji_if_gt 31 (pc := 15) r_x7 hF dX3_less_15 rfl (fun hF => ?_) (fun hF => ?_)
  · refine ji_lload_n (n := 1) (pc := 31) l1 rfl rfl rfl dX3_less_31 (fun r8 => ?_)
    exact ji_retl (pc := 32) rfl r8 hF dX3_less_32
  · refine ji_lload_n (n := 3) (pc := 18) l3 rfl rfl rfl dX3_less_18 (fun r9 => ?_)
    refine jg_bipush (pc := 19) rfl dX3_less_19 ?_
    refine ji_lshr (pc := 21)  hF dX3_less_21 (fun x10 r_x10 hF => ?_)
    refine ji_aload_n (n := 0) (pc := 22) 7 rfl rfl rfl dX3_less_22 (fun r11 => ?_)
    refine ji_getfi (pc := 23) wfX3_39 (jRc3 rfl) jcl_7 hF dX3_less_23 (fun x12 r_x12 hF => ?_)
    refine jg_i2l (pc := 26) r_x12 dX3_less_26 ?_
    refine ji_lcmp (pc := 27) r_x10 (jR12 r_x12) hF dX3_less_27 (fun x13 r_x13 hF => ?_)
    refine ji_if_le 33 (pc := 28) r_x13 hF dX3_less_28 rfl (fun hF => ?_) (fun hF => ?_)
    · refine ji_lload (pc := 33) x5 rfl rfl dX3_less_33 (fun r14 => ?_)
      refine jg_lconst (n := 0) (pc := 35) rfl dX3_less_35 ?_
      refine ji_lcmp (pc := 36) r14 (jRc2 rfl) hF dX3_less_36 (fun x15 r_x15 hF => ?_)
      refine ji_if_ge 44 (pc := 37) r_x15 hF dX3_less_37 rfl (fun hF => ?_) (fun hF => ?_)
      · refine ji_lload_n (n := 1) (pc := 44) l1 rfl rfl rfl dX3_less_44 (fun r16 => ?_)
        refine ji_lload_n (n := 3) (pc := 45) l3 rfl rfl rfl dX3_less_45 (fun r17 => ?_)
        refine ji_lor (pc := 46)  hF dX3_less_46 (fun x18 r_x18 hF => ?_)
        exact ji_retl (pc := 47) rfl r_x18 hF dX3_less_47
      · refine ji_lload_n (n := 3) (pc := 40) l3 rfl rfl rfl dX3_less_40 (fun r19 => ?_)
        refine jg_goto (pc := 41) 47 dX3_less_41 rfl ?_
        exact ji_retl (pc := 47) rfl r19 hF dX3_less_47
    · refine ji_lload_n (n := 1) (pc := 31) l1 rfl rfl rfl dX3_less_31 (fun r20 => ?_)
      exact ji_retl (pc := 32) rfl r20 hF dX3_less_32
end

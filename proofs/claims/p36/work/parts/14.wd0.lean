section
def fX10_isHand (l0 : Int) (s0 : jMem) : jO :=
if l0 < 0 then (
jRet 0 s0)
else (
if 4 ≤ l0 then (
jRet 0 s0)
else (
jRet 1 s0))
def gX10_isHand (vs : List Int) (s : jMem) : jO := match vs with
  | [a0] => fX10_isHand a0 s
  | _ => none
set_option maxRecDepth 100000 in
set_option maxHeartbeats 4000000 in
theorem oX10_isHand : jOk MX10_isHand [1] 0 (jFn gX10_isHand) := by
  refine jOk_fn (by decide +kernel) (Nat.le_of_ble_eq_true rfl) (by decide +kernel) (.inr (.inr (.inr rfl))) ?_
  intro E vs s0 Rr hF ha
  obtain ⟨l0, t0, rfl, r_l0, ha⟩ := jRa_ci ha
  obtain rfl := jRa_ni ha
  replace hF : jHo Rr (fX10_isHand l0 s0) := hF
  refine jg_norm [1] [l0] rfl rfl ?_
  unfold fX10_isHand at hF
  refine ji_iload_n (n := 0) (pc := 0) l0 rfl rfl rfl dX10_isHand_0 (fun r1 => ?_)
  refine ji_if_lt 13 (pc := 1) r1 hF dX10_isHand_1 rfl (fun hF => ?_) (fun hF => ?_)
  · refine ji_iconst (pc := 13) dX10_isHand_13 ?_
    exact ji_retz (pc := 14) rfl (jRc5 rfl) hF dX10_isHand_14
  · refine ji_iload_n (n := 0) (pc := 4) l0 rfl rfl rfl dX10_isHand_4 (fun r2 => ?_)
    refine ji_iconst (pc := 5) dX10_isHand_5 ?_
    refine ji_icmp_ge 13 (pc := 6) r2 (jRc rfl) hF dX10_isHand_6 rfl (fun hF => ?_) (fun hF => ?_)
    · refine ji_iconst (pc := 13) dX10_isHand_13 ?_
      exact ji_retz (pc := 14) rfl (jRc5 rfl) hF dX10_isHand_14
    · refine ji_iconst (pc := 9) dX10_isHand_9 ?_
      refine jg_goto (pc := 10) 14 dX10_isHand_10 rfl ?_
      exact ji_retz (pc := 14) rfl (jRc5 rfl) hF dX10_isHand_14
def fX10_take (l1 l2 : Int) (s0 : jMem) : jO :=
jBd (fX10_isHand l1 s0) fun x2 s3 =>
if x2 = 0 then (
jRet (-1) s3)
else (
jBd (fX8_isSort l2 s3) fun x5 s6 =>
if x5 = 0 then (
jRet (-1) s6)
else (
jGd ((0 : Int) ≤ l1 ∧ l1 < jrk 2 6) <| jLet (jrf 2 l1) fun x9 =>
jGd (jcl x9 = 0) <| jBd (fX1_isFull x9 s6) fun x11 s12 =>
if x11 = 0 then (
jGd ((0 : Int) ≤ l2 ∧ l2 < jik 3) <| jLet (s12 3 l2) fun x15 =>
if x15 = 0 then (
jRet (-16) s12)
else (
jGd ((0 : Int) ≤ l2 ∧ l2 < jik 3) <| jLet (s12 3 l2) fun x18 =>
jLet (j32 (x18 - 1)) fun x19 =>
jGd ((0 : Int) ≤ l2 ∧ l2 < jik 3) <| jLet (jU s12 3 l2 x19) fun s20 =>
jGd ((0 : Int) ≤ l1 ∧ l1 < jrk 2 6) <| jLet (jrf 2 l1) fun x23 =>
jGd (jcl x23 = 0) <| jBd (fX1_gain x23 l2 s20) fun x26 s27 =>
jGd ((0 : Int) ≤ l1 ∧ l1 < jrk 2 6) <| jLet (jrf 2 l1) fun x30 =>
jGd (jcl x30 = 0) <| jBd (fX1_size x30 s27) fun x32 s33 =>
jRet x32 s33))
else (
jRet (-2) s12)))
def gX10_take (vs : List Int) (s : jMem) : jO := match vs with
  | [a0, a1, a2] => jGd (a0 = 0) <| fX10_take a1 a2 s
  | _ => none
set_option maxRecDepth 100000 in
set_option maxHeartbeats 4000000 in
theorem oX10_take : jOk MX10_take [3, 1, 1] 2 (jFn gX10_take) := by
  refine jOk_fn (by decide +kernel) (Nat.le_of_ble_eq_true rfl) (by decide +kernel) (.inr (.inl rfl)) ?_
  intro E vs s0 Rr hF ha
  obtain ⟨l0, t0, rfl, r_l0, ha⟩ := jRa_ci ha
  obtain ⟨l1, t1, rfl, r_l1, ha⟩ := jRa_ci ha
  obtain ⟨l2, t2, rfl, r_l2, ha⟩ := jRa_ci ha
  obtain rfl := jRa_ni ha
  replace hF : jHo Rr (jGd (l0 = 0) <| fX10_take l1 l2 s0) := hF
  have hG := jHo_as hF
  clear hF
  obtain ⟨rfl, hF⟩ := hG
  refine jg_norm [3, 1, 1] [0, l1, l2] rfl rfl ?_
  unfold fX10_take at hF
  refine ji_iload_n (n := 1) (pc := 0) l1 rfl rfl rfl dX10_take_0 (fun r1 => ?_)
  refine ji_callSz (pc := 1) [l1] ([]) oX10_isHand wlX10_103 wmX10_isHand rfl rfl (Nat.le_of_ble_eq_true rfl) (jRaC r1 jRa0) rfl rfl (Nat.le_of_ble_eq_true rfl) hF dX10_take_1 (fun x2 s3 r_x2 hF => ?_)
  refine ji_if_eq 14 (pc := 4) (jR51 r_x2) hF dX10_take_4 rfl (fun hF => ?_) (fun hF => ?_)
  · refine ji_iconst (pc := 14) dX10_take_14 ?_
    exact ji_reti (pc := 15) rfl (jRc rfl) hF dX10_take_15
  · refine ji_iload_n (n := 2) (pc := 7) l2 rfl rfl rfl dX10_take_7 (fun r4 => ?_)
    refine ji_callSz (pc := 8) [l2] ([]) oX8_isSort wlX10_114 wmX8_isSort rfl rfl (Nat.le_of_ble_eq_true rfl) (jRaC r4 jRa0) rfl rfl (Nat.le_of_ble_eq_true rfl) hF dX10_take_8 (fun x5 s6 r_x5 hF => ?_)
    refine ji_if_ne 16 (pc := 11) (jR51 r_x5) hF dX10_take_11 rfl (fun hF => ?_) (fun hF => ?_)
    · refine ji_aload_n (n := 0) (pc := 16) 0 rfl rfl rfl dX10_take_16 (fun r7 => ?_)
      refine ji_getr (pc := 17) 2 wfX10_17 (jRc3 rfl) jcl_0 jrf_0_1 dX10_take_17 ?_
      refine ji_iload_n (n := 1) (pc := 20) l1 rfl rfl rfl dX10_take_20 (fun r8 => ?_)
      refine ji_aaload (pc := 21) 6 4 (jRc3 rfl) r8 (.inr ⟨rfl, rfl, rfl⟩) hF dX10_take_21 (fun x9 r_x9 hF => ?_)
      obtain ⟨h10, hF⟩ := jHo_as hF
      refine ji_callVz (pc := 22) x9 [] ([]) oX1_isFull wlX10_117 wmX1_isFull rfl rfl (Nat.le_of_ble_eq_true rfl) (jRaC r_x9 jRa0) rfl h10 rfl (Nat.le_of_ble_eq_true rfl) hF dX10_take_22 (fun x11 s12 r_x11 hF => ?_)
      refine ji_if_eq 31 (pc := 25) (jR51 r_x11) hF dX10_take_25 rfl (fun hF => ?_) (fun hF => ?_)
      · refine ji_aload_n (n := 0) (pc := 31) 0 rfl rfl rfl dX10_take_31 (fun r13 => ?_)
        refine ji_getr (pc := 32) 3 wfX10_23 (jRc3 rfl) jcl_0 jrf_0_2 dX10_take_32 ?_
        refine ji_iload_n (n := 2) (pc := 35) l2 rfl rfl rfl dX10_take_35 (fun r14 => ?_)
        refine ji_iaload (pc := 36) (jRc3 rfl) r14 hF dX10_take_36 (fun x15 r_x15 hF => ?_)
        refine ji_if_ne 43 (pc := 37) r_x15 hF dX10_take_37 rfl (fun hF => ?_) (fun hF => ?_)
        · refine ji_aload_n (n := 0) (pc := 43) 0 rfl rfl rfl dX10_take_43 (fun r16 => ?_)
          refine ji_getr (pc := 44) 3 wfX10_23 (jRc3 rfl) jcl_0 jrf_0_2 dX10_take_44 ?_
          refine ji_iload_n (n := 2) (pc := 47) l2 rfl rfl rfl dX10_take_47 (fun r17 => ?_)
          refine jg_dup2 (pc := 48) (by decide) (by decide) dX10_take_48 ?_
          refine ji_iaload (pc := 49) (jRc3 rfl) r17 hF dX10_take_49 (fun x18 r_x18 hF => ?_)
          refine ji_iconst (pc := 50) dX10_take_50 ?_
          refine ji_isub (pc := 51)  hF dX10_take_51 (fun x19 r_x19 hF => ?_)
          refine ji_iastore (pc := 52) (jRc3 rfl) r17 r_x19 hF dX10_take_52 (fun s20 hF => ?_)
          refine ji_aload_n (n := 0) (pc := 53) 0 rfl rfl rfl dX10_take_53 (fun r21 => ?_)
          refine ji_getr (pc := 54) 2 wfX10_17 (jRc3 rfl) jcl_0 jrf_0_1 dX10_take_54 ?_
          refine ji_iload_n (n := 1) (pc := 57) l1 rfl rfl rfl dX10_take_57 (fun r22 => ?_)
          refine ji_aaload (pc := 58) 6 4 (jRc3 rfl) r22 (.inr ⟨rfl, rfl, rfl⟩) hF dX10_take_58 (fun x23 r_x23 hF => ?_)
          refine ji_iload_n (n := 2) (pc := 59) l2 rfl rfl rfl dX10_take_59 (fun r24 => ?_)
          obtain ⟨h25, hF⟩ := jHo_as hF
          refine ji_callVv (pc := 60) x23 [l2] ([]) oX1_gain wlX10_120 wmX1_gain rfl rfl (Nat.le_of_ble_eq_true rfl) (jRaC r_x23 (jRaC r24 jRa0)) rfl h25 rfl (Nat.le_of_ble_eq_true rfl) hF dX10_take_60 (fun x26 s27 hF => ?_)
          refine ji_aload_n (n := 0) (pc := 63) 0 rfl rfl rfl dX10_take_63 (fun r28 => ?_)
          refine ji_getr (pc := 64) 2 wfX10_17 (jRc3 rfl) jcl_0 jrf_0_1 dX10_take_64 ?_
          refine ji_iload_n (n := 1) (pc := 67) l1 rfl rfl rfl dX10_take_67 (fun r29 => ?_)
          refine ji_aaload (pc := 68) 6 4 (jRc3 rfl) r29 (.inr ⟨rfl, rfl, rfl⟩) hF dX10_take_68 (fun x30 r_x30 hF => ?_)
          obtain ⟨h31, hF⟩ := jHo_as hF
          refine ji_callVi (pc := 69) x30 [] ([]) oX1_size wlX10_106 wmX1_size rfl rfl (Nat.le_of_ble_eq_true rfl) (jRaC r_x30 jRa0) rfl h31 rfl (Nat.le_of_ble_eq_true rfl) hF dX10_take_69 (fun x32 s33 r_x32 hF => ?_)
          exact ji_reti (pc := 72) rfl r_x32 hF dX10_take_72
        · refine jg_bipush (pc := 40) rfl dX10_take_40 ?_
          exact ji_reti (pc := 42) rfl (jRc rfl) hF dX10_take_42
      · refine jg_bipush (pc := 28) rfl dX10_take_28 ?_
        exact ji_reti (pc := 30) rfl (jRc rfl) hF dX10_take_30
    · refine ji_iconst (pc := 14) dX10_take_14 ?_
      exact ji_reti (pc := 15) rfl (jRc rfl) hF dX10_take_15
def fX10_seed (l1 : Int) (s0 : jMem) : jO :=
if 0 ≤ l1 then (
jLet (jU s0 0 8 l1) fun s4 =>
jRet 0 s4)
else (
jRet (-1) s0)
def gX10_seed (vs : List Int) (s : jMem) : jO := match vs with
  | [a0, a1] => jGd (a0 = 0) <| fX10_seed a1 s
  | _ => none
set_option maxRecDepth 100000 in
set_option maxHeartbeats 4000000 in
theorem oX10_seed : jOk MX10_seed [3, 1] 0 (jFn gX10_seed) := by
  refine jOk_fn (by decide +kernel) (Nat.le_of_ble_eq_true rfl) (by decide +kernel) (.inr (.inl rfl)) ?_
  intro E vs s0 Rr hF ha
  obtain ⟨l0, t0, rfl, r_l0, ha⟩ := jRa_ci ha
  obtain ⟨l1, t1, rfl, r_l1, ha⟩ := jRa_ci ha
  obtain rfl := jRa_ni ha
  replace hF : jHo Rr (jGd (l0 = 0) <| fX10_seed l1 s0) := hF
  have hG := jHo_as hF
  clear hF
  obtain ⟨rfl, hF⟩ := hG
  refine jg_norm [3, 1] [0, l1] rfl rfl ?_
  unfold fX10_seed at hF
  refine ji_iload_n (n := 1) (pc := 0) l1 rfl rfl rfl dX10_seed_0 (fun r1 => ?_)
  refine ji_if_ge 6 (pc := 1) r1 hF dX10_seed_1 rfl (fun hF => ?_) (fun hF => ?_)
  · refine ji_aload_n (n := 0) (pc := 6) 0 rfl rfl rfl dX10_seed_6 (fun r2 => ?_)
    refine ji_iload_n (n := 1) (pc := 7) l1 rfl rfl rfl dX10_seed_7 (fun r3 => ?_)
    refine ji_putfi (pc := 8) wpX10_56 (jRc3 rfl) jcl_0 r3 hF dX10_seed_8 (fun s4 hF => ?_)
    refine ji_iconst (pc := 11) dX10_seed_11 ?_
    exact ji_reti (pc := 12) rfl (jRc rfl) hF dX10_seed_12
  · refine ji_iconst (pc := 4) dX10_seed_4 ?_
    exact ji_reti (pc := 5) rfl (jRc rfl) hF dX10_seed_5
def bX10_drawNext_50 (k68 : Int → Int → jMem → jO) (rec : Int → Int → Int → jMem → jO) (l1 l3 l4 : Int) (s0 : jMem) : jO :=
if 34 ≤ l4 then (
jRet (-3) s0)
else (
jGd ((0 : Int) ≤ l4 ∧ l4 < jik 3) <| jLet (s0 3 l4) fun x5 =>
if x5 ≤ l3 then (
jGd ((0 : Int) ≤ l4 ∧ l4 < jik 3) <| jLet (s0 3 l4) fun x9 =>
jLet (j32 (l3 - x9)) fun x10 =>
jLet (j32 (l4 + 1)) fun x11 =>
rec l1 x10 x11 s0)
else (
k68 l1 l4 s0))
def bX10_drawNext_68 (l1 l4 : Int) (s0 : jMem) : jO :=
jGd ((0 : Int) ≤ l4 ∧ l4 < jik 3) <| jLet (s0 3 l4) fun x3 =>
jLet (j32 (x3 - 1)) fun x4 =>
jGd ((0 : Int) ≤ l4 ∧ l4 < jik 3) <| jLet (jU s0 3 l4 x4) fun s5 =>
jGd (jcl l1 = 0) <| jBd (fX1_gain l1 l4 s5) fun x9 s10 =>
jRet l4 s10
def fX10_drawNext (l1 : Int) (s0 : jMem) : jO :=
jBd (fX8_sum 3 s0) fun x2 s3 =>
if x2 = 0 then (
jRet (-3) s3)
else (
jLet (s3 0 8) fun x7 =>
jLet (j64 (x7 * 48271)) fun x8 =>
jLet (j64 (x8 + 11)) fun x9 =>
jLet (jandl x9 2147483647) fun x10 =>
jLet (j32 x10) fun x11 =>
jLet (jU s3 0 8 x11) fun s12 =>
jLet (s12 0 8) fun x14 =>
jGd (¬ (64 : Int) = 0) <| jLet (jdiv x14 64) fun x15 =>
jGd (¬ (x2 : Int) = 0) <| jLet (jrem x15 x2) fun x17 =>
jIt (fun _ _ _ _ => none) (bX10_drawNext_50 bX10_drawNext_68) 1000 l1 x17 0 s12)
def gX10_drawNext (vs : List Int) (s : jMem) : jO := match vs with
  | [a0, a1] => jGd (a0 = 0) <| fX10_drawNext a1 s
  | _ => none
set_option maxRecDepth 100000 in
set_option maxHeartbeats 4000000 in
theorem obX10_drawNext_50 {E : jEnv} {Rr : Int → jMem → Prop} {k68 : Int → Int → jMem → jO} (hk68 : ∀ (l1 l4 : Int) (s : jMem), jHo Rr (k68 l1 l4 s) → jGo E MX10_drawNext 1 Rr [3, 3, 0, 0, 1] 68 [0, l1, 0, 0, l4] ([]) s) {rec : Int → Int → Int → jMem → jO} (hrec : ∀ (l1 l3 l4 : Int) (s : jMem), jHo Rr (rec l1 l3 l4 s) → jGo E MX10_drawNext 1 Rr [3, 3, 0, 1, 1] 50 [0, l1, 0, l3, l4] ([]) s) : ∀ (l1 l3 l4 : Int) (s : jMem), jHo Rr (bX10_drawNext_50 k68 rec l1 l3 l4 s) → jGo E MX10_drawNext 1 Rr [3, 3, 0, 1, 1] 50 [0, l1, 0, l3, l4] ([]) s := by
  intro l1 l3 l4 s0 hF
  unfold bX10_drawNext_50 at hF
  refine ji_iload (pc := 50) l4 rfl rfl dX10_drawNext_50 (fun r1 => ?_)
  refine jg_bipush (pc := 52) rfl dX10_drawNext_52 ?_
  refine ji_icmp_ge 104 (pc := 54) r1 (jRc rfl) hF dX10_drawNext_54 rfl (fun hF => ?_) (fun hF => ?_)
  · refine jg_bipush (pc := 104) rfl dX10_drawNext_104 ?_
    exact ji_reti (pc := 106) rfl (jRc rfl) hF dX10_drawNext_106
  · refine ji_iload_n (n := 3) (pc := 57) l3 rfl rfl rfl dX10_drawNext_57 (fun r2 => ?_)
    refine ji_aload_n (n := 0) (pc := 58) 0 rfl rfl rfl dX10_drawNext_58 (fun r3 => ?_)
    refine ji_getr (pc := 59) 3 wfX10_23 (jRc3 rfl) jcl_0 jrf_0_2 dX10_drawNext_59 ?_
    refine ji_iload (pc := 62) l4 rfl rfl dX10_drawNext_62 (fun r4 => ?_)
    refine ji_iaload (pc := 64) (jRc3 rfl) r4 hF dX10_drawNext_64 (fun x5 r_x5 hF => ?_)
    refine ji_icmp_ge 88 (pc := 65) r2 r_x5 hF dX10_drawNext_65 rfl (fun hF => ?_) (fun hF => ?_)
    · refine ji_iload_n (n := 3) (pc := 88) l3 rfl rfl rfl dX10_drawNext_88 (fun r6 => ?_)
      refine ji_aload_n (n := 0) (pc := 89) 0 rfl rfl rfl dX10_drawNext_89 (fun r7 => ?_)
      refine ji_getr (pc := 90) 3 wfX10_23 (jRc3 rfl) jcl_0 jrf_0_2 dX10_drawNext_90 ?_
      refine ji_iload (pc := 93) l4 rfl rfl dX10_drawNext_93 (fun r8 => ?_)
      refine ji_iaload (pc := 95) (jRc3 rfl) r8 hF dX10_drawNext_95 (fun x9 r_x9 hF => ?_)
      refine ji_isub (pc := 96)  hF dX10_drawNext_96 (fun x10 r_x10 hF => ?_)
      refine ji_istore_n (n := 3) (pc := 97) [3, 3, 0, 1, 1] [0, l1, 0, x10, l4] rfl r_x10 (Nat.le_of_ble_eq_true rfl) rfl rfl dX10_drawNext_97 ?_
      refine ji_iinc (pc := 98) l4 (fun w => [0, l1, 0, x10, w]) rfl rfl rfl (fun _ => rfl) hF dX10_drawNext_98 (fun x11 r_x11 hF => ?_)
      refine jg_goto (pc := 101) 50 dX10_drawNext_101 rfl ?_
      refine jg_norm [3, 3, 0, 1, 1] [0, l1, 0, x10, x11] rfl rfl ?_
      exact hrec _ _ _ _ hF
    · refine jg_norm [3, 3, 0, 0, 1] [0, l1, 0, 0, l4] rfl rfl ?_
      exact hk68 _ _ _ hF
theorem obX10_drawNext_50W {E : jEnv} {Rr : Int → jMem → Prop} {k68 : Int → Int → jMem → jO} (hk68 : ∀ (l1 l4 : Int) (s : jMem), jHo Rr (k68 l1 l4 s) → jGo E MX10_drawNext 1 Rr [3, 3, 0, 0, 1] 68 [0, l1, 0, 0, l4] ([]) s) : ∀ n : Nat, ∀ (l1 l3 l4 : Int) (s : jMem), jHo Rr (jIt (fun _ _ _ _ => none) (bX10_drawNext_50 k68) n l1 l3 l4 s) → jGo E MX10_drawNext 1 Rr [3, 3, 0, 1, 1] 50 [0, l1, 0, l3, l4] ([]) s := by
  intro n
  induction n with
  | zero => intro l1 l3 l4 s hF; exact jHo_none hF
  | succ n ih => exact obX10_drawNext_50 hk68 ih

set_option maxRecDepth 100000 in
set_option maxHeartbeats 4000000 in
theorem obX10_drawNext_68 {E : jEnv} {Rr : Int → jMem → Prop} : ∀ (l1 l4 : Int) (s : jMem), jHo Rr (bX10_drawNext_68 l1 l4 s) → jGo E MX10_drawNext 1 Rr [3, 3, 0, 0, 1] 68 [0, l1, 0, 0, l4] ([]) s := by
  intro l1 l4 s0 hF
  unfold bX10_drawNext_68 at hF
  refine ji_aload_n (n := 0) (pc := 68) 0 rfl rfl rfl dX10_drawNext_68 (fun r1 => ?_)
  refine ji_getr (pc := 69) 3 wfX10_23 (jRc3 rfl) jcl_0 jrf_0_2 dX10_drawNext_69 ?_
  refine ji_iload (pc := 72) l4 rfl rfl dX10_drawNext_72 (fun r2 => ?_)
  refine jg_dup2 (pc := 74) (by decide) (by decide) dX10_drawNext_74 ?_
  refine ji_iaload (pc := 75) (jRc3 rfl) r2 hF dX10_drawNext_75 (fun x3 r_x3 hF => ?_)
  refine ji_iconst (pc := 76) dX10_drawNext_76 ?_
  refine ji_isub (pc := 77)  hF dX10_drawNext_77 (fun x4 r_x4 hF => ?_)
  refine ji_iastore (pc := 78) (jRc3 rfl) r2 r_x4 hF dX10_drawNext_78 (fun s5 hF => ?_)
  refine ji_aload_n (n := 1) (pc := 79) l1 rfl rfl rfl dX10_drawNext_79 (fun r6 => ?_)
  refine ji_iload (pc := 80) l4 rfl rfl dX10_drawNext_80 (fun r7 => ?_)
  obtain ⟨h8, hF⟩ := jHo_as hF
  refine ji_callVv (pc := 82) l1 [l4] ([]) oX1_gain wlX10_120 wmX1_gain rfl rfl (Nat.le_of_ble_eq_true rfl) (jRaC r6 (jRaC r7 jRa0)) rfl h8 rfl (Nat.le_of_ble_eq_true rfl) hF dX10_drawNext_82 (fun x9 s10 hF => ?_)
  refine ji_iload (pc := 85) l4 rfl rfl dX10_drawNext_85 (fun r11 => ?_)
  exact ji_reti (pc := 87) rfl r11 hF dX10_drawNext_87
set_option maxRecDepth 100000 in
set_option maxHeartbeats 4000000 in
theorem oX10_drawNext : jOk MX10_drawNext [3, 3] 1 (jFn gX10_drawNext) := by
  refine jOk_fn (by decide +kernel) (Nat.le_of_ble_eq_true rfl) (by decide +kernel) (.inr (.inl rfl)) ?_
  intro E vs s0 Rr hF ha
  obtain ⟨l0, t0, rfl, r_l0, ha⟩ := jRa_ci ha
  obtain ⟨l1, t1, rfl, r_l1, ha⟩ := jRa_ci ha
  obtain rfl := jRa_ni ha
  replace hF : jHo Rr (jGd (l0 = 0) <| fX10_drawNext l1 s0) := hF
  have hG := jHo_as hF
  clear hF
  obtain ⟨rfl, hF⟩ := hG
  refine jg_norm [3, 3, 0, 0, 0] [0, l1, 0, 0, 0] rfl rfl ?_
  unfold fX10_drawNext at hF
  refine ji_aload_n (n := 0) (pc := 0) 0 rfl rfl rfl dX10_drawNext_0 (fun r1 => ?_)
  refine ji_getr (pc := 1) 3 wfX10_23 (jRc3 rfl) jcl_0 jrf_0_2 dX10_drawNext_1 ?_
  refine ji_callSi (pc := 4) [3] ([]) oX8_sum wlX10_279 wmX8_sum rfl rfl (Nat.le_of_ble_eq_true rfl) (jRaC (jRc3 rfl) jRa0) rfl rfl (Nat.le_of_ble_eq_true rfl) hF dX10_drawNext_4 (fun x2 s3 r_x2 hF => ?_)
  refine ji_istore_n (n := 2) (pc := 7) [3, 3, 1, 0, 0] [0, l1, x2, 0, 0] rfl r_x2 (Nat.le_of_ble_eq_true rfl) rfl rfl dX10_drawNext_7 ?_
  refine ji_iload_n (n := 2) (pc := 8) x2 rfl rfl rfl dX10_drawNext_8 (fun r4 => ?_)
  refine ji_if_ne 15 (pc := 9) r4 hF dX10_drawNext_9 rfl (fun hF => ?_) (fun hF => ?_)
  · refine ji_aload_n (n := 0) (pc := 15) 0 rfl rfl rfl dX10_drawNext_15 (fun r5 => ?_)
    refine ji_aload_n (n := 0) (pc := 16) 0 rfl rfl rfl dX10_drawNext_16 (fun r6 => ?_)
    refine ji_getfi (pc := 17) wfX10_56 (jRc3 rfl) jcl_0 hF dX10_drawNext_17 (fun x7 r_x7 hF => ?_)
    refine jg_i2l (pc := 20) r_x7 dX10_drawNext_20 ?_
    refine jg_ldc2 (n := 48271) (pc := 21) wnX10_281 dX10_drawNext_21 ?_
    refine ji_lmul (pc := 24)  hF dX10_drawNext_24 (fun x8 r_x8 hF => ?_)
    refine jg_ldc2 (n := 11) (pc := 25) wnX10_283 dX10_drawNext_25 ?_
    refine ji_ladd (pc := 28)  hF dX10_drawNext_28 (fun x9 r_x9 hF => ?_)
    refine jg_ldc2 (n := 2147483647) (pc := 29) wnX10_285 dX10_drawNext_29 ?_
    refine ji_land (pc := 32)  hF dX10_drawNext_32 (fun x10 r_x10 hF => ?_)
    refine ji_l2i (pc := 33)  hF dX10_drawNext_33 (fun x11 r_x11 hF => ?_)
    refine ji_putfi (pc := 34) wpX10_56 (jRc3 rfl) jcl_0 r_x11 hF dX10_drawNext_34 (fun s12 hF => ?_)
    refine ji_aload_n (n := 0) (pc := 37) 0 rfl rfl rfl dX10_drawNext_37 (fun r13 => ?_)
    refine ji_getfi (pc := 38) wfX10_56 (jRc3 rfl) jcl_0 hF dX10_drawNext_38 (fun x14 r_x14 hF => ?_)
    refine jg_bipush (pc := 41) rfl dX10_drawNext_41 ?_
    refine ji_idiv (pc := 43) (jRc rfl) hF dX10_drawNext_43 (fun x15 r_x15 hF => ?_)
    refine ji_iload_n (n := 2) (pc := 44) x2 rfl rfl rfl dX10_drawNext_44 (fun r16 => ?_)
    refine ji_irem (pc := 45) r16 hF dX10_drawNext_45 (fun x17 r_x17 hF => ?_)
    refine ji_istore_n (n := 3) (pc := 46) [3, 3, 1, 1, 0] [0, l1, x2, x17, 0] rfl r_x17 (Nat.le_of_ble_eq_true rfl) rfl rfl dX10_drawNext_46 ?_
    refine ji_iconst (pc := 47) dX10_drawNext_47 ?_
    refine ji_istore (n := 4) (pc := 48) [3, 3, 1, 1, 1] [0, l1, x2, x17, 0] (jRc rfl) (Nat.le_of_ble_eq_true rfl) rfl rfl dX10_drawNext_48 ?_
    refine jg_norm [3, 3, 0, 1, 1] [0, l1, 0, x17, 0] rfl rfl ?_
    exact obX10_drawNext_50W obX10_drawNext_68 1000 _ _ _ _ hF
  · refine jg_bipush (pc := 12) rfl dX10_drawNext_12 ?_
    exact ji_reti (pc := 14) rfl (jRc rfl) hF dX10_drawNext_14
def fX10_draw (l1 : Int) (s0 : jMem) : jO :=
jBd (fX10_isHand l1 s0) fun x2 s3 =>
if x2 = 0 then (
jRet (-1) s3)
else (
jGd ((0 : Int) ≤ l1 ∧ l1 < jrk 2 6) <| jLet (jrf 2 l1) fun x6 =>
jGd (jcl x6 = 0) <| jBd (fX1_isFull x6 s3) fun x8 s9 =>
if x8 = 0 then (
jGd ((0 : Int) ≤ l1 ∧ l1 < jrk 2 6) <| jLet (jrf 2 l1) fun x13 =>
jBd (fX10_drawNext x13 s9) fun x14 s15 =>
jRet x14 s15)
else (
jRet (-2) s9))
def gX10_draw (vs : List Int) (s : jMem) : jO := match vs with
  | [a0, a1] => jGd (a0 = 0) <| fX10_draw a1 s
  | _ => none
set_option maxRecDepth 100000 in
set_option maxHeartbeats 4000000 in
theorem oX10_draw : jOk MX10_draw [3, 1] 2 (jFn gX10_draw) := by
  refine jOk_fn (by decide +kernel) (Nat.le_of_ble_eq_true rfl) (by decide +kernel) (.inr (.inl rfl)) ?_
  intro E vs s0 Rr hF ha
  obtain ⟨l0, t0, rfl, r_l0, ha⟩ := jRa_ci ha
  obtain ⟨l1, t1, rfl, r_l1, ha⟩ := jRa_ci ha
  obtain rfl := jRa_ni ha
  replace hF : jHo Rr (jGd (l0 = 0) <| fX10_draw l1 s0) := hF
  have hG := jHo_as hF
  clear hF
  obtain ⟨rfl, hF⟩ := hG
  refine jg_norm [3, 1] [0, l1] rfl rfl ?_
  unfold fX10_draw at hF
  refine ji_iload_n (n := 1) (pc := 0) l1 rfl rfl rfl dX10_draw_0 (fun r1 => ?_)
  refine ji_callSz (pc := 1) [l1] ([]) oX10_isHand wlX10_103 wmX10_isHand rfl rfl (Nat.le_of_ble_eq_true rfl) (jRaC r1 jRa0) rfl rfl (Nat.le_of_ble_eq_true rfl) hF dX10_draw_1 (fun x2 s3 r_x2 hF => ?_)
  refine ji_if_ne 9 (pc := 4) (jR51 r_x2) hF dX10_draw_4 rfl (fun hF => ?_) (fun hF => ?_)
  · refine ji_aload_n (n := 0) (pc := 9) 0 rfl rfl rfl dX10_draw_9 (fun r4 => ?_)
    refine ji_getr (pc := 10) 2 wfX10_17 (jRc3 rfl) jcl_0 jrf_0_1 dX10_draw_10 ?_
    refine ji_iload_n (n := 1) (pc := 13) l1 rfl rfl rfl dX10_draw_13 (fun r5 => ?_)
    refine ji_aaload (pc := 14) 6 4 (jRc3 rfl) r5 (.inr ⟨rfl, rfl, rfl⟩) hF dX10_draw_14 (fun x6 r_x6 hF => ?_)
    obtain ⟨h7, hF⟩ := jHo_as hF
    refine ji_callVz (pc := 15) x6 [] ([]) oX1_isFull wlX10_117 wmX1_isFull rfl rfl (Nat.le_of_ble_eq_true rfl) (jRaC r_x6 jRa0) rfl h7 rfl (Nat.le_of_ble_eq_true rfl) hF dX10_draw_15 (fun x8 s9 r_x8 hF => ?_)
    refine ji_if_eq 24 (pc := 18) (jR51 r_x8) hF dX10_draw_18 rfl (fun hF => ?_) (fun hF => ?_)
    · refine ji_aload_n (n := 0) (pc := 24) 0 rfl rfl rfl dX10_draw_24 (fun r10 => ?_)
      refine ji_aload_n (n := 0) (pc := 25) 0 rfl rfl rfl dX10_draw_25 (fun r11 => ?_)
      refine ji_getr (pc := 26) 2 wfX10_17 (jRc3 rfl) jcl_0 jrf_0_1 dX10_draw_26 ?_
      refine ji_iload_n (n := 1) (pc := 29) l1 rfl rfl rfl dX10_draw_29 (fun r12 => ?_)
      refine ji_aaload (pc := 30) 6 4 (jRc3 rfl) r12 (.inr ⟨rfl, rfl, rfl⟩) hF dX10_draw_30 (fun x13 r_x13 hF => ?_)
      refine ji_callVi (pc := 31) 0 [x13] ([]) oX10_drawNext wlX10_124 wmX10_drawNext rfl rfl (Nat.le_of_ble_eq_true rfl) (jRaC (jRc3 rfl) (jRaC r_x13 jRa0)) rfl jcl_0 rfl (Nat.le_of_ble_eq_true rfl) hF dX10_draw_31 (fun x14 s15 r_x14 hF => ?_)
      exact ji_reti (pc := 34) rfl r_x14 hF dX10_draw_34
    · refine jg_bipush (pc := 21) rfl dX10_draw_21 ?_
      exact ji_reti (pc := 23) rfl (jRc rfl) hF dX10_draw_23
  · refine ji_iconst (pc := 7) dX10_draw_7 ?_
    exact ji_reti (pc := 8) rfl (jRc rfl) hF dX10_draw_8
def bX10_deal_13 (k38 : jMem → jO) (rec : Int → jMem → jO) (l2 : Int) (s0 : jMem) : jO :=
if 4 ≤ l2 then (
k38 s0)
else (
jGd ((0 : Int) ≤ l2 ∧ l2 < jrk 2 6) <| jLet (jrf 2 l2) fun x4 =>
jGd (jcl x4 = 0) <| jBd (fX1_giveBack x4 3 s0) fun x7 s8 =>
jLet (j32 (l2 + 1)) fun x9 =>
rec x9 s8)
def bX10_deal_63 (k86 : Int → jMem → jO) (rec : Int → Int → jMem → jO) (l2 l3 : Int) (s0 : jMem) : jO :=
if 13 ≤ l3 then (
k86 l2 s0)
else (
jGd ((0 : Int) ≤ l2 ∧ l2 < jrk 2 6) <| jLet (jrf 2 l2) fun x5 =>
jBd (fX10_drawNext x5 s0) fun x6 s7 =>
jLet (j32 (l3 + 1)) fun x8 =>
rec l2 x8 s7)
def bX10_deal_86 (k56 : Int → jMem → jO) (l2 : Int) (s0 : jMem) : jO :=
jLet (j32 (l2 + 1)) fun x1 =>
k56 x1 s0
def bX10_deal_56 (rec : Int → jMem → jO) (l2 : Int) (s0 : jMem) : jO :=
if 4 ≤ l2 then (
jRet 0 s0)
else (
jIt (fun _ _ _ => none) (bX10_deal_63 (bX10_deal_86 rec)) 1000 l2 0 s0)
def bX10_deal_38 (s0 : jMem) : jO :=
jBd (fJ7_fill_53178 3 4 s0) fun x2 s3 =>
jBd (fJ7_fill_53178 4 0 s3) fun x5 s6 =>
jIt (fun _ _ => none) (bX10_deal_56) 1000 0 s6
def fX10_deal (l1 : Int) (s0 : jMem) : jO :=
if 0 ≤ l1 then (
jLet (jU s0 0 8 l1) fun s4 =>
jIt (fun _ _ => none) (bX10_deal_13 bX10_deal_38) 1000 0 s4)
else (
jRet (-1) s0)
def gX10_deal (vs : List Int) (s : jMem) : jO := match vs with
  | [a0, a1] => jGd (a0 = 0) <| fX10_deal a1 s
  | _ => none
set_option maxRecDepth 100000 in
set_option maxHeartbeats 4000000 in
theorem obX10_deal_13 {E : jEnv} {Rr : Int → jMem → Prop} {k38 : jMem → jO} (hk38 : ∀ (s : jMem), jHo Rr (k38 s) → jGo E MX10_deal 2 Rr [3, 0, 0, 0] 38 [0, 0, 0, 0] ([]) s) {rec : Int → jMem → jO} (hrec : ∀ (l2 : Int) (s : jMem), jHo Rr (rec l2 s) → jGo E MX10_deal 2 Rr [3, 0, 1, 0] 13 [0, 0, l2, 0] ([]) s) : ∀ (l2 : Int) (s : jMem), jHo Rr (bX10_deal_13 k38 rec l2 s) → jGo E MX10_deal 2 Rr [3, 0, 1, 0] 13 [0, 0, l2, 0] ([]) s := by
  intro l2 s0 hF
  unfold bX10_deal_13 at hF
  refine ji_iload_n (n := 2) (pc := 13) l2 rfl rfl rfl dX10_deal_13 (fun r1 => ?_)
  refine ji_iconst (pc := 14) dX10_deal_14 ?_
  refine ji_icmp_ge 38 (pc := 15) r1 (jRc rfl) hF dX10_deal_15 rfl (fun hF => ?_) (fun hF => ?_)
  · refine jg_norm [3, 0, 0, 0] [0, 0, 0, 0] rfl rfl ?_
    exact hk38 _ hF
  · refine ji_aload_n (n := 0) (pc := 18) 0 rfl rfl rfl dX10_deal_18 (fun r2 => ?_)
    refine ji_getr (pc := 19) 2 wfX10_17 (jRc3 rfl) jcl_0 jrf_0_1 dX10_deal_19 ?_
    refine ji_iload_n (n := 2) (pc := 22) l2 rfl rfl rfl dX10_deal_22 (fun r3 => ?_)
    refine ji_aaload (pc := 23) 6 4 (jRc3 rfl) r3 (.inr ⟨rfl, rfl, rfl⟩) hF dX10_deal_23 (fun x4 r_x4 hF => ?_)
    refine ji_aload_n (n := 0) (pc := 24) 0 rfl rfl rfl dX10_deal_24 (fun r5 => ?_)
    refine ji_getr (pc := 25) 3 wfX10_23 (jRc3 rfl) jcl_0 jrf_0_2 dX10_deal_25 ?_
    obtain ⟨h6, hF⟩ := jHo_as hF
    refine ji_callVi (pc := 28) x4 [3] ([]) oX1_giveBack wlX10_128 wmX1_giveBack rfl rfl (Nat.le_of_ble_eq_true rfl) (jRaC r_x4 (jRaC (jRc3 rfl) jRa0)) rfl h6 rfl (Nat.le_of_ble_eq_true rfl) hF dX10_deal_28 (fun x7 s8 r_x7 hF => ?_)
    refine jg_pop (pc := 31) (by decide) dX10_deal_31 ?_
    refine ji_iinc (pc := 32) l2 (fun w => [0, 0, w, 0]) rfl rfl rfl (fun _ => rfl) hF dX10_deal_32 (fun x9 r_x9 hF => ?_)
    refine jg_goto (pc := 35) 13 dX10_deal_35 rfl ?_
    refine jg_norm [3, 0, 1, 0] [0, 0, x9, 0] rfl rfl ?_
    exact hrec _ _ hF
theorem obX10_deal_13W {E : jEnv} {Rr : Int → jMem → Prop} {k38 : jMem → jO} (hk38 : ∀ (s : jMem), jHo Rr (k38 s) → jGo E MX10_deal 2 Rr [3, 0, 0, 0] 38 [0, 0, 0, 0] ([]) s) : ∀ n : Nat, ∀ (l2 : Int) (s : jMem), jHo Rr (jIt (fun _ _ => none) (bX10_deal_13 k38) n l2 s) → jGo E MX10_deal 2 Rr [3, 0, 1, 0] 13 [0, 0, l2, 0] ([]) s := by
  intro n
  induction n with
  | zero => intro l2 s hF; exact jHo_none hF
  | succ n ih => exact obX10_deal_13 hk38 ih

set_option maxRecDepth 100000 in
set_option maxHeartbeats 4000000 in
theorem obX10_deal_63 {E : jEnv} {Rr : Int → jMem → Prop} {k86 : Int → jMem → jO} (hk86 : ∀ (l2 : Int) (s : jMem), jHo Rr (k86 l2 s) → jGo E MX10_deal 2 Rr [3, 0, 1, 0] 86 [0, 0, l2, 0] ([]) s) {rec : Int → Int → jMem → jO} (hrec : ∀ (l2 l3 : Int) (s : jMem), jHo Rr (rec l2 l3 s) → jGo E MX10_deal 2 Rr [3, 0, 1, 1] 63 [0, 0, l2, l3] ([]) s) : ∀ (l2 l3 : Int) (s : jMem), jHo Rr (bX10_deal_63 k86 rec l2 l3 s) → jGo E MX10_deal 2 Rr [3, 0, 1, 1] 63 [0, 0, l2, l3] ([]) s := by
  intro l2 l3 s0 hF
  unfold bX10_deal_63 at hF
  refine ji_iload_n (n := 3) (pc := 63) l3 rfl rfl rfl dX10_deal_63 (fun r1 => ?_)
  refine jg_bipush (pc := 64) rfl dX10_deal_64 ?_
  refine ji_icmp_ge 86 (pc := 66) r1 (jRc rfl) hF dX10_deal_66 rfl (fun hF => ?_) (fun hF => ?_)
  · refine jg_norm [3, 0, 1, 0] [0, 0, l2, 0] rfl rfl ?_
    exact hk86 _ _ hF
  · refine ji_aload_n (n := 0) (pc := 69) 0 rfl rfl rfl dX10_deal_69 (fun r2 => ?_)
    refine ji_aload_n (n := 0) (pc := 70) 0 rfl rfl rfl dX10_deal_70 (fun r3 => ?_)
    refine ji_getr (pc := 71) 2 wfX10_17 (jRc3 rfl) jcl_0 jrf_0_1 dX10_deal_71 ?_
    refine ji_iload_n (n := 2) (pc := 74) l2 rfl rfl rfl dX10_deal_74 (fun r4 => ?_)
    refine ji_aaload (pc := 75) 6 4 (jRc3 rfl) r4 (.inr ⟨rfl, rfl, rfl⟩) hF dX10_deal_75 (fun x5 r_x5 hF => ?_)
    refine ji_callVi (pc := 76) 0 [x5] ([]) oX10_drawNext wlX10_124 wmX10_drawNext rfl rfl (Nat.le_of_ble_eq_true rfl) (jRaC (jRc3 rfl) (jRaC r_x5 jRa0)) rfl jcl_0 rfl (Nat.le_of_ble_eq_true rfl) hF dX10_deal_76 (fun x6 s7 r_x6 hF => ?_)
    refine jg_pop (pc := 79) (by decide) dX10_deal_79 ?_
    refine ji_iinc (pc := 80) l3 (fun w => [0, 0, l2, w]) rfl rfl rfl (fun _ => rfl) hF dX10_deal_80 (fun x8 r_x8 hF => ?_)
    refine jg_goto (pc := 83) 63 dX10_deal_83 rfl ?_
    refine jg_norm [3, 0, 1, 1] [0, 0, l2, x8] rfl rfl ?_
    exact hrec _ _ _ hF
theorem obX10_deal_63W {E : jEnv} {Rr : Int → jMem → Prop} {k86 : Int → jMem → jO} (hk86 : ∀ (l2 : Int) (s : jMem), jHo Rr (k86 l2 s) → jGo E MX10_deal 2 Rr [3, 0, 1, 0] 86 [0, 0, l2, 0] ([]) s) : ∀ n : Nat, ∀ (l2 l3 : Int) (s : jMem), jHo Rr (jIt (fun _ _ _ => none) (bX10_deal_63 k86) n l2 l3 s) → jGo E MX10_deal 2 Rr [3, 0, 1, 1] 63 [0, 0, l2, l3] ([]) s := by
  intro n
  induction n with
  | zero => intro l2 l3 s hF; exact jHo_none hF
  | succ n ih => exact obX10_deal_63 hk86 ih

set_option maxRecDepth 100000 in
set_option maxHeartbeats 4000000 in
theorem obX10_deal_86 {E : jEnv} {Rr : Int → jMem → Prop} {k56 : Int → jMem → jO} (hk56 : ∀ (l2 : Int) (s : jMem), jHo Rr (k56 l2 s) → jGo E MX10_deal 2 Rr [3, 0, 1, 0] 56 [0, 0, l2, 0] ([]) s) : ∀ (l2 : Int) (s : jMem), jHo Rr (bX10_deal_86 k56 l2 s) → jGo E MX10_deal 2 Rr [3, 0, 1, 0] 86 [0, 0, l2, 0] ([]) s := by
  intro l2 s0 hF
  unfold bX10_deal_86 at hF
  refine ji_iinc (pc := 86) l2 (fun w => [0, 0, w, 0]) rfl rfl rfl (fun _ => rfl) hF dX10_deal_86 (fun x1 r_x1 hF => ?_)
  refine jg_goto (pc := 89) 56 dX10_deal_89 rfl ?_
  refine jg_norm [3, 0, 1, 0] [0, 0, x1, 0] rfl rfl ?_
  exact hk56 _ _ hF
set_option maxRecDepth 100000 in
set_option maxHeartbeats 4000000 in
theorem obX10_deal_56 {E : jEnv} {Rr : Int → jMem → Prop} {rec : Int → jMem → jO} (hrec : ∀ (l2 : Int) (s : jMem), jHo Rr (rec l2 s) → jGo E MX10_deal 2 Rr [3, 0, 1, 0] 56 [0, 0, l2, 0] ([]) s) : ∀ (l2 : Int) (s : jMem), jHo Rr (bX10_deal_56 rec l2 s) → jGo E MX10_deal 2 Rr [3, 0, 1, 0] 56 [0, 0, l2, 0] ([]) s := by
  intro l2 s0 hF
  unfold bX10_deal_56 at hF
  refine ji_iload_n (n := 2) (pc := 56) l2 rfl rfl rfl dX10_deal_56 (fun r1 => ?_)
  refine ji_iconst (pc := 57) dX10_deal_57 ?_
  refine ji_icmp_ge 92 (pc := 58) r1 (jRc rfl) hF dX10_deal_58 rfl (fun hF => ?_) (fun hF => ?_)
  · refine ji_iconst (pc := 92) dX10_deal_92 ?_
    exact ji_reti (pc := 93) rfl (jRc rfl) hF dX10_deal_93
  · refine ji_iconst (pc := 61) dX10_deal_61 ?_
    refine ji_istore_n (n := 3) (pc := 62) [3, 0, 1, 1] [0, 0, l2, 0] rfl (jRc rfl) (Nat.le_of_ble_eq_true rfl) rfl rfl dX10_deal_62 ?_
    refine jg_norm [3, 0, 1, 1] [0, 0, l2, 0] rfl rfl ?_
    exact obX10_deal_63W (obX10_deal_86 hrec) 1000 _ _ _ hF
theorem obX10_deal_56W {E : jEnv} {Rr : Int → jMem → Prop} : ∀ n : Nat, ∀ (l2 : Int) (s : jMem), jHo Rr (jIt (fun _ _ => none) (bX10_deal_56) n l2 s) → jGo E MX10_deal 2 Rr [3, 0, 1, 0] 56 [0, 0, l2, 0] ([]) s := by
  intro n
  induction n with
  | zero => intro l2 s hF; exact jHo_none hF
  | succ n ih => exact obX10_deal_56 ih

set_option maxRecDepth 100000 in
set_option maxHeartbeats 4000000 in
theorem obX10_deal_38 {E : jEnv} {Rr : Int → jMem → Prop} : ∀ (s : jMem), jHo Rr (bX10_deal_38 s) → jGo E MX10_deal 2 Rr [3, 0, 0, 0] 38 [0, 0, 0, 0] ([]) s := by
  intro s0 hF
  unfold bX10_deal_38 at hF
  refine ji_aload_n (n := 0) (pc := 38) 0 rfl rfl rfl dX10_deal_38 (fun r1 => ?_)
  refine ji_getr (pc := 39) 3 wfX10_23 (jRc3 rfl) jcl_0 jrf_0_2 dX10_deal_39 ?_
  refine ji_iconst (pc := 42) dX10_deal_42 ?_
  refine ji_callSv (pc := 43) [3, 4] ([]) oJ7_fill_53178 wlX10_62 wmJ7_fill_53178 rfl rfl (Nat.le_of_ble_eq_true rfl) (jRaC (jRc3 rfl) (jRaC (jRc rfl) jRa0)) rfl rfl (Nat.le_of_ble_eq_true rfl) hF dX10_deal_43 (fun x2 s3 hF => ?_)
  refine ji_aload_n (n := 0) (pc := 46) 0 rfl rfl rfl dX10_deal_46 (fun r4 => ?_)
  refine ji_getr (pc := 47) 4 wfX10_27 (jRc3 rfl) jcl_0 jrf_0_3 dX10_deal_47 ?_
  refine ji_iconst (pc := 50) dX10_deal_50 ?_
  refine ji_callSv (pc := 51) [4, 0] ([]) oJ7_fill_53178 wlX10_62 wmJ7_fill_53178 rfl rfl (Nat.le_of_ble_eq_true rfl) (jRaC (jRc3 rfl) (jRaC (jRc rfl) jRa0)) rfl rfl (Nat.le_of_ble_eq_true rfl) hF dX10_deal_51 (fun x5 s6 hF => ?_)
  refine ji_iconst (pc := 54) dX10_deal_54 ?_
  refine ji_istore_n (n := 2) (pc := 55) [3, 0, 1, 0] [0, 0, 0, 0] rfl (jRc rfl) (Nat.le_of_ble_eq_true rfl) rfl rfl dX10_deal_55 ?_
  refine jg_norm [3, 0, 1, 0] [0, 0, 0, 0] rfl rfl ?_
  exact obX10_deal_56W 1000 _ _ hF
set_option maxRecDepth 100000 in
set_option maxHeartbeats 4000000 in
theorem oX10_deal : jOk MX10_deal [3, 1] 2 (jFn gX10_deal) := by
  refine jOk_fn (by decide +kernel) (Nat.le_of_ble_eq_true rfl) (by decide +kernel) (.inr (.inl rfl)) ?_
  intro E vs s0 Rr hF ha
  obtain ⟨l0, t0, rfl, r_l0, ha⟩ := jRa_ci ha
  obtain ⟨l1, t1, rfl, r_l1, ha⟩ := jRa_ci ha
  obtain rfl := jRa_ni ha
  replace hF : jHo Rr (jGd (l0 = 0) <| fX10_deal l1 s0) := hF
  have hG := jHo_as hF
  clear hF
  obtain ⟨rfl, hF⟩ := hG
  refine jg_norm [3, 1, 0, 0] [0, l1, 0, 0] rfl rfl ?_
  unfold fX10_deal at hF
  refine ji_iload_n (n := 1) (pc := 0) l1 rfl rfl rfl dX10_deal_0 (fun r1 => ?_)
  refine ji_if_ge 6 (pc := 1) r1 hF dX10_deal_1 rfl (fun hF => ?_) (fun hF => ?_)
  · refine ji_aload_n (n := 0) (pc := 6) 0 rfl rfl rfl dX10_deal_6 (fun r2 => ?_)
    refine ji_iload_n (n := 1) (pc := 7) l1 rfl rfl rfl dX10_deal_7 (fun r3 => ?_)
    refine ji_putfi (pc := 8) wpX10_56 (jRc3 rfl) jcl_0 r3 hF dX10_deal_8 (fun s4 hF => ?_)
    refine ji_iconst (pc := 11) dX10_deal_11 ?_
    refine ji_istore_n (n := 2) (pc := 12) [3, 1, 1, 0] [0, l1, 0, 0] rfl (jRc rfl) (Nat.le_of_ble_eq_true rfl) rfl rfl dX10_deal_12 ?_
    refine jg_norm [3, 0, 1, 0] [0, 0, 0, 0] rfl rfl ?_
    exact obX10_deal_13W obX10_deal_38 1000 _ _ hF
  · refine ji_iconst (pc := 4) dX10_deal_4 ?_
    exact ji_reti (pc := 5) rfl (jRc rfl) hF dX10_deal_5
def fX10_discard (l1 l2 : Int) (s0 : jMem) : jO :=
jBd (fX10_isHand l1 s0) fun x2 s3 =>
if x2 = 0 then (
jRet (-1) s3)
else (
jBd (fX8_isSort l2 s3) fun x5 s6 =>
if x5 = 0 then (
jRet (-1) s6)
else (
jGd ((0 : Int) ≤ l1 ∧ l1 < jrk 2 6) <| jLet (jrf 2 l1) fun x9 =>
jGd (jcl x9 = 0) <| jLet (jrf x9 0) fun x11 =>
jGd ((0 : Int) ≤ l2 ∧ l2 < jik x11) <| jLet (s6 x11 l2) fun x13 =>
if x13 = 0 then (
jRet (-2) s6)
else (
jGd ((0 : Int) ≤ l1 ∧ l1 < jrk 2 6) <| jLet (jrf 2 l1) fun x16 =>
jGd (jcl x16 = 0) <| jBd (fX1_lose x16 l2 s6) fun x19 s20 =>
jGd ((0 : Int) ≤ l2 ∧ l2 < jik 4) <| jLet (s20 4 l2) fun x23 =>
jLet (j32 (x23 + 1)) fun x24 =>
jGd ((0 : Int) ≤ l2 ∧ l2 < jik 4) <| jLet (jU s20 4 l2 x24) fun s25 =>
jGd ((0 : Int) ≤ l1 ∧ l1 < jrk 2 6) <| jLet (jrf 2 l1) fun x28 =>
jGd (jcl x28 = 0) <| jBd (fX1_size x28 s25) fun x30 s31 =>
jRet x30 s31)))
def gX10_discard (vs : List Int) (s : jMem) : jO := match vs with
  | [a0, a1, a2] => jGd (a0 = 0) <| fX10_discard a1 a2 s
  | _ => none
set_option maxRecDepth 100000 in
set_option maxHeartbeats 4000000 in
theorem oX10_discard : jOk MX10_discard [3, 1, 1] 1 (jFn gX10_discard) := by
  refine jOk_fn (by decide +kernel) (Nat.le_of_ble_eq_true rfl) (by decide +kernel) (.inr (.inl rfl)) ?_
  intro E vs s0 Rr hF ha
  obtain ⟨l0, t0, rfl, r_l0, ha⟩ := jRa_ci ha
  obtain ⟨l1, t1, rfl, r_l1, ha⟩ := jRa_ci ha
  obtain ⟨l2, t2, rfl, r_l2, ha⟩ := jRa_ci ha
  obtain rfl := jRa_ni ha
  replace hF : jHo Rr (jGd (l0 = 0) <| fX10_discard l1 l2 s0) := hF
  have hG := jHo_as hF
  clear hF
  obtain ⟨rfl, hF⟩ := hG
  refine jg_norm [3, 1, 1] [0, l1, l2] rfl rfl ?_
  unfold fX10_discard at hF
  refine ji_iload_n (n := 1) (pc := 0) l1 rfl rfl rfl dX10_discard_0 (fun r1 => ?_)
  refine ji_callSz (pc := 1) [l1] ([]) oX10_isHand wlX10_103 wmX10_isHand rfl rfl (Nat.le_of_ble_eq_true rfl) (jRaC r1 jRa0) rfl rfl (Nat.le_of_ble_eq_true rfl) hF dX10_discard_1 (fun x2 s3 r_x2 hF => ?_)
  refine ji_if_eq 14 (pc := 4) (jR51 r_x2) hF dX10_discard_4 rfl (fun hF => ?_) (fun hF => ?_)
  · refine ji_iconst (pc := 14) dX10_discard_14 ?_
    exact ji_reti (pc := 15) rfl (jRc rfl) hF dX10_discard_15
  · refine ji_iload_n (n := 2) (pc := 7) l2 rfl rfl rfl dX10_discard_7 (fun r4 => ?_)
    refine ji_callSz (pc := 8) [l2] ([]) oX8_isSort wlX10_114 wmX8_isSort rfl rfl (Nat.le_of_ble_eq_true rfl) (jRaC r4 jRa0) rfl rfl (Nat.le_of_ble_eq_true rfl) hF dX10_discard_8 (fun x5 s6 r_x5 hF => ?_)
    refine ji_if_ne 16 (pc := 11) (jR51 r_x5) hF dX10_discard_11 rfl (fun hF => ?_) (fun hF => ?_)
    · refine ji_aload_n (n := 0) (pc := 16) 0 rfl rfl rfl dX10_discard_16 (fun r7 => ?_)
      refine ji_getr (pc := 17) 2 wfX10_17 (jRc3 rfl) jcl_0 jrf_0_1 dX10_discard_17 ?_
      refine ji_iload_n (n := 1) (pc := 20) l1 rfl rfl rfl dX10_discard_20 (fun r8 => ?_)
      refine ji_aaload (pc := 21) 6 4 (jRc3 rfl) r8 (.inr ⟨rfl, rfl, rfl⟩) hF dX10_discard_21 (fun x9 r_x9 hF => ?_)
      obtain ⟨h10, hF⟩ := jHo_as hF
      refine ji_getrL (pc := 22) wfX10_132 r_x9 h10 hF dX10_discard_22 (fun x11 r_x11 hF => ?_)
      refine ji_iload_n (n := 2) (pc := 25) l2 rfl rfl rfl dX10_discard_25 (fun r12 => ?_)
      refine ji_iaload (pc := 26) r_x11 r12 hF dX10_discard_26 (fun x13 r_x13 hF => ?_)
      refine ji_if_ne 33 (pc := 27) r_x13 hF dX10_discard_27 rfl (fun hF => ?_) (fun hF => ?_)
      · refine ji_aload_n (n := 0) (pc := 33) 0 rfl rfl rfl dX10_discard_33 (fun r14 => ?_)
        refine ji_getr (pc := 34) 2 wfX10_17 (jRc3 rfl) jcl_0 jrf_0_1 dX10_discard_34 ?_
        refine ji_iload_n (n := 1) (pc := 37) l1 rfl rfl rfl dX10_discard_37 (fun r15 => ?_)
        refine ji_aaload (pc := 38) 6 4 (jRc3 rfl) r15 (.inr ⟨rfl, rfl, rfl⟩) hF dX10_discard_38 (fun x16 r_x16 hF => ?_)
        refine ji_iload_n (n := 2) (pc := 39) l2 rfl rfl rfl dX10_discard_39 (fun r17 => ?_)
        obtain ⟨h18, hF⟩ := jHo_as hF
        refine ji_callVv (pc := 40) x16 [l2] ([]) oX1_lose wlX10_135 wmX1_lose rfl rfl (Nat.le_of_ble_eq_true rfl) (jRaC r_x16 (jRaC r17 jRa0)) rfl h18 rfl (Nat.le_of_ble_eq_true rfl) hF dX10_discard_40 (fun x19 s20 hF => ?_)
        refine ji_aload_n (n := 0) (pc := 43) 0 rfl rfl rfl dX10_discard_43 (fun r21 => ?_)
        refine ji_getr (pc := 44) 4 wfX10_27 (jRc3 rfl) jcl_0 jrf_0_3 dX10_discard_44 ?_
        refine ji_iload_n (n := 2) (pc := 47) l2 rfl rfl rfl dX10_discard_47 (fun r22 => ?_)
        refine jg_dup2 (pc := 48) (by decide) (by decide) dX10_discard_48 ?_
        refine ji_iaload (pc := 49) (jRc3 rfl) r22 hF dX10_discard_49 (fun x23 r_x23 hF => ?_)
        refine ji_iconst (pc := 50) dX10_discard_50 ?_
        refine ji_iadd (pc := 51)  hF dX10_discard_51 (fun x24 r_x24 hF => ?_)
        refine ji_iastore (pc := 52) (jRc3 rfl) r22 r_x24 hF dX10_discard_52 (fun s25 hF => ?_)
        refine ji_aload_n (n := 0) (pc := 53) 0 rfl rfl rfl dX10_discard_53 (fun r26 => ?_)
        refine ji_getr (pc := 54) 2 wfX10_17 (jRc3 rfl) jcl_0 jrf_0_1 dX10_discard_54 ?_
        refine ji_iload_n (n := 1) (pc := 57) l1 rfl rfl rfl dX10_discard_57 (fun r27 => ?_)
        refine ji_aaload (pc := 58) 6 4 (jRc3 rfl) r27 (.inr ⟨rfl, rfl, rfl⟩) hF dX10_discard_58 (fun x28 r_x28 hF => ?_)
        obtain ⟨h29, hF⟩ := jHo_as hF
        refine ji_callVi (pc := 59) x28 [] ([]) oX1_size wlX10_106 wmX1_size rfl rfl (Nat.le_of_ble_eq_true rfl) (jRaC r_x28 jRa0) rfl h29 rfl (Nat.le_of_ble_eq_true rfl) hF dX10_discard_59 (fun x30 s31 r_x30 hF => ?_)
        exact ji_reti (pc := 62) rfl r_x30 hF dX10_discard_62
      · refine jg_bipush (pc := 30) rfl dX10_discard_30 ?_
        exact ji_reti (pc := 32) rfl (jRc rfl) hF dX10_discard_32
    · refine ji_iconst (pc := 14) dX10_discard_14 ?_
      exact ji_reti (pc := 15) rfl (jRc rfl) hF dX10_discard_15
def bX10_open_40 (l1 l2 l3 : Int) (s0 : jMem) : jO :=
jGd ((0 : Int) ≤ l1 ∧ l1 < jrk 2 6) <| jLet (jrf 2 l1) fun x3 =>
jGd (jcl x3 = 0) <| jBd (fX1_canLay x3 l2 l3 s0) fun x7 s8 =>
if x7 = 0 then (
jRet (-2) s8)
else (
jGd ((0 : Int) ≤ l1 ∧ l1 < jrk 2 6) <| jLet (jrf 2 l1) fun x11 =>
jGd (jcl x11 = 0) <| jBd (fX1_lay x11 l2 l3 s8) fun x15 s16 =>
jGd ((0 : Int) ≤ l1 ∧ l1 < jrk 2 6) <| jLet (jrf 2 l1) fun x19 =>
jGd (jcl x19 = 0) <| jLet (s16 x19 4) fun x21 =>
jRet x21 s16)
def fX10_open (l1 l2 l3 : Int) (s0 : jMem) : jO :=
jBd (fX10_isHand l1 s0) fun x2 s3 =>
if x2 = 0 then (
jRet (-1) s3)
else (
jBd (fX8_isSort l3 s3) fun x5 s6 =>
if x5 = 0 then (
jRet (-1) s6)
else (
if l2 < 1 then (
jRet (-1) s6)
else (
if l2 ≤ 3 then (
if l2 = 1 then (
jBd (fX8_startsRun l3 s6) fun x11 s12 =>
if x11 = 0 then (
jRet (-1) s12)
else (
bX10_open_40 l1 l2 l3 s12))
else (
bX10_open_40 l1 l2 l3 s6))
else (
jRet (-1) s6))))
def gX10_open (vs : List Int) (s : jMem) : jO := match vs with
  | [a0, a1, a2, a3] => jGd (a0 = 0) <| fX10_open a1 a2 a3 s
  | _ => none
set_option maxRecDepth 100000 in
set_option maxHeartbeats 4000000 in
theorem obX10_open_40 {E : jEnv} {Rr : Int → jMem → Prop} : ∀ (l1 l2 l3 : Int) (s : jMem), jHo Rr (bX10_open_40 l1 l2 l3 s) → jGo E MX10_open 2 Rr [3, 1, 1, 1] 40 [0, l1, l2, l3] ([]) s := by
  intro l1 l2 l3 s0 hF
  unfold bX10_open_40 at hF
  refine ji_aload_n (n := 0) (pc := 40) 0 rfl rfl rfl dX10_open_40 (fun r1 => ?_)
  refine ji_getr (pc := 41) 2 wfX10_17 (jRc3 rfl) jcl_0 jrf_0_1 dX10_open_41 ?_
  refine ji_iload_n (n := 1) (pc := 44) l1 rfl rfl rfl dX10_open_44 (fun r2 => ?_)
  refine ji_aaload (pc := 45) 6 4 (jRc3 rfl) r2 (.inr ⟨rfl, rfl, rfl⟩) hF dX10_open_45 (fun x3 r_x3 hF => ?_)
  refine ji_iload_n (n := 2) (pc := 46) l2 rfl rfl rfl dX10_open_46 (fun r4 => ?_)
  refine ji_iload_n (n := 3) (pc := 47) l3 rfl rfl rfl dX10_open_47 (fun r5 => ?_)
  obtain ⟨h6, hF⟩ := jHo_as hF
  refine ji_callVz (pc := 48) x3 [l2, l3] ([]) oX1_canLay wlX10_143 wmX1_canLay rfl rfl (Nat.le_of_ble_eq_true rfl) (jRaC r_x3 (jRaC r4 (jRaC r5 jRa0))) rfl h6 rfl (Nat.le_of_ble_eq_true rfl) hF dX10_open_48 (fun x7 s8 r_x7 hF => ?_)
  refine ji_if_ne 57 (pc := 51) (jR51 r_x7) hF dX10_open_51 rfl (fun hF => ?_) (fun hF => ?_)
  · refine ji_aload_n (n := 0) (pc := 57) 0 rfl rfl rfl dX10_open_57 (fun r9 => ?_)
    refine ji_getr (pc := 58) 2 wfX10_17 (jRc3 rfl) jcl_0 jrf_0_1 dX10_open_58 ?_
    refine ji_iload_n (n := 1) (pc := 61) l1 rfl rfl rfl dX10_open_61 (fun r10 => ?_)
    refine ji_aaload (pc := 62) 6 4 (jRc3 rfl) r10 (.inr ⟨rfl, rfl, rfl⟩) hF dX10_open_62 (fun x11 r_x11 hF => ?_)
    refine ji_iload_n (n := 2) (pc := 63) l2 rfl rfl rfl dX10_open_63 (fun r12 => ?_)
    refine ji_iload_n (n := 3) (pc := 64) l3 rfl rfl rfl dX10_open_64 (fun r13 => ?_)
    obtain ⟨h14, hF⟩ := jHo_as hF
    refine ji_callVv (pc := 65) x11 [l2, l3] ([]) oX1_lay wlX10_146 wmX1_lay rfl rfl (Nat.le_of_ble_eq_true rfl) (jRaC r_x11 (jRaC r12 (jRaC r13 jRa0))) rfl h14 rfl (Nat.le_of_ble_eq_true rfl) hF dX10_open_65 (fun x15 s16 hF => ?_)
    refine ji_aload_n (n := 0) (pc := 68) 0 rfl rfl rfl dX10_open_68 (fun r17 => ?_)
    refine ji_getr (pc := 69) 2 wfX10_17 (jRc3 rfl) jcl_0 jrf_0_1 dX10_open_69 ?_
    refine ji_iload_n (n := 1) (pc := 72) l1 rfl rfl rfl dX10_open_72 (fun r18 => ?_)
    refine ji_aaload (pc := 73) 6 4 (jRc3 rfl) r18 (.inr ⟨rfl, rfl, rfl⟩) hF dX10_open_73 (fun x19 r_x19 hF => ?_)
    obtain ⟨h20, hF⟩ := jHo_as hF
    refine ji_getfi (pc := 74) wfX10_149 r_x19 h20 hF dX10_open_74 (fun x21 r_x21 hF => ?_)
    exact ji_reti (pc := 77) rfl r_x21 hF dX10_open_77
  · refine jg_bipush (pc := 54) rfl dX10_open_54 ?_
    exact ji_reti (pc := 56) rfl (jRc rfl) hF dX10_open_56
set_option maxRecDepth 100000 in
set_option maxHeartbeats 4000000 in
theorem oX10_open : jOk MX10_open [3, 1, 1, 1] 2 (jFn gX10_open) := by
  refine jOk_fn (by decide +kernel) (Nat.le_of_ble_eq_true rfl) (by decide +kernel) (.inr (.inl rfl)) ?_
  intro E vs s0 Rr hF ha
  obtain ⟨l0, t0, rfl, r_l0, ha⟩ := jRa_ci ha
  obtain ⟨l1, t1, rfl, r_l1, ha⟩ := jRa_ci ha
  obtain ⟨l2, t2, rfl, r_l2, ha⟩ := jRa_ci ha
  obtain ⟨l3, t3, rfl, r_l3, ha⟩ := jRa_ci ha
  obtain rfl := jRa_ni ha
  replace hF : jHo Rr (jGd (l0 = 0) <| fX10_open l1 l2 l3 s0) := hF
  have hG := jHo_as hF
  clear hF
  obtain ⟨rfl, hF⟩ := hG
  refine jg_norm [3, 1, 1, 1] [0, l1, l2, l3] rfl rfl ?_
  unfold fX10_open at hF
  refine ji_iload_n (n := 1) (pc := 0) l1 rfl rfl rfl dX10_open_0 (fun r1 => ?_)
  refine ji_callSz (pc := 1) [l1] ([]) oX10_isHand wlX10_103 wmX10_isHand rfl rfl (Nat.le_of_ble_eq_true rfl) (jRaC r1 jRa0) rfl rfl (Nat.le_of_ble_eq_true rfl) hF dX10_open_1 (fun x2 s3 r_x2 hF => ?_)
  refine ji_if_eq 24 (pc := 4) (jR51 r_x2) hF dX10_open_4 rfl (fun hF => ?_) (fun hF => ?_)
  · refine ji_iconst (pc := 24) dX10_open_24 ?_
    exact ji_reti (pc := 25) rfl (jRc rfl) hF dX10_open_25
  · refine ji_iload_n (n := 3) (pc := 7) l3 rfl rfl rfl dX10_open_7 (fun r4 => ?_)
    refine ji_callSz (pc := 8) [l3] ([]) oX8_isSort wlX10_114 wmX8_isSort rfl rfl (Nat.le_of_ble_eq_true rfl) (jRaC r4 jRa0) rfl rfl (Nat.le_of_ble_eq_true rfl) hF dX10_open_8 (fun x5 s6 r_x5 hF => ?_)
    refine ji_if_eq 24 (pc := 11) (jR51 r_x5) hF dX10_open_11 rfl (fun hF => ?_) (fun hF => ?_)
    · refine ji_iconst (pc := 24) dX10_open_24 ?_
      exact ji_reti (pc := 25) rfl (jRc rfl) hF dX10_open_25
    · refine ji_iload_n (n := 2) (pc := 14) l2 rfl rfl rfl dX10_open_14 (fun r7 => ?_)
      refine ji_iconst (pc := 15) dX10_open_15 ?_
      refine ji_icmp_lt 24 (pc := 16) r7 (jRc rfl) hF dX10_open_16 rfl (fun hF => ?_) (fun hF => ?_)
      · refine ji_iconst (pc := 24) dX10_open_24 ?_
        exact ji_reti (pc := 25) rfl (jRc rfl) hF dX10_open_25
      · refine ji_iload_n (n := 2) (pc := 19) l2 rfl rfl rfl dX10_open_19 (fun r8 => ?_)
        refine ji_iconst (pc := 20) dX10_open_20 ?_
        refine ji_icmp_le 26 (pc := 21) r8 (jRc rfl) hF dX10_open_21 rfl (fun hF => ?_) (fun hF => ?_)
        · refine ji_iload_n (n := 2) (pc := 26) l2 rfl rfl rfl dX10_open_26 (fun r9 => ?_)
          refine ji_iconst (pc := 27) dX10_open_27 ?_
          refine ji_icmp_ne 40 (pc := 28) r9 (jRc rfl) hF dX10_open_28 rfl (fun hF => ?_) (fun hF => ?_)
          · refine jg_norm [3, 1, 1, 1] [0, l1, l2, l3] rfl rfl ?_
            exact obX10_open_40 _ _ _ _ hF
          · refine ji_iload_n (n := 3) (pc := 31) l3 rfl rfl rfl dX10_open_31 (fun r10 => ?_)
            refine ji_callSz (pc := 32) [l3] ([]) oX8_startsRun wlX10_140 wmX8_startsRun rfl rfl (Nat.le_of_ble_eq_true rfl) (jRaC r10 jRa0) rfl rfl (Nat.le_of_ble_eq_true rfl) hF dX10_open_32 (fun x11 s12 r_x11 hF => ?_)
            refine ji_if_ne 40 (pc := 35) (jR51 r_x11) hF dX10_open_35 rfl (fun hF => ?_) (fun hF => ?_)
            · refine jg_norm [3, 1, 1, 1] [0, l1, l2, l3] rfl rfl ?_
              exact obX10_open_40 _ _ _ _ hF
            · refine ji_iconst (pc := 38) dX10_open_38 ?_
              exact ji_reti (pc := 39) rfl (jRc rfl) hF dX10_open_39
        · refine ji_iconst (pc := 24) dX10_open_24 ?_
          exact ji_reti (pc := 25) rfl (jRc rfl) hF dX10_open_25
def fX10_clear (l1 : Int) (s0 : jMem) : jO :=
jBd (fX10_isHand l1 s0) fun x2 s3 =>
if x2 = 0 then (
jRet (-1) s3)
else (
jGd ((0 : Int) ≤ l1 ∧ l1 < jrk 2 6) <| jLet (jrf 2 l1) fun x6 =>
jGd (jcl x6 = 0) <| jBd (fX1_giveBack x6 3 s3) fun x9 s10 =>
jRet x9 s10)
def gX10_clear (vs : List Int) (s : jMem) : jO := match vs with
  | [a0, a1] => jGd (a0 = 0) <| fX10_clear a1 s
  | _ => none
set_option maxRecDepth 100000 in
set_option maxHeartbeats 4000000 in
theorem oX10_clear : jOk MX10_clear [3, 1] 2 (jFn gX10_clear) := by
  refine jOk_fn (by decide +kernel) (Nat.le_of_ble_eq_true rfl) (by decide +kernel) (.inr (.inl rfl)) ?_
  intro E vs s0 Rr hF ha
  obtain ⟨l0, t0, rfl, r_l0, ha⟩ := jRa_ci ha
  obtain ⟨l1, t1, rfl, r_l1, ha⟩ := jRa_ci ha
  obtain rfl := jRa_ni ha
  replace hF : jHo Rr (jGd (l0 = 0) <| fX10_clear l1 s0) := hF
  have hG := jHo_as hF
  clear hF
  obtain ⟨rfl, hF⟩ := hG
  refine jg_norm [3, 1] [0, l1] rfl rfl ?_
  unfold fX10_clear at hF
  refine ji_iload_n (n := 1) (pc := 0) l1 rfl rfl rfl dX10_clear_0 (fun r1 => ?_)
  refine ji_callSz (pc := 1) [l1] ([]) oX10_isHand wlX10_103 wmX10_isHand rfl rfl (Nat.le_of_ble_eq_true rfl) (jRaC r1 jRa0) rfl rfl (Nat.le_of_ble_eq_true rfl) hF dX10_clear_1 (fun x2 s3 r_x2 hF => ?_)
  refine ji_if_eq 23 (pc := 4) (jR51 r_x2) hF dX10_clear_4 rfl (fun hF => ?_) (fun hF => ?_)
  · refine ji_iconst (pc := 23) dX10_clear_23 ?_
    exact ji_reti (pc := 24) rfl (jRc rfl) hF dX10_clear_24
  · refine ji_aload_n (n := 0) (pc := 7) 0 rfl rfl rfl dX10_clear_7 (fun r4 => ?_)
    refine ji_getr (pc := 8) 2 wfX10_17 (jRc3 rfl) jcl_0 jrf_0_1 dX10_clear_8 ?_
    refine ji_iload_n (n := 1) (pc := 11) l1 rfl rfl rfl dX10_clear_11 (fun r5 => ?_)
    refine ji_aaload (pc := 12) 6 4 (jRc3 rfl) r5 (.inr ⟨rfl, rfl, rfl⟩) hF dX10_clear_12 (fun x6 r_x6 hF => ?_)
    refine ji_aload_n (n := 0) (pc := 13) 0 rfl rfl rfl dX10_clear_13 (fun r7 => ?_)
    refine ji_getr (pc := 14) 3 wfX10_23 (jRc3 rfl) jcl_0 jrf_0_2 dX10_clear_14 ?_
    obtain ⟨h8, hF⟩ := jHo_as hF
    refine ji_callVi (pc := 17) x6 [3] ([]) oX1_giveBack wlX10_128 wmX1_giveBack rfl rfl (Nat.le_of_ble_eq_true rfl) (jRaC r_x6 (jRaC (jRc3 rfl) jRa0)) rfl h8 rfl (Nat.le_of_ble_eq_true rfl) hF dX10_clear_17 (fun x9 s10 r_x9 hF => ?_)
    refine jg_goto (pc := 20) 24 dX10_clear_20 rfl ?_
    exact ji_reti (pc := 24) rfl r_x9 hF dX10_clear_24
def fX10_tiles (l1 l2 : Int) (s0 : jMem) : jO :=
jBd (fX8_isSort l1 s0) fun x2 s3 =>
if x2 = 0 then (
jRet (-1) s3)
else (
if l2 < 0 then (
jRet (-1) s3)
else (
if l2 < 10 then (
if l2 = 0 then (
jGd ((0 : Int) ≤ l1 ∧ l1 < jik 3) <| jLet (s3 3 l1) fun x30 =>
jRet x30 s3)
else (
if l2 = 1 then (
jGd ((0 : Int) ≤ l1 ∧ l1 < jik 4) <| jLet (s3 4 l1) fun x27 =>
jRet x27 s3)
else (
if 6 ≤ l2 then (
jLet (j32 (l2 - 6)) fun x11 =>
jGd ((0 : Int) ≤ x11 ∧ x11 < jrk 2 6) <| jLet (jrf 2 x11) fun x12 =>
jGd (jcl x12 = 0) <| jLet (jrf x12 1) fun x14 =>
jGd ((0 : Int) ≤ l1 ∧ l1 < jik x14) <| jLet (s3 x14 l1) fun x16 =>
jRet x16 s3)
else (
jLet (j32 (l2 - 2)) fun x19 =>
jGd ((0 : Int) ≤ x19 ∧ x19 < jrk 2 6) <| jLet (jrf 2 x19) fun x20 =>
jGd (jcl x20 = 0) <| jLet (jrf x20 0) fun x22 =>
jGd ((0 : Int) ≤ l1 ∧ l1 < jik x22) <| jLet (s3 x22 l1) fun x24 =>
jRet x24 s3))))
else (
jRet (-1) s3)))
def gX10_tiles (vs : List Int) (s : jMem) : jO := match vs with
  | [a0, a1, a2] => jGd (a0 = 0) <| fX10_tiles a1 a2 s
  | _ => none
set_option maxRecDepth 100000 in
set_option maxHeartbeats 4000000 in
theorem oX10_tiles : jOk MX10_tiles [3, 1, 1] 1 (jFn gX10_tiles) := by
  refine jOk_fn (by decide +kernel) (Nat.le_of_ble_eq_true rfl) (by decide +kernel) (.inr (.inl rfl)) ?_
  intro E vs s0 Rr hF ha
  obtain ⟨l0, t0, rfl, r_l0, ha⟩ := jRa_ci ha
  obtain ⟨l1, t1, rfl, r_l1, ha⟩ := jRa_ci ha
  obtain ⟨l2, t2, rfl, r_l2, ha⟩ := jRa_ci ha
  obtain rfl := jRa_ni ha
  replace hF : jHo Rr (jGd (l0 = 0) <| fX10_tiles l1 l2 s0) := hF
  have hG := jHo_as hF
  clear hF
  obtain ⟨rfl, hF⟩ := hG
  refine jg_norm [3, 1, 1] [0, l1, l2] rfl rfl ?_
  unfold fX10_tiles at hF
  refine ji_iload_n (n := 1) (pc := 0) l1 rfl rfl rfl dX10_tiles_0 (fun r1 => ?_)
  refine ji_callSz (pc := 1) [l1] ([]) oX8_isSort wlX10_114 wmX8_isSort rfl rfl (Nat.le_of_ble_eq_true rfl) (jRaC r1 jRa0) rfl rfl (Nat.le_of_ble_eq_true rfl) hF dX10_tiles_1 (fun x2 s3 r_x2 hF => ?_)
  refine ji_if_eq 17 (pc := 4) (jR51 r_x2) hF dX10_tiles_4 rfl (fun hF => ?_) (fun hF => ?_)
  · refine ji_iconst (pc := 17) dX10_tiles_17 ?_
    exact ji_reti (pc := 18) rfl (jRc rfl) hF dX10_tiles_18
  · refine ji_iload_n (n := 2) (pc := 7) l2 rfl rfl rfl dX10_tiles_7 (fun r4 => ?_)
    refine ji_if_lt 17 (pc := 8) r4 hF dX10_tiles_8 rfl (fun hF => ?_) (fun hF => ?_)
    · refine ji_iconst (pc := 17) dX10_tiles_17 ?_
      exact ji_reti (pc := 18) rfl (jRc rfl) hF dX10_tiles_18
    · refine ji_iload_n (n := 2) (pc := 11) l2 rfl rfl rfl dX10_tiles_11 (fun r5 => ?_)
      refine jg_bipush (pc := 12) rfl dX10_tiles_12 ?_
      refine ji_icmp_lt 19 (pc := 14) r5 (jRc rfl) hF dX10_tiles_14 rfl (fun hF => ?_) (fun hF => ?_)
      · refine ji_iload_n (n := 2) (pc := 19) l2 rfl rfl rfl dX10_tiles_19 (fun r6 => ?_)
        refine ji_if_ne 30 (pc := 20) r6 hF dX10_tiles_20 rfl (fun hF => ?_) (fun hF => ?_)
        · refine ji_iload_n (n := 2) (pc := 30) l2 rfl rfl rfl dX10_tiles_30 (fun r7 => ?_)
          refine ji_iconst (pc := 31) dX10_tiles_31 ?_
          refine ji_icmp_ne 42 (pc := 32) r7 (jRc rfl) hF dX10_tiles_32 rfl (fun hF => ?_) (fun hF => ?_)
          · refine ji_iload_n (n := 2) (pc := 42) l2 rfl rfl rfl dX10_tiles_42 (fun r8 => ?_)
            refine jg_bipush (pc := 43) rfl dX10_tiles_43 ?_
            refine ji_icmp_ge 64 (pc := 45) r8 (jRc rfl) hF dX10_tiles_45 rfl (fun hF => ?_) (fun hF => ?_)
            · refine ji_aload_n (n := 0) (pc := 64) 0 rfl rfl rfl dX10_tiles_64 (fun r9 => ?_)
              refine ji_getr (pc := 65) 2 wfX10_17 (jRc3 rfl) jcl_0 jrf_0_1 dX10_tiles_65 ?_
              refine ji_iload_n (n := 2) (pc := 68) l2 rfl rfl rfl dX10_tiles_68 (fun r10 => ?_)
              refine jg_bipush (pc := 69) rfl dX10_tiles_69 ?_
              refine ji_isub (pc := 71)  hF dX10_tiles_71 (fun x11 r_x11 hF => ?_)
              refine ji_aaload (pc := 72) 6 4 (jRc3 rfl) r_x11 (.inr ⟨rfl, rfl, rfl⟩) hF dX10_tiles_72 (fun x12 r_x12 hF => ?_)
              obtain ⟨h13, hF⟩ := jHo_as hF
              refine ji_getrL (pc := 73) wfX10_152 r_x12 h13 hF dX10_tiles_73 (fun x14 r_x14 hF => ?_)
              refine ji_iload_n (n := 1) (pc := 76) l1 rfl rfl rfl dX10_tiles_76 (fun r15 => ?_)
              refine ji_iaload (pc := 77) r_x14 r15 hF dX10_tiles_77 (fun x16 r_x16 hF => ?_)
              exact ji_reti (pc := 78) rfl r_x16 hF dX10_tiles_78
            · refine ji_aload_n (n := 0) (pc := 48) 0 rfl rfl rfl dX10_tiles_48 (fun r17 => ?_)
              refine ji_getr (pc := 49) 2 wfX10_17 (jRc3 rfl) jcl_0 jrf_0_1 dX10_tiles_49 ?_
              refine ji_iload_n (n := 2) (pc := 52) l2 rfl rfl rfl dX10_tiles_52 (fun r18 => ?_)
              refine ji_iconst (pc := 53) dX10_tiles_53 ?_
              refine ji_isub (pc := 54)  hF dX10_tiles_54 (fun x19 r_x19 hF => ?_)
              refine ji_aaload (pc := 55) 6 4 (jRc3 rfl) r_x19 (.inr ⟨rfl, rfl, rfl⟩) hF dX10_tiles_55 (fun x20 r_x20 hF => ?_)
              obtain ⟨h21, hF⟩ := jHo_as hF
              refine ji_getrL (pc := 56) wfX10_132 r_x20 h21 hF dX10_tiles_56 (fun x22 r_x22 hF => ?_)
              refine ji_iload_n (n := 1) (pc := 59) l1 rfl rfl rfl dX10_tiles_59 (fun r23 => ?_)
              refine ji_iaload (pc := 60) r_x22 r23 hF dX10_tiles_60 (fun x24 r_x24 hF => ?_)
              refine jg_goto (pc := 61) 78 dX10_tiles_61 rfl ?_
              exact ji_reti (pc := 78) rfl r_x24 hF dX10_tiles_78
          · refine ji_aload_n (n := 0) (pc := 35) 0 rfl rfl rfl dX10_tiles_35 (fun r25 => ?_)
            refine ji_getr (pc := 36) 4 wfX10_27 (jRc3 rfl) jcl_0 jrf_0_3 dX10_tiles_36 ?_
            refine ji_iload_n (n := 1) (pc := 39) l1 rfl rfl rfl dX10_tiles_39 (fun r26 => ?_)
            refine ji_iaload (pc := 40) (jRc3 rfl) r26 hF dX10_tiles_40 (fun x27 r_x27 hF => ?_)
            exact ji_reti (pc := 41) rfl r_x27 hF dX10_tiles_41
        · refine ji_aload_n (n := 0) (pc := 23) 0 rfl rfl rfl dX10_tiles_23 (fun r28 => ?_)
          refine ji_getr (pc := 24) 3 wfX10_23 (jRc3 rfl) jcl_0 jrf_0_2 dX10_tiles_24 ?_
          refine ji_iload_n (n := 1) (pc := 27) l1 rfl rfl rfl dX10_tiles_27 (fun r29 => ?_)
          refine ji_iaload (pc := 28) (jRc3 rfl) r29 hF dX10_tiles_28 (fun x30 r_x30 hF => ?_)
          exact ji_reti (pc := 29) rfl r_x30 hF dX10_tiles_29
      · refine ji_iconst (pc := 17) dX10_tiles_17 ?_
        exact ji_reti (pc := 18) rfl (jRc rfl) hF dX10_tiles_18
def fX10_about (l1 l2 : Int) (s0 : jMem) : jO :=
jBd (fX10_isHand l1 s0) fun x2 s3 =>
if x2 = 0 then (
jRet (-1) s3)
else (
if l2 < 0 then (
jRet (-1) s3)
else (
if l2 < 7 then (
jGd ((0 : Int) ≤ l1 ∧ l1 < jrk 2 6) <| jLet (jrf 2 l1) fun x8 =>
if l2 = 0 then (
jGd (jcl x8 = 0) <| jBd (fX1_size x8 s3) fun x30 s31 =>
jRet x30 s31)
else (
if l2 = 1 then (
jGd (jcl x8 = 0) <| jLet (s3 x8 3) fun x27 =>
jRet x27 s3)
else (
if l2 = 2 then (
jGd (jcl x8 = 0) <| jLet (s3 x8 4) fun x24 =>
jRet x24 s3)
else (
jLet (j32 (l2 - 3)) fun x13 =>
jGd (jcl x8 = 0) <| jLet (s3 x8 4) fun x17 =>
if x17 ≤ x13 then (
jRet (-3) s3)
else (
jLet (jrf x8 2) fun x19 =>
jGd ((0 : Int) ≤ x13 ∧ x13 < jik x19) <| jLet (s3 x19 x13) fun x21 =>
jRet x21 s3)))))
else (
jRet (-1) s3)))
def gX10_about (vs : List Int) (s : jMem) : jO := match vs with
  | [a0, a1, a2] => jGd (a0 = 0) <| fX10_about a1 a2 s
  | _ => none
set_option maxRecDepth 100000 in
set_option maxHeartbeats 4000000 in
theorem oX10_about : jOk MX10_about [3, 1, 1] 1 (jFn gX10_about) := by
  refine jOk_fn (by decide +kernel) (Nat.le_of_ble_eq_true rfl) (by decide +kernel) (.inr (.inl rfl)) ?_
  intro E vs s0 Rr hF ha
  obtain ⟨l0, t0, rfl, r_l0, ha⟩ := jRa_ci ha
  obtain ⟨l1, t1, rfl, r_l1, ha⟩ := jRa_ci ha
  obtain ⟨l2, t2, rfl, r_l2, ha⟩ := jRa_ci ha
  obtain rfl := jRa_ni ha
  replace hF : jHo Rr (jGd (l0 = 0) <| fX10_about l1 l2 s0) := hF
  have hG := jHo_as hF
  clear hF
  obtain ⟨rfl, hF⟩ := hG
  refine jg_norm [3, 1, 1, 0, 0] [0, l1, l2, 0, 0] rfl rfl ?_
  unfold fX10_about at hF
  refine ji_iload_n (n := 1) (pc := 0) l1 rfl rfl rfl dX10_about_0 (fun r1 => ?_)
  refine ji_callSz (pc := 1) [l1] ([]) oX10_isHand wlX10_103 wmX10_isHand rfl rfl (Nat.le_of_ble_eq_true rfl) (jRaC r1 jRa0) rfl rfl (Nat.le_of_ble_eq_true rfl) hF dX10_about_1 (fun x2 s3 r_x2 hF => ?_)
  refine ji_if_eq 17 (pc := 4) (jR51 r_x2) hF dX10_about_4 rfl (fun hF => ?_) (fun hF => ?_)
  · refine ji_iconst (pc := 17) dX10_about_17 ?_
    exact ji_reti (pc := 18) rfl (jRc rfl) hF dX10_about_18
  · refine ji_iload_n (n := 2) (pc := 7) l2 rfl rfl rfl dX10_about_7 (fun r4 => ?_)
    refine ji_if_lt 17 (pc := 8) r4 hF dX10_about_8 rfl (fun hF => ?_) (fun hF => ?_)
    · refine ji_iconst (pc := 17) dX10_about_17 ?_
      exact ji_reti (pc := 18) rfl (jRc rfl) hF dX10_about_18
    · refine ji_iload_n (n := 2) (pc := 11) l2 rfl rfl rfl dX10_about_11 (fun r5 => ?_)
      refine jg_bipush (pc := 12) rfl dX10_about_12 ?_
      refine ji_icmp_lt 19 (pc := 14) r5 (jRc rfl) hF dX10_about_14 rfl (fun hF => ?_) (fun hF => ?_)
      · refine ji_aload_n (n := 0) (pc := 19) 0 rfl rfl rfl dX10_about_19 (fun r6 => ?_)
        refine ji_getr (pc := 20) 2 wfX10_17 (jRc3 rfl) jcl_0 jrf_0_1 dX10_about_20 ?_
        refine ji_iload_n (n := 1) (pc := 23) l1 rfl rfl rfl dX10_about_23 (fun r7 => ?_)
        refine ji_aaload (pc := 24) 6 4 (jRc3 rfl) r7 (.inr ⟨rfl, rfl, rfl⟩) hF dX10_about_24 (fun x8 r_x8 hF => ?_)
        refine ji_astore_n (n := 3) (pc := 25) [3, 1, 1, 3, 0] [0, l1, l2, x8, 0] rfl r_x8 (Nat.le_of_ble_eq_true rfl) rfl rfl dX10_about_25 ?_
        refine ji_iload_n (n := 2) (pc := 26) l2 rfl rfl rfl dX10_about_26 (fun r9 => ?_)
        refine ji_if_ne 35 (pc := 27) r9 hF dX10_about_27 rfl (fun hF => ?_) (fun hF => ?_)
        · refine ji_iload_n (n := 2) (pc := 35) l2 rfl rfl rfl dX10_about_35 (fun r10 => ?_)
          refine ji_iconst (pc := 36) dX10_about_36 ?_
          refine ji_icmp_ne 45 (pc := 37) r10 (jRc rfl) hF dX10_about_37 rfl (fun hF => ?_) (fun hF => ?_)
          · refine ji_iload_n (n := 2) (pc := 45) l2 rfl rfl rfl dX10_about_45 (fun r11 => ?_)
            refine ji_iconst (pc := 46) dX10_about_46 ?_
            refine ji_icmp_ne 55 (pc := 47) r11 (jRc rfl) hF dX10_about_47 rfl (fun hF => ?_) (fun hF => ?_)
            · refine ji_iload_n (n := 2) (pc := 55) l2 rfl rfl rfl dX10_about_55 (fun r12 => ?_)
              refine ji_iconst (pc := 56) dX10_about_56 ?_
              refine ji_isub (pc := 57)  hF dX10_about_57 (fun x13 r_x13 hF => ?_)
              refine ji_istore (n := 4) (pc := 58) [3, 1, 1, 3, 1] [0, l1, l2, x8, x13] r_x13 (Nat.le_of_ble_eq_true rfl) rfl rfl dX10_about_58 ?_
              refine ji_iload (pc := 60) x13 rfl rfl dX10_about_60 (fun r14 => ?_)
              refine ji_aload_n (n := 3) (pc := 62) x8 rfl rfl rfl dX10_about_62 (fun r15 => ?_)
              obtain ⟨h16, hF⟩ := jHo_as hF
              refine ji_getfi (pc := 63) wfX10_149 r15 h16 hF dX10_about_63 (fun x17 r_x17 hF => ?_)
              refine ji_icmp_ge 79 (pc := 66) r14 r_x17 hF dX10_about_66 rfl (fun hF => ?_) (fun hF => ?_)
              · refine jg_bipush (pc := 79) rfl dX10_about_79 ?_
                exact ji_reti (pc := 81) rfl (jRc rfl) hF dX10_about_81
              · refine ji_aload_n (n := 3) (pc := 69) x8 rfl rfl rfl dX10_about_69 (fun r18 => ?_)
                refine ji_getrL (pc := 70) wfX10_158 r18 h16 hF dX10_about_70 (fun x19 r_x19 hF => ?_)
                refine ji_iload (pc := 73) x13 rfl rfl dX10_about_73 (fun r20 => ?_)
                refine ji_iaload (pc := 75) r_x19 r20 hF dX10_about_75 (fun x21 r_x21 hF => ?_)
                refine jg_goto (pc := 76) 81 dX10_about_76 rfl ?_
                exact ji_reti (pc := 81) rfl r_x21 hF dX10_about_81
            · refine ji_aload_n (n := 3) (pc := 50) x8 rfl rfl rfl dX10_about_50 (fun r22 => ?_)
              obtain ⟨h23, hF⟩ := jHo_as hF
              refine ji_getfi (pc := 51) wfX10_149 r22 h23 hF dX10_about_51 (fun x24 r_x24 hF => ?_)
              exact ji_reti (pc := 54) rfl r_x24 hF dX10_about_54
          · refine ji_aload_n (n := 3) (pc := 40) x8 rfl rfl rfl dX10_about_40 (fun r25 => ?_)
            obtain ⟨h26, hF⟩ := jHo_as hF
            refine ji_getfi (pc := 41) wfX10_155 r25 h26 hF dX10_about_41 (fun x27 r_x27 hF => ?_)
            exact ji_reti (pc := 44) rfl r_x27 hF dX10_about_44
        · refine ji_aload_n (n := 3) (pc := 30) x8 rfl rfl rfl dX10_about_30 (fun r28 => ?_)
          obtain ⟨h29, hF⟩ := jHo_as hF
          refine ji_callVi (pc := 31) x8 [] ([]) oX1_size wlX10_106 wmX1_size rfl rfl (Nat.le_of_ble_eq_true rfl) (jRaC r28 jRa0) rfl h29 rfl (Nat.le_of_ble_eq_true rfl) hF dX10_about_31 (fun x30 s31 r_x30 hF => ?_)
          exact ji_reti (pc := 34) rfl r_x30 hF dX10_about_34
      · refine ji_iconst (pc := 17) dX10_about_17 ?_
        exact ji_reti (pc := 18) rfl (jRc rfl) hF dX10_about_18
def fX10_done (l1 : Int) (s0 : jMem) : jO :=
jBd (fX10_isHand l1 s0) fun x2 s3 =>
if x2 = 0 then (
jRet (-1) s3)
else (
jGd ((0 : Int) ≤ l1 ∧ l1 < jrk 2 6) <| jLet (jrf 2 l1) fun x7 =>
jBd (fX2_howDone x7 s3) fun x8 s9 =>
jRet x8 s9)
def gX10_done (vs : List Int) (s : jMem) : jO := match vs with
  | [a0, a1] => jGd (a0 = 0) <| fX10_done a1 s
  | _ => none
set_option maxRecDepth 100000 in
set_option maxHeartbeats 4000000 in
theorem oX10_done : jOk MX10_done [3, 1] 11 (jFn gX10_done) := by
  refine jOk_fn (by decide +kernel) (Nat.le_of_ble_eq_true rfl) (by decide +kernel) (.inr (.inl rfl)) ?_
  intro E vs s0 Rr hF ha
  obtain ⟨l0, t0, rfl, r_l0, ha⟩ := jRa_ci ha
  obtain ⟨l1, t1, rfl, r_l1, ha⟩ := jRa_ci ha
  obtain rfl := jRa_ni ha
  replace hF : jHo Rr (jGd (l0 = 0) <| fX10_done l1 s0) := hF
  have hG := jHo_as hF
  clear hF
  obtain ⟨rfl, hF⟩ := hG
  refine jg_norm [3, 1] [0, l1] rfl rfl ?_
  unfold fX10_done at hF
  refine ji_iload_n (n := 1) (pc := 0) l1 rfl rfl rfl dX10_done_0 (fun r1 => ?_)
  refine ji_callSz (pc := 1) [l1] ([]) oX10_isHand wlX10_103 wmX10_isHand rfl rfl (Nat.le_of_ble_eq_true rfl) (jRaC r1 jRa0) rfl rfl (Nat.le_of_ble_eq_true rfl) hF dX10_done_1 (fun x2 s3 r_x2 hF => ?_)
  refine ji_if_eq 23 (pc := 4) (jR51 r_x2) hF dX10_done_4 rfl (fun hF => ?_) (fun hF => ?_)
  · refine ji_iconst (pc := 23) dX10_done_23 ?_
    exact ji_reti (pc := 24) rfl (jRc rfl) hF dX10_done_24
  · refine ji_aload_n (n := 0) (pc := 7) 0 rfl rfl rfl dX10_done_7 (fun r4 => ?_)
    refine ji_getr (pc := 8) 16 wfX10_52 (jRc3 rfl) jcl_0 jrf_0_7 dX10_done_8 ?_
    refine ji_aload_n (n := 0) (pc := 11) 0 rfl rfl rfl dX10_done_11 (fun r5 => ?_)
    refine ji_getr (pc := 12) 2 wfX10_17 (jRc3 rfl) jcl_0 jrf_0_1 dX10_done_12 ?_
    refine ji_iload_n (n := 1) (pc := 15) l1 rfl rfl rfl dX10_done_15 (fun r6 => ?_)
    refine ji_aaload (pc := 16) 6 4 (jRc3 rfl) r6 (.inr ⟨rfl, rfl, rfl⟩) hF dX10_done_16 (fun x7 r_x7 hF => ?_)
    refine ji_callVi (pc := 17) 16 [x7] ([]) oX2_howDone wlX10_168 wmX2_howDone rfl rfl (Nat.le_of_ble_eq_true rfl) (jRaC (jRc3 rfl) (jRaC r_x7 jRa0)) rfl jcl_16 rfl (Nat.le_of_ble_eq_true rfl) hF dX10_done_17 (fun x8 s9 r_x8 hF => ?_)
    refine jg_goto (pc := 20) 24 dX10_done_20 rfl ?_
    exact ji_reti (pc := 24) rfl r_x8 hF dX10_done_24
def bX10_distance_36 (l1 : Int) (s0 : jMem) : jO :=
jGd ((0 : Int) ≤ l1 ∧ l1 < jrk 2 6) <| jLet (jrf 2 l1) fun x4 =>
jBd (fX3_reckon x4 14 s0) fun x5 s6 =>
jLet (s6 7 12) fun x8 =>
jLet (jmax x8 1) fun x9 =>
jLet (j32 (x9 - 1)) fun x10 =>
jRet x10 s6
def fX10_distance (l1 : Int) (s0 : jMem) : jO :=
jBd (fX10_isHand l1 s0) fun x2 s3 =>
if x2 = 0 then (
jRet (-1) s3)
else (
jGd ((0 : Int) ≤ l1 ∧ l1 < jrk 2 6) <| jLet (jrf 2 l1) fun x6 =>
jGd (jcl x6 = 0) <| jBd (fX1_isFull x6 s3) fun x8 s9 =>
if x8 = 0 then (
jGd ((0 : Int) ≤ l1 ∧ l1 < jrk 2 6) <| jLet (jrf 2 l1) fun x12 =>
jGd (jcl x12 = 0) <| jBd (fX1_rests x12 s9) fun x14 s15 =>
if x14 = 0 then (
jRet (-2) s15)
else (
bX10_distance_36 l1 s15))
else (
bX10_distance_36 l1 s9))
def gX10_distance (vs : List Int) (s : jMem) : jO := match vs with
  | [a0, a1] => jGd (a0 = 0) <| fX10_distance a1 s
  | _ => none
set_option maxRecDepth 100000 in
set_option maxHeartbeats 4000000 in
theorem obX10_distance_36 {E : jEnv} {Rr : Int → jMem → Prop} : ∀ (l1 : Int) (s : jMem), jHo Rr (bX10_distance_36 l1 s) → jGo E MX10_distance 5 Rr [3, 1] 36 [0, l1] ([]) s := by
  intro l1 s0 hF
  unfold bX10_distance_36 at hF
  refine ji_aload_n (n := 0) (pc := 36) 0 rfl rfl rfl dX10_distance_36 (fun r1 => ?_)
  refine ji_getr (pc := 37) 7 wfX10_45 (jRc3 rfl) jcl_0 jrf_0_6 dX10_distance_37 ?_
  refine ji_aload_n (n := 0) (pc := 40) 0 rfl rfl rfl dX10_distance_40 (fun r2 => ?_)
  refine ji_getr (pc := 41) 2 wfX10_17 (jRc3 rfl) jcl_0 jrf_0_1 dX10_distance_41 ?_
  refine ji_iload_n (n := 1) (pc := 44) l1 rfl rfl rfl dX10_distance_44 (fun r3 => ?_)
  refine ji_aaload (pc := 45) 6 4 (jRc3 rfl) r3 (.inr ⟨rfl, rfl, rfl⟩) hF dX10_distance_45 (fun x4 r_x4 hF => ?_)
  refine jg_bipush (pc := 46) rfl dX10_distance_46 ?_
  refine ji_callVv (pc := 48) 7 [x4, 14] ([]) oX3_reckon wlX10_189 wmX3_reckon rfl rfl (Nat.le_of_ble_eq_true rfl) (jRaC (jRc3 rfl) (jRaC r_x4 (jRaC (jRc rfl) jRa0))) rfl jcl_7 rfl (Nat.le_of_ble_eq_true rfl) hF dX10_distance_48 (fun x5 s6 hF => ?_)
  refine ji_aload_n (n := 0) (pc := 51) 0 rfl rfl rfl dX10_distance_51 (fun r7 => ?_)
  refine ji_getr (pc := 52) 7 wfX10_45 (jRc3 rfl) jcl_0 jrf_0_6 dX10_distance_52 ?_
  refine ji_getfi (pc := 55) wfX10_193 (jRc3 rfl) jcl_7 hF dX10_distance_55 (fun x8 r_x8 hF => ?_)
  refine ji_iconst (pc := 58) dX10_distance_58 ?_
  refine ji_max (pc := 59) r_x8 (jRc rfl) (Nat.le_of_ble_eq_true rfl) (Nat.le_of_ble_eq_true rfl) ⟨wlX10_196, wq_max⟩ hF dX10_distance_59 (fun x9 r_x9 hF => ?_)
  refine ji_iconst (pc := 62) dX10_distance_62 ?_
  refine ji_isub (pc := 63)  hF dX10_distance_63 (fun x10 r_x10 hF => ?_)
  exact ji_reti (pc := 64) rfl r_x10 hF dX10_distance_64
set_option maxRecDepth 100000 in
set_option maxHeartbeats 4000000 in
theorem oX10_distance : jOk MX10_distance [3, 1] 5 (jFn gX10_distance) := by
  refine jOk_fn (by decide +kernel) (Nat.le_of_ble_eq_true rfl) (by decide +kernel) (.inr (.inl rfl)) ?_
  intro E vs s0 Rr hF ha
  obtain ⟨l0, t0, rfl, r_l0, ha⟩ := jRa_ci ha
  obtain ⟨l1, t1, rfl, r_l1, ha⟩ := jRa_ci ha
  obtain rfl := jRa_ni ha
  replace hF : jHo Rr (jGd (l0 = 0) <| fX10_distance l1 s0) := hF
  have hG := jHo_as hF
  clear hF
  obtain ⟨rfl, hF⟩ := hG
  refine jg_norm [3, 1] [0, l1] rfl rfl ?_
  unfold fX10_distance at hF
  refine ji_iload_n (n := 1) (pc := 0) l1 rfl rfl rfl dX10_distance_0 (fun r1 => ?_)
  refine ji_callSz (pc := 1) [l1] ([]) oX10_isHand wlX10_103 wmX10_isHand rfl rfl (Nat.le_of_ble_eq_true rfl) (jRaC r1 jRa0) rfl rfl (Nat.le_of_ble_eq_true rfl) hF dX10_distance_1 (fun x2 s3 r_x2 hF => ?_)
  refine ji_if_ne 9 (pc := 4) (jR51 r_x2) hF dX10_distance_4 rfl (fun hF => ?_) (fun hF => ?_)
  · refine ji_aload_n (n := 0) (pc := 9) 0 rfl rfl rfl dX10_distance_9 (fun r4 => ?_)
    refine ji_getr (pc := 10) 2 wfX10_17 (jRc3 rfl) jcl_0 jrf_0_1 dX10_distance_10 ?_
    refine ji_iload_n (n := 1) (pc := 13) l1 rfl rfl rfl dX10_distance_13 (fun r5 => ?_)
    refine ji_aaload (pc := 14) 6 4 (jRc3 rfl) r5 (.inr ⟨rfl, rfl, rfl⟩) hF dX10_distance_14 (fun x6 r_x6 hF => ?_)
    obtain ⟨h7, hF⟩ := jHo_as hF
    refine ji_callVz (pc := 15) x6 [] ([]) oX1_isFull wlX10_117 wmX1_isFull rfl rfl (Nat.le_of_ble_eq_true rfl) (jRaC r_x6 jRa0) rfl h7 rfl (Nat.le_of_ble_eq_true rfl) hF dX10_distance_15 (fun x8 s9 r_x8 hF => ?_)
    refine ji_if_ne 36 (pc := 18) (jR51 r_x8) hF dX10_distance_18 rfl (fun hF => ?_) (fun hF => ?_)
    · refine jg_norm [3, 1] [0, l1] rfl rfl ?_
      exact obX10_distance_36 _ _ hF
    · refine ji_aload_n (n := 0) (pc := 21) 0 rfl rfl rfl dX10_distance_21 (fun r10 => ?_)
      refine ji_getr (pc := 22) 2 wfX10_17 (jRc3 rfl) jcl_0 jrf_0_1 dX10_distance_22 ?_
      refine ji_iload_n (n := 1) (pc := 25) l1 rfl rfl rfl dX10_distance_25 (fun r11 => ?_)
      refine ji_aaload (pc := 26) 6 4 (jRc3 rfl) r11 (.inr ⟨rfl, rfl, rfl⟩) hF dX10_distance_26 (fun x12 r_x12 hF => ?_)
      obtain ⟨h13, hF⟩ := jHo_as hF
      refine ji_callVz (pc := 27) x12 [] ([]) oX1_rests wlX10_186 wmX1_rests rfl rfl (Nat.le_of_ble_eq_true rfl) (jRaC r_x12 jRa0) rfl h13 rfl (Nat.le_of_ble_eq_true rfl) hF dX10_distance_27 (fun x14 s15 r_x14 hF => ?_)
      refine ji_if_ne 36 (pc := 30) (jR51 r_x14) hF dX10_distance_30 rfl (fun hF => ?_) (fun hF => ?_)
      · refine jg_norm [3, 1] [0, l1] rfl rfl ?_
        exact obX10_distance_36 _ _ hF
      · refine jg_bipush (pc := 33) rfl dX10_distance_33 ?_
        exact ji_reti (pc := 35) rfl (jRc rfl) hF dX10_distance_35
  · refine ji_iconst (pc := 7) dX10_distance_7 ?_
    exact ji_reti (pc := 8) rfl (jRc rfl) hF dX10_distance_8
def fX10_waits (l1 l2 : Int) (s0 : jMem) : jO :=
jBd (fX10_isHand l1 s0) fun x2 s3 =>
if x2 = 0 then (
jRet (-1) s3)
else (
if 0 ≤ l2 then (
jGd ((0 : Int) ≤ l1 ∧ l1 < jrk 2 6) <| jLet (jrf 2 l1) fun x7 =>
jGd (jcl x7 = 0) <| jBd (fX1_rests x7 s3) fun x9 s10 =>
if x9 = 0 then (
jRet (-2) s10)
else (
jGd ((0 : Int) ≤ l1 ∧ l1 < jrk 2 6) <| jLet (jrf 2 l1) fun x14 =>
jBd (fX3_reckon x14 1 s10) fun x15 s16 =>
jLet (s16 7 12) fun x18 =>
if x18 = 1 then (
jBd (fX3_helper l2 s16) fun x21 s22 =>
jRet x21 s22)
else (
jRet (-3) s16)))
else (
jRet (-1) s3))
def gX10_waits (vs : List Int) (s : jMem) : jO := match vs with
  | [a0, a1, a2] => jGd (a0 = 0) <| fX10_waits a1 a2 s
  | _ => none
set_option maxRecDepth 100000 in
set_option maxHeartbeats 4000000 in
theorem oX10_waits : jOk MX10_waits [3, 1, 1] 5 (jFn gX10_waits) := by
  refine jOk_fn (by decide +kernel) (Nat.le_of_ble_eq_true rfl) (by decide +kernel) (.inr (.inl rfl)) ?_
  intro E vs s0 Rr hF ha
  obtain ⟨l0, t0, rfl, r_l0, ha⟩ := jRa_ci ha
  obtain ⟨l1, t1, rfl, r_l1, ha⟩ := jRa_ci ha
  obtain ⟨l2, t2, rfl, r_l2, ha⟩ := jRa_ci ha
  obtain rfl := jRa_ni ha
  replace hF : jHo Rr (jGd (l0 = 0) <| fX10_waits l1 l2 s0) := hF
  have hG := jHo_as hF
  clear hF
  obtain ⟨rfl, hF⟩ := hG
  refine jg_norm [3, 1, 1] [0, l1, l2] rfl rfl ?_
  unfold fX10_waits at hF
  refine ji_iload_n (n := 1) (pc := 0) l1 rfl rfl rfl dX10_waits_0 (fun r1 => ?_)
  refine ji_callSz (pc := 1) [l1] ([]) oX10_isHand wlX10_103 wmX10_isHand rfl rfl (Nat.le_of_ble_eq_true rfl) (jRaC r1 jRa0) rfl rfl (Nat.le_of_ble_eq_true rfl) hF dX10_waits_1 (fun x2 s3 r_x2 hF => ?_)
  refine ji_if_eq 11 (pc := 4) (jR51 r_x2) hF dX10_waits_4 rfl (fun hF => ?_) (fun hF => ?_)
  · refine ji_iconst (pc := 11) dX10_waits_11 ?_
    exact ji_reti (pc := 12) rfl (jRc rfl) hF dX10_waits_12
  · refine ji_iload_n (n := 2) (pc := 7) l2 rfl rfl rfl dX10_waits_7 (fun r4 => ?_)
    refine ji_if_ge 13 (pc := 8) r4 hF dX10_waits_8 rfl (fun hF => ?_) (fun hF => ?_)
    · refine ji_aload_n (n := 0) (pc := 13) 0 rfl rfl rfl dX10_waits_13 (fun r5 => ?_)
      refine ji_getr (pc := 14) 2 wfX10_17 (jRc3 rfl) jcl_0 jrf_0_1 dX10_waits_14 ?_
      refine ji_iload_n (n := 1) (pc := 17) l1 rfl rfl rfl dX10_waits_17 (fun r6 => ?_)
      refine ji_aaload (pc := 18) 6 4 (jRc3 rfl) r6 (.inr ⟨rfl, rfl, rfl⟩) hF dX10_waits_18 (fun x7 r_x7 hF => ?_)
      obtain ⟨h8, hF⟩ := jHo_as hF
      refine ji_callVz (pc := 19) x7 [] ([]) oX1_rests wlX10_186 wmX1_rests rfl rfl (Nat.le_of_ble_eq_true rfl) (jRaC r_x7 jRa0) rfl h8 rfl (Nat.le_of_ble_eq_true rfl) hF dX10_waits_19 (fun x9 s10 r_x9 hF => ?_)
      refine ji_if_ne 28 (pc := 22) (jR51 r_x9) hF dX10_waits_22 rfl (fun hF => ?_) (fun hF => ?_)
      · refine ji_aload_n (n := 0) (pc := 28) 0 rfl rfl rfl dX10_waits_28 (fun r11 => ?_)
        refine ji_getr (pc := 29) 7 wfX10_45 (jRc3 rfl) jcl_0 jrf_0_6 dX10_waits_29 ?_
        refine ji_aload_n (n := 0) (pc := 32) 0 rfl rfl rfl dX10_waits_32 (fun r12 => ?_)
        refine ji_getr (pc := 33) 2 wfX10_17 (jRc3 rfl) jcl_0 jrf_0_1 dX10_waits_33 ?_
        refine ji_iload_n (n := 1) (pc := 36) l1 rfl rfl rfl dX10_waits_36 (fun r13 => ?_)
        refine ji_aaload (pc := 37) 6 4 (jRc3 rfl) r13 (.inr ⟨rfl, rfl, rfl⟩) hF dX10_waits_37 (fun x14 r_x14 hF => ?_)
        refine ji_iconst (pc := 38) dX10_waits_38 ?_
        refine ji_callVv (pc := 39) 7 [x14, 1] ([]) oX3_reckon wlX10_189 wmX3_reckon rfl rfl (Nat.le_of_ble_eq_true rfl) (jRaC (jRc3 rfl) (jRaC r_x14 (jRaC (jRc rfl) jRa0))) rfl jcl_7 rfl (Nat.le_of_ble_eq_true rfl) hF dX10_waits_39 (fun x15 s16 hF => ?_)
        refine ji_aload_n (n := 0) (pc := 42) 0 rfl rfl rfl dX10_waits_42 (fun r17 => ?_)
        refine ji_getr (pc := 43) 7 wfX10_45 (jRc3 rfl) jcl_0 jrf_0_6 dX10_waits_43 ?_
        refine ji_getfi (pc := 46) wfX10_193 (jRc3 rfl) jcl_7 hF dX10_waits_46 (fun x18 r_x18 hF => ?_)
        refine ji_iconst (pc := 49) dX10_waits_49 ?_
        refine ji_icmp_ne 64 (pc := 50) r_x18 (jRc rfl) hF dX10_waits_50 rfl (fun hF => ?_) (fun hF => ?_)
        · refine jg_bipush (pc := 64) rfl dX10_waits_64 ?_
          exact ji_reti (pc := 66) rfl (jRc rfl) hF dX10_waits_66
        · refine ji_aload_n (n := 0) (pc := 53) 0 rfl rfl rfl dX10_waits_53 (fun r19 => ?_)
          refine ji_getr (pc := 54) 7 wfX10_45 (jRc3 rfl) jcl_0 jrf_0_6 dX10_waits_54 ?_
          refine ji_iload_n (n := 2) (pc := 57) l2 rfl rfl rfl dX10_waits_57 (fun r20 => ?_)
          refine ji_callVi (pc := 58) 7 [l2] ([]) oX3_helper wlX10_201 wmX3_helper rfl rfl (Nat.le_of_ble_eq_true rfl) (jRaC (jRc3 rfl) (jRaC r20 jRa0)) rfl jcl_7 rfl (Nat.le_of_ble_eq_true rfl) hF dX10_waits_58 (fun x21 s22 r_x21 hF => ?_)
          refine jg_goto (pc := 61) 66 dX10_waits_61 rfl ?_
          exact ji_reti (pc := 66) rfl r_x21 hF dX10_waits_66
      · refine jg_bipush (pc := 25) rfl dX10_waits_25 ?_
        exact ji_reti (pc := 27) rfl (jRc rfl) hF dX10_waits_27
    · refine ji_iconst (pc := 11) dX10_waits_11 ?_
      exact ji_reti (pc := 12) rfl (jRc rfl) hF dX10_waits_12
def bX10_countHidden_25 (k52 : Int → Int → Int → jMem → jO) (rec : Int → Int → Int → Int → jMem → jO) (l1 l2 l3 l4 : Int) (s0 : jMem) : jO :=
if 4 ≤ l4 then (
k52 l1 l2 l3 s0)
else (
jGd ((0 : Int) ≤ l4 ∧ l4 < jrk 2 6) <| jLet (jrf 2 l4) fun x5 =>
jGd (jcl x5 = 0) <| jLet (jrf x5 1) fun x7 =>
jGd ((0 : Int) ≤ l2 ∧ l2 < jik x7) <| jLet (s0 x7 l2) fun x9 =>
jLet (j32 (l3 + x9)) fun x10 =>
jLet (j32 (l4 + 1)) fun x11 =>
rec l1 l2 x10 x11 s0)
def bX10_countHidden_52 (k2 : Int → Int → jMem → jO) (l1 l2 l3 : Int) (s0 : jMem) : jO :=
jLet (j32 (4 - l3)) fun x4 =>
jGd ((0 : Int) ≤ l2 ∧ l2 < jik 5) <| jLet (jU s0 5 l2 x4) fun s5 =>
jLet (j32 (l2 + 1)) fun x6 =>
k2 l1 x6 s5
def bX10_countHidden_2 (rec : Int → Int → jMem → jO) (l1 l2 : Int) (s0 : jMem) : jO :=
if 34 ≤ l2 then (
jBd (fX8_sum 5 s0) fun x3 s4 =>
jRet x3 s4)
else (
jGd (jcl l1 = 0) <| jLet (jrf l1 0) fun x7 =>
jGd ((0 : Int) ≤ l2 ∧ l2 < jik x7) <| jLet (s0 x7 l2) fun x9 =>
jGd ((0 : Int) ≤ l2 ∧ l2 < jik 4) <| jLet (s0 4 l2) fun x12 =>
jLet (j32 (x9 + x12)) fun x13 =>
jIt (fun _ _ _ _ _ => none) (bX10_countHidden_25 (bX10_countHidden_52 rec)) 1000 l1 l2 x13 0 s0)
def fX10_countHidden (l1 : Int) (s0 : jMem) : jO :=
jIt (fun _ _ _ => none) (bX10_countHidden_2) 1000 l1 0 s0
def gX10_countHidden (vs : List Int) (s : jMem) : jO := match vs with
  | [a0, a1] => jGd (a0 = 0) <| fX10_countHidden a1 s
  | _ => none
set_option maxRecDepth 100000 in
set_option maxHeartbeats 4000000 in
theorem obX10_countHidden_25 {E : jEnv} {Rr : Int → jMem → Prop} {k52 : Int → Int → Int → jMem → jO} (hk52 : ∀ (l1 l2 l3 : Int) (s : jMem), jHo Rr (k52 l1 l2 l3 s) → jGo E MX10_countHidden 1 Rr [3, 3, 1, 1, 0] 52 [0, l1, l2, l3, 0] ([]) s) {rec : Int → Int → Int → Int → jMem → jO} (hrec : ∀ (l1 l2 l3 l4 : Int) (s : jMem), jHo Rr (rec l1 l2 l3 l4 s) → jGo E MX10_countHidden 1 Rr [3, 3, 1, 1, 1] 25 [0, l1, l2, l3, l4] ([]) s) : ∀ (l1 l2 l3 l4 : Int) (s : jMem), jHo Rr (bX10_countHidden_25 k52 rec l1 l2 l3 l4 s) → jGo E MX10_countHidden 1 Rr [3, 3, 1, 1, 1] 25 [0, l1, l2, l3, l4] ([]) s := by
  intro l1 l2 l3 l4 s0 hF
  unfold bX10_countHidden_25 at hF
  refine ji_iload (pc := 25) l4 rfl rfl dX10_countHidden_25 (fun r1 => ?_)
  refine ji_iconst (pc := 27) dX10_countHidden_27 ?_
  refine ji_icmp_ge 52 (pc := 28) r1 (jRc rfl) hF dX10_countHidden_28 rfl (fun hF => ?_) (fun hF => ?_)
  · refine jg_norm [3, 3, 1, 1, 0] [0, l1, l2, l3, 0] rfl rfl ?_
    exact hk52 _ _ _ _ hF
  · refine ji_iload_n (n := 3) (pc := 31) l3 rfl rfl rfl dX10_countHidden_31 (fun r2 => ?_)
    refine ji_aload_n (n := 0) (pc := 32) 0 rfl rfl rfl dX10_countHidden_32 (fun r3 => ?_)
    refine ji_getr (pc := 33) 2 wfX10_17 (jRc3 rfl) jcl_0 jrf_0_1 dX10_countHidden_33 ?_
    refine ji_iload (pc := 36) l4 rfl rfl dX10_countHidden_36 (fun r4 => ?_)
    refine ji_aaload (pc := 38) 6 4 (jRc3 rfl) r4 (.inr ⟨rfl, rfl, rfl⟩) hF dX10_countHidden_38 (fun x5 r_x5 hF => ?_)
    obtain ⟨h6, hF⟩ := jHo_as hF
    refine ji_getrL (pc := 39) wfX10_152 r_x5 h6 hF dX10_countHidden_39 (fun x7 r_x7 hF => ?_)
    refine ji_iload_n (n := 2) (pc := 42) l2 rfl rfl rfl dX10_countHidden_42 (fun r8 => ?_)
    refine ji_iaload (pc := 43) r_x7 r8 hF dX10_countHidden_43 (fun x9 r_x9 hF => ?_)
    refine ji_iadd (pc := 44)  hF dX10_countHidden_44 (fun x10 r_x10 hF => ?_)
    refine ji_istore_n (n := 3) (pc := 45) [3, 3, 1, 1, 1] [0, l1, l2, x10, l4] rfl r_x10 (Nat.le_of_ble_eq_true rfl) rfl rfl dX10_countHidden_45 ?_
    refine ji_iinc (pc := 46) l4 (fun w => [0, l1, l2, x10, w]) rfl rfl rfl (fun _ => rfl) hF dX10_countHidden_46 (fun x11 r_x11 hF => ?_)
    refine jg_goto (pc := 49) 25 dX10_countHidden_49 rfl ?_
    refine jg_norm [3, 3, 1, 1, 1] [0, l1, l2, x10, x11] rfl rfl ?_
    exact hrec _ _ _ _ _ hF
theorem obX10_countHidden_25W {E : jEnv} {Rr : Int → jMem → Prop} {k52 : Int → Int → Int → jMem → jO} (hk52 : ∀ (l1 l2 l3 : Int) (s : jMem), jHo Rr (k52 l1 l2 l3 s) → jGo E MX10_countHidden 1 Rr [3, 3, 1, 1, 0] 52 [0, l1, l2, l3, 0] ([]) s) : ∀ n : Nat, ∀ (l1 l2 l3 l4 : Int) (s : jMem), jHo Rr (jIt (fun _ _ _ _ _ => none) (bX10_countHidden_25 k52) n l1 l2 l3 l4 s) → jGo E MX10_countHidden 1 Rr [3, 3, 1, 1, 1] 25 [0, l1, l2, l3, l4] ([]) s := by
  intro n
  induction n with
  | zero => intro l1 l2 l3 l4 s hF; exact jHo_none hF
  | succ n ih => exact obX10_countHidden_25 hk52 ih

set_option maxRecDepth 100000 in
set_option maxHeartbeats 4000000 in
theorem obX10_countHidden_52 {E : jEnv} {Rr : Int → jMem → Prop} {k2 : Int → Int → jMem → jO} (hk2 : ∀ (l1 l2 : Int) (s : jMem), jHo Rr (k2 l1 l2 s) → jGo E MX10_countHidden 1 Rr [3, 3, 1, 0, 0] 2 [0, l1, l2, 0, 0] ([]) s) : ∀ (l1 l2 l3 : Int) (s : jMem), jHo Rr (bX10_countHidden_52 k2 l1 l2 l3 s) → jGo E MX10_countHidden 1 Rr [3, 3, 1, 1, 0] 52 [0, l1, l2, l3, 0] ([]) s := by
  intro l1 l2 l3 s0 hF
  unfold bX10_countHidden_52 at hF
  refine ji_aload_n (n := 0) (pc := 52) 0 rfl rfl rfl dX10_countHidden_52 (fun r1 => ?_)
  refine ji_getr (pc := 53) 5 wfX10_30 (jRc3 rfl) jcl_0 jrf_0_4 dX10_countHidden_53 ?_
  refine ji_iload_n (n := 2) (pc := 56) l2 rfl rfl rfl dX10_countHidden_56 (fun r2 => ?_)
  refine ji_iconst (pc := 57) dX10_countHidden_57 ?_
  refine ji_iload_n (n := 3) (pc := 58) l3 rfl rfl rfl dX10_countHidden_58 (fun r3 => ?_)
  refine ji_isub (pc := 59)  hF dX10_countHidden_59 (fun x4 r_x4 hF => ?_)
  refine ji_iastore (pc := 60) (jRc3 rfl) r2 r_x4 hF dX10_countHidden_60 (fun s5 hF => ?_)
  refine ji_iinc (pc := 61) l2 (fun w => [0, l1, w, l3, 0]) rfl rfl rfl (fun _ => rfl) hF dX10_countHidden_61 (fun x6 r_x6 hF => ?_)
  refine jg_goto (pc := 64) 2 dX10_countHidden_64 rfl ?_
  refine jg_norm [3, 3, 1, 0, 0] [0, l1, x6, 0, 0] rfl rfl ?_
  exact hk2 _ _ _ hF
set_option maxRecDepth 100000 in
set_option maxHeartbeats 4000000 in
theorem obX10_countHidden_2 {E : jEnv} {Rr : Int → jMem → Prop} {rec : Int → Int → jMem → jO} (hrec : ∀ (l1 l2 : Int) (s : jMem), jHo Rr (rec l1 l2 s) → jGo E MX10_countHidden 1 Rr [3, 3, 1, 0, 0] 2 [0, l1, l2, 0, 0] ([]) s) : ∀ (l1 l2 : Int) (s : jMem), jHo Rr (bX10_countHidden_2 rec l1 l2 s) → jGo E MX10_countHidden 1 Rr [3, 3, 1, 0, 0] 2 [0, l1, l2, 0, 0] ([]) s := by
  intro l1 l2 s0 hF
  unfold bX10_countHidden_2 at hF
  refine ji_iload_n (n := 2) (pc := 2) l2 rfl rfl rfl dX10_countHidden_2 (fun r1 => ?_)
  refine jg_bipush (pc := 3) rfl dX10_countHidden_3 ?_
  refine ji_icmp_ge 67 (pc := 5) r1 (jRc rfl) hF dX10_countHidden_5 rfl (fun hF => ?_) (fun hF => ?_)
  · refine ji_aload_n (n := 0) (pc := 67) 0 rfl rfl rfl dX10_countHidden_67 (fun r2 => ?_)
    refine ji_getr (pc := 68) 5 wfX10_30 (jRc3 rfl) jcl_0 jrf_0_4 dX10_countHidden_68 ?_
    refine ji_callSi (pc := 71) [5] ([]) oX8_sum wlX10_279 wmX8_sum rfl rfl (Nat.le_of_ble_eq_true rfl) (jRaC (jRc3 rfl) jRa0) rfl rfl (Nat.le_of_ble_eq_true rfl) hF dX10_countHidden_71 (fun x3 s4 r_x3 hF => ?_)
    exact ji_reti (pc := 74) rfl r_x3 hF dX10_countHidden_74
  · refine ji_aload_n (n := 1) (pc := 8) l1 rfl rfl rfl dX10_countHidden_8 (fun r5 => ?_)
    obtain ⟨h6, hF⟩ := jHo_as hF
    refine ji_getrL (pc := 9) wfX10_132 r5 h6 hF dX10_countHidden_9 (fun x7 r_x7 hF => ?_)
    refine ji_iload_n (n := 2) (pc := 12) l2 rfl rfl rfl dX10_countHidden_12 (fun r8 => ?_)
    refine ji_iaload (pc := 13) r_x7 r8 hF dX10_countHidden_13 (fun x9 r_x9 hF => ?_)
    refine ji_aload_n (n := 0) (pc := 14) 0 rfl rfl rfl dX10_countHidden_14 (fun r10 => ?_)
    refine ji_getr (pc := 15) 4 wfX10_27 (jRc3 rfl) jcl_0 jrf_0_3 dX10_countHidden_15 ?_
    refine ji_iload_n (n := 2) (pc := 18) l2 rfl rfl rfl dX10_countHidden_18 (fun r11 => ?_)
    refine ji_iaload (pc := 19) (jRc3 rfl) r11 hF dX10_countHidden_19 (fun x12 r_x12 hF => ?_)
    refine ji_iadd (pc := 20)  hF dX10_countHidden_20 (fun x13 r_x13 hF => ?_)
    refine ji_istore_n (n := 3) (pc := 21) [3, 3, 1, 1, 0] [0, l1, l2, x13, 0] rfl r_x13 (Nat.le_of_ble_eq_true rfl) rfl rfl dX10_countHidden_21 ?_
    refine ji_iconst (pc := 22) dX10_countHidden_22 ?_
    refine ji_istore (n := 4) (pc := 23) [3, 3, 1, 1, 1] [0, l1, l2, x13, 0] (jRc rfl) (Nat.le_of_ble_eq_true rfl) rfl rfl dX10_countHidden_23 ?_
    refine jg_norm [3, 3, 1, 1, 1] [0, l1, l2, x13, 0] rfl rfl ?_
    exact obX10_countHidden_25W (obX10_countHidden_52 hrec) 1000 _ _ _ _ _ hF
theorem obX10_countHidden_2W {E : jEnv} {Rr : Int → jMem → Prop} : ∀ n : Nat, ∀ (l1 l2 : Int) (s : jMem), jHo Rr (jIt (fun _ _ _ => none) (bX10_countHidden_2) n l1 l2 s) → jGo E MX10_countHidden 1 Rr [3, 3, 1, 0, 0] 2 [0, l1, l2, 0, 0] ([]) s := by
  intro n
  induction n with
  | zero => intro l1 l2 s hF; exact jHo_none hF
  | succ n ih => exact obX10_countHidden_2 ih

set_option maxRecDepth 100000 in
set_option maxHeartbeats 4000000 in
theorem oX10_countHidden : jOk MX10_countHidden [3, 3] 1 (jFn gX10_countHidden) := by
  refine jOk_fn (by decide +kernel) (Nat.le_of_ble_eq_true rfl) (by decide +kernel) (.inr (.inl rfl)) ?_
  intro E vs s0 Rr hF ha
  obtain ⟨l0, t0, rfl, r_l0, ha⟩ := jRa_ci ha
  obtain ⟨l1, t1, rfl, r_l1, ha⟩ := jRa_ci ha
  obtain rfl := jRa_ni ha
  replace hF : jHo Rr (jGd (l0 = 0) <| fX10_countHidden l1 s0) := hF
  have hG := jHo_as hF
  clear hF
  obtain ⟨rfl, hF⟩ := hG
  refine jg_norm [3, 3, 0, 0, 0] [0, l1, 0, 0, 0] rfl rfl ?_
  unfold fX10_countHidden at hF
  refine ji_iconst (pc := 0) dX10_countHidden_0 ?_
  refine ji_istore_n (n := 2) (pc := 1) [3, 3, 1, 0, 0] [0, l1, 0, 0, 0] rfl (jRc rfl) (Nat.le_of_ble_eq_true rfl) rfl rfl dX10_countHidden_1 ?_
  refine jg_norm [3, 3, 1, 0, 0] [0, l1, 0, 0, 0] rfl rfl ?_
  exact obX10_countHidden_2W 1000 _ _ _ hF
def bX10_bestThrow_122 (k132 : Int → Int → Int → Int → Int → jMem → jO) (l1 l2 l3 l4 l5 : Int) (s0 : jMem) : jO :=
jBd (fX3_change l5 1 s0) fun x3 s4 =>
k132 l1 l2 l3 l4 l5 s4
def bX10_bestThrow_106 (k132 : Int → Int → Int → Int → Int → jMem → jO) (l1 l2 l3 l4 l5 t0 : Int) (s0 : jMem) : jO :=
if t0 ≤ l4 then (
bX10_bestThrow_122 k132 l1 l2 l3 l4 l5 s0)
else (
bX10_bestThrow_122 k132 l1 l2 l5 t0 l5 s0)
def bX10_bestThrow_132 (k46 : Int → Int → Int → Int → Int → jMem → jO) (l1 l2 l3 l4 l5 : Int) (s0 : jMem) : jO :=
jLet (j32 (l5 + 1)) fun x1 =>
k46 l1 l2 l3 l4 x1 s0
def bX10_bestThrow_46 (rec : Int → Int → Int → Int → Int → jMem → jO) (l1 l2 l3 l4 l5 : Int) (s0 : jMem) : jO :=
if 34 ≤ l5 then (
jRet l3 s0)
else (
jGd (jcl l1 = 0) <| jLet (jrf l1 0) fun x5 =>
jGd ((0 : Int) ≤ l5 ∧ l5 < jik x5) <| jLet (s0 x5 l5) fun x7 =>
if x7 ≤ 0 then (
bX10_bestThrow_132 rec l1 l2 l3 l4 l5 s0)
else (
jBd (fX3_change l5 (-1) s0) fun x10 s11 =>
jBd (fX3_total s11) fun x13 s14 =>
jLet (s14 7 12) fun x16 =>
if x16 = l2 then (
jBd (fX3_helpingOf 5 s14) fun x20 s21 =>
bX10_bestThrow_106 (bX10_bestThrow_132 rec) l1 l2 l3 l4 l5 x20 s21)
else (
bX10_bestThrow_106 (bX10_bestThrow_132 rec) l1 l2 l3 l4 l5 (-1) s14)))
def fX10_bestThrow (l1 : Int) (s0 : jMem) : jO :=
jBd (fX3_reckon l1 14 s0) fun x3 s4 =>
jLet (s4 7 12) fun x6 =>
jLet (jmax x6 1) fun x7 =>
jBd (fX10_countHidden l1 s4) fun x10 s11 =>
jBd (fX3_reckon l1 x7 s11) fun x15 s16 =>
jIt (fun _ _ _ _ _ _ => none) (bX10_bestThrow_46) 1000 l1 x7 (-3) (-1) 0 s16
def gX10_bestThrow (vs : List Int) (s : jMem) : jO := match vs with
  | [a0, a1] => jGd (a0 = 0) <| fX10_bestThrow a1 s
  | _ => none
set_option maxRecDepth 100000 in
set_option maxHeartbeats 4000000 in
theorem obX10_bestThrow_122 {E : jEnv} {Rr : Int → jMem → Prop} {k132 : Int → Int → Int → Int → Int → jMem → jO} (hk132 : ∀ (l1 l2 l3 l4 l5 : Int) (s : jMem), jHo Rr (k132 l1 l2 l3 l4 l5 s) → jGo E MX10_bestThrow 5 Rr [3, 3, 1, 1, 1, 1, 0] 132 [0, l1, l2, l3, l4, l5, 0] ([]) s) : ∀ (l1 l2 l3 l4 l5 : Int) (s : jMem), jHo Rr (bX10_bestThrow_122 k132 l1 l2 l3 l4 l5 s) → jGo E MX10_bestThrow 5 Rr [3, 3, 1, 1, 1, 1, 0] 122 [0, l1, l2, l3, l4, l5, 0] ([]) s := by
  intro l1 l2 l3 l4 l5 s0 hF
  unfold bX10_bestThrow_122 at hF
  refine ji_aload_n (n := 0) (pc := 122) 0 rfl rfl rfl dX10_bestThrow_122 (fun r1 => ?_)
  refine ji_getr (pc := 123) 7 wfX10_45 (jRc3 rfl) jcl_0 jrf_0_6 dX10_bestThrow_123 ?_
  refine ji_iload (pc := 126) l5 rfl rfl dX10_bestThrow_126 (fun r2 => ?_)
  refine ji_iconst (pc := 128) dX10_bestThrow_128 ?_
  refine ji_callVv (pc := 129) 7 [l5, 1] ([]) oX3_change wlX10_224 wmX3_change rfl rfl (Nat.le_of_ble_eq_true rfl) (jRaC (jRc3 rfl) (jRaC r2 (jRaC (jRc rfl) jRa0))) rfl jcl_7 rfl (Nat.le_of_ble_eq_true rfl) hF dX10_bestThrow_129 (fun x3 s4 hF => ?_)
  refine jg_norm [3, 3, 1, 1, 1, 1, 0] [0, l1, l2, l3, l4, l5, 0] rfl rfl ?_
  exact hk132 _ _ _ _ _ _ hF
set_option maxRecDepth 100000 in
set_option maxHeartbeats 4000000 in
theorem obX10_bestThrow_106 {E : jEnv} {Rr : Int → jMem → Prop} {k132 : Int → Int → Int → Int → Int → jMem → jO} (hk132 : ∀ (l1 l2 l3 l4 l5 : Int) (s : jMem), jHo Rr (k132 l1 l2 l3 l4 l5 s) → jGo E MX10_bestThrow 5 Rr [3, 3, 1, 1, 1, 1, 0] 132 [0, l1, l2, l3, l4, l5, 0] ([]) s) : ∀ (l1 l2 l3 l4 l5 t0 : Int) (s : jMem), jR 1 t0 → jHo Rr (bX10_bestThrow_106 k132 l1 l2 l3 l4 l5 t0 s) → jGo E MX10_bestThrow 5 Rr [3, 3, 1, 1, 1, 1, 0] 106 [0, l1, l2, l3, l4, l5, 0] (jV E 1 t0 :: []) s := by
  intro l1 l2 l3 l4 l5 t0 s0 r_t0 hF
  unfold bX10_bestThrow_106 at hF
  refine ji_istore (n := 6) (pc := 106) [3, 3, 1, 1, 1, 1, 1] [0, l1, l2, l3, l4, l5, t0] r_t0 (Nat.le_of_ble_eq_true rfl) rfl rfl dX10_bestThrow_106 ?_
  refine ji_iload (pc := 108) t0 rfl rfl dX10_bestThrow_108 (fun r1 => ?_)
  refine ji_iload (pc := 110) l4 rfl rfl dX10_bestThrow_110 (fun r2 => ?_)
  refine ji_icmp_le 122 (pc := 112) r1 r2 hF dX10_bestThrow_112 rfl (fun hF => ?_) (fun hF => ?_)
  · refine jg_norm [3, 3, 1, 1, 1, 1, 0] [0, l1, l2, l3, l4, l5, 0] rfl rfl ?_
    exact obX10_bestThrow_122 hk132 _ _ _ _ _ _ hF
  · refine ji_iload (pc := 115) t0 rfl rfl dX10_bestThrow_115 (fun r3 => ?_)
    refine ji_istore (n := 4) (pc := 117) [3, 3, 1, 1, 1, 1, 1] [0, l1, l2, l3, t0, l5, t0] r3 (Nat.le_of_ble_eq_true rfl) rfl rfl dX10_bestThrow_117 ?_
    refine ji_iload (pc := 119) l5 rfl rfl dX10_bestThrow_119 (fun r4 => ?_)
    refine ji_istore_n (n := 3) (pc := 121) [3, 3, 1, 1, 1, 1, 1] [0, l1, l2, l5, t0, l5, t0] rfl r4 (Nat.le_of_ble_eq_true rfl) rfl rfl dX10_bestThrow_121 ?_
    refine jg_norm [3, 3, 1, 1, 1, 1, 0] [0, l1, l2, l5, t0, l5, 0] rfl rfl ?_
    exact obX10_bestThrow_122 hk132 _ _ _ _ _ _ hF
set_option maxRecDepth 100000 in
set_option maxHeartbeats 4000000 in
theorem obX10_bestThrow_132 {E : jEnv} {Rr : Int → jMem → Prop} {k46 : Int → Int → Int → Int → Int → jMem → jO} (hk46 : ∀ (l1 l2 l3 l4 l5 : Int) (s : jMem), jHo Rr (k46 l1 l2 l3 l4 l5 s) → jGo E MX10_bestThrow 5 Rr [3, 3, 1, 1, 1, 1, 0] 46 [0, l1, l2, l3, l4, l5, 0] ([]) s) : ∀ (l1 l2 l3 l4 l5 : Int) (s : jMem), jHo Rr (bX10_bestThrow_132 k46 l1 l2 l3 l4 l5 s) → jGo E MX10_bestThrow 5 Rr [3, 3, 1, 1, 1, 1, 0] 132 [0, l1, l2, l3, l4, l5, 0] ([]) s := by
  intro l1 l2 l3 l4 l5 s0 hF
  unfold bX10_bestThrow_132 at hF
  refine ji_iinc (pc := 132) l5 (fun w => [0, l1, l2, l3, l4, w, 0]) rfl rfl rfl (fun _ => rfl) hF dX10_bestThrow_132 (fun x1 r_x1 hF => ?_)
  refine jg_goto (pc := 135) 46 dX10_bestThrow_135 rfl ?_
  refine jg_norm [3, 3, 1, 1, 1, 1, 0] [0, l1, l2, l3, l4, x1, 0] rfl rfl ?_
  exact hk46 _ _ _ _ _ _ hF
set_option maxRecDepth 100000 in
set_option maxHeartbeats 4000000 in
theorem obX10_bestThrow_46 {E : jEnv} {Rr : Int → jMem → Prop} {rec : Int → Int → Int → Int → Int → jMem → jO} (hrec : ∀ (l1 l2 l3 l4 l5 : Int) (s : jMem), jHo Rr (rec l1 l2 l3 l4 l5 s) → jGo E MX10_bestThrow 5 Rr [3, 3, 1, 1, 1, 1, 0] 46 [0, l1, l2, l3, l4, l5, 0] ([]) s) : ∀ (l1 l2 l3 l4 l5 : Int) (s : jMem), jHo Rr (bX10_bestThrow_46 rec l1 l2 l3 l4 l5 s) → jGo E MX10_bestThrow 5 Rr [3, 3, 1, 1, 1, 1, 0] 46 [0, l1, l2, l3, l4, l5, 0] ([]) s := by
  intro l1 l2 l3 l4 l5 s0 hF
  unfold bX10_bestThrow_46 at hF
  refine ji_iload (pc := 46) l5 rfl rfl dX10_bestThrow_46 (fun r1 => ?_)
  refine jg_bipush (pc := 48) rfl dX10_bestThrow_48 ?_
  refine ji_icmp_ge 138 (pc := 50) r1 (jRc rfl) hF dX10_bestThrow_50 rfl (fun hF => ?_) (fun hF => ?_)
  · refine ji_iload_n (n := 3) (pc := 138) l3 rfl rfl rfl dX10_bestThrow_138 (fun r2 => ?_)
    exact ji_reti (pc := 139) rfl r2 hF dX10_bestThrow_139
  · refine ji_aload_n (n := 1) (pc := 53) l1 rfl rfl rfl dX10_bestThrow_53 (fun r3 => ?_)
    obtain ⟨h4, hF⟩ := jHo_as hF
    refine ji_getrL (pc := 54) wfX10_132 r3 h4 hF dX10_bestThrow_54 (fun x5 r_x5 hF => ?_)
    refine ji_iload (pc := 57) l5 rfl rfl dX10_bestThrow_57 (fun r6 => ?_)
    refine ji_iaload (pc := 59) r_x5 r6 hF dX10_bestThrow_59 (fun x7 r_x7 hF => ?_)
    refine ji_if_le 132 (pc := 60) r_x7 hF dX10_bestThrow_60 rfl (fun hF => ?_) (fun hF => ?_)
    · refine jg_norm [3, 3, 1, 1, 1, 1, 0] [0, l1, l2, l3, l4, l5, 0] rfl rfl ?_
      exact obX10_bestThrow_132 hrec _ _ _ _ _ _ hF
    · refine ji_aload_n (n := 0) (pc := 63) 0 rfl rfl rfl dX10_bestThrow_63 (fun r8 => ?_)
      refine ji_getr (pc := 64) 7 wfX10_45 (jRc3 rfl) jcl_0 jrf_0_6 dX10_bestThrow_64 ?_
      refine ji_iload (pc := 67) l5 rfl rfl dX10_bestThrow_67 (fun r9 => ?_)
      refine ji_iconst (pc := 69) dX10_bestThrow_69 ?_
      refine ji_callVv (pc := 70) 7 [l5, (-1)] ([]) oX3_change wlX10_224 wmX3_change rfl rfl (Nat.le_of_ble_eq_true rfl) (jRaC (jRc3 rfl) (jRaC r9 (jRaC (jRc rfl) jRa0))) rfl jcl_7 rfl (Nat.le_of_ble_eq_true rfl) hF dX10_bestThrow_70 (fun x10 s11 hF => ?_)
      refine ji_aload_n (n := 0) (pc := 73) 0 rfl rfl rfl dX10_bestThrow_73 (fun r12 => ?_)
      refine ji_getr (pc := 74) 7 wfX10_45 (jRc3 rfl) jcl_0 jrf_0_6 dX10_bestThrow_74 ?_
      refine ji_callVv (pc := 77) 7 [] ([]) oX3_total wlX10_227 wmX3_total rfl rfl (Nat.le_of_ble_eq_true rfl) (jRaC (jRc3 rfl) jRa0) rfl jcl_7 rfl (Nat.le_of_ble_eq_true rfl) hF dX10_bestThrow_77 (fun x13 s14 hF => ?_)
      refine ji_aload_n (n := 0) (pc := 80) 0 rfl rfl rfl dX10_bestThrow_80 (fun r15 => ?_)
      refine ji_getr (pc := 81) 7 wfX10_45 (jRc3 rfl) jcl_0 jrf_0_6 dX10_bestThrow_81 ?_
      refine ji_getfi (pc := 84) wfX10_193 (jRc3 rfl) jcl_7 hF dX10_bestThrow_84 (fun x16 r_x16 hF => ?_)
      refine ji_iload_n (n := 2) (pc := 87) l2 rfl rfl rfl dX10_bestThrow_87 (fun r17 => ?_)
      refine ji_icmp_ne 105 (pc := 88) r_x16 r17 hF dX10_bestThrow_88 rfl (fun hF => ?_) (fun hF => ?_)
      · refine ji_iconst (pc := 105) dX10_bestThrow_105 ?_
        refine jg_norm [3, 3, 1, 1, 1, 1, 0] [0, l1, l2, l3, l4, l5, 0] rfl rfl ?_
        exact obX10_bestThrow_106 (obX10_bestThrow_132 hrec) _ _ _ _ _ _ _ (jRc rfl) hF
      · refine ji_aload_n (n := 0) (pc := 91) 0 rfl rfl rfl dX10_bestThrow_91 (fun r18 => ?_)
        refine ji_getr (pc := 92) 7 wfX10_45 (jRc3 rfl) jcl_0 jrf_0_6 dX10_bestThrow_92 ?_
        refine ji_aload_n (n := 0) (pc := 95) 0 rfl rfl rfl dX10_bestThrow_95 (fun r19 => ?_)
        refine ji_getr (pc := 96) 5 wfX10_30 (jRc3 rfl) jcl_0 jrf_0_4 dX10_bestThrow_96 ?_
        refine ji_callVi (pc := 99) 7 [5] ([]) oX3_helpingOf wlX10_214 wmX3_helpingOf rfl rfl (Nat.le_of_ble_eq_true rfl) (jRaC (jRc3 rfl) (jRaC (jRc3 rfl) jRa0)) rfl jcl_7 rfl (Nat.le_of_ble_eq_true rfl) hF dX10_bestThrow_99 (fun x20 s21 r_x20 hF => ?_)
        refine jg_goto (pc := 102) 106 dX10_bestThrow_102 rfl ?_
        refine jg_norm [3, 3, 1, 1, 1, 1, 0] [0, l1, l2, l3, l4, l5, 0] rfl rfl ?_
        exact obX10_bestThrow_106 (obX10_bestThrow_132 hrec) _ _ _ _ _ _ _ r_x20 hF
theorem obX10_bestThrow_46W {E : jEnv} {Rr : Int → jMem → Prop} : ∀ n : Nat, ∀ (l1 l2 l3 l4 l5 : Int) (s : jMem), jHo Rr (jIt (fun _ _ _ _ _ _ => none) (bX10_bestThrow_46) n l1 l2 l3 l4 l5 s) → jGo E MX10_bestThrow 5 Rr [3, 3, 1, 1, 1, 1, 0] 46 [0, l1, l2, l3, l4, l5, 0] ([]) s := by
  intro n
  induction n with
  | zero => intro l1 l2 l3 l4 l5 s hF; exact jHo_none hF
  | succ n ih => exact obX10_bestThrow_46 ih

set_option maxRecDepth 100000 in
set_option maxHeartbeats 4000000 in
theorem oX10_bestThrow : jOk MX10_bestThrow [3, 3] 5 (jFn gX10_bestThrow) := by
  refine jOk_fn (by decide +kernel) (Nat.le_of_ble_eq_true rfl) (by decide +kernel) (.inr (.inl rfl)) ?_
  intro E vs s0 Rr hF ha
  obtain ⟨l0, t0, rfl, r_l0, ha⟩ := jRa_ci ha
  obtain ⟨l1, t1, rfl, r_l1, ha⟩ := jRa_ci ha
  obtain rfl := jRa_ni ha
  replace hF : jHo Rr (jGd (l0 = 0) <| fX10_bestThrow l1 s0) := hF
  have hG := jHo_as hF
  clear hF
  obtain ⟨rfl, hF⟩ := hG
  refine jg_norm [3, 3, 0, 0, 0, 0, 0] [0, l1, 0, 0, 0, 0, 0] rfl rfl ?_
  unfold fX10_bestThrow at hF
  refine ji_aload_n (n := 0) (pc := 0) 0 rfl rfl rfl dX10_bestThrow_0 (fun r1 => ?_)
  refine ji_getr (pc := 1) 7 wfX10_45 (jRc3 rfl) jcl_0 jrf_0_6 dX10_bestThrow_1 ?_
  refine ji_aload_n (n := 1) (pc := 4) l1 rfl rfl rfl dX10_bestThrow_4 (fun r2 => ?_)
  refine jg_bipush (pc := 5) rfl dX10_bestThrow_5 ?_
  refine ji_callVv (pc := 7) 7 [l1, 14] ([]) oX3_reckon wlX10_189 wmX3_reckon rfl rfl (Nat.le_of_ble_eq_true rfl) (jRaC (jRc3 rfl) (jRaC r2 (jRaC (jRc rfl) jRa0))) rfl jcl_7 rfl (Nat.le_of_ble_eq_true rfl) hF dX10_bestThrow_7 (fun x3 s4 hF => ?_)
  refine ji_aload_n (n := 0) (pc := 10) 0 rfl rfl rfl dX10_bestThrow_10 (fun r5 => ?_)
  refine ji_getr (pc := 11) 7 wfX10_45 (jRc3 rfl) jcl_0 jrf_0_6 dX10_bestThrow_11 ?_
  refine ji_getfi (pc := 14) wfX10_193 (jRc3 rfl) jcl_7 hF dX10_bestThrow_14 (fun x6 r_x6 hF => ?_)
  refine ji_iconst (pc := 17) dX10_bestThrow_17 ?_
  refine ji_max (pc := 18) r_x6 (jRc rfl) (Nat.le_of_ble_eq_true rfl) (Nat.le_of_ble_eq_true rfl) ⟨wlX10_196, wq_max⟩ hF dX10_bestThrow_18 (fun x7 r_x7 hF => ?_)
  refine ji_istore_n (n := 2) (pc := 21) [3, 3, 1, 0, 0, 0, 0] [0, l1, x7, 0, 0, 0, 0] rfl r_x7 (Nat.le_of_ble_eq_true rfl) rfl rfl dX10_bestThrow_21 ?_
  refine ji_aload_n (n := 0) (pc := 22) 0 rfl rfl rfl dX10_bestThrow_22 (fun r8 => ?_)
  refine ji_aload_n (n := 1) (pc := 23) l1 rfl rfl rfl dX10_bestThrow_23 (fun r9 => ?_)
  refine ji_callVi (pc := 24) 0 [l1] ([]) oX10_countHidden wlX10_211 wmX10_countHidden rfl rfl (Nat.le_of_ble_eq_true rfl) (jRaC (jRc3 rfl) (jRaC r9 jRa0)) rfl jcl_0 rfl (Nat.le_of_ble_eq_true rfl) hF dX10_bestThrow_24 (fun x10 s11 r_x10 hF => ?_)
  refine jg_pop (pc := 27) (by decide) dX10_bestThrow_27 ?_
  refine ji_aload_n (n := 0) (pc := 28) 0 rfl rfl rfl dX10_bestThrow_28 (fun r12 => ?_)
  refine ji_getr (pc := 29) 7 wfX10_45 (jRc3 rfl) jcl_0 jrf_0_6 dX10_bestThrow_29 ?_
  refine ji_aload_n (n := 1) (pc := 32) l1 rfl rfl rfl dX10_bestThrow_32 (fun r13 => ?_)
  refine ji_iload_n (n := 2) (pc := 33) x7 rfl rfl rfl dX10_bestThrow_33 (fun r14 => ?_)
  refine ji_callVv (pc := 34) 7 [l1, x7] ([]) oX3_reckon wlX10_189 wmX3_reckon rfl rfl (Nat.le_of_ble_eq_true rfl) (jRaC (jRc3 rfl) (jRaC r13 (jRaC r14 jRa0))) rfl jcl_7 rfl (Nat.le_of_ble_eq_true rfl) hF dX10_bestThrow_34 (fun x15 s16 hF => ?_)
  refine jg_bipush (pc := 37) rfl dX10_bestThrow_37 ?_
  refine ji_istore_n (n := 3) (pc := 39) [3, 3, 1, 1, 0, 0, 0] [0, l1, x7, (-3), 0, 0, 0] rfl (jRc rfl) (Nat.le_of_ble_eq_true rfl) rfl rfl dX10_bestThrow_39 ?_
  refine ji_iconst (pc := 40) dX10_bestThrow_40 ?_
  refine ji_istore (n := 4) (pc := 41) [3, 3, 1, 1, 1, 0, 0] [0, l1, x7, (-3), (-1), 0, 0] (jRc rfl) (Nat.le_of_ble_eq_true rfl) rfl rfl dX10_bestThrow_41 ?_
  refine ji_iconst (pc := 43) dX10_bestThrow_43 ?_
  refine ji_istore (n := 5) (pc := 44) [3, 3, 1, 1, 1, 1, 0] [0, l1, x7, (-3), (-1), 0, 0] (jRc rfl) (Nat.le_of_ble_eq_true rfl) rfl rfl dX10_bestThrow_44 ?_
  refine jg_norm [3, 3, 1, 1, 1, 1, 0] [0, l1, x7, (-3), (-1), 0, 0] rfl rfl ?_
  exact obX10_bestThrow_46W 1000 _ _ _ _ _ _ hF
def fX10_best (l1 : Int) (s0 : jMem) : jO :=
jBd (fX10_isHand l1 s0) fun x2 s3 =>
if x2 = 0 then (
jRet (-1) s3)
else (
jGd ((0 : Int) ≤ l1 ∧ l1 < jrk 2 6) <| jLet (jrf 2 l1) fun x6 =>
jGd (jcl x6 = 0) <| jBd (fX1_isFull x6 s3) fun x8 s9 =>
if x8 = 0 then (
jRet (-2) s9)
else (
jGd ((0 : Int) ≤ l1 ∧ l1 < jrk 2 6) <| jLet (jrf 2 l1) fun x13 =>
jBd (fX10_bestThrow x13 s9) fun x14 s15 =>
jRet x14 s15))
def gX10_best (vs : List Int) (s : jMem) : jO := match vs with
  | [a0, a1] => jGd (a0 = 0) <| fX10_best a1 s
  | _ => none
set_option maxRecDepth 100000 in
set_option maxHeartbeats 4000000 in
theorem oX10_best : jOk MX10_best [3, 1] 6 (jFn gX10_best) := by
  refine jOk_fn (by decide +kernel) (Nat.le_of_ble_eq_true rfl) (by decide +kernel) (.inr (.inl rfl)) ?_
  intro E vs s0 Rr hF ha
  obtain ⟨l0, t0, rfl, r_l0, ha⟩ := jRa_ci ha
  obtain ⟨l1, t1, rfl, r_l1, ha⟩ := jRa_ci ha
  obtain rfl := jRa_ni ha
  replace hF : jHo Rr (jGd (l0 = 0) <| fX10_best l1 s0) := hF
  have hG := jHo_as hF
  clear hF
  obtain ⟨rfl, hF⟩ := hG
  refine jg_norm [3, 1] [0, l1] rfl rfl ?_
  unfold fX10_best at hF
  refine ji_iload_n (n := 1) (pc := 0) l1 rfl rfl rfl dX10_best_0 (fun r1 => ?_)
  refine ji_callSz (pc := 1) [l1] ([]) oX10_isHand wlX10_103 wmX10_isHand rfl rfl (Nat.le_of_ble_eq_true rfl) (jRaC r1 jRa0) rfl rfl (Nat.le_of_ble_eq_true rfl) hF dX10_best_1 (fun x2 s3 r_x2 hF => ?_)
  refine ji_if_ne 9 (pc := 4) (jR51 r_x2) hF dX10_best_4 rfl (fun hF => ?_) (fun hF => ?_)
  · refine ji_aload_n (n := 0) (pc := 9) 0 rfl rfl rfl dX10_best_9 (fun r4 => ?_)
    refine ji_getr (pc := 10) 2 wfX10_17 (jRc3 rfl) jcl_0 jrf_0_1 dX10_best_10 ?_
    refine ji_iload_n (n := 1) (pc := 13) l1 rfl rfl rfl dX10_best_13 (fun r5 => ?_)
    refine ji_aaload (pc := 14) 6 4 (jRc3 rfl) r5 (.inr ⟨rfl, rfl, rfl⟩) hF dX10_best_14 (fun x6 r_x6 hF => ?_)
    obtain ⟨h7, hF⟩ := jHo_as hF
    refine ji_callVz (pc := 15) x6 [] ([]) oX1_isFull wlX10_117 wmX1_isFull rfl rfl (Nat.le_of_ble_eq_true rfl) (jRaC r_x6 jRa0) rfl h7 rfl (Nat.le_of_ble_eq_true rfl) hF dX10_best_15 (fun x8 s9 r_x8 hF => ?_)
    refine ji_if_ne 24 (pc := 18) (jR51 r_x8) hF dX10_best_18 rfl (fun hF => ?_) (fun hF => ?_)
    · refine ji_aload_n (n := 0) (pc := 24) 0 rfl rfl rfl dX10_best_24 (fun r10 => ?_)
      refine ji_aload_n (n := 0) (pc := 25) 0 rfl rfl rfl dX10_best_25 (fun r11 => ?_)
      refine ji_getr (pc := 26) 2 wfX10_17 (jRc3 rfl) jcl_0 jrf_0_1 dX10_best_26 ?_
      refine ji_iload_n (n := 1) (pc := 29) l1 rfl rfl rfl dX10_best_29 (fun r12 => ?_)
      refine ji_aaload (pc := 30) 6 4 (jRc3 rfl) r12 (.inr ⟨rfl, rfl, rfl⟩) hF dX10_best_30 (fun x13 r_x13 hF => ?_)
      refine ji_callVi (pc := 31) 0 [x13] ([]) oX10_bestThrow wlX10_217 wmX10_bestThrow rfl rfl (Nat.le_of_ble_eq_true rfl) (jRaC (jRc3 rfl) (jRaC r_x13 jRa0)) rfl jcl_0 rfl (Nat.le_of_ble_eq_true rfl) hF dX10_best_31 (fun x14 s15 r_x14 hF => ?_)
      exact ji_reti (pc := 34) rfl r_x14 hF dX10_best_34
    · refine jg_bipush (pc := 21) rfl dX10_best_21 ?_
      exact ji_reti (pc := 23) rfl (jRc rfl) hF dX10_best_23
  · refine ji_iconst (pc := 7) dX10_best_7 ?_
    exact ji_reti (pc := 8) rfl (jRc rfl) hF dX10_best_8
def fX10_unseen (l1 : Int) (s0 : jMem) : jO :=
jBd (fX10_isHand l1 s0) fun x2 s3 =>
if x2 = 0 then (
jRet (-1) s3)
else (
jGd ((0 : Int) ≤ l1 ∧ l1 < jrk 2 6) <| jLet (jrf 2 l1) fun x7 =>
jBd (fX10_countHidden x7 s3) fun x8 s9 =>
jRet x8 s9)
def gX10_unseen (vs : List Int) (s : jMem) : jO := match vs with
  | [a0, a1] => jGd (a0 = 0) <| fX10_unseen a1 s
  | _ => none
set_option maxRecDepth 100000 in
set_option maxHeartbeats 4000000 in
theorem oX10_unseen : jOk MX10_unseen [3, 1] 2 (jFn gX10_unseen) := by
  refine jOk_fn (by decide +kernel) (Nat.le_of_ble_eq_true rfl) (by decide +kernel) (.inr (.inl rfl)) ?_
  intro E vs s0 Rr hF ha
  obtain ⟨l0, t0, rfl, r_l0, ha⟩ := jRa_ci ha
  obtain ⟨l1, t1, rfl, r_l1, ha⟩ := jRa_ci ha
  obtain rfl := jRa_ni ha
  replace hF : jHo Rr (jGd (l0 = 0) <| fX10_unseen l1 s0) := hF
  have hG := jHo_as hF
  clear hF
  obtain ⟨rfl, hF⟩ := hG
  refine jg_norm [3, 1] [0, l1] rfl rfl ?_
  unfold fX10_unseen at hF
  refine ji_iload_n (n := 1) (pc := 0) l1 rfl rfl rfl dX10_unseen_0 (fun r1 => ?_)
  refine ji_callSz (pc := 1) [l1] ([]) oX10_isHand wlX10_103 wmX10_isHand rfl rfl (Nat.le_of_ble_eq_true rfl) (jRaC r1 jRa0) rfl rfl (Nat.le_of_ble_eq_true rfl) hF dX10_unseen_1 (fun x2 s3 r_x2 hF => ?_)
  refine ji_if_eq 20 (pc := 4) (jR51 r_x2) hF dX10_unseen_4 rfl (fun hF => ?_) (fun hF => ?_)
  · refine ji_iconst (pc := 20) dX10_unseen_20 ?_
    exact ji_reti (pc := 21) rfl (jRc rfl) hF dX10_unseen_21
  · refine ji_aload_n (n := 0) (pc := 7) 0 rfl rfl rfl dX10_unseen_7 (fun r4 => ?_)
    refine ji_aload_n (n := 0) (pc := 8) 0 rfl rfl rfl dX10_unseen_8 (fun r5 => ?_)
    refine ji_getr (pc := 9) 2 wfX10_17 (jRc3 rfl) jcl_0 jrf_0_1 dX10_unseen_9 ?_
    refine ji_iload_n (n := 1) (pc := 12) l1 rfl rfl rfl dX10_unseen_12 (fun r6 => ?_)
    refine ji_aaload (pc := 13) 6 4 (jRc3 rfl) r6 (.inr ⟨rfl, rfl, rfl⟩) hF dX10_unseen_13 (fun x7 r_x7 hF => ?_)
    refine ji_callVi (pc := 14) 0 [x7] ([]) oX10_countHidden wlX10_211 wmX10_countHidden rfl rfl (Nat.le_of_ble_eq_true rfl) (jRaC (jRc3 rfl) (jRaC r_x7 jRa0)) rfl jcl_0 rfl (Nat.le_of_ble_eq_true rfl) hF dX10_unseen_14 (fun x8 s9 r_x8 hF => ?_)
    refine jg_goto (pc := 17) 21 dX10_unseen_17 rfl ?_
    exact ji_reti (pc := 21) rfl r_x8 hF dX10_unseen_21
def fX10_alike (l1 l2 : Int) (s0 : jMem) : jO :=
jBd (fX10_isHand l1 s0) fun x2 s3 =>
if x2 = 0 then (
jRet (-1) s3)
else (
jBd (fX10_isHand l2 s3) fun x5 s6 =>
if x5 = 0 then (
jRet (-1) s6)
else (
jGd ((0 : Int) ≤ l1 ∧ l1 < jrk 2 6) <| jLet (jrf 2 l1) fun x9 =>
jGd (jcl x9 = 0) <| jLet (jrf x9 0) fun x11 =>
jGd ((0 : Int) ≤ l2 ∧ l2 < jrk 2 6) <| jLet (jrf 2 l2) fun x14 =>
jGd (jcl x14 = 0) <| jLet (jrf x14 0) fun x16 =>
jBd (fX7_same x11 x16 s6) fun x17 s18 =>
if x17 = 0 then (
jRet 0 s18)
else (
jRet 1 s18)))
def gX10_alike (vs : List Int) (s : jMem) : jO := match vs with
  | [a0, a1, a2] => jGd (a0 = 0) <| fX10_alike a1 a2 s
  | _ => none
set_option maxRecDepth 100000 in
set_option maxHeartbeats 4000000 in
theorem oX10_alike : jOk MX10_alike [3, 1, 1] 3 (jFn gX10_alike) := by
  refine jOk_fn (by decide +kernel) (Nat.le_of_ble_eq_true rfl) (by decide +kernel) (.inr (.inl rfl)) ?_
  intro E vs s0 Rr hF ha
  obtain ⟨l0, t0, rfl, r_l0, ha⟩ := jRa_ci ha
  obtain ⟨l1, t1, rfl, r_l1, ha⟩ := jRa_ci ha
  obtain ⟨l2, t2, rfl, r_l2, ha⟩ := jRa_ci ha
  obtain rfl := jRa_ni ha
  replace hF : jHo Rr (jGd (l0 = 0) <| fX10_alike l1 l2 s0) := hF
  have hG := jHo_as hF
  clear hF
  obtain ⟨rfl, hF⟩ := hG
  refine jg_norm [3, 1, 1] [0, l1, l2] rfl rfl ?_
  unfold fX10_alike at hF
  refine ji_iload_n (n := 1) (pc := 0) l1 rfl rfl rfl dX10_alike_0 (fun r1 => ?_)
  refine ji_callSz (pc := 1) [l1] ([]) oX10_isHand wlX10_103 wmX10_isHand rfl rfl (Nat.le_of_ble_eq_true rfl) (jRaC r1 jRa0) rfl rfl (Nat.le_of_ble_eq_true rfl) hF dX10_alike_1 (fun x2 s3 r_x2 hF => ?_)
  refine ji_if_eq 14 (pc := 4) (jR51 r_x2) hF dX10_alike_4 rfl (fun hF => ?_) (fun hF => ?_)
  · refine ji_iconst (pc := 14) dX10_alike_14 ?_
    exact ji_reti (pc := 15) rfl (jRc rfl) hF dX10_alike_15
  · refine ji_iload_n (n := 2) (pc := 7) l2 rfl rfl rfl dX10_alike_7 (fun r4 => ?_)
    refine ji_callSz (pc := 8) [l2] ([]) oX10_isHand wlX10_103 wmX10_isHand rfl rfl (Nat.le_of_ble_eq_true rfl) (jRaC r4 jRa0) rfl rfl (Nat.le_of_ble_eq_true rfl) hF dX10_alike_8 (fun x5 s6 r_x5 hF => ?_)
    refine ji_if_ne 16 (pc := 11) (jR51 r_x5) hF dX10_alike_11 rfl (fun hF => ?_) (fun hF => ?_)
    · refine ji_aload_n (n := 0) (pc := 16) 0 rfl rfl rfl dX10_alike_16 (fun r7 => ?_)
      refine ji_getr (pc := 17) 2 wfX10_17 (jRc3 rfl) jcl_0 jrf_0_1 dX10_alike_17 ?_
      refine ji_iload_n (n := 1) (pc := 20) l1 rfl rfl rfl dX10_alike_20 (fun r8 => ?_)
      refine ji_aaload (pc := 21) 6 4 (jRc3 rfl) r8 (.inr ⟨rfl, rfl, rfl⟩) hF dX10_alike_21 (fun x9 r_x9 hF => ?_)
      obtain ⟨h10, hF⟩ := jHo_as hF
      refine ji_getrL (pc := 22) wfX10_132 r_x9 h10 hF dX10_alike_22 (fun x11 r_x11 hF => ?_)
      refine ji_aload_n (n := 0) (pc := 25) 0 rfl rfl rfl dX10_alike_25 (fun r12 => ?_)
      refine ji_getr (pc := 26) 2 wfX10_17 (jRc3 rfl) jcl_0 jrf_0_1 dX10_alike_26 ?_
      refine ji_iload_n (n := 2) (pc := 29) l2 rfl rfl rfl dX10_alike_29 (fun r13 => ?_)
      refine ji_aaload (pc := 30) 6 4 (jRc3 rfl) r13 (.inr ⟨rfl, rfl, rfl⟩) hF dX10_alike_30 (fun x14 r_x14 hF => ?_)
      obtain ⟨h15, hF⟩ := jHo_as hF
      refine ji_getrL (pc := 31) wfX10_132 r_x14 h15 hF dX10_alike_31 (fun x16 r_x16 hF => ?_)
      refine ji_callSz (pc := 34) [x11, x16] ([]) oX7_same wlX10_233 wmX7_same rfl rfl (Nat.le_of_ble_eq_true rfl) (jRaC r_x11 (jRaC r_x16 jRa0)) rfl rfl (Nat.le_of_ble_eq_true rfl) hF dX10_alike_34 (fun x17 s18 r_x17 hF => ?_)
      refine ji_if_eq 44 (pc := 37) (jR51 r_x17) hF dX10_alike_37 rfl (fun hF => ?_) (fun hF => ?_)
      · refine ji_iconst (pc := 44) dX10_alike_44 ?_
        exact ji_reti (pc := 45) rfl (jRc rfl) hF dX10_alike_45
      · refine ji_iconst (pc := 40) dX10_alike_40 ?_
        refine jg_goto (pc := 41) 45 dX10_alike_41 rfl ?_
        exact ji_reti (pc := 45) rfl (jRc rfl) hF dX10_alike_45
    · refine ji_iconst (pc := 14) dX10_alike_14 ?_
      exact ji_reti (pc := 15) rfl (jRc rfl) hF dX10_alike_15
end

section
def fX11_distance (l1 : Int) (s0 : jMem) : jO :=
jBd (fX11_isHand l1 s0) fun x2 s3 =>
if x2 = 0 then (
jRet (-1) s3)
else (
jBd (fX11_sizeOf l1 s3) fun x6 s7 =>
if 13 ≤ x6 then (
jBd (fX11_look l1 s7) fun x10 s11 =>
jBd (fX11_layAll s11) fun x13 s14 =>
jBd (fX11_lackOf s14) fun x16 s17 =>
jBd (fX11_distanceOf x16 s17) fun x18 s19 =>
jRet x18 s19)
else (
jRet (-2) s7))
def gX11_distance (vs : List Int) (s : jMem) : jO := match vs with
  | [a0, a1] => jGd (a0 = 53) <| fX11_distance a1 s
  | _ => none
set_option maxRecDepth 100000 in
set_option maxHeartbeats 4000000 in
theorem oX11_distance : jOk MX11_distance [3, 1] 4 (jFn gX11_distance) := by
  refine jOk_fn (by decide +kernel) (Nat.le_of_ble_eq_true rfl) (by decide +kernel) (.inr (.inl rfl)) ?_
  intro E vs s0 Rr hF ha
  obtain ⟨l0, t0, rfl, r_l0, ha⟩ := jRa_ci ha
  obtain ⟨l1, t1, rfl, r_l1, ha⟩ := jRa_ci ha
  obtain rfl := jRa_ni ha
  replace hF : jHo Rr (jGd (l0 = 53) <| fX11_distance l1 s0) := hF
  have hG := jHo_as hF
  clear hF
  obtain ⟨rfl, hF⟩ := hG
  refine jg_norm [3, 1] [53, l1] rfl rfl ?_
  unfold fX11_distance at hF
  refine ji_iload_n (n := 1) (pc := 0) l1 rfl rfl rfl dX11_distance_0 (fun r1 => ?_)
  refine ji_callSz (pc := 1) [l1] ([]) oX11_isHand wlX11_114 wmX11_isHand rfl rfl (Nat.le_of_ble_eq_true rfl) (jRaC r1 jRa0) rfl rfl (Nat.le_of_ble_eq_true rfl) hF dX11_distance_1 (fun x2 s3 r_x2 hF => ?_)
  refine ji_if_ne 9 (pc := 4) (jR51 r_x2) hF dX11_distance_4 rfl (fun hF => ?_) (fun hF => ?_)
  · refine ji_aload_n (n := 0) (pc := 9) 53 rfl rfl rfl dX11_distance_9 (fun r4 => ?_)
    refine ji_iload_n (n := 1) (pc := 10) l1 rfl rfl rfl dX11_distance_10 (fun r5 => ?_)
    refine ji_callVi (pc := 11) 53 [l1] ([]) oX11_sizeOf wlX11_117 wmX11_sizeOf rfl rfl (Nat.le_of_ble_eq_true rfl) (jRaC (jRc3 rfl) (jRaC r5 jRa0)) rfl jcl_53 rfl (Nat.le_of_ble_eq_true rfl) hF dX11_distance_11 (fun x6 s7 r_x6 hF => ?_)
    refine jg_bipush (pc := 14) rfl dX11_distance_14 ?_
    refine ji_icmp_ge 22 (pc := 16) r_x6 (jRc rfl) hF dX11_distance_16 rfl (fun hF => ?_) (fun hF => ?_)
    · refine ji_aload_n (n := 0) (pc := 22) 53 rfl rfl rfl dX11_distance_22 (fun r8 => ?_)
      refine ji_iload_n (n := 1) (pc := 23) l1 rfl rfl rfl dX11_distance_23 (fun r9 => ?_)
      refine ji_callVv (pc := 24) 53 [l1] ([]) oX11_look wlX11_188 wmX11_look rfl rfl (Nat.le_of_ble_eq_true rfl) (jRaC (jRc3 rfl) (jRaC r9 jRa0)) rfl jcl_53 rfl (Nat.le_of_ble_eq_true rfl) hF dX11_distance_24 (fun x10 s11 hF => ?_)
      refine ji_aload_n (n := 0) (pc := 27) 53 rfl rfl rfl dX11_distance_27 (fun r12 => ?_)
      refine ji_callVv (pc := 28) 53 [] ([]) oX11_layAll wlX11_223 wmX11_layAll rfl rfl (Nat.le_of_ble_eq_true rfl) (jRaC (jRc3 rfl) jRa0) rfl jcl_53 rfl (Nat.le_of_ble_eq_true rfl) hF dX11_distance_28 (fun x13 s14 hF => ?_)
      refine ji_aload_n (n := 0) (pc := 31) 53 rfl rfl rfl dX11_distance_31 (fun r15 => ?_)
      refine ji_callVi (pc := 32) 53 [] ([]) oX11_lackOf wlX11_226 wmX11_lackOf rfl rfl (Nat.le_of_ble_eq_true rfl) (jRaC (jRc3 rfl) jRa0) rfl jcl_53 rfl (Nat.le_of_ble_eq_true rfl) hF dX11_distance_32 (fun x16 s17 r_x16 hF => ?_)
      refine ji_callSi (pc := 35) [x16] ([]) oX11_distanceOf wlX11_229 wmX11_distanceOf rfl rfl (Nat.le_of_ble_eq_true rfl) (jRaC r_x16 jRa0) rfl rfl (Nat.le_of_ble_eq_true rfl) hF dX11_distance_35 (fun x18 s19 r_x18 hF => ?_)
      exact ji_reti (pc := 38) rfl r_x18 hF dX11_distance_38
    · refine jg_bipush (pc := 19) rfl dX11_distance_19 ?_
      exact ji_reti (pc := 21) rfl (jRc rfl) hF dX11_distance_21
  · refine ji_iconst (pc := 7) dX11_distance_7 ?_
    exact ji_reti (pc := 8) rfl (jRc rfl) hF dX11_distance_8
def bX11_layHelps_69 (k76 : Int → jMem → jO) (l1 t1 t2 : Int) (s0 : jMem) : jO :=
jGd (0 ≤ t2 ∧ t2 ≤ 1) <| jGd ((0 : Int) ≤ t1 ∧ t1 < jzk 75) <| jLet (jU s0 75 t1 t2) fun s2 =>
jBd (fX11_change l1 (-1) s2) fun x5 s6 =>
k76 l1 s6
def bX11_layHelps_76 (k10 : Int → jMem → jO) (l1 : Int) (s0 : jMem) : jO :=
jLet (j32 (l1 + 1)) fun x1 =>
k10 x1 s0
def bX11_layHelps_10 (rec : Int → jMem → jO) (l1 : Int) (s0 : jMem) : jO :=
if 34 ≤ l1 then (
jRet 0 s0)
else (
jGd ((0 : Int) ≤ l1 ∧ l1 < jzk 75) <| jLet (jU s0 75 l1 0) fun s4 =>
jGd ((0 : Int) ≤ l1 ∧ l1 < jik 68) <| jLet (s4 68 l1) fun x7 =>
jGd ((0 : Int) ≤ l1 ∧ l1 < jik 69) <| jLet (s4 69 l1) fun x10 =>
jLet (j32 (x7 + x10)) fun x11 =>
if 4 ≤ x11 then (
bX11_layHelps_76 rec l1 s4)
else (
jBd (fX11_change l1 1 s4) fun x14 s15 =>
jBd (fX11_lackOf s15) fun x19 s20 =>
jLet (s20 53 27) fun x22 =>
jLet (j32 (x22 - 1)) fun x23 =>
if x19 = x23 then (
bX11_layHelps_69 (bX11_layHelps_76 rec) l1 l1 1 s20)
else (
bX11_layHelps_69 (bX11_layHelps_76 rec) l1 l1 0 s20)))
def fX11_layHelps (s0 : jMem) : jO :=
jBd (fX11_lackOf s0) fun x3 s4 =>
jLet (jU s4 53 27 x3) fun s5 =>
jIt (fun _ _ => none) (bX11_layHelps_10) 1000 0 s5
def gX11_layHelps (vs : List Int) (s : jMem) : jO := match vs with
  | [a0] => jGd (a0 = 53) <| fX11_layHelps s
  | _ => none
set_option maxRecDepth 100000 in
set_option maxHeartbeats 4000000 in
theorem obX11_layHelps_69 {E : jEnv} {Rr : Int → jMem → Prop} {k76 : Int → jMem → jO} (hk76 : ∀ (l1 : Int) (s : jMem), jHo Rr (k76 l1 s) → jGo E MX11_layHelps 4 Rr [3, 1] 76 [53, l1] ([]) s) : ∀ (l1 t1 t2 : Int) (s : jMem), jR 1 t1 → jR 1 t2 → jHo Rr (bX11_layHelps_69 k76 l1 t1 t2 s) → jGo E MX11_layHelps 4 Rr [3, 1] 69 [53, l1] (jV E 1 t2 :: jV E 1 t1 :: jV E 3 75 :: []) s := by
  intro l1 t1 t2 s0 r_t1 r_t2 hF
  unfold bX11_layHelps_69 at hF
  obtain ⟨h1, hF⟩ := jHo_as hF
  refine ji_zastore (pc := 69) (jRc3 rfl) r_t1 h1 hF dX11_layHelps_69 (fun s2 hF => ?_)
  refine ji_aload_n (n := 0) (pc := 70) 53 rfl rfl rfl dX11_layHelps_70 (fun r3 => ?_)
  refine ji_iload_n (n := 1) (pc := 71) l1 rfl rfl rfl dX11_layHelps_71 (fun r4 => ?_)
  refine ji_iconst (pc := 72) dX11_layHelps_72 ?_
  refine ji_callVv (pc := 73) 53 [l1, (-1)] ([]) oX11_change wlX11_235 wmX11_change rfl rfl (Nat.le_of_ble_eq_true rfl) (jRaC (jRc3 rfl) (jRaC r4 (jRaC (jRc rfl) jRa0))) rfl jcl_53 rfl (Nat.le_of_ble_eq_true rfl) hF dX11_layHelps_73 (fun x5 s6 hF => ?_)
  refine jg_norm [3, 1] [53, l1] rfl rfl ?_
  exact hk76 _ _ hF
set_option maxRecDepth 100000 in
set_option maxHeartbeats 4000000 in
theorem obX11_layHelps_76 {E : jEnv} {Rr : Int → jMem → Prop} {k10 : Int → jMem → jO} (hk10 : ∀ (l1 : Int) (s : jMem), jHo Rr (k10 l1 s) → jGo E MX11_layHelps 4 Rr [3, 1] 10 [53, l1] ([]) s) : ∀ (l1 : Int) (s : jMem), jHo Rr (bX11_layHelps_76 k10 l1 s) → jGo E MX11_layHelps 4 Rr [3, 1] 76 [53, l1] ([]) s := by
  intro l1 s0 hF
  unfold bX11_layHelps_76 at hF
  refine ji_iinc (pc := 76) l1 (fun w => [53, w]) rfl rfl rfl (fun _ => rfl) hF dX11_layHelps_76 (fun x1 r_x1 hF => ?_)
  refine jg_goto (pc := 79) 10 dX11_layHelps_79 rfl ?_
  refine jg_norm [3, 1] [53, x1] rfl rfl ?_
  exact hk10 _ _ hF
set_option maxRecDepth 100000 in
set_option maxHeartbeats 4000000 in
theorem obX11_layHelps_10 {E : jEnv} {Rr : Int → jMem → Prop} {rec : Int → jMem → jO} (hrec : ∀ (l1 : Int) (s : jMem), jHo Rr (rec l1 s) → jGo E MX11_layHelps 4 Rr [3, 1] 10 [53, l1] ([]) s) : ∀ (l1 : Int) (s : jMem), jHo Rr (bX11_layHelps_10 rec l1 s) → jGo E MX11_layHelps 4 Rr [3, 1] 10 [53, l1] ([]) s := by
  intro l1 s0 hF
  unfold bX11_layHelps_10 at hF
  refine ji_iload_n (n := 1) (pc := 10) l1 rfl rfl rfl dX11_layHelps_10 (fun r1 => ?_)
  refine jg_bipush (pc := 11) rfl dX11_layHelps_11 ?_
  refine ji_icmp_ge 82 (pc := 13) r1 (jRc rfl) hF dX11_layHelps_13 rfl (fun hF => ?_) (fun hF => ?_)
  · exact ji_retv (pc := 82) rfl hF dX11_layHelps_82
  · refine ji_aload_n (n := 0) (pc := 16) 53 rfl rfl rfl dX11_layHelps_16 (fun r2 => ?_)
    refine ji_getr (pc := 17) 75 wfX11_77 (jRc3 rfl) jcl_53 jrf_53_26 dX11_layHelps_17 ?_
    refine ji_iload_n (n := 1) (pc := 20) l1 rfl rfl rfl dX11_layHelps_20 (fun r3 => ?_)
    refine ji_iconst (pc := 21) dX11_layHelps_21 ?_
    refine ji_zastore (pc := 22) (jRc3 rfl) r3 (jRc5 rfl) hF dX11_layHelps_22 (fun s4 hF => ?_)
    refine ji_aload_n (n := 0) (pc := 23) 53 rfl rfl rfl dX11_layHelps_23 (fun r5 => ?_)
    refine ji_getr (pc := 24) 68 wfX11_56 (jRc3 rfl) jcl_53 jrf_53_18 dX11_layHelps_24 ?_
    refine ji_iload_n (n := 1) (pc := 27) l1 rfl rfl rfl dX11_layHelps_27 (fun r6 => ?_)
    refine ji_iaload (pc := 28) (jRc3 rfl) r6 hF dX11_layHelps_28 (fun x7 r_x7 hF => ?_)
    refine ji_aload_n (n := 0) (pc := 29) 53 rfl rfl rfl dX11_layHelps_29 (fun r8 => ?_)
    refine ji_getr (pc := 30) 69 wfX11_59 (jRc3 rfl) jcl_53 jrf_53_19 dX11_layHelps_30 ?_
    refine ji_iload_n (n := 1) (pc := 33) l1 rfl rfl rfl dX11_layHelps_33 (fun r9 => ?_)
    refine ji_iaload (pc := 34) (jRc3 rfl) r9 hF dX11_layHelps_34 (fun x10 r_x10 hF => ?_)
    refine ji_iadd (pc := 35)  hF dX11_layHelps_35 (fun x11 r_x11 hF => ?_)
    refine ji_iconst (pc := 36) dX11_layHelps_36 ?_
    refine ji_icmp_ge 76 (pc := 37) r_x11 (jRc rfl) hF dX11_layHelps_37 rfl (fun hF => ?_) (fun hF => ?_)
    · refine jg_norm [3, 1] [53, l1] rfl rfl ?_
      exact obX11_layHelps_76 hrec _ _ hF
    · refine ji_aload_n (n := 0) (pc := 40) 53 rfl rfl rfl dX11_layHelps_40 (fun r12 => ?_)
      refine ji_iload_n (n := 1) (pc := 41) l1 rfl rfl rfl dX11_layHelps_41 (fun r13 => ?_)
      refine ji_iconst (pc := 42) dX11_layHelps_42 ?_
      refine ji_callVv (pc := 43) 53 [l1, 1] ([]) oX11_change wlX11_235 wmX11_change rfl rfl (Nat.le_of_ble_eq_true rfl) (jRaC (jRc3 rfl) (jRaC r13 (jRaC (jRc rfl) jRa0))) rfl jcl_53 rfl (Nat.le_of_ble_eq_true rfl) hF dX11_layHelps_43 (fun x14 s15 hF => ?_)
      refine ji_aload_n (n := 0) (pc := 46) 53 rfl rfl rfl dX11_layHelps_46 (fun r16 => ?_)
      refine ji_getr (pc := 47) 75 wfX11_77 (jRc3 rfl) jcl_53 jrf_53_26 dX11_layHelps_47 ?_
      refine ji_iload_n (n := 1) (pc := 50) l1 rfl rfl rfl dX11_layHelps_50 (fun r17 => ?_)
      refine ji_aload_n (n := 0) (pc := 51) 53 rfl rfl rfl dX11_layHelps_51 (fun r18 => ?_)
      refine ji_callVi (pc := 52) 53 [] (jV E 1 l1 :: jV E 3 75 :: []) oX11_lackOf wlX11_226 wmX11_lackOf rfl rfl (Nat.le_of_ble_eq_true rfl) (jRaC (jRc3 rfl) jRa0) rfl jcl_53 rfl (Nat.le_of_ble_eq_true rfl) hF dX11_layHelps_52 (fun x19 s20 r_x19 hF => ?_)
      refine ji_aload_n (n := 0) (pc := 55) 53 rfl rfl rfl dX11_layHelps_55 (fun r21 => ?_)
      refine ji_getfi (pc := 56) wfX11_232 (jRc3 rfl) jcl_53 hF dX11_layHelps_56 (fun x22 r_x22 hF => ?_)
      refine ji_iconst (pc := 59) dX11_layHelps_59 ?_
      refine ji_isub (pc := 60)  hF dX11_layHelps_60 (fun x23 r_x23 hF => ?_)
      refine ji_icmp_ne 68 (pc := 61) r_x19 r_x23 hF dX11_layHelps_61 rfl (fun hF => ?_) (fun hF => ?_)
      · refine ji_iconst (pc := 68) dX11_layHelps_68 ?_
        refine jg_norm [3, 1] [53, l1] rfl rfl ?_
        exact obX11_layHelps_69 (obX11_layHelps_76 hrec) _ _ _ _ r17 (jRc rfl) hF
      · refine ji_iconst (pc := 64) dX11_layHelps_64 ?_
        refine jg_goto (pc := 65) 69 dX11_layHelps_65 rfl ?_
        refine jg_norm [3, 1] [53, l1] rfl rfl ?_
        exact obX11_layHelps_69 (obX11_layHelps_76 hrec) _ _ _ _ r17 (jRc rfl) hF
theorem obX11_layHelps_10W {E : jEnv} {Rr : Int → jMem → Prop} : ∀ n : Nat, ∀ (l1 : Int) (s : jMem), jHo Rr (jIt (fun _ _ => none) (bX11_layHelps_10) n l1 s) → jGo E MX11_layHelps 4 Rr [3, 1] 10 [53, l1] ([]) s := by
  intro n
  induction n with
  | zero => intro l1 s hF; exact jHo_none hF
  | succ n ih => exact obX11_layHelps_10 ih

set_option maxRecDepth 100000 in
set_option maxHeartbeats 4000000 in
theorem oX11_layHelps : jOk MX11_layHelps [3] 4 (jFn gX11_layHelps) := by
  refine jOk_fn (by decide +kernel) (Nat.le_of_ble_eq_true rfl) (by decide +kernel) (.inl rfl) ?_
  intro E vs s0 Rr hF ha
  obtain ⟨l0, t0, rfl, r_l0, ha⟩ := jRa_ci ha
  obtain rfl := jRa_ni ha
  replace hF : jHo Rr (jGd (l0 = 53) <| fX11_layHelps s0) := hF
  have hG := jHo_as hF
  clear hF
  obtain ⟨rfl, hF⟩ := hG
  refine jg_norm [3, 0] [53, 0] rfl rfl ?_
  unfold fX11_layHelps at hF
  refine ji_aload_n (n := 0) (pc := 0) 53 rfl rfl rfl dX11_layHelps_0 (fun r1 => ?_)
  refine ji_aload_n (n := 0) (pc := 1) 53 rfl rfl rfl dX11_layHelps_1 (fun r2 => ?_)
  refine ji_callVi (pc := 2) 53 [] (jV E 3 53 :: []) oX11_lackOf wlX11_226 wmX11_lackOf rfl rfl (Nat.le_of_ble_eq_true rfl) (jRaC (jRc3 rfl) jRa0) rfl jcl_53 rfl (Nat.le_of_ble_eq_true rfl) hF dX11_layHelps_2 (fun x3 s4 r_x3 hF => ?_)
  refine ji_putfi (pc := 5) wpX11_232 (jRc3 rfl) jcl_53 r_x3 hF dX11_layHelps_5 (fun s5 hF => ?_)
  refine ji_iconst (pc := 8) dX11_layHelps_8 ?_
  refine ji_istore_n (n := 1) (pc := 9) [3, 1] [53, 0] rfl (jRc rfl) (Nat.le_of_ble_eq_true rfl) rfl rfl dX11_layHelps_9 ?_
  refine jg_norm [3, 1] [53, 0] rfl rfl ?_
  exact obX11_layHelps_10W 1000 _ _ hF
def bX11_helpAt_28 (k4 : Int → Int → jMem → jO) (l2 l3 : Int) (s0 : jMem) : jO :=
jLet (j32 (l3 + 1)) fun x1 =>
k4 l2 x1 s0
def bX11_helpAt_4 (rec : Int → Int → jMem → jO) (l2 l3 : Int) (s0 : jMem) : jO :=
if 34 ≤ l3 then (
jRet (-3) s0)
else (
jGd ((0 : Int) ≤ l3 ∧ l3 < jzk 75) <| jLet (s0 75 l3) fun x4 =>
if x4 = 0 then (
bX11_helpAt_28 rec l2 l3 s0)
else (
if l2 = 0 then (
jRet l3 s0)
else (
jLet (j32 (l2 + (-1))) fun x6 =>
bX11_helpAt_28 rec x6 l3 s0)))
def fX11_helpAt (l1 : Int) (s0 : jMem) : jO :=
jIt (fun _ _ _ => none) (bX11_helpAt_4) 1000 l1 0 s0
def gX11_helpAt (vs : List Int) (s : jMem) : jO := match vs with
  | [a0, a1] => jGd (a0 = 53) <| fX11_helpAt a1 s
  | _ => none
set_option maxRecDepth 100000 in
set_option maxHeartbeats 4000000 in
theorem obX11_helpAt_28 {E : jEnv} {Rr : Int → jMem → Prop} {k4 : Int → Int → jMem → jO} (hk4 : ∀ (l2 l3 : Int) (s : jMem), jHo Rr (k4 l2 l3 s) → jGo E MX11_helpAt 0 Rr [3, 0, 1, 1] 4 [53, 0, l2, l3] ([]) s) : ∀ (l2 l3 : Int) (s : jMem), jHo Rr (bX11_helpAt_28 k4 l2 l3 s) → jGo E MX11_helpAt 0 Rr [3, 0, 1, 1] 28 [53, 0, l2, l3] ([]) s := by
  intro l2 l3 s0 hF
  unfold bX11_helpAt_28 at hF
  refine ji_iinc (pc := 28) l3 (fun w => [53, 0, l2, w]) rfl rfl rfl (fun _ => rfl) hF dX11_helpAt_28 (fun x1 r_x1 hF => ?_)
  refine jg_goto (pc := 31) 4 dX11_helpAt_31 rfl ?_
  refine jg_norm [3, 0, 1, 1] [53, 0, l2, x1] rfl rfl ?_
  exact hk4 _ _ _ hF
set_option maxRecDepth 100000 in
set_option maxHeartbeats 4000000 in
theorem obX11_helpAt_4 {E : jEnv} {Rr : Int → jMem → Prop} {rec : Int → Int → jMem → jO} (hrec : ∀ (l2 l3 : Int) (s : jMem), jHo Rr (rec l2 l3 s) → jGo E MX11_helpAt 0 Rr [3, 0, 1, 1] 4 [53, 0, l2, l3] ([]) s) : ∀ (l2 l3 : Int) (s : jMem), jHo Rr (bX11_helpAt_4 rec l2 l3 s) → jGo E MX11_helpAt 0 Rr [3, 0, 1, 1] 4 [53, 0, l2, l3] ([]) s := by
  intro l2 l3 s0 hF
  unfold bX11_helpAt_4 at hF
  refine ji_iload_n (n := 3) (pc := 4) l3 rfl rfl rfl dX11_helpAt_4 (fun r1 => ?_)
  refine jg_bipush (pc := 5) rfl dX11_helpAt_5 ?_
  refine ji_icmp_ge 34 (pc := 7) r1 (jRc rfl) hF dX11_helpAt_7 rfl (fun hF => ?_) (fun hF => ?_)
  · refine jg_bipush (pc := 34) rfl dX11_helpAt_34 ?_
    exact ji_reti (pc := 36) rfl (jRc rfl) hF dX11_helpAt_36
  · refine ji_aload_n (n := 0) (pc := 10) 53 rfl rfl rfl dX11_helpAt_10 (fun r2 => ?_)
    refine ji_getr (pc := 11) 75 wfX11_77 (jRc3 rfl) jcl_53 jrf_53_26 dX11_helpAt_11 ?_
    refine ji_iload_n (n := 3) (pc := 14) l3 rfl rfl rfl dX11_helpAt_14 (fun r3 => ?_)
    refine ji_zaload (pc := 15) (jRc3 rfl) r3 hF dX11_helpAt_15 (fun x4 r_x4 hF => ?_)
    refine ji_if_eq 28 (pc := 16) (jR51 r_x4) hF dX11_helpAt_16 rfl (fun hF => ?_) (fun hF => ?_)
    · refine jg_norm [3, 0, 1, 1] [53, 0, l2, l3] rfl rfl ?_
      exact obX11_helpAt_28 hrec _ _ _ hF
    · refine ji_iload_n (n := 2) (pc := 19) l2 rfl rfl rfl dX11_helpAt_19 (fun r5 => ?_)
      refine ji_if_ne 25 (pc := 20) r5 hF dX11_helpAt_20 rfl (fun hF => ?_) (fun hF => ?_)
      · refine ji_iinc (pc := 25) l2 (fun w => [53, 0, w, l3]) rfl rfl rfl (fun _ => rfl) hF dX11_helpAt_25 (fun x6 r_x6 hF => ?_)
        refine jg_norm [3, 0, 1, 1] [53, 0, x6, l3] rfl rfl ?_
        exact obX11_helpAt_28 hrec _ _ _ hF
      · refine ji_iload_n (n := 3) (pc := 23) l3 rfl rfl rfl dX11_helpAt_23 (fun r7 => ?_)
        exact ji_reti (pc := 24) rfl r7 hF dX11_helpAt_24
theorem obX11_helpAt_4W {E : jEnv} {Rr : Int → jMem → Prop} : ∀ n : Nat, ∀ (l2 l3 : Int) (s : jMem), jHo Rr (jIt (fun _ _ _ => none) (bX11_helpAt_4) n l2 l3 s) → jGo E MX11_helpAt 0 Rr [3, 0, 1, 1] 4 [53, 0, l2, l3] ([]) s := by
  intro n
  induction n with
  | zero => intro l2 l3 s hF; exact jHo_none hF
  | succ n ih => exact obX11_helpAt_4 ih

set_option maxRecDepth 100000 in
set_option maxHeartbeats 4000000 in
theorem oX11_helpAt : jOk MX11_helpAt [3, 1] 0 (jFn gX11_helpAt) := by
  refine jOk_fn (by decide +kernel) (Nat.le_of_ble_eq_true rfl) (by decide +kernel) (.inr (.inl rfl)) ?_
  intro E vs s0 Rr hF ha
  obtain ⟨l0, t0, rfl, r_l0, ha⟩ := jRa_ci ha
  obtain ⟨l1, t1, rfl, r_l1, ha⟩ := jRa_ci ha
  obtain rfl := jRa_ni ha
  replace hF : jHo Rr (jGd (l0 = 53) <| fX11_helpAt l1 s0) := hF
  have hG := jHo_as hF
  clear hF
  obtain ⟨rfl, hF⟩ := hG
  refine jg_norm [3, 1, 0, 0] [53, l1, 0, 0] rfl rfl ?_
  unfold fX11_helpAt at hF
  refine ji_iload_n (n := 1) (pc := 0) l1 rfl rfl rfl dX11_helpAt_0 (fun r1 => ?_)
  refine ji_istore_n (n := 2) (pc := 1) [3, 1, 1, 0] [53, l1, l1, 0] rfl r1 (Nat.le_of_ble_eq_true rfl) rfl rfl dX11_helpAt_1 ?_
  refine ji_iconst (pc := 2) dX11_helpAt_2 ?_
  refine ji_istore_n (n := 3) (pc := 3) [3, 1, 1, 1] [53, l1, l1, 0] rfl (jRc rfl) (Nat.le_of_ble_eq_true rfl) rfl rfl dX11_helpAt_3 ?_
  refine jg_norm [3, 0, 1, 1] [53, 0, l1, 0] rfl rfl ?_
  exact obX11_helpAt_4W 1000 _ _ _ hF
def fX11_helped (l1 l2 l3 : Int) (s0 : jMem) : jO :=
jBd (fX11_isHand l1 s0) fun x2 s3 =>
if x2 = 0 then (
jRet (-1) s3)
else (
if 0 ≤ l2 then (
jBd (fX11_sizeOf l1 s3) fun x7 s8 =>
if x7 = 13 then (
jBd (fX11_look l1 s8) fun x11 s12 =>
jBd (fX11_layAll s12) fun x14 s15 =>
jBd (fX11_layHelps s15) fun x17 s18 =>
if l3 = 0 then (
jBd (fX11_helpAt l2 s18) fun x22 s23 =>
jRet x22 s23)
else (
jLet (s18 53 27) fun x25 =>
if x25 = 1 then (
jBd (fX11_helpAt l2 s18) fun x28 s29 =>
jRet x28 s29)
else (
jRet (-3) s18)))
else (
jRet (-2) s8))
else (
jRet (-1) s3))
def gX11_helped (vs : List Int) (s : jMem) : jO := match vs with
  | [a0, a1, a2, a3] => jGd (a0 = 53) <| fX11_helped a1 a2 a3 s
  | _ => none
set_option maxRecDepth 100000 in
set_option maxHeartbeats 4000000 in
theorem oX11_helped : jOk MX11_helped [3, 1, 1, 1] 5 (jFn gX11_helped) := by
  refine jOk_fn (by decide +kernel) (Nat.le_of_ble_eq_true rfl) (by decide +kernel) (.inr (.inl rfl)) ?_
  intro E vs s0 Rr hF ha
  obtain ⟨l0, t0, rfl, r_l0, ha⟩ := jRa_ci ha
  obtain ⟨l1, t1, rfl, r_l1, ha⟩ := jRa_ci ha
  obtain ⟨l2, t2, rfl, r_l2, ha⟩ := jRa_ci ha
  obtain ⟨l3, t3, rfl, r_l3, ha⟩ := jRa_ci ha
  obtain rfl := jRa_ni ha
  replace hF : jHo Rr (jGd (l0 = 53) <| fX11_helped l1 l2 l3 s0) := hF
  have hG := jHo_as hF
  clear hF
  obtain ⟨rfl, hF⟩ := hG
  refine jg_norm [3, 1, 1, 1] [53, l1, l2, l3] rfl rfl ?_
  unfold fX11_helped at hF
  refine ji_iload_n (n := 1) (pc := 0) l1 rfl rfl rfl dX11_helped_0 (fun r1 => ?_)
  refine ji_callSz (pc := 1) [l1] ([]) oX11_isHand wlX11_114 wmX11_isHand rfl rfl (Nat.le_of_ble_eq_true rfl) (jRaC r1 jRa0) rfl rfl (Nat.le_of_ble_eq_true rfl) hF dX11_helped_1 (fun x2 s3 r_x2 hF => ?_)
  refine ji_if_eq 11 (pc := 4) (jR51 r_x2) hF dX11_helped_4 rfl (fun hF => ?_) (fun hF => ?_)
  · refine ji_iconst (pc := 11) dX11_helped_11 ?_
    exact ji_reti (pc := 12) rfl (jRc rfl) hF dX11_helped_12
  · refine ji_iload_n (n := 2) (pc := 7) l2 rfl rfl rfl dX11_helped_7 (fun r4 => ?_)
    refine ji_if_ge 13 (pc := 8) r4 hF dX11_helped_8 rfl (fun hF => ?_) (fun hF => ?_)
    · refine ji_aload_n (n := 0) (pc := 13) 53 rfl rfl rfl dX11_helped_13 (fun r5 => ?_)
      refine ji_iload_n (n := 1) (pc := 14) l1 rfl rfl rfl dX11_helped_14 (fun r6 => ?_)
      refine ji_callVi (pc := 15) 53 [l1] ([]) oX11_sizeOf wlX11_117 wmX11_sizeOf rfl rfl (Nat.le_of_ble_eq_true rfl) (jRaC (jRc3 rfl) (jRaC r6 jRa0)) rfl jcl_53 rfl (Nat.le_of_ble_eq_true rfl) hF dX11_helped_15 (fun x7 s8 r_x7 hF => ?_)
      refine jg_bipush (pc := 18) rfl dX11_helped_18 ?_
      refine ji_icmp_eq 26 (pc := 20) r_x7 (jRc rfl) hF dX11_helped_20 rfl (fun hF => ?_) (fun hF => ?_)
      · refine ji_aload_n (n := 0) (pc := 26) 53 rfl rfl rfl dX11_helped_26 (fun r9 => ?_)
        refine ji_iload_n (n := 1) (pc := 27) l1 rfl rfl rfl dX11_helped_27 (fun r10 => ?_)
        refine ji_callVv (pc := 28) 53 [l1] ([]) oX11_look wlX11_188 wmX11_look rfl rfl (Nat.le_of_ble_eq_true rfl) (jRaC (jRc3 rfl) (jRaC r10 jRa0)) rfl jcl_53 rfl (Nat.le_of_ble_eq_true rfl) hF dX11_helped_28 (fun x11 s12 hF => ?_)
        refine ji_aload_n (n := 0) (pc := 31) 53 rfl rfl rfl dX11_helped_31 (fun r13 => ?_)
        refine ji_callVv (pc := 32) 53 [] ([]) oX11_layAll wlX11_223 wmX11_layAll rfl rfl (Nat.le_of_ble_eq_true rfl) (jRaC (jRc3 rfl) jRa0) rfl jcl_53 rfl (Nat.le_of_ble_eq_true rfl) hF dX11_helped_32 (fun x14 s15 hF => ?_)
        refine ji_aload_n (n := 0) (pc := 35) 53 rfl rfl rfl dX11_helped_35 (fun r16 => ?_)
        refine ji_callVv (pc := 36) 53 [] ([]) oX11_layHelps wlX11_238 wmX11_layHelps rfl rfl (Nat.le_of_ble_eq_true rfl) (jRaC (jRc3 rfl) jRa0) rfl jcl_53 rfl (Nat.le_of_ble_eq_true rfl) hF dX11_helped_36 (fun x17 s18 hF => ?_)
        refine ji_iload_n (n := 3) (pc := 39) l3 rfl rfl rfl dX11_helped_39 (fun r19 => ?_)
        refine ji_if_eq 56 (pc := 40) r19 hF dX11_helped_40 rfl (fun hF => ?_) (fun hF => ?_)
        · refine ji_aload_n (n := 0) (pc := 56) 53 rfl rfl rfl dX11_helped_56 (fun r20 => ?_)
          refine ji_iload_n (n := 2) (pc := 57) l2 rfl rfl rfl dX11_helped_57 (fun r21 => ?_)
          refine ji_callVi (pc := 58) 53 [l2] ([]) oX11_helpAt wlX11_241 wmX11_helpAt rfl rfl (Nat.le_of_ble_eq_true rfl) (jRaC (jRc3 rfl) (jRaC r21 jRa0)) rfl jcl_53 rfl (Nat.le_of_ble_eq_true rfl) hF dX11_helped_58 (fun x22 s23 r_x22 hF => ?_)
          exact ji_reti (pc := 61) rfl r_x22 hF dX11_helped_61
        · refine ji_aload_n (n := 0) (pc := 43) 53 rfl rfl rfl dX11_helped_43 (fun r24 => ?_)
          refine ji_getfi (pc := 44) wfX11_232 (jRc3 rfl) jcl_53 hF dX11_helped_44 (fun x25 r_x25 hF => ?_)
          refine ji_iconst (pc := 47) dX11_helped_47 ?_
          refine ji_icmp_eq 56 (pc := 48) r_x25 (jRc rfl) hF dX11_helped_48 rfl (fun hF => ?_) (fun hF => ?_)
          · refine ji_aload_n (n := 0) (pc := 56) 53 rfl rfl rfl dX11_helped_56 (fun r26 => ?_)
            refine ji_iload_n (n := 2) (pc := 57) l2 rfl rfl rfl dX11_helped_57 (fun r27 => ?_)
            refine ji_callVi (pc := 58) 53 [l2] ([]) oX11_helpAt wlX11_241 wmX11_helpAt rfl rfl (Nat.le_of_ble_eq_true rfl) (jRaC (jRc3 rfl) (jRaC r27 jRa0)) rfl jcl_53 rfl (Nat.le_of_ble_eq_true rfl) hF dX11_helped_58 (fun x28 s29 r_x28 hF => ?_)
            exact ji_reti (pc := 61) rfl r_x28 hF dX11_helped_61
          · refine jg_bipush (pc := 51) rfl dX11_helped_51 ?_
            refine jg_goto (pc := 53) 61 dX11_helped_53 rfl ?_
            exact ji_reti (pc := 61) rfl (jRc rfl) hF dX11_helped_61
      · refine jg_bipush (pc := 23) rfl dX11_helped_23 ?_
        exact ji_reti (pc := 25) rfl (jRc rfl) hF dX11_helped_25
    · refine ji_iconst (pc := 11) dX11_helped_11 ?_
      exact ji_reti (pc := 12) rfl (jRc rfl) hF dX11_helped_12
def fX11_waits (l1 l2 : Int) (s0 : jMem) : jO :=
jBd (fX11_helped l1 l2 1 s0) fun x4 s5 =>
jRet x4 s5
def gX11_waits (vs : List Int) (s : jMem) : jO := match vs with
  | [a0, a1, a2] => jGd (a0 = 53) <| fX11_waits a1 a2 s
  | _ => none
set_option maxRecDepth 100000 in
set_option maxHeartbeats 4000000 in
theorem oX11_waits : jOk MX11_waits [3, 1, 1] 6 (jFn gX11_waits) := by
  refine jOk_fn (by decide +kernel) (Nat.le_of_ble_eq_true rfl) (by decide +kernel) (.inr (.inl rfl)) ?_
  intro E vs s0 Rr hF ha
  obtain ⟨l0, t0, rfl, r_l0, ha⟩ := jRa_ci ha
  obtain ⟨l1, t1, rfl, r_l1, ha⟩ := jRa_ci ha
  obtain ⟨l2, t2, rfl, r_l2, ha⟩ := jRa_ci ha
  obtain rfl := jRa_ni ha
  replace hF : jHo Rr (jGd (l0 = 53) <| fX11_waits l1 l2 s0) := hF
  have hG := jHo_as hF
  clear hF
  obtain ⟨rfl, hF⟩ := hG
  refine jg_norm [3, 1, 1] [53, l1, l2] rfl rfl ?_
  unfold fX11_waits at hF
  refine ji_aload_n (n := 0) (pc := 0) 53 rfl rfl rfl dX11_waits_0 (fun r1 => ?_)
  refine ji_iload_n (n := 1) (pc := 1) l1 rfl rfl rfl dX11_waits_1 (fun r2 => ?_)
  refine ji_iload_n (n := 2) (pc := 2) l2 rfl rfl rfl dX11_waits_2 (fun r3 => ?_)
  refine ji_iconst (pc := 3) dX11_waits_3 ?_
  refine ji_callVi (pc := 4) 53 [l1, l2, 1] ([]) oX11_helped wlX11_244 wmX11_helped rfl rfl (Nat.le_of_ble_eq_true rfl) (jRaC (jRc3 rfl) (jRaC r2 (jRaC r3 (jRaC (jRc rfl) jRa0)))) rfl jcl_53 rfl (Nat.le_of_ble_eq_true rfl) hF dX11_waits_4 (fun x4 s5 r_x4 hF => ?_)
  exact ji_reti (pc := 7) rfl r_x4 hF dX11_waits_7
def fX11_helps (l1 l2 : Int) (s0 : jMem) : jO :=
jBd (fX11_helped l1 l2 0 s0) fun x4 s5 =>
jRet x4 s5
def gX11_helps (vs : List Int) (s : jMem) : jO := match vs with
  | [a0, a1, a2] => jGd (a0 = 53) <| fX11_helps a1 a2 s
  | _ => none
set_option maxRecDepth 100000 in
set_option maxHeartbeats 4000000 in
theorem oX11_helps : jOk MX11_helps [3, 1, 1] 6 (jFn gX11_helps) := by
  refine jOk_fn (by decide +kernel) (Nat.le_of_ble_eq_true rfl) (by decide +kernel) (.inr (.inl rfl)) ?_
  intro E vs s0 Rr hF ha
  obtain ⟨l0, t0, rfl, r_l0, ha⟩ := jRa_ci ha
  obtain ⟨l1, t1, rfl, r_l1, ha⟩ := jRa_ci ha
  obtain ⟨l2, t2, rfl, r_l2, ha⟩ := jRa_ci ha
  obtain rfl := jRa_ni ha
  replace hF : jHo Rr (jGd (l0 = 53) <| fX11_helps l1 l2 s0) := hF
  have hG := jHo_as hF
  clear hF
  obtain ⟨rfl, hF⟩ := hG
  refine jg_norm [3, 1, 1] [53, l1, l2] rfl rfl ?_
  unfold fX11_helps at hF
  refine ji_aload_n (n := 0) (pc := 0) 53 rfl rfl rfl dX11_helps_0 (fun r1 => ?_)
  refine ji_iload_n (n := 1) (pc := 1) l1 rfl rfl rfl dX11_helps_1 (fun r2 => ?_)
  refine ji_iload_n (n := 2) (pc := 2) l2 rfl rfl rfl dX11_helps_2 (fun r3 => ?_)
  refine ji_iconst (pc := 3) dX11_helps_3 ?_
  refine ji_callVi (pc := 4) 53 [l1, l2, 0] ([]) oX11_helped wlX11_244 wmX11_helped rfl rfl (Nat.le_of_ble_eq_true rfl) (jRaC (jRc3 rfl) (jRaC r2 (jRaC r3 (jRaC (jRc rfl) jRa0)))) rfl jcl_53 rfl (Nat.le_of_ble_eq_true rfl) hF dX11_helps_4 (fun x4 s5 r_x4 hF => ?_)
  exact ji_reti (pc := 7) rfl r_x4 hF dX11_helps_7
def bX11_layUnseen_39 (k72 : Int → Int → Int → jMem → jO) (rec : Int → Int → Int → Int → jMem → jO) (l1 l2 l3 l4 : Int) (s0 : jMem) : jO :=
if 4 ≤ l4 then (
k72 l1 l2 l3 s0)
else (
jGd ((0 : Int) ≤ l3 ∧ l3 < jik 76) <| jLet (s0 76 l3) fun x4 =>
jLet (j32 (34 * l4)) fun x7 =>
jLet (j32 (x7 + l3)) fun x9 =>
jGd ((0 : Int) ≤ x9 ∧ x9 < jik 57) <| jLet (s0 57 x9) fun x10 =>
jLet (j32 (x4 - x10)) fun x11 =>
jGd ((0 : Int) ≤ l3 ∧ l3 < jik 76) <| jLet (jU s0 76 l3 x11) fun s12 =>
jLet (j32 (l4 + 1)) fun x13 =>
rec l1 l2 l3 x13 s12)
def bX11_layUnseen_72 (k4 : Int → Int → Int → jMem → jO) (l1 l2 l3 : Int) (s0 : jMem) : jO :=
jGd ((0 : Int) ≤ l3 ∧ l3 < jik 76) <| jLet (s0 76 l3) fun x4 =>
jLet (j32 (l2 + x4)) fun x5 =>
jLet (j32 (l3 + 1)) fun x6 =>
k4 l1 x5 x6 s0
def bX11_layUnseen_4 (rec : Int → Int → Int → jMem → jO) (l1 l2 l3 : Int) (s0 : jMem) : jO :=
if 34 ≤ l3 then (
jRet l2 s0)
else (
jLet (j32 (34 * l1)) fun x7 =>
jLet (j32 (x7 + l3)) fun x9 =>
jGd ((0 : Int) ≤ x9 ∧ x9 < jik 56) <| jLet (s0 56 x9) fun x10 =>
jLet (j32 (4 - x10)) fun x11 =>
jGd ((0 : Int) ≤ l3 ∧ l3 < jik 55) <| jLet (s0 55 l3) fun x14 =>
jLet (j32 (x11 - x14)) fun x15 =>
jGd ((0 : Int) ≤ l3 ∧ l3 < jik 76) <| jLet (jU s0 76 l3 x15) fun s16 =>
jIt (fun _ _ _ _ _ => none) (bX11_layUnseen_39 (bX11_layUnseen_72 rec)) 1000 l1 l2 l3 0 s16)
def fX11_layUnseen (l1 : Int) (s0 : jMem) : jO :=
jIt (fun _ _ _ _ => none) (bX11_layUnseen_4) 1000 l1 0 0 s0
def gX11_layUnseen (vs : List Int) (s : jMem) : jO := match vs with
  | [a0, a1] => jGd (a0 = 53) <| fX11_layUnseen a1 s
  | _ => none
set_option maxRecDepth 100000 in
set_option maxHeartbeats 4000000 in
theorem obX11_layUnseen_39 {E : jEnv} {Rr : Int → jMem → Prop} {k72 : Int → Int → Int → jMem → jO} (hk72 : ∀ (l1 l2 l3 : Int) (s : jMem), jHo Rr (k72 l1 l2 l3 s) → jGo E MX11_layUnseen 0 Rr [3, 1, 1, 1, 0] 72 [53, l1, l2, l3, 0] ([]) s) {rec : Int → Int → Int → Int → jMem → jO} (hrec : ∀ (l1 l2 l3 l4 : Int) (s : jMem), jHo Rr (rec l1 l2 l3 l4 s) → jGo E MX11_layUnseen 0 Rr [3, 1, 1, 1, 1] 39 [53, l1, l2, l3, l4] ([]) s) : ∀ (l1 l2 l3 l4 : Int) (s : jMem), jHo Rr (bX11_layUnseen_39 k72 rec l1 l2 l3 l4 s) → jGo E MX11_layUnseen 0 Rr [3, 1, 1, 1, 1] 39 [53, l1, l2, l3, l4] ([]) s := by
  intro l1 l2 l3 l4 s0 hF
  unfold bX11_layUnseen_39 at hF
  refine ji_iload (pc := 39) l4 rfl rfl dX11_layUnseen_39 (fun r1 => ?_)
  refine ji_iconst (pc := 41) dX11_layUnseen_41 ?_
  refine ji_icmp_ge 72 (pc := 42) r1 (jRc rfl) hF dX11_layUnseen_42 rfl (fun hF => ?_) (fun hF => ?_)
  · refine jg_norm [3, 1, 1, 1, 0] [53, l1, l2, l3, 0] rfl rfl ?_
    exact hk72 _ _ _ _ hF
  · refine ji_aload_n (n := 0) (pc := 45) 53 rfl rfl rfl dX11_layUnseen_45 (fun r2 => ?_)
    refine ji_getr (pc := 46) 76 wfX11_81 (jRc3 rfl) jcl_53 jrf_53_28 dX11_layUnseen_46 ?_
    refine ji_iload_n (n := 3) (pc := 49) l3 rfl rfl rfl dX11_layUnseen_49 (fun r3 => ?_)
    refine jg_dup2 (pc := 50) (by decide) (by decide) dX11_layUnseen_50 ?_
    refine ji_iaload (pc := 51) (jRc3 rfl) r3 hF dX11_layUnseen_51 (fun x4 r_x4 hF => ?_)
    refine ji_aload_n (n := 0) (pc := 52) 53 rfl rfl rfl dX11_layUnseen_52 (fun r5 => ?_)
    refine ji_getr (pc := 53) 57 wfX11_19 (jRc3 rfl) jcl_53 jrf_53_3 dX11_layUnseen_53 ?_
    refine jg_bipush (pc := 56) rfl dX11_layUnseen_56 ?_
    refine ji_iload (pc := 58) l4 rfl rfl dX11_layUnseen_58 (fun r6 => ?_)
    refine ji_imul (pc := 60)  hF dX11_layUnseen_60 (fun x7 r_x7 hF => ?_)
    refine ji_iload_n (n := 3) (pc := 61) l3 rfl rfl rfl dX11_layUnseen_61 (fun r8 => ?_)
    refine ji_iadd (pc := 62)  hF dX11_layUnseen_62 (fun x9 r_x9 hF => ?_)
    refine ji_iaload (pc := 63) (jRc3 rfl) r_x9 hF dX11_layUnseen_63 (fun x10 r_x10 hF => ?_)
    refine ji_isub (pc := 64)  hF dX11_layUnseen_64 (fun x11 r_x11 hF => ?_)
    refine ji_iastore (pc := 65) (jRc3 rfl) r3 r_x11 hF dX11_layUnseen_65 (fun s12 hF => ?_)
    refine ji_iinc (pc := 66) l4 (fun w => [53, l1, l2, l3, w]) rfl rfl rfl (fun _ => rfl) hF dX11_layUnseen_66 (fun x13 r_x13 hF => ?_)
    refine jg_goto (pc := 69) 39 dX11_layUnseen_69 rfl ?_
    refine jg_norm [3, 1, 1, 1, 1] [53, l1, l2, l3, x13] rfl rfl ?_
    exact hrec _ _ _ _ _ hF
theorem obX11_layUnseen_39W {E : jEnv} {Rr : Int → jMem → Prop} {k72 : Int → Int → Int → jMem → jO} (hk72 : ∀ (l1 l2 l3 : Int) (s : jMem), jHo Rr (k72 l1 l2 l3 s) → jGo E MX11_layUnseen 0 Rr [3, 1, 1, 1, 0] 72 [53, l1, l2, l3, 0] ([]) s) : ∀ n : Nat, ∀ (l1 l2 l3 l4 : Int) (s : jMem), jHo Rr (jIt (fun _ _ _ _ _ => none) (bX11_layUnseen_39 k72) n l1 l2 l3 l4 s) → jGo E MX11_layUnseen 0 Rr [3, 1, 1, 1, 1] 39 [53, l1, l2, l3, l4] ([]) s := by
  intro n
  induction n with
  | zero => intro l1 l2 l3 l4 s hF; exact jHo_none hF
  | succ n ih => exact obX11_layUnseen_39 hk72 ih

set_option maxRecDepth 100000 in
set_option maxHeartbeats 4000000 in
theorem obX11_layUnseen_72 {E : jEnv} {Rr : Int → jMem → Prop} {k4 : Int → Int → Int → jMem → jO} (hk4 : ∀ (l1 l2 l3 : Int) (s : jMem), jHo Rr (k4 l1 l2 l3 s) → jGo E MX11_layUnseen 0 Rr [3, 1, 1, 1, 0] 4 [53, l1, l2, l3, 0] ([]) s) : ∀ (l1 l2 l3 : Int) (s : jMem), jHo Rr (bX11_layUnseen_72 k4 l1 l2 l3 s) → jGo E MX11_layUnseen 0 Rr [3, 1, 1, 1, 0] 72 [53, l1, l2, l3, 0] ([]) s := by
  intro l1 l2 l3 s0 hF
  unfold bX11_layUnseen_72 at hF
  refine ji_iload_n (n := 2) (pc := 72) l2 rfl rfl rfl dX11_layUnseen_72 (fun r1 => ?_)
  refine ji_aload_n (n := 0) (pc := 73) 53 rfl rfl rfl dX11_layUnseen_73 (fun r2 => ?_)
  refine ji_getr (pc := 74) 76 wfX11_81 (jRc3 rfl) jcl_53 jrf_53_28 dX11_layUnseen_74 ?_
  refine ji_iload_n (n := 3) (pc := 77) l3 rfl rfl rfl dX11_layUnseen_77 (fun r3 => ?_)
  refine ji_iaload (pc := 78) (jRc3 rfl) r3 hF dX11_layUnseen_78 (fun x4 r_x4 hF => ?_)
  refine ji_iadd (pc := 79)  hF dX11_layUnseen_79 (fun x5 r_x5 hF => ?_)
  refine ji_istore_n (n := 2) (pc := 80) [3, 1, 1, 1, 0] [53, l1, x5, l3, 0] rfl r_x5 (Nat.le_of_ble_eq_true rfl) rfl rfl dX11_layUnseen_80 ?_
  refine ji_iinc (pc := 81) l3 (fun w => [53, l1, x5, w, 0]) rfl rfl rfl (fun _ => rfl) hF dX11_layUnseen_81 (fun x6 r_x6 hF => ?_)
  refine jg_goto (pc := 84) 4 dX11_layUnseen_84 rfl ?_
  refine jg_norm [3, 1, 1, 1, 0] [53, l1, x5, x6, 0] rfl rfl ?_
  exact hk4 _ _ _ _ hF
set_option maxRecDepth 100000 in
set_option maxHeartbeats 4000000 in
theorem obX11_layUnseen_4 {E : jEnv} {Rr : Int → jMem → Prop} {rec : Int → Int → Int → jMem → jO} (hrec : ∀ (l1 l2 l3 : Int) (s : jMem), jHo Rr (rec l1 l2 l3 s) → jGo E MX11_layUnseen 0 Rr [3, 1, 1, 1, 0] 4 [53, l1, l2, l3, 0] ([]) s) : ∀ (l1 l2 l3 : Int) (s : jMem), jHo Rr (bX11_layUnseen_4 rec l1 l2 l3 s) → jGo E MX11_layUnseen 0 Rr [3, 1, 1, 1, 0] 4 [53, l1, l2, l3, 0] ([]) s := by
  intro l1 l2 l3 s0 hF
  unfold bX11_layUnseen_4 at hF
  refine ji_iload_n (n := 3) (pc := 4) l3 rfl rfl rfl dX11_layUnseen_4 (fun r1 => ?_)
  refine jg_bipush (pc := 5) rfl dX11_layUnseen_5 ?_
  refine ji_icmp_ge 87 (pc := 7) r1 (jRc rfl) hF dX11_layUnseen_7 rfl (fun hF => ?_) (fun hF => ?_)
  · refine ji_iload_n (n := 2) (pc := 87) l2 rfl rfl rfl dX11_layUnseen_87 (fun r2 => ?_)
    exact ji_reti (pc := 88) rfl r2 hF dX11_layUnseen_88
  · refine ji_aload_n (n := 0) (pc := 10) 53 rfl rfl rfl dX11_layUnseen_10 (fun r3 => ?_)
    refine ji_getr (pc := 11) 76 wfX11_81 (jRc3 rfl) jcl_53 jrf_53_28 dX11_layUnseen_11 ?_
    refine ji_iload_n (n := 3) (pc := 14) l3 rfl rfl rfl dX11_layUnseen_14 (fun r4 => ?_)
    refine ji_iconst (pc := 15) dX11_layUnseen_15 ?_
    refine ji_aload_n (n := 0) (pc := 16) 53 rfl rfl rfl dX11_layUnseen_16 (fun r5 => ?_)
    refine ji_getr (pc := 17) 56 wfX11_16 (jRc3 rfl) jcl_53 jrf_53_2 dX11_layUnseen_17 ?_
    refine jg_bipush (pc := 20) rfl dX11_layUnseen_20 ?_
    refine ji_iload_n (n := 1) (pc := 22) l1 rfl rfl rfl dX11_layUnseen_22 (fun r6 => ?_)
    refine ji_imul (pc := 23)  hF dX11_layUnseen_23 (fun x7 r_x7 hF => ?_)
    refine ji_iload_n (n := 3) (pc := 24) l3 rfl rfl rfl dX11_layUnseen_24 (fun r8 => ?_)
    refine ji_iadd (pc := 25)  hF dX11_layUnseen_25 (fun x9 r_x9 hF => ?_)
    refine ji_iaload (pc := 26) (jRc3 rfl) r_x9 hF dX11_layUnseen_26 (fun x10 r_x10 hF => ?_)
    refine ji_isub (pc := 27)  hF dX11_layUnseen_27 (fun x11 r_x11 hF => ?_)
    refine ji_aload_n (n := 0) (pc := 28) 53 rfl rfl rfl dX11_layUnseen_28 (fun r12 => ?_)
    refine ji_getr (pc := 29) 55 wfX11_13 (jRc3 rfl) jcl_53 jrf_53_1 dX11_layUnseen_29 ?_
    refine ji_iload_n (n := 3) (pc := 32) l3 rfl rfl rfl dX11_layUnseen_32 (fun r13 => ?_)
    refine ji_iaload (pc := 33) (jRc3 rfl) r13 hF dX11_layUnseen_33 (fun x14 r_x14 hF => ?_)
    refine ji_isub (pc := 34)  hF dX11_layUnseen_34 (fun x15 r_x15 hF => ?_)
    refine ji_iastore (pc := 35) (jRc3 rfl) r4 r_x15 hF dX11_layUnseen_35 (fun s16 hF => ?_)
    refine ji_iconst (pc := 36) dX11_layUnseen_36 ?_
    refine ji_istore (n := 4) (pc := 37) [3, 1, 1, 1, 1] [53, l1, l2, l3, 0] (jRc rfl) (Nat.le_of_ble_eq_true rfl) rfl rfl dX11_layUnseen_37 ?_
    refine jg_norm [3, 1, 1, 1, 1] [53, l1, l2, l3, 0] rfl rfl ?_
    exact obX11_layUnseen_39W (obX11_layUnseen_72 hrec) 1000 _ _ _ _ _ hF
theorem obX11_layUnseen_4W {E : jEnv} {Rr : Int → jMem → Prop} : ∀ n : Nat, ∀ (l1 l2 l3 : Int) (s : jMem), jHo Rr (jIt (fun _ _ _ _ => none) (bX11_layUnseen_4) n l1 l2 l3 s) → jGo E MX11_layUnseen 0 Rr [3, 1, 1, 1, 0] 4 [53, l1, l2, l3, 0] ([]) s := by
  intro n
  induction n with
  | zero => intro l1 l2 l3 s hF; exact jHo_none hF
  | succ n ih => exact obX11_layUnseen_4 ih

set_option maxRecDepth 100000 in
set_option maxHeartbeats 4000000 in
theorem oX11_layUnseen : jOk MX11_layUnseen [3, 1] 0 (jFn gX11_layUnseen) := by
  refine jOk_fn (by decide +kernel) (Nat.le_of_ble_eq_true rfl) (by decide +kernel) (.inr (.inl rfl)) ?_
  intro E vs s0 Rr hF ha
  obtain ⟨l0, t0, rfl, r_l0, ha⟩ := jRa_ci ha
  obtain ⟨l1, t1, rfl, r_l1, ha⟩ := jRa_ci ha
  obtain rfl := jRa_ni ha
  replace hF : jHo Rr (jGd (l0 = 53) <| fX11_layUnseen l1 s0) := hF
  have hG := jHo_as hF
  clear hF
  obtain ⟨rfl, hF⟩ := hG
  refine jg_norm [3, 1, 0, 0, 0] [53, l1, 0, 0, 0] rfl rfl ?_
  unfold fX11_layUnseen at hF
  refine ji_iconst (pc := 0) dX11_layUnseen_0 ?_
  refine ji_istore_n (n := 2) (pc := 1) [3, 1, 1, 0, 0] [53, l1, 0, 0, 0] rfl (jRc rfl) (Nat.le_of_ble_eq_true rfl) rfl rfl dX11_layUnseen_1 ?_
  refine ji_iconst (pc := 2) dX11_layUnseen_2 ?_
  refine ji_istore_n (n := 3) (pc := 3) [3, 1, 1, 1, 0] [53, l1, 0, 0, 0] rfl (jRc rfl) (Nat.le_of_ble_eq_true rfl) rfl rfl dX11_layUnseen_3 ?_
  refine jg_norm [3, 1, 1, 1, 0] [53, l1, 0, 0, 0] rfl rfl ?_
  exact obX11_layUnseen_4W 1000 _ _ _ _ hF
def fX11_against (l1 l2 : Int) (s0 : jMem) : jO :=
jBd (fX11_isHand l1 s0) fun x2 s3 =>
if x2 = 0 then (
jRet (-1) s3)
else (
jBd (fX11_isSort l2 s3) fun x5 s6 =>
if x5 = 0 then (
jRet (-1) s6)
else (
jBd (fX11_isFull l1 s6) fun x9 s10 =>
if x9 = 0 then (
jRet (-2) s10)
else (
jLet (j32 (34 * l1)) fun x13 =>
jLet (j32 (x13 + l2)) fun x15 =>
jGd ((0 : Int) ≤ x15 ∧ x15 < jik 56) <| jLet (s10 56 x15) fun x16 =>
if x16 = 0 then (
jRet (-2) s10)
else (
jRet 0 s10))))
def gX11_against (vs : List Int) (s : jMem) : jO := match vs with
  | [a0, a1, a2] => jGd (a0 = 53) <| fX11_against a1 a2 s
  | _ => none
set_option maxRecDepth 100000 in
set_option maxHeartbeats 4000000 in
theorem oX11_against : jOk MX11_against [3, 1, 1] 3 (jFn gX11_against) := by
  refine jOk_fn (by decide +kernel) (Nat.le_of_ble_eq_true rfl) (by decide +kernel) (.inr (.inl rfl)) ?_
  intro E vs s0 Rr hF ha
  obtain ⟨l0, t0, rfl, r_l0, ha⟩ := jRa_ci ha
  obtain ⟨l1, t1, rfl, r_l1, ha⟩ := jRa_ci ha
  obtain ⟨l2, t2, rfl, r_l2, ha⟩ := jRa_ci ha
  obtain rfl := jRa_ni ha
  replace hF : jHo Rr (jGd (l0 = 53) <| fX11_against l1 l2 s0) := hF
  have hG := jHo_as hF
  clear hF
  obtain ⟨rfl, hF⟩ := hG
  refine jg_norm [3, 1, 1] [53, l1, l2] rfl rfl ?_
  unfold fX11_against at hF
  refine ji_iload_n (n := 1) (pc := 0) l1 rfl rfl rfl dX11_against_0 (fun r1 => ?_)
  refine ji_callSz (pc := 1) [l1] ([]) oX11_isHand wlX11_114 wmX11_isHand rfl rfl (Nat.le_of_ble_eq_true rfl) (jRaC r1 jRa0) rfl rfl (Nat.le_of_ble_eq_true rfl) hF dX11_against_1 (fun x2 s3 r_x2 hF => ?_)
  refine ji_if_eq 14 (pc := 4) (jR51 r_x2) hF dX11_against_4 rfl (fun hF => ?_) (fun hF => ?_)
  · refine ji_iconst (pc := 14) dX11_against_14 ?_
    exact ji_reti (pc := 15) rfl (jRc rfl) hF dX11_against_15
  · refine ji_iload_n (n := 2) (pc := 7) l2 rfl rfl rfl dX11_against_7 (fun r4 => ?_)
    refine ji_callSz (pc := 8) [l2] ([]) oX11_isSort wlX11_120 wmX11_isSort rfl rfl (Nat.le_of_ble_eq_true rfl) (jRaC r4 jRa0) rfl rfl (Nat.le_of_ble_eq_true rfl) hF dX11_against_8 (fun x5 s6 r_x5 hF => ?_)
    refine ji_if_ne 16 (pc := 11) (jR51 r_x5) hF dX11_against_11 rfl (fun hF => ?_) (fun hF => ?_)
    · refine ji_aload_n (n := 0) (pc := 16) 53 rfl rfl rfl dX11_against_16 (fun r7 => ?_)
      refine ji_iload_n (n := 1) (pc := 17) l1 rfl rfl rfl dX11_against_17 (fun r8 => ?_)
      refine ji_callVz (pc := 18) 53 [l1] ([]) oX11_isFull wlX11_185 wmX11_isFull rfl rfl (Nat.le_of_ble_eq_true rfl) (jRaC (jRc3 rfl) (jRaC r8 jRa0)) rfl jcl_53 rfl (Nat.le_of_ble_eq_true rfl) hF dX11_against_18 (fun x9 s10 r_x9 hF => ?_)
      refine ji_if_eq 38 (pc := 21) (jR51 r_x9) hF dX11_against_21 rfl (fun hF => ?_) (fun hF => ?_)
      · refine jg_bipush (pc := 38) rfl dX11_against_38 ?_
        refine jg_goto (pc := 40) 44 dX11_against_40 rfl ?_
        exact ji_reti (pc := 44) rfl (jRc rfl) hF dX11_against_44
      · refine ji_aload_n (n := 0) (pc := 24) 53 rfl rfl rfl dX11_against_24 (fun r11 => ?_)
        refine ji_getr (pc := 25) 56 wfX11_16 (jRc3 rfl) jcl_53 jrf_53_2 dX11_against_25 ?_
        refine jg_bipush (pc := 28) rfl dX11_against_28 ?_
        refine ji_iload_n (n := 1) (pc := 30) l1 rfl rfl rfl dX11_against_30 (fun r12 => ?_)
        refine ji_imul (pc := 31)  hF dX11_against_31 (fun x13 r_x13 hF => ?_)
        refine ji_iload_n (n := 2) (pc := 32) l2 rfl rfl rfl dX11_against_32 (fun r14 => ?_)
        refine ji_iadd (pc := 33)  hF dX11_against_33 (fun x15 r_x15 hF => ?_)
        refine ji_iaload (pc := 34) (jRc3 rfl) r_x15 hF dX11_against_34 (fun x16 r_x16 hF => ?_)
        refine ji_if_ne 43 (pc := 35) r_x16 hF dX11_against_35 rfl (fun hF => ?_) (fun hF => ?_)
        · refine ji_iconst (pc := 43) dX11_against_43 ?_
          exact ji_reti (pc := 44) rfl (jRc rfl) hF dX11_against_44
        · refine jg_bipush (pc := 38) rfl dX11_against_38 ?_
          refine jg_goto (pc := 40) 44 dX11_against_40 rfl ?_
          exact ji_reti (pc := 44) rfl (jRc rfl) hF dX11_against_44
    · refine ji_iconst (pc := 14) dX11_against_14 ?_
      exact ji_reti (pc := 15) rfl (jRc rfl) hF dX11_against_15
def fX11_without (l1 l2 : Int) (s0 : jMem) : jO :=
jBd (fX11_against l1 l2 s0) fun x4 s5 =>
if x4 = 0 then (
jBd (fX11_look l1 s5) fun x9 s10 =>
jBd (fX11_layAll s10) fun x12 s13 =>
jBd (fX11_change l2 (-1) s13) fun x16 s17 =>
jBd (fX11_lackOf s17) fun x19 s20 =>
jBd (fX11_distanceOf x19 s20) fun x21 s22 =>
jRet x21 s22)
else (
jRet x4 s5)
def gX11_without (vs : List Int) (s : jMem) : jO := match vs with
  | [a0, a1, a2] => jGd (a0 = 53) <| fX11_without a1 a2 s
  | _ => none
set_option maxRecDepth 100000 in
set_option maxHeartbeats 4000000 in
theorem oX11_without : jOk MX11_without [3, 1, 1] 4 (jFn gX11_without) := by
  refine jOk_fn (by decide +kernel) (Nat.le_of_ble_eq_true rfl) (by decide +kernel) (.inr (.inl rfl)) ?_
  intro E vs s0 Rr hF ha
  obtain ⟨l0, t0, rfl, r_l0, ha⟩ := jRa_ci ha
  obtain ⟨l1, t1, rfl, r_l1, ha⟩ := jRa_ci ha
  obtain ⟨l2, t2, rfl, r_l2, ha⟩ := jRa_ci ha
  obtain rfl := jRa_ni ha
  replace hF : jHo Rr (jGd (l0 = 53) <| fX11_without l1 l2 s0) := hF
  have hG := jHo_as hF
  clear hF
  obtain ⟨rfl, hF⟩ := hG
  refine jg_norm [3, 1, 1, 0] [53, l1, l2, 0] rfl rfl ?_
  unfold fX11_without at hF
  refine ji_aload_n (n := 0) (pc := 0) 53 rfl rfl rfl dX11_without_0 (fun r1 => ?_)
  refine ji_iload_n (n := 1) (pc := 1) l1 rfl rfl rfl dX11_without_1 (fun r2 => ?_)
  refine ji_iload_n (n := 2) (pc := 2) l2 rfl rfl rfl dX11_without_2 (fun r3 => ?_)
  refine ji_callVi (pc := 3) 53 [l1, l2] ([]) oX11_against wlX11_248 wmX11_against rfl rfl (Nat.le_of_ble_eq_true rfl) (jRaC (jRc3 rfl) (jRaC r2 (jRaC r3 jRa0))) rfl jcl_53 rfl (Nat.le_of_ble_eq_true rfl) hF dX11_without_3 (fun x4 s5 r_x4 hF => ?_)
  refine ji_istore_n (n := 3) (pc := 6) [3, 1, 1, 1] [53, l1, l2, x4] rfl r_x4 (Nat.le_of_ble_eq_true rfl) rfl rfl dX11_without_6 ?_
  refine ji_iload_n (n := 3) (pc := 7) x4 rfl rfl rfl dX11_without_7 (fun r6 => ?_)
  refine ji_if_eq 13 (pc := 8) r6 hF dX11_without_8 rfl (fun hF => ?_) (fun hF => ?_)
  · refine ji_aload_n (n := 0) (pc := 13) 53 rfl rfl rfl dX11_without_13 (fun r7 => ?_)
    refine ji_iload_n (n := 1) (pc := 14) l1 rfl rfl rfl dX11_without_14 (fun r8 => ?_)
    refine ji_callVv (pc := 15) 53 [l1] ([]) oX11_look wlX11_188 wmX11_look rfl rfl (Nat.le_of_ble_eq_true rfl) (jRaC (jRc3 rfl) (jRaC r8 jRa0)) rfl jcl_53 rfl (Nat.le_of_ble_eq_true rfl) hF dX11_without_15 (fun x9 s10 hF => ?_)
    refine ji_aload_n (n := 0) (pc := 18) 53 rfl rfl rfl dX11_without_18 (fun r11 => ?_)
    refine ji_callVv (pc := 19) 53 [] ([]) oX11_layAll wlX11_223 wmX11_layAll rfl rfl (Nat.le_of_ble_eq_true rfl) (jRaC (jRc3 rfl) jRa0) rfl jcl_53 rfl (Nat.le_of_ble_eq_true rfl) hF dX11_without_19 (fun x12 s13 hF => ?_)
    refine ji_aload_n (n := 0) (pc := 22) 53 rfl rfl rfl dX11_without_22 (fun r14 => ?_)
    refine ji_iload_n (n := 2) (pc := 23) l2 rfl rfl rfl dX11_without_23 (fun r15 => ?_)
    refine ji_iconst (pc := 24) dX11_without_24 ?_
    refine ji_callVv (pc := 25) 53 [l2, (-1)] ([]) oX11_change wlX11_235 wmX11_change rfl rfl (Nat.le_of_ble_eq_true rfl) (jRaC (jRc3 rfl) (jRaC r15 (jRaC (jRc rfl) jRa0))) rfl jcl_53 rfl (Nat.le_of_ble_eq_true rfl) hF dX11_without_25 (fun x16 s17 hF => ?_)
    refine ji_aload_n (n := 0) (pc := 28) 53 rfl rfl rfl dX11_without_28 (fun r18 => ?_)
    refine ji_callVi (pc := 29) 53 [] ([]) oX11_lackOf wlX11_226 wmX11_lackOf rfl rfl (Nat.le_of_ble_eq_true rfl) (jRaC (jRc3 rfl) jRa0) rfl jcl_53 rfl (Nat.le_of_ble_eq_true rfl) hF dX11_without_29 (fun x19 s20 r_x19 hF => ?_)
    refine ji_callSi (pc := 32) [x19] ([]) oX11_distanceOf wlX11_229 wmX11_distanceOf rfl rfl (Nat.le_of_ble_eq_true rfl) (jRaC r_x19 jRa0) rfl rfl (Nat.le_of_ble_eq_true rfl) hF dX11_without_32 (fun x21 s22 r_x21 hF => ?_)
    exact ji_reti (pc := 35) rfl r_x21 hF dX11_without_35
  · refine ji_iload_n (n := 3) (pc := 11) x4 rfl rfl rfl dX11_without_11 (fun r23 => ?_)
    exact ji_reti (pc := 12) rfl r23 hF dX11_without_12
def bX11_helping_34 (k8 : Int → Int → jMem → jO) (l2 t0 t1 : Int) (s0 : jMem) : jO :=
jLet (j32 (t0 + t1)) fun x1 =>
jLet (j32 (l2 + 1)) fun x2 =>
k8 x1 x2 s0
def bX11_helping_8 (rec : Int → Int → jMem → jO) (l1 l2 : Int) (s0 : jMem) : jO :=
if 34 ≤ l2 then (
jRet l1 s0)
else (
jGd ((0 : Int) ≤ l2 ∧ l2 < jzk 75) <| jLet (s0 75 l2) fun x6 =>
if x6 = 0 then (
bX11_helping_34 rec l2 l1 0 s0)
else (
jGd ((0 : Int) ≤ l2 ∧ l2 < jik 76) <| jLet (s0 76 l2) fun x9 =>
bX11_helping_34 rec l2 l1 x9 s0))
def fX11_helping (s0 : jMem) : jO :=
jBd (fX11_layHelps s0) fun x2 s3 =>
jIt (fun _ _ _ => none) (bX11_helping_8) 1000 0 0 s3
def gX11_helping (vs : List Int) (s : jMem) : jO := match vs with
  | [a0] => jGd (a0 = 53) <| fX11_helping s
  | _ => none
set_option maxRecDepth 100000 in
set_option maxHeartbeats 4000000 in
theorem obX11_helping_34 {E : jEnv} {Rr : Int → jMem → Prop} {k8 : Int → Int → jMem → jO} (hk8 : ∀ (l1 l2 : Int) (s : jMem), jHo Rr (k8 l1 l2 s) → jGo E MX11_helping 5 Rr [3, 1, 1] 8 [53, l1, l2] ([]) s) : ∀ (l2 t0 t1 : Int) (s : jMem), jR 1 t0 → jR 1 t1 → jHo Rr (bX11_helping_34 k8 l2 t0 t1 s) → jGo E MX11_helping 5 Rr [3, 0, 1] 34 [53, 0, l2] (jV E 1 t1 :: jV E 1 t0 :: []) s := by
  intro l2 t0 t1 s0 r_t0 r_t1 hF
  unfold bX11_helping_34 at hF
  refine ji_iadd (pc := 34)  hF dX11_helping_34 (fun x1 r_x1 hF => ?_)
  refine ji_istore_n (n := 1) (pc := 35) [3, 1, 1] [53, x1, l2] rfl r_x1 (Nat.le_of_ble_eq_true rfl) rfl rfl dX11_helping_35 ?_
  refine ji_iinc (pc := 36) l2 (fun w => [53, x1, w]) rfl rfl rfl (fun _ => rfl) hF dX11_helping_36 (fun x2 r_x2 hF => ?_)
  refine jg_goto (pc := 39) 8 dX11_helping_39 rfl ?_
  refine jg_norm [3, 1, 1] [53, x1, x2] rfl rfl ?_
  exact hk8 _ _ _ hF
set_option maxRecDepth 100000 in
set_option maxHeartbeats 4000000 in
theorem obX11_helping_8 {E : jEnv} {Rr : Int → jMem → Prop} {rec : Int → Int → jMem → jO} (hrec : ∀ (l1 l2 : Int) (s : jMem), jHo Rr (rec l1 l2 s) → jGo E MX11_helping 5 Rr [3, 1, 1] 8 [53, l1, l2] ([]) s) : ∀ (l1 l2 : Int) (s : jMem), jHo Rr (bX11_helping_8 rec l1 l2 s) → jGo E MX11_helping 5 Rr [3, 1, 1] 8 [53, l1, l2] ([]) s := by
  intro l1 l2 s0 hF
  unfold bX11_helping_8 at hF
  refine ji_iload_n (n := 2) (pc := 8) l2 rfl rfl rfl dX11_helping_8 (fun r1 => ?_)
  refine jg_bipush (pc := 9) rfl dX11_helping_9 ?_
  refine ji_icmp_ge 42 (pc := 11) r1 (jRc rfl) hF dX11_helping_11 rfl (fun hF => ?_) (fun hF => ?_)
  · refine ji_iload_n (n := 1) (pc := 42) l1 rfl rfl rfl dX11_helping_42 (fun r2 => ?_)
    exact ji_reti (pc := 43) rfl r2 hF dX11_helping_43
  · refine ji_iload_n (n := 1) (pc := 14) l1 rfl rfl rfl dX11_helping_14 (fun r3 => ?_)
    refine ji_aload_n (n := 0) (pc := 15) 53 rfl rfl rfl dX11_helping_15 (fun r4 => ?_)
    refine ji_getr (pc := 16) 75 wfX11_77 (jRc3 rfl) jcl_53 jrf_53_26 dX11_helping_16 ?_
    refine ji_iload_n (n := 2) (pc := 19) l2 rfl rfl rfl dX11_helping_19 (fun r5 => ?_)
    refine ji_zaload (pc := 20) (jRc3 rfl) r5 hF dX11_helping_20 (fun x6 r_x6 hF => ?_)
    refine ji_if_eq 33 (pc := 21) (jR51 r_x6) hF dX11_helping_21 rfl (fun hF => ?_) (fun hF => ?_)
    · refine ji_iconst (pc := 33) dX11_helping_33 ?_
      refine jg_norm [3, 0, 1] [53, 0, l2] rfl rfl ?_
      exact obX11_helping_34 hrec _ _ _ _ r3 (jRc rfl) hF
    · refine ji_aload_n (n := 0) (pc := 24) 53 rfl rfl rfl dX11_helping_24 (fun r7 => ?_)
      refine ji_getr (pc := 25) 76 wfX11_81 (jRc3 rfl) jcl_53 jrf_53_28 dX11_helping_25 ?_
      refine ji_iload_n (n := 2) (pc := 28) l2 rfl rfl rfl dX11_helping_28 (fun r8 => ?_)
      refine ji_iaload (pc := 29) (jRc3 rfl) r8 hF dX11_helping_29 (fun x9 r_x9 hF => ?_)
      refine jg_goto (pc := 30) 34 dX11_helping_30 rfl ?_
      refine jg_norm [3, 0, 1] [53, 0, l2] rfl rfl ?_
      exact obX11_helping_34 hrec _ _ _ _ r3 r_x9 hF
theorem obX11_helping_8W {E : jEnv} {Rr : Int → jMem → Prop} : ∀ n : Nat, ∀ (l1 l2 : Int) (s : jMem), jHo Rr (jIt (fun _ _ _ => none) (bX11_helping_8) n l1 l2 s) → jGo E MX11_helping 5 Rr [3, 1, 1] 8 [53, l1, l2] ([]) s := by
  intro n
  induction n with
  | zero => intro l1 l2 s hF; exact jHo_none hF
  | succ n ih => exact obX11_helping_8 ih

set_option maxRecDepth 100000 in
set_option maxHeartbeats 4000000 in
theorem oX11_helping : jOk MX11_helping [3] 5 (jFn gX11_helping) := by
  refine jOk_fn (by decide +kernel) (Nat.le_of_ble_eq_true rfl) (by decide +kernel) (.inr (.inl rfl)) ?_
  intro E vs s0 Rr hF ha
  obtain ⟨l0, t0, rfl, r_l0, ha⟩ := jRa_ci ha
  obtain rfl := jRa_ni ha
  replace hF : jHo Rr (jGd (l0 = 53) <| fX11_helping s0) := hF
  have hG := jHo_as hF
  clear hF
  obtain ⟨rfl, hF⟩ := hG
  refine jg_norm [3, 0, 0] [53, 0, 0] rfl rfl ?_
  unfold fX11_helping at hF
  refine ji_aload_n (n := 0) (pc := 0) 53 rfl rfl rfl dX11_helping_0 (fun r1 => ?_)
  refine ji_callVv (pc := 1) 53 [] ([]) oX11_layHelps wlX11_238 wmX11_layHelps rfl rfl (Nat.le_of_ble_eq_true rfl) (jRaC (jRc3 rfl) jRa0) rfl jcl_53 rfl (Nat.le_of_ble_eq_true rfl) hF dX11_helping_1 (fun x2 s3 hF => ?_)
  refine ji_iconst (pc := 4) dX11_helping_4 ?_
  refine ji_istore_n (n := 1) (pc := 5) [3, 1, 0] [53, 0, 0] rfl (jRc rfl) (Nat.le_of_ble_eq_true rfl) rfl rfl dX11_helping_5 ?_
  refine ji_iconst (pc := 6) dX11_helping_6 ?_
  refine ji_istore_n (n := 2) (pc := 7) [3, 1, 1] [53, 0, 0] rfl (jRc rfl) (Nat.le_of_ble_eq_true rfl) rfl rfl dX11_helping_7 ?_
  refine jg_norm [3, 1, 1] [53, 0, 0] rfl rfl ?_
  exact obX11_helping_8W 1000 _ _ _ hF
def fX11_more (l1 l2 : Int) (s0 : jMem) : jO :=
jBd (fX11_against l1 l2 s0) fun x4 s5 =>
if x4 = 0 then (
jBd (fX11_layUnseen l1 s5) fun x9 s10 =>
jBd (fX11_look l1 s10) fun x13 s14 =>
jBd (fX11_layAll s14) fun x16 s17 =>
jBd (fX11_change l2 (-1) s17) fun x20 s21 =>
jBd (fX11_helping s21) fun x23 s24 =>
jRet x23 s24)
else (
jRet x4 s5)
def gX11_more (vs : List Int) (s : jMem) : jO := match vs with
  | [a0, a1, a2] => jGd (a0 = 53) <| fX11_more a1 a2 s
  | _ => none
set_option maxRecDepth 100000 in
set_option maxHeartbeats 4000000 in
theorem oX11_more : jOk MX11_more [3, 1, 1] 6 (jFn gX11_more) := by
  refine jOk_fn (by decide +kernel) (Nat.le_of_ble_eq_true rfl) (by decide +kernel) (.inr (.inl rfl)) ?_
  intro E vs s0 Rr hF ha
  obtain ⟨l0, t0, rfl, r_l0, ha⟩ := jRa_ci ha
  obtain ⟨l1, t1, rfl, r_l1, ha⟩ := jRa_ci ha
  obtain ⟨l2, t2, rfl, r_l2, ha⟩ := jRa_ci ha
  obtain rfl := jRa_ni ha
  replace hF : jHo Rr (jGd (l0 = 53) <| fX11_more l1 l2 s0) := hF
  have hG := jHo_as hF
  clear hF
  obtain ⟨rfl, hF⟩ := hG
  refine jg_norm [3, 1, 1, 0, 0] [53, l1, l2, 0, 0] rfl rfl ?_
  unfold fX11_more at hF
  refine ji_aload_n (n := 0) (pc := 0) 53 rfl rfl rfl dX11_more_0 (fun r1 => ?_)
  refine ji_iload_n (n := 1) (pc := 1) l1 rfl rfl rfl dX11_more_1 (fun r2 => ?_)
  refine ji_iload_n (n := 2) (pc := 2) l2 rfl rfl rfl dX11_more_2 (fun r3 => ?_)
  refine ji_callVi (pc := 3) 53 [l1, l2] ([]) oX11_against wlX11_248 wmX11_against rfl rfl (Nat.le_of_ble_eq_true rfl) (jRaC (jRc3 rfl) (jRaC r2 (jRaC r3 jRa0))) rfl jcl_53 rfl (Nat.le_of_ble_eq_true rfl) hF dX11_more_3 (fun x4 s5 r_x4 hF => ?_)
  refine ji_istore_n (n := 3) (pc := 6) [3, 1, 1, 1, 0] [53, l1, l2, x4, 0] rfl r_x4 (Nat.le_of_ble_eq_true rfl) rfl rfl dX11_more_6 ?_
  refine ji_iload_n (n := 3) (pc := 7) x4 rfl rfl rfl dX11_more_7 (fun r6 => ?_)
  refine ji_if_eq 13 (pc := 8) r6 hF dX11_more_8 rfl (fun hF => ?_) (fun hF => ?_)
  · refine ji_aload_n (n := 0) (pc := 13) 53 rfl rfl rfl dX11_more_13 (fun r7 => ?_)
    refine ji_iload_n (n := 1) (pc := 14) l1 rfl rfl rfl dX11_more_14 (fun r8 => ?_)
    refine ji_callVi (pc := 15) 53 [l1] ([]) oX11_layUnseen wlX11_251 wmX11_layUnseen rfl rfl (Nat.le_of_ble_eq_true rfl) (jRaC (jRc3 rfl) (jRaC r8 jRa0)) rfl jcl_53 rfl (Nat.le_of_ble_eq_true rfl) hF dX11_more_15 (fun x9 s10 r_x9 hF => ?_)
    refine ji_istore (n := 4) (pc := 18) [3, 1, 1, 1, 1] [53, l1, l2, x4, x9] r_x9 (Nat.le_of_ble_eq_true rfl) rfl rfl dX11_more_18 ?_
    refine ji_aload_n (n := 0) (pc := 20) 53 rfl rfl rfl dX11_more_20 (fun r11 => ?_)
    refine ji_iload_n (n := 1) (pc := 21) l1 rfl rfl rfl dX11_more_21 (fun r12 => ?_)
    refine ji_callVv (pc := 22) 53 [l1] ([]) oX11_look wlX11_188 wmX11_look rfl rfl (Nat.le_of_ble_eq_true rfl) (jRaC (jRc3 rfl) (jRaC r12 jRa0)) rfl jcl_53 rfl (Nat.le_of_ble_eq_true rfl) hF dX11_more_22 (fun x13 s14 hF => ?_)
    refine ji_aload_n (n := 0) (pc := 25) 53 rfl rfl rfl dX11_more_25 (fun r15 => ?_)
    refine ji_callVv (pc := 26) 53 [] ([]) oX11_layAll wlX11_223 wmX11_layAll rfl rfl (Nat.le_of_ble_eq_true rfl) (jRaC (jRc3 rfl) jRa0) rfl jcl_53 rfl (Nat.le_of_ble_eq_true rfl) hF dX11_more_26 (fun x16 s17 hF => ?_)
    refine ji_aload_n (n := 0) (pc := 29) 53 rfl rfl rfl dX11_more_29 (fun r18 => ?_)
    refine ji_iload_n (n := 2) (pc := 30) l2 rfl rfl rfl dX11_more_30 (fun r19 => ?_)
    refine ji_iconst (pc := 31) dX11_more_31 ?_
    refine ji_callVv (pc := 32) 53 [l2, (-1)] ([]) oX11_change wlX11_235 wmX11_change rfl rfl (Nat.le_of_ble_eq_true rfl) (jRaC (jRc3 rfl) (jRaC r19 (jRaC (jRc rfl) jRa0))) rfl jcl_53 rfl (Nat.le_of_ble_eq_true rfl) hF dX11_more_32 (fun x20 s21 hF => ?_)
    refine ji_aload_n (n := 0) (pc := 35) 53 rfl rfl rfl dX11_more_35 (fun r22 => ?_)
    refine ji_callVi (pc := 36) 53 [] ([]) oX11_helping wlX11_254 wmX11_helping rfl rfl (Nat.le_of_ble_eq_true rfl) (jRaC (jRc3 rfl) jRa0) rfl jcl_53 rfl (Nat.le_of_ble_eq_true rfl) hF dX11_more_36 (fun x23 s24 r_x23 hF => ?_)
    exact ji_reti (pc := 39) rfl r_x23 hF dX11_more_39
  · refine ji_iload_n (n := 3) (pc := 11) x4 rfl rfl rfl dX11_more_11 (fun r25 => ?_)
    exact ji_reti (pc := 12) rfl r25 hF dX11_more_12
def bX11_best_108 (k115 : Int → Int → Int → Int → jMem → jO) (l6 l7 l8 : Int) (s0 : jMem) : jO :=
k115 l6 l8 l6 l7 s0
def bX11_best_115 (k119 : Int → Int → Int → Int → jMem → jO) (l3 l5 l6 l7 : Int) (s0 : jMem) : jO :=
k119 l3 l7 l5 l6 s0
def bX11_best_119 (k126 : Int → Int → Int → Int → jMem → jO) (l3 l4 l5 l6 : Int) (s0 : jMem) : jO :=
jBd (fX11_change l6 1 s0) fun x3 s4 =>
k126 l3 l4 l5 l6 s4
def bX11_best_126 (k48 : Int → Int → Int → Int → jMem → jO) (l3 l4 l5 l6 : Int) (s0 : jMem) : jO :=
jLet (j32 (l6 + 1)) fun x1 =>
k48 l3 l4 l5 x1 s0
def bX11_best_48 (rec : Int → Int → Int → Int → jMem → jO) (l3 l4 l5 l6 : Int) (s0 : jMem) : jO :=
if 34 ≤ l6 then (
jRet l3 s0)
else (
jGd ((0 : Int) ≤ l6 ∧ l6 < jik 68) <| jLet (s0 68 l6) fun x5 =>
if x5 = 0 then (
bX11_best_126 rec l3 l4 l5 l6 s0)
else (
jBd (fX11_change l6 (-1) s0) fun x8 s9 =>
jBd (fX11_lackOf s9) fun x11 s12 =>
if l4 < x11 then (
bX11_best_119 (bX11_best_126 rec) l3 l4 l5 l6 s12)
else (
jBd (fX11_helping s12) fun x16 s17 =>
if x11 < l4 then (
bX11_best_108 (bX11_best_115 (bX11_best_119 (bX11_best_126 rec))) l6 x11 x16 s17)
else (
if x16 ≤ l5 then (
bX11_best_115 (bX11_best_119 (bX11_best_126 rec)) l3 l5 l6 x11 s17)
else (
bX11_best_108 (bX11_best_115 (bX11_best_119 (bX11_best_126 rec))) l6 x11 x16 s17)))))
def fX11_best (l1 : Int) (s0 : jMem) : jO :=
jBd (fX11_isHand l1 s0) fun x2 s3 =>
if x2 = 0 then (
jRet (-1) s3)
else (
jBd (fX11_isFull l1 s3) fun x6 s7 =>
if x6 = 0 then (
jRet (-2) s7)
else (
jBd (fX11_layUnseen l1 s7) fun x10 s11 =>
jBd (fX11_look l1 s11) fun x14 s15 =>
jBd (fX11_layAll s15) fun x17 s18 =>
jIt (fun _ _ _ _ _ => none) (bX11_best_48) 1000 (-3) 99 (-1) 0 s18))
def gX11_best (vs : List Int) (s : jMem) : jO := match vs with
  | [a0, a1] => jGd (a0 = 53) <| fX11_best a1 s
  | _ => none
set_option maxRecDepth 100000 in
set_option maxHeartbeats 4000000 in
theorem obX11_best_108 {E : jEnv} {Rr : Int → jMem → Prop} {k115 : Int → Int → Int → Int → jMem → jO} (hk115 : ∀ (l3 l5 l6 l7 : Int) (s : jMem), jHo Rr (k115 l3 l5 l6 l7 s) → jGo E MX11_best 6 Rr [3, 0, 0, 1, 0, 1, 1, 1, 0] 115 [53, 0, 0, l3, 0, l5, l6, l7, 0] ([]) s) : ∀ (l6 l7 l8 : Int) (s : jMem), jHo Rr (bX11_best_108 k115 l6 l7 l8 s) → jGo E MX11_best 6 Rr [3, 0, 0, 0, 0, 0, 1, 1, 1] 108 [53, 0, 0, 0, 0, 0, l6, l7, l8] ([]) s := by
  intro l6 l7 l8 s0 hF
  unfold bX11_best_108 at hF
  refine ji_iload (pc := 108) l6 rfl rfl dX11_best_108 (fun r1 => ?_)
  refine ji_istore_n (n := 3) (pc := 110) [3, 0, 0, 1, 0, 0, 1, 1, 1] [53, 0, 0, l6, 0, 0, l6, l7, l8] rfl r1 (Nat.le_of_ble_eq_true rfl) rfl rfl dX11_best_110 ?_
  refine ji_iload (pc := 111) l8 rfl rfl dX11_best_111 (fun r2 => ?_)
  refine ji_istore (n := 5) (pc := 113) [3, 0, 0, 1, 0, 1, 1, 1, 1] [53, 0, 0, l6, 0, l8, l6, l7, l8] r2 (Nat.le_of_ble_eq_true rfl) rfl rfl dX11_best_113 ?_
  refine jg_norm [3, 0, 0, 1, 0, 1, 1, 1, 0] [53, 0, 0, l6, 0, l8, l6, l7, 0] rfl rfl ?_
  exact hk115 _ _ _ _ _ hF
set_option maxRecDepth 100000 in
set_option maxHeartbeats 4000000 in
theorem obX11_best_115 {E : jEnv} {Rr : Int → jMem → Prop} {k119 : Int → Int → Int → Int → jMem → jO} (hk119 : ∀ (l3 l4 l5 l6 : Int) (s : jMem), jHo Rr (k119 l3 l4 l5 l6 s) → jGo E MX11_best 6 Rr [3, 0, 0, 1, 1, 1, 1, 0, 0] 119 [53, 0, 0, l3, l4, l5, l6, 0, 0] ([]) s) : ∀ (l3 l5 l6 l7 : Int) (s : jMem), jHo Rr (bX11_best_115 k119 l3 l5 l6 l7 s) → jGo E MX11_best 6 Rr [3, 0, 0, 1, 0, 1, 1, 1, 0] 115 [53, 0, 0, l3, 0, l5, l6, l7, 0] ([]) s := by
  intro l3 l5 l6 l7 s0 hF
  unfold bX11_best_115 at hF
  refine ji_iload (pc := 115) l7 rfl rfl dX11_best_115 (fun r1 => ?_)
  refine ji_istore (n := 4) (pc := 117) [3, 0, 0, 1, 1, 1, 1, 1, 0] [53, 0, 0, l3, l7, l5, l6, l7, 0] r1 (Nat.le_of_ble_eq_true rfl) rfl rfl dX11_best_117 ?_
  refine jg_norm [3, 0, 0, 1, 1, 1, 1, 0, 0] [53, 0, 0, l3, l7, l5, l6, 0, 0] rfl rfl ?_
  exact hk119 _ _ _ _ _ hF
set_option maxRecDepth 100000 in
set_option maxHeartbeats 4000000 in
theorem obX11_best_119 {E : jEnv} {Rr : Int → jMem → Prop} {k126 : Int → Int → Int → Int → jMem → jO} (hk126 : ∀ (l3 l4 l5 l6 : Int) (s : jMem), jHo Rr (k126 l3 l4 l5 l6 s) → jGo E MX11_best 6 Rr [3, 0, 0, 1, 1, 1, 1, 0, 0] 126 [53, 0, 0, l3, l4, l5, l6, 0, 0] ([]) s) : ∀ (l3 l4 l5 l6 : Int) (s : jMem), jHo Rr (bX11_best_119 k126 l3 l4 l5 l6 s) → jGo E MX11_best 6 Rr [3, 0, 0, 1, 1, 1, 1, 0, 0] 119 [53, 0, 0, l3, l4, l5, l6, 0, 0] ([]) s := by
  intro l3 l4 l5 l6 s0 hF
  unfold bX11_best_119 at hF
  refine ji_aload_n (n := 0) (pc := 119) 53 rfl rfl rfl dX11_best_119 (fun r1 => ?_)
  refine ji_iload (pc := 120) l6 rfl rfl dX11_best_120 (fun r2 => ?_)
  refine ji_iconst (pc := 122) dX11_best_122 ?_
  refine ji_callVv (pc := 123) 53 [l6, 1] ([]) oX11_change wlX11_235 wmX11_change rfl rfl (Nat.le_of_ble_eq_true rfl) (jRaC (jRc3 rfl) (jRaC r2 (jRaC (jRc rfl) jRa0))) rfl jcl_53 rfl (Nat.le_of_ble_eq_true rfl) hF dX11_best_123 (fun x3 s4 hF => ?_)
  refine jg_norm [3, 0, 0, 1, 1, 1, 1, 0, 0] [53, 0, 0, l3, l4, l5, l6, 0, 0] rfl rfl ?_
  exact hk126 _ _ _ _ _ hF
set_option maxRecDepth 100000 in
set_option maxHeartbeats 4000000 in
theorem obX11_best_126 {E : jEnv} {Rr : Int → jMem → Prop} {k48 : Int → Int → Int → Int → jMem → jO} (hk48 : ∀ (l3 l4 l5 l6 : Int) (s : jMem), jHo Rr (k48 l3 l4 l5 l6 s) → jGo E MX11_best 6 Rr [3, 0, 0, 1, 1, 1, 1, 0, 0] 48 [53, 0, 0, l3, l4, l5, l6, 0, 0] ([]) s) : ∀ (l3 l4 l5 l6 : Int) (s : jMem), jHo Rr (bX11_best_126 k48 l3 l4 l5 l6 s) → jGo E MX11_best 6 Rr [3, 0, 0, 1, 1, 1, 1, 0, 0] 126 [53, 0, 0, l3, l4, l5, l6, 0, 0] ([]) s := by
  intro l3 l4 l5 l6 s0 hF
  unfold bX11_best_126 at hF
  refine ji_iinc (pc := 126) l6 (fun w => [53, 0, 0, l3, l4, l5, w, 0, 0]) rfl rfl rfl (fun _ => rfl) hF dX11_best_126 (fun x1 r_x1 hF => ?_)
  refine jg_goto (pc := 129) 48 dX11_best_129 rfl ?_
  refine jg_norm [3, 0, 0, 1, 1, 1, 1, 0, 0] [53, 0, 0, l3, l4, l5, x1, 0, 0] rfl rfl ?_
  exact hk48 _ _ _ _ _ hF
set_option maxRecDepth 100000 in
set_option maxHeartbeats 4000000 in
theorem obX11_best_48 {E : jEnv} {Rr : Int → jMem → Prop} {rec : Int → Int → Int → Int → jMem → jO} (hrec : ∀ (l3 l4 l5 l6 : Int) (s : jMem), jHo Rr (rec l3 l4 l5 l6 s) → jGo E MX11_best 6 Rr [3, 0, 0, 1, 1, 1, 1, 0, 0] 48 [53, 0, 0, l3, l4, l5, l6, 0, 0] ([]) s) : ∀ (l3 l4 l5 l6 : Int) (s : jMem), jHo Rr (bX11_best_48 rec l3 l4 l5 l6 s) → jGo E MX11_best 6 Rr [3, 0, 0, 1, 1, 1, 1, 0, 0] 48 [53, 0, 0, l3, l4, l5, l6, 0, 0] ([]) s := by
  intro l3 l4 l5 l6 s0 hF
  unfold bX11_best_48 at hF
  refine ji_iload (pc := 48) l6 rfl rfl dX11_best_48 (fun r1 => ?_)
  refine jg_bipush (pc := 50) rfl dX11_best_50 ?_
  refine ji_icmp_ge 132 (pc := 52) r1 (jRc rfl) hF dX11_best_52 rfl (fun hF => ?_) (fun hF => ?_)
  · refine ji_iload_n (n := 3) (pc := 132) l3 rfl rfl rfl dX11_best_132 (fun r2 => ?_)
    exact ji_reti (pc := 133) rfl r2 hF dX11_best_133
  · refine ji_aload_n (n := 0) (pc := 55) 53 rfl rfl rfl dX11_best_55 (fun r3 => ?_)
    refine ji_getr (pc := 56) 68 wfX11_56 (jRc3 rfl) jcl_53 jrf_53_18 dX11_best_56 ?_
    refine ji_iload (pc := 59) l6 rfl rfl dX11_best_59 (fun r4 => ?_)
    refine ji_iaload (pc := 61) (jRc3 rfl) r4 hF dX11_best_61 (fun x5 r_x5 hF => ?_)
    refine ji_if_ne 68 (pc := 62) r_x5 hF dX11_best_62 rfl (fun hF => ?_) (fun hF => ?_)
    · refine ji_aload_n (n := 0) (pc := 68) 53 rfl rfl rfl dX11_best_68 (fun r6 => ?_)
      refine ji_iload (pc := 69) l6 rfl rfl dX11_best_69 (fun r7 => ?_)
      refine ji_iconst (pc := 71) dX11_best_71 ?_
      refine ji_callVv (pc := 72) 53 [l6, (-1)] ([]) oX11_change wlX11_235 wmX11_change rfl rfl (Nat.le_of_ble_eq_true rfl) (jRaC (jRc3 rfl) (jRaC r7 (jRaC (jRc rfl) jRa0))) rfl jcl_53 rfl (Nat.le_of_ble_eq_true rfl) hF dX11_best_72 (fun x8 s9 hF => ?_)
      refine ji_aload_n (n := 0) (pc := 75) 53 rfl rfl rfl dX11_best_75 (fun r10 => ?_)
      refine ji_callVi (pc := 76) 53 [] ([]) oX11_lackOf wlX11_226 wmX11_lackOf rfl rfl (Nat.le_of_ble_eq_true rfl) (jRaC (jRc3 rfl) jRa0) rfl jcl_53 rfl (Nat.le_of_ble_eq_true rfl) hF dX11_best_76 (fun x11 s12 r_x11 hF => ?_)
      refine ji_istore (n := 7) (pc := 79) [3, 0, 0, 1, 1, 1, 1, 1, 0] [53, 0, 0, l3, l4, l5, l6, x11, 0] r_x11 (Nat.le_of_ble_eq_true rfl) rfl rfl dX11_best_79 ?_
      refine ji_iload (pc := 81) x11 rfl rfl dX11_best_81 (fun r13 => ?_)
      refine ji_iload (pc := 83) l4 rfl rfl dX11_best_83 (fun r14 => ?_)
      refine ji_icmp_gt 119 (pc := 85) r13 r14 hF dX11_best_85 rfl (fun hF => ?_) (fun hF => ?_)
      · refine jg_norm [3, 0, 0, 1, 1, 1, 1, 0, 0] [53, 0, 0, l3, l4, l5, l6, 0, 0] rfl rfl ?_
        exact obX11_best_119 (obX11_best_126 hrec) _ _ _ _ _ hF
      · refine ji_aload_n (n := 0) (pc := 88) 53 rfl rfl rfl dX11_best_88 (fun r15 => ?_)
        refine ji_callVi (pc := 89) 53 [] ([]) oX11_helping wlX11_254 wmX11_helping rfl rfl (Nat.le_of_ble_eq_true rfl) (jRaC (jRc3 rfl) jRa0) rfl jcl_53 rfl (Nat.le_of_ble_eq_true rfl) hF dX11_best_89 (fun x16 s17 r_x16 hF => ?_)
        refine ji_istore (n := 8) (pc := 92) [3, 0, 0, 1, 1, 1, 1, 1, 1] [53, 0, 0, l3, l4, l5, l6, x11, x16] r_x16 (Nat.le_of_ble_eq_true rfl) rfl rfl dX11_best_92 ?_
        refine ji_iload (pc := 94) x11 rfl rfl dX11_best_94 (fun r18 => ?_)
        refine ji_iload (pc := 96) l4 rfl rfl dX11_best_96 (fun r19 => ?_)
        refine ji_icmp_lt 108 (pc := 98) r18 r19 hF dX11_best_98 rfl (fun hF => ?_) (fun hF => ?_)
        · refine jg_norm [3, 0, 0, 0, 0, 0, 1, 1, 1] [53, 0, 0, 0, 0, 0, l6, x11, x16] rfl rfl ?_
          exact obX11_best_108 (obX11_best_115 (obX11_best_119 (obX11_best_126 hrec))) _ _ _ _ hF
        · refine ji_iload (pc := 101) x16 rfl rfl dX11_best_101 (fun r20 => ?_)
          refine ji_iload (pc := 103) l5 rfl rfl dX11_best_103 (fun r21 => ?_)
          refine ji_icmp_le 115 (pc := 105) r20 r21 hF dX11_best_105 rfl (fun hF => ?_) (fun hF => ?_)
          · refine jg_norm [3, 0, 0, 1, 0, 1, 1, 1, 0] [53, 0, 0, l3, 0, l5, l6, x11, 0] rfl rfl ?_
            exact obX11_best_115 (obX11_best_119 (obX11_best_126 hrec)) _ _ _ _ _ hF
          · refine jg_norm [3, 0, 0, 0, 0, 0, 1, 1, 1] [53, 0, 0, 0, 0, 0, l6, x11, x16] rfl rfl ?_
            exact obX11_best_108 (obX11_best_115 (obX11_best_119 (obX11_best_126 hrec))) _ _ _ _ hF
    · refine jg_goto (pc := 65) 126 dX11_best_65 rfl ?_
      refine jg_norm [3, 0, 0, 1, 1, 1, 1, 0, 0] [53, 0, 0, l3, l4, l5, l6, 0, 0] rfl rfl ?_
      exact obX11_best_126 hrec _ _ _ _ _ hF
theorem obX11_best_48W {E : jEnv} {Rr : Int → jMem → Prop} : ∀ n : Nat, ∀ (l3 l4 l5 l6 : Int) (s : jMem), jHo Rr (jIt (fun _ _ _ _ _ => none) (bX11_best_48) n l3 l4 l5 l6 s) → jGo E MX11_best 6 Rr [3, 0, 0, 1, 1, 1, 1, 0, 0] 48 [53, 0, 0, l3, l4, l5, l6, 0, 0] ([]) s := by
  intro n
  induction n with
  | zero => intro l3 l4 l5 l6 s hF; exact jHo_none hF
  | succ n ih => exact obX11_best_48 ih

set_option maxRecDepth 100000 in
set_option maxHeartbeats 4000000 in
theorem oX11_best : jOk MX11_best [3, 1] 6 (jFn gX11_best) := by
  refine jOk_fn (by decide +kernel) (Nat.le_of_ble_eq_true rfl) (by decide +kernel) (.inr (.inl rfl)) ?_
  intro E vs s0 Rr hF ha
  obtain ⟨l0, t0, rfl, r_l0, ha⟩ := jRa_ci ha
  obtain ⟨l1, t1, rfl, r_l1, ha⟩ := jRa_ci ha
  obtain rfl := jRa_ni ha
  replace hF : jHo Rr (jGd (l0 = 53) <| fX11_best l1 s0) := hF
  have hG := jHo_as hF
  clear hF
  obtain ⟨rfl, hF⟩ := hG
  refine jg_norm [3, 1, 0, 0, 0, 0, 0, 0, 0] [53, l1, 0, 0, 0, 0, 0, 0, 0] rfl rfl ?_
  unfold fX11_best at hF
  refine ji_iload_n (n := 1) (pc := 0) l1 rfl rfl rfl dX11_best_0 (fun r1 => ?_)
  refine ji_callSz (pc := 1) [l1] ([]) oX11_isHand wlX11_114 wmX11_isHand rfl rfl (Nat.le_of_ble_eq_true rfl) (jRaC r1 jRa0) rfl rfl (Nat.le_of_ble_eq_true rfl) hF dX11_best_1 (fun x2 s3 r_x2 hF => ?_)
  refine ji_if_ne 9 (pc := 4) (jR51 r_x2) hF dX11_best_4 rfl (fun hF => ?_) (fun hF => ?_)
  · refine ji_aload_n (n := 0) (pc := 9) 53 rfl rfl rfl dX11_best_9 (fun r4 => ?_)
    refine ji_iload_n (n := 1) (pc := 10) l1 rfl rfl rfl dX11_best_10 (fun r5 => ?_)
    refine ji_callVz (pc := 11) 53 [l1] ([]) oX11_isFull wlX11_185 wmX11_isFull rfl rfl (Nat.le_of_ble_eq_true rfl) (jRaC (jRc3 rfl) (jRaC r5 jRa0)) rfl jcl_53 rfl (Nat.le_of_ble_eq_true rfl) hF dX11_best_11 (fun x6 s7 r_x6 hF => ?_)
    refine ji_if_ne 20 (pc := 14) (jR51 r_x6) hF dX11_best_14 rfl (fun hF => ?_) (fun hF => ?_)
    · refine ji_aload_n (n := 0) (pc := 20) 53 rfl rfl rfl dX11_best_20 (fun r8 => ?_)
      refine ji_iload_n (n := 1) (pc := 21) l1 rfl rfl rfl dX11_best_21 (fun r9 => ?_)
      refine ji_callVi (pc := 22) 53 [l1] ([]) oX11_layUnseen wlX11_251 wmX11_layUnseen rfl rfl (Nat.le_of_ble_eq_true rfl) (jRaC (jRc3 rfl) (jRaC r9 jRa0)) rfl jcl_53 rfl (Nat.le_of_ble_eq_true rfl) hF dX11_best_22 (fun x10 s11 r_x10 hF => ?_)
      refine ji_istore_n (n := 2) (pc := 25) [3, 1, 1, 0, 0, 0, 0, 0, 0] [53, l1, x10, 0, 0, 0, 0, 0, 0] rfl r_x10 (Nat.le_of_ble_eq_true rfl) rfl rfl dX11_best_25 ?_
      refine ji_aload_n (n := 0) (pc := 26) 53 rfl rfl rfl dX11_best_26 (fun r12 => ?_)
      refine ji_iload_n (n := 1) (pc := 27) l1 rfl rfl rfl dX11_best_27 (fun r13 => ?_)
      refine ji_callVv (pc := 28) 53 [l1] ([]) oX11_look wlX11_188 wmX11_look rfl rfl (Nat.le_of_ble_eq_true rfl) (jRaC (jRc3 rfl) (jRaC r13 jRa0)) rfl jcl_53 rfl (Nat.le_of_ble_eq_true rfl) hF dX11_best_28 (fun x14 s15 hF => ?_)
      refine ji_aload_n (n := 0) (pc := 31) 53 rfl rfl rfl dX11_best_31 (fun r16 => ?_)
      refine ji_callVv (pc := 32) 53 [] ([]) oX11_layAll wlX11_223 wmX11_layAll rfl rfl (Nat.le_of_ble_eq_true rfl) (jRaC (jRc3 rfl) jRa0) rfl jcl_53 rfl (Nat.le_of_ble_eq_true rfl) hF dX11_best_32 (fun x17 s18 hF => ?_)
      refine jg_bipush (pc := 35) rfl dX11_best_35 ?_
      refine ji_istore_n (n := 3) (pc := 37) [3, 1, 1, 1, 0, 0, 0, 0, 0] [53, l1, x10, (-3), 0, 0, 0, 0, 0] rfl (jRc rfl) (Nat.le_of_ble_eq_true rfl) rfl rfl dX11_best_37 ?_
      refine jg_bipush (pc := 38) rfl dX11_best_38 ?_
      refine ji_istore (n := 4) (pc := 40) [3, 1, 1, 1, 1, 0, 0, 0, 0] [53, l1, x10, (-3), 99, 0, 0, 0, 0] (jRc rfl) (Nat.le_of_ble_eq_true rfl) rfl rfl dX11_best_40 ?_
      refine ji_iconst (pc := 42) dX11_best_42 ?_
      refine ji_istore (n := 5) (pc := 43) [3, 1, 1, 1, 1, 1, 0, 0, 0] [53, l1, x10, (-3), 99, (-1), 0, 0, 0] (jRc rfl) (Nat.le_of_ble_eq_true rfl) rfl rfl dX11_best_43 ?_
      refine ji_iconst (pc := 45) dX11_best_45 ?_
      refine ji_istore (n := 6) (pc := 46) [3, 1, 1, 1, 1, 1, 1, 0, 0] [53, l1, x10, (-3), 99, (-1), 0, 0, 0] (jRc rfl) (Nat.le_of_ble_eq_true rfl) rfl rfl dX11_best_46 ?_
      refine jg_norm [3, 0, 0, 1, 1, 1, 1, 0, 0] [53, 0, 0, (-3), 99, (-1), 0, 0, 0] rfl rfl ?_
      exact obX11_best_48W 1000 _ _ _ _ _ hF
    · refine jg_bipush (pc := 17) rfl dX11_best_17 ?_
      exact ji_reti (pc := 19) rfl (jRc rfl) hF dX11_best_19
  · refine ji_iconst (pc := 7) dX11_best_7 ?_
    exact ji_reti (pc := 8) rfl (jRc rfl) hF dX11_best_8
def fX11_lack (l1 l2 l3 l4 : Int) (s0 : jMem) : jO :=
jBd (fX11_isHand l1 s0) fun x2 s3 =>
if x2 = 0 then (
jRet (-1) s3)
else (
jBd (fX11_in l2 0 3 s3) fun x5 s6 =>
if x5 = 0 then (
jRet (-1) s6)
else (
jBd (fX11_in l3 0 4 s6) fun x8 s9 =>
if x8 = 0 then (
jRet (-1) s9)
else (
jBd (fX11_in l4 0 1 s9) fun x11 s12 =>
if x11 = 0 then (
jRet (-1) s12)
else (
jBd (fX11_look l1 s12) fun x15 s16 =>
jBd (fX11_layLacks l2 s16) fun x19 s20 =>
jLet (j32 (10 * l2)) fun x23 =>
jLet (j32 (2 * l3)) fun x25 =>
jLet (j32 (x23 + x25)) fun x26 =>
jLet (j32 (x26 + l4)) fun x28 =>
jGd ((0 : Int) ≤ x28 ∧ x28 < jik 74) <| jLet (s20 74 x28) fun x29 =>
if x29 = 99 then (
jRet (-3) s20)
else (
jRet x29 s20)))))
def gX11_lack (vs : List Int) (s : jMem) : jO := match vs with
  | [a0, a1, a2, a3, a4] => jGd (a0 = 53) <| fX11_lack a1 a2 a3 a4 s
  | _ => none
set_option maxRecDepth 100000 in
set_option maxHeartbeats 4000000 in
theorem oX11_lack : jOk MX11_lack [3, 1, 1, 1, 1] 3 (jFn gX11_lack) := by
  refine jOk_fn (by decide +kernel) (Nat.le_of_ble_eq_true rfl) (by decide +kernel) (.inr (.inl rfl)) ?_
  intro E vs s0 Rr hF ha
  obtain ⟨l0, t0, rfl, r_l0, ha⟩ := jRa_ci ha
  obtain ⟨l1, t1, rfl, r_l1, ha⟩ := jRa_ci ha
  obtain ⟨l2, t2, rfl, r_l2, ha⟩ := jRa_ci ha
  obtain ⟨l3, t3, rfl, r_l3, ha⟩ := jRa_ci ha
  obtain ⟨l4, t4, rfl, r_l4, ha⟩ := jRa_ci ha
  obtain rfl := jRa_ni ha
  replace hF : jHo Rr (jGd (l0 = 53) <| fX11_lack l1 l2 l3 l4 s0) := hF
  have hG := jHo_as hF
  clear hF
  obtain ⟨rfl, hF⟩ := hG
  refine jg_norm [3, 1, 1, 1, 1, 0] [53, l1, l2, l3, l4, 0] rfl rfl ?_
  unfold fX11_lack at hF
  refine ji_iload_n (n := 1) (pc := 0) l1 rfl rfl rfl dX11_lack_0 (fun r1 => ?_)
  refine ji_callSz (pc := 1) [l1] ([]) oX11_isHand wlX11_114 wmX11_isHand rfl rfl (Nat.le_of_ble_eq_true rfl) (jRaC r1 jRa0) rfl rfl (Nat.le_of_ble_eq_true rfl) hF dX11_lack_1 (fun x2 s3 r_x2 hF => ?_)
  refine ji_if_eq 42 (pc := 4) (jR51 r_x2) hF dX11_lack_4 rfl (fun hF => ?_) (fun hF => ?_)
  · refine ji_iconst (pc := 42) dX11_lack_42 ?_
    exact ji_reti (pc := 43) rfl (jRc rfl) hF dX11_lack_43
  · refine ji_iload_n (n := 2) (pc := 7) l2 rfl rfl rfl dX11_lack_7 (fun r4 => ?_)
    refine jg_i2l (pc := 8) r4 dX11_lack_8 ?_
    refine jg_lconst (n := 0) (pc := 9) rfl dX11_lack_9 ?_
    refine jg_ldc2 (n := 3) (pc := 10) wnX11_84 dX11_lack_10 ?_
    refine ji_callSz (pc := 13) [l2, 0, 3] ([]) oX11_in wlX11_86 wmX11_in rfl rfl (Nat.le_of_ble_eq_true rfl) (jRaC (jR12 r4) (jRaC (jRc2 rfl) (jRaC (jRc2 rfl) jRa0))) rfl rfl (Nat.le_of_ble_eq_true rfl) hF dX11_lack_13 (fun x5 s6 r_x5 hF => ?_)
    refine ji_if_eq 42 (pc := 16) (jR51 r_x5) hF dX11_lack_16 rfl (fun hF => ?_) (fun hF => ?_)
    · refine ji_iconst (pc := 42) dX11_lack_42 ?_
      exact ji_reti (pc := 43) rfl (jRc rfl) hF dX11_lack_43
    · refine ji_iload_n (n := 3) (pc := 19) l3 rfl rfl rfl dX11_lack_19 (fun r7 => ?_)
      refine jg_i2l (pc := 20) r7 dX11_lack_20 ?_
      refine jg_lconst (n := 0) (pc := 21) rfl dX11_lack_21 ?_
      refine jg_ldc2 (n := 4) (pc := 22) wnX11_195 dX11_lack_22 ?_
      refine ji_callSz (pc := 25) [l3, 0, 4] ([]) oX11_in wlX11_86 wmX11_in rfl rfl (Nat.le_of_ble_eq_true rfl) (jRaC (jR12 r7) (jRaC (jRc2 rfl) (jRaC (jRc2 rfl) jRa0))) rfl rfl (Nat.le_of_ble_eq_true rfl) hF dX11_lack_25 (fun x8 s9 r_x8 hF => ?_)
      refine ji_if_eq 42 (pc := 28) (jR51 r_x8) hF dX11_lack_28 rfl (fun hF => ?_) (fun hF => ?_)
      · refine ji_iconst (pc := 42) dX11_lack_42 ?_
        exact ji_reti (pc := 43) rfl (jRc rfl) hF dX11_lack_43
      · refine ji_iload (pc := 31) l4 rfl rfl dX11_lack_31 (fun r10 => ?_)
        refine jg_i2l (pc := 33) r10 dX11_lack_33 ?_
        refine jg_lconst (n := 0) (pc := 34) rfl dX11_lack_34 ?_
        refine jg_lconst (n := 1) (pc := 35) rfl dX11_lack_35 ?_
        refine ji_callSz (pc := 36) [l4, 0, 1] ([]) oX11_in wlX11_86 wmX11_in rfl rfl (Nat.le_of_ble_eq_true rfl) (jRaC (jR12 r10) (jRaC (jRc2 rfl) (jRaC (jRc2 rfl) jRa0))) rfl rfl (Nat.le_of_ble_eq_true rfl) hF dX11_lack_36 (fun x11 s12 r_x11 hF => ?_)
        refine ji_if_ne 44 (pc := 39) (jR51 r_x11) hF dX11_lack_39 rfl (fun hF => ?_) (fun hF => ?_)
        · refine ji_aload_n (n := 0) (pc := 44) 53 rfl rfl rfl dX11_lack_44 (fun r13 => ?_)
          refine ji_iload_n (n := 1) (pc := 45) l1 rfl rfl rfl dX11_lack_45 (fun r14 => ?_)
          refine ji_callVv (pc := 46) 53 [l1] ([]) oX11_look wlX11_188 wmX11_look rfl rfl (Nat.le_of_ble_eq_true rfl) (jRaC (jRc3 rfl) (jRaC r14 jRa0)) rfl jcl_53 rfl (Nat.le_of_ble_eq_true rfl) hF dX11_lack_46 (fun x15 s16 hF => ?_)
          refine ji_aload_n (n := 0) (pc := 49) 53 rfl rfl rfl dX11_lack_49 (fun r17 => ?_)
          refine ji_iload_n (n := 2) (pc := 50) l2 rfl rfl rfl dX11_lack_50 (fun r18 => ?_)
          refine ji_callVv (pc := 51) 53 [l2] ([]) oX11_layLacks wlX11_211 wmX11_layLacks rfl rfl (Nat.le_of_ble_eq_true rfl) (jRaC (jRc3 rfl) (jRaC r18 jRa0)) rfl jcl_53 rfl (Nat.le_of_ble_eq_true rfl) hF dX11_lack_51 (fun x19 s20 hF => ?_)
          refine ji_aload_n (n := 0) (pc := 54) 53 rfl rfl rfl dX11_lack_54 (fun r21 => ?_)
          refine ji_getr (pc := 55) 74 wfX11_74 (jRc3 rfl) jcl_53 jrf_53_25 dX11_lack_55 ?_
          refine jg_bipush (pc := 58) rfl dX11_lack_58 ?_
          refine ji_iload_n (n := 2) (pc := 60) l2 rfl rfl rfl dX11_lack_60 (fun r22 => ?_)
          refine ji_imul (pc := 61)  hF dX11_lack_61 (fun x23 r_x23 hF => ?_)
          refine ji_iconst (pc := 62) dX11_lack_62 ?_
          refine ji_iload_n (n := 3) (pc := 63) l3 rfl rfl rfl dX11_lack_63 (fun r24 => ?_)
          refine ji_imul (pc := 64)  hF dX11_lack_64 (fun x25 r_x25 hF => ?_)
          refine ji_iadd (pc := 65)  hF dX11_lack_65 (fun x26 r_x26 hF => ?_)
          refine ji_iload (pc := 66) l4 rfl rfl dX11_lack_66 (fun r27 => ?_)
          refine ji_iadd (pc := 68)  hF dX11_lack_68 (fun x28 r_x28 hF => ?_)
          refine ji_iaload (pc := 69) (jRc3 rfl) r_x28 hF dX11_lack_69 (fun x29 r_x29 hF => ?_)
          refine ji_istore (n := 5) (pc := 70) [3, 1, 1, 1, 1, 1] [53, l1, l2, l3, l4, x29] r_x29 (Nat.le_of_ble_eq_true rfl) rfl rfl dX11_lack_70 ?_
          refine ji_iload (pc := 72) x29 rfl rfl dX11_lack_72 (fun r30 => ?_)
          refine jg_bipush (pc := 74) rfl dX11_lack_74 ?_
          refine ji_icmp_ne 84 (pc := 76) r30 (jRc rfl) hF dX11_lack_76 rfl (fun hF => ?_) (fun hF => ?_)
          · refine ji_iload (pc := 84) x29 rfl rfl dX11_lack_84 (fun r31 => ?_)
            exact ji_reti (pc := 86) rfl r31 hF dX11_lack_86
          · refine jg_bipush (pc := 79) rfl dX11_lack_79 ?_
            refine jg_goto (pc := 81) 86 dX11_lack_81 rfl ?_
            exact ji_reti (pc := 86) rfl (jRc rfl) hF dX11_lack_86
        · refine ji_iconst (pc := 42) dX11_lack_42 ?_
          exact ji_reti (pc := 43) rfl (jRc rfl) hF dX11_lack_43
def bX11_making_47 (k59 : Int → Int → jMem → jO) (l2 t0 t1 : Int) (s0 : jMem) : jO :=
jLet (j32 (t0 + t1)) fun x1 =>
jGd ((0 : Int) ≤ l2 ∧ l2 < jik 68) <| jLet (s0 68 l2) fun x4 =>
jLet (j32 (x4 - 1)) fun x5 =>
jGd ((0 : Int) ≤ l2 ∧ l2 < jik 68) <| jLet (jU s0 68 l2 x5) fun s6 =>
k59 x1 l2 s6
def bX11_making_59 (k4 : Int → Int → jMem → jO) (l1 l2 : Int) (s0 : jMem) : jO :=
jLet (j32 (l2 + 1)) fun x1 =>
k4 l1 x1 s0
def bX11_making_4 (rec : Int → Int → jMem → jO) (l1 l2 : Int) (s0 : jMem) : jO :=
if 34 ≤ l2 then (
jRet l1 s0)
else (
jGd ((0 : Int) ≤ l2 ∧ l2 < jik 76) <| jLet (s0 76 l2) fun x5 =>
if x5 ≤ 0 then (
bX11_making_59 rec l1 l2 s0)
else (
jGd ((0 : Int) ≤ l2 ∧ l2 < jik 68) <| jLet (s0 68 l2) fun x8 =>
jLet (j32 (x8 + 1)) fun x9 =>
jGd ((0 : Int) ≤ l2 ∧ l2 < jik 68) <| jLet (jU s0 68 l2 x9) fun s10 =>
jBd (fX11_doneBy s10) fun x13 s14 =>
if x13 ≤ 0 then (
bX11_making_47 (bX11_making_59 rec) l2 l1 0 s14)
else (
jGd ((0 : Int) ≤ l2 ∧ l2 < jik 76) <| jLet (s14 76 l2) fun x17 =>
bX11_making_47 (bX11_making_59 rec) l2 l1 x17 s14)))
def fX11_making (s0 : jMem) : jO :=
jIt (fun _ _ _ => none) (bX11_making_4) 1000 0 0 s0
def gX11_making (vs : List Int) (s : jMem) : jO := match vs with
  | [a0] => jGd (a0 = 53) <| fX11_making s
  | _ => none
set_option maxRecDepth 100000 in
set_option maxHeartbeats 4000000 in
theorem obX11_making_47 {E : jEnv} {Rr : Int → jMem → Prop} {k59 : Int → Int → jMem → jO} (hk59 : ∀ (l1 l2 : Int) (s : jMem), jHo Rr (k59 l1 l2 s) → jGo E MX11_making 4 Rr [3, 1, 1] 59 [53, l1, l2] ([]) s) : ∀ (l2 t0 t1 : Int) (s : jMem), jR 1 t0 → jR 1 t1 → jHo Rr (bX11_making_47 k59 l2 t0 t1 s) → jGo E MX11_making 4 Rr [3, 0, 1] 47 [53, 0, l2] (jV E 1 t1 :: jV E 1 t0 :: []) s := by
  intro l2 t0 t1 s0 r_t0 r_t1 hF
  unfold bX11_making_47 at hF
  refine ji_iadd (pc := 47)  hF dX11_making_47 (fun x1 r_x1 hF => ?_)
  refine ji_istore_n (n := 1) (pc := 48) [3, 1, 1] [53, x1, l2] rfl r_x1 (Nat.le_of_ble_eq_true rfl) rfl rfl dX11_making_48 ?_
  refine ji_aload_n (n := 0) (pc := 49) 53 rfl rfl rfl dX11_making_49 (fun r2 => ?_)
  refine ji_getr (pc := 50) 68 wfX11_56 (jRc3 rfl) jcl_53 jrf_53_18 dX11_making_50 ?_
  refine ji_iload_n (n := 2) (pc := 53) l2 rfl rfl rfl dX11_making_53 (fun r3 => ?_)
  refine jg_dup2 (pc := 54) (by decide) (by decide) dX11_making_54 ?_
  refine ji_iaload (pc := 55) (jRc3 rfl) r3 hF dX11_making_55 (fun x4 r_x4 hF => ?_)
  refine ji_iconst (pc := 56) dX11_making_56 ?_
  refine ji_isub (pc := 57)  hF dX11_making_57 (fun x5 r_x5 hF => ?_)
  refine ji_iastore (pc := 58) (jRc3 rfl) r3 r_x5 hF dX11_making_58 (fun s6 hF => ?_)
  refine jg_norm [3, 1, 1] [53, x1, l2] rfl rfl ?_
  exact hk59 _ _ _ hF
set_option maxRecDepth 100000 in
set_option maxHeartbeats 4000000 in
theorem obX11_making_59 {E : jEnv} {Rr : Int → jMem → Prop} {k4 : Int → Int → jMem → jO} (hk4 : ∀ (l1 l2 : Int) (s : jMem), jHo Rr (k4 l1 l2 s) → jGo E MX11_making 4 Rr [3, 1, 1] 4 [53, l1, l2] ([]) s) : ∀ (l1 l2 : Int) (s : jMem), jHo Rr (bX11_making_59 k4 l1 l2 s) → jGo E MX11_making 4 Rr [3, 1, 1] 59 [53, l1, l2] ([]) s := by
  intro l1 l2 s0 hF
  unfold bX11_making_59 at hF
  refine ji_iinc (pc := 59) l2 (fun w => [53, l1, w]) rfl rfl rfl (fun _ => rfl) hF dX11_making_59 (fun x1 r_x1 hF => ?_)
  refine jg_goto (pc := 62) 4 dX11_making_62 rfl ?_
  refine jg_norm [3, 1, 1] [53, l1, x1] rfl rfl ?_
  exact hk4 _ _ _ hF
set_option maxRecDepth 100000 in
set_option maxHeartbeats 4000000 in
theorem obX11_making_4 {E : jEnv} {Rr : Int → jMem → Prop} {rec : Int → Int → jMem → jO} (hrec : ∀ (l1 l2 : Int) (s : jMem), jHo Rr (rec l1 l2 s) → jGo E MX11_making 4 Rr [3, 1, 1] 4 [53, l1, l2] ([]) s) : ∀ (l1 l2 : Int) (s : jMem), jHo Rr (bX11_making_4 rec l1 l2 s) → jGo E MX11_making 4 Rr [3, 1, 1] 4 [53, l1, l2] ([]) s := by
  intro l1 l2 s0 hF
  unfold bX11_making_4 at hF
  refine ji_iload_n (n := 2) (pc := 4) l2 rfl rfl rfl dX11_making_4 (fun r1 => ?_)
  refine jg_bipush (pc := 5) rfl dX11_making_5 ?_
  refine ji_icmp_ge 65 (pc := 7) r1 (jRc rfl) hF dX11_making_7 rfl (fun hF => ?_) (fun hF => ?_)
  · refine ji_iload_n (n := 1) (pc := 65) l1 rfl rfl rfl dX11_making_65 (fun r2 => ?_)
    exact ji_reti (pc := 66) rfl r2 hF dX11_making_66
  · refine ji_aload_n (n := 0) (pc := 10) 53 rfl rfl rfl dX11_making_10 (fun r3 => ?_)
    refine ji_getr (pc := 11) 76 wfX11_81 (jRc3 rfl) jcl_53 jrf_53_28 dX11_making_11 ?_
    refine ji_iload_n (n := 2) (pc := 14) l2 rfl rfl rfl dX11_making_14 (fun r4 => ?_)
    refine ji_iaload (pc := 15) (jRc3 rfl) r4 hF dX11_making_15 (fun x5 r_x5 hF => ?_)
    refine ji_if_le 59 (pc := 16) r_x5 hF dX11_making_16 rfl (fun hF => ?_) (fun hF => ?_)
    · refine jg_norm [3, 1, 1] [53, l1, l2] rfl rfl ?_
      exact obX11_making_59 hrec _ _ _ hF
    · refine ji_aload_n (n := 0) (pc := 19) 53 rfl rfl rfl dX11_making_19 (fun r6 => ?_)
      refine ji_getr (pc := 20) 68 wfX11_56 (jRc3 rfl) jcl_53 jrf_53_18 dX11_making_20 ?_
      refine ji_iload_n (n := 2) (pc := 23) l2 rfl rfl rfl dX11_making_23 (fun r7 => ?_)
      refine jg_dup2 (pc := 24) (by decide) (by decide) dX11_making_24 ?_
      refine ji_iaload (pc := 25) (jRc3 rfl) r7 hF dX11_making_25 (fun x8 r_x8 hF => ?_)
      refine ji_iconst (pc := 26) dX11_making_26 ?_
      refine ji_iadd (pc := 27)  hF dX11_making_27 (fun x9 r_x9 hF => ?_)
      refine ji_iastore (pc := 28) (jRc3 rfl) r7 r_x9 hF dX11_making_28 (fun s10 hF => ?_)
      refine ji_iload_n (n := 1) (pc := 29) l1 rfl rfl rfl dX11_making_29 (fun r11 => ?_)
      refine ji_aload_n (n := 0) (pc := 30) 53 rfl rfl rfl dX11_making_30 (fun r12 => ?_)
      refine ji_callVi (pc := 31) 53 [] (jV E 1 l1 :: []) oX11_doneBy wlX11_192 wmX11_doneBy rfl rfl (Nat.le_of_ble_eq_true rfl) (jRaC (jRc3 rfl) jRa0) rfl jcl_53 rfl (Nat.le_of_ble_eq_true rfl) hF dX11_making_31 (fun x13 s14 r_x13 hF => ?_)
      refine ji_if_le 46 (pc := 34) r_x13 hF dX11_making_34 rfl (fun hF => ?_) (fun hF => ?_)
      · refine ji_iconst (pc := 46) dX11_making_46 ?_
        refine jg_norm [3, 0, 1] [53, 0, l2] rfl rfl ?_
        exact obX11_making_47 (obX11_making_59 hrec) _ _ _ _ r11 (jRc rfl) hF
      · refine ji_aload_n (n := 0) (pc := 37) 53 rfl rfl rfl dX11_making_37 (fun r15 => ?_)
        refine ji_getr (pc := 38) 76 wfX11_81 (jRc3 rfl) jcl_53 jrf_53_28 dX11_making_38 ?_
        refine ji_iload_n (n := 2) (pc := 41) l2 rfl rfl rfl dX11_making_41 (fun r16 => ?_)
        refine ji_iaload (pc := 42) (jRc3 rfl) r16 hF dX11_making_42 (fun x17 r_x17 hF => ?_)
        refine jg_goto (pc := 43) 47 dX11_making_43 rfl ?_
        refine jg_norm [3, 0, 1] [53, 0, l2] rfl rfl ?_
        exact obX11_making_47 (obX11_making_59 hrec) _ _ _ _ r11 r_x17 hF
theorem obX11_making_4W {E : jEnv} {Rr : Int → jMem → Prop} : ∀ n : Nat, ∀ (l1 l2 : Int) (s : jMem), jHo Rr (jIt (fun _ _ _ => none) (bX11_making_4) n l1 l2 s) → jGo E MX11_making 4 Rr [3, 1, 1] 4 [53, l1, l2] ([]) s := by
  intro n
  induction n with
  | zero => intro l1 l2 s hF; exact jHo_none hF
  | succ n ih => exact obX11_making_4 ih

set_option maxRecDepth 100000 in
set_option maxHeartbeats 4000000 in
theorem oX11_making : jOk MX11_making [3] 4 (jFn gX11_making) := by
  refine jOk_fn (by decide +kernel) (Nat.le_of_ble_eq_true rfl) (by decide +kernel) (.inr (.inl rfl)) ?_
  intro E vs s0 Rr hF ha
  obtain ⟨l0, t0, rfl, r_l0, ha⟩ := jRa_ci ha
  obtain rfl := jRa_ni ha
  replace hF : jHo Rr (jGd (l0 = 53) <| fX11_making s0) := hF
  have hG := jHo_as hF
  clear hF
  obtain ⟨rfl, hF⟩ := hG
  refine jg_norm [3, 0, 0] [53, 0, 0] rfl rfl ?_
  unfold fX11_making at hF
  refine ji_iconst (pc := 0) dX11_making_0 ?_
  refine ji_istore_n (n := 1) (pc := 1) [3, 1, 0] [53, 0, 0] rfl (jRc rfl) (Nat.le_of_ble_eq_true rfl) rfl rfl dX11_making_1 ?_
  refine ji_iconst (pc := 2) dX11_making_2 ?_
  refine ji_istore_n (n := 2) (pc := 3) [3, 1, 1] [53, 0, 0] rfl (jRc rfl) (Nat.le_of_ble_eq_true rfl) rfl rfl dX11_making_3 ?_
  refine jg_norm [3, 1, 1] [53, 0, 0] rfl rfl ?_
  exact obX11_making_4W 1000 _ _ _ hF
def bX11_makingBest_58 (k69 : Int → Int → jMem → jO) (l2 t0 : Int) (s0 : jMem) : jO :=
jGd ((0 : Int) ≤ l2 ∧ l2 < jik 68) <| jLet (s0 68 l2) fun x3 =>
jLet (j32 (x3 + 1)) fun x4 =>
jGd ((0 : Int) ≤ l2 ∧ l2 < jik 68) <| jLet (jU s0 68 l2 x4) fun s5 =>
k69 t0 l2 s5
def bX11_makingBest_69 (k18 : Int → Int → jMem → jO) (l1 l2 : Int) (s0 : jMem) : jO :=
jLet (j32 (l2 + 1)) fun x1 =>
k18 l1 x1 s0
def bX11_makingBest_18 (rec : Int → Int → jMem → jO) (l1 l2 : Int) (s0 : jMem) : jO :=
if 34 ≤ l2 then (
jRet l1 s0)
else (
jGd ((0 : Int) ≤ l2 ∧ l2 < jik 68) <| jLet (s0 68 l2) fun x5 =>
if x5 ≤ 0 then (
bX11_makingBest_69 rec l1 l2 s0)
else (
jGd ((0 : Int) ≤ l2 ∧ l2 < jik 68) <| jLet (s0 68 l2) fun x8 =>
jLet (j32 (x8 - 1)) fun x9 =>
jGd ((0 : Int) ≤ l2 ∧ l2 < jik 68) <| jLet (jU s0 68 l2 x9) fun s10 =>
jBd (fX11_making s10) fun x12 s13 =>
if x12 ≤ l1 then (
bX11_makingBest_58 (bX11_makingBest_69 rec) l2 l1 s13)
else (
bX11_makingBest_58 (bX11_makingBest_69 rec) l2 x12 s13)))
def fX11_makingBest (s0 : jMem) : jO :=
jBd (fX11_layAll s0) fun x2 s3 =>
jBd (fX11_lackOf s3) fun x5 s6 =>
if x5 ≤ 1 then (
jIt (fun _ _ _ => none) (bX11_makingBest_18) 1000 0 0 s6)
else (
jRet 0 s6)
def gX11_makingBest (vs : List Int) (s : jMem) : jO := match vs with
  | [a0] => jGd (a0 = 53) <| fX11_makingBest s
  | _ => none
set_option maxRecDepth 100000 in
set_option maxHeartbeats 4000000 in
theorem obX11_makingBest_58 {E : jEnv} {Rr : Int → jMem → Prop} {k69 : Int → Int → jMem → jO} (hk69 : ∀ (l1 l2 : Int) (s : jMem), jHo Rr (k69 l1 l2 s) → jGo E MX11_makingBest 5 Rr [3, 1, 1, 0] 69 [53, l1, l2, 0] ([]) s) : ∀ (l2 t0 : Int) (s : jMem), jR 1 t0 → jHo Rr (bX11_makingBest_58 k69 l2 t0 s) → jGo E MX11_makingBest 5 Rr [3, 0, 1, 0] 58 [53, 0, l2, 0] (jV E 1 t0 :: []) s := by
  intro l2 t0 s0 r_t0 hF
  unfold bX11_makingBest_58 at hF
  refine ji_istore_n (n := 1) (pc := 58) [3, 1, 1, 0] [53, t0, l2, 0] rfl r_t0 (Nat.le_of_ble_eq_true rfl) rfl rfl dX11_makingBest_58 ?_
  refine ji_aload_n (n := 0) (pc := 59) 53 rfl rfl rfl dX11_makingBest_59 (fun r1 => ?_)
  refine ji_getr (pc := 60) 68 wfX11_56 (jRc3 rfl) jcl_53 jrf_53_18 dX11_makingBest_60 ?_
  refine ji_iload_n (n := 2) (pc := 63) l2 rfl rfl rfl dX11_makingBest_63 (fun r2 => ?_)
  refine jg_dup2 (pc := 64) (by decide) (by decide) dX11_makingBest_64 ?_
  refine ji_iaload (pc := 65) (jRc3 rfl) r2 hF dX11_makingBest_65 (fun x3 r_x3 hF => ?_)
  refine ji_iconst (pc := 66) dX11_makingBest_66 ?_
  refine ji_iadd (pc := 67)  hF dX11_makingBest_67 (fun x4 r_x4 hF => ?_)
  refine ji_iastore (pc := 68) (jRc3 rfl) r2 r_x4 hF dX11_makingBest_68 (fun s5 hF => ?_)
  refine jg_norm [3, 1, 1, 0] [53, t0, l2, 0] rfl rfl ?_
  exact hk69 _ _ _ hF
set_option maxRecDepth 100000 in
set_option maxHeartbeats 4000000 in
theorem obX11_makingBest_69 {E : jEnv} {Rr : Int → jMem → Prop} {k18 : Int → Int → jMem → jO} (hk18 : ∀ (l1 l2 : Int) (s : jMem), jHo Rr (k18 l1 l2 s) → jGo E MX11_makingBest 5 Rr [3, 1, 1, 0] 18 [53, l1, l2, 0] ([]) s) : ∀ (l1 l2 : Int) (s : jMem), jHo Rr (bX11_makingBest_69 k18 l1 l2 s) → jGo E MX11_makingBest 5 Rr [3, 1, 1, 0] 69 [53, l1, l2, 0] ([]) s := by
  intro l1 l2 s0 hF
  unfold bX11_makingBest_69 at hF
  refine ji_iinc (pc := 69) l2 (fun w => [53, l1, w, 0]) rfl rfl rfl (fun _ => rfl) hF dX11_makingBest_69 (fun x1 r_x1 hF => ?_)
  refine jg_goto (pc := 72) 18 dX11_makingBest_72 rfl ?_
  refine jg_norm [3, 1, 1, 0] [53, l1, x1, 0] rfl rfl ?_
  exact hk18 _ _ _ hF
set_option maxRecDepth 100000 in
set_option maxHeartbeats 4000000 in
theorem obX11_makingBest_18 {E : jEnv} {Rr : Int → jMem → Prop} {rec : Int → Int → jMem → jO} (hrec : ∀ (l1 l2 : Int) (s : jMem), jHo Rr (rec l1 l2 s) → jGo E MX11_makingBest 5 Rr [3, 1, 1, 0] 18 [53, l1, l2, 0] ([]) s) : ∀ (l1 l2 : Int) (s : jMem), jHo Rr (bX11_makingBest_18 rec l1 l2 s) → jGo E MX11_makingBest 5 Rr [3, 1, 1, 0] 18 [53, l1, l2, 0] ([]) s := by
  intro l1 l2 s0 hF
  unfold bX11_makingBest_18 at hF
  refine ji_iload_n (n := 2) (pc := 18) l2 rfl rfl rfl dX11_makingBest_18 (fun r1 => ?_)
  refine jg_bipush (pc := 19) rfl dX11_makingBest_19 ?_
  refine ji_icmp_ge 75 (pc := 21) r1 (jRc rfl) hF dX11_makingBest_21 rfl (fun hF => ?_) (fun hF => ?_)
  · refine ji_iload_n (n := 1) (pc := 75) l1 rfl rfl rfl dX11_makingBest_75 (fun r2 => ?_)
    exact ji_reti (pc := 76) rfl r2 hF dX11_makingBest_76
  · refine ji_aload_n (n := 0) (pc := 24) 53 rfl rfl rfl dX11_makingBest_24 (fun r3 => ?_)
    refine ji_getr (pc := 25) 68 wfX11_56 (jRc3 rfl) jcl_53 jrf_53_18 dX11_makingBest_25 ?_
    refine ji_iload_n (n := 2) (pc := 28) l2 rfl rfl rfl dX11_makingBest_28 (fun r4 => ?_)
    refine ji_iaload (pc := 29) (jRc3 rfl) r4 hF dX11_makingBest_29 (fun x5 r_x5 hF => ?_)
    refine ji_if_le 69 (pc := 30) r_x5 hF dX11_makingBest_30 rfl (fun hF => ?_) (fun hF => ?_)
    · refine jg_norm [3, 1, 1, 0] [53, l1, l2, 0] rfl rfl ?_
      exact obX11_makingBest_69 hrec _ _ _ hF
    · refine ji_aload_n (n := 0) (pc := 33) 53 rfl rfl rfl dX11_makingBest_33 (fun r6 => ?_)
      refine ji_getr (pc := 34) 68 wfX11_56 (jRc3 rfl) jcl_53 jrf_53_18 dX11_makingBest_34 ?_
      refine ji_iload_n (n := 2) (pc := 37) l2 rfl rfl rfl dX11_makingBest_37 (fun r7 => ?_)
      refine jg_dup2 (pc := 38) (by decide) (by decide) dX11_makingBest_38 ?_
      refine ji_iaload (pc := 39) (jRc3 rfl) r7 hF dX11_makingBest_39 (fun x8 r_x8 hF => ?_)
      refine ji_iconst (pc := 40) dX11_makingBest_40 ?_
      refine ji_isub (pc := 41)  hF dX11_makingBest_41 (fun x9 r_x9 hF => ?_)
      refine ji_iastore (pc := 42) (jRc3 rfl) r7 r_x9 hF dX11_makingBest_42 (fun s10 hF => ?_)
      refine ji_aload_n (n := 0) (pc := 43) 53 rfl rfl rfl dX11_makingBest_43 (fun r11 => ?_)
      refine ji_callVi (pc := 44) 53 [] ([]) oX11_making wlX11_257 wmX11_making rfl rfl (Nat.le_of_ble_eq_true rfl) (jRaC (jRc3 rfl) jRa0) rfl jcl_53 rfl (Nat.le_of_ble_eq_true rfl) hF dX11_makingBest_44 (fun x12 s13 r_x12 hF => ?_)
      refine ji_istore_n (n := 3) (pc := 47) [3, 1, 1, 1] [53, l1, l2, x12] rfl r_x12 (Nat.le_of_ble_eq_true rfl) rfl rfl dX11_makingBest_47 ?_
      refine ji_iload_n (n := 3) (pc := 48) x12 rfl rfl rfl dX11_makingBest_48 (fun r14 => ?_)
      refine ji_iload_n (n := 1) (pc := 49) l1 rfl rfl rfl dX11_makingBest_49 (fun r15 => ?_)
      refine ji_icmp_le 57 (pc := 50) r14 r15 hF dX11_makingBest_50 rfl (fun hF => ?_) (fun hF => ?_)
      · refine ji_iload_n (n := 1) (pc := 57) l1 rfl rfl rfl dX11_makingBest_57 (fun r16 => ?_)
        refine jg_norm [3, 0, 1, 0] [53, 0, l2, 0] rfl rfl ?_
        exact obX11_makingBest_58 (obX11_makingBest_69 hrec) _ _ _ r16 hF
      · refine ji_iload_n (n := 3) (pc := 53) x12 rfl rfl rfl dX11_makingBest_53 (fun r17 => ?_)
        refine jg_goto (pc := 54) 58 dX11_makingBest_54 rfl ?_
        refine jg_norm [3, 0, 1, 0] [53, 0, l2, 0] rfl rfl ?_
        exact obX11_makingBest_58 (obX11_makingBest_69 hrec) _ _ _ r17 hF
theorem obX11_makingBest_18W {E : jEnv} {Rr : Int → jMem → Prop} : ∀ n : Nat, ∀ (l1 l2 : Int) (s : jMem), jHo Rr (jIt (fun _ _ _ => none) (bX11_makingBest_18) n l1 l2 s) → jGo E MX11_makingBest 5 Rr [3, 1, 1, 0] 18 [53, l1, l2, 0] ([]) s := by
  intro n
  induction n with
  | zero => intro l1 l2 s hF; exact jHo_none hF
  | succ n ih => exact obX11_makingBest_18 ih

set_option maxRecDepth 100000 in
set_option maxHeartbeats 4000000 in
theorem oX11_makingBest : jOk MX11_makingBest [3] 5 (jFn gX11_makingBest) := by
  refine jOk_fn (by decide +kernel) (Nat.le_of_ble_eq_true rfl) (by decide +kernel) (.inr (.inl rfl)) ?_
  intro E vs s0 Rr hF ha
  obtain ⟨l0, t0, rfl, r_l0, ha⟩ := jRa_ci ha
  obtain rfl := jRa_ni ha
  replace hF : jHo Rr (jGd (l0 = 53) <| fX11_makingBest s0) := hF
  have hG := jHo_as hF
  clear hF
  obtain ⟨rfl, hF⟩ := hG
  refine jg_norm [3, 0, 0, 0] [53, 0, 0, 0] rfl rfl ?_
  unfold fX11_makingBest at hF
  refine ji_aload_n (n := 0) (pc := 0) 53 rfl rfl rfl dX11_makingBest_0 (fun r1 => ?_)
  refine ji_callVv (pc := 1) 53 [] ([]) oX11_layAll wlX11_223 wmX11_layAll rfl rfl (Nat.le_of_ble_eq_true rfl) (jRaC (jRc3 rfl) jRa0) rfl jcl_53 rfl (Nat.le_of_ble_eq_true rfl) hF dX11_makingBest_1 (fun x2 s3 hF => ?_)
  refine ji_aload_n (n := 0) (pc := 4) 53 rfl rfl rfl dX11_makingBest_4 (fun r4 => ?_)
  refine ji_callVi (pc := 5) 53 [] ([]) oX11_lackOf wlX11_226 wmX11_lackOf rfl rfl (Nat.le_of_ble_eq_true rfl) (jRaC (jRc3 rfl) jRa0) rfl jcl_53 rfl (Nat.le_of_ble_eq_true rfl) hF dX11_makingBest_5 (fun x5 s6 r_x5 hF => ?_)
  refine ji_iconst (pc := 8) dX11_makingBest_8 ?_
  refine ji_icmp_le 14 (pc := 9) r_x5 (jRc rfl) hF dX11_makingBest_9 rfl (fun hF => ?_) (fun hF => ?_)
  · refine ji_iconst (pc := 14) dX11_makingBest_14 ?_
    refine ji_istore_n (n := 1) (pc := 15) [3, 1, 0, 0] [53, 0, 0, 0] rfl (jRc rfl) (Nat.le_of_ble_eq_true rfl) rfl rfl dX11_makingBest_15 ?_
    refine ji_iconst (pc := 16) dX11_makingBest_16 ?_
    refine ji_istore_n (n := 2) (pc := 17) [3, 1, 1, 0] [53, 0, 0, 0] rfl (jRc rfl) (Nat.le_of_ble_eq_true rfl) rfl rfl dX11_makingBest_17 ?_
    refine jg_norm [3, 1, 1, 0] [53, 0, 0, 0] rfl rfl ?_
    exact obX11_makingBest_18W 1000 _ _ _ hF
  · refine ji_iconst (pc := 12) dX11_makingBest_12 ?_
    exact ji_reti (pc := 13) rfl (jRc rfl) hF dX11_makingBest_13
def bX11_odds_156 (k167 : Int → Int → Int → jMem → jO) (l3 l4 l5 : Int) (s0 : jMem) : jO :=
jGd ((0 : Int) ≤ l5 ∧ l5 < jik 68) <| jLet (s0 68 l5) fun x3 =>
jLet (j32 (x3 - 1)) fun x4 =>
jGd ((0 : Int) ≤ l5 ∧ l5 < jik 68) <| jLet (jU s0 68 l5 x4) fun s5 =>
k167 l3 l4 l5 s5
def bX11_odds_167 (k61 : Int → Int → Int → jMem → jO) (l3 l4 l5 : Int) (s0 : jMem) : jO :=
jLet (j32 (l5 + 1)) fun x1 =>
k61 l3 l4 x1 s0
def bX11_odds_61 (rec : Int → Int → Int → jMem → jO) (l3 l4 l5 : Int) (s0 : jMem) : jO :=
if 34 ≤ l5 then (
jRet l4 s0)
else (
jGd ((0 : Int) ≤ l5 ∧ l5 < jik 76) <| jLet (s0 76 l5) fun x5 =>
if x5 = 0 then (
bX11_odds_167 rec l3 l4 l5 s0)
else (
jGd ((0 : Int) ≤ l5 ∧ l5 < jik 76) <| jLet (s0 76 l5) fun x8 =>
jGd ((0 : Int) ≤ l5 ∧ l5 < jik 68) <| jLet (s0 68 l5) fun x11 =>
jLet (j32 (x11 + 1)) fun x12 =>
jGd ((0 : Int) ≤ l5 ∧ l5 < jik 68) <| jLet (jU s0 68 l5 x12) fun s13 =>
jBd (fX11_doneBy s13) fun x15 s16 =>
if x15 ≤ 0 then (
jGd ((0 : Int) ≤ l5 ∧ l5 < jik 76) <| jLet (s16 76 l5) fun x19 =>
jLet (j32 (x19 - 1)) fun x20 =>
jGd ((0 : Int) ≤ l5 ∧ l5 < jik 76) <| jLet (jU s16 76 l5 x20) fun s21 =>
jBd (fX11_makingBest s21) fun x25 s26 =>
jLet (j32 (x8 * x25)) fun x27 =>
jLet (j32 (l4 + x27)) fun x28 =>
jGd ((0 : Int) ≤ l5 ∧ l5 < jik 76) <| jLet (s26 76 l5) fun x31 =>
jLet (j32 (x31 + 1)) fun x32 =>
jGd ((0 : Int) ≤ l5 ∧ l5 < jik 76) <| jLet (jU s26 76 l5 x32) fun s33 =>
bX11_odds_156 (bX11_odds_167 rec) l3 x28 l5 s33)
else (
jLet (j32 (l3 - 1)) fun x37 =>
jLet (j32 (x8 * x37)) fun x38 =>
jLet (j32 (l4 + x38)) fun x39 =>
bX11_odds_156 (bX11_odds_167 rec) l3 x39 l5 s16)))
def fX11_odds (l1 l2 : Int) (s0 : jMem) : jO :=
jBd (fX11_isHand l1 s0) fun x2 s3 =>
if x2 = 0 then (
jRet (-1) s3)
else (
jBd (fX11_in l2 1 2 s3) fun x5 s6 =>
if x5 = 0 then (
jRet (-1) s6)
else (
jBd (fX11_sizeOf l1 s6) fun x9 s10 =>
if x9 = 13 then (
jBd (fX11_layUnseen l1 s10) fun x13 s14 =>
jBd (fX11_look l1 s14) fun x17 s18 =>
if l2 = 1 then (
jBd (fX11_making s18) fun x21 s22 =>
jRet x21 s22)
else (
jIt (fun _ _ _ _ => none) (bX11_odds_61) 1000 x13 0 0 s18))
else (
jRet (-2) s10)))
def gX11_odds (vs : List Int) (s : jMem) : jO := match vs with
  | [a0, a1, a2] => jGd (a0 = 53) <| fX11_odds a1 a2 s
  | _ => none
set_option maxRecDepth 100000 in
set_option maxHeartbeats 4000000 in
theorem obX11_odds_156 {E : jEnv} {Rr : Int → jMem → Prop} {k167 : Int → Int → Int → jMem → jO} (hk167 : ∀ (l3 l4 l5 : Int) (s : jMem), jHo Rr (k167 l3 l4 l5 s) → jGo E MX11_odds 6 Rr [3, 0, 0, 1, 1, 1, 0] 167 [53, 0, 0, l3, l4, l5, 0] ([]) s) : ∀ (l3 l4 l5 : Int) (s : jMem), jHo Rr (bX11_odds_156 k167 l3 l4 l5 s) → jGo E MX11_odds 6 Rr [3, 0, 0, 1, 1, 1, 0] 156 [53, 0, 0, l3, l4, l5, 0] ([]) s := by
  intro l3 l4 l5 s0 hF
  unfold bX11_odds_156 at hF
  refine ji_aload_n (n := 0) (pc := 156) 53 rfl rfl rfl dX11_odds_156 (fun r1 => ?_)
  refine ji_getr (pc := 157) 68 wfX11_56 (jRc3 rfl) jcl_53 jrf_53_18 dX11_odds_157 ?_
  refine ji_iload (pc := 160) l5 rfl rfl dX11_odds_160 (fun r2 => ?_)
  refine jg_dup2 (pc := 162) (by decide) (by decide) dX11_odds_162 ?_
  refine ji_iaload (pc := 163) (jRc3 rfl) r2 hF dX11_odds_163 (fun x3 r_x3 hF => ?_)
  refine ji_iconst (pc := 164) dX11_odds_164 ?_
  refine ji_isub (pc := 165)  hF dX11_odds_165 (fun x4 r_x4 hF => ?_)
  refine ji_iastore (pc := 166) (jRc3 rfl) r2 r_x4 hF dX11_odds_166 (fun s5 hF => ?_)
  refine jg_norm [3, 0, 0, 1, 1, 1, 0] [53, 0, 0, l3, l4, l5, 0] rfl rfl ?_
  exact hk167 _ _ _ _ hF
set_option maxRecDepth 100000 in
set_option maxHeartbeats 4000000 in
theorem obX11_odds_167 {E : jEnv} {Rr : Int → jMem → Prop} {k61 : Int → Int → Int → jMem → jO} (hk61 : ∀ (l3 l4 l5 : Int) (s : jMem), jHo Rr (k61 l3 l4 l5 s) → jGo E MX11_odds 6 Rr [3, 0, 0, 1, 1, 1, 0] 61 [53, 0, 0, l3, l4, l5, 0] ([]) s) : ∀ (l3 l4 l5 : Int) (s : jMem), jHo Rr (bX11_odds_167 k61 l3 l4 l5 s) → jGo E MX11_odds 6 Rr [3, 0, 0, 1, 1, 1, 0] 167 [53, 0, 0, l3, l4, l5, 0] ([]) s := by
  intro l3 l4 l5 s0 hF
  unfold bX11_odds_167 at hF
  refine ji_iinc (pc := 167) l5 (fun w => [53, 0, 0, l3, l4, w, 0]) rfl rfl rfl (fun _ => rfl) hF dX11_odds_167 (fun x1 r_x1 hF => ?_)
  refine jg_goto (pc := 170) 61 dX11_odds_170 rfl ?_
  refine jg_norm [3, 0, 0, 1, 1, 1, 0] [53, 0, 0, l3, l4, x1, 0] rfl rfl ?_
  exact hk61 _ _ _ _ hF
set_option maxRecDepth 100000 in
set_option maxHeartbeats 4000000 in
theorem obX11_odds_61 {E : jEnv} {Rr : Int → jMem → Prop} {rec : Int → Int → Int → jMem → jO} (hrec : ∀ (l3 l4 l5 : Int) (s : jMem), jHo Rr (rec l3 l4 l5 s) → jGo E MX11_odds 6 Rr [3, 0, 0, 1, 1, 1, 0] 61 [53, 0, 0, l3, l4, l5, 0] ([]) s) : ∀ (l3 l4 l5 : Int) (s : jMem), jHo Rr (bX11_odds_61 rec l3 l4 l5 s) → jGo E MX11_odds 6 Rr [3, 0, 0, 1, 1, 1, 0] 61 [53, 0, 0, l3, l4, l5, 0] ([]) s := by
  intro l3 l4 l5 s0 hF
  unfold bX11_odds_61 at hF
  refine ji_iload (pc := 61) l5 rfl rfl dX11_odds_61 (fun r1 => ?_)
  refine jg_bipush (pc := 63) rfl dX11_odds_63 ?_
  refine ji_icmp_ge 173 (pc := 65) r1 (jRc rfl) hF dX11_odds_65 rfl (fun hF => ?_) (fun hF => ?_)
  · refine ji_iload (pc := 173) l4 rfl rfl dX11_odds_173 (fun r2 => ?_)
    exact ji_reti (pc := 175) rfl r2 hF dX11_odds_175
  · refine ji_aload_n (n := 0) (pc := 68) 53 rfl rfl rfl dX11_odds_68 (fun r3 => ?_)
    refine ji_getr (pc := 69) 76 wfX11_81 (jRc3 rfl) jcl_53 jrf_53_28 dX11_odds_69 ?_
    refine ji_iload (pc := 72) l5 rfl rfl dX11_odds_72 (fun r4 => ?_)
    refine ji_iaload (pc := 74) (jRc3 rfl) r4 hF dX11_odds_74 (fun x5 r_x5 hF => ?_)
    refine ji_if_ne 81 (pc := 75) r_x5 hF dX11_odds_75 rfl (fun hF => ?_) (fun hF => ?_)
    · refine ji_aload_n (n := 0) (pc := 81) 53 rfl rfl rfl dX11_odds_81 (fun r6 => ?_)
      refine ji_getr (pc := 82) 76 wfX11_81 (jRc3 rfl) jcl_53 jrf_53_28 dX11_odds_82 ?_
      refine ji_iload (pc := 85) l5 rfl rfl dX11_odds_85 (fun r7 => ?_)
      refine ji_iaload (pc := 87) (jRc3 rfl) r7 hF dX11_odds_87 (fun x8 r_x8 hF => ?_)
      refine ji_istore (n := 6) (pc := 88) [3, 0, 0, 1, 1, 1, 1] [53, 0, 0, l3, l4, l5, x8] r_x8 (Nat.le_of_ble_eq_true rfl) rfl rfl dX11_odds_88 ?_
      refine ji_aload_n (n := 0) (pc := 90) 53 rfl rfl rfl dX11_odds_90 (fun r9 => ?_)
      refine ji_getr (pc := 91) 68 wfX11_56 (jRc3 rfl) jcl_53 jrf_53_18 dX11_odds_91 ?_
      refine ji_iload (pc := 94) l5 rfl rfl dX11_odds_94 (fun r10 => ?_)
      refine jg_dup2 (pc := 96) (by decide) (by decide) dX11_odds_96 ?_
      refine ji_iaload (pc := 97) (jRc3 rfl) r10 hF dX11_odds_97 (fun x11 r_x11 hF => ?_)
      refine ji_iconst (pc := 98) dX11_odds_98 ?_
      refine ji_iadd (pc := 99)  hF dX11_odds_99 (fun x12 r_x12 hF => ?_)
      refine ji_iastore (pc := 100) (jRc3 rfl) r10 r_x12 hF dX11_odds_100 (fun s13 hF => ?_)
      refine ji_aload_n (n := 0) (pc := 101) 53 rfl rfl rfl dX11_odds_101 (fun r14 => ?_)
      refine ji_callVi (pc := 102) 53 [] ([]) oX11_doneBy wlX11_192 wmX11_doneBy rfl rfl (Nat.le_of_ble_eq_true rfl) (jRaC (jRc3 rfl) jRa0) rfl jcl_53 rfl (Nat.le_of_ble_eq_true rfl) hF dX11_odds_102 (fun x15 s16 r_x15 hF => ?_)
      refine ji_if_le 122 (pc := 105) r_x15 hF dX11_odds_105 rfl (fun hF => ?_) (fun hF => ?_)
      · refine ji_aload_n (n := 0) (pc := 122) 53 rfl rfl rfl dX11_odds_122 (fun r17 => ?_)
        refine ji_getr (pc := 123) 76 wfX11_81 (jRc3 rfl) jcl_53 jrf_53_28 dX11_odds_123 ?_
        refine ji_iload (pc := 126) l5 rfl rfl dX11_odds_126 (fun r18 => ?_)
        refine jg_dup2 (pc := 128) (by decide) (by decide) dX11_odds_128 ?_
        refine ji_iaload (pc := 129) (jRc3 rfl) r18 hF dX11_odds_129 (fun x19 r_x19 hF => ?_)
        refine ji_iconst (pc := 130) dX11_odds_130 ?_
        refine ji_isub (pc := 131)  hF dX11_odds_131 (fun x20 r_x20 hF => ?_)
        refine ji_iastore (pc := 132) (jRc3 rfl) r18 r_x20 hF dX11_odds_132 (fun s21 hF => ?_)
        refine ji_iload (pc := 133) l4 rfl rfl dX11_odds_133 (fun r22 => ?_)
        refine ji_iload (pc := 135) x8 rfl rfl dX11_odds_135 (fun r23 => ?_)
        refine ji_aload_n (n := 0) (pc := 137) 53 rfl rfl rfl dX11_odds_137 (fun r24 => ?_)
        refine ji_callVi (pc := 138) 53 [] (jV E 1 x8 :: jV E 1 l4 :: []) oX11_makingBest wlX11_260 wmX11_makingBest rfl rfl (Nat.le_of_ble_eq_true rfl) (jRaC (jRc3 rfl) jRa0) rfl jcl_53 rfl (Nat.le_of_ble_eq_true rfl) hF dX11_odds_138 (fun x25 s26 r_x25 hF => ?_)
        refine ji_imul (pc := 141)  hF dX11_odds_141 (fun x27 r_x27 hF => ?_)
        refine ji_iadd (pc := 142)  hF dX11_odds_142 (fun x28 r_x28 hF => ?_)
        refine ji_istore (n := 4) (pc := 143) [3, 0, 0, 1, 1, 1, 1] [53, 0, 0, l3, x28, l5, x8] r_x28 (Nat.le_of_ble_eq_true rfl) rfl rfl dX11_odds_143 ?_
        refine ji_aload_n (n := 0) (pc := 145) 53 rfl rfl rfl dX11_odds_145 (fun r29 => ?_)
        refine ji_getr (pc := 146) 76 wfX11_81 (jRc3 rfl) jcl_53 jrf_53_28 dX11_odds_146 ?_
        refine ji_iload (pc := 149) l5 rfl rfl dX11_odds_149 (fun r30 => ?_)
        refine jg_dup2 (pc := 151) (by decide) (by decide) dX11_odds_151 ?_
        refine ji_iaload (pc := 152) (jRc3 rfl) r30 hF dX11_odds_152 (fun x31 r_x31 hF => ?_)
        refine ji_iconst (pc := 153) dX11_odds_153 ?_
        refine ji_iadd (pc := 154)  hF dX11_odds_154 (fun x32 r_x32 hF => ?_)
        refine ji_iastore (pc := 155) (jRc3 rfl) r30 r_x32 hF dX11_odds_155 (fun s33 hF => ?_)
        refine jg_norm [3, 0, 0, 1, 1, 1, 0] [53, 0, 0, l3, x28, l5, 0] rfl rfl ?_
        exact obX11_odds_156 (obX11_odds_167 hrec) _ _ _ _ hF
      · refine ji_iload (pc := 108) l4 rfl rfl dX11_odds_108 (fun r34 => ?_)
        refine ji_iload (pc := 110) x8 rfl rfl dX11_odds_110 (fun r35 => ?_)
        refine ji_iload_n (n := 3) (pc := 112) l3 rfl rfl rfl dX11_odds_112 (fun r36 => ?_)
        refine ji_iconst (pc := 113) dX11_odds_113 ?_
        refine ji_isub (pc := 114)  hF dX11_odds_114 (fun x37 r_x37 hF => ?_)
        refine ji_imul (pc := 115)  hF dX11_odds_115 (fun x38 r_x38 hF => ?_)
        refine ji_iadd (pc := 116)  hF dX11_odds_116 (fun x39 r_x39 hF => ?_)
        refine ji_istore (n := 4) (pc := 117) [3, 0, 0, 1, 1, 1, 1] [53, 0, 0, l3, x39, l5, x8] r_x39 (Nat.le_of_ble_eq_true rfl) rfl rfl dX11_odds_117 ?_
        refine jg_goto (pc := 119) 156 dX11_odds_119 rfl ?_
        refine jg_norm [3, 0, 0, 1, 1, 1, 0] [53, 0, 0, l3, x39, l5, 0] rfl rfl ?_
        exact obX11_odds_156 (obX11_odds_167 hrec) _ _ _ _ hF
    · refine jg_goto (pc := 78) 167 dX11_odds_78 rfl ?_
      refine jg_norm [3, 0, 0, 1, 1, 1, 0] [53, 0, 0, l3, l4, l5, 0] rfl rfl ?_
      exact obX11_odds_167 hrec _ _ _ _ hF
theorem obX11_odds_61W {E : jEnv} {Rr : Int → jMem → Prop} : ∀ n : Nat, ∀ (l3 l4 l5 : Int) (s : jMem), jHo Rr (jIt (fun _ _ _ _ => none) (bX11_odds_61) n l3 l4 l5 s) → jGo E MX11_odds 6 Rr [3, 0, 0, 1, 1, 1, 0] 61 [53, 0, 0, l3, l4, l5, 0] ([]) s := by
  intro n
  induction n with
  | zero => intro l3 l4 l5 s hF; exact jHo_none hF
  | succ n ih => exact obX11_odds_61 ih

set_option maxRecDepth 100000 in
set_option maxHeartbeats 4000000 in
theorem oX11_odds : jOk MX11_odds [3, 1, 1] 6 (jFn gX11_odds) := by
  refine jOk_fn (by decide +kernel) (Nat.le_of_ble_eq_true rfl) (by decide +kernel) (.inr (.inl rfl)) ?_
  intro E vs s0 Rr hF ha
  obtain ⟨l0, t0, rfl, r_l0, ha⟩ := jRa_ci ha
  obtain ⟨l1, t1, rfl, r_l1, ha⟩ := jRa_ci ha
  obtain ⟨l2, t2, rfl, r_l2, ha⟩ := jRa_ci ha
  obtain rfl := jRa_ni ha
  replace hF : jHo Rr (jGd (l0 = 53) <| fX11_odds l1 l2 s0) := hF
  have hG := jHo_as hF
  clear hF
  obtain ⟨rfl, hF⟩ := hG
  refine jg_norm [3, 1, 1, 0, 0, 0, 0] [53, l1, l2, 0, 0, 0, 0] rfl rfl ?_
  unfold fX11_odds at hF
  refine ji_iload_n (n := 1) (pc := 0) l1 rfl rfl rfl dX11_odds_0 (fun r1 => ?_)
  refine ji_callSz (pc := 1) [l1] ([]) oX11_isHand wlX11_114 wmX11_isHand rfl rfl (Nat.le_of_ble_eq_true rfl) (jRaC r1 jRa0) rfl rfl (Nat.le_of_ble_eq_true rfl) hF dX11_odds_1 (fun x2 s3 r_x2 hF => ?_)
  refine ji_if_eq 19 (pc := 4) (jR51 r_x2) hF dX11_odds_4 rfl (fun hF => ?_) (fun hF => ?_)
  · refine ji_iconst (pc := 19) dX11_odds_19 ?_
    exact ji_reti (pc := 20) rfl (jRc rfl) hF dX11_odds_20
  · refine ji_iload_n (n := 2) (pc := 7) l2 rfl rfl rfl dX11_odds_7 (fun r4 => ?_)
    refine jg_i2l (pc := 8) r4 dX11_odds_8 ?_
    refine jg_lconst (n := 1) (pc := 9) rfl dX11_odds_9 ?_
    refine jg_ldc2 (n := 2) (pc := 10) wnX11_100 dX11_odds_10 ?_
    refine ji_callSz (pc := 13) [l2, 1, 2] ([]) oX11_in wlX11_86 wmX11_in rfl rfl (Nat.le_of_ble_eq_true rfl) (jRaC (jR12 r4) (jRaC (jRc2 rfl) (jRaC (jRc2 rfl) jRa0))) rfl rfl (Nat.le_of_ble_eq_true rfl) hF dX11_odds_13 (fun x5 s6 r_x5 hF => ?_)
    refine ji_if_ne 21 (pc := 16) (jR51 r_x5) hF dX11_odds_16 rfl (fun hF => ?_) (fun hF => ?_)
    · refine ji_aload_n (n := 0) (pc := 21) 53 rfl rfl rfl dX11_odds_21 (fun r7 => ?_)
      refine ji_iload_n (n := 1) (pc := 22) l1 rfl rfl rfl dX11_odds_22 (fun r8 => ?_)
      refine ji_callVi (pc := 23) 53 [l1] ([]) oX11_sizeOf wlX11_117 wmX11_sizeOf rfl rfl (Nat.le_of_ble_eq_true rfl) (jRaC (jRc3 rfl) (jRaC r8 jRa0)) rfl jcl_53 rfl (Nat.le_of_ble_eq_true rfl) hF dX11_odds_23 (fun x9 s10 r_x9 hF => ?_)
      refine jg_bipush (pc := 26) rfl dX11_odds_26 ?_
      refine ji_icmp_eq 34 (pc := 28) r_x9 (jRc rfl) hF dX11_odds_28 rfl (fun hF => ?_) (fun hF => ?_)
      · refine ji_aload_n (n := 0) (pc := 34) 53 rfl rfl rfl dX11_odds_34 (fun r11 => ?_)
        refine ji_iload_n (n := 1) (pc := 35) l1 rfl rfl rfl dX11_odds_35 (fun r12 => ?_)
        refine ji_callVi (pc := 36) 53 [l1] ([]) oX11_layUnseen wlX11_251 wmX11_layUnseen rfl rfl (Nat.le_of_ble_eq_true rfl) (jRaC (jRc3 rfl) (jRaC r12 jRa0)) rfl jcl_53 rfl (Nat.le_of_ble_eq_true rfl) hF dX11_odds_36 (fun x13 s14 r_x13 hF => ?_)
        refine ji_istore_n (n := 3) (pc := 39) [3, 1, 1, 1, 0, 0, 0] [53, l1, l2, x13, 0, 0, 0] rfl r_x13 (Nat.le_of_ble_eq_true rfl) rfl rfl dX11_odds_39 ?_
        refine ji_aload_n (n := 0) (pc := 40) 53 rfl rfl rfl dX11_odds_40 (fun r15 => ?_)
        refine ji_iload_n (n := 1) (pc := 41) l1 rfl rfl rfl dX11_odds_41 (fun r16 => ?_)
        refine ji_callVv (pc := 42) 53 [l1] ([]) oX11_look wlX11_188 wmX11_look rfl rfl (Nat.le_of_ble_eq_true rfl) (jRaC (jRc3 rfl) (jRaC r16 jRa0)) rfl jcl_53 rfl (Nat.le_of_ble_eq_true rfl) hF dX11_odds_42 (fun x17 s18 hF => ?_)
        refine ji_iload_n (n := 2) (pc := 45) l2 rfl rfl rfl dX11_odds_45 (fun r19 => ?_)
        refine ji_iconst (pc := 46) dX11_odds_46 ?_
        refine ji_icmp_ne 55 (pc := 47) r19 (jRc rfl) hF dX11_odds_47 rfl (fun hF => ?_) (fun hF => ?_)
        · refine ji_iconst (pc := 55) dX11_odds_55 ?_
          refine ji_istore (n := 4) (pc := 56) [3, 1, 1, 1, 1, 0, 0] [53, l1, l2, x13, 0, 0, 0] (jRc rfl) (Nat.le_of_ble_eq_true rfl) rfl rfl dX11_odds_56 ?_
          refine ji_iconst (pc := 58) dX11_odds_58 ?_
          refine ji_istore (n := 5) (pc := 59) [3, 1, 1, 1, 1, 1, 0] [53, l1, l2, x13, 0, 0, 0] (jRc rfl) (Nat.le_of_ble_eq_true rfl) rfl rfl dX11_odds_59 ?_
          refine jg_norm [3, 0, 0, 1, 1, 1, 0] [53, 0, 0, x13, 0, 0, 0] rfl rfl ?_
          exact obX11_odds_61W 1000 _ _ _ _ hF
        · refine ji_aload_n (n := 0) (pc := 50) 53 rfl rfl rfl dX11_odds_50 (fun r20 => ?_)
          refine ji_callVi (pc := 51) 53 [] ([]) oX11_making wlX11_257 wmX11_making rfl rfl (Nat.le_of_ble_eq_true rfl) (jRaC (jRc3 rfl) jRa0) rfl jcl_53 rfl (Nat.le_of_ble_eq_true rfl) hF dX11_odds_51 (fun x21 s22 r_x21 hF => ?_)
          exact ji_reti (pc := 54) rfl r_x21 hF dX11_odds_54
      · refine jg_bipush (pc := 31) rfl dX11_odds_31 ?_
        exact ji_reti (pc := 33) rfl (jRc rfl) hF dX11_odds_33
    · refine ji_iconst (pc := 19) dX11_odds_19 ?_
      exact ji_reti (pc := 20) rfl (jRc rfl) hF dX11_odds_20
def fX11_unseen (l1 : Int) (s0 : jMem) : jO :=
jBd (fX11_isHand l1 s0) fun x2 s3 =>
if x2 = 0 then (
jRet (-1) s3)
else (
jBd (fX11_layUnseen l1 s3) fun x6 s7 =>
jRet x6 s7)
def gX11_unseen (vs : List Int) (s : jMem) : jO := match vs with
  | [a0, a1] => jGd (a0 = 53) <| fX11_unseen a1 s
  | _ => none
set_option maxRecDepth 100000 in
set_option maxHeartbeats 4000000 in
theorem oX11_unseen : jOk MX11_unseen [3, 1] 2 (jFn gX11_unseen) := by
  refine jOk_fn (by decide +kernel) (Nat.le_of_ble_eq_true rfl) (by decide +kernel) (.inr (.inl rfl)) ?_
  intro E vs s0 Rr hF ha
  obtain ⟨l0, t0, rfl, r_l0, ha⟩ := jRa_ci ha
  obtain ⟨l1, t1, rfl, r_l1, ha⟩ := jRa_ci ha
  obtain rfl := jRa_ni ha
  replace hF : jHo Rr (jGd (l0 = 53) <| fX11_unseen l1 s0) := hF
  have hG := jHo_as hF
  clear hF
  obtain ⟨rfl, hF⟩ := hG
  refine jg_norm [3, 1] [53, l1] rfl rfl ?_
  unfold fX11_unseen at hF
  refine ji_iload_n (n := 1) (pc := 0) l1 rfl rfl rfl dX11_unseen_0 (fun r1 => ?_)
  refine ji_callSz (pc := 1) [l1] ([]) oX11_isHand wlX11_114 wmX11_isHand rfl rfl (Nat.le_of_ble_eq_true rfl) (jRaC r1 jRa0) rfl rfl (Nat.le_of_ble_eq_true rfl) hF dX11_unseen_1 (fun x2 s3 r_x2 hF => ?_)
  refine ji_if_eq 15 (pc := 4) (jR51 r_x2) hF dX11_unseen_4 rfl (fun hF => ?_) (fun hF => ?_)
  · refine ji_iconst (pc := 15) dX11_unseen_15 ?_
    exact ji_reti (pc := 16) rfl (jRc rfl) hF dX11_unseen_16
  · refine ji_aload_n (n := 0) (pc := 7) 53 rfl rfl rfl dX11_unseen_7 (fun r4 => ?_)
    refine ji_iload_n (n := 1) (pc := 8) l1 rfl rfl rfl dX11_unseen_8 (fun r5 => ?_)
    refine ji_callVi (pc := 9) 53 [l1] ([]) oX11_layUnseen wlX11_251 wmX11_layUnseen rfl rfl (Nat.le_of_ble_eq_true rfl) (jRaC (jRc3 rfl) (jRaC r5 jRa0)) rfl jcl_53 rfl (Nat.le_of_ble_eq_true rfl) hF dX11_unseen_9 (fun x6 s7 r_x6 hF => ?_)
    refine jg_goto (pc := 12) 16 dX11_unseen_12 rfl ?_
    exact ji_reti (pc := 16) rfl r_x6 hF dX11_unseen_16
def bX11_isRow_64 (k73 : Int → Int → Int → Int → Int → Int → jMem → jO) (k74 : Int → Int → Int → Int → Int → Int → Int → jMem → jO) (l1 l2 l3 l4 l5 l7 t0 t2 t3 : Int) (s0 : jMem) : jO :=
jLet (j32 (t2 + t3)) fun x1 =>
jGd ((0 : Int) ≤ x1 ∧ x1 < jik 56) <| jLet (s0 56 x1) fun x2 =>
if t0 = x2 then (
k74 l1 l2 l3 l4 l5 l7 1 s0)
else (
k73 l1 l2 l3 l4 l5 l7 s0)
def bX11_isRow_73 (k74 : Int → Int → Int → Int → Int → Int → Int → jMem → jO) (l1 l2 l3 l4 l5 l7 : Int) (s0 : jMem) : jO :=
k74 l1 l2 l3 l4 l5 l7 0 s0
def bX11_isRow_74 (k6 : Int → Int → Int → Int → Int → Int → Int → jMem → jO) (l1 l2 l3 l4 l5 l7 t0 : Int) (s0 : jMem) : jO :=
jLet (j32 (l7 + 1)) fun x1 =>
k6 l1 l2 l3 l4 l5 t0 x1 s0
def bX11_isRow_6 (rec : Int → Int → Int → Int → Int → Int → Int → jMem → jO) (l1 l2 l3 l4 l5 l6 l7 : Int) (s0 : jMem) : jO :=
if 9 ≤ l7 then (
jGd (0 ≤ l6 ∧ l6 ≤ 1) <| jRet l6 s0)
else (
if l6 = 0 then (
bX11_isRow_73 (bX11_isRow_74 rec) l1 l2 l3 l4 l5 l7 s0)
else (
jLet (j32 (34 * l1)) fun x7 =>
jLet (j32 (9 * l2)) fun x9 =>
jLet (j32 (x7 + x9)) fun x10 =>
jLet (j32 (x10 + l7)) fun x12 =>
jGd ((0 : Int) ≤ x12 ∧ x12 < jik 56) <| jLet (s0 56 x12) fun x13 =>
jLet (j32 (34 * l3)) fun x16 =>
jLet (j32 (9 * l4)) fun x18 =>
jLet (j32 (x16 + x18)) fun x19 =>
if l5 = 0 then (
bX11_isRow_64 (bX11_isRow_73 (bX11_isRow_74 rec)) (bX11_isRow_74 rec) l1 l2 l3 l4 l5 l7 x13 x19 l7 s0)
else (
jLet (j32 (8 - l7)) fun x23 =>
bX11_isRow_64 (bX11_isRow_73 (bX11_isRow_74 rec)) (bX11_isRow_74 rec) l1 l2 l3 l4 l5 l7 x13 x19 x23 s0)))
def fX11_isRow (l1 l2 l3 l4 l5 : Int) (s0 : jMem) : jO :=
jIt (fun _ _ _ _ _ _ _ _ => none) (bX11_isRow_6) 1000 l1 l2 l3 l4 l5 1 0 s0
def gX11_isRow (vs : List Int) (s : jMem) : jO := match vs with
  | [a0, a1, a2, a3, a4, a5] => jGd (a0 = 53) <| fX11_isRow a1 a2 a3 a4 a5 s
  | _ => none
set_option maxRecDepth 100000 in
set_option maxHeartbeats 4000000 in
theorem obX11_isRow_64 {E : jEnv} {Rr : Int → jMem → Prop} {k73 : Int → Int → Int → Int → Int → Int → jMem → jO} {k74 : Int → Int → Int → Int → Int → Int → Int → jMem → jO} (hk73 : ∀ (l1 l2 l3 l4 l5 l7 : Int) (s : jMem), jHo Rr (k73 l1 l2 l3 l4 l5 l7 s) → jGo E MX11_isRow 0 Rr [3, 1, 1, 1, 1, 1, 0, 1] 73 [53, l1, l2, l3, l4, l5, 0, l7] ([]) s) (hk74 : ∀ (l1 l2 l3 l4 l5 l7 t0 : Int) (s : jMem), jR 1 t0 → jHo Rr (k74 l1 l2 l3 l4 l5 l7 t0 s) → jGo E MX11_isRow 0 Rr [3, 1, 1, 1, 1, 1, 0, 1] 74 [53, l1, l2, l3, l4, l5, 0, l7] (jV E 1 t0 :: []) s) : ∀ (l1 l2 l3 l4 l5 l7 t0 t2 t3 : Int) (s : jMem), jR 1 t0 → jR 1 t2 → jR 1 t3 → jHo Rr (bX11_isRow_64 k73 k74 l1 l2 l3 l4 l5 l7 t0 t2 t3 s) → jGo E MX11_isRow 0 Rr [3, 1, 1, 1, 1, 1, 0, 1] 64 [53, l1, l2, l3, l4, l5, 0, l7] (jV E 1 t3 :: jV E 1 t2 :: jV E 3 56 :: jV E 1 t0 :: []) s := by
  intro l1 l2 l3 l4 l5 l7 t0 t2 t3 s0 r_t0 r_t2 r_t3 hF
  unfold bX11_isRow_64 at hF
  refine ji_iadd (pc := 64)  hF dX11_isRow_64 (fun x1 r_x1 hF => ?_)
  refine ji_iaload (pc := 65) (jRc3 rfl) r_x1 hF dX11_isRow_65 (fun x2 r_x2 hF => ?_)
  refine ji_icmp_ne 73 (pc := 66) r_t0 r_x2 hF dX11_isRow_66 rfl (fun hF => ?_) (fun hF => ?_)
  · refine jg_norm [3, 1, 1, 1, 1, 1, 0, 1] [53, l1, l2, l3, l4, l5, 0, l7] rfl rfl ?_
    exact hk73 _ _ _ _ _ _ _ hF
  · refine ji_iconst (pc := 69) dX11_isRow_69 ?_
    refine jg_goto (pc := 70) 74 dX11_isRow_70 rfl ?_
    refine jg_norm [3, 1, 1, 1, 1, 1, 0, 1] [53, l1, l2, l3, l4, l5, 0, l7] rfl rfl ?_
    exact hk74 _ _ _ _ _ _ _ _ (jRc rfl) hF
set_option maxRecDepth 100000 in
set_option maxHeartbeats 4000000 in
theorem obX11_isRow_73 {E : jEnv} {Rr : Int → jMem → Prop} {k74 : Int → Int → Int → Int → Int → Int → Int → jMem → jO} (hk74 : ∀ (l1 l2 l3 l4 l5 l7 t0 : Int) (s : jMem), jR 1 t0 → jHo Rr (k74 l1 l2 l3 l4 l5 l7 t0 s) → jGo E MX11_isRow 0 Rr [3, 1, 1, 1, 1, 1, 0, 1] 74 [53, l1, l2, l3, l4, l5, 0, l7] (jV E 1 t0 :: []) s) : ∀ (l1 l2 l3 l4 l5 l7 : Int) (s : jMem), jHo Rr (bX11_isRow_73 k74 l1 l2 l3 l4 l5 l7 s) → jGo E MX11_isRow 0 Rr [3, 1, 1, 1, 1, 1, 0, 1] 73 [53, l1, l2, l3, l4, l5, 0, l7] ([]) s := by
  intro l1 l2 l3 l4 l5 l7 s0 hF
  unfold bX11_isRow_73 at hF
  refine ji_iconst (pc := 73) dX11_isRow_73 ?_
  refine jg_norm [3, 1, 1, 1, 1, 1, 0, 1] [53, l1, l2, l3, l4, l5, 0, l7] rfl rfl ?_
  exact hk74 _ _ _ _ _ _ _ _ (jRc rfl) hF
set_option maxRecDepth 100000 in
set_option maxHeartbeats 4000000 in
theorem obX11_isRow_74 {E : jEnv} {Rr : Int → jMem → Prop} {k6 : Int → Int → Int → Int → Int → Int → Int → jMem → jO} (hk6 : ∀ (l1 l2 l3 l4 l5 l6 l7 : Int) (s : jMem), jHo Rr (k6 l1 l2 l3 l4 l5 l6 l7 s) → jGo E MX11_isRow 0 Rr [3, 1, 1, 1, 1, 1, 1, 1] 6 [53, l1, l2, l3, l4, l5, l6, l7] ([]) s) : ∀ (l1 l2 l3 l4 l5 l7 t0 : Int) (s : jMem), jR 1 t0 → jHo Rr (bX11_isRow_74 k6 l1 l2 l3 l4 l5 l7 t0 s) → jGo E MX11_isRow 0 Rr [3, 1, 1, 1, 1, 1, 0, 1] 74 [53, l1, l2, l3, l4, l5, 0, l7] (jV E 1 t0 :: []) s := by
  intro l1 l2 l3 l4 l5 l7 t0 s0 r_t0 hF
  unfold bX11_isRow_74 at hF
  refine ji_istore (n := 6) (pc := 74) [3, 1, 1, 1, 1, 1, 1, 1] [53, l1, l2, l3, l4, l5, t0, l7] r_t0 (Nat.le_of_ble_eq_true rfl) rfl rfl dX11_isRow_74 ?_
  refine ji_iinc (pc := 76) l7 (fun w => [53, l1, l2, l3, l4, l5, t0, w]) rfl rfl rfl (fun _ => rfl) hF dX11_isRow_76 (fun x1 r_x1 hF => ?_)
  refine jg_goto (pc := 79) 6 dX11_isRow_79 rfl ?_
  refine jg_norm [3, 1, 1, 1, 1, 1, 1, 1] [53, l1, l2, l3, l4, l5, t0, x1] rfl rfl ?_
  exact hk6 _ _ _ _ _ _ _ _ hF
set_option maxRecDepth 100000 in
set_option maxHeartbeats 4000000 in
theorem obX11_isRow_6 {E : jEnv} {Rr : Int → jMem → Prop} {rec : Int → Int → Int → Int → Int → Int → Int → jMem → jO} (hrec : ∀ (l1 l2 l3 l4 l5 l6 l7 : Int) (s : jMem), jHo Rr (rec l1 l2 l3 l4 l5 l6 l7 s) → jGo E MX11_isRow 0 Rr [3, 1, 1, 1, 1, 1, 1, 1] 6 [53, l1, l2, l3, l4, l5, l6, l7] ([]) s) : ∀ (l1 l2 l3 l4 l5 l6 l7 : Int) (s : jMem), jHo Rr (bX11_isRow_6 rec l1 l2 l3 l4 l5 l6 l7 s) → jGo E MX11_isRow 0 Rr [3, 1, 1, 1, 1, 1, 1, 1] 6 [53, l1, l2, l3, l4, l5, l6, l7] ([]) s := by
  intro l1 l2 l3 l4 l5 l6 l7 s0 hF
  unfold bX11_isRow_6 at hF
  refine ji_iload (pc := 6) l7 rfl rfl dX11_isRow_6 (fun r1 => ?_)
  refine jg_bipush (pc := 8) rfl dX11_isRow_8 ?_
  refine ji_icmp_ge 82 (pc := 10) r1 (jRc rfl) hF dX11_isRow_10 rfl (fun hF => ?_) (fun hF => ?_)
  · refine ji_iload (pc := 82) l6 rfl rfl dX11_isRow_82 (fun r2 => ?_)
    obtain ⟨h3, hF⟩ := jHo_as hF
    exact ji_retz (pc := 84) rfl h3 hF dX11_isRow_84
  · refine ji_iload (pc := 13) l6 rfl rfl dX11_isRow_13 (fun r4 => ?_)
    refine ji_if_eq 73 (pc := 15) r4 hF dX11_isRow_15 rfl (fun hF => ?_) (fun hF => ?_)
    · refine jg_norm [3, 1, 1, 1, 1, 1, 0, 1] [53, l1, l2, l3, l4, l5, 0, l7] rfl rfl ?_
      exact obX11_isRow_73 (obX11_isRow_74 hrec) _ _ _ _ _ _ _ hF
    · refine ji_aload_n (n := 0) (pc := 18) 53 rfl rfl rfl dX11_isRow_18 (fun r5 => ?_)
      refine ji_getr (pc := 19) 56 wfX11_16 (jRc3 rfl) jcl_53 jrf_53_2 dX11_isRow_19 ?_
      refine jg_bipush (pc := 22) rfl dX11_isRow_22 ?_
      refine ji_iload_n (n := 1) (pc := 24) l1 rfl rfl rfl dX11_isRow_24 (fun r6 => ?_)
      refine ji_imul (pc := 25)  hF dX11_isRow_25 (fun x7 r_x7 hF => ?_)
      refine jg_bipush (pc := 26) rfl dX11_isRow_26 ?_
      refine ji_iload_n (n := 2) (pc := 28) l2 rfl rfl rfl dX11_isRow_28 (fun r8 => ?_)
      refine ji_imul (pc := 29)  hF dX11_isRow_29 (fun x9 r_x9 hF => ?_)
      refine ji_iadd (pc := 30)  hF dX11_isRow_30 (fun x10 r_x10 hF => ?_)
      refine ji_iload (pc := 31) l7 rfl rfl dX11_isRow_31 (fun r11 => ?_)
      refine ji_iadd (pc := 33)  hF dX11_isRow_33 (fun x12 r_x12 hF => ?_)
      refine ji_iaload (pc := 34) (jRc3 rfl) r_x12 hF dX11_isRow_34 (fun x13 r_x13 hF => ?_)
      refine ji_aload_n (n := 0) (pc := 35) 53 rfl rfl rfl dX11_isRow_35 (fun r14 => ?_)
      refine ji_getr (pc := 36) 56 wfX11_16 (jRc3 rfl) jcl_53 jrf_53_2 dX11_isRow_36 ?_
      refine jg_bipush (pc := 39) rfl dX11_isRow_39 ?_
      refine ji_iload_n (n := 3) (pc := 41) l3 rfl rfl rfl dX11_isRow_41 (fun r15 => ?_)
      refine ji_imul (pc := 42)  hF dX11_isRow_42 (fun x16 r_x16 hF => ?_)
      refine jg_bipush (pc := 43) rfl dX11_isRow_43 ?_
      refine ji_iload (pc := 45) l4 rfl rfl dX11_isRow_45 (fun r17 => ?_)
      refine ji_imul (pc := 47)  hF dX11_isRow_47 (fun x18 r_x18 hF => ?_)
      refine ji_iadd (pc := 48)  hF dX11_isRow_48 (fun x19 r_x19 hF => ?_)
      refine ji_iload (pc := 49) l5 rfl rfl dX11_isRow_49 (fun r20 => ?_)
      refine ji_if_eq 62 (pc := 51) r20 hF dX11_isRow_51 rfl (fun hF => ?_) (fun hF => ?_)
      · refine ji_iload (pc := 62) l7 rfl rfl dX11_isRow_62 (fun r21 => ?_)
        refine jg_norm [3, 1, 1, 1, 1, 1, 0, 1] [53, l1, l2, l3, l4, l5, 0, l7] rfl rfl ?_
        exact obX11_isRow_64 (obX11_isRow_73 (obX11_isRow_74 hrec)) (obX11_isRow_74 hrec) _ _ _ _ _ _ _ _ _ _ r_x13 r_x19 r21 hF
      · refine jg_bipush (pc := 54) rfl dX11_isRow_54 ?_
        refine ji_iload (pc := 56) l7 rfl rfl dX11_isRow_56 (fun r22 => ?_)
        refine ji_isub (pc := 58)  hF dX11_isRow_58 (fun x23 r_x23 hF => ?_)
        refine jg_goto (pc := 59) 64 dX11_isRow_59 rfl ?_
        refine jg_norm [3, 1, 1, 1, 1, 1, 0, 1] [53, l1, l2, l3, l4, l5, 0, l7] rfl rfl ?_
        exact obX11_isRow_64 (obX11_isRow_73 (obX11_isRow_74 hrec)) (obX11_isRow_74 hrec) _ _ _ _ _ _ _ _ _ _ r_x13 r_x19 r_x23 hF
theorem obX11_isRow_6W {E : jEnv} {Rr : Int → jMem → Prop} : ∀ n : Nat, ∀ (l1 l2 l3 l4 l5 l6 l7 : Int) (s : jMem), jHo Rr (jIt (fun _ _ _ _ _ _ _ _ => none) (bX11_isRow_6) n l1 l2 l3 l4 l5 l6 l7 s) → jGo E MX11_isRow 0 Rr [3, 1, 1, 1, 1, 1, 1, 1] 6 [53, l1, l2, l3, l4, l5, l6, l7] ([]) s := by
  intro n
  induction n with
  | zero => intro l1 l2 l3 l4 l5 l6 l7 s hF; exact jHo_none hF
  | succ n ih => exact obX11_isRow_6 ih

set_option maxRecDepth 100000 in
set_option maxHeartbeats 4000000 in
theorem oX11_isRow : jOk MX11_isRow [3, 1, 1, 1, 1, 1] 0 (jFn gX11_isRow) := by
  refine jOk_fn (by decide +kernel) (Nat.le_of_ble_eq_true rfl) (by decide +kernel) (.inr (.inr (.inr rfl))) ?_
  intro E vs s0 Rr hF ha
  obtain ⟨l0, t0, rfl, r_l0, ha⟩ := jRa_ci ha
  obtain ⟨l1, t1, rfl, r_l1, ha⟩ := jRa_ci ha
  obtain ⟨l2, t2, rfl, r_l2, ha⟩ := jRa_ci ha
  obtain ⟨l3, t3, rfl, r_l3, ha⟩ := jRa_ci ha
  obtain ⟨l4, t4, rfl, r_l4, ha⟩ := jRa_ci ha
  obtain ⟨l5, t5, rfl, r_l5, ha⟩ := jRa_ci ha
  obtain rfl := jRa_ni ha
  replace hF : jHo Rr (jGd (l0 = 53) <| fX11_isRow l1 l2 l3 l4 l5 s0) := hF
  have hG := jHo_as hF
  clear hF
  obtain ⟨rfl, hF⟩ := hG
  refine jg_norm [3, 1, 1, 1, 1, 1, 0, 0] [53, l1, l2, l3, l4, l5, 0, 0] rfl rfl ?_
  unfold fX11_isRow at hF
  refine ji_iconst (pc := 0) dX11_isRow_0 ?_
  refine ji_istore (n := 6) (pc := 1) [3, 1, 1, 1, 1, 1, 1, 0] [53, l1, l2, l3, l4, l5, 1, 0] (jRc rfl) (Nat.le_of_ble_eq_true rfl) rfl rfl dX11_isRow_1 ?_
  refine ji_iconst (pc := 3) dX11_isRow_3 ?_
  refine ji_istore (n := 7) (pc := 4) [3, 1, 1, 1, 1, 1, 1, 1] [53, l1, l2, l3, l4, l5, 1, 0] (jRc rfl) (Nat.le_of_ble_eq_true rfl) rfl rfl dX11_isRow_4 ?_
  refine jg_norm [3, 1, 1, 1, 1, 1, 1, 1] [53, l1, l2, l3, l4, l5, 1, 0] rfl rfl ?_
  exact obX11_isRow_6W 1000 _ _ _ _ _ _ _ _ hF
def fX11_areRows (l1 l2 l3 l4 : Int) (s0 : jMem) : jO :=
jBd (fX11_isRow l1 l2 l3 l4 0 s0) fun x6 s7 =>
if x6 = 0 then (
jBd (fX11_isRow l1 l2 l3 l4 1 s7) fun x13 s14 =>
if x13 = 0 then (
jRet 0 s14)
else (
jRet 1 s14))
else (
jRet 1 s7)
def gX11_areRows (vs : List Int) (s : jMem) : jO := match vs with
  | [a0, a1, a2, a3, a4] => jGd (a0 = 53) <| fX11_areRows a1 a2 a3 a4 s
  | _ => none
set_option maxRecDepth 100000 in
set_option maxHeartbeats 4000000 in
theorem oX11_areRows : jOk MX11_areRows [3, 1, 1, 1, 1] 1 (jFn gX11_areRows) := by
  refine jOk_fn (by decide +kernel) (Nat.le_of_ble_eq_true rfl) (by decide +kernel) (.inr (.inr (.inr rfl))) ?_
  intro E vs s0 Rr hF ha
  obtain ⟨l0, t0, rfl, r_l0, ha⟩ := jRa_ci ha
  obtain ⟨l1, t1, rfl, r_l1, ha⟩ := jRa_ci ha
  obtain ⟨l2, t2, rfl, r_l2, ha⟩ := jRa_ci ha
  obtain ⟨l3, t3, rfl, r_l3, ha⟩ := jRa_ci ha
  obtain ⟨l4, t4, rfl, r_l4, ha⟩ := jRa_ci ha
  obtain rfl := jRa_ni ha
  replace hF : jHo Rr (jGd (l0 = 53) <| fX11_areRows l1 l2 l3 l4 s0) := hF
  have hG := jHo_as hF
  clear hF
  obtain ⟨rfl, hF⟩ := hG
  refine jg_norm [3, 1, 1, 1, 1] [53, l1, l2, l3, l4] rfl rfl ?_
  unfold fX11_areRows at hF
  refine ji_aload_n (n := 0) (pc := 0) 53 rfl rfl rfl dX11_areRows_0 (fun r1 => ?_)
  refine ji_iload_n (n := 1) (pc := 1) l1 rfl rfl rfl dX11_areRows_1 (fun r2 => ?_)
  refine ji_iload_n (n := 2) (pc := 2) l2 rfl rfl rfl dX11_areRows_2 (fun r3 => ?_)
  refine ji_iload_n (n := 3) (pc := 3) l3 rfl rfl rfl dX11_areRows_3 (fun r4 => ?_)
  refine ji_iload (pc := 4) l4 rfl rfl dX11_areRows_4 (fun r5 => ?_)
  refine ji_iconst (pc := 6) dX11_areRows_6 ?_
  refine ji_callVz (pc := 7) 53 [l1, l2, l3, l4, 0] ([]) oX11_isRow wlX11_263 wmX11_isRow rfl rfl (Nat.le_of_ble_eq_true rfl) (jRaC (jRc3 rfl) (jRaC r2 (jRaC r3 (jRaC r4 (jRaC r5 (jRaC (jRc rfl) jRa0)))))) rfl jcl_53 rfl (Nat.le_of_ble_eq_true rfl) hF dX11_areRows_7 (fun x6 s7 r_x6 hF => ?_)
  refine ji_if_ne 26 (pc := 10) (jR51 r_x6) hF dX11_areRows_10 rfl (fun hF => ?_) (fun hF => ?_)
  · refine ji_iconst (pc := 26) dX11_areRows_26 ?_
    refine jg_goto (pc := 27) 31 dX11_areRows_27 rfl ?_
    exact ji_retz (pc := 31) rfl (jRc5 rfl) hF dX11_areRows_31
  · refine ji_aload_n (n := 0) (pc := 13) 53 rfl rfl rfl dX11_areRows_13 (fun r8 => ?_)
    refine ji_iload_n (n := 1) (pc := 14) l1 rfl rfl rfl dX11_areRows_14 (fun r9 => ?_)
    refine ji_iload_n (n := 2) (pc := 15) l2 rfl rfl rfl dX11_areRows_15 (fun r10 => ?_)
    refine ji_iload_n (n := 3) (pc := 16) l3 rfl rfl rfl dX11_areRows_16 (fun r11 => ?_)
    refine ji_iload (pc := 17) l4 rfl rfl dX11_areRows_17 (fun r12 => ?_)
    refine ji_iconst (pc := 19) dX11_areRows_19 ?_
    refine ji_callVz (pc := 20) 53 [l1, l2, l3, l4, 1] ([]) oX11_isRow wlX11_263 wmX11_isRow rfl rfl (Nat.le_of_ble_eq_true rfl) (jRaC (jRc3 rfl) (jRaC r9 (jRaC r10 (jRaC r11 (jRaC r12 (jRaC (jRc rfl) jRa0)))))) rfl jcl_53 rfl (Nat.le_of_ble_eq_true rfl) hF dX11_areRows_20 (fun x13 s14 r_x13 hF => ?_)
    refine ji_if_eq 30 (pc := 23) (jR51 r_x13) hF dX11_areRows_23 rfl (fun hF => ?_) (fun hF => ?_)
    · refine ji_iconst (pc := 30) dX11_areRows_30 ?_
      exact ji_retz (pc := 31) rfl (jRc5 rfl) hF dX11_areRows_31
    · refine ji_iconst (pc := 26) dX11_areRows_26 ?_
      refine jg_goto (pc := 27) 31 dX11_areRows_27 rfl ?_
      exact ji_retz (pc := 31) rfl (jRc5 rfl) hF dX11_areRows_31
end

section
def fX11_in (l0 l2 l4 : Int) (s0 : jMem) : jO :=
jLet (jcmp l0 l2) fun x3 =>
if x3 < 0 then (
jRet 0 s0)
else (
jLet (jcmp l0 l4) fun x6 =>
if 0 < x6 then (
jRet 0 s0)
else (
jRet 1 s0))
def gX11_in (vs : List Int) (s : jMem) : jO := match vs with
  | [a0, a1, a2] => fX11_in a0 a1 a2 s
  | _ => none
set_option maxRecDepth 100000 in
set_option maxHeartbeats 4000000 in
theorem oX11_in : jOk MX11_in [2, 2, 2] 0 (jFn gX11_in) := by
  refine jOk_fn (by decide +kernel) (Nat.le_of_ble_eq_true rfl) (by decide +kernel) (.inr (.inr (.inr rfl))) ?_
  intro E vs s0 Rr hF ha
  obtain ⟨l0, t0, rfl, r_l0, ha⟩ := jRa_ci ha
  obtain ⟨l2, t1, rfl, r_l2, ha⟩ := jRa_ci ha
  obtain ⟨l4, t2, rfl, r_l4, ha⟩ := jRa_ci ha
  obtain rfl := jRa_ni ha
  replace hF : jHo Rr (fX11_in l0 l2 l4 s0) := hF
  refine jg_norm [2, 0, 2, 0, 2, 0] [l0, 0, l2, 0, l4, 0] rfl rfl ?_
  unfold fX11_in at hF
  refine ji_lload_n (n := 0) (pc := 0) l0 rfl rfl rfl dX11_in_0 (fun r1 => ?_)
  refine ji_lload_n (n := 2) (pc := 1) l2 rfl rfl rfl dX11_in_1 (fun r2 => ?_)
  refine ji_lcmp (pc := 2) r1 r2 hF dX11_in_2 (fun x3 r_x3 hF => ?_)
  refine ji_if_lt 17 (pc := 3) r_x3 hF dX11_in_3 rfl (fun hF => ?_) (fun hF => ?_)
  · refine ji_iconst (pc := 17) dX11_in_17 ?_
    exact ji_retz (pc := 18) rfl (jRc5 rfl) hF dX11_in_18
  · refine ji_lload_n (n := 0) (pc := 6) l0 rfl rfl rfl dX11_in_6 (fun r4 => ?_)
    refine ji_lload (pc := 7) l4 rfl rfl dX11_in_7 (fun r5 => ?_)
    refine ji_lcmp (pc := 9) r4 r5 hF dX11_in_9 (fun x6 r_x6 hF => ?_)
    refine ji_if_gt 17 (pc := 10) r_x6 hF dX11_in_10 rfl (fun hF => ?_) (fun hF => ?_)
    · refine ji_iconst (pc := 17) dX11_in_17 ?_
      exact ji_retz (pc := 18) rfl (jRc5 rfl) hF dX11_in_18
    · refine ji_iconst (pc := 13) dX11_in_13 ?_
      refine jg_goto (pc := 14) 18 dX11_in_14 rfl ?_
      exact ji_retz (pc := 18) rfl (jRc5 rfl) hF dX11_in_18
def fX11_isHand (l0 : Int) (s0 : jMem) : jO :=
jBd (fX11_in l0 0 3 s0) fun x2 s3 =>
jRet x2 s3
def gX11_isHand (vs : List Int) (s : jMem) : jO := match vs with
  | [a0] => fX11_isHand a0 s
  | _ => none
set_option maxRecDepth 100000 in
set_option maxHeartbeats 4000000 in
theorem oX11_isHand : jOk MX11_isHand [1] 1 (jFn gX11_isHand) := by
  refine jOk_fn (by decide +kernel) (Nat.le_of_ble_eq_true rfl) (by decide +kernel) (.inr (.inr (.inr rfl))) ?_
  intro E vs s0 Rr hF ha
  obtain ⟨l0, t0, rfl, r_l0, ha⟩ := jRa_ci ha
  obtain rfl := jRa_ni ha
  replace hF : jHo Rr (fX11_isHand l0 s0) := hF
  refine jg_norm [1] [l0] rfl rfl ?_
  unfold fX11_isHand at hF
  refine ji_iload_n (n := 0) (pc := 0) l0 rfl rfl rfl dX11_isHand_0 (fun r1 => ?_)
  refine jg_i2l (pc := 1) r1 dX11_isHand_1 ?_
  refine jg_lconst (n := 0) (pc := 2) rfl dX11_isHand_2 ?_
  refine jg_ldc2 (n := 3) (pc := 3) wnX11_84 dX11_isHand_3 ?_
  refine ji_callSz (pc := 6) [l0, 0, 3] ([]) oX11_in wlX11_86 wmX11_in rfl rfl (Nat.le_of_ble_eq_true rfl) (jRaC (jR12 r1) (jRaC (jRc2 rfl) (jRaC (jRc2 rfl) jRa0))) rfl rfl (Nat.le_of_ble_eq_true rfl) hF dX11_isHand_6 (fun x2 s3 r_x2 hF => ?_)
  exact ji_retz (pc := 9) rfl r_x2 hF dX11_isHand_9
def fX11_isSort (l0 : Int) (s0 : jMem) : jO :=
jBd (fX11_in l0 0 33 s0) fun x2 s3 =>
jRet x2 s3
def gX11_isSort (vs : List Int) (s : jMem) : jO := match vs with
  | [a0] => fX11_isSort a0 s
  | _ => none
set_option maxRecDepth 100000 in
set_option maxHeartbeats 4000000 in
theorem oX11_isSort : jOk MX11_isSort [1] 1 (jFn gX11_isSort) := by
  refine jOk_fn (by decide +kernel) (Nat.le_of_ble_eq_true rfl) (by decide +kernel) (.inr (.inr (.inr rfl))) ?_
  intro E vs s0 Rr hF ha
  obtain ⟨l0, t0, rfl, r_l0, ha⟩ := jRa_ci ha
  obtain rfl := jRa_ni ha
  replace hF : jHo Rr (fX11_isSort l0 s0) := hF
  refine jg_norm [1] [l0] rfl rfl ?_
  unfold fX11_isSort at hF
  refine ji_iload_n (n := 0) (pc := 0) l0 rfl rfl rfl dX11_isSort_0 (fun r1 => ?_)
  refine jg_i2l (pc := 1) r1 dX11_isSort_1 ?_
  refine jg_lconst (n := 0) (pc := 2) rfl dX11_isSort_2 ?_
  refine jg_ldc2 (n := 33) (pc := 3) wnX11_90 dX11_isSort_3 ?_
  refine ji_callSz (pc := 6) [l0, 0, 33] ([]) oX11_in wlX11_86 wmX11_in rfl rfl (Nat.le_of_ble_eq_true rfl) (jRaC (jR12 r1) (jRaC (jRc2 rfl) (jRaC (jRc2 rfl) jRa0))) rfl rfl (Nat.le_of_ble_eq_true rfl) hF dX11_isSort_6 (fun x2 s3 r_x2 hF => ?_)
  exact ji_retz (pc := 9) rfl r_x2 hF dX11_isSort_9
def fX11_isRack (l0 : Int) (s0 : jMem) : jO :=
jBd (fX11_in l0 0 5 s0) fun x2 s3 =>
jRet x2 s3
def gX11_isRack (vs : List Int) (s : jMem) : jO := match vs with
  | [a0] => fX11_isRack a0 s
  | _ => none
set_option maxRecDepth 100000 in
set_option maxHeartbeats 4000000 in
theorem oX11_isRack : jOk MX11_isRack [1] 1 (jFn gX11_isRack) := by
  refine jOk_fn (by decide +kernel) (Nat.le_of_ble_eq_true rfl) (by decide +kernel) (.inr (.inr (.inr rfl))) ?_
  intro E vs s0 Rr hF ha
  obtain ⟨l0, t0, rfl, r_l0, ha⟩ := jRa_ci ha
  obtain rfl := jRa_ni ha
  replace hF : jHo Rr (fX11_isRack l0 s0) := hF
  refine jg_norm [1] [l0] rfl rfl ?_
  unfold fX11_isRack at hF
  refine ji_iload_n (n := 0) (pc := 0) l0 rfl rfl rfl dX11_isRack_0 (fun r1 => ?_)
  refine jg_i2l (pc := 1) r1 dX11_isRack_1 ?_
  refine jg_lconst (n := 0) (pc := 2) rfl dX11_isRack_2 ?_
  refine jg_ldc2 (n := 5) (pc := 3) wnX11_92 dX11_isRack_3 ?_
  refine ji_callSz (pc := 6) [l0, 0, 5] ([]) oX11_in wlX11_86 wmX11_in rfl rfl (Nat.le_of_ble_eq_true rfl) (jRaC (jR12 r1) (jRaC (jRc2 rfl) (jRaC (jRc2 rfl) jRa0))) rfl rfl (Nat.le_of_ble_eq_true rfl) hF dX11_isRack_6 (fun x2 s3 r_x2 hF => ?_)
  exact ji_retz (pc := 9) rfl r_x2 hF dX11_isRack_9
def bX11_rack_72 (rec : Int → Int → jMem → jO) (l1 l4 : Int) (s0 : jMem) : jO :=
if 40 ≤ l4 then (
jRet 0 s0)
else (
jLet (j32 (40 * l1)) fun x4 =>
jLet (j32 (x4 + l4)) fun x6 =>
jGd ((0 : Int) ≤ x6 ∧ x6 < jik 62) <| jLet (jU s0 62 x6 0) fun s7 =>
jLet (j32 (l4 + 1)) fun x8 =>
rec l1 x8 s7)
def bX11_rack_68 (l1 t1 t2 : Int) (s0 : jMem) : jO :=
jGd ((0 : Int) ≤ t1 ∧ t1 < jik 61) <| jLet (jU s0 61 t1 t2) fun s1 =>
jIt (fun _ _ _ => none) (bX11_rack_72) 1000 l1 0 s1
def bX11_rack_47 (l1 l2 l3 : Int) (s0 : jMem) : jO :=
jGd ((0 : Int) ≤ l1 ∧ l1 < jik 60) <| jLet (jU s0 60 l1 l2) fun s4 =>
if 0 ≤ l2 then (
bX11_rack_68 l1 l1 l3 s4)
else (
bX11_rack_68 l1 l1 0 s4)
def bX11_rack_34 (l1 l2 l3 : Int) (s0 : jMem) : jO :=
if l2 < 0 then (
bX11_rack_47 l1 l2 l3 s0)
else (
if l3 ≤ 40 then (
bX11_rack_47 l1 l2 l3 s0)
else (
jRet (-4) s0))
def fX11_rack (l1 l2 l3 : Int) (s0 : jMem) : jO :=
jBd (fX11_isRack l1 s0) fun x2 s3 =>
if x2 = 0 then (
jRet (-1) s3)
else (
jBd (fX11_in l2 (-1) 2 s3) fun x5 s6 =>
if x5 = 0 then (
jRet (-1) s6)
else (
if l2 < 0 then (
bX11_rack_34 l1 l2 l3 s6)
else (
if 0 ≤ l3 then (
bX11_rack_34 l1 l2 l3 s6)
else (
jRet (-13) s6))))
def gX11_rack (vs : List Int) (s : jMem) : jO := match vs with
  | [a0, a1, a2, a3] => jGd (a0 = 53) <| fX11_rack a1 a2 a3 s
  | _ => none
set_option maxRecDepth 100000 in
set_option maxHeartbeats 4000000 in
theorem obX11_rack_72 {E : jEnv} {Rr : Int → jMem → Prop} {rec : Int → Int → jMem → jO} (hrec : ∀ (l1 l4 : Int) (s : jMem), jHo Rr (rec l1 l4 s) → jGo E MX11_rack 2 Rr [3, 1, 0, 0, 1] 72 [53, l1, 0, 0, l4] ([]) s) : ∀ (l1 l4 : Int) (s : jMem), jHo Rr (bX11_rack_72 rec l1 l4 s) → jGo E MX11_rack 2 Rr [3, 1, 0, 0, 1] 72 [53, l1, 0, 0, l4] ([]) s := by
  intro l1 l4 s0 hF
  unfold bX11_rack_72 at hF
  refine ji_iload (pc := 72) l4 rfl rfl dX11_rack_72 (fun r1 => ?_)
  refine jg_bipush (pc := 74) rfl dX11_rack_74 ?_
  refine ji_icmp_ge 98 (pc := 76) r1 (jRc rfl) hF dX11_rack_76 rfl (fun hF => ?_) (fun hF => ?_)
  · refine ji_iconst (pc := 98) dX11_rack_98 ?_
    exact ji_reti (pc := 99) rfl (jRc rfl) hF dX11_rack_99
  · refine ji_aload_n (n := 0) (pc := 79) 53 rfl rfl rfl dX11_rack_79 (fun r2 => ?_)
    refine ji_getr (pc := 80) 62 wfX11_38 (jRc3 rfl) jcl_53 jrf_53_9 dX11_rack_80 ?_
    refine jg_bipush (pc := 83) rfl dX11_rack_83 ?_
    refine ji_iload_n (n := 1) (pc := 85) l1 rfl rfl rfl dX11_rack_85 (fun r3 => ?_)
    refine ji_imul (pc := 86)  hF dX11_rack_86 (fun x4 r_x4 hF => ?_)
    refine ji_iload (pc := 87) l4 rfl rfl dX11_rack_87 (fun r5 => ?_)
    refine ji_iadd (pc := 89)  hF dX11_rack_89 (fun x6 r_x6 hF => ?_)
    refine ji_iconst (pc := 90) dX11_rack_90 ?_
    refine ji_iastore (pc := 91) (jRc3 rfl) r_x6 (jRc rfl) hF dX11_rack_91 (fun s7 hF => ?_)
    refine ji_iinc (pc := 92) l4 (fun w => [53, l1, 0, 0, w]) rfl rfl rfl (fun _ => rfl) hF dX11_rack_92 (fun x8 r_x8 hF => ?_)
    refine jg_goto (pc := 95) 72 dX11_rack_95 rfl ?_
    refine jg_norm [3, 1, 0, 0, 1] [53, l1, 0, 0, x8] rfl rfl ?_
    exact hrec _ _ _ hF
theorem obX11_rack_72W {E : jEnv} {Rr : Int → jMem → Prop} : ∀ n : Nat, ∀ (l1 l4 : Int) (s : jMem), jHo Rr (jIt (fun _ _ _ => none) (bX11_rack_72) n l1 l4 s) → jGo E MX11_rack 2 Rr [3, 1, 0, 0, 1] 72 [53, l1, 0, 0, l4] ([]) s := by
  intro n
  induction n with
  | zero => intro l1 l4 s hF; exact jHo_none hF
  | succ n ih => exact obX11_rack_72 ih

set_option maxRecDepth 100000 in
set_option maxHeartbeats 4000000 in
theorem obX11_rack_68 {E : jEnv} {Rr : Int → jMem → Prop} : ∀ (l1 t1 t2 : Int) (s : jMem), jR 1 t1 → jR 1 t2 → jHo Rr (bX11_rack_68 l1 t1 t2 s) → jGo E MX11_rack 2 Rr [3, 1, 0, 0, 0] 68 [53, l1, 0, 0, 0] (jV E 1 t2 :: jV E 1 t1 :: jV E 3 61 :: []) s := by
  intro l1 t1 t2 s0 r_t1 r_t2 hF
  unfold bX11_rack_68 at hF
  refine ji_iastore (pc := 68) (jRc3 rfl) r_t1 r_t2 hF dX11_rack_68 (fun s1 hF => ?_)
  refine ji_iconst (pc := 69) dX11_rack_69 ?_
  refine ji_istore (n := 4) (pc := 70) [3, 1, 0, 0, 1] [53, l1, 0, 0, 0] (jRc rfl) (Nat.le_of_ble_eq_true rfl) rfl rfl dX11_rack_70 ?_
  refine jg_norm [3, 1, 0, 0, 1] [53, l1, 0, 0, 0] rfl rfl ?_
  exact obX11_rack_72W 1000 _ _ _ hF
set_option maxRecDepth 100000 in
set_option maxHeartbeats 4000000 in
theorem obX11_rack_47 {E : jEnv} {Rr : Int → jMem → Prop} : ∀ (l1 l2 l3 : Int) (s : jMem), jHo Rr (bX11_rack_47 l1 l2 l3 s) → jGo E MX11_rack 2 Rr [3, 1, 1, 1, 0] 47 [53, l1, l2, l3, 0] ([]) s := by
  intro l1 l2 l3 s0 hF
  unfold bX11_rack_47 at hF
  refine ji_aload_n (n := 0) (pc := 47) 53 rfl rfl rfl dX11_rack_47 (fun r1 => ?_)
  refine ji_getr (pc := 48) 60 wfX11_32 (jRc3 rfl) jcl_53 jrf_53_7 dX11_rack_48 ?_
  refine ji_iload_n (n := 1) (pc := 51) l1 rfl rfl rfl dX11_rack_51 (fun r2 => ?_)
  refine ji_iload_n (n := 2) (pc := 52) l2 rfl rfl rfl dX11_rack_52 (fun r3 => ?_)
  refine ji_iastore (pc := 53) (jRc3 rfl) r2 r3 hF dX11_rack_53 (fun s4 hF => ?_)
  refine ji_aload_n (n := 0) (pc := 54) 53 rfl rfl rfl dX11_rack_54 (fun r5 => ?_)
  refine ji_getr (pc := 55) 61 wfX11_35 (jRc3 rfl) jcl_53 jrf_53_8 dX11_rack_55 ?_
  refine ji_iload_n (n := 1) (pc := 58) l1 rfl rfl rfl dX11_rack_58 (fun r6 => ?_)
  refine ji_iload_n (n := 2) (pc := 59) l2 rfl rfl rfl dX11_rack_59 (fun r7 => ?_)
  refine ji_if_ge 67 (pc := 60) r7 hF dX11_rack_60 rfl (fun hF => ?_) (fun hF => ?_)
  · refine ji_iload_n (n := 3) (pc := 67) l3 rfl rfl rfl dX11_rack_67 (fun r8 => ?_)
    refine jg_norm [3, 1, 0, 0, 0] [53, l1, 0, 0, 0] rfl rfl ?_
    exact obX11_rack_68 _ _ _ _ r6 r8 hF
  · refine ji_iconst (pc := 63) dX11_rack_63 ?_
    refine jg_goto (pc := 64) 68 dX11_rack_64 rfl ?_
    refine jg_norm [3, 1, 0, 0, 0] [53, l1, 0, 0, 0] rfl rfl ?_
    exact obX11_rack_68 _ _ _ _ r6 (jRc rfl) hF
set_option maxRecDepth 100000 in
set_option maxHeartbeats 4000000 in
theorem obX11_rack_34 {E : jEnv} {Rr : Int → jMem → Prop} : ∀ (l1 l2 l3 : Int) (s : jMem), jHo Rr (bX11_rack_34 l1 l2 l3 s) → jGo E MX11_rack 2 Rr [3, 1, 1, 1, 0] 34 [53, l1, l2, l3, 0] ([]) s := by
  intro l1 l2 l3 s0 hF
  unfold bX11_rack_34 at hF
  refine ji_iload_n (n := 2) (pc := 34) l2 rfl rfl rfl dX11_rack_34 (fun r1 => ?_)
  refine ji_if_lt 47 (pc := 35) r1 hF dX11_rack_35 rfl (fun hF => ?_) (fun hF => ?_)
  · refine jg_norm [3, 1, 1, 1, 0] [53, l1, l2, l3, 0] rfl rfl ?_
    exact obX11_rack_47 _ _ _ _ hF
  · refine ji_iload_n (n := 3) (pc := 38) l3 rfl rfl rfl dX11_rack_38 (fun r2 => ?_)
    refine jg_bipush (pc := 39) rfl dX11_rack_39 ?_
    refine ji_icmp_le 47 (pc := 41) r2 (jRc rfl) hF dX11_rack_41 rfl (fun hF => ?_) (fun hF => ?_)
    · refine jg_norm [3, 1, 1, 1, 0] [53, l1, l2, l3, 0] rfl rfl ?_
      exact obX11_rack_47 _ _ _ _ hF
    · refine jg_bipush (pc := 44) rfl dX11_rack_44 ?_
      exact ji_reti (pc := 46) rfl (jRc rfl) hF dX11_rack_46
set_option maxRecDepth 100000 in
set_option maxHeartbeats 4000000 in
theorem oX11_rack : jOk MX11_rack [3, 1, 1, 1] 2 (jFn gX11_rack) := by
  refine jOk_fn (by decide +kernel) (Nat.le_of_ble_eq_true rfl) (by decide +kernel) (.inr (.inl rfl)) ?_
  intro E vs s0 Rr hF ha
  obtain ⟨l0, t0, rfl, r_l0, ha⟩ := jRa_ci ha
  obtain ⟨l1, t1, rfl, r_l1, ha⟩ := jRa_ci ha
  obtain ⟨l2, t2, rfl, r_l2, ha⟩ := jRa_ci ha
  obtain ⟨l3, t3, rfl, r_l3, ha⟩ := jRa_ci ha
  obtain rfl := jRa_ni ha
  replace hF : jHo Rr (jGd (l0 = 53) <| fX11_rack l1 l2 l3 s0) := hF
  have hG := jHo_as hF
  clear hF
  obtain ⟨rfl, hF⟩ := hG
  refine jg_norm [3, 1, 1, 1, 0] [53, l1, l2, l3, 0] rfl rfl ?_
  unfold fX11_rack at hF
  refine ji_iload_n (n := 1) (pc := 0) l1 rfl rfl rfl dX11_rack_0 (fun r1 => ?_)
  refine ji_callSz (pc := 1) [l1] ([]) oX11_isRack wlX11_94 wmX11_isRack rfl rfl (Nat.le_of_ble_eq_true rfl) (jRaC r1 jRa0) rfl rfl (Nat.le_of_ble_eq_true rfl) hF dX11_rack_1 (fun x2 s3 r_x2 hF => ?_)
  refine ji_if_eq 21 (pc := 4) (jR51 r_x2) hF dX11_rack_4 rfl (fun hF => ?_) (fun hF => ?_)
  · refine ji_iconst (pc := 21) dX11_rack_21 ?_
    exact ji_reti (pc := 22) rfl (jRc rfl) hF dX11_rack_22
  · refine ji_iload_n (n := 2) (pc := 7) l2 rfl rfl rfl dX11_rack_7 (fun r4 => ?_)
    refine jg_i2l (pc := 8) r4 dX11_rack_8 ?_
    refine jg_ldc2 (n := (-1)) (pc := 9) wnX11_98 dX11_rack_9 ?_
    refine jg_ldc2 (n := 2) (pc := 12) wnX11_100 dX11_rack_12 ?_
    refine ji_callSz (pc := 15) [l2, (-1), 2] ([]) oX11_in wlX11_86 wmX11_in rfl rfl (Nat.le_of_ble_eq_true rfl) (jRaC (jR12 r4) (jRaC (jRc2 rfl) (jRaC (jRc2 rfl) jRa0))) rfl rfl (Nat.le_of_ble_eq_true rfl) hF dX11_rack_15 (fun x5 s6 r_x5 hF => ?_)
    refine ji_if_ne 23 (pc := 18) (jR51 r_x5) hF dX11_rack_18 rfl (fun hF => ?_) (fun hF => ?_)
    · refine ji_iload_n (n := 2) (pc := 23) l2 rfl rfl rfl dX11_rack_23 (fun r7 => ?_)
      refine ji_if_lt 34 (pc := 24) r7 hF dX11_rack_24 rfl (fun hF => ?_) (fun hF => ?_)
      · refine jg_norm [3, 1, 1, 1, 0] [53, l1, l2, l3, 0] rfl rfl ?_
        exact obX11_rack_34 _ _ _ _ hF
      · refine ji_iload_n (n := 3) (pc := 27) l3 rfl rfl rfl dX11_rack_27 (fun r8 => ?_)
        refine ji_if_ge 34 (pc := 28) r8 hF dX11_rack_28 rfl (fun hF => ?_) (fun hF => ?_)
        · refine jg_norm [3, 1, 1, 1, 0] [53, l1, l2, l3, 0] rfl rfl ?_
          exact obX11_rack_34 _ _ _ _ hF
        · refine jg_bipush (pc := 31) rfl dX11_rack_31 ?_
          exact ji_reti (pc := 33) rfl (jRc rfl) hF dX11_rack_33
    · refine ji_iconst (pc := 21) dX11_rack_21 ?_
      exact ji_reti (pc := 22) rfl (jRc rfl) hF dX11_rack_22
def fX11_cut (l0 l1 : Int) (s0 : jMem) : jO :=
if l0 = 0 then (
jLet (ji2b l1) fun x8 =>
jRet x8 s0)
else (
if l0 = 1 then (
jLet (jand l1 65535) fun x6 =>
jRet x6 s0)
else (
jLet (ji2s l1) fun x4 =>
jRet x4 s0))
def gX11_cut (vs : List Int) (s : jMem) : jO := match vs with
  | [a0, a1] => fX11_cut a0 a1 s
  | _ => none
set_option maxRecDepth 100000 in
set_option maxHeartbeats 4000000 in
theorem oX11_cut : jOk MX11_cut [1, 1] 0 (jFn gX11_cut) := by
  refine jOk_fn (by decide +kernel) (Nat.le_of_ble_eq_true rfl) (by decide +kernel) (.inr (.inl rfl)) ?_
  intro E vs s0 Rr hF ha
  obtain ⟨l0, t0, rfl, r_l0, ha⟩ := jRa_ci ha
  obtain ⟨l1, t1, rfl, r_l1, ha⟩ := jRa_ci ha
  obtain rfl := jRa_ni ha
  replace hF : jHo Rr (fX11_cut l0 l1 s0) := hF
  refine jg_norm [1, 1] [l0, l1] rfl rfl ?_
  unfold fX11_cut at hF
  refine ji_iload_n (n := 0) (pc := 0) l0 rfl rfl rfl dX11_cut_0 (fun r1 => ?_)
  refine ji_if_ne 9 (pc := 1) r1 hF dX11_cut_1 rfl (fun hF => ?_) (fun hF => ?_)
  · refine ji_iload_n (n := 0) (pc := 9) l0 rfl rfl rfl dX11_cut_9 (fun r2 => ?_)
    refine ji_iconst (pc := 10) dX11_cut_10 ?_
    refine ji_icmp_ne 21 (pc := 11) r2 (jRc rfl) hF dX11_cut_11 rfl (fun hF => ?_) (fun hF => ?_)
    · refine ji_iload_n (n := 1) (pc := 21) l1 rfl rfl rfl dX11_cut_21 (fun r3 => ?_)
      refine ji_i2s (pc := 22)  hF dX11_cut_22 (fun x4 r_x4 hF => ?_)
      exact ji_reti (pc := 23) rfl r_x4 hF dX11_cut_23
    · refine ji_iload_n (n := 1) (pc := 14) l1 rfl rfl rfl dX11_cut_14 (fun r5 => ?_)
      refine jg_ldc (n := 65535) (pc := 15) wnX11_102 dX11_cut_15 ?_
      refine ji_iand (pc := 17)  hF dX11_cut_17 (fun x6 r_x6 hF => ?_)
      refine jg_goto (pc := 18) 23 dX11_cut_18 rfl ?_
      exact ji_reti (pc := 23) rfl r_x6 hF dX11_cut_23
  · refine ji_iload_n (n := 1) (pc := 4) l1 rfl rfl rfl dX11_cut_4 (fun r7 => ?_)
    refine ji_i2b (pc := 5)  hF dX11_cut_5 (fun x8 r_x8 hF => ?_)
    refine jg_goto (pc := 6) 23 dX11_cut_6 rfl ?_
    exact ji_reti (pc := 23) rfl r_x8 hF dX11_cut_23
def fX11_place (l1 l2 l3 : Int) (s0 : jMem) : jO :=
jBd (fX11_isRack l1 s0) fun x2 s3 =>
if x2 = 0 then (
jRet (-100000) s3)
else (
jGd ((0 : Int) ≤ l1 ∧ l1 < jik 60) <| jLet (s3 60 l1) fun x6 =>
if 0 ≤ x6 then (
jGd ((0 : Int) ≤ l1 ∧ l1 < jik 61) <| jLet (s3 61 l1) fun x10 =>
jLet (j32 (x10 - 1)) fun x11 =>
jBd (fX11_in l2 0 x11 s3) fun x12 s13 =>
if x12 = 0 then (
jRet (-100012) s13)
else (
jLet (j32 (40 * l1)) fun x16 =>
jLet (j32 (x16 + l2)) fun x18 =>
jGd ((0 : Int) ≤ l1 ∧ l1 < jik 60) <| jLet (s13 60 l1) fun x21 =>
jBd (fX11_cut x21 l3 s13) fun x23 s24 =>
jGd ((0 : Int) ≤ x18 ∧ x18 < jik 62) <| jLet (jU s24 62 x18 x23) fun s25 =>
jLet (j32 (40 * l1)) fun x28 =>
jLet (j32 (x28 + l2)) fun x30 =>
jGd ((0 : Int) ≤ x30 ∧ x30 < jik 62) <| jLet (s25 62 x30) fun x31 =>
jRet x31 s25))
else (
jRet (-100011) s3))
def gX11_place (vs : List Int) (s : jMem) : jO := match vs with
  | [a0, a1, a2, a3] => jGd (a0 = 53) <| fX11_place a1 a2 a3 s
  | _ => none
set_option maxRecDepth 100000 in
set_option maxHeartbeats 4000000 in
theorem oX11_place : jOk MX11_place [3, 1, 1, 1] 2 (jFn gX11_place) := by
  refine jOk_fn (by decide +kernel) (Nat.le_of_ble_eq_true rfl) (by decide +kernel) (.inr (.inl rfl)) ?_
  intro E vs s0 Rr hF ha
  obtain ⟨l0, t0, rfl, r_l0, ha⟩ := jRa_ci ha
  obtain ⟨l1, t1, rfl, r_l1, ha⟩ := jRa_ci ha
  obtain ⟨l2, t2, rfl, r_l2, ha⟩ := jRa_ci ha
  obtain ⟨l3, t3, rfl, r_l3, ha⟩ := jRa_ci ha
  obtain rfl := jRa_ni ha
  replace hF : jHo Rr (jGd (l0 = 53) <| fX11_place l1 l2 l3 s0) := hF
  have hG := jHo_as hF
  clear hF
  obtain ⟨rfl, hF⟩ := hG
  refine jg_norm [3, 1, 1, 1] [53, l1, l2, l3] rfl rfl ?_
  unfold fX11_place at hF
  refine ji_iload_n (n := 1) (pc := 0) l1 rfl rfl rfl dX11_place_0 (fun r1 => ?_)
  refine ji_callSz (pc := 1) [l1] ([]) oX11_isRack wlX11_94 wmX11_isRack rfl rfl (Nat.le_of_ble_eq_true rfl) (jRaC r1 jRa0) rfl rfl (Nat.le_of_ble_eq_true rfl) hF dX11_place_1 (fun x2 s3 r_x2 hF => ?_)
  refine ji_if_ne 10 (pc := 4) (jR51 r_x2) hF dX11_place_4 rfl (fun hF => ?_) (fun hF => ?_)
  · refine ji_aload_n (n := 0) (pc := 10) 53 rfl rfl rfl dX11_place_10 (fun r4 => ?_)
    refine ji_getr (pc := 11) 60 wfX11_32 (jRc3 rfl) jcl_53 jrf_53_7 dX11_place_11 ?_
    refine ji_iload_n (n := 1) (pc := 14) l1 rfl rfl rfl dX11_place_14 (fun r5 => ?_)
    refine ji_iaload (pc := 15) (jRc3 rfl) r5 hF dX11_place_15 (fun x6 r_x6 hF => ?_)
    refine ji_if_ge 22 (pc := 16) r_x6 hF dX11_place_16 rfl (fun hF => ?_) (fun hF => ?_)
    · refine ji_iload_n (n := 2) (pc := 22) l2 rfl rfl rfl dX11_place_22 (fun r7 => ?_)
      refine jg_i2l (pc := 23) r7 dX11_place_23 ?_
      refine jg_lconst (n := 0) (pc := 24) rfl dX11_place_24 ?_
      refine ji_aload_n (n := 0) (pc := 25) 53 rfl rfl rfl dX11_place_25 (fun r8 => ?_)
      refine ji_getr (pc := 26) 61 wfX11_35 (jRc3 rfl) jcl_53 jrf_53_8 dX11_place_26 ?_
      refine ji_iload_n (n := 1) (pc := 29) l1 rfl rfl rfl dX11_place_29 (fun r9 => ?_)
      refine ji_iaload (pc := 30) (jRc3 rfl) r9 hF dX11_place_30 (fun x10 r_x10 hF => ?_)
      refine ji_iconst (pc := 31) dX11_place_31 ?_
      refine ji_isub (pc := 32)  hF dX11_place_32 (fun x11 r_x11 hF => ?_)
      refine jg_i2l (pc := 33) r_x11 dX11_place_33 ?_
      refine ji_callSz (pc := 34) [l2, 0, x11] ([]) oX11_in wlX11_86 wmX11_in rfl rfl (Nat.le_of_ble_eq_true rfl) (jRaC (jR12 r7) (jRaC (jRc2 rfl) (jRaC (jR12 r_x11) jRa0))) rfl rfl (Nat.le_of_ble_eq_true rfl) hF dX11_place_34 (fun x12 s13 r_x12 hF => ?_)
      refine ji_if_ne 43 (pc := 37) (jR51 r_x12) hF dX11_place_37 rfl (fun hF => ?_) (fun hF => ?_)
      · refine ji_aload_n (n := 0) (pc := 43) 53 rfl rfl rfl dX11_place_43 (fun r14 => ?_)
        refine ji_getr (pc := 44) 62 wfX11_38 (jRc3 rfl) jcl_53 jrf_53_9 dX11_place_44 ?_
        refine jg_bipush (pc := 47) rfl dX11_place_47 ?_
        refine ji_iload_n (n := 1) (pc := 49) l1 rfl rfl rfl dX11_place_49 (fun r15 => ?_)
        refine ji_imul (pc := 50)  hF dX11_place_50 (fun x16 r_x16 hF => ?_)
        refine ji_iload_n (n := 2) (pc := 51) l2 rfl rfl rfl dX11_place_51 (fun r17 => ?_)
        refine ji_iadd (pc := 52)  hF dX11_place_52 (fun x18 r_x18 hF => ?_)
        refine ji_aload_n (n := 0) (pc := 53) 53 rfl rfl rfl dX11_place_53 (fun r19 => ?_)
        refine ji_getr (pc := 54) 60 wfX11_32 (jRc3 rfl) jcl_53 jrf_53_7 dX11_place_54 ?_
        refine ji_iload_n (n := 1) (pc := 57) l1 rfl rfl rfl dX11_place_57 (fun r20 => ?_)
        refine ji_iaload (pc := 58) (jRc3 rfl) r20 hF dX11_place_58 (fun x21 r_x21 hF => ?_)
        refine ji_iload_n (n := 3) (pc := 59) l3 rfl rfl rfl dX11_place_59 (fun r22 => ?_)
        refine ji_callSi (pc := 60) [x21, l3] (jV E 1 x18 :: jV E 3 62 :: []) oX11_cut wlX11_106 wmX11_cut rfl rfl (Nat.le_of_ble_eq_true rfl) (jRaC r_x21 (jRaC r22 jRa0)) rfl rfl (Nat.le_of_ble_eq_true rfl) hF dX11_place_60 (fun x23 s24 r_x23 hF => ?_)
        refine ji_iastore (pc := 63) (jRc3 rfl) r_x18 r_x23 hF dX11_place_63 (fun s25 hF => ?_)
        refine ji_aload_n (n := 0) (pc := 64) 53 rfl rfl rfl dX11_place_64 (fun r26 => ?_)
        refine ji_getr (pc := 65) 62 wfX11_38 (jRc3 rfl) jcl_53 jrf_53_9 dX11_place_65 ?_
        refine jg_bipush (pc := 68) rfl dX11_place_68 ?_
        refine ji_iload_n (n := 1) (pc := 70) l1 rfl rfl rfl dX11_place_70 (fun r27 => ?_)
        refine ji_imul (pc := 71)  hF dX11_place_71 (fun x28 r_x28 hF => ?_)
        refine ji_iload_n (n := 2) (pc := 72) l2 rfl rfl rfl dX11_place_72 (fun r29 => ?_)
        refine ji_iadd (pc := 73)  hF dX11_place_73 (fun x30 r_x30 hF => ?_)
        refine ji_iaload (pc := 74) (jRc3 rfl) r_x30 hF dX11_place_74 (fun x31 r_x31 hF => ?_)
        exact ji_reti (pc := 75) rfl r_x31 hF dX11_place_75
      · refine jg_ldc (n := (-100012)) (pc := 40) wnX11_105 dX11_place_40 ?_
        exact ji_reti (pc := 42) rfl (jRc rfl) hF dX11_place_42
    · refine jg_ldc (n := (-100011)) (pc := 19) wnX11_104 dX11_place_19 ?_
      exact ji_reti (pc := 21) rfl (jRc rfl) hF dX11_place_21
  · refine jg_ldc (n := (-100000)) (pc := 7) wnX11_103 dX11_place_7 ?_
    exact ji_reti (pc := 9) rfl (jRc rfl) hF dX11_place_9
def bX11_copy_110 (k144 : Int → Int → Int → jMem → jO) (rec : Int → Int → Int → Int → Int → Int → jMem → jO) (l1 l2 l3 l4 l5 l6 : Int) (s0 : jMem) : jO :=
if l5 ≤ l6 then (
k144 l3 l4 l5 s0)
else (
jLet (j32 (40 * l1)) fun x7 =>
jLet (j32 (x7 + l2)) fun x9 =>
jLet (j32 (x9 + l6)) fun x11 =>
jGd ((0 : Int) ≤ x11 ∧ x11 < jik 62) <| jLet (s0 62 x11) fun x12 =>
jGd ((0 : Int) ≤ l6 ∧ l6 < jik 66) <| jLet (jU s0 66 l6 x12) fun s13 =>
jLet (j32 (l6 + 1)) fun x14 =>
rec l1 l2 l3 l4 l5 x14 s13)
def bX11_copy_147 (rec : Int → Int → Int → Int → jMem → jO) (l3 l4 l5 l6 : Int) (s0 : jMem) : jO :=
if l5 ≤ l6 then (
jRet 0 s0)
else (
jLet (j32 (40 * l3)) fun x5 =>
jLet (j32 (x5 + l4)) fun x7 =>
jLet (j32 (x7 + l6)) fun x9 =>
jGd ((0 : Int) ≤ l6 ∧ l6 < jik 66) <| jLet (s0 66 l6) fun x12 =>
jGd ((0 : Int) ≤ x9 ∧ x9 < jik 62) <| jLet (jU s0 62 x9 x12) fun s13 =>
jLet (j32 (l6 + 1)) fun x14 =>
rec l3 l4 l5 x14 s13)
def bX11_copy_144 (l3 l4 l5 : Int) (s0 : jMem) : jO :=
jIt (fun _ _ _ _ _ => none) (bX11_copy_147) 1000 l3 l4 l5 0 s0
def fX11_copy (l1 l2 l3 l4 l5 : Int) (s0 : jMem) : jO :=
jBd (fX11_isRack l1 s0) fun x2 s3 =>
if x2 = 0 then (
jRet (-1) s3)
else (
jBd (fX11_isRack l3 s3) fun x5 s6 =>
if x5 = 0 then (
jRet (-1) s6)
else (
jGd ((0 : Int) ≤ l1 ∧ l1 < jik 60) <| jLet (s6 60 l1) fun x9 =>
if x9 < 0 then (
jRet (-11) s6)
else (
jGd ((0 : Int) ≤ l3 ∧ l3 < jik 60) <| jLet (s6 60 l3) fun x12 =>
if 0 ≤ x12 then (
jGd ((0 : Int) ≤ l1 ∧ l1 < jik 60) <| jLet (s6 60 l1) fun x15 =>
jGd ((0 : Int) ≤ l3 ∧ l3 < jik 60) <| jLet (s6 60 l3) fun x18 =>
if x15 = x18 then (
if l5 < 0 then (
jRet (-12) s6)
else (
if l2 < 0 then (
jRet (-12) s6)
else (
if l4 < 0 then (
jRet (-12) s6)
else (
jLet (j64 (l2 + l5)) fun x24 =>
jGd ((0 : Int) ≤ l1 ∧ l1 < jik 61) <| jLet (s6 61 l1) fun x27 =>
jLet (jcmp x24 x27) fun x28 =>
if 0 < x28 then (
jRet (-12) s6)
else (
jLet (j64 (l4 + l5)) fun x31 =>
jGd ((0 : Int) ≤ l3 ∧ l3 < jik 61) <| jLet (s6 61 l3) fun x34 =>
jLet (jcmp x31 x34) fun x35 =>
if x35 ≤ 0 then (
jIt (fun _ _ _ _ _ _ _ => none) (bX11_copy_110 bX11_copy_144) 1000 l1 l2 l3 l4 l5 0 s6)
else (
jRet (-12) s6))))))
else (
jRet (-14) s6))
else (
jRet (-11) s6))))
def gX11_copy (vs : List Int) (s : jMem) : jO := match vs with
  | [a0, a1, a2, a3, a4, a5] => jGd (a0 = 53) <| fX11_copy a1 a2 a3 a4 a5 s
  | _ => none
set_option maxRecDepth 100000 in
set_option maxHeartbeats 4000000 in
theorem obX11_copy_110 {E : jEnv} {Rr : Int → jMem → Prop} {k144 : Int → Int → Int → jMem → jO} (hk144 : ∀ (l3 l4 l5 : Int) (s : jMem), jHo Rr (k144 l3 l4 l5 s) → jGo E MX11_copy 2 Rr [3, 0, 0, 1, 1, 1, 0] 144 [53, 0, 0, l3, l4, l5, 0] ([]) s) {rec : Int → Int → Int → Int → Int → Int → jMem → jO} (hrec : ∀ (l1 l2 l3 l4 l5 l6 : Int) (s : jMem), jHo Rr (rec l1 l2 l3 l4 l5 l6 s) → jGo E MX11_copy 2 Rr [3, 1, 1, 1, 1, 1, 1] 110 [53, l1, l2, l3, l4, l5, l6] ([]) s) : ∀ (l1 l2 l3 l4 l5 l6 : Int) (s : jMem), jHo Rr (bX11_copy_110 k144 rec l1 l2 l3 l4 l5 l6 s) → jGo E MX11_copy 2 Rr [3, 1, 1, 1, 1, 1, 1] 110 [53, l1, l2, l3, l4, l5, l6] ([]) s := by
  intro l1 l2 l3 l4 l5 l6 s0 hF
  unfold bX11_copy_110 at hF
  refine ji_iload (pc := 110) l6 rfl rfl dX11_copy_110 (fun r1 => ?_)
  refine ji_iload (pc := 112) l5 rfl rfl dX11_copy_112 (fun r2 => ?_)
  refine ji_icmp_ge 144 (pc := 114) r1 r2 hF dX11_copy_114 rfl (fun hF => ?_) (fun hF => ?_)
  · refine jg_norm [3, 0, 0, 1, 1, 1, 0] [53, 0, 0, l3, l4, l5, 0] rfl rfl ?_
    exact hk144 _ _ _ _ hF
  · refine ji_aload_n (n := 0) (pc := 117) 53 rfl rfl rfl dX11_copy_117 (fun r3 => ?_)
    refine ji_getr (pc := 118) 66 wfX11_50 (jRc3 rfl) jcl_53 jrf_53_16 dX11_copy_118 ?_
    refine ji_iload (pc := 121) l6 rfl rfl dX11_copy_121 (fun r4 => ?_)
    refine ji_aload_n (n := 0) (pc := 123) 53 rfl rfl rfl dX11_copy_123 (fun r5 => ?_)
    refine ji_getr (pc := 124) 62 wfX11_38 (jRc3 rfl) jcl_53 jrf_53_9 dX11_copy_124 ?_
    refine jg_bipush (pc := 127) rfl dX11_copy_127 ?_
    refine ji_iload_n (n := 1) (pc := 129) l1 rfl rfl rfl dX11_copy_129 (fun r6 => ?_)
    refine ji_imul (pc := 130)  hF dX11_copy_130 (fun x7 r_x7 hF => ?_)
    refine ji_iload_n (n := 2) (pc := 131) l2 rfl rfl rfl dX11_copy_131 (fun r8 => ?_)
    refine ji_iadd (pc := 132)  hF dX11_copy_132 (fun x9 r_x9 hF => ?_)
    refine ji_iload (pc := 133) l6 rfl rfl dX11_copy_133 (fun r10 => ?_)
    refine ji_iadd (pc := 135)  hF dX11_copy_135 (fun x11 r_x11 hF => ?_)
    refine ji_iaload (pc := 136) (jRc3 rfl) r_x11 hF dX11_copy_136 (fun x12 r_x12 hF => ?_)
    refine ji_iastore (pc := 137) (jRc3 rfl) r4 r_x12 hF dX11_copy_137 (fun s13 hF => ?_)
    refine ji_iinc (pc := 138) l6 (fun w => [53, l1, l2, l3, l4, l5, w]) rfl rfl rfl (fun _ => rfl) hF dX11_copy_138 (fun x14 r_x14 hF => ?_)
    refine jg_goto (pc := 141) 110 dX11_copy_141 rfl ?_
    refine jg_norm [3, 1, 1, 1, 1, 1, 1] [53, l1, l2, l3, l4, l5, x14] rfl rfl ?_
    exact hrec _ _ _ _ _ _ _ hF
theorem obX11_copy_110W {E : jEnv} {Rr : Int → jMem → Prop} {k144 : Int → Int → Int → jMem → jO} (hk144 : ∀ (l3 l4 l5 : Int) (s : jMem), jHo Rr (k144 l3 l4 l5 s) → jGo E MX11_copy 2 Rr [3, 0, 0, 1, 1, 1, 0] 144 [53, 0, 0, l3, l4, l5, 0] ([]) s) : ∀ n : Nat, ∀ (l1 l2 l3 l4 l5 l6 : Int) (s : jMem), jHo Rr (jIt (fun _ _ _ _ _ _ _ => none) (bX11_copy_110 k144) n l1 l2 l3 l4 l5 l6 s) → jGo E MX11_copy 2 Rr [3, 1, 1, 1, 1, 1, 1] 110 [53, l1, l2, l3, l4, l5, l6] ([]) s := by
  intro n
  induction n with
  | zero => intro l1 l2 l3 l4 l5 l6 s hF; exact jHo_none hF
  | succ n ih => exact obX11_copy_110 hk144 ih

set_option maxRecDepth 100000 in
set_option maxHeartbeats 4000000 in
theorem obX11_copy_147 {E : jEnv} {Rr : Int → jMem → Prop} {rec : Int → Int → Int → Int → jMem → jO} (hrec : ∀ (l3 l4 l5 l6 : Int) (s : jMem), jHo Rr (rec l3 l4 l5 l6 s) → jGo E MX11_copy 2 Rr [3, 0, 0, 1, 1, 1, 1] 147 [53, 0, 0, l3, l4, l5, l6] ([]) s) : ∀ (l3 l4 l5 l6 : Int) (s : jMem), jHo Rr (bX11_copy_147 rec l3 l4 l5 l6 s) → jGo E MX11_copy 2 Rr [3, 0, 0, 1, 1, 1, 1] 147 [53, 0, 0, l3, l4, l5, l6] ([]) s := by
  intro l3 l4 l5 l6 s0 hF
  unfold bX11_copy_147 at hF
  refine ji_iload (pc := 147) l6 rfl rfl dX11_copy_147 (fun r1 => ?_)
  refine ji_iload (pc := 149) l5 rfl rfl dX11_copy_149 (fun r2 => ?_)
  refine ji_icmp_ge 182 (pc := 151) r1 r2 hF dX11_copy_151 rfl (fun hF => ?_) (fun hF => ?_)
  · refine ji_iconst (pc := 182) dX11_copy_182 ?_
    exact ji_reti (pc := 183) rfl (jRc rfl) hF dX11_copy_183
  · refine ji_aload_n (n := 0) (pc := 154) 53 rfl rfl rfl dX11_copy_154 (fun r3 => ?_)
    refine ji_getr (pc := 155) 62 wfX11_38 (jRc3 rfl) jcl_53 jrf_53_9 dX11_copy_155 ?_
    refine jg_bipush (pc := 158) rfl dX11_copy_158 ?_
    refine ji_iload_n (n := 3) (pc := 160) l3 rfl rfl rfl dX11_copy_160 (fun r4 => ?_)
    refine ji_imul (pc := 161)  hF dX11_copy_161 (fun x5 r_x5 hF => ?_)
    refine ji_iload (pc := 162) l4 rfl rfl dX11_copy_162 (fun r6 => ?_)
    refine ji_iadd (pc := 164)  hF dX11_copy_164 (fun x7 r_x7 hF => ?_)
    refine ji_iload (pc := 165) l6 rfl rfl dX11_copy_165 (fun r8 => ?_)
    refine ji_iadd (pc := 167)  hF dX11_copy_167 (fun x9 r_x9 hF => ?_)
    refine ji_aload_n (n := 0) (pc := 168) 53 rfl rfl rfl dX11_copy_168 (fun r10 => ?_)
    refine ji_getr (pc := 169) 66 wfX11_50 (jRc3 rfl) jcl_53 jrf_53_16 dX11_copy_169 ?_
    refine ji_iload (pc := 172) l6 rfl rfl dX11_copy_172 (fun r11 => ?_)
    refine ji_iaload (pc := 174) (jRc3 rfl) r11 hF dX11_copy_174 (fun x12 r_x12 hF => ?_)
    refine ji_iastore (pc := 175) (jRc3 rfl) r_x9 r_x12 hF dX11_copy_175 (fun s13 hF => ?_)
    refine ji_iinc (pc := 176) l6 (fun w => [53, 0, 0, l3, l4, l5, w]) rfl rfl rfl (fun _ => rfl) hF dX11_copy_176 (fun x14 r_x14 hF => ?_)
    refine jg_goto (pc := 179) 147 dX11_copy_179 rfl ?_
    refine jg_norm [3, 0, 0, 1, 1, 1, 1] [53, 0, 0, l3, l4, l5, x14] rfl rfl ?_
    exact hrec _ _ _ _ _ hF
theorem obX11_copy_147W {E : jEnv} {Rr : Int → jMem → Prop} : ∀ n : Nat, ∀ (l3 l4 l5 l6 : Int) (s : jMem), jHo Rr (jIt (fun _ _ _ _ _ => none) (bX11_copy_147) n l3 l4 l5 l6 s) → jGo E MX11_copy 2 Rr [3, 0, 0, 1, 1, 1, 1] 147 [53, 0, 0, l3, l4, l5, l6] ([]) s := by
  intro n
  induction n with
  | zero => intro l3 l4 l5 l6 s hF; exact jHo_none hF
  | succ n ih => exact obX11_copy_147 ih

set_option maxRecDepth 100000 in
set_option maxHeartbeats 4000000 in
theorem obX11_copy_144 {E : jEnv} {Rr : Int → jMem → Prop} : ∀ (l3 l4 l5 : Int) (s : jMem), jHo Rr (bX11_copy_144 l3 l4 l5 s) → jGo E MX11_copy 2 Rr [3, 0, 0, 1, 1, 1, 0] 144 [53, 0, 0, l3, l4, l5, 0] ([]) s := by
  intro l3 l4 l5 s0 hF
  unfold bX11_copy_144 at hF
  refine ji_iconst (pc := 144) dX11_copy_144 ?_
  refine ji_istore (n := 6) (pc := 145) [3, 0, 0, 1, 1, 1, 1] [53, 0, 0, l3, l4, l5, 0] (jRc rfl) (Nat.le_of_ble_eq_true rfl) rfl rfl dX11_copy_145 ?_
  refine jg_norm [3, 0, 0, 1, 1, 1, 1] [53, 0, 0, l3, l4, l5, 0] rfl rfl ?_
  exact obX11_copy_147W 1000 _ _ _ _ _ hF
set_option maxRecDepth 100000 in
set_option maxHeartbeats 4000000 in
theorem oX11_copy : jOk MX11_copy [3, 1, 1, 1, 1, 1] 2 (jFn gX11_copy) := by
  refine jOk_fn (by decide +kernel) (Nat.le_of_ble_eq_true rfl) (by decide +kernel) (.inr (.inl rfl)) ?_
  intro E vs s0 Rr hF ha
  obtain ⟨l0, t0, rfl, r_l0, ha⟩ := jRa_ci ha
  obtain ⟨l1, t1, rfl, r_l1, ha⟩ := jRa_ci ha
  obtain ⟨l2, t2, rfl, r_l2, ha⟩ := jRa_ci ha
  obtain ⟨l3, t3, rfl, r_l3, ha⟩ := jRa_ci ha
  obtain ⟨l4, t4, rfl, r_l4, ha⟩ := jRa_ci ha
  obtain ⟨l5, t5, rfl, r_l5, ha⟩ := jRa_ci ha
  obtain rfl := jRa_ni ha
  replace hF : jHo Rr (jGd (l0 = 53) <| fX11_copy l1 l2 l3 l4 l5 s0) := hF
  have hG := jHo_as hF
  clear hF
  obtain ⟨rfl, hF⟩ := hG
  refine jg_norm [3, 1, 1, 1, 1, 1, 0] [53, l1, l2, l3, l4, l5, 0] rfl rfl ?_
  unfold fX11_copy at hF
  refine ji_iload_n (n := 1) (pc := 0) l1 rfl rfl rfl dX11_copy_0 (fun r1 => ?_)
  refine ji_callSz (pc := 1) [l1] ([]) oX11_isRack wlX11_94 wmX11_isRack rfl rfl (Nat.le_of_ble_eq_true rfl) (jRaC r1 jRa0) rfl rfl (Nat.le_of_ble_eq_true rfl) hF dX11_copy_1 (fun x2 s3 r_x2 hF => ?_)
  refine ji_if_eq 14 (pc := 4) (jR51 r_x2) hF dX11_copy_4 rfl (fun hF => ?_) (fun hF => ?_)
  · refine ji_iconst (pc := 14) dX11_copy_14 ?_
    exact ji_reti (pc := 15) rfl (jRc rfl) hF dX11_copy_15
  · refine ji_iload_n (n := 3) (pc := 7) l3 rfl rfl rfl dX11_copy_7 (fun r4 => ?_)
    refine ji_callSz (pc := 8) [l3] ([]) oX11_isRack wlX11_94 wmX11_isRack rfl rfl (Nat.le_of_ble_eq_true rfl) (jRaC r4 jRa0) rfl rfl (Nat.le_of_ble_eq_true rfl) hF dX11_copy_8 (fun x5 s6 r_x5 hF => ?_)
    refine ji_if_ne 16 (pc := 11) (jR51 r_x5) hF dX11_copy_11 rfl (fun hF => ?_) (fun hF => ?_)
    · refine ji_aload_n (n := 0) (pc := 16) 53 rfl rfl rfl dX11_copy_16 (fun r7 => ?_)
      refine ji_getr (pc := 17) 60 wfX11_32 (jRc3 rfl) jcl_53 jrf_53_7 dX11_copy_17 ?_
      refine ji_iload_n (n := 1) (pc := 20) l1 rfl rfl rfl dX11_copy_20 (fun r8 => ?_)
      refine ji_iaload (pc := 21) (jRc3 rfl) r8 hF dX11_copy_21 (fun x9 r_x9 hF => ?_)
      refine ji_if_lt 34 (pc := 22) r_x9 hF dX11_copy_22 rfl (fun hF => ?_) (fun hF => ?_)
      · refine jg_bipush (pc := 34) rfl dX11_copy_34 ?_
        exact ji_reti (pc := 36) rfl (jRc rfl) hF dX11_copy_36
      · refine ji_aload_n (n := 0) (pc := 25) 53 rfl rfl rfl dX11_copy_25 (fun r10 => ?_)
        refine ji_getr (pc := 26) 60 wfX11_32 (jRc3 rfl) jcl_53 jrf_53_7 dX11_copy_26 ?_
        refine ji_iload_n (n := 3) (pc := 29) l3 rfl rfl rfl dX11_copy_29 (fun r11 => ?_)
        refine ji_iaload (pc := 30) (jRc3 rfl) r11 hF dX11_copy_30 (fun x12 r_x12 hF => ?_)
        refine ji_if_ge 37 (pc := 31) r_x12 hF dX11_copy_31 rfl (fun hF => ?_) (fun hF => ?_)
        · refine ji_aload_n (n := 0) (pc := 37) 53 rfl rfl rfl dX11_copy_37 (fun r13 => ?_)
          refine ji_getr (pc := 38) 60 wfX11_32 (jRc3 rfl) jcl_53 jrf_53_7 dX11_copy_38 ?_
          refine ji_iload_n (n := 1) (pc := 41) l1 rfl rfl rfl dX11_copy_41 (fun r14 => ?_)
          refine ji_iaload (pc := 42) (jRc3 rfl) r14 hF dX11_copy_42 (fun x15 r_x15 hF => ?_)
          refine ji_aload_n (n := 0) (pc := 43) 53 rfl rfl rfl dX11_copy_43 (fun r16 => ?_)
          refine ji_getr (pc := 44) 60 wfX11_32 (jRc3 rfl) jcl_53 jrf_53_7 dX11_copy_44 ?_
          refine ji_iload_n (n := 3) (pc := 47) l3 rfl rfl rfl dX11_copy_47 (fun r17 => ?_)
          refine ji_iaload (pc := 48) (jRc3 rfl) r17 hF dX11_copy_48 (fun x18 r_x18 hF => ?_)
          refine ji_icmp_eq 55 (pc := 49) r_x15 r_x18 hF dX11_copy_49 rfl (fun hF => ?_) (fun hF => ?_)
          · refine ji_iload (pc := 55) l5 rfl rfl dX11_copy_55 (fun r19 => ?_)
            refine ji_if_lt 104 (pc := 57) r19 hF dX11_copy_57 rfl (fun hF => ?_) (fun hF => ?_)
            · refine jg_bipush (pc := 104) rfl dX11_copy_104 ?_
              exact ji_reti (pc := 106) rfl (jRc rfl) hF dX11_copy_106
            · refine ji_iload_n (n := 2) (pc := 60) l2 rfl rfl rfl dX11_copy_60 (fun r20 => ?_)
              refine ji_if_lt 104 (pc := 61) r20 hF dX11_copy_61 rfl (fun hF => ?_) (fun hF => ?_)
              · refine jg_bipush (pc := 104) rfl dX11_copy_104 ?_
                exact ji_reti (pc := 106) rfl (jRc rfl) hF dX11_copy_106
              · refine ji_iload (pc := 64) l4 rfl rfl dX11_copy_64 (fun r21 => ?_)
                refine ji_if_lt 104 (pc := 66) r21 hF dX11_copy_66 rfl (fun hF => ?_) (fun hF => ?_)
                · refine jg_bipush (pc := 104) rfl dX11_copy_104 ?_
                  exact ji_reti (pc := 106) rfl (jRc rfl) hF dX11_copy_106
                · refine ji_iload_n (n := 2) (pc := 69) l2 rfl rfl rfl dX11_copy_69 (fun r22 => ?_)
                  refine jg_i2l (pc := 70) r22 dX11_copy_70 ?_
                  refine ji_iload (pc := 71) l5 rfl rfl dX11_copy_71 (fun r23 => ?_)
                  refine jg_i2l (pc := 73) r23 dX11_copy_73 ?_
                  refine ji_ladd (pc := 74)  hF dX11_copy_74 (fun x24 r_x24 hF => ?_)
                  refine ji_aload_n (n := 0) (pc := 75) 53 rfl rfl rfl dX11_copy_75 (fun r25 => ?_)
                  refine ji_getr (pc := 76) 61 wfX11_35 (jRc3 rfl) jcl_53 jrf_53_8 dX11_copy_76 ?_
                  refine ji_iload_n (n := 1) (pc := 79) l1 rfl rfl rfl dX11_copy_79 (fun r26 => ?_)
                  refine ji_iaload (pc := 80) (jRc3 rfl) r26 hF dX11_copy_80 (fun x27 r_x27 hF => ?_)
                  refine jg_i2l (pc := 81) r_x27 dX11_copy_81 ?_
                  refine ji_lcmp (pc := 82) r_x24 (jR12 r_x27) hF dX11_copy_82 (fun x28 r_x28 hF => ?_)
                  refine ji_if_gt 104 (pc := 83) r_x28 hF dX11_copy_83 rfl (fun hF => ?_) (fun hF => ?_)
                  · refine jg_bipush (pc := 104) rfl dX11_copy_104 ?_
                    exact ji_reti (pc := 106) rfl (jRc rfl) hF dX11_copy_106
                  · refine ji_iload (pc := 86) l4 rfl rfl dX11_copy_86 (fun r29 => ?_)
                    refine jg_i2l (pc := 88) r29 dX11_copy_88 ?_
                    refine ji_iload (pc := 89) l5 rfl rfl dX11_copy_89 (fun r30 => ?_)
                    refine jg_i2l (pc := 91) r30 dX11_copy_91 ?_
                    refine ji_ladd (pc := 92)  hF dX11_copy_92 (fun x31 r_x31 hF => ?_)
                    refine ji_aload_n (n := 0) (pc := 93) 53 rfl rfl rfl dX11_copy_93 (fun r32 => ?_)
                    refine ji_getr (pc := 94) 61 wfX11_35 (jRc3 rfl) jcl_53 jrf_53_8 dX11_copy_94 ?_
                    refine ji_iload_n (n := 3) (pc := 97) l3 rfl rfl rfl dX11_copy_97 (fun r33 => ?_)
                    refine ji_iaload (pc := 98) (jRc3 rfl) r33 hF dX11_copy_98 (fun x34 r_x34 hF => ?_)
                    refine jg_i2l (pc := 99) r_x34 dX11_copy_99 ?_
                    refine ji_lcmp (pc := 100) r_x31 (jR12 r_x34) hF dX11_copy_100 (fun x35 r_x35 hF => ?_)
                    refine ji_if_le 107 (pc := 101) r_x35 hF dX11_copy_101 rfl (fun hF => ?_) (fun hF => ?_)
                    · refine ji_iconst (pc := 107) dX11_copy_107 ?_
                      refine ji_istore (n := 6) (pc := 108) [3, 1, 1, 1, 1, 1, 1] [53, l1, l2, l3, l4, l5, 0] (jRc rfl) (Nat.le_of_ble_eq_true rfl) rfl rfl dX11_copy_108 ?_
                      refine jg_norm [3, 1, 1, 1, 1, 1, 1] [53, l1, l2, l3, l4, l5, 0] rfl rfl ?_
                      exact obX11_copy_110W obX11_copy_144 1000 _ _ _ _ _ _ _ hF
                    · refine jg_bipush (pc := 104) rfl dX11_copy_104 ?_
                      exact ji_reti (pc := 106) rfl (jRc rfl) hF dX11_copy_106
          · refine jg_bipush (pc := 52) rfl dX11_copy_52 ?_
            exact ji_reti (pc := 54) rfl (jRc rfl) hF dX11_copy_54
        · refine jg_bipush (pc := 34) rfl dX11_copy_34 ?_
          exact ji_reti (pc := 36) rfl (jRc rfl) hF dX11_copy_36
    · refine ji_iconst (pc := 14) dX11_copy_14 ?_
      exact ji_reti (pc := 15) rfl (jRc rfl) hF dX11_copy_15
def fX11_told (l1 l2 : Int) (s0 : jMem) : jO :=
jBd (fX11_isRack l1 s0) fun x2 s3 =>
if x2 = 0 then (
jRet (-100000) s3)
else (
jGd ((0 : Int) ≤ l1 ∧ l1 < jik 60) <| jLet (s3 60 l1) fun x6 =>
if 0 ≤ x6 then (
jGd ((0 : Int) ≤ l1 ∧ l1 < jik 61) <| jLet (s3 61 l1) fun x10 =>
jLet (j32 (x10 - 1)) fun x11 =>
jBd (fX11_in l2 0 x11 s3) fun x12 s13 =>
if x12 = 0 then (
jRet (-100012) s13)
else (
jLet (j32 (40 * l1)) fun x16 =>
jLet (j32 (x16 + l2)) fun x18 =>
jGd ((0 : Int) ≤ x18 ∧ x18 < jik 62) <| jLet (s13 62 x18) fun x19 =>
jRet x19 s13))
else (
jRet (-100011) s3))
def gX11_told (vs : List Int) (s : jMem) : jO := match vs with
  | [a0, a1, a2] => jGd (a0 = 53) <| fX11_told a1 a2 s
  | _ => none
set_option maxRecDepth 100000 in
set_option maxHeartbeats 4000000 in
theorem oX11_told : jOk MX11_told [3, 1, 1] 2 (jFn gX11_told) := by
  refine jOk_fn (by decide +kernel) (Nat.le_of_ble_eq_true rfl) (by decide +kernel) (.inr (.inl rfl)) ?_
  intro E vs s0 Rr hF ha
  obtain ⟨l0, t0, rfl, r_l0, ha⟩ := jRa_ci ha
  obtain ⟨l1, t1, rfl, r_l1, ha⟩ := jRa_ci ha
  obtain ⟨l2, t2, rfl, r_l2, ha⟩ := jRa_ci ha
  obtain rfl := jRa_ni ha
  replace hF : jHo Rr (jGd (l0 = 53) <| fX11_told l1 l2 s0) := hF
  have hG := jHo_as hF
  clear hF
  obtain ⟨rfl, hF⟩ := hG
  refine jg_norm [3, 1, 1] [53, l1, l2] rfl rfl ?_
  unfold fX11_told at hF
  refine ji_iload_n (n := 1) (pc := 0) l1 rfl rfl rfl dX11_told_0 (fun r1 => ?_)
  refine ji_callSz (pc := 1) [l1] ([]) oX11_isRack wlX11_94 wmX11_isRack rfl rfl (Nat.le_of_ble_eq_true rfl) (jRaC r1 jRa0) rfl rfl (Nat.le_of_ble_eq_true rfl) hF dX11_told_1 (fun x2 s3 r_x2 hF => ?_)
  refine ji_if_ne 10 (pc := 4) (jR51 r_x2) hF dX11_told_4 rfl (fun hF => ?_) (fun hF => ?_)
  · refine ji_aload_n (n := 0) (pc := 10) 53 rfl rfl rfl dX11_told_10 (fun r4 => ?_)
    refine ji_getr (pc := 11) 60 wfX11_32 (jRc3 rfl) jcl_53 jrf_53_7 dX11_told_11 ?_
    refine ji_iload_n (n := 1) (pc := 14) l1 rfl rfl rfl dX11_told_14 (fun r5 => ?_)
    refine ji_iaload (pc := 15) (jRc3 rfl) r5 hF dX11_told_15 (fun x6 r_x6 hF => ?_)
    refine ji_if_ge 22 (pc := 16) r_x6 hF dX11_told_16 rfl (fun hF => ?_) (fun hF => ?_)
    · refine ji_iload_n (n := 2) (pc := 22) l2 rfl rfl rfl dX11_told_22 (fun r7 => ?_)
      refine jg_i2l (pc := 23) r7 dX11_told_23 ?_
      refine jg_lconst (n := 0) (pc := 24) rfl dX11_told_24 ?_
      refine ji_aload_n (n := 0) (pc := 25) 53 rfl rfl rfl dX11_told_25 (fun r8 => ?_)
      refine ji_getr (pc := 26) 61 wfX11_35 (jRc3 rfl) jcl_53 jrf_53_8 dX11_told_26 ?_
      refine ji_iload_n (n := 1) (pc := 29) l1 rfl rfl rfl dX11_told_29 (fun r9 => ?_)
      refine ji_iaload (pc := 30) (jRc3 rfl) r9 hF dX11_told_30 (fun x10 r_x10 hF => ?_)
      refine ji_iconst (pc := 31) dX11_told_31 ?_
      refine ji_isub (pc := 32)  hF dX11_told_32 (fun x11 r_x11 hF => ?_)
      refine jg_i2l (pc := 33) r_x11 dX11_told_33 ?_
      refine ji_callSz (pc := 34) [l2, 0, x11] ([]) oX11_in wlX11_86 wmX11_in rfl rfl (Nat.le_of_ble_eq_true rfl) (jRaC (jR12 r7) (jRaC (jRc2 rfl) (jRaC (jR12 r_x11) jRa0))) rfl rfl (Nat.le_of_ble_eq_true rfl) hF dX11_told_34 (fun x12 s13 r_x12 hF => ?_)
      refine ji_if_eq 54 (pc := 37) (jR51 r_x12) hF dX11_told_37 rfl (fun hF => ?_) (fun hF => ?_)
      · refine jg_ldc (n := (-100012)) (pc := 54) wnX11_105 dX11_told_54 ?_
        exact ji_reti (pc := 56) rfl (jRc rfl) hF dX11_told_56
      · refine ji_aload_n (n := 0) (pc := 40) 53 rfl rfl rfl dX11_told_40 (fun r14 => ?_)
        refine ji_getr (pc := 41) 62 wfX11_38 (jRc3 rfl) jcl_53 jrf_53_9 dX11_told_41 ?_
        refine jg_bipush (pc := 44) rfl dX11_told_44 ?_
        refine ji_iload_n (n := 1) (pc := 46) l1 rfl rfl rfl dX11_told_46 (fun r15 => ?_)
        refine ji_imul (pc := 47)  hF dX11_told_47 (fun x16 r_x16 hF => ?_)
        refine ji_iload_n (n := 2) (pc := 48) l2 rfl rfl rfl dX11_told_48 (fun r17 => ?_)
        refine ji_iadd (pc := 49)  hF dX11_told_49 (fun x18 r_x18 hF => ?_)
        refine ji_iaload (pc := 50) (jRc3 rfl) r_x18 hF dX11_told_50 (fun x19 r_x19 hF => ?_)
        refine jg_goto (pc := 51) 56 dX11_told_51 rfl ?_
        exact ji_reti (pc := 56) rfl r_x19 hF dX11_told_56
    · refine jg_ldc (n := (-100011)) (pc := 19) wnX11_104 dX11_told_19 ?_
      exact ji_reti (pc := 21) rfl (jRc rfl) hF dX11_told_21
  · refine jg_ldc (n := (-100000)) (pc := 7) wnX11_103 dX11_told_7 ?_
    exact ji_reti (pc := 9) rfl (jRc rfl) hF dX11_told_9
def bX11_heldMany_4 (rec : Int → Int → Int → jMem → jO) (l1 l2 l3 : Int) (s0 : jMem) : jO :=
if 34 ≤ l3 then (
jRet l2 s0)
else (
jLet (j32 (34 * l1)) fun x6 =>
jLet (j32 (x6 + l3)) fun x8 =>
jGd ((0 : Int) ≤ x8 ∧ x8 < jik 56) <| jLet (s0 56 x8) fun x9 =>
jLet (j32 (l2 + x9)) fun x10 =>
jLet (j32 (l3 + 1)) fun x11 =>
rec l1 x10 x11 s0)
def fX11_heldMany (l1 : Int) (s0 : jMem) : jO :=
jIt (fun _ _ _ _ => none) (bX11_heldMany_4) 1000 l1 0 0 s0
def gX11_heldMany (vs : List Int) (s : jMem) : jO := match vs with
  | [a0, a1] => jGd (a0 = 53) <| fX11_heldMany a1 s
  | _ => none
set_option maxRecDepth 100000 in
set_option maxHeartbeats 4000000 in
theorem obX11_heldMany_4 {E : jEnv} {Rr : Int → jMem → Prop} {rec : Int → Int → Int → jMem → jO} (hrec : ∀ (l1 l2 l3 : Int) (s : jMem), jHo Rr (rec l1 l2 l3 s) → jGo E MX11_heldMany 0 Rr [3, 1, 1, 1] 4 [53, l1, l2, l3] ([]) s) : ∀ (l1 l2 l3 : Int) (s : jMem), jHo Rr (bX11_heldMany_4 rec l1 l2 l3 s) → jGo E MX11_heldMany 0 Rr [3, 1, 1, 1] 4 [53, l1, l2, l3] ([]) s := by
  intro l1 l2 l3 s0 hF
  unfold bX11_heldMany_4 at hF
  refine ji_iload_n (n := 3) (pc := 4) l3 rfl rfl rfl dX11_heldMany_4 (fun r1 => ?_)
  refine jg_bipush (pc := 5) rfl dX11_heldMany_5 ?_
  refine ji_icmp_ge 30 (pc := 7) r1 (jRc rfl) hF dX11_heldMany_7 rfl (fun hF => ?_) (fun hF => ?_)
  · refine ji_iload_n (n := 2) (pc := 30) l2 rfl rfl rfl dX11_heldMany_30 (fun r2 => ?_)
    exact ji_reti (pc := 31) rfl r2 hF dX11_heldMany_31
  · refine ji_iload_n (n := 2) (pc := 10) l2 rfl rfl rfl dX11_heldMany_10 (fun r3 => ?_)
    refine ji_aload_n (n := 0) (pc := 11) 53 rfl rfl rfl dX11_heldMany_11 (fun r4 => ?_)
    refine ji_getr (pc := 12) 56 wfX11_16 (jRc3 rfl) jcl_53 jrf_53_2 dX11_heldMany_12 ?_
    refine jg_bipush (pc := 15) rfl dX11_heldMany_15 ?_
    refine ji_iload_n (n := 1) (pc := 17) l1 rfl rfl rfl dX11_heldMany_17 (fun r5 => ?_)
    refine ji_imul (pc := 18)  hF dX11_heldMany_18 (fun x6 r_x6 hF => ?_)
    refine ji_iload_n (n := 3) (pc := 19) l3 rfl rfl rfl dX11_heldMany_19 (fun r7 => ?_)
    refine ji_iadd (pc := 20)  hF dX11_heldMany_20 (fun x8 r_x8 hF => ?_)
    refine ji_iaload (pc := 21) (jRc3 rfl) r_x8 hF dX11_heldMany_21 (fun x9 r_x9 hF => ?_)
    refine ji_iadd (pc := 22)  hF dX11_heldMany_22 (fun x10 r_x10 hF => ?_)
    refine ji_istore_n (n := 2) (pc := 23) [3, 1, 1, 1] [53, l1, x10, l3] rfl r_x10 (Nat.le_of_ble_eq_true rfl) rfl rfl dX11_heldMany_23 ?_
    refine ji_iinc (pc := 24) l3 (fun w => [53, l1, x10, w]) rfl rfl rfl (fun _ => rfl) hF dX11_heldMany_24 (fun x11 r_x11 hF => ?_)
    refine jg_goto (pc := 27) 4 dX11_heldMany_27 rfl ?_
    refine jg_norm [3, 1, 1, 1] [53, l1, x10, x11] rfl rfl ?_
    exact hrec _ _ _ _ hF
theorem obX11_heldMany_4W {E : jEnv} {Rr : Int → jMem → Prop} : ∀ n : Nat, ∀ (l1 l2 l3 : Int) (s : jMem), jHo Rr (jIt (fun _ _ _ _ => none) (bX11_heldMany_4) n l1 l2 l3 s) → jGo E MX11_heldMany 0 Rr [3, 1, 1, 1] 4 [53, l1, l2, l3] ([]) s := by
  intro n
  induction n with
  | zero => intro l1 l2 l3 s hF; exact jHo_none hF
  | succ n ih => exact obX11_heldMany_4 ih

set_option maxRecDepth 100000 in
set_option maxHeartbeats 4000000 in
theorem oX11_heldMany : jOk MX11_heldMany [3, 1] 0 (jFn gX11_heldMany) := by
  refine jOk_fn (by decide +kernel) (Nat.le_of_ble_eq_true rfl) (by decide +kernel) (.inr (.inl rfl)) ?_
  intro E vs s0 Rr hF ha
  obtain ⟨l0, t0, rfl, r_l0, ha⟩ := jRa_ci ha
  obtain ⟨l1, t1, rfl, r_l1, ha⟩ := jRa_ci ha
  obtain rfl := jRa_ni ha
  replace hF : jHo Rr (jGd (l0 = 53) <| fX11_heldMany l1 s0) := hF
  have hG := jHo_as hF
  clear hF
  obtain ⟨rfl, hF⟩ := hG
  refine jg_norm [3, 1, 0, 0] [53, l1, 0, 0] rfl rfl ?_
  unfold fX11_heldMany at hF
  refine ji_iconst (pc := 0) dX11_heldMany_0 ?_
  refine ji_istore_n (n := 2) (pc := 1) [3, 1, 1, 0] [53, l1, 0, 0] rfl (jRc rfl) (Nat.le_of_ble_eq_true rfl) rfl rfl dX11_heldMany_1 ?_
  refine ji_iconst (pc := 2) dX11_heldMany_2 ?_
  refine ji_istore_n (n := 3) (pc := 3) [3, 1, 1, 1] [53, l1, 0, 0] rfl (jRc rfl) (Nat.le_of_ble_eq_true rfl) rfl rfl dX11_heldMany_3 ?_
  refine jg_norm [3, 1, 1, 1] [53, l1, 0, 0] rfl rfl ?_
  exact obX11_heldMany_4W 1000 _ _ _ _ hF
def fX11_sizeOf (l1 : Int) (s0 : jMem) : jO :=
jBd (fX11_heldMany l1 s0) fun x3 s4 =>
jGd ((0 : Int) ≤ l1 ∧ l1 < jik 58) <| jLet (s4 58 l1) fun x7 =>
jLet (j32 (3 * x7)) fun x8 =>
jLet (j32 (x3 + x8)) fun x9 =>
jRet x9 s4
def gX11_sizeOf (vs : List Int) (s : jMem) : jO := match vs with
  | [a0, a1] => jGd (a0 = 53) <| fX11_sizeOf a1 s
  | _ => none
set_option maxRecDepth 100000 in
set_option maxHeartbeats 4000000 in
theorem oX11_sizeOf : jOk MX11_sizeOf [3, 1] 1 (jFn gX11_sizeOf) := by
  refine jOk_fn (by decide +kernel) (Nat.le_of_ble_eq_true rfl) (by decide +kernel) (.inr (.inl rfl)) ?_
  intro E vs s0 Rr hF ha
  obtain ⟨l0, t0, rfl, r_l0, ha⟩ := jRa_ci ha
  obtain ⟨l1, t1, rfl, r_l1, ha⟩ := jRa_ci ha
  obtain rfl := jRa_ni ha
  replace hF : jHo Rr (jGd (l0 = 53) <| fX11_sizeOf l1 s0) := hF
  have hG := jHo_as hF
  clear hF
  obtain ⟨rfl, hF⟩ := hG
  refine jg_norm [3, 1] [53, l1] rfl rfl ?_
  unfold fX11_sizeOf at hF
  refine ji_aload_n (n := 0) (pc := 0) 53 rfl rfl rfl dX11_sizeOf_0 (fun r1 => ?_)
  refine ji_iload_n (n := 1) (pc := 1) l1 rfl rfl rfl dX11_sizeOf_1 (fun r2 => ?_)
  refine ji_callVi (pc := 2) 53 [l1] ([]) oX11_heldMany wlX11_110 wmX11_heldMany rfl rfl (Nat.le_of_ble_eq_true rfl) (jRaC (jRc3 rfl) (jRaC r2 jRa0)) rfl jcl_53 rfl (Nat.le_of_ble_eq_true rfl) hF dX11_sizeOf_2 (fun x3 s4 r_x3 hF => ?_)
  refine ji_iconst (pc := 5) dX11_sizeOf_5 ?_
  refine ji_aload_n (n := 0) (pc := 6) 53 rfl rfl rfl dX11_sizeOf_6 (fun r5 => ?_)
  refine ji_getr (pc := 7) 58 wfX11_22 (jRc3 rfl) jcl_53 jrf_53_4 dX11_sizeOf_7 ?_
  refine ji_iload_n (n := 1) (pc := 10) l1 rfl rfl rfl dX11_sizeOf_10 (fun r6 => ?_)
  refine ji_iaload (pc := 11) (jRc3 rfl) r6 hF dX11_sizeOf_11 (fun x7 r_x7 hF => ?_)
  refine ji_imul (pc := 12)  hF dX11_sizeOf_12 (fun x8 r_x8 hF => ?_)
  refine ji_iadd (pc := 13)  hF dX11_sizeOf_13 (fun x9 r_x9 hF => ?_)
  exact ji_reti (pc := 14) rfl r_x9 hF dX11_sizeOf_14
def bX11_read_79 (k100 : Int → Int → Int → Int → jMem → jO) (rec : Int → Int → Int → Int → Int → jMem → jO) (l1 l2 l3 l4 l5 : Int) (s0 : jMem) : jO :=
if 34 ≤ l5 then (
k100 l1 l2 l3 l4 s0)
else (
jGd ((0 : Int) ≤ l5 ∧ l5 < jik 67) <| jLet (jU s0 67 l5 0) fun s4 =>
jLet (j32 (l5 + 1)) fun x5 =>
rec l1 l2 l3 l4 x5 s4)
def bX11_read_103 (k174 : Int → jMem → jO) (rec : Int → Int → Int → Int → Int → jMem → jO) (l1 l2 l3 l4 l5 : Int) (s0 : jMem) : jO :=
if l4 ≤ l5 then (
k174 l1 s0)
else (
jLet (j32 (40 * l2)) fun x5 =>
jLet (j32 (x5 + l3)) fun x7 =>
jLet (j32 (x7 + l5)) fun x9 =>
jGd ((0 : Int) ≤ x9 ∧ x9 < jik 62) <| jLet (s0 62 x9) fun x10 =>
jBd (fX11_isSort x10 s0) fun x12 s13 =>
if x12 = 0 then (
jRet (-15) s13)
else (
jGd ((0 : Int) ≤ x10 ∧ x10 < jik 67) <| jLet (s13 67 x10) fun x16 =>
jGd ((0 : Int) ≤ x10 ∧ x10 < jik 54) <| jLet (s13 54 x10) fun x19 =>
if x16 = x19 then (
jRet (-16) s13)
else (
jGd ((0 : Int) ≤ x10 ∧ x10 < jik 67) <| jLet (s13 67 x10) fun x22 =>
jLet (j32 (x22 + 1)) fun x23 =>
jGd ((0 : Int) ≤ x10 ∧ x10 < jik 67) <| jLet (jU s13 67 x10 x23) fun s24 =>
jLet (j32 (l5 + 1)) fun x25 =>
rec l1 l2 l3 l4 x25 s24)))
def bX11_read_177 (rec : Int → Int → jMem → jO) (l1 l5 : Int) (s0 : jMem) : jO :=
if 34 ≤ l5 then (
jBd (fX11_sizeOf l1 s0) fun x4 s5 =>
jRet x4 s5)
else (
jGd ((0 : Int) ≤ l5 ∧ l5 < jik 54) <| jLet (s0 54 l5) fun x8 =>
jGd ((0 : Int) ≤ l5 ∧ l5 < jik 67) <| jLet (s0 67 l5) fun x11 =>
jLet (j32 (x8 - x11)) fun x12 =>
jGd ((0 : Int) ≤ l5 ∧ l5 < jik 54) <| jLet (jU s0 54 l5 x12) fun s13 =>
jLet (j32 (34 * l1)) fun x16 =>
jLet (j32 (x16 + l5)) fun x18 =>
jGd ((0 : Int) ≤ x18 ∧ x18 < jik 56) <| jLet (s13 56 x18) fun x19 =>
jGd ((0 : Int) ≤ l5 ∧ l5 < jik 67) <| jLet (s13 67 l5) fun x22 =>
jLet (j32 (x19 + x22)) fun x23 =>
jGd ((0 : Int) ≤ x18 ∧ x18 < jik 56) <| jLet (jU s13 56 x18 x23) fun s24 =>
jLet (j32 (l5 + 1)) fun x25 =>
rec l1 x25 s24)
def bX11_read_174 (l1 : Int) (s0 : jMem) : jO :=
jIt (fun _ _ _ => none) (bX11_read_177) 1000 l1 0 s0
def bX11_read_100 (l1 l2 l3 l4 : Int) (s0 : jMem) : jO :=
jIt (fun _ _ _ _ _ _ => none) (bX11_read_103 bX11_read_174) 1000 l1 l2 l3 l4 0 s0
def fX11_read (l1 l2 l3 l4 : Int) (s0 : jMem) : jO :=
jBd (fX11_isHand l1 s0) fun x2 s3 =>
if x2 = 0 then (
jRet (-1) s3)
else (
jBd (fX11_isRack l2 s3) fun x5 s6 =>
if x5 = 0 then (
jRet (-1) s6)
else (
jGd ((0 : Int) ≤ l2 ∧ l2 < jik 60) <| jLet (s6 60 l2) fun x9 =>
if 0 ≤ x9 then (
if 0 ≤ l4 then (
if l3 < 0 then (
jRet (-12) s6)
else (
jLet (j64 (l3 + l4)) fun x14 =>
jGd ((0 : Int) ≤ l2 ∧ l2 < jik 61) <| jLet (s6 61 l2) fun x17 =>
jLet (jcmp x14 x17) fun x18 =>
if x18 ≤ 0 then (
jBd (fX11_sizeOf l1 s6) fun x21 s22 =>
jLet (j32 (x21 + l4)) fun x24 =>
if x24 ≤ 14 then (
jIt (fun _ _ _ _ _ _ => none) (bX11_read_79 bX11_read_100) 1000 l1 l2 l3 l4 0 s22)
else (
jRet (-17) s22))
else (
jRet (-12) s6)))
else (
jRet (-13) s6))
else (
jRet (-11) s6)))
def gX11_read (vs : List Int) (s : jMem) : jO := match vs with
  | [a0, a1, a2, a3, a4] => jGd (a0 = 53) <| fX11_read a1 a2 a3 a4 s
  | _ => none
set_option maxRecDepth 100000 in
set_option maxHeartbeats 4000000 in
theorem obX11_read_79 {E : jEnv} {Rr : Int → jMem → Prop} {k100 : Int → Int → Int → Int → jMem → jO} (hk100 : ∀ (l1 l2 l3 l4 : Int) (s : jMem), jHo Rr (k100 l1 l2 l3 l4 s) → jGo E MX11_read 2 Rr [3, 1, 1, 1, 1, 0, 0] 100 [53, l1, l2, l3, l4, 0, 0] ([]) s) {rec : Int → Int → Int → Int → Int → jMem → jO} (hrec : ∀ (l1 l2 l3 l4 l5 : Int) (s : jMem), jHo Rr (rec l1 l2 l3 l4 l5 s) → jGo E MX11_read 2 Rr [3, 1, 1, 1, 1, 1, 0] 79 [53, l1, l2, l3, l4, l5, 0] ([]) s) : ∀ (l1 l2 l3 l4 l5 : Int) (s : jMem), jHo Rr (bX11_read_79 k100 rec l1 l2 l3 l4 l5 s) → jGo E MX11_read 2 Rr [3, 1, 1, 1, 1, 1, 0] 79 [53, l1, l2, l3, l4, l5, 0] ([]) s := by
  intro l1 l2 l3 l4 l5 s0 hF
  unfold bX11_read_79 at hF
  refine ji_iload (pc := 79) l5 rfl rfl dX11_read_79 (fun r1 => ?_)
  refine jg_bipush (pc := 81) rfl dX11_read_81 ?_
  refine ji_icmp_ge 100 (pc := 83) r1 (jRc rfl) hF dX11_read_83 rfl (fun hF => ?_) (fun hF => ?_)
  · refine jg_norm [3, 1, 1, 1, 1, 0, 0] [53, l1, l2, l3, l4, 0, 0] rfl rfl ?_
    exact hk100 _ _ _ _ _ hF
  · refine ji_aload_n (n := 0) (pc := 86) 53 rfl rfl rfl dX11_read_86 (fun r2 => ?_)
    refine ji_getr (pc := 87) 67 wfX11_53 (jRc3 rfl) jcl_53 jrf_53_17 dX11_read_87 ?_
    refine ji_iload (pc := 90) l5 rfl rfl dX11_read_90 (fun r3 => ?_)
    refine ji_iconst (pc := 92) dX11_read_92 ?_
    refine ji_iastore (pc := 93) (jRc3 rfl) r3 (jRc rfl) hF dX11_read_93 (fun s4 hF => ?_)
    refine ji_iinc (pc := 94) l5 (fun w => [53, l1, l2, l3, l4, w, 0]) rfl rfl rfl (fun _ => rfl) hF dX11_read_94 (fun x5 r_x5 hF => ?_)
    refine jg_goto (pc := 97) 79 dX11_read_97 rfl ?_
    refine jg_norm [3, 1, 1, 1, 1, 1, 0] [53, l1, l2, l3, l4, x5, 0] rfl rfl ?_
    exact hrec _ _ _ _ _ _ hF
theorem obX11_read_79W {E : jEnv} {Rr : Int → jMem → Prop} {k100 : Int → Int → Int → Int → jMem → jO} (hk100 : ∀ (l1 l2 l3 l4 : Int) (s : jMem), jHo Rr (k100 l1 l2 l3 l4 s) → jGo E MX11_read 2 Rr [3, 1, 1, 1, 1, 0, 0] 100 [53, l1, l2, l3, l4, 0, 0] ([]) s) : ∀ n : Nat, ∀ (l1 l2 l3 l4 l5 : Int) (s : jMem), jHo Rr (jIt (fun _ _ _ _ _ _ => none) (bX11_read_79 k100) n l1 l2 l3 l4 l5 s) → jGo E MX11_read 2 Rr [3, 1, 1, 1, 1, 1, 0] 79 [53, l1, l2, l3, l4, l5, 0] ([]) s := by
  intro n
  induction n with
  | zero => intro l1 l2 l3 l4 l5 s hF; exact jHo_none hF
  | succ n ih => exact obX11_read_79 hk100 ih

set_option maxRecDepth 100000 in
set_option maxHeartbeats 4000000 in
theorem obX11_read_103 {E : jEnv} {Rr : Int → jMem → Prop} {k174 : Int → jMem → jO} (hk174 : ∀ (l1 : Int) (s : jMem), jHo Rr (k174 l1 s) → jGo E MX11_read 2 Rr [3, 1, 0, 0, 0, 0, 0] 174 [53, l1, 0, 0, 0, 0, 0] ([]) s) {rec : Int → Int → Int → Int → Int → jMem → jO} (hrec : ∀ (l1 l2 l3 l4 l5 : Int) (s : jMem), jHo Rr (rec l1 l2 l3 l4 l5 s) → jGo E MX11_read 2 Rr [3, 1, 1, 1, 1, 1, 0] 103 [53, l1, l2, l3, l4, l5, 0] ([]) s) : ∀ (l1 l2 l3 l4 l5 : Int) (s : jMem), jHo Rr (bX11_read_103 k174 rec l1 l2 l3 l4 l5 s) → jGo E MX11_read 2 Rr [3, 1, 1, 1, 1, 1, 0] 103 [53, l1, l2, l3, l4, l5, 0] ([]) s := by
  intro l1 l2 l3 l4 l5 s0 hF
  unfold bX11_read_103 at hF
  refine ji_iload (pc := 103) l5 rfl rfl dX11_read_103 (fun r1 => ?_)
  refine ji_iload (pc := 105) l4 rfl rfl dX11_read_105 (fun r2 => ?_)
  refine ji_icmp_ge 174 (pc := 107) r1 r2 hF dX11_read_107 rfl (fun hF => ?_) (fun hF => ?_)
  · refine jg_norm [3, 1, 0, 0, 0, 0, 0] [53, l1, 0, 0, 0, 0, 0] rfl rfl ?_
    exact hk174 _ _ hF
  · refine ji_aload_n (n := 0) (pc := 110) 53 rfl rfl rfl dX11_read_110 (fun r3 => ?_)
    refine ji_getr (pc := 111) 62 wfX11_38 (jRc3 rfl) jcl_53 jrf_53_9 dX11_read_111 ?_
    refine jg_bipush (pc := 114) rfl dX11_read_114 ?_
    refine ji_iload_n (n := 2) (pc := 116) l2 rfl rfl rfl dX11_read_116 (fun r4 => ?_)
    refine ji_imul (pc := 117)  hF dX11_read_117 (fun x5 r_x5 hF => ?_)
    refine ji_iload_n (n := 3) (pc := 118) l3 rfl rfl rfl dX11_read_118 (fun r6 => ?_)
    refine ji_iadd (pc := 119)  hF dX11_read_119 (fun x7 r_x7 hF => ?_)
    refine ji_iload (pc := 120) l5 rfl rfl dX11_read_120 (fun r8 => ?_)
    refine ji_iadd (pc := 122)  hF dX11_read_122 (fun x9 r_x9 hF => ?_)
    refine ji_iaload (pc := 123) (jRc3 rfl) r_x9 hF dX11_read_123 (fun x10 r_x10 hF => ?_)
    refine ji_istore (n := 6) (pc := 124) [3, 1, 1, 1, 1, 1, 1] [53, l1, l2, l3, l4, l5, x10] r_x10 (Nat.le_of_ble_eq_true rfl) rfl rfl dX11_read_124 ?_
    refine ji_iload (pc := 126) x10 rfl rfl dX11_read_126 (fun r11 => ?_)
    refine ji_callSz (pc := 128) [x10] ([]) oX11_isSort wlX11_120 wmX11_isSort rfl rfl (Nat.le_of_ble_eq_true rfl) (jRaC r11 jRa0) rfl rfl (Nat.le_of_ble_eq_true rfl) hF dX11_read_128 (fun x12 s13 r_x12 hF => ?_)
    refine ji_if_ne 137 (pc := 131) (jR51 r_x12) hF dX11_read_131 rfl (fun hF => ?_) (fun hF => ?_)
    · refine ji_aload_n (n := 0) (pc := 137) 53 rfl rfl rfl dX11_read_137 (fun r14 => ?_)
      refine ji_getr (pc := 138) 67 wfX11_53 (jRc3 rfl) jcl_53 jrf_53_17 dX11_read_138 ?_
      refine ji_iload (pc := 141) x10 rfl rfl dX11_read_141 (fun r15 => ?_)
      refine ji_iaload (pc := 143) (jRc3 rfl) r15 hF dX11_read_143 (fun x16 r_x16 hF => ?_)
      refine ji_aload_n (n := 0) (pc := 144) 53 rfl rfl rfl dX11_read_144 (fun r17 => ?_)
      refine ji_getr (pc := 145) 54 wfX11_7 (jRc3 rfl) jcl_53 jrf_53_0 dX11_read_145 ?_
      refine ji_iload (pc := 148) x10 rfl rfl dX11_read_148 (fun r18 => ?_)
      refine ji_iaload (pc := 150) (jRc3 rfl) r18 hF dX11_read_150 (fun x19 r_x19 hF => ?_)
      refine ji_icmp_ne 157 (pc := 151) r_x16 r_x19 hF dX11_read_151 rfl (fun hF => ?_) (fun hF => ?_)
      · refine ji_aload_n (n := 0) (pc := 157) 53 rfl rfl rfl dX11_read_157 (fun r20 => ?_)
        refine ji_getr (pc := 158) 67 wfX11_53 (jRc3 rfl) jcl_53 jrf_53_17 dX11_read_158 ?_
        refine ji_iload (pc := 161) x10 rfl rfl dX11_read_161 (fun r21 => ?_)
        refine jg_dup2 (pc := 163) (by decide) (by decide) dX11_read_163 ?_
        refine ji_iaload (pc := 164) (jRc3 rfl) r21 hF dX11_read_164 (fun x22 r_x22 hF => ?_)
        refine ji_iconst (pc := 165) dX11_read_165 ?_
        refine ji_iadd (pc := 166)  hF dX11_read_166 (fun x23 r_x23 hF => ?_)
        refine ji_iastore (pc := 167) (jRc3 rfl) r21 r_x23 hF dX11_read_167 (fun s24 hF => ?_)
        refine ji_iinc (pc := 168) l5 (fun w => [53, l1, l2, l3, l4, w, x10]) rfl rfl rfl (fun _ => rfl) hF dX11_read_168 (fun x25 r_x25 hF => ?_)
        refine jg_goto (pc := 171) 103 dX11_read_171 rfl ?_
        refine jg_norm [3, 1, 1, 1, 1, 1, 0] [53, l1, l2, l3, l4, x25, 0] rfl rfl ?_
        exact hrec _ _ _ _ _ _ hF
      · refine jg_bipush (pc := 154) rfl dX11_read_154 ?_
        exact ji_reti (pc := 156) rfl (jRc rfl) hF dX11_read_156
    · refine jg_bipush (pc := 134) rfl dX11_read_134 ?_
      exact ji_reti (pc := 136) rfl (jRc rfl) hF dX11_read_136
theorem obX11_read_103W {E : jEnv} {Rr : Int → jMem → Prop} {k174 : Int → jMem → jO} (hk174 : ∀ (l1 : Int) (s : jMem), jHo Rr (k174 l1 s) → jGo E MX11_read 2 Rr [3, 1, 0, 0, 0, 0, 0] 174 [53, l1, 0, 0, 0, 0, 0] ([]) s) : ∀ n : Nat, ∀ (l1 l2 l3 l4 l5 : Int) (s : jMem), jHo Rr (jIt (fun _ _ _ _ _ _ => none) (bX11_read_103 k174) n l1 l2 l3 l4 l5 s) → jGo E MX11_read 2 Rr [3, 1, 1, 1, 1, 1, 0] 103 [53, l1, l2, l3, l4, l5, 0] ([]) s := by
  intro n
  induction n with
  | zero => intro l1 l2 l3 l4 l5 s hF; exact jHo_none hF
  | succ n ih => exact obX11_read_103 hk174 ih

set_option maxRecDepth 100000 in
set_option maxHeartbeats 4000000 in
theorem obX11_read_177 {E : jEnv} {Rr : Int → jMem → Prop} {rec : Int → Int → jMem → jO} (hrec : ∀ (l1 l5 : Int) (s : jMem), jHo Rr (rec l1 l5 s) → jGo E MX11_read 2 Rr [3, 1, 0, 0, 0, 1, 0] 177 [53, l1, 0, 0, 0, l5, 0] ([]) s) : ∀ (l1 l5 : Int) (s : jMem), jHo Rr (bX11_read_177 rec l1 l5 s) → jGo E MX11_read 2 Rr [3, 1, 0, 0, 0, 1, 0] 177 [53, l1, 0, 0, 0, l5, 0] ([]) s := by
  intro l1 l5 s0 hF
  unfold bX11_read_177 at hF
  refine ji_iload (pc := 177) l5 rfl rfl dX11_read_177 (fun r1 => ?_)
  refine jg_bipush (pc := 179) rfl dX11_read_179 ?_
  refine ji_icmp_ge 229 (pc := 181) r1 (jRc rfl) hF dX11_read_181 rfl (fun hF => ?_) (fun hF => ?_)
  · refine ji_aload_n (n := 0) (pc := 229) 53 rfl rfl rfl dX11_read_229 (fun r2 => ?_)
    refine ji_iload_n (n := 1) (pc := 230) l1 rfl rfl rfl dX11_read_230 (fun r3 => ?_)
    refine ji_callVi (pc := 231) 53 [l1] ([]) oX11_sizeOf wlX11_117 wmX11_sizeOf rfl rfl (Nat.le_of_ble_eq_true rfl) (jRaC (jRc3 rfl) (jRaC r3 jRa0)) rfl jcl_53 rfl (Nat.le_of_ble_eq_true rfl) hF dX11_read_231 (fun x4 s5 r_x4 hF => ?_)
    exact ji_reti (pc := 234) rfl r_x4 hF dX11_read_234
  · refine ji_aload_n (n := 0) (pc := 184) 53 rfl rfl rfl dX11_read_184 (fun r6 => ?_)
    refine ji_getr (pc := 185) 54 wfX11_7 (jRc3 rfl) jcl_53 jrf_53_0 dX11_read_185 ?_
    refine ji_iload (pc := 188) l5 rfl rfl dX11_read_188 (fun r7 => ?_)
    refine jg_dup2 (pc := 190) (by decide) (by decide) dX11_read_190 ?_
    refine ji_iaload (pc := 191) (jRc3 rfl) r7 hF dX11_read_191 (fun x8 r_x8 hF => ?_)
    refine ji_aload_n (n := 0) (pc := 192) 53 rfl rfl rfl dX11_read_192 (fun r9 => ?_)
    refine ji_getr (pc := 193) 67 wfX11_53 (jRc3 rfl) jcl_53 jrf_53_17 dX11_read_193 ?_
    refine ji_iload (pc := 196) l5 rfl rfl dX11_read_196 (fun r10 => ?_)
    refine ji_iaload (pc := 198) (jRc3 rfl) r10 hF dX11_read_198 (fun x11 r_x11 hF => ?_)
    refine ji_isub (pc := 199)  hF dX11_read_199 (fun x12 r_x12 hF => ?_)
    refine ji_iastore (pc := 200) (jRc3 rfl) r7 r_x12 hF dX11_read_200 (fun s13 hF => ?_)
    refine ji_aload_n (n := 0) (pc := 201) 53 rfl rfl rfl dX11_read_201 (fun r14 => ?_)
    refine ji_getr (pc := 202) 56 wfX11_16 (jRc3 rfl) jcl_53 jrf_53_2 dX11_read_202 ?_
    refine jg_bipush (pc := 205) rfl dX11_read_205 ?_
    refine ji_iload_n (n := 1) (pc := 207) l1 rfl rfl rfl dX11_read_207 (fun r15 => ?_)
    refine ji_imul (pc := 208)  hF dX11_read_208 (fun x16 r_x16 hF => ?_)
    refine ji_iload (pc := 209) l5 rfl rfl dX11_read_209 (fun r17 => ?_)
    refine ji_iadd (pc := 211)  hF dX11_read_211 (fun x18 r_x18 hF => ?_)
    refine jg_dup2 (pc := 212) (by decide) (by decide) dX11_read_212 ?_
    refine ji_iaload (pc := 213) (jRc3 rfl) r_x18 hF dX11_read_213 (fun x19 r_x19 hF => ?_)
    refine ji_aload_n (n := 0) (pc := 214) 53 rfl rfl rfl dX11_read_214 (fun r20 => ?_)
    refine ji_getr (pc := 215) 67 wfX11_53 (jRc3 rfl) jcl_53 jrf_53_17 dX11_read_215 ?_
    refine ji_iload (pc := 218) l5 rfl rfl dX11_read_218 (fun r21 => ?_)
    refine ji_iaload (pc := 220) (jRc3 rfl) r21 hF dX11_read_220 (fun x22 r_x22 hF => ?_)
    refine ji_iadd (pc := 221)  hF dX11_read_221 (fun x23 r_x23 hF => ?_)
    refine ji_iastore (pc := 222) (jRc3 rfl) r_x18 r_x23 hF dX11_read_222 (fun s24 hF => ?_)
    refine ji_iinc (pc := 223) l5 (fun w => [53, l1, 0, 0, 0, w, 0]) rfl rfl rfl (fun _ => rfl) hF dX11_read_223 (fun x25 r_x25 hF => ?_)
    refine jg_goto (pc := 226) 177 dX11_read_226 rfl ?_
    refine jg_norm [3, 1, 0, 0, 0, 1, 0] [53, l1, 0, 0, 0, x25, 0] rfl rfl ?_
    exact hrec _ _ _ hF
theorem obX11_read_177W {E : jEnv} {Rr : Int → jMem → Prop} : ∀ n : Nat, ∀ (l1 l5 : Int) (s : jMem), jHo Rr (jIt (fun _ _ _ => none) (bX11_read_177) n l1 l5 s) → jGo E MX11_read 2 Rr [3, 1, 0, 0, 0, 1, 0] 177 [53, l1, 0, 0, 0, l5, 0] ([]) s := by
  intro n
  induction n with
  | zero => intro l1 l5 s hF; exact jHo_none hF
  | succ n ih => exact obX11_read_177 ih

set_option maxRecDepth 100000 in
set_option maxHeartbeats 4000000 in
theorem obX11_read_174 {E : jEnv} {Rr : Int → jMem → Prop} : ∀ (l1 : Int) (s : jMem), jHo Rr (bX11_read_174 l1 s) → jGo E MX11_read 2 Rr [3, 1, 0, 0, 0, 0, 0] 174 [53, l1, 0, 0, 0, 0, 0] ([]) s := by
  intro l1 s0 hF
  unfold bX11_read_174 at hF
  refine ji_iconst (pc := 174) dX11_read_174 ?_
  refine ji_istore (n := 5) (pc := 175) [3, 1, 0, 0, 0, 1, 0] [53, l1, 0, 0, 0, 0, 0] (jRc rfl) (Nat.le_of_ble_eq_true rfl) rfl rfl dX11_read_175 ?_
  refine jg_norm [3, 1, 0, 0, 0, 1, 0] [53, l1, 0, 0, 0, 0, 0] rfl rfl ?_
  exact obX11_read_177W 1000 _ _ _ hF
set_option maxRecDepth 100000 in
set_option maxHeartbeats 4000000 in
theorem obX11_read_100 {E : jEnv} {Rr : Int → jMem → Prop} : ∀ (l1 l2 l3 l4 : Int) (s : jMem), jHo Rr (bX11_read_100 l1 l2 l3 l4 s) → jGo E MX11_read 2 Rr [3, 1, 1, 1, 1, 0, 0] 100 [53, l1, l2, l3, l4, 0, 0] ([]) s := by
  intro l1 l2 l3 l4 s0 hF
  unfold bX11_read_100 at hF
  refine ji_iconst (pc := 100) dX11_read_100 ?_
  refine ji_istore (n := 5) (pc := 101) [3, 1, 1, 1, 1, 1, 0] [53, l1, l2, l3, l4, 0, 0] (jRc rfl) (Nat.le_of_ble_eq_true rfl) rfl rfl dX11_read_101 ?_
  refine jg_norm [3, 1, 1, 1, 1, 1, 0] [53, l1, l2, l3, l4, 0, 0] rfl rfl ?_
  exact obX11_read_103W obX11_read_174 1000 _ _ _ _ _ _ hF
set_option maxRecDepth 100000 in
set_option maxHeartbeats 4000000 in
theorem oX11_read : jOk MX11_read [3, 1, 1, 1, 1] 2 (jFn gX11_read) := by
  refine jOk_fn (by decide +kernel) (Nat.le_of_ble_eq_true rfl) (by decide +kernel) (.inr (.inl rfl)) ?_
  intro E vs s0 Rr hF ha
  obtain ⟨l0, t0, rfl, r_l0, ha⟩ := jRa_ci ha
  obtain ⟨l1, t1, rfl, r_l1, ha⟩ := jRa_ci ha
  obtain ⟨l2, t2, rfl, r_l2, ha⟩ := jRa_ci ha
  obtain ⟨l3, t3, rfl, r_l3, ha⟩ := jRa_ci ha
  obtain ⟨l4, t4, rfl, r_l4, ha⟩ := jRa_ci ha
  obtain rfl := jRa_ni ha
  replace hF : jHo Rr (jGd (l0 = 53) <| fX11_read l1 l2 l3 l4 s0) := hF
  have hG := jHo_as hF
  clear hF
  obtain ⟨rfl, hF⟩ := hG
  refine jg_norm [3, 1, 1, 1, 1, 0, 0] [53, l1, l2, l3, l4, 0, 0] rfl rfl ?_
  unfold fX11_read at hF
  refine ji_iload_n (n := 1) (pc := 0) l1 rfl rfl rfl dX11_read_0 (fun r1 => ?_)
  refine ji_callSz (pc := 1) [l1] ([]) oX11_isHand wlX11_114 wmX11_isHand rfl rfl (Nat.le_of_ble_eq_true rfl) (jRaC r1 jRa0) rfl rfl (Nat.le_of_ble_eq_true rfl) hF dX11_read_1 (fun x2 s3 r_x2 hF => ?_)
  refine ji_if_eq 14 (pc := 4) (jR51 r_x2) hF dX11_read_4 rfl (fun hF => ?_) (fun hF => ?_)
  · refine ji_iconst (pc := 14) dX11_read_14 ?_
    exact ji_reti (pc := 15) rfl (jRc rfl) hF dX11_read_15
  · refine ji_iload_n (n := 2) (pc := 7) l2 rfl rfl rfl dX11_read_7 (fun r4 => ?_)
    refine ji_callSz (pc := 8) [l2] ([]) oX11_isRack wlX11_94 wmX11_isRack rfl rfl (Nat.le_of_ble_eq_true rfl) (jRaC r4 jRa0) rfl rfl (Nat.le_of_ble_eq_true rfl) hF dX11_read_8 (fun x5 s6 r_x5 hF => ?_)
    refine ji_if_ne 16 (pc := 11) (jR51 r_x5) hF dX11_read_11 rfl (fun hF => ?_) (fun hF => ?_)
    · refine ji_aload_n (n := 0) (pc := 16) 53 rfl rfl rfl dX11_read_16 (fun r7 => ?_)
      refine ji_getr (pc := 17) 60 wfX11_32 (jRc3 rfl) jcl_53 jrf_53_7 dX11_read_17 ?_
      refine ji_iload_n (n := 2) (pc := 20) l2 rfl rfl rfl dX11_read_20 (fun r8 => ?_)
      refine ji_iaload (pc := 21) (jRc3 rfl) r8 hF dX11_read_21 (fun x9 r_x9 hF => ?_)
      refine ji_if_ge 28 (pc := 22) r_x9 hF dX11_read_22 rfl (fun hF => ?_) (fun hF => ?_)
      · refine ji_iload (pc := 28) l4 rfl rfl dX11_read_28 (fun r10 => ?_)
        refine ji_if_ge 36 (pc := 30) r10 hF dX11_read_30 rfl (fun hF => ?_) (fun hF => ?_)
        · refine ji_iload_n (n := 3) (pc := 36) l3 rfl rfl rfl dX11_read_36 (fun r11 => ?_)
          refine ji_if_lt 57 (pc := 37) r11 hF dX11_read_37 rfl (fun hF => ?_) (fun hF => ?_)
          · refine jg_bipush (pc := 57) rfl dX11_read_57 ?_
            exact ji_reti (pc := 59) rfl (jRc rfl) hF dX11_read_59
          · refine ji_iload_n (n := 3) (pc := 40) l3 rfl rfl rfl dX11_read_40 (fun r12 => ?_)
            refine jg_i2l (pc := 41) r12 dX11_read_41 ?_
            refine ji_iload (pc := 42) l4 rfl rfl dX11_read_42 (fun r13 => ?_)
            refine jg_i2l (pc := 44) r13 dX11_read_44 ?_
            refine ji_ladd (pc := 45)  hF dX11_read_45 (fun x14 r_x14 hF => ?_)
            refine ji_aload_n (n := 0) (pc := 46) 53 rfl rfl rfl dX11_read_46 (fun r15 => ?_)
            refine ji_getr (pc := 47) 61 wfX11_35 (jRc3 rfl) jcl_53 jrf_53_8 dX11_read_47 ?_
            refine ji_iload_n (n := 2) (pc := 50) l2 rfl rfl rfl dX11_read_50 (fun r16 => ?_)
            refine ji_iaload (pc := 51) (jRc3 rfl) r16 hF dX11_read_51 (fun x17 r_x17 hF => ?_)
            refine jg_i2l (pc := 52) r_x17 dX11_read_52 ?_
            refine ji_lcmp (pc := 53) r_x14 (jR12 r_x17) hF dX11_read_53 (fun x18 r_x18 hF => ?_)
            refine ji_if_le 60 (pc := 54) r_x18 hF dX11_read_54 rfl (fun hF => ?_) (fun hF => ?_)
            · refine ji_aload_n (n := 0) (pc := 60) 53 rfl rfl rfl dX11_read_60 (fun r19 => ?_)
              refine ji_iload_n (n := 1) (pc := 61) l1 rfl rfl rfl dX11_read_61 (fun r20 => ?_)
              refine ji_callVi (pc := 62) 53 [l1] ([]) oX11_sizeOf wlX11_117 wmX11_sizeOf rfl rfl (Nat.le_of_ble_eq_true rfl) (jRaC (jRc3 rfl) (jRaC r20 jRa0)) rfl jcl_53 rfl (Nat.le_of_ble_eq_true rfl) hF dX11_read_62 (fun x21 s22 r_x21 hF => ?_)
              refine ji_iload (pc := 65) l4 rfl rfl dX11_read_65 (fun r23 => ?_)
              refine ji_iadd (pc := 67)  hF dX11_read_67 (fun x24 r_x24 hF => ?_)
              refine jg_bipush (pc := 68) rfl dX11_read_68 ?_
              refine ji_icmp_le 76 (pc := 70) r_x24 (jRc rfl) hF dX11_read_70 rfl (fun hF => ?_) (fun hF => ?_)
              · refine ji_iconst (pc := 76) dX11_read_76 ?_
                refine ji_istore (n := 5) (pc := 77) [3, 1, 1, 1, 1, 1, 0] [53, l1, l2, l3, l4, 0, 0] (jRc rfl) (Nat.le_of_ble_eq_true rfl) rfl rfl dX11_read_77 ?_
                refine jg_norm [3, 1, 1, 1, 1, 1, 0] [53, l1, l2, l3, l4, 0, 0] rfl rfl ?_
                exact obX11_read_79W obX11_read_100 1000 _ _ _ _ _ _ hF
              · refine jg_bipush (pc := 73) rfl dX11_read_73 ?_
                exact ji_reti (pc := 75) rfl (jRc rfl) hF dX11_read_75
            · refine jg_bipush (pc := 57) rfl dX11_read_57 ?_
              exact ji_reti (pc := 59) rfl (jRc rfl) hF dX11_read_59
        · refine jg_bipush (pc := 33) rfl dX11_read_33 ?_
          exact ji_reti (pc := 35) rfl (jRc rfl) hF dX11_read_35
      · refine jg_bipush (pc := 25) rfl dX11_read_25 ?_
        exact ji_reti (pc := 27) rfl (jRc rfl) hF dX11_read_27
    · refine ji_iconst (pc := 14) dX11_read_14 ?_
      exact ji_reti (pc := 15) rfl (jRc rfl) hF dX11_read_15
def fX11_take (l1 l2 : Int) (s0 : jMem) : jO :=
jBd (fX11_isHand l1 s0) fun x2 s3 =>
if x2 = 0 then (
jRet (-1) s3)
else (
jBd (fX11_isSort l2 s3) fun x5 s6 =>
if x5 = 0 then (
jRet (-1) s6)
else (
jBd (fX11_sizeOf l1 s6) fun x9 s10 =>
if x9 = 14 then (
jRet (-2) s10)
else (
jGd ((0 : Int) ≤ l2 ∧ l2 < jik 54) <| jLet (s10 54 l2) fun x13 =>
if x13 = 0 then (
jRet (-16) s10)
else (
jGd ((0 : Int) ≤ l2 ∧ l2 < jik 54) <| jLet (s10 54 l2) fun x16 =>
jLet (j32 (x16 - 1)) fun x17 =>
jGd ((0 : Int) ≤ l2 ∧ l2 < jik 54) <| jLet (jU s10 54 l2 x17) fun s18 =>
jLet (j32 (34 * l1)) fun x21 =>
jLet (j32 (x21 + l2)) fun x23 =>
jGd ((0 : Int) ≤ x23 ∧ x23 < jik 56) <| jLet (s18 56 x23) fun x24 =>
jLet (j32 (x24 + 1)) fun x25 =>
jGd ((0 : Int) ≤ x23 ∧ x23 < jik 56) <| jLet (jU s18 56 x23 x25) fun s26 =>
jBd (fX11_sizeOf l1 s26) fun x29 s30 =>
jRet x29 s30))))
def gX11_take (vs : List Int) (s : jMem) : jO := match vs with
  | [a0, a1, a2] => jGd (a0 = 53) <| fX11_take a1 a2 s
  | _ => none
set_option maxRecDepth 100000 in
set_option maxHeartbeats 4000000 in
theorem oX11_take : jOk MX11_take [3, 1, 1] 2 (jFn gX11_take) := by
  refine jOk_fn (by decide +kernel) (Nat.le_of_ble_eq_true rfl) (by decide +kernel) (.inr (.inl rfl)) ?_
  intro E vs s0 Rr hF ha
  obtain ⟨l0, t0, rfl, r_l0, ha⟩ := jRa_ci ha
  obtain ⟨l1, t1, rfl, r_l1, ha⟩ := jRa_ci ha
  obtain ⟨l2, t2, rfl, r_l2, ha⟩ := jRa_ci ha
  obtain rfl := jRa_ni ha
  replace hF : jHo Rr (jGd (l0 = 53) <| fX11_take l1 l2 s0) := hF
  have hG := jHo_as hF
  clear hF
  obtain ⟨rfl, hF⟩ := hG
  refine jg_norm [3, 1, 1] [53, l1, l2] rfl rfl ?_
  unfold fX11_take at hF
  refine ji_iload_n (n := 1) (pc := 0) l1 rfl rfl rfl dX11_take_0 (fun r1 => ?_)
  refine ji_callSz (pc := 1) [l1] ([]) oX11_isHand wlX11_114 wmX11_isHand rfl rfl (Nat.le_of_ble_eq_true rfl) (jRaC r1 jRa0) rfl rfl (Nat.le_of_ble_eq_true rfl) hF dX11_take_1 (fun x2 s3 r_x2 hF => ?_)
  refine ji_if_eq 14 (pc := 4) (jR51 r_x2) hF dX11_take_4 rfl (fun hF => ?_) (fun hF => ?_)
  · refine ji_iconst (pc := 14) dX11_take_14 ?_
    exact ji_reti (pc := 15) rfl (jRc rfl) hF dX11_take_15
  · refine ji_iload_n (n := 2) (pc := 7) l2 rfl rfl rfl dX11_take_7 (fun r4 => ?_)
    refine ji_callSz (pc := 8) [l2] ([]) oX11_isSort wlX11_120 wmX11_isSort rfl rfl (Nat.le_of_ble_eq_true rfl) (jRaC r4 jRa0) rfl rfl (Nat.le_of_ble_eq_true rfl) hF dX11_take_8 (fun x5 s6 r_x5 hF => ?_)
    refine ji_if_ne 16 (pc := 11) (jR51 r_x5) hF dX11_take_11 rfl (fun hF => ?_) (fun hF => ?_)
    · refine ji_aload_n (n := 0) (pc := 16) 53 rfl rfl rfl dX11_take_16 (fun r7 => ?_)
      refine ji_iload_n (n := 1) (pc := 17) l1 rfl rfl rfl dX11_take_17 (fun r8 => ?_)
      refine ji_callVi (pc := 18) 53 [l1] ([]) oX11_sizeOf wlX11_117 wmX11_sizeOf rfl rfl (Nat.le_of_ble_eq_true rfl) (jRaC (jRc3 rfl) (jRaC r8 jRa0)) rfl jcl_53 rfl (Nat.le_of_ble_eq_true rfl) hF dX11_take_18 (fun x9 s10 r_x9 hF => ?_)
      refine jg_bipush (pc := 21) rfl dX11_take_21 ?_
      refine ji_icmp_ne 29 (pc := 23) r_x9 (jRc rfl) hF dX11_take_23 rfl (fun hF => ?_) (fun hF => ?_)
      · refine ji_aload_n (n := 0) (pc := 29) 53 rfl rfl rfl dX11_take_29 (fun r11 => ?_)
        refine ji_getr (pc := 30) 54 wfX11_7 (jRc3 rfl) jcl_53 jrf_53_0 dX11_take_30 ?_
        refine ji_iload_n (n := 2) (pc := 33) l2 rfl rfl rfl dX11_take_33 (fun r12 => ?_)
        refine ji_iaload (pc := 34) (jRc3 rfl) r12 hF dX11_take_34 (fun x13 r_x13 hF => ?_)
        refine ji_if_ne 41 (pc := 35) r_x13 hF dX11_take_35 rfl (fun hF => ?_) (fun hF => ?_)
        · refine ji_aload_n (n := 0) (pc := 41) 53 rfl rfl rfl dX11_take_41 (fun r14 => ?_)
          refine ji_getr (pc := 42) 54 wfX11_7 (jRc3 rfl) jcl_53 jrf_53_0 dX11_take_42 ?_
          refine ji_iload_n (n := 2) (pc := 45) l2 rfl rfl rfl dX11_take_45 (fun r15 => ?_)
          refine jg_dup2 (pc := 46) (by decide) (by decide) dX11_take_46 ?_
          refine ji_iaload (pc := 47) (jRc3 rfl) r15 hF dX11_take_47 (fun x16 r_x16 hF => ?_)
          refine ji_iconst (pc := 48) dX11_take_48 ?_
          refine ji_isub (pc := 49)  hF dX11_take_49 (fun x17 r_x17 hF => ?_)
          refine ji_iastore (pc := 50) (jRc3 rfl) r15 r_x17 hF dX11_take_50 (fun s18 hF => ?_)
          refine ji_aload_n (n := 0) (pc := 51) 53 rfl rfl rfl dX11_take_51 (fun r19 => ?_)
          refine ji_getr (pc := 52) 56 wfX11_16 (jRc3 rfl) jcl_53 jrf_53_2 dX11_take_52 ?_
          refine jg_bipush (pc := 55) rfl dX11_take_55 ?_
          refine ji_iload_n (n := 1) (pc := 57) l1 rfl rfl rfl dX11_take_57 (fun r20 => ?_)
          refine ji_imul (pc := 58)  hF dX11_take_58 (fun x21 r_x21 hF => ?_)
          refine ji_iload_n (n := 2) (pc := 59) l2 rfl rfl rfl dX11_take_59 (fun r22 => ?_)
          refine ji_iadd (pc := 60)  hF dX11_take_60 (fun x23 r_x23 hF => ?_)
          refine jg_dup2 (pc := 61) (by decide) (by decide) dX11_take_61 ?_
          refine ji_iaload (pc := 62) (jRc3 rfl) r_x23 hF dX11_take_62 (fun x24 r_x24 hF => ?_)
          refine ji_iconst (pc := 63) dX11_take_63 ?_
          refine ji_iadd (pc := 64)  hF dX11_take_64 (fun x25 r_x25 hF => ?_)
          refine ji_iastore (pc := 65) (jRc3 rfl) r_x23 r_x25 hF dX11_take_65 (fun s26 hF => ?_)
          refine ji_aload_n (n := 0) (pc := 66) 53 rfl rfl rfl dX11_take_66 (fun r27 => ?_)
          refine ji_iload_n (n := 1) (pc := 67) l1 rfl rfl rfl dX11_take_67 (fun r28 => ?_)
          refine ji_callVi (pc := 68) 53 [l1] ([]) oX11_sizeOf wlX11_117 wmX11_sizeOf rfl rfl (Nat.le_of_ble_eq_true rfl) (jRaC (jRc3 rfl) (jRaC r28 jRa0)) rfl jcl_53 rfl (Nat.le_of_ble_eq_true rfl) hF dX11_take_68 (fun x29 s30 r_x29 hF => ?_)
          exact ji_reti (pc := 71) rfl r_x29 hF dX11_take_71
        · refine jg_bipush (pc := 38) rfl dX11_take_38 ?_
          exact ji_reti (pc := 40) rfl (jRc rfl) hF dX11_take_40
      · refine jg_bipush (pc := 26) rfl dX11_take_26 ?_
        exact ji_reti (pc := 28) rfl (jRc rfl) hF dX11_take_28
    · refine ji_iconst (pc := 14) dX11_take_14 ?_
      exact ji_reti (pc := 15) rfl (jRc rfl) hF dX11_take_15
def fX11_seed (l1 : Int) (s0 : jMem) : jO :=
if 0 ≤ l1 then (
jLet (jU s0 53 6 l1) fun s4 =>
jRet 0 s4)
else (
jRet (-1) s0)
def gX11_seed (vs : List Int) (s : jMem) : jO := match vs with
  | [a0, a1] => jGd (a0 = 53) <| fX11_seed a1 s
  | _ => none
set_option maxRecDepth 100000 in
set_option maxHeartbeats 4000000 in
theorem oX11_seed : jOk MX11_seed [3, 1] 0 (jFn gX11_seed) := by
  refine jOk_fn (by decide +kernel) (Nat.le_of_ble_eq_true rfl) (by decide +kernel) (.inr (.inl rfl)) ?_
  intro E vs s0 Rr hF ha
  obtain ⟨l0, t0, rfl, r_l0, ha⟩ := jRa_ci ha
  obtain ⟨l1, t1, rfl, r_l1, ha⟩ := jRa_ci ha
  obtain rfl := jRa_ni ha
  replace hF : jHo Rr (jGd (l0 = 53) <| fX11_seed l1 s0) := hF
  have hG := jHo_as hF
  clear hF
  obtain ⟨rfl, hF⟩ := hG
  refine jg_norm [3, 1] [53, l1] rfl rfl ?_
  unfold fX11_seed at hF
  refine ji_iload_n (n := 1) (pc := 0) l1 rfl rfl rfl dX11_seed_0 (fun r1 => ?_)
  refine ji_if_ge 6 (pc := 1) r1 hF dX11_seed_1 rfl (fun hF => ?_) (fun hF => ?_)
  · refine ji_aload_n (n := 0) (pc := 6) 53 rfl rfl rfl dX11_seed_6 (fun r2 => ?_)
    refine ji_iload_n (n := 1) (pc := 7) l1 rfl rfl rfl dX11_seed_7 (fun r3 => ?_)
    refine jg_i2l (pc := 8) r3 dX11_seed_8 ?_
    refine ji_putfl (pc := 9) wpX11_28 (jRc3 rfl) jcl_53 (jR12 r3) hF dX11_seed_9 (fun s4 hF => ?_)
    refine ji_iconst (pc := 12) dX11_seed_12 ?_
    exact ji_reti (pc := 13) rfl (jRc rfl) hF dX11_seed_13
  · refine ji_iconst (pc := 4) dX11_seed_4 ?_
    exact ji_reti (pc := 5) rfl (jRc rfl) hF dX11_seed_5
def bX11_wallMany_4 (rec : Int → Int → jMem → jO) (l1 l2 : Int) (s0 : jMem) : jO :=
if 34 ≤ l2 then (
jRet l1 s0)
else (
jGd ((0 : Int) ≤ l2 ∧ l2 < jik 54) <| jLet (s0 54 l2) fun x6 =>
jLet (j32 (l1 + x6)) fun x7 =>
jLet (j32 (l2 + 1)) fun x8 =>
rec x7 x8 s0)
def fX11_wallMany (s0 : jMem) : jO :=
jIt (fun _ _ _ => none) (bX11_wallMany_4) 1000 0 0 s0
def gX11_wallMany (vs : List Int) (s : jMem) : jO := match vs with
  | [a0] => jGd (a0 = 53) <| fX11_wallMany s
  | _ => none
set_option maxRecDepth 100000 in
set_option maxHeartbeats 4000000 in
theorem obX11_wallMany_4 {E : jEnv} {Rr : Int → jMem → Prop} {rec : Int → Int → jMem → jO} (hrec : ∀ (l1 l2 : Int) (s : jMem), jHo Rr (rec l1 l2 s) → jGo E MX11_wallMany 0 Rr [3, 1, 1] 4 [53, l1, l2] ([]) s) : ∀ (l1 l2 : Int) (s : jMem), jHo Rr (bX11_wallMany_4 rec l1 l2 s) → jGo E MX11_wallMany 0 Rr [3, 1, 1] 4 [53, l1, l2] ([]) s := by
  intro l1 l2 s0 hF
  unfold bX11_wallMany_4 at hF
  refine ji_iload_n (n := 2) (pc := 4) l2 rfl rfl rfl dX11_wallMany_4 (fun r1 => ?_)
  refine jg_bipush (pc := 5) rfl dX11_wallMany_5 ?_
  refine ji_icmp_ge 25 (pc := 7) r1 (jRc rfl) hF dX11_wallMany_7 rfl (fun hF => ?_) (fun hF => ?_)
  · refine ji_iload_n (n := 1) (pc := 25) l1 rfl rfl rfl dX11_wallMany_25 (fun r2 => ?_)
    exact ji_reti (pc := 26) rfl r2 hF dX11_wallMany_26
  · refine ji_iload_n (n := 1) (pc := 10) l1 rfl rfl rfl dX11_wallMany_10 (fun r3 => ?_)
    refine ji_aload_n (n := 0) (pc := 11) 53 rfl rfl rfl dX11_wallMany_11 (fun r4 => ?_)
    refine ji_getr (pc := 12) 54 wfX11_7 (jRc3 rfl) jcl_53 jrf_53_0 dX11_wallMany_12 ?_
    refine ji_iload_n (n := 2) (pc := 15) l2 rfl rfl rfl dX11_wallMany_15 (fun r5 => ?_)
    refine ji_iaload (pc := 16) (jRc3 rfl) r5 hF dX11_wallMany_16 (fun x6 r_x6 hF => ?_)
    refine ji_iadd (pc := 17)  hF dX11_wallMany_17 (fun x7 r_x7 hF => ?_)
    refine ji_istore_n (n := 1) (pc := 18) [3, 1, 1] [53, x7, l2] rfl r_x7 (Nat.le_of_ble_eq_true rfl) rfl rfl dX11_wallMany_18 ?_
    refine ji_iinc (pc := 19) l2 (fun w => [53, x7, w]) rfl rfl rfl (fun _ => rfl) hF dX11_wallMany_19 (fun x8 r_x8 hF => ?_)
    refine jg_goto (pc := 22) 4 dX11_wallMany_22 rfl ?_
    refine jg_norm [3, 1, 1] [53, x7, x8] rfl rfl ?_
    exact hrec _ _ _ hF
theorem obX11_wallMany_4W {E : jEnv} {Rr : Int → jMem → Prop} : ∀ n : Nat, ∀ (l1 l2 : Int) (s : jMem), jHo Rr (jIt (fun _ _ _ => none) (bX11_wallMany_4) n l1 l2 s) → jGo E MX11_wallMany 0 Rr [3, 1, 1] 4 [53, l1, l2] ([]) s := by
  intro n
  induction n with
  | zero => intro l1 l2 s hF; exact jHo_none hF
  | succ n ih => exact obX11_wallMany_4 ih

set_option maxRecDepth 100000 in
set_option maxHeartbeats 4000000 in
theorem oX11_wallMany : jOk MX11_wallMany [3] 0 (jFn gX11_wallMany) := by
  refine jOk_fn (by decide +kernel) (Nat.le_of_ble_eq_true rfl) (by decide +kernel) (.inr (.inl rfl)) ?_
  intro E vs s0 Rr hF ha
  obtain ⟨l0, t0, rfl, r_l0, ha⟩ := jRa_ci ha
  obtain rfl := jRa_ni ha
  replace hF : jHo Rr (jGd (l0 = 53) <| fX11_wallMany s0) := hF
  have hG := jHo_as hF
  clear hF
  obtain ⟨rfl, hF⟩ := hG
  refine jg_norm [3, 0, 0] [53, 0, 0] rfl rfl ?_
  unfold fX11_wallMany at hF
  refine ji_iconst (pc := 0) dX11_wallMany_0 ?_
  refine ji_istore_n (n := 1) (pc := 1) [3, 1, 0] [53, 0, 0] rfl (jRc rfl) (Nat.le_of_ble_eq_true rfl) rfl rfl dX11_wallMany_1 ?_
  refine ji_iconst (pc := 2) dX11_wallMany_2 ?_
  refine ji_istore_n (n := 2) (pc := 3) [3, 1, 1] [53, 0, 0] rfl (jRc rfl) (Nat.le_of_ble_eq_true rfl) rfl rfl dX11_wallMany_3 ?_
  refine jg_norm [3, 1, 1] [53, 0, 0] rfl rfl ?_
  exact obX11_wallMany_4W 1000 _ _ _ hF
def bX11_drawn_38 (k63 : Int → Int → jMem → jO) (rec : Int → Int → Int → jMem → jO) (l1 l2 l3 : Int) (s0 : jMem) : jO :=
jGd ((0 : Int) ≤ l3 ∧ l3 < jik 54) <| jLet (s0 54 l3) fun x4 =>
if l2 < x4 then (
k63 l1 l3 s0)
else (
jGd ((0 : Int) ≤ l3 ∧ l3 < jik 54) <| jLet (s0 54 l3) fun x8 =>
jLet (j32 (l2 - x8)) fun x9 =>
jLet (j32 (l3 + 1)) fun x10 =>
rec l1 x9 x10 s0)
def bX11_drawn_63 (l1 l3 : Int) (s0 : jMem) : jO :=
jGd ((0 : Int) ≤ l3 ∧ l3 < jik 54) <| jLet (s0 54 l3) fun x3 =>
jLet (j32 (x3 - 1)) fun x4 =>
jGd ((0 : Int) ≤ l3 ∧ l3 < jik 54) <| jLet (jU s0 54 l3 x4) fun s5 =>
jLet (j32 (34 * l1)) fun x8 =>
jLet (j32 (x8 + l3)) fun x10 =>
jGd ((0 : Int) ≤ x10 ∧ x10 < jik 56) <| jLet (s5 56 x10) fun x11 =>
jLet (j32 (x11 + 1)) fun x12 =>
jGd ((0 : Int) ≤ x10 ∧ x10 < jik 56) <| jLet (jU s5 56 x10 x12) fun s13 =>
jRet l3 s13
def fX11_drawn (l1 : Int) (s0 : jMem) : jO :=
jLet (s0 53 6) fun x3 =>
jLet (j64 (x3 * 48271)) fun x4 =>
jLet (j64 (x4 + 11)) fun x5 =>
jGd (¬ (2147483648 : Int) = 0) <| jLet (jreml x5 2147483648) fun x6 =>
jLet (jU s0 53 6 x6) fun s7 =>
jLet (s7 53 6) fun x9 =>
jGd (¬ (64 : Int) = 0) <| jLet (jdivl x9 64) fun x10 =>
jBd (fX11_wallMany s7) fun x12 s13 =>
jGd (¬ (x12 : Int) = 0) <| jLet (jreml x10 x12) fun x14 =>
jLet (j32 x14) fun x15 =>
jIt (fun _ _ _ _ => none) (bX11_drawn_38 bX11_drawn_63) 1000 l1 x15 0 s13
def gX11_drawn (vs : List Int) (s : jMem) : jO := match vs with
  | [a0, a1] => jGd (a0 = 53) <| fX11_drawn a1 s
  | _ => none
set_option maxRecDepth 100000 in
set_option maxHeartbeats 4000000 in
theorem obX11_drawn_38 {E : jEnv} {Rr : Int → jMem → Prop} {k63 : Int → Int → jMem → jO} (hk63 : ∀ (l1 l3 : Int) (s : jMem), jHo Rr (k63 l1 l3 s) → jGo E MX11_drawn 1 Rr [3, 1, 0, 1] 63 [53, l1, 0, l3] ([]) s) {rec : Int → Int → Int → jMem → jO} (hrec : ∀ (l1 l2 l3 : Int) (s : jMem), jHo Rr (rec l1 l2 l3 s) → jGo E MX11_drawn 1 Rr [3, 1, 1, 1] 38 [53, l1, l2, l3] ([]) s) : ∀ (l1 l2 l3 : Int) (s : jMem), jHo Rr (bX11_drawn_38 k63 rec l1 l2 l3 s) → jGo E MX11_drawn 1 Rr [3, 1, 1, 1] 38 [53, l1, l2, l3] ([]) s := by
  intro l1 l2 l3 s0 hF
  unfold bX11_drawn_38 at hF
  refine ji_iload_n (n := 2) (pc := 38) l2 rfl rfl rfl dX11_drawn_38 (fun r1 => ?_)
  refine ji_aload_n (n := 0) (pc := 39) 53 rfl rfl rfl dX11_drawn_39 (fun r2 => ?_)
  refine ji_getr (pc := 40) 54 wfX11_7 (jRc3 rfl) jcl_53 jrf_53_0 dX11_drawn_40 ?_
  refine ji_iload_n (n := 3) (pc := 43) l3 rfl rfl rfl dX11_drawn_43 (fun r3 => ?_)
  refine ji_iaload (pc := 44) (jRc3 rfl) r3 hF dX11_drawn_44 (fun x4 r_x4 hF => ?_)
  refine ji_icmp_lt 63 (pc := 45) r1 r_x4 hF dX11_drawn_45 rfl (fun hF => ?_) (fun hF => ?_)
  · refine jg_norm [3, 1, 0, 1] [53, l1, 0, l3] rfl rfl ?_
    exact hk63 _ _ _ hF
  · refine ji_iload_n (n := 2) (pc := 48) l2 rfl rfl rfl dX11_drawn_48 (fun r5 => ?_)
    refine ji_aload_n (n := 0) (pc := 49) 53 rfl rfl rfl dX11_drawn_49 (fun r6 => ?_)
    refine ji_getr (pc := 50) 54 wfX11_7 (jRc3 rfl) jcl_53 jrf_53_0 dX11_drawn_50 ?_
    refine ji_iload_n (n := 3) (pc := 53) l3 rfl rfl rfl dX11_drawn_53 (fun r7 => ?_)
    refine ji_iaload (pc := 54) (jRc3 rfl) r7 hF dX11_drawn_54 (fun x8 r_x8 hF => ?_)
    refine ji_isub (pc := 55)  hF dX11_drawn_55 (fun x9 r_x9 hF => ?_)
    refine ji_istore_n (n := 2) (pc := 56) [3, 1, 1, 1] [53, l1, x9, l3] rfl r_x9 (Nat.le_of_ble_eq_true rfl) rfl rfl dX11_drawn_56 ?_
    refine ji_iinc (pc := 57) l3 (fun w => [53, l1, x9, w]) rfl rfl rfl (fun _ => rfl) hF dX11_drawn_57 (fun x10 r_x10 hF => ?_)
    refine jg_goto (pc := 60) 38 dX11_drawn_60 rfl ?_
    refine jg_norm [3, 1, 1, 1] [53, l1, x9, x10] rfl rfl ?_
    exact hrec _ _ _ _ hF
theorem obX11_drawn_38W {E : jEnv} {Rr : Int → jMem → Prop} {k63 : Int → Int → jMem → jO} (hk63 : ∀ (l1 l3 : Int) (s : jMem), jHo Rr (k63 l1 l3 s) → jGo E MX11_drawn 1 Rr [3, 1, 0, 1] 63 [53, l1, 0, l3] ([]) s) : ∀ n : Nat, ∀ (l1 l2 l3 : Int) (s : jMem), jHo Rr (jIt (fun _ _ _ _ => none) (bX11_drawn_38 k63) n l1 l2 l3 s) → jGo E MX11_drawn 1 Rr [3, 1, 1, 1] 38 [53, l1, l2, l3] ([]) s := by
  intro n
  induction n with
  | zero => intro l1 l2 l3 s hF; exact jHo_none hF
  | succ n ih => exact obX11_drawn_38 hk63 ih

set_option maxRecDepth 100000 in
set_option maxHeartbeats 4000000 in
theorem obX11_drawn_63 {E : jEnv} {Rr : Int → jMem → Prop} : ∀ (l1 l3 : Int) (s : jMem), jHo Rr (bX11_drawn_63 l1 l3 s) → jGo E MX11_drawn 1 Rr [3, 1, 0, 1] 63 [53, l1, 0, l3] ([]) s := by
  intro l1 l3 s0 hF
  unfold bX11_drawn_63 at hF
  refine ji_aload_n (n := 0) (pc := 63) 53 rfl rfl rfl dX11_drawn_63 (fun r1 => ?_)
  refine ji_getr (pc := 64) 54 wfX11_7 (jRc3 rfl) jcl_53 jrf_53_0 dX11_drawn_64 ?_
  refine ji_iload_n (n := 3) (pc := 67) l3 rfl rfl rfl dX11_drawn_67 (fun r2 => ?_)
  refine jg_dup2 (pc := 68) (by decide) (by decide) dX11_drawn_68 ?_
  refine ji_iaload (pc := 69) (jRc3 rfl) r2 hF dX11_drawn_69 (fun x3 r_x3 hF => ?_)
  refine ji_iconst (pc := 70) dX11_drawn_70 ?_
  refine ji_isub (pc := 71)  hF dX11_drawn_71 (fun x4 r_x4 hF => ?_)
  refine ji_iastore (pc := 72) (jRc3 rfl) r2 r_x4 hF dX11_drawn_72 (fun s5 hF => ?_)
  refine ji_aload_n (n := 0) (pc := 73) 53 rfl rfl rfl dX11_drawn_73 (fun r6 => ?_)
  refine ji_getr (pc := 74) 56 wfX11_16 (jRc3 rfl) jcl_53 jrf_53_2 dX11_drawn_74 ?_
  refine jg_bipush (pc := 77) rfl dX11_drawn_77 ?_
  refine ji_iload_n (n := 1) (pc := 79) l1 rfl rfl rfl dX11_drawn_79 (fun r7 => ?_)
  refine ji_imul (pc := 80)  hF dX11_drawn_80 (fun x8 r_x8 hF => ?_)
  refine ji_iload_n (n := 3) (pc := 81) l3 rfl rfl rfl dX11_drawn_81 (fun r9 => ?_)
  refine ji_iadd (pc := 82)  hF dX11_drawn_82 (fun x10 r_x10 hF => ?_)
  refine jg_dup2 (pc := 83) (by decide) (by decide) dX11_drawn_83 ?_
  refine ji_iaload (pc := 84) (jRc3 rfl) r_x10 hF dX11_drawn_84 (fun x11 r_x11 hF => ?_)
  refine ji_iconst (pc := 85) dX11_drawn_85 ?_
  refine ji_iadd (pc := 86)  hF dX11_drawn_86 (fun x12 r_x12 hF => ?_)
  refine ji_iastore (pc := 87) (jRc3 rfl) r_x10 r_x12 hF dX11_drawn_87 (fun s13 hF => ?_)
  refine ji_iload_n (n := 3) (pc := 88) l3 rfl rfl rfl dX11_drawn_88 (fun r14 => ?_)
  exact ji_reti (pc := 89) rfl r14 hF dX11_drawn_89
set_option maxRecDepth 100000 in
set_option maxHeartbeats 4000000 in
theorem oX11_drawn : jOk MX11_drawn [3, 1] 1 (jFn gX11_drawn) := by
  refine jOk_fn (by decide +kernel) (Nat.le_of_ble_eq_true rfl) (by decide +kernel) (.inr (.inl rfl)) ?_
  intro E vs s0 Rr hF ha
  obtain ⟨l0, t0, rfl, r_l0, ha⟩ := jRa_ci ha
  obtain ⟨l1, t1, rfl, r_l1, ha⟩ := jRa_ci ha
  obtain rfl := jRa_ni ha
  replace hF : jHo Rr (jGd (l0 = 53) <| fX11_drawn l1 s0) := hF
  have hG := jHo_as hF
  clear hF
  obtain ⟨rfl, hF⟩ := hG
  refine jg_norm [3, 1, 0, 0] [53, l1, 0, 0] rfl rfl ?_
  unfold fX11_drawn at hF
  refine ji_aload_n (n := 0) (pc := 0) 53 rfl rfl rfl dX11_drawn_0 (fun r1 => ?_)
  refine ji_aload_n (n := 0) (pc := 1) 53 rfl rfl rfl dX11_drawn_1 (fun r2 => ?_)
  refine ji_getfl (pc := 2) wfX11_28 (jRc3 rfl) jcl_53 hF dX11_drawn_2 (fun x3 r_x3 hF => ?_)
  refine jg_ldc2 (n := 48271) (pc := 5) wnX11_123 dX11_drawn_5 ?_
  refine ji_lmul (pc := 8)  hF dX11_drawn_8 (fun x4 r_x4 hF => ?_)
  refine jg_ldc2 (n := 11) (pc := 9) wnX11_125 dX11_drawn_9 ?_
  refine ji_ladd (pc := 12)  hF dX11_drawn_12 (fun x5 r_x5 hF => ?_)
  refine jg_ldc2 (n := 2147483648) (pc := 13) wnX11_127 dX11_drawn_13 ?_
  refine ji_lrem (pc := 16) (jRc2 rfl) hF dX11_drawn_16 (fun x6 r_x6 hF => ?_)
  refine ji_putfl (pc := 17) wpX11_28 (jRc3 rfl) jcl_53 r_x6 hF dX11_drawn_17 (fun s7 hF => ?_)
  refine ji_aload_n (n := 0) (pc := 20) 53 rfl rfl rfl dX11_drawn_20 (fun r8 => ?_)
  refine ji_getfl (pc := 21) wfX11_28 (jRc3 rfl) jcl_53 hF dX11_drawn_21 (fun x9 r_x9 hF => ?_)
  refine jg_ldc2 (n := 64) (pc := 24) wnX11_129 dX11_drawn_24 ?_
  refine ji_ldiv (pc := 27) (jRc2 rfl) hF dX11_drawn_27 (fun x10 r_x10 hF => ?_)
  refine ji_aload_n (n := 0) (pc := 28) 53 rfl rfl rfl dX11_drawn_28 (fun r11 => ?_)
  refine ji_callVi (pc := 29) 53 [] (jV E 2 x10 :: []) oX11_wallMany wlX11_131 wmX11_wallMany rfl rfl (Nat.le_of_ble_eq_true rfl) (jRaC (jRc3 rfl) jRa0) rfl jcl_53 rfl (Nat.le_of_ble_eq_true rfl) hF dX11_drawn_29 (fun x12 s13 r_x12 hF => ?_)
  refine jg_i2l (pc := 32) r_x12 dX11_drawn_32 ?_
  refine ji_lrem (pc := 33) (jR12 r_x12) hF dX11_drawn_33 (fun x14 r_x14 hF => ?_)
  refine ji_l2i (pc := 34)  hF dX11_drawn_34 (fun x15 r_x15 hF => ?_)
  refine ji_istore_n (n := 2) (pc := 35) [3, 1, 1, 0] [53, l1, x15, 0] rfl r_x15 (Nat.le_of_ble_eq_true rfl) rfl rfl dX11_drawn_35 ?_
  refine ji_iconst (pc := 36) dX11_drawn_36 ?_
  refine ji_istore_n (n := 3) (pc := 37) [3, 1, 1, 1] [53, l1, x15, 0] rfl (jRc rfl) (Nat.le_of_ble_eq_true rfl) rfl rfl dX11_drawn_37 ?_
  refine jg_norm [3, 1, 1, 1] [53, l1, x15, 0] rfl rfl ?_
  exact obX11_drawn_38W obX11_drawn_63 1000 _ _ _ _ hF
def fX11_draw (l1 : Int) (s0 : jMem) : jO :=
jBd (fX11_isHand l1 s0) fun x2 s3 =>
if x2 = 0 then (
jRet (-1) s3)
else (
jBd (fX11_sizeOf l1 s3) fun x6 s7 =>
if x6 = 14 then (
jRet (-2) s7)
else (
jBd (fX11_wallMany s7) fun x9 s10 =>
if x9 = 0 then (
jRet (-3) s10)
else (
jBd (fX11_drawn l1 s10) fun x13 s14 =>
jRet x13 s14)))
def gX11_draw (vs : List Int) (s : jMem) : jO := match vs with
  | [a0, a1] => jGd (a0 = 53) <| fX11_draw a1 s
  | _ => none
set_option maxRecDepth 100000 in
set_option maxHeartbeats 4000000 in
theorem oX11_draw : jOk MX11_draw [3, 1] 2 (jFn gX11_draw) := by
  refine jOk_fn (by decide +kernel) (Nat.le_of_ble_eq_true rfl) (by decide +kernel) (.inr (.inl rfl)) ?_
  intro E vs s0 Rr hF ha
  obtain ⟨l0, t0, rfl, r_l0, ha⟩ := jRa_ci ha
  obtain ⟨l1, t1, rfl, r_l1, ha⟩ := jRa_ci ha
  obtain rfl := jRa_ni ha
  replace hF : jHo Rr (jGd (l0 = 53) <| fX11_draw l1 s0) := hF
  have hG := jHo_as hF
  clear hF
  obtain ⟨rfl, hF⟩ := hG
  refine jg_norm [3, 1] [53, l1] rfl rfl ?_
  unfold fX11_draw at hF
  refine ji_iload_n (n := 1) (pc := 0) l1 rfl rfl rfl dX11_draw_0 (fun r1 => ?_)
  refine ji_callSz (pc := 1) [l1] ([]) oX11_isHand wlX11_114 wmX11_isHand rfl rfl (Nat.le_of_ble_eq_true rfl) (jRaC r1 jRa0) rfl rfl (Nat.le_of_ble_eq_true rfl) hF dX11_draw_1 (fun x2 s3 r_x2 hF => ?_)
  refine ji_if_ne 9 (pc := 4) (jR51 r_x2) hF dX11_draw_4 rfl (fun hF => ?_) (fun hF => ?_)
  · refine ji_aload_n (n := 0) (pc := 9) 53 rfl rfl rfl dX11_draw_9 (fun r4 => ?_)
    refine ji_iload_n (n := 1) (pc := 10) l1 rfl rfl rfl dX11_draw_10 (fun r5 => ?_)
    refine ji_callVi (pc := 11) 53 [l1] ([]) oX11_sizeOf wlX11_117 wmX11_sizeOf rfl rfl (Nat.le_of_ble_eq_true rfl) (jRaC (jRc3 rfl) (jRaC r5 jRa0)) rfl jcl_53 rfl (Nat.le_of_ble_eq_true rfl) hF dX11_draw_11 (fun x6 s7 r_x6 hF => ?_)
    refine jg_bipush (pc := 14) rfl dX11_draw_14 ?_
    refine ji_icmp_ne 22 (pc := 16) r_x6 (jRc rfl) hF dX11_draw_16 rfl (fun hF => ?_) (fun hF => ?_)
    · refine ji_aload_n (n := 0) (pc := 22) 53 rfl rfl rfl dX11_draw_22 (fun r8 => ?_)
      refine ji_callVi (pc := 23) 53 [] ([]) oX11_wallMany wlX11_131 wmX11_wallMany rfl rfl (Nat.le_of_ble_eq_true rfl) (jRaC (jRc3 rfl) jRa0) rfl jcl_53 rfl (Nat.le_of_ble_eq_true rfl) hF dX11_draw_23 (fun x9 s10 r_x9 hF => ?_)
      refine ji_if_ne 34 (pc := 26) r_x9 hF dX11_draw_26 rfl (fun hF => ?_) (fun hF => ?_)
      · refine ji_aload_n (n := 0) (pc := 34) 53 rfl rfl rfl dX11_draw_34 (fun r11 => ?_)
        refine ji_iload_n (n := 1) (pc := 35) l1 rfl rfl rfl dX11_draw_35 (fun r12 => ?_)
        refine ji_callVi (pc := 36) 53 [l1] ([]) oX11_drawn wlX11_135 wmX11_drawn rfl rfl (Nat.le_of_ble_eq_true rfl) (jRaC (jRc3 rfl) (jRaC r12 jRa0)) rfl jcl_53 rfl (Nat.le_of_ble_eq_true rfl) hF dX11_draw_36 (fun x13 s14 r_x13 hF => ?_)
        exact ji_reti (pc := 39) rfl r_x13 hF dX11_draw_39
      · refine jg_bipush (pc := 29) rfl dX11_draw_29 ?_
        refine jg_goto (pc := 31) 39 dX11_draw_31 rfl ?_
        exact ji_reti (pc := 39) rfl (jRc rfl) hF dX11_draw_39
    · refine jg_bipush (pc := 19) rfl dX11_draw_19 ?_
      exact ji_reti (pc := 21) rfl (jRc rfl) hF dX11_draw_21
  · refine ji_iconst (pc := 7) dX11_draw_7 ?_
    exact ji_reti (pc := 8) rfl (jRc rfl) hF dX11_draw_8
def bX11_gather_4 (rec : Int → Int → Int → jMem → jO) (l1 l2 l3 : Int) (s0 : jMem) : jO :=
if 34 ≤ l3 then (
jGd ((0 : Int) ≤ l1 ∧ l1 < jik 58) <| jLet (jU s0 58 l1 0) fun s4 =>
jRet l2 s4)
else (
jLet (j32 (34 * l1)) fun x8 =>
jLet (j32 (x8 + l3)) fun x10 =>
jGd ((0 : Int) ≤ x10 ∧ x10 < jik 56) <| jLet (s0 56 x10) fun x11 =>
jLet (j32 (34 * l1)) fun x14 =>
jLet (j32 (x14 + l3)) fun x16 =>
jGd ((0 : Int) ≤ x16 ∧ x16 < jik 57) <| jLet (s0 57 x16) fun x17 =>
jLet (j32 (x11 + x17)) fun x18 =>
jGd ((0 : Int) ≤ l3 ∧ l3 < jik 54) <| jLet (s0 54 l3) fun x21 =>
jLet (j32 (x21 + x18)) fun x23 =>
jGd ((0 : Int) ≤ l3 ∧ l3 < jik 54) <| jLet (jU s0 54 l3 x23) fun s24 =>
jLet (j32 (l2 + x18)) fun x27 =>
jLet (j32 (34 * l1)) fun x30 =>
jLet (j32 (x30 + l3)) fun x32 =>
jGd ((0 : Int) ≤ x32 ∧ x32 < jik 56) <| jLet (jU s24 56 x32 0) fun s33 =>
jLet (j32 (34 * l1)) fun x36 =>
jLet (j32 (x36 + l3)) fun x38 =>
jGd ((0 : Int) ≤ x38 ∧ x38 < jik 57) <| jLet (jU s33 57 x38 0) fun s39 =>
jLet (j32 (l3 + 1)) fun x40 =>
rec l1 x27 x40 s39)
def fX11_gather (l1 : Int) (s0 : jMem) : jO :=
jIt (fun _ _ _ _ => none) (bX11_gather_4) 1000 l1 0 0 s0
def gX11_gather (vs : List Int) (s : jMem) : jO := match vs with
  | [a0, a1] => jGd (a0 = 53) <| fX11_gather a1 s
  | _ => none
set_option maxRecDepth 100000 in
set_option maxHeartbeats 4000000 in
theorem obX11_gather_4 {E : jEnv} {Rr : Int → jMem → Prop} {rec : Int → Int → Int → jMem → jO} (hrec : ∀ (l1 l2 l3 : Int) (s : jMem), jHo Rr (rec l1 l2 l3 s) → jGo E MX11_gather 0 Rr [3, 1, 1, 1, 0] 4 [53, l1, l2, l3, 0] ([]) s) : ∀ (l1 l2 l3 : Int) (s : jMem), jHo Rr (bX11_gather_4 rec l1 l2 l3 s) → jGo E MX11_gather 0 Rr [3, 1, 1, 1, 0] 4 [53, l1, l2, l3, 0] ([]) s := by
  intro l1 l2 l3 s0 hF
  unfold bX11_gather_4 at hF
  refine ji_iload_n (n := 3) (pc := 4) l3 rfl rfl rfl dX11_gather_4 (fun r1 => ?_)
  refine jg_bipush (pc := 5) rfl dX11_gather_5 ?_
  refine ji_icmp_ge 81 (pc := 7) r1 (jRc rfl) hF dX11_gather_7 rfl (fun hF => ?_) (fun hF => ?_)
  · refine ji_aload_n (n := 0) (pc := 81) 53 rfl rfl rfl dX11_gather_81 (fun r2 => ?_)
    refine ji_getr (pc := 82) 58 wfX11_22 (jRc3 rfl) jcl_53 jrf_53_4 dX11_gather_82 ?_
    refine ji_iload_n (n := 1) (pc := 85) l1 rfl rfl rfl dX11_gather_85 (fun r3 => ?_)
    refine ji_iconst (pc := 86) dX11_gather_86 ?_
    refine ji_iastore (pc := 87) (jRc3 rfl) r3 (jRc rfl) hF dX11_gather_87 (fun s4 hF => ?_)
    refine ji_iload_n (n := 2) (pc := 88) l2 rfl rfl rfl dX11_gather_88 (fun r5 => ?_)
    exact ji_reti (pc := 89) rfl r5 hF dX11_gather_89
  · refine ji_aload_n (n := 0) (pc := 10) 53 rfl rfl rfl dX11_gather_10 (fun r6 => ?_)
    refine ji_getr (pc := 11) 56 wfX11_16 (jRc3 rfl) jcl_53 jrf_53_2 dX11_gather_11 ?_
    refine jg_bipush (pc := 14) rfl dX11_gather_14 ?_
    refine ji_iload_n (n := 1) (pc := 16) l1 rfl rfl rfl dX11_gather_16 (fun r7 => ?_)
    refine ji_imul (pc := 17)  hF dX11_gather_17 (fun x8 r_x8 hF => ?_)
    refine ji_iload_n (n := 3) (pc := 18) l3 rfl rfl rfl dX11_gather_18 (fun r9 => ?_)
    refine ji_iadd (pc := 19)  hF dX11_gather_19 (fun x10 r_x10 hF => ?_)
    refine ji_iaload (pc := 20) (jRc3 rfl) r_x10 hF dX11_gather_20 (fun x11 r_x11 hF => ?_)
    refine ji_aload_n (n := 0) (pc := 21) 53 rfl rfl rfl dX11_gather_21 (fun r12 => ?_)
    refine ji_getr (pc := 22) 57 wfX11_19 (jRc3 rfl) jcl_53 jrf_53_3 dX11_gather_22 ?_
    refine jg_bipush (pc := 25) rfl dX11_gather_25 ?_
    refine ji_iload_n (n := 1) (pc := 27) l1 rfl rfl rfl dX11_gather_27 (fun r13 => ?_)
    refine ji_imul (pc := 28)  hF dX11_gather_28 (fun x14 r_x14 hF => ?_)
    refine ji_iload_n (n := 3) (pc := 29) l3 rfl rfl rfl dX11_gather_29 (fun r15 => ?_)
    refine ji_iadd (pc := 30)  hF dX11_gather_30 (fun x16 r_x16 hF => ?_)
    refine ji_iaload (pc := 31) (jRc3 rfl) r_x16 hF dX11_gather_31 (fun x17 r_x17 hF => ?_)
    refine ji_iadd (pc := 32)  hF dX11_gather_32 (fun x18 r_x18 hF => ?_)
    refine ji_istore (n := 4) (pc := 33) [3, 1, 1, 1, 1] [53, l1, l2, l3, x18] r_x18 (Nat.le_of_ble_eq_true rfl) rfl rfl dX11_gather_33 ?_
    refine ji_aload_n (n := 0) (pc := 35) 53 rfl rfl rfl dX11_gather_35 (fun r19 => ?_)
    refine ji_getr (pc := 36) 54 wfX11_7 (jRc3 rfl) jcl_53 jrf_53_0 dX11_gather_36 ?_
    refine ji_iload_n (n := 3) (pc := 39) l3 rfl rfl rfl dX11_gather_39 (fun r20 => ?_)
    refine jg_dup2 (pc := 40) (by decide) (by decide) dX11_gather_40 ?_
    refine ji_iaload (pc := 41) (jRc3 rfl) r20 hF dX11_gather_41 (fun x21 r_x21 hF => ?_)
    refine ji_iload (pc := 42) x18 rfl rfl dX11_gather_42 (fun r22 => ?_)
    refine ji_iadd (pc := 44)  hF dX11_gather_44 (fun x23 r_x23 hF => ?_)
    refine ji_iastore (pc := 45) (jRc3 rfl) r20 r_x23 hF dX11_gather_45 (fun s24 hF => ?_)
    refine ji_iload_n (n := 2) (pc := 46) l2 rfl rfl rfl dX11_gather_46 (fun r25 => ?_)
    refine ji_iload (pc := 47) x18 rfl rfl dX11_gather_47 (fun r26 => ?_)
    refine ji_iadd (pc := 49)  hF dX11_gather_49 (fun x27 r_x27 hF => ?_)
    refine ji_istore_n (n := 2) (pc := 50) [3, 1, 1, 1, 1] [53, l1, x27, l3, x18] rfl r_x27 (Nat.le_of_ble_eq_true rfl) rfl rfl dX11_gather_50 ?_
    refine ji_aload_n (n := 0) (pc := 51) 53 rfl rfl rfl dX11_gather_51 (fun r28 => ?_)
    refine ji_getr (pc := 52) 56 wfX11_16 (jRc3 rfl) jcl_53 jrf_53_2 dX11_gather_52 ?_
    refine jg_bipush (pc := 55) rfl dX11_gather_55 ?_
    refine ji_iload_n (n := 1) (pc := 57) l1 rfl rfl rfl dX11_gather_57 (fun r29 => ?_)
    refine ji_imul (pc := 58)  hF dX11_gather_58 (fun x30 r_x30 hF => ?_)
    refine ji_iload_n (n := 3) (pc := 59) l3 rfl rfl rfl dX11_gather_59 (fun r31 => ?_)
    refine ji_iadd (pc := 60)  hF dX11_gather_60 (fun x32 r_x32 hF => ?_)
    refine ji_iconst (pc := 61) dX11_gather_61 ?_
    refine ji_iastore (pc := 62) (jRc3 rfl) r_x32 (jRc rfl) hF dX11_gather_62 (fun s33 hF => ?_)
    refine ji_aload_n (n := 0) (pc := 63) 53 rfl rfl rfl dX11_gather_63 (fun r34 => ?_)
    refine ji_getr (pc := 64) 57 wfX11_19 (jRc3 rfl) jcl_53 jrf_53_3 dX11_gather_64 ?_
    refine jg_bipush (pc := 67) rfl dX11_gather_67 ?_
    refine ji_iload_n (n := 1) (pc := 69) l1 rfl rfl rfl dX11_gather_69 (fun r35 => ?_)
    refine ji_imul (pc := 70)  hF dX11_gather_70 (fun x36 r_x36 hF => ?_)
    refine ji_iload_n (n := 3) (pc := 71) l3 rfl rfl rfl dX11_gather_71 (fun r37 => ?_)
    refine ji_iadd (pc := 72)  hF dX11_gather_72 (fun x38 r_x38 hF => ?_)
    refine ji_iconst (pc := 73) dX11_gather_73 ?_
    refine ji_iastore (pc := 74) (jRc3 rfl) r_x38 (jRc rfl) hF dX11_gather_74 (fun s39 hF => ?_)
    refine ji_iinc (pc := 75) l3 (fun w => [53, l1, x27, w, x18]) rfl rfl rfl (fun _ => rfl) hF dX11_gather_75 (fun x40 r_x40 hF => ?_)
    refine jg_goto (pc := 78) 4 dX11_gather_78 rfl ?_
    refine jg_norm [3, 1, 1, 1, 0] [53, l1, x27, x40, 0] rfl rfl ?_
    exact hrec _ _ _ _ hF
theorem obX11_gather_4W {E : jEnv} {Rr : Int → jMem → Prop} : ∀ n : Nat, ∀ (l1 l2 l3 : Int) (s : jMem), jHo Rr (jIt (fun _ _ _ _ => none) (bX11_gather_4) n l1 l2 l3 s) → jGo E MX11_gather 0 Rr [3, 1, 1, 1, 0] 4 [53, l1, l2, l3, 0] ([]) s := by
  intro n
  induction n with
  | zero => intro l1 l2 l3 s hF; exact jHo_none hF
  | succ n ih => exact obX11_gather_4 ih

set_option maxRecDepth 100000 in
set_option maxHeartbeats 4000000 in
theorem oX11_gather : jOk MX11_gather [3, 1] 0 (jFn gX11_gather) := by
  refine jOk_fn (by decide +kernel) (Nat.le_of_ble_eq_true rfl) (by decide +kernel) (.inr (.inl rfl)) ?_
  intro E vs s0 Rr hF ha
  obtain ⟨l0, t0, rfl, r_l0, ha⟩ := jRa_ci ha
  obtain ⟨l1, t1, rfl, r_l1, ha⟩ := jRa_ci ha
  obtain rfl := jRa_ni ha
  replace hF : jHo Rr (jGd (l0 = 53) <| fX11_gather l1 s0) := hF
  have hG := jHo_as hF
  clear hF
  obtain ⟨rfl, hF⟩ := hG
  refine jg_norm [3, 1, 0, 0, 0] [53, l1, 0, 0, 0] rfl rfl ?_
  unfold fX11_gather at hF
  refine ji_iconst (pc := 0) dX11_gather_0 ?_
  refine ji_istore_n (n := 2) (pc := 1) [3, 1, 1, 0, 0] [53, l1, 0, 0, 0] rfl (jRc rfl) (Nat.le_of_ble_eq_true rfl) rfl rfl dX11_gather_1 ?_
  refine ji_iconst (pc := 2) dX11_gather_2 ?_
  refine ji_istore_n (n := 3) (pc := 3) [3, 1, 1, 1, 0] [53, l1, 0, 0, 0] rfl (jRc rfl) (Nat.le_of_ble_eq_true rfl) rfl rfl dX11_gather_3 ?_
  refine jg_norm [3, 1, 1, 1, 0] [53, l1, 0, 0, 0] rfl rfl ?_
  exact obX11_gather_4W 1000 _ _ _ _ hF
def bX11_deal_10 (k29 : Int → Int → jMem → jO) (rec : Int → Int → Int → jMem → jO) (l1 l2 l3 : Int) (s0 : jMem) : jO :=
if 4 ≤ l3 then (
k29 l1 l2 s0)
else (
jBd (fX11_gather l3 s0) fun x5 s6 =>
jLet (j32 (l2 + x5)) fun x7 =>
jLet (j32 (l3 + 1)) fun x8 =>
rec l1 x7 x8 s6)
def bX11_deal_31 (k65 : Int → Int → jMem → jO) (rec : Int → Int → Int → jMem → jO) (l1 l2 l3 : Int) (s0 : jMem) : jO :=
if 34 ≤ l3 then (
k65 l1 l2 s0)
else (
jGd ((0 : Int) ≤ l3 ∧ l3 < jik 54) <| jLet (s0 54 l3) fun x4 =>
jGd ((0 : Int) ≤ l3 ∧ l3 < jik 55) <| jLet (s0 55 l3) fun x7 =>
jLet (j32 (x4 + x7)) fun x8 =>
jGd ((0 : Int) ≤ l3 ∧ l3 < jik 54) <| jLet (jU s0 54 l3 x8) fun s9 =>
jGd ((0 : Int) ≤ l3 ∧ l3 < jik 55) <| jLet (jU s9 55 l3 0) fun s12 =>
jLet (j32 (l3 + 1)) fun x13 =>
rec l1 l2 x13 s12)
def bX11_deal_81 (k102 : Int → Int → jMem → jO) (rec : Int → Int → Int → jMem → jO) (l2 l3 l4 : Int) (s0 : jMem) : jO :=
if 13 ≤ l4 then (
k102 l2 l3 s0)
else (
jBd (fX11_drawn l3 s0) fun x5 s6 =>
jLet (j32 (l2 + x5)) fun x7 =>
jLet (j32 (l4 + 1)) fun x8 =>
rec x7 l3 x8 s6)
def bX11_deal_102 (k73 : Int → Int → jMem → jO) (l2 l3 : Int) (s0 : jMem) : jO :=
jLet (j32 (l3 + 1)) fun x1 =>
k73 l2 x1 s0
def bX11_deal_73 (rec : Int → Int → jMem → jO) (l2 l3 : Int) (s0 : jMem) : jO :=
if 4 ≤ l3 then (
jRet 0 s0)
else (
jIt (fun _ _ _ _ => none) (bX11_deal_81 (bX11_deal_102 rec)) 1000 l2 l3 0 s0)
def bX11_deal_65 (l1 l2 : Int) (s0 : jMem) : jO :=
jLet (jU s0 53 6 l1) fun s3 =>
jIt (fun _ _ _ => none) (bX11_deal_73) 1000 l2 0 s3
def bX11_deal_29 (l1 l2 : Int) (s0 : jMem) : jO :=
jIt (fun _ _ _ _ => none) (bX11_deal_31 bX11_deal_65) 1000 l1 l2 0 s0
def fX11_deal (l1 : Int) (s0 : jMem) : jO :=
if 0 ≤ l1 then (
jIt (fun _ _ _ _ => none) (bX11_deal_10 bX11_deal_29) 1000 l1 0 0 s0)
else (
jRet (-1) s0)
def gX11_deal (vs : List Int) (s : jMem) : jO := match vs with
  | [a0, a1] => jGd (a0 = 53) <| fX11_deal a1 s
  | _ => none
set_option maxRecDepth 100000 in
set_option maxHeartbeats 4000000 in
theorem obX11_deal_10 {E : jEnv} {Rr : Int → jMem → Prop} {k29 : Int → Int → jMem → jO} (hk29 : ∀ (l1 l2 : Int) (s : jMem), jHo Rr (k29 l1 l2 s) → jGo E MX11_deal 2 Rr [3, 1, 1, 0, 0] 29 [53, l1, l2, 0, 0] ([]) s) {rec : Int → Int → Int → jMem → jO} (hrec : ∀ (l1 l2 l3 : Int) (s : jMem), jHo Rr (rec l1 l2 l3 s) → jGo E MX11_deal 2 Rr [3, 1, 1, 1, 0] 10 [53, l1, l2, l3, 0] ([]) s) : ∀ (l1 l2 l3 : Int) (s : jMem), jHo Rr (bX11_deal_10 k29 rec l1 l2 l3 s) → jGo E MX11_deal 2 Rr [3, 1, 1, 1, 0] 10 [53, l1, l2, l3, 0] ([]) s := by
  intro l1 l2 l3 s0 hF
  unfold bX11_deal_10 at hF
  refine ji_iload_n (n := 3) (pc := 10) l3 rfl rfl rfl dX11_deal_10 (fun r1 => ?_)
  refine ji_iconst (pc := 11) dX11_deal_11 ?_
  refine ji_icmp_ge 29 (pc := 12) r1 (jRc rfl) hF dX11_deal_12 rfl (fun hF => ?_) (fun hF => ?_)
  · refine jg_norm [3, 1, 1, 0, 0] [53, l1, l2, 0, 0] rfl rfl ?_
    exact hk29 _ _ _ hF
  · refine ji_iload_n (n := 2) (pc := 15) l2 rfl rfl rfl dX11_deal_15 (fun r2 => ?_)
    refine ji_aload_n (n := 0) (pc := 16) 53 rfl rfl rfl dX11_deal_16 (fun r3 => ?_)
    refine ji_iload_n (n := 3) (pc := 17) l3 rfl rfl rfl dX11_deal_17 (fun r4 => ?_)
    refine ji_callVi (pc := 18) 53 [l3] (jV E 1 l2 :: []) oX11_gather wlX11_138 wmX11_gather rfl rfl (Nat.le_of_ble_eq_true rfl) (jRaC (jRc3 rfl) (jRaC r4 jRa0)) rfl jcl_53 rfl (Nat.le_of_ble_eq_true rfl) hF dX11_deal_18 (fun x5 s6 r_x5 hF => ?_)
    refine ji_iadd (pc := 21)  hF dX11_deal_21 (fun x7 r_x7 hF => ?_)
    refine ji_istore_n (n := 2) (pc := 22) [3, 1, 1, 1, 0] [53, l1, x7, l3, 0] rfl r_x7 (Nat.le_of_ble_eq_true rfl) rfl rfl dX11_deal_22 ?_
    refine ji_iinc (pc := 23) l3 (fun w => [53, l1, x7, w, 0]) rfl rfl rfl (fun _ => rfl) hF dX11_deal_23 (fun x8 r_x8 hF => ?_)
    refine jg_goto (pc := 26) 10 dX11_deal_26 rfl ?_
    refine jg_norm [3, 1, 1, 1, 0] [53, l1, x7, x8, 0] rfl rfl ?_
    exact hrec _ _ _ _ hF
theorem obX11_deal_10W {E : jEnv} {Rr : Int → jMem → Prop} {k29 : Int → Int → jMem → jO} (hk29 : ∀ (l1 l2 : Int) (s : jMem), jHo Rr (k29 l1 l2 s) → jGo E MX11_deal 2 Rr [3, 1, 1, 0, 0] 29 [53, l1, l2, 0, 0] ([]) s) : ∀ n : Nat, ∀ (l1 l2 l3 : Int) (s : jMem), jHo Rr (jIt (fun _ _ _ _ => none) (bX11_deal_10 k29) n l1 l2 l3 s) → jGo E MX11_deal 2 Rr [3, 1, 1, 1, 0] 10 [53, l1, l2, l3, 0] ([]) s := by
  intro n
  induction n with
  | zero => intro l1 l2 l3 s hF; exact jHo_none hF
  | succ n ih => exact obX11_deal_10 hk29 ih

set_option maxRecDepth 100000 in
set_option maxHeartbeats 4000000 in
theorem obX11_deal_31 {E : jEnv} {Rr : Int → jMem → Prop} {k65 : Int → Int → jMem → jO} (hk65 : ∀ (l1 l2 : Int) (s : jMem), jHo Rr (k65 l1 l2 s) → jGo E MX11_deal 2 Rr [3, 1, 1, 0, 0] 65 [53, l1, l2, 0, 0] ([]) s) {rec : Int → Int → Int → jMem → jO} (hrec : ∀ (l1 l2 l3 : Int) (s : jMem), jHo Rr (rec l1 l2 l3 s) → jGo E MX11_deal 2 Rr [3, 1, 1, 1, 0] 31 [53, l1, l2, l3, 0] ([]) s) : ∀ (l1 l2 l3 : Int) (s : jMem), jHo Rr (bX11_deal_31 k65 rec l1 l2 l3 s) → jGo E MX11_deal 2 Rr [3, 1, 1, 1, 0] 31 [53, l1, l2, l3, 0] ([]) s := by
  intro l1 l2 l3 s0 hF
  unfold bX11_deal_31 at hF
  refine ji_iload_n (n := 3) (pc := 31) l3 rfl rfl rfl dX11_deal_31 (fun r1 => ?_)
  refine jg_bipush (pc := 32) rfl dX11_deal_32 ?_
  refine ji_icmp_ge 65 (pc := 34) r1 (jRc rfl) hF dX11_deal_34 rfl (fun hF => ?_) (fun hF => ?_)
  · refine jg_norm [3, 1, 1, 0, 0] [53, l1, l2, 0, 0] rfl rfl ?_
    exact hk65 _ _ _ hF
  · refine ji_aload_n (n := 0) (pc := 37) 53 rfl rfl rfl dX11_deal_37 (fun r2 => ?_)
    refine ji_getr (pc := 38) 54 wfX11_7 (jRc3 rfl) jcl_53 jrf_53_0 dX11_deal_38 ?_
    refine ji_iload_n (n := 3) (pc := 41) l3 rfl rfl rfl dX11_deal_41 (fun r3 => ?_)
    refine jg_dup2 (pc := 42) (by decide) (by decide) dX11_deal_42 ?_
    refine ji_iaload (pc := 43) (jRc3 rfl) r3 hF dX11_deal_43 (fun x4 r_x4 hF => ?_)
    refine ji_aload_n (n := 0) (pc := 44) 53 rfl rfl rfl dX11_deal_44 (fun r5 => ?_)
    refine ji_getr (pc := 45) 55 wfX11_13 (jRc3 rfl) jcl_53 jrf_53_1 dX11_deal_45 ?_
    refine ji_iload_n (n := 3) (pc := 48) l3 rfl rfl rfl dX11_deal_48 (fun r6 => ?_)
    refine ji_iaload (pc := 49) (jRc3 rfl) r6 hF dX11_deal_49 (fun x7 r_x7 hF => ?_)
    refine ji_iadd (pc := 50)  hF dX11_deal_50 (fun x8 r_x8 hF => ?_)
    refine ji_iastore (pc := 51) (jRc3 rfl) r3 r_x8 hF dX11_deal_51 (fun s9 hF => ?_)
    refine ji_aload_n (n := 0) (pc := 52) 53 rfl rfl rfl dX11_deal_52 (fun r10 => ?_)
    refine ji_getr (pc := 53) 55 wfX11_13 (jRc3 rfl) jcl_53 jrf_53_1 dX11_deal_53 ?_
    refine ji_iload_n (n := 3) (pc := 56) l3 rfl rfl rfl dX11_deal_56 (fun r11 => ?_)
    refine ji_iconst (pc := 57) dX11_deal_57 ?_
    refine ji_iastore (pc := 58) (jRc3 rfl) r11 (jRc rfl) hF dX11_deal_58 (fun s12 hF => ?_)
    refine ji_iinc (pc := 59) l3 (fun w => [53, l1, l2, w, 0]) rfl rfl rfl (fun _ => rfl) hF dX11_deal_59 (fun x13 r_x13 hF => ?_)
    refine jg_goto (pc := 62) 31 dX11_deal_62 rfl ?_
    refine jg_norm [3, 1, 1, 1, 0] [53, l1, l2, x13, 0] rfl rfl ?_
    exact hrec _ _ _ _ hF
theorem obX11_deal_31W {E : jEnv} {Rr : Int → jMem → Prop} {k65 : Int → Int → jMem → jO} (hk65 : ∀ (l1 l2 : Int) (s : jMem), jHo Rr (k65 l1 l2 s) → jGo E MX11_deal 2 Rr [3, 1, 1, 0, 0] 65 [53, l1, l2, 0, 0] ([]) s) : ∀ n : Nat, ∀ (l1 l2 l3 : Int) (s : jMem), jHo Rr (jIt (fun _ _ _ _ => none) (bX11_deal_31 k65) n l1 l2 l3 s) → jGo E MX11_deal 2 Rr [3, 1, 1, 1, 0] 31 [53, l1, l2, l3, 0] ([]) s := by
  intro n
  induction n with
  | zero => intro l1 l2 l3 s hF; exact jHo_none hF
  | succ n ih => exact obX11_deal_31 hk65 ih

set_option maxRecDepth 100000 in
set_option maxHeartbeats 4000000 in
theorem obX11_deal_81 {E : jEnv} {Rr : Int → jMem → Prop} {k102 : Int → Int → jMem → jO} (hk102 : ∀ (l2 l3 : Int) (s : jMem), jHo Rr (k102 l2 l3 s) → jGo E MX11_deal 2 Rr [3, 0, 1, 1, 0] 102 [53, 0, l2, l3, 0] ([]) s) {rec : Int → Int → Int → jMem → jO} (hrec : ∀ (l2 l3 l4 : Int) (s : jMem), jHo Rr (rec l2 l3 l4 s) → jGo E MX11_deal 2 Rr [3, 0, 1, 1, 1] 81 [53, 0, l2, l3, l4] ([]) s) : ∀ (l2 l3 l4 : Int) (s : jMem), jHo Rr (bX11_deal_81 k102 rec l2 l3 l4 s) → jGo E MX11_deal 2 Rr [3, 0, 1, 1, 1] 81 [53, 0, l2, l3, l4] ([]) s := by
  intro l2 l3 l4 s0 hF
  unfold bX11_deal_81 at hF
  refine ji_iload (pc := 81) l4 rfl rfl dX11_deal_81 (fun r1 => ?_)
  refine jg_bipush (pc := 83) rfl dX11_deal_83 ?_
  refine ji_icmp_ge 102 (pc := 85) r1 (jRc rfl) hF dX11_deal_85 rfl (fun hF => ?_) (fun hF => ?_)
  · refine jg_norm [3, 0, 1, 1, 0] [53, 0, l2, l3, 0] rfl rfl ?_
    exact hk102 _ _ _ hF
  · refine ji_iload_n (n := 2) (pc := 88) l2 rfl rfl rfl dX11_deal_88 (fun r2 => ?_)
    refine ji_aload_n (n := 0) (pc := 89) 53 rfl rfl rfl dX11_deal_89 (fun r3 => ?_)
    refine ji_iload_n (n := 3) (pc := 90) l3 rfl rfl rfl dX11_deal_90 (fun r4 => ?_)
    refine ji_callVi (pc := 91) 53 [l3] (jV E 1 l2 :: []) oX11_drawn wlX11_135 wmX11_drawn rfl rfl (Nat.le_of_ble_eq_true rfl) (jRaC (jRc3 rfl) (jRaC r4 jRa0)) rfl jcl_53 rfl (Nat.le_of_ble_eq_true rfl) hF dX11_deal_91 (fun x5 s6 r_x5 hF => ?_)
    refine ji_iadd (pc := 94)  hF dX11_deal_94 (fun x7 r_x7 hF => ?_)
    refine ji_istore_n (n := 2) (pc := 95) [3, 0, 1, 1, 1] [53, 0, x7, l3, l4] rfl r_x7 (Nat.le_of_ble_eq_true rfl) rfl rfl dX11_deal_95 ?_
    refine ji_iinc (pc := 96) l4 (fun w => [53, 0, x7, l3, w]) rfl rfl rfl (fun _ => rfl) hF dX11_deal_96 (fun x8 r_x8 hF => ?_)
    refine jg_goto (pc := 99) 81 dX11_deal_99 rfl ?_
    refine jg_norm [3, 0, 1, 1, 1] [53, 0, x7, l3, x8] rfl rfl ?_
    exact hrec _ _ _ _ hF
theorem obX11_deal_81W {E : jEnv} {Rr : Int → jMem → Prop} {k102 : Int → Int → jMem → jO} (hk102 : ∀ (l2 l3 : Int) (s : jMem), jHo Rr (k102 l2 l3 s) → jGo E MX11_deal 2 Rr [3, 0, 1, 1, 0] 102 [53, 0, l2, l3, 0] ([]) s) : ∀ n : Nat, ∀ (l2 l3 l4 : Int) (s : jMem), jHo Rr (jIt (fun _ _ _ _ => none) (bX11_deal_81 k102) n l2 l3 l4 s) → jGo E MX11_deal 2 Rr [3, 0, 1, 1, 1] 81 [53, 0, l2, l3, l4] ([]) s := by
  intro n
  induction n with
  | zero => intro l2 l3 l4 s hF; exact jHo_none hF
  | succ n ih => exact obX11_deal_81 hk102 ih

set_option maxRecDepth 100000 in
set_option maxHeartbeats 4000000 in
theorem obX11_deal_102 {E : jEnv} {Rr : Int → jMem → Prop} {k73 : Int → Int → jMem → jO} (hk73 : ∀ (l2 l3 : Int) (s : jMem), jHo Rr (k73 l2 l3 s) → jGo E MX11_deal 2 Rr [3, 0, 1, 1, 0] 73 [53, 0, l2, l3, 0] ([]) s) : ∀ (l2 l3 : Int) (s : jMem), jHo Rr (bX11_deal_102 k73 l2 l3 s) → jGo E MX11_deal 2 Rr [3, 0, 1, 1, 0] 102 [53, 0, l2, l3, 0] ([]) s := by
  intro l2 l3 s0 hF
  unfold bX11_deal_102 at hF
  refine ji_iinc (pc := 102) l3 (fun w => [53, 0, l2, w, 0]) rfl rfl rfl (fun _ => rfl) hF dX11_deal_102 (fun x1 r_x1 hF => ?_)
  refine jg_goto (pc := 105) 73 dX11_deal_105 rfl ?_
  refine jg_norm [3, 0, 1, 1, 0] [53, 0, l2, x1, 0] rfl rfl ?_
  exact hk73 _ _ _ hF
set_option maxRecDepth 100000 in
set_option maxHeartbeats 4000000 in
theorem obX11_deal_73 {E : jEnv} {Rr : Int → jMem → Prop} {rec : Int → Int → jMem → jO} (hrec : ∀ (l2 l3 : Int) (s : jMem), jHo Rr (rec l2 l3 s) → jGo E MX11_deal 2 Rr [3, 0, 1, 1, 0] 73 [53, 0, l2, l3, 0] ([]) s) : ∀ (l2 l3 : Int) (s : jMem), jHo Rr (bX11_deal_73 rec l2 l3 s) → jGo E MX11_deal 2 Rr [3, 0, 1, 1, 0] 73 [53, 0, l2, l3, 0] ([]) s := by
  intro l2 l3 s0 hF
  unfold bX11_deal_73 at hF
  refine ji_iload_n (n := 3) (pc := 73) l3 rfl rfl rfl dX11_deal_73 (fun r1 => ?_)
  refine ji_iconst (pc := 74) dX11_deal_74 ?_
  refine ji_icmp_ge 108 (pc := 75) r1 (jRc rfl) hF dX11_deal_75 rfl (fun hF => ?_) (fun hF => ?_)
  · refine ji_iconst (pc := 108) dX11_deal_108 ?_
    exact ji_reti (pc := 109) rfl (jRc rfl) hF dX11_deal_109
  · refine ji_iconst (pc := 78) dX11_deal_78 ?_
    refine ji_istore (n := 4) (pc := 79) [3, 0, 1, 1, 1] [53, 0, l2, l3, 0] (jRc rfl) (Nat.le_of_ble_eq_true rfl) rfl rfl dX11_deal_79 ?_
    refine jg_norm [3, 0, 1, 1, 1] [53, 0, l2, l3, 0] rfl rfl ?_
    exact obX11_deal_81W (obX11_deal_102 hrec) 1000 _ _ _ _ hF
theorem obX11_deal_73W {E : jEnv} {Rr : Int → jMem → Prop} : ∀ n : Nat, ∀ (l2 l3 : Int) (s : jMem), jHo Rr (jIt (fun _ _ _ => none) (bX11_deal_73) n l2 l3 s) → jGo E MX11_deal 2 Rr [3, 0, 1, 1, 0] 73 [53, 0, l2, l3, 0] ([]) s := by
  intro n
  induction n with
  | zero => intro l2 l3 s hF; exact jHo_none hF
  | succ n ih => exact obX11_deal_73 ih

set_option maxRecDepth 100000 in
set_option maxHeartbeats 4000000 in
theorem obX11_deal_65 {E : jEnv} {Rr : Int → jMem → Prop} : ∀ (l1 l2 : Int) (s : jMem), jHo Rr (bX11_deal_65 l1 l2 s) → jGo E MX11_deal 2 Rr [3, 1, 1, 0, 0] 65 [53, l1, l2, 0, 0] ([]) s := by
  intro l1 l2 s0 hF
  unfold bX11_deal_65 at hF
  refine ji_aload_n (n := 0) (pc := 65) 53 rfl rfl rfl dX11_deal_65 (fun r1 => ?_)
  refine ji_iload_n (n := 1) (pc := 66) l1 rfl rfl rfl dX11_deal_66 (fun r2 => ?_)
  refine jg_i2l (pc := 67) r2 dX11_deal_67 ?_
  refine ji_putfl (pc := 68) wpX11_28 (jRc3 rfl) jcl_53 (jR12 r2) hF dX11_deal_68 (fun s3 hF => ?_)
  refine ji_iconst (pc := 71) dX11_deal_71 ?_
  refine ji_istore_n (n := 3) (pc := 72) [3, 1, 1, 1, 0] [53, l1, l2, 0, 0] rfl (jRc rfl) (Nat.le_of_ble_eq_true rfl) rfl rfl dX11_deal_72 ?_
  refine jg_norm [3, 0, 1, 1, 0] [53, 0, l2, 0, 0] rfl rfl ?_
  exact obX11_deal_73W 1000 _ _ _ hF
set_option maxRecDepth 100000 in
set_option maxHeartbeats 4000000 in
theorem obX11_deal_29 {E : jEnv} {Rr : Int → jMem → Prop} : ∀ (l1 l2 : Int) (s : jMem), jHo Rr (bX11_deal_29 l1 l2 s) → jGo E MX11_deal 2 Rr [3, 1, 1, 0, 0] 29 [53, l1, l2, 0, 0] ([]) s := by
  intro l1 l2 s0 hF
  unfold bX11_deal_29 at hF
  refine ji_iconst (pc := 29) dX11_deal_29 ?_
  refine ji_istore_n (n := 3) (pc := 30) [3, 1, 1, 1, 0] [53, l1, l2, 0, 0] rfl (jRc rfl) (Nat.le_of_ble_eq_true rfl) rfl rfl dX11_deal_30 ?_
  refine jg_norm [3, 1, 1, 1, 0] [53, l1, l2, 0, 0] rfl rfl ?_
  exact obX11_deal_31W obX11_deal_65 1000 _ _ _ _ hF
set_option maxRecDepth 100000 in
set_option maxHeartbeats 4000000 in
theorem oX11_deal : jOk MX11_deal [3, 1] 2 (jFn gX11_deal) := by
  refine jOk_fn (by decide +kernel) (Nat.le_of_ble_eq_true rfl) (by decide +kernel) (.inr (.inl rfl)) ?_
  intro E vs s0 Rr hF ha
  obtain ⟨l0, t0, rfl, r_l0, ha⟩ := jRa_ci ha
  obtain ⟨l1, t1, rfl, r_l1, ha⟩ := jRa_ci ha
  obtain rfl := jRa_ni ha
  replace hF : jHo Rr (jGd (l0 = 53) <| fX11_deal l1 s0) := hF
  have hG := jHo_as hF
  clear hF
  obtain ⟨rfl, hF⟩ := hG
  refine jg_norm [3, 1, 0, 0, 0] [53, l1, 0, 0, 0] rfl rfl ?_
  unfold fX11_deal at hF
  refine ji_iload_n (n := 1) (pc := 0) l1 rfl rfl rfl dX11_deal_0 (fun r1 => ?_)
  refine ji_if_ge 6 (pc := 1) r1 hF dX11_deal_1 rfl (fun hF => ?_) (fun hF => ?_)
  · refine ji_iconst (pc := 6) dX11_deal_6 ?_
    refine ji_istore_n (n := 2) (pc := 7) [3, 1, 1, 0, 0] [53, l1, 0, 0, 0] rfl (jRc rfl) (Nat.le_of_ble_eq_true rfl) rfl rfl dX11_deal_7 ?_
    refine ji_iconst (pc := 8) dX11_deal_8 ?_
    refine ji_istore_n (n := 3) (pc := 9) [3, 1, 1, 1, 0] [53, l1, 0, 0, 0] rfl (jRc rfl) (Nat.le_of_ble_eq_true rfl) rfl rfl dX11_deal_9 ?_
    refine jg_norm [3, 1, 1, 1, 0] [53, l1, 0, 0, 0] rfl rfl ?_
    exact obX11_deal_10W obX11_deal_29 1000 _ _ _ _ hF
  · refine ji_iconst (pc := 4) dX11_deal_4 ?_
    exact ji_reti (pc := 5) rfl (jRc rfl) hF dX11_deal_5
def fX11_discard (l1 l2 : Int) (s0 : jMem) : jO :=
jBd (fX11_isHand l1 s0) fun x2 s3 =>
if x2 = 0 then (
jRet (-1) s3)
else (
jBd (fX11_isSort l2 s3) fun x5 s6 =>
if x5 = 0 then (
jRet (-1) s6)
else (
jLet (j32 (34 * l1)) fun x9 =>
jLet (j32 (x9 + l2)) fun x11 =>
jGd ((0 : Int) ≤ x11 ∧ x11 < jik 56) <| jLet (s6 56 x11) fun x12 =>
if x12 = 0 then (
jRet (-2) s6)
else (
jLet (j32 (34 * l1)) fun x15 =>
jLet (j32 (x15 + l2)) fun x17 =>
jGd ((0 : Int) ≤ x17 ∧ x17 < jik 56) <| jLet (s6 56 x17) fun x18 =>
jLet (j32 (x18 - 1)) fun x19 =>
jGd ((0 : Int) ≤ x17 ∧ x17 < jik 56) <| jLet (jU s6 56 x17 x19) fun s20 =>
jGd ((0 : Int) ≤ l2 ∧ l2 < jik 55) <| jLet (s20 55 l2) fun x23 =>
jLet (j32 (x23 + 1)) fun x24 =>
jGd ((0 : Int) ≤ l2 ∧ l2 < jik 55) <| jLet (jU s20 55 l2 x24) fun s25 =>
jBd (fX11_sizeOf l1 s25) fun x28 s29 =>
jRet x28 s29)))
def gX11_discard (vs : List Int) (s : jMem) : jO := match vs with
  | [a0, a1, a2] => jGd (a0 = 53) <| fX11_discard a1 a2 s
  | _ => none
set_option maxRecDepth 100000 in
set_option maxHeartbeats 4000000 in
theorem oX11_discard : jOk MX11_discard [3, 1, 1] 2 (jFn gX11_discard) := by
  refine jOk_fn (by decide +kernel) (Nat.le_of_ble_eq_true rfl) (by decide +kernel) (.inr (.inl rfl)) ?_
  intro E vs s0 Rr hF ha
  obtain ⟨l0, t0, rfl, r_l0, ha⟩ := jRa_ci ha
  obtain ⟨l1, t1, rfl, r_l1, ha⟩ := jRa_ci ha
  obtain ⟨l2, t2, rfl, r_l2, ha⟩ := jRa_ci ha
  obtain rfl := jRa_ni ha
  replace hF : jHo Rr (jGd (l0 = 53) <| fX11_discard l1 l2 s0) := hF
  have hG := jHo_as hF
  clear hF
  obtain ⟨rfl, hF⟩ := hG
  refine jg_norm [3, 1, 1] [53, l1, l2] rfl rfl ?_
  unfold fX11_discard at hF
  refine ji_iload_n (n := 1) (pc := 0) l1 rfl rfl rfl dX11_discard_0 (fun r1 => ?_)
  refine ji_callSz (pc := 1) [l1] ([]) oX11_isHand wlX11_114 wmX11_isHand rfl rfl (Nat.le_of_ble_eq_true rfl) (jRaC r1 jRa0) rfl rfl (Nat.le_of_ble_eq_true rfl) hF dX11_discard_1 (fun x2 s3 r_x2 hF => ?_)
  refine ji_if_eq 14 (pc := 4) (jR51 r_x2) hF dX11_discard_4 rfl (fun hF => ?_) (fun hF => ?_)
  · refine ji_iconst (pc := 14) dX11_discard_14 ?_
    exact ji_reti (pc := 15) rfl (jRc rfl) hF dX11_discard_15
  · refine ji_iload_n (n := 2) (pc := 7) l2 rfl rfl rfl dX11_discard_7 (fun r4 => ?_)
    refine ji_callSz (pc := 8) [l2] ([]) oX11_isSort wlX11_120 wmX11_isSort rfl rfl (Nat.le_of_ble_eq_true rfl) (jRaC r4 jRa0) rfl rfl (Nat.le_of_ble_eq_true rfl) hF dX11_discard_8 (fun x5 s6 r_x5 hF => ?_)
    refine ji_if_ne 16 (pc := 11) (jR51 r_x5) hF dX11_discard_11 rfl (fun hF => ?_) (fun hF => ?_)
    · refine ji_aload_n (n := 0) (pc := 16) 53 rfl rfl rfl dX11_discard_16 (fun r7 => ?_)
      refine ji_getr (pc := 17) 56 wfX11_16 (jRc3 rfl) jcl_53 jrf_53_2 dX11_discard_17 ?_
      refine jg_bipush (pc := 20) rfl dX11_discard_20 ?_
      refine ji_iload_n (n := 1) (pc := 22) l1 rfl rfl rfl dX11_discard_22 (fun r8 => ?_)
      refine ji_imul (pc := 23)  hF dX11_discard_23 (fun x9 r_x9 hF => ?_)
      refine ji_iload_n (n := 2) (pc := 24) l2 rfl rfl rfl dX11_discard_24 (fun r10 => ?_)
      refine ji_iadd (pc := 25)  hF dX11_discard_25 (fun x11 r_x11 hF => ?_)
      refine ji_iaload (pc := 26) (jRc3 rfl) r_x11 hF dX11_discard_26 (fun x12 r_x12 hF => ?_)
      refine ji_if_ne 33 (pc := 27) r_x12 hF dX11_discard_27 rfl (fun hF => ?_) (fun hF => ?_)
      · refine ji_aload_n (n := 0) (pc := 33) 53 rfl rfl rfl dX11_discard_33 (fun r13 => ?_)
        refine ji_getr (pc := 34) 56 wfX11_16 (jRc3 rfl) jcl_53 jrf_53_2 dX11_discard_34 ?_
        refine jg_bipush (pc := 37) rfl dX11_discard_37 ?_
        refine ji_iload_n (n := 1) (pc := 39) l1 rfl rfl rfl dX11_discard_39 (fun r14 => ?_)
        refine ji_imul (pc := 40)  hF dX11_discard_40 (fun x15 r_x15 hF => ?_)
        refine ji_iload_n (n := 2) (pc := 41) l2 rfl rfl rfl dX11_discard_41 (fun r16 => ?_)
        refine ji_iadd (pc := 42)  hF dX11_discard_42 (fun x17 r_x17 hF => ?_)
        refine jg_dup2 (pc := 43) (by decide) (by decide) dX11_discard_43 ?_
        refine ji_iaload (pc := 44) (jRc3 rfl) r_x17 hF dX11_discard_44 (fun x18 r_x18 hF => ?_)
        refine ji_iconst (pc := 45) dX11_discard_45 ?_
        refine ji_isub (pc := 46)  hF dX11_discard_46 (fun x19 r_x19 hF => ?_)
        refine ji_iastore (pc := 47) (jRc3 rfl) r_x17 r_x19 hF dX11_discard_47 (fun s20 hF => ?_)
        refine ji_aload_n (n := 0) (pc := 48) 53 rfl rfl rfl dX11_discard_48 (fun r21 => ?_)
        refine ji_getr (pc := 49) 55 wfX11_13 (jRc3 rfl) jcl_53 jrf_53_1 dX11_discard_49 ?_
        refine ji_iload_n (n := 2) (pc := 52) l2 rfl rfl rfl dX11_discard_52 (fun r22 => ?_)
        refine jg_dup2 (pc := 53) (by decide) (by decide) dX11_discard_53 ?_
        refine ji_iaload (pc := 54) (jRc3 rfl) r22 hF dX11_discard_54 (fun x23 r_x23 hF => ?_)
        refine ji_iconst (pc := 55) dX11_discard_55 ?_
        refine ji_iadd (pc := 56)  hF dX11_discard_56 (fun x24 r_x24 hF => ?_)
        refine ji_iastore (pc := 57) (jRc3 rfl) r22 r_x24 hF dX11_discard_57 (fun s25 hF => ?_)
        refine ji_aload_n (n := 0) (pc := 58) 53 rfl rfl rfl dX11_discard_58 (fun r26 => ?_)
        refine ji_iload_n (n := 1) (pc := 59) l1 rfl rfl rfl dX11_discard_59 (fun r27 => ?_)
        refine ji_callVi (pc := 60) 53 [l1] ([]) oX11_sizeOf wlX11_117 wmX11_sizeOf rfl rfl (Nat.le_of_ble_eq_true rfl) (jRaC (jRc3 rfl) (jRaC r27 jRa0)) rfl jcl_53 rfl (Nat.le_of_ble_eq_true rfl) hF dX11_discard_60 (fun x28 s29 r_x28 hF => ?_)
        exact ji_reti (pc := 63) rfl r_x28 hF dX11_discard_63
      · refine jg_bipush (pc := 30) rfl dX11_discard_30 ?_
        exact ji_reti (pc := 32) rfl (jRc rfl) hF dX11_discard_32
    · refine ji_iconst (pc := 14) dX11_discard_14 ?_
      exact ji_reti (pc := 15) rfl (jRc rfl) hF dX11_discard_15
def fX11_begins (l0 : Int) (s0 : jMem) : jO :=
if 27 ≤ l0 then (
jRet 0 s0)
else (
jGd (¬ (9 : Int) = 0) <| jLet (jrem l0 9) fun x3 =>
if 7 ≤ x3 then (
jRet 0 s0)
else (
jRet 1 s0))
def gX11_begins (vs : List Int) (s : jMem) : jO := match vs with
  | [a0] => fX11_begins a0 s
  | _ => none
set_option maxRecDepth 100000 in
set_option maxHeartbeats 4000000 in
theorem oX11_begins : jOk MX11_begins [1] 0 (jFn gX11_begins) := by
  refine jOk_fn (by decide +kernel) (Nat.le_of_ble_eq_true rfl) (by decide +kernel) (.inr (.inr (.inr rfl))) ?_
  intro E vs s0 Rr hF ha
  obtain ⟨l0, t0, rfl, r_l0, ha⟩ := jRa_ci ha
  obtain rfl := jRa_ni ha
  replace hF : jHo Rr (fX11_begins l0 s0) := hF
  refine jg_norm [1] [l0] rfl rfl ?_
  unfold fX11_begins at hF
  refine ji_iload_n (n := 0) (pc := 0) l0 rfl rfl rfl dX11_begins_0 (fun r1 => ?_)
  refine jg_bipush (pc := 1) rfl dX11_begins_1 ?_
  refine ji_icmp_ge 19 (pc := 3) r1 (jRc rfl) hF dX11_begins_3 rfl (fun hF => ?_) (fun hF => ?_)
  · refine ji_iconst (pc := 19) dX11_begins_19 ?_
    exact ji_retz (pc := 20) rfl (jRc5 rfl) hF dX11_begins_20
  · refine ji_iload_n (n := 0) (pc := 6) l0 rfl rfl rfl dX11_begins_6 (fun r2 => ?_)
    refine jg_bipush (pc := 7) rfl dX11_begins_7 ?_
    refine ji_irem (pc := 9) (jRc rfl) hF dX11_begins_9 (fun x3 r_x3 hF => ?_)
    refine jg_bipush (pc := 10) rfl dX11_begins_10 ?_
    refine ji_icmp_ge 19 (pc := 12) r_x3 (jRc rfl) hF dX11_begins_12 rfl (fun hF => ?_) (fun hF => ?_)
    · refine ji_iconst (pc := 19) dX11_begins_19 ?_
      exact ji_retz (pc := 20) rfl (jRc5 rfl) hF dX11_begins_20
    · refine ji_iconst (pc := 15) dX11_begins_15 ?_
      refine jg_goto (pc := 16) 20 dX11_begins_16 rfl ?_
      exact ji_retz (pc := 20) rfl (jRc5 rfl) hF dX11_begins_20
def fX11_within (l0 l1 : Int) (s0 : jMem) : jO :=
if l0 = 1 then (
jRet 1 s0)
else (
if l1 ≤ 0 then (
if l0 = 0 then (
jRet 2 s0)
else (
if l0 = 2 then (
jRet 3 s0)
else (
jRet 4 s0)))
else (
jRet 0 s0))
def gX11_within (vs : List Int) (s : jMem) : jO := match vs with
  | [a0, a1] => fX11_within a0 a1 s
  | _ => none
set_option maxRecDepth 100000 in
set_option maxHeartbeats 4000000 in
theorem oX11_within : jOk MX11_within [1, 1] 0 (jFn gX11_within) := by
  refine jOk_fn (by decide +kernel) (Nat.le_of_ble_eq_true rfl) (by decide +kernel) (.inr (.inl rfl)) ?_
  intro E vs s0 Rr hF ha
  obtain ⟨l0, t0, rfl, r_l0, ha⟩ := jRa_ci ha
  obtain ⟨l1, t1, rfl, r_l1, ha⟩ := jRa_ci ha
  obtain rfl := jRa_ni ha
  replace hF : jHo Rr (fX11_within l0 l1 s0) := hF
  refine jg_norm [1, 1] [l0, l1] rfl rfl ?_
  unfold fX11_within at hF
  refine ji_iload_n (n := 0) (pc := 0) l0 rfl rfl rfl dX11_within_0 (fun r1 => ?_)
  refine ji_iconst (pc := 1) dX11_within_1 ?_
  refine ji_icmp_ne 9 (pc := 2) r1 (jRc rfl) hF dX11_within_2 rfl (fun hF => ?_) (fun hF => ?_)
  · refine ji_iload_n (n := 1) (pc := 9) l1 rfl rfl rfl dX11_within_9 (fun r2 => ?_)
    refine ji_if_le 17 (pc := 10) r2 hF dX11_within_10 rfl (fun hF => ?_) (fun hF => ?_)
    · refine ji_iload_n (n := 0) (pc := 17) l0 rfl rfl rfl dX11_within_17 (fun r3 => ?_)
      refine ji_if_ne 25 (pc := 18) r3 hF dX11_within_18 rfl (fun hF => ?_) (fun hF => ?_)
      · refine ji_iload_n (n := 0) (pc := 25) l0 rfl rfl rfl dX11_within_25 (fun r4 => ?_)
        refine ji_iconst (pc := 26) dX11_within_26 ?_
        refine ji_icmp_ne 34 (pc := 27) r4 (jRc rfl) hF dX11_within_27 rfl (fun hF => ?_) (fun hF => ?_)
        · refine ji_iconst (pc := 34) dX11_within_34 ?_
          exact ji_reti (pc := 35) rfl (jRc rfl) hF dX11_within_35
        · refine ji_iconst (pc := 30) dX11_within_30 ?_
          refine jg_goto (pc := 31) 35 dX11_within_31 rfl ?_
          exact ji_reti (pc := 35) rfl (jRc rfl) hF dX11_within_35
      · refine ji_iconst (pc := 21) dX11_within_21 ?_
        refine jg_goto (pc := 22) 35 dX11_within_22 rfl ?_
        exact ji_reti (pc := 35) rfl (jRc rfl) hF dX11_within_35
    · refine ji_iconst (pc := 13) dX11_within_13 ?_
      refine jg_goto (pc := 14) 35 dX11_within_14 rfl ?_
      exact ji_reti (pc := 35) rfl (jRc rfl) hF dX11_within_35
  · refine ji_iconst (pc := 5) dX11_within_5 ?_
    refine jg_goto (pc := 6) 35 dX11_within_6 rfl ?_
    exact ji_reti (pc := 35) rfl (jRc rfl) hF dX11_within_35
end

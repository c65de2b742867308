section
def bX11_open_97 (k98 : Int → Int → Int → Int → Int → Int → jMem → jO) (l1 l2 l3 l4 l6 : Int) (s0 : jMem) : jO :=
k98 l1 l2 l3 l4 l6 0 s0
def bX11_open_98 (k58 : Int → Int → Int → Int → Int → Int → jMem → jO) (l1 l2 l3 l4 l6 t0 : Int) (s0 : jMem) : jO :=
jLet (j32 (l6 + 1)) fun x1 =>
k58 l1 l2 l3 l4 t0 x1 s0
def bX11_open_58 (k106 : Int → Int → Int → Int → Int → jMem → jO) (rec : Int → Int → Int → Int → Int → Int → jMem → jO) (l1 l2 l3 l4 l5 l6 : Int) (s0 : jMem) : jO :=
if l4 ≤ l6 then (
k106 l1 l2 l3 l4 l5 s0)
else (
if l5 = 0 then (
bX11_open_97 (bX11_open_98 rec) l1 l2 l3 l4 l6 s0)
else (
jLet (j32 (34 * l1)) fun x6 =>
jLet (j32 (x6 + l3)) fun x8 =>
jLet (j32 (x8 + l6)) fun x10 =>
jGd ((0 : Int) ≤ x10 ∧ x10 < jik 56) <| jLet (s0 56 x10) fun x11 =>
jBd (fX11_within l2 l6 s0) fun x14 s15 =>
if x11 < x14 then (
bX11_open_97 (bX11_open_98 rec) l1 l2 l3 l4 l6 s15)
else (
bX11_open_98 rec l1 l2 l3 l4 l6 1 s15)))
def bX11_open_117 (k176 : Int → Int → Int → jMem → jO) (rec : Int → Int → Int → Int → Int → jMem → jO) (l1 l2 l3 l4 l6 : Int) (s0 : jMem) : jO :=
if l4 ≤ l6 then (
k176 l1 l2 l3 s0)
else (
jLet (j32 (34 * l1)) fun x5 =>
jLet (j32 (x5 + l3)) fun x7 =>
jLet (j32 (x7 + l6)) fun x9 =>
jGd ((0 : Int) ≤ x9 ∧ x9 < jik 56) <| jLet (s0 56 x9) fun x10 =>
jBd (fX11_within l2 l6 s0) fun x13 s14 =>
jLet (j32 (x10 - x13)) fun x15 =>
jGd ((0 : Int) ≤ x9 ∧ x9 < jik 56) <| jLet (jU s14 56 x9 x15) fun s16 =>
jLet (j32 (34 * l1)) fun x19 =>
jLet (j32 (x19 + l3)) fun x21 =>
jLet (j32 (x21 + l6)) fun x23 =>
jGd ((0 : Int) ≤ x23 ∧ x23 < jik 57) <| jLet (s16 57 x23) fun x24 =>
jBd (fX11_within l2 l6 s16) fun x27 s28 =>
jLet (j32 (x24 + x27)) fun x29 =>
jGd ((0 : Int) ≤ x23 ∧ x23 < jik 57) <| jLet (jU s28 57 x23 x29) fun s30 =>
jLet (j32 (l6 + 1)) fun x31 =>
rec l1 l2 l3 l4 x31 s30)
def bX11_open_176 (l1 l2 l3 : Int) (s0 : jMem) : jO :=
jLet (j32 (5 * l1)) fun x3 =>
jGd ((0 : Int) ≤ l1 ∧ l1 < jik 58) <| jLet (s0 58 l1) fun x6 =>
jLet (j32 (x3 + x6)) fun x7 =>
jLet (j32 (100 * l2)) fun x9 =>
jLet (j32 (x9 + l3)) fun x11 =>
jGd ((0 : Int) ≤ x7 ∧ x7 < jik 59) <| jLet (jU s0 59 x7 x11) fun s12 =>
jGd ((0 : Int) ≤ l1 ∧ l1 < jik 58) <| jLet (s12 58 l1) fun x15 =>
jLet (j32 (x15 + 1)) fun x16 =>
jGd ((0 : Int) ≤ l1 ∧ l1 < jik 58) <| jLet (jU s12 58 l1 x16) fun s17 =>
jGd ((0 : Int) ≤ l1 ∧ l1 < jik 58) <| jLet (s17 58 l1) fun x20 =>
jRet x20 s17
def bX11_open_106 (l1 l2 l3 l4 l5 : Int) (s0 : jMem) : jO :=
if l5 = 0 then (
jRet (-2) s0)
else (
jIt (fun _ _ _ _ _ _ => none) (bX11_open_117 bX11_open_176) 1000 l1 l2 l3 l4 0 s0)
def bX11_open_50 (l1 l2 l3 t0 : Int) (s0 : jMem) : jO :=
jIt (fun _ _ _ _ _ _ _ => none) (bX11_open_58 bX11_open_106) 1000 l1 l2 l3 t0 1 0 s0
def bX11_open_40 (l1 l2 l3 : Int) (s0 : jMem) : jO :=
if l2 = 1 then (
bX11_open_50 l1 l2 l3 3 s0)
else (
bX11_open_50 l1 l2 l3 1 s0)
def fX11_open (l1 l2 l3 : Int) (s0 : jMem) : jO :=
jBd (fX11_isHand l1 s0) fun x2 s3 =>
if x2 = 0 then (
jRet (-1) s3)
else (
jBd (fX11_in l2 1 3 s3) fun x5 s6 =>
if x5 = 0 then (
jRet (-1) s6)
else (
jBd (fX11_isSort l3 s6) fun x8 s9 =>
if x8 = 0 then (
jRet (-1) s9)
else (
if l2 = 1 then (
jBd (fX11_begins l3 s9) fun x12 s13 =>
if x12 = 0 then (
jRet (-1) s13)
else (
bX11_open_40 l1 l2 l3 s13))
else (
bX11_open_40 l1 l2 l3 s9))))
def gX11_open (vs : List Int) (s : jMem) : jO := match vs with
  | [a0, a1, a2, a3] => jGd (a0 = 53) <| fX11_open a1 a2 a3 s
  | _ => none
set_option maxRecDepth 100000 in
set_option maxHeartbeats 4000000 in
theorem obX11_open_97 {E : jEnv} {Rr : Int → jMem → Prop} {k98 : Int → Int → Int → Int → Int → Int → jMem → jO} (hk98 : ∀ (l1 l2 l3 l4 l6 t0 : Int) (s : jMem), jR 1 t0 → jHo Rr (k98 l1 l2 l3 l4 l6 t0 s) → jGo E MX11_open 2 Rr [3, 1, 1, 1, 1, 0, 1] 98 [53, l1, l2, l3, l4, 0, l6] (jV E 1 t0 :: []) s) : ∀ (l1 l2 l3 l4 l6 : Int) (s : jMem), jHo Rr (bX11_open_97 k98 l1 l2 l3 l4 l6 s) → jGo E MX11_open 2 Rr [3, 1, 1, 1, 1, 0, 1] 97 [53, l1, l2, l3, l4, 0, l6] ([]) s := by
  intro l1 l2 l3 l4 l6 s0 hF
  unfold bX11_open_97 at hF
  refine ji_iconst (pc := 97) dX11_open_97 ?_
  refine jg_norm [3, 1, 1, 1, 1, 0, 1] [53, l1, l2, l3, l4, 0, l6] rfl rfl ?_
  exact hk98 _ _ _ _ _ _ _ (jRc rfl) hF
set_option maxRecDepth 100000 in
set_option maxHeartbeats 4000000 in
theorem obX11_open_98 {E : jEnv} {Rr : Int → jMem → Prop} {k58 : Int → Int → Int → Int → Int → Int → jMem → jO} (hk58 : ∀ (l1 l2 l3 l4 l5 l6 : Int) (s : jMem), jHo Rr (k58 l1 l2 l3 l4 l5 l6 s) → jGo E MX11_open 2 Rr [3, 1, 1, 1, 1, 1, 1] 58 [53, l1, l2, l3, l4, l5, l6] ([]) s) : ∀ (l1 l2 l3 l4 l6 t0 : Int) (s : jMem), jR 1 t0 → jHo Rr (bX11_open_98 k58 l1 l2 l3 l4 l6 t0 s) → jGo E MX11_open 2 Rr [3, 1, 1, 1, 1, 0, 1] 98 [53, l1, l2, l3, l4, 0, l6] (jV E 1 t0 :: []) s := by
  intro l1 l2 l3 l4 l6 t0 s0 r_t0 hF
  unfold bX11_open_98 at hF
  refine ji_istore (n := 5) (pc := 98) [3, 1, 1, 1, 1, 1, 1] [53, l1, l2, l3, l4, t0, l6] r_t0 (Nat.le_of_ble_eq_true rfl) rfl rfl dX11_open_98 ?_
  refine ji_iinc (pc := 100) l6 (fun w => [53, l1, l2, l3, l4, t0, w]) rfl rfl rfl (fun _ => rfl) hF dX11_open_100 (fun x1 r_x1 hF => ?_)
  refine jg_goto (pc := 103) 58 dX11_open_103 rfl ?_
  refine jg_norm [3, 1, 1, 1, 1, 1, 1] [53, l1, l2, l3, l4, t0, x1] rfl rfl ?_
  exact hk58 _ _ _ _ _ _ _ hF
set_option maxRecDepth 100000 in
set_option maxHeartbeats 4000000 in
theorem obX11_open_58 {E : jEnv} {Rr : Int → jMem → Prop} {k106 : Int → Int → Int → Int → Int → jMem → jO} (hk106 : ∀ (l1 l2 l3 l4 l5 : Int) (s : jMem), jHo Rr (k106 l1 l2 l3 l4 l5 s) → jGo E MX11_open 2 Rr [3, 1, 1, 1, 1, 1, 0] 106 [53, l1, l2, l3, l4, l5, 0] ([]) s) {rec : Int → Int → Int → Int → Int → Int → jMem → jO} (hrec : ∀ (l1 l2 l3 l4 l5 l6 : Int) (s : jMem), jHo Rr (rec l1 l2 l3 l4 l5 l6 s) → jGo E MX11_open 2 Rr [3, 1, 1, 1, 1, 1, 1] 58 [53, l1, l2, l3, l4, l5, l6] ([]) s) : ∀ (l1 l2 l3 l4 l5 l6 : Int) (s : jMem), jHo Rr (bX11_open_58 k106 rec l1 l2 l3 l4 l5 l6 s) → jGo E MX11_open 2 Rr [3, 1, 1, 1, 1, 1, 1] 58 [53, l1, l2, l3, l4, l5, l6] ([]) s := by
  intro l1 l2 l3 l4 l5 l6 s0 hF
  unfold bX11_open_58 at hF
  refine ji_iload (pc := 58) l6 rfl rfl dX11_open_58 (fun r1 => ?_)
  refine ji_iload (pc := 60) l4 rfl rfl dX11_open_60 (fun r2 => ?_)
  refine ji_icmp_ge 106 (pc := 62) r1 r2 hF dX11_open_62 rfl (fun hF => ?_) (fun hF => ?_)
  · refine jg_norm [3, 1, 1, 1, 1, 1, 0] [53, l1, l2, l3, l4, l5, 0] rfl rfl ?_
    exact hk106 _ _ _ _ _ _ hF
  · refine ji_iload (pc := 65) l5 rfl rfl dX11_open_65 (fun r3 => ?_)
    refine ji_if_eq 97 (pc := 67) r3 hF dX11_open_67 rfl (fun hF => ?_) (fun hF => ?_)
    · refine jg_norm [3, 1, 1, 1, 1, 0, 1] [53, l1, l2, l3, l4, 0, l6] rfl rfl ?_
      exact obX11_open_97 (obX11_open_98 hrec) _ _ _ _ _ _ hF
    · refine ji_aload_n (n := 0) (pc := 70) 53 rfl rfl rfl dX11_open_70 (fun r4 => ?_)
      refine ji_getr (pc := 71) 56 wfX11_16 (jRc3 rfl) jcl_53 jrf_53_2 dX11_open_71 ?_
      refine jg_bipush (pc := 74) rfl dX11_open_74 ?_
      refine ji_iload_n (n := 1) (pc := 76) l1 rfl rfl rfl dX11_open_76 (fun r5 => ?_)
      refine ji_imul (pc := 77)  hF dX11_open_77 (fun x6 r_x6 hF => ?_)
      refine ji_iload_n (n := 3) (pc := 78) l3 rfl rfl rfl dX11_open_78 (fun r7 => ?_)
      refine ji_iadd (pc := 79)  hF dX11_open_79 (fun x8 r_x8 hF => ?_)
      refine ji_iload (pc := 80) l6 rfl rfl dX11_open_80 (fun r9 => ?_)
      refine ji_iadd (pc := 82)  hF dX11_open_82 (fun x10 r_x10 hF => ?_)
      refine ji_iaload (pc := 83) (jRc3 rfl) r_x10 hF dX11_open_83 (fun x11 r_x11 hF => ?_)
      refine ji_iload_n (n := 2) (pc := 84) l2 rfl rfl rfl dX11_open_84 (fun r12 => ?_)
      refine ji_iload (pc := 85) l6 rfl rfl dX11_open_85 (fun r13 => ?_)
      refine ji_callSi (pc := 87) [l2, l6] (jV E 1 x11 :: []) oX11_within wlX11_144 wmX11_within rfl rfl (Nat.le_of_ble_eq_true rfl) (jRaC r12 (jRaC r13 jRa0)) rfl rfl (Nat.le_of_ble_eq_true rfl) hF dX11_open_87 (fun x14 s15 r_x14 hF => ?_)
      refine ji_icmp_lt 97 (pc := 90) r_x11 r_x14 hF dX11_open_90 rfl (fun hF => ?_) (fun hF => ?_)
      · refine jg_norm [3, 1, 1, 1, 1, 0, 1] [53, l1, l2, l3, l4, 0, l6] rfl rfl ?_
        exact obX11_open_97 (obX11_open_98 hrec) _ _ _ _ _ _ hF
      · refine ji_iconst (pc := 93) dX11_open_93 ?_
        refine jg_goto (pc := 94) 98 dX11_open_94 rfl ?_
        refine jg_norm [3, 1, 1, 1, 1, 0, 1] [53, l1, l2, l3, l4, 0, l6] rfl rfl ?_
        exact obX11_open_98 hrec _ _ _ _ _ _ _ (jRc rfl) hF
theorem obX11_open_58W {E : jEnv} {Rr : Int → jMem → Prop} {k106 : Int → Int → Int → Int → Int → jMem → jO} (hk106 : ∀ (l1 l2 l3 l4 l5 : Int) (s : jMem), jHo Rr (k106 l1 l2 l3 l4 l5 s) → jGo E MX11_open 2 Rr [3, 1, 1, 1, 1, 1, 0] 106 [53, l1, l2, l3, l4, l5, 0] ([]) s) : ∀ n : Nat, ∀ (l1 l2 l3 l4 l5 l6 : Int) (s : jMem), jHo Rr (jIt (fun _ _ _ _ _ _ _ => none) (bX11_open_58 k106) n l1 l2 l3 l4 l5 l6 s) → jGo E MX11_open 2 Rr [3, 1, 1, 1, 1, 1, 1] 58 [53, l1, l2, l3, l4, l5, l6] ([]) s := by
  intro n
  induction n with
  | zero => intro l1 l2 l3 l4 l5 l6 s hF; exact jHo_none hF
  | succ n ih => exact obX11_open_58 hk106 ih

set_option maxRecDepth 100000 in
set_option maxHeartbeats 4000000 in
theorem obX11_open_117 {E : jEnv} {Rr : Int → jMem → Prop} {k176 : Int → Int → Int → jMem → jO} (hk176 : ∀ (l1 l2 l3 : Int) (s : jMem), jHo Rr (k176 l1 l2 l3 s) → jGo E MX11_open 2 Rr [3, 1, 1, 1, 0, 0, 0] 176 [53, l1, l2, l3, 0, 0, 0] ([]) s) {rec : Int → Int → Int → Int → Int → jMem → jO} (hrec : ∀ (l1 l2 l3 l4 l6 : Int) (s : jMem), jHo Rr (rec l1 l2 l3 l4 l6 s) → jGo E MX11_open 2 Rr [3, 1, 1, 1, 1, 0, 1] 117 [53, l1, l2, l3, l4, 0, l6] ([]) s) : ∀ (l1 l2 l3 l4 l6 : Int) (s : jMem), jHo Rr (bX11_open_117 k176 rec l1 l2 l3 l4 l6 s) → jGo E MX11_open 2 Rr [3, 1, 1, 1, 1, 0, 1] 117 [53, l1, l2, l3, l4, 0, l6] ([]) s := by
  intro l1 l2 l3 l4 l6 s0 hF
  unfold bX11_open_117 at hF
  refine ji_iload (pc := 117) l6 rfl rfl dX11_open_117 (fun r1 => ?_)
  refine ji_iload (pc := 119) l4 rfl rfl dX11_open_119 (fun r2 => ?_)
  refine ji_icmp_ge 176 (pc := 121) r1 r2 hF dX11_open_121 rfl (fun hF => ?_) (fun hF => ?_)
  · refine jg_norm [3, 1, 1, 1, 0, 0, 0] [53, l1, l2, l3, 0, 0, 0] rfl rfl ?_
    exact hk176 _ _ _ _ hF
  · refine ji_aload_n (n := 0) (pc := 124) 53 rfl rfl rfl dX11_open_124 (fun r3 => ?_)
    refine ji_getr (pc := 125) 56 wfX11_16 (jRc3 rfl) jcl_53 jrf_53_2 dX11_open_125 ?_
    refine jg_bipush (pc := 128) rfl dX11_open_128 ?_
    refine ji_iload_n (n := 1) (pc := 130) l1 rfl rfl rfl dX11_open_130 (fun r4 => ?_)
    refine ji_imul (pc := 131)  hF dX11_open_131 (fun x5 r_x5 hF => ?_)
    refine ji_iload_n (n := 3) (pc := 132) l3 rfl rfl rfl dX11_open_132 (fun r6 => ?_)
    refine ji_iadd (pc := 133)  hF dX11_open_133 (fun x7 r_x7 hF => ?_)
    refine ji_iload (pc := 134) l6 rfl rfl dX11_open_134 (fun r8 => ?_)
    refine ji_iadd (pc := 136)  hF dX11_open_136 (fun x9 r_x9 hF => ?_)
    refine jg_dup2 (pc := 137) (by decide) (by decide) dX11_open_137 ?_
    refine ji_iaload (pc := 138) (jRc3 rfl) r_x9 hF dX11_open_138 (fun x10 r_x10 hF => ?_)
    refine ji_iload_n (n := 2) (pc := 139) l2 rfl rfl rfl dX11_open_139 (fun r11 => ?_)
    refine ji_iload (pc := 140) l6 rfl rfl dX11_open_140 (fun r12 => ?_)
    refine ji_callSi (pc := 142) [l2, l6] (jV E 1 x10 :: jV E 1 x9 :: jV E 3 56 :: []) oX11_within wlX11_144 wmX11_within rfl rfl (Nat.le_of_ble_eq_true rfl) (jRaC r11 (jRaC r12 jRa0)) rfl rfl (Nat.le_of_ble_eq_true rfl) hF dX11_open_142 (fun x13 s14 r_x13 hF => ?_)
    refine ji_isub (pc := 145)  hF dX11_open_145 (fun x15 r_x15 hF => ?_)
    refine ji_iastore (pc := 146) (jRc3 rfl) r_x9 r_x15 hF dX11_open_146 (fun s16 hF => ?_)
    refine ji_aload_n (n := 0) (pc := 147) 53 rfl rfl rfl dX11_open_147 (fun r17 => ?_)
    refine ji_getr (pc := 148) 57 wfX11_19 (jRc3 rfl) jcl_53 jrf_53_3 dX11_open_148 ?_
    refine jg_bipush (pc := 151) rfl dX11_open_151 ?_
    refine ji_iload_n (n := 1) (pc := 153) l1 rfl rfl rfl dX11_open_153 (fun r18 => ?_)
    refine ji_imul (pc := 154)  hF dX11_open_154 (fun x19 r_x19 hF => ?_)
    refine ji_iload_n (n := 3) (pc := 155) l3 rfl rfl rfl dX11_open_155 (fun r20 => ?_)
    refine ji_iadd (pc := 156)  hF dX11_open_156 (fun x21 r_x21 hF => ?_)
    refine ji_iload (pc := 157) l6 rfl rfl dX11_open_157 (fun r22 => ?_)
    refine ji_iadd (pc := 159)  hF dX11_open_159 (fun x23 r_x23 hF => ?_)
    refine jg_dup2 (pc := 160) (by decide) (by decide) dX11_open_160 ?_
    refine ji_iaload (pc := 161) (jRc3 rfl) r_x23 hF dX11_open_161 (fun x24 r_x24 hF => ?_)
    refine ji_iload_n (n := 2) (pc := 162) l2 rfl rfl rfl dX11_open_162 (fun r25 => ?_)
    refine ji_iload (pc := 163) l6 rfl rfl dX11_open_163 (fun r26 => ?_)
    refine ji_callSi (pc := 165) [l2, l6] (jV E 1 x24 :: jV E 1 x23 :: jV E 3 57 :: []) oX11_within wlX11_144 wmX11_within rfl rfl (Nat.le_of_ble_eq_true rfl) (jRaC r25 (jRaC r26 jRa0)) rfl rfl (Nat.le_of_ble_eq_true rfl) hF dX11_open_165 (fun x27 s28 r_x27 hF => ?_)
    refine ji_iadd (pc := 168)  hF dX11_open_168 (fun x29 r_x29 hF => ?_)
    refine ji_iastore (pc := 169) (jRc3 rfl) r_x23 r_x29 hF dX11_open_169 (fun s30 hF => ?_)
    refine ji_iinc (pc := 170) l6 (fun w => [53, l1, l2, l3, l4, 0, w]) rfl rfl rfl (fun _ => rfl) hF dX11_open_170 (fun x31 r_x31 hF => ?_)
    refine jg_goto (pc := 173) 117 dX11_open_173 rfl ?_
    refine jg_norm [3, 1, 1, 1, 1, 0, 1] [53, l1, l2, l3, l4, 0, x31] rfl rfl ?_
    exact hrec _ _ _ _ _ _ hF
theorem obX11_open_117W {E : jEnv} {Rr : Int → jMem → Prop} {k176 : Int → Int → Int → jMem → jO} (hk176 : ∀ (l1 l2 l3 : Int) (s : jMem), jHo Rr (k176 l1 l2 l3 s) → jGo E MX11_open 2 Rr [3, 1, 1, 1, 0, 0, 0] 176 [53, l1, l2, l3, 0, 0, 0] ([]) s) : ∀ n : Nat, ∀ (l1 l2 l3 l4 l6 : Int) (s : jMem), jHo Rr (jIt (fun _ _ _ _ _ _ => none) (bX11_open_117 k176) n l1 l2 l3 l4 l6 s) → jGo E MX11_open 2 Rr [3, 1, 1, 1, 1, 0, 1] 117 [53, l1, l2, l3, l4, 0, l6] ([]) s := by
  intro n
  induction n with
  | zero => intro l1 l2 l3 l4 l6 s hF; exact jHo_none hF
  | succ n ih => exact obX11_open_117 hk176 ih

set_option maxRecDepth 100000 in
set_option maxHeartbeats 4000000 in
theorem obX11_open_176 {E : jEnv} {Rr : Int → jMem → Prop} : ∀ (l1 l2 l3 : Int) (s : jMem), jHo Rr (bX11_open_176 l1 l2 l3 s) → jGo E MX11_open 2 Rr [3, 1, 1, 1, 0, 0, 0] 176 [53, l1, l2, l3, 0, 0, 0] ([]) s := by
  intro l1 l2 l3 s0 hF
  unfold bX11_open_176 at hF
  refine ji_aload_n (n := 0) (pc := 176) 53 rfl rfl rfl dX11_open_176 (fun r1 => ?_)
  refine ji_getr (pc := 177) 59 wfX11_25 (jRc3 rfl) jcl_53 jrf_53_5 dX11_open_177 ?_
  refine ji_iconst (pc := 180) dX11_open_180 ?_
  refine ji_iload_n (n := 1) (pc := 181) l1 rfl rfl rfl dX11_open_181 (fun r2 => ?_)
  refine ji_imul (pc := 182)  hF dX11_open_182 (fun x3 r_x3 hF => ?_)
  refine ji_aload_n (n := 0) (pc := 183) 53 rfl rfl rfl dX11_open_183 (fun r4 => ?_)
  refine ji_getr (pc := 184) 58 wfX11_22 (jRc3 rfl) jcl_53 jrf_53_4 dX11_open_184 ?_
  refine ji_iload_n (n := 1) (pc := 187) l1 rfl rfl rfl dX11_open_187 (fun r5 => ?_)
  refine ji_iaload (pc := 188) (jRc3 rfl) r5 hF dX11_open_188 (fun x6 r_x6 hF => ?_)
  refine ji_iadd (pc := 189)  hF dX11_open_189 (fun x7 r_x7 hF => ?_)
  refine jg_bipush (pc := 190) rfl dX11_open_190 ?_
  refine ji_iload_n (n := 2) (pc := 192) l2 rfl rfl rfl dX11_open_192 (fun r8 => ?_)
  refine ji_imul (pc := 193)  hF dX11_open_193 (fun x9 r_x9 hF => ?_)
  refine ji_iload_n (n := 3) (pc := 194) l3 rfl rfl rfl dX11_open_194 (fun r10 => ?_)
  refine ji_iadd (pc := 195)  hF dX11_open_195 (fun x11 r_x11 hF => ?_)
  refine ji_iastore (pc := 196) (jRc3 rfl) r_x7 r_x11 hF dX11_open_196 (fun s12 hF => ?_)
  refine ji_aload_n (n := 0) (pc := 197) 53 rfl rfl rfl dX11_open_197 (fun r13 => ?_)
  refine ji_getr (pc := 198) 58 wfX11_22 (jRc3 rfl) jcl_53 jrf_53_4 dX11_open_198 ?_
  refine ji_iload_n (n := 1) (pc := 201) l1 rfl rfl rfl dX11_open_201 (fun r14 => ?_)
  refine jg_dup2 (pc := 202) (by decide) (by decide) dX11_open_202 ?_
  refine ji_iaload (pc := 203) (jRc3 rfl) r14 hF dX11_open_203 (fun x15 r_x15 hF => ?_)
  refine ji_iconst (pc := 204) dX11_open_204 ?_
  refine ji_iadd (pc := 205)  hF dX11_open_205 (fun x16 r_x16 hF => ?_)
  refine ji_iastore (pc := 206) (jRc3 rfl) r14 r_x16 hF dX11_open_206 (fun s17 hF => ?_)
  refine ji_aload_n (n := 0) (pc := 207) 53 rfl rfl rfl dX11_open_207 (fun r18 => ?_)
  refine ji_getr (pc := 208) 58 wfX11_22 (jRc3 rfl) jcl_53 jrf_53_4 dX11_open_208 ?_
  refine ji_iload_n (n := 1) (pc := 211) l1 rfl rfl rfl dX11_open_211 (fun r19 => ?_)
  refine ji_iaload (pc := 212) (jRc3 rfl) r19 hF dX11_open_212 (fun x20 r_x20 hF => ?_)
  exact ji_reti (pc := 213) rfl r_x20 hF dX11_open_213
set_option maxRecDepth 100000 in
set_option maxHeartbeats 4000000 in
theorem obX11_open_106 {E : jEnv} {Rr : Int → jMem → Prop} : ∀ (l1 l2 l3 l4 l5 : Int) (s : jMem), jHo Rr (bX11_open_106 l1 l2 l3 l4 l5 s) → jGo E MX11_open 2 Rr [3, 1, 1, 1, 1, 1, 0] 106 [53, l1, l2, l3, l4, l5, 0] ([]) s := by
  intro l1 l2 l3 l4 l5 s0 hF
  unfold bX11_open_106 at hF
  refine ji_iload (pc := 106) l5 rfl rfl dX11_open_106 (fun r1 => ?_)
  refine ji_if_ne 114 (pc := 108) r1 hF dX11_open_108 rfl (fun hF => ?_) (fun hF => ?_)
  · refine ji_iconst (pc := 114) dX11_open_114 ?_
    refine ji_istore (n := 6) (pc := 115) [3, 1, 1, 1, 1, 1, 1] [53, l1, l2, l3, l4, l5, 0] (jRc rfl) (Nat.le_of_ble_eq_true rfl) rfl rfl dX11_open_115 ?_
    refine jg_norm [3, 1, 1, 1, 1, 0, 1] [53, l1, l2, l3, l4, 0, 0] rfl rfl ?_
    exact obX11_open_117W obX11_open_176 1000 _ _ _ _ _ _ hF
  · refine jg_bipush (pc := 111) rfl dX11_open_111 ?_
    exact ji_reti (pc := 113) rfl (jRc rfl) hF dX11_open_113
set_option maxRecDepth 100000 in
set_option maxHeartbeats 4000000 in
theorem obX11_open_50 {E : jEnv} {Rr : Int → jMem → Prop} : ∀ (l1 l2 l3 t0 : Int) (s : jMem), jR 1 t0 → jHo Rr (bX11_open_50 l1 l2 l3 t0 s) → jGo E MX11_open 2 Rr [3, 1, 1, 1, 0, 0, 0] 50 [53, l1, l2, l3, 0, 0, 0] (jV E 1 t0 :: []) s := by
  intro l1 l2 l3 t0 s0 r_t0 hF
  unfold bX11_open_50 at hF
  refine ji_istore (n := 4) (pc := 50) [3, 1, 1, 1, 1, 0, 0] [53, l1, l2, l3, t0, 0, 0] r_t0 (Nat.le_of_ble_eq_true rfl) rfl rfl dX11_open_50 ?_
  refine ji_iconst (pc := 52) dX11_open_52 ?_
  refine ji_istore (n := 5) (pc := 53) [3, 1, 1, 1, 1, 1, 0] [53, l1, l2, l3, t0, 1, 0] (jRc rfl) (Nat.le_of_ble_eq_true rfl) rfl rfl dX11_open_53 ?_
  refine ji_iconst (pc := 55) dX11_open_55 ?_
  refine ji_istore (n := 6) (pc := 56) [3, 1, 1, 1, 1, 1, 1] [53, l1, l2, l3, t0, 1, 0] (jRc rfl) (Nat.le_of_ble_eq_true rfl) rfl rfl dX11_open_56 ?_
  refine jg_norm [3, 1, 1, 1, 1, 1, 1] [53, l1, l2, l3, t0, 1, 0] rfl rfl ?_
  exact obX11_open_58W obX11_open_106 1000 _ _ _ _ _ _ _ hF
set_option maxRecDepth 100000 in
set_option maxHeartbeats 4000000 in
theorem obX11_open_40 {E : jEnv} {Rr : Int → jMem → Prop} : ∀ (l1 l2 l3 : Int) (s : jMem), jHo Rr (bX11_open_40 l1 l2 l3 s) → jGo E MX11_open 2 Rr [3, 1, 1, 1, 0, 0, 0] 40 [53, l1, l2, l3, 0, 0, 0] ([]) s := by
  intro l1 l2 l3 s0 hF
  unfold bX11_open_40 at hF
  refine ji_iload_n (n := 2) (pc := 40) l2 rfl rfl rfl dX11_open_40 (fun r1 => ?_)
  refine ji_iconst (pc := 41) dX11_open_41 ?_
  refine ji_icmp_ne 49 (pc := 42) r1 (jRc rfl) hF dX11_open_42 rfl (fun hF => ?_) (fun hF => ?_)
  · refine ji_iconst (pc := 49) dX11_open_49 ?_
    refine jg_norm [3, 1, 1, 1, 0, 0, 0] [53, l1, l2, l3, 0, 0, 0] rfl rfl ?_
    exact obX11_open_50 _ _ _ _ _ (jRc rfl) hF
  · refine ji_iconst (pc := 45) dX11_open_45 ?_
    refine jg_goto (pc := 46) 50 dX11_open_46 rfl ?_
    refine jg_norm [3, 1, 1, 1, 0, 0, 0] [53, l1, l2, l3, 0, 0, 0] rfl rfl ?_
    exact obX11_open_50 _ _ _ _ _ (jRc rfl) hF
set_option maxRecDepth 100000 in
set_option maxHeartbeats 4000000 in
theorem oX11_open : jOk MX11_open [3, 1, 1, 1] 2 (jFn gX11_open) := by
  refine jOk_fn (by decide +kernel) (Nat.le_of_ble_eq_true rfl) (by decide +kernel) (.inr (.inl rfl)) ?_
  intro E vs s0 Rr hF ha
  obtain ⟨l0, t0, rfl, r_l0, ha⟩ := jRa_ci ha
  obtain ⟨l1, t1, rfl, r_l1, ha⟩ := jRa_ci ha
  obtain ⟨l2, t2, rfl, r_l2, ha⟩ := jRa_ci ha
  obtain ⟨l3, t3, rfl, r_l3, ha⟩ := jRa_ci ha
  obtain rfl := jRa_ni ha
  replace hF : jHo Rr (jGd (l0 = 53) <| fX11_open l1 l2 l3 s0) := hF
  have hG := jHo_as hF
  clear hF
  obtain ⟨rfl, hF⟩ := hG
  refine jg_norm [3, 1, 1, 1, 0, 0, 0] [53, l1, l2, l3, 0, 0, 0] rfl rfl ?_
  unfold fX11_open at hF
  refine ji_iload_n (n := 1) (pc := 0) l1 rfl rfl rfl dX11_open_0 (fun r1 => ?_)
  refine ji_callSz (pc := 1) [l1] ([]) oX11_isHand wlX11_114 wmX11_isHand rfl rfl (Nat.le_of_ble_eq_true rfl) (jRaC r1 jRa0) rfl rfl (Nat.le_of_ble_eq_true rfl) hF dX11_open_1 (fun x2 s3 r_x2 hF => ?_)
  refine ji_if_eq 38 (pc := 4) (jR51 r_x2) hF dX11_open_4 rfl (fun hF => ?_) (fun hF => ?_)
  · refine ji_iconst (pc := 38) dX11_open_38 ?_
    exact ji_reti (pc := 39) rfl (jRc rfl) hF dX11_open_39
  · refine ji_iload_n (n := 2) (pc := 7) l2 rfl rfl rfl dX11_open_7 (fun r4 => ?_)
    refine jg_i2l (pc := 8) r4 dX11_open_8 ?_
    refine jg_lconst (n := 1) (pc := 9) rfl dX11_open_9 ?_
    refine jg_ldc2 (n := 3) (pc := 10) wnX11_84 dX11_open_10 ?_
    refine ji_callSz (pc := 13) [l2, 1, 3] ([]) oX11_in wlX11_86 wmX11_in rfl rfl (Nat.le_of_ble_eq_true rfl) (jRaC (jR12 r4) (jRaC (jRc2 rfl) (jRaC (jRc2 rfl) jRa0))) rfl rfl (Nat.le_of_ble_eq_true rfl) hF dX11_open_13 (fun x5 s6 r_x5 hF => ?_)
    refine ji_if_eq 38 (pc := 16) (jR51 r_x5) hF dX11_open_16 rfl (fun hF => ?_) (fun hF => ?_)
    · refine ji_iconst (pc := 38) dX11_open_38 ?_
      exact ji_reti (pc := 39) rfl (jRc rfl) hF dX11_open_39
    · refine ji_iload_n (n := 3) (pc := 19) l3 rfl rfl rfl dX11_open_19 (fun r7 => ?_)
      refine ji_callSz (pc := 20) [l3] ([]) oX11_isSort wlX11_120 wmX11_isSort rfl rfl (Nat.le_of_ble_eq_true rfl) (jRaC r7 jRa0) rfl rfl (Nat.le_of_ble_eq_true rfl) hF dX11_open_20 (fun x8 s9 r_x8 hF => ?_)
      refine ji_if_eq 38 (pc := 23) (jR51 r_x8) hF dX11_open_23 rfl (fun hF => ?_) (fun hF => ?_)
      · refine ji_iconst (pc := 38) dX11_open_38 ?_
        exact ji_reti (pc := 39) rfl (jRc rfl) hF dX11_open_39
      · refine ji_iload_n (n := 2) (pc := 26) l2 rfl rfl rfl dX11_open_26 (fun r10 => ?_)
        refine ji_iconst (pc := 27) dX11_open_27 ?_
        refine ji_icmp_ne 40 (pc := 28) r10 (jRc rfl) hF dX11_open_28 rfl (fun hF => ?_) (fun hF => ?_)
        · refine jg_norm [3, 1, 1, 1, 0, 0, 0] [53, l1, l2, l3, 0, 0, 0] rfl rfl ?_
          exact obX11_open_40 _ _ _ _ hF
        · refine ji_iload_n (n := 3) (pc := 31) l3 rfl rfl rfl dX11_open_31 (fun r11 => ?_)
          refine ji_callSz (pc := 32) [l3] ([]) oX11_begins wlX11_141 wmX11_begins rfl rfl (Nat.le_of_ble_eq_true rfl) (jRaC r11 jRa0) rfl rfl (Nat.le_of_ble_eq_true rfl) hF dX11_open_32 (fun x12 s13 r_x12 hF => ?_)
          refine ji_if_ne 40 (pc := 35) (jR51 r_x12) hF dX11_open_35 rfl (fun hF => ?_) (fun hF => ?_)
          · refine jg_norm [3, 1, 1, 1, 0, 0, 0] [53, l1, l2, l3, 0, 0, 0] rfl rfl ?_
            exact obX11_open_40 _ _ _ _ hF
          · refine ji_iconst (pc := 38) dX11_open_38 ?_
            exact ji_reti (pc := 39) rfl (jRc rfl) hF dX11_open_39
def fX11_clear (l1 : Int) (s0 : jMem) : jO :=
jBd (fX11_isHand l1 s0) fun x2 s3 =>
if x2 = 0 then (
jRet (-1) s3)
else (
jBd (fX11_gather l1 s3) fun x6 s7 =>
jRet x6 s7)
def gX11_clear (vs : List Int) (s : jMem) : jO := match vs with
  | [a0, a1] => jGd (a0 = 53) <| fX11_clear a1 s
  | _ => none
set_option maxRecDepth 100000 in
set_option maxHeartbeats 4000000 in
theorem oX11_clear : jOk MX11_clear [3, 1] 2 (jFn gX11_clear) := by
  refine jOk_fn (by decide +kernel) (Nat.le_of_ble_eq_true rfl) (by decide +kernel) (.inr (.inl rfl)) ?_
  intro E vs s0 Rr hF ha
  obtain ⟨l0, t0, rfl, r_l0, ha⟩ := jRa_ci ha
  obtain ⟨l1, t1, rfl, r_l1, ha⟩ := jRa_ci ha
  obtain rfl := jRa_ni ha
  replace hF : jHo Rr (jGd (l0 = 53) <| fX11_clear l1 s0) := hF
  have hG := jHo_as hF
  clear hF
  obtain ⟨rfl, hF⟩ := hG
  refine jg_norm [3, 1] [53, l1] rfl rfl ?_
  unfold fX11_clear at hF
  refine ji_iload_n (n := 1) (pc := 0) l1 rfl rfl rfl dX11_clear_0 (fun r1 => ?_)
  refine ji_callSz (pc := 1) [l1] ([]) oX11_isHand wlX11_114 wmX11_isHand rfl rfl (Nat.le_of_ble_eq_true rfl) (jRaC r1 jRa0) rfl rfl (Nat.le_of_ble_eq_true rfl) hF dX11_clear_1 (fun x2 s3 r_x2 hF => ?_)
  refine ji_if_eq 15 (pc := 4) (jR51 r_x2) hF dX11_clear_4 rfl (fun hF => ?_) (fun hF => ?_)
  · refine ji_iconst (pc := 15) dX11_clear_15 ?_
    exact ji_reti (pc := 16) rfl (jRc rfl) hF dX11_clear_16
  · refine ji_aload_n (n := 0) (pc := 7) 53 rfl rfl rfl dX11_clear_7 (fun r4 => ?_)
    refine ji_iload_n (n := 1) (pc := 8) l1 rfl rfl rfl dX11_clear_8 (fun r5 => ?_)
    refine ji_callVi (pc := 9) 53 [l1] ([]) oX11_gather wlX11_138 wmX11_gather rfl rfl (Nat.le_of_ble_eq_true rfl) (jRaC (jRc3 rfl) (jRaC r5 jRa0)) rfl jcl_53 rfl (Nat.le_of_ble_eq_true rfl) hF dX11_clear_9 (fun x6 s7 r_x6 hF => ?_)
    refine jg_goto (pc := 12) 16 dX11_clear_12 rfl ?_
    exact ji_reti (pc := 16) rfl r_x6 hF dX11_clear_16
def fX11_tiles (l1 l2 : Int) (s0 : jMem) : jO :=
jBd (fX11_isSort l1 s0) fun x2 s3 =>
if x2 = 0 then (
jRet (-1) s3)
else (
jBd (fX11_in l2 0 9 s3) fun x5 s6 =>
if x5 = 0 then (
jRet (-1) s6)
else (
if l2 = 0 then (
jGd ((0 : Int) ≤ l1 ∧ l1 < jik 54) <| jLet (s6 54 l1) fun x29 =>
jRet x29 s6)
else (
if l2 = 1 then (
jGd ((0 : Int) ≤ l1 ∧ l1 < jik 55) <| jLet (s6 55 l1) fun x26 =>
jRet x26 s6)
else (
if 6 ≤ l2 then (
jLet (j32 (l2 - 6)) fun x12 =>
jLet (j32 (34 * x12)) fun x13 =>
jLet (j32 (x13 + l1)) fun x15 =>
jGd ((0 : Int) ≤ x15 ∧ x15 < jik 57) <| jLet (s6 57 x15) fun x16 =>
jRet x16 s6)
else (
jLet (j32 (l2 - 2)) fun x19 =>
jLet (j32 (34 * x19)) fun x20 =>
jLet (j32 (x20 + l1)) fun x22 =>
jGd ((0 : Int) ≤ x22 ∧ x22 < jik 56) <| jLet (s6 56 x22) fun x23 =>
jRet x23 s6)))))
def gX11_tiles (vs : List Int) (s : jMem) : jO := match vs with
  | [a0, a1, a2] => jGd (a0 = 53) <| fX11_tiles a1 a2 s
  | _ => none
set_option maxRecDepth 100000 in
set_option maxHeartbeats 4000000 in
theorem oX11_tiles : jOk MX11_tiles [3, 1, 1] 2 (jFn gX11_tiles) := by
  refine jOk_fn (by decide +kernel) (Nat.le_of_ble_eq_true rfl) (by decide +kernel) (.inr (.inl rfl)) ?_
  intro E vs s0 Rr hF ha
  obtain ⟨l0, t0, rfl, r_l0, ha⟩ := jRa_ci ha
  obtain ⟨l1, t1, rfl, r_l1, ha⟩ := jRa_ci ha
  obtain ⟨l2, t2, rfl, r_l2, ha⟩ := jRa_ci ha
  obtain rfl := jRa_ni ha
  replace hF : jHo Rr (jGd (l0 = 53) <| fX11_tiles l1 l2 s0) := hF
  have hG := jHo_as hF
  clear hF
  obtain ⟨rfl, hF⟩ := hG
  refine jg_norm [3, 1, 1] [53, l1, l2] rfl rfl ?_
  unfold fX11_tiles at hF
  refine ji_iload_n (n := 1) (pc := 0) l1 rfl rfl rfl dX11_tiles_0 (fun r1 => ?_)
  refine ji_callSz (pc := 1) [l1] ([]) oX11_isSort wlX11_120 wmX11_isSort rfl rfl (Nat.le_of_ble_eq_true rfl) (jRaC r1 jRa0) rfl rfl (Nat.le_of_ble_eq_true rfl) hF dX11_tiles_1 (fun x2 s3 r_x2 hF => ?_)
  refine ji_if_eq 19 (pc := 4) (jR51 r_x2) hF dX11_tiles_4 rfl (fun hF => ?_) (fun hF => ?_)
  · refine ji_iconst (pc := 19) dX11_tiles_19 ?_
    exact ji_reti (pc := 20) rfl (jRc rfl) hF dX11_tiles_20
  · refine ji_iload_n (n := 2) (pc := 7) l2 rfl rfl rfl dX11_tiles_7 (fun r4 => ?_)
    refine jg_i2l (pc := 8) r4 dX11_tiles_8 ?_
    refine jg_lconst (n := 0) (pc := 9) rfl dX11_tiles_9 ?_
    refine jg_ldc2 (n := 9) (pc := 10) wnX11_147 dX11_tiles_10 ?_
    refine ji_callSz (pc := 13) [l2, 0, 9] ([]) oX11_in wlX11_86 wmX11_in rfl rfl (Nat.le_of_ble_eq_true rfl) (jRaC (jR12 r4) (jRaC (jRc2 rfl) (jRaC (jRc2 rfl) jRa0))) rfl rfl (Nat.le_of_ble_eq_true rfl) hF dX11_tiles_13 (fun x5 s6 r_x5 hF => ?_)
    refine ji_if_ne 21 (pc := 16) (jR51 r_x5) hF dX11_tiles_16 rfl (fun hF => ?_) (fun hF => ?_)
    · refine ji_iload_n (n := 2) (pc := 21) l2 rfl rfl rfl dX11_tiles_21 (fun r7 => ?_)
      refine ji_if_ne 34 (pc := 22) r7 hF dX11_tiles_22 rfl (fun hF => ?_) (fun hF => ?_)
      · refine ji_iload_n (n := 2) (pc := 34) l2 rfl rfl rfl dX11_tiles_34 (fun r8 => ?_)
        refine ji_iconst (pc := 35) dX11_tiles_35 ?_
        refine ji_icmp_ne 48 (pc := 36) r8 (jRc rfl) hF dX11_tiles_36 rfl (fun hF => ?_) (fun hF => ?_)
        · refine ji_iload_n (n := 2) (pc := 48) l2 rfl rfl rfl dX11_tiles_48 (fun r9 => ?_)
          refine jg_bipush (pc := 49) rfl dX11_tiles_49 ?_
          refine ji_icmp_ge 70 (pc := 51) r9 (jRc rfl) hF dX11_tiles_51 rfl (fun hF => ?_) (fun hF => ?_)
          · refine ji_aload_n (n := 0) (pc := 70) 53 rfl rfl rfl dX11_tiles_70 (fun r10 => ?_)
            refine ji_getr (pc := 71) 57 wfX11_19 (jRc3 rfl) jcl_53 jrf_53_3 dX11_tiles_71 ?_
            refine jg_bipush (pc := 74) rfl dX11_tiles_74 ?_
            refine ji_iload_n (n := 2) (pc := 76) l2 rfl rfl rfl dX11_tiles_76 (fun r11 => ?_)
            refine jg_bipush (pc := 77) rfl dX11_tiles_77 ?_
            refine ji_isub (pc := 79)  hF dX11_tiles_79 (fun x12 r_x12 hF => ?_)
            refine ji_imul (pc := 80)  hF dX11_tiles_80 (fun x13 r_x13 hF => ?_)
            refine ji_iload_n (n := 1) (pc := 81) l1 rfl rfl rfl dX11_tiles_81 (fun r14 => ?_)
            refine ji_iadd (pc := 82)  hF dX11_tiles_82 (fun x15 r_x15 hF => ?_)
            refine ji_iaload (pc := 83) (jRc3 rfl) r_x15 hF dX11_tiles_83 (fun x16 r_x16 hF => ?_)
            exact ji_reti (pc := 84) rfl r_x16 hF dX11_tiles_84
          · refine ji_aload_n (n := 0) (pc := 54) 53 rfl rfl rfl dX11_tiles_54 (fun r17 => ?_)
            refine ji_getr (pc := 55) 56 wfX11_16 (jRc3 rfl) jcl_53 jrf_53_2 dX11_tiles_55 ?_
            refine jg_bipush (pc := 58) rfl dX11_tiles_58 ?_
            refine ji_iload_n (n := 2) (pc := 60) l2 rfl rfl rfl dX11_tiles_60 (fun r18 => ?_)
            refine ji_iconst (pc := 61) dX11_tiles_61 ?_
            refine ji_isub (pc := 62)  hF dX11_tiles_62 (fun x19 r_x19 hF => ?_)
            refine ji_imul (pc := 63)  hF dX11_tiles_63 (fun x20 r_x20 hF => ?_)
            refine ji_iload_n (n := 1) (pc := 64) l1 rfl rfl rfl dX11_tiles_64 (fun r21 => ?_)
            refine ji_iadd (pc := 65)  hF dX11_tiles_65 (fun x22 r_x22 hF => ?_)
            refine ji_iaload (pc := 66) (jRc3 rfl) r_x22 hF dX11_tiles_66 (fun x23 r_x23 hF => ?_)
            refine jg_goto (pc := 67) 84 dX11_tiles_67 rfl ?_
            exact ji_reti (pc := 84) rfl r_x23 hF dX11_tiles_84
        · refine ji_aload_n (n := 0) (pc := 39) 53 rfl rfl rfl dX11_tiles_39 (fun r24 => ?_)
          refine ji_getr (pc := 40) 55 wfX11_13 (jRc3 rfl) jcl_53 jrf_53_1 dX11_tiles_40 ?_
          refine ji_iload_n (n := 1) (pc := 43) l1 rfl rfl rfl dX11_tiles_43 (fun r25 => ?_)
          refine ji_iaload (pc := 44) (jRc3 rfl) r25 hF dX11_tiles_44 (fun x26 r_x26 hF => ?_)
          refine jg_goto (pc := 45) 84 dX11_tiles_45 rfl ?_
          exact ji_reti (pc := 84) rfl r_x26 hF dX11_tiles_84
      · refine ji_aload_n (n := 0) (pc := 25) 53 rfl rfl rfl dX11_tiles_25 (fun r27 => ?_)
        refine ji_getr (pc := 26) 54 wfX11_7 (jRc3 rfl) jcl_53 jrf_53_0 dX11_tiles_26 ?_
        refine ji_iload_n (n := 1) (pc := 29) l1 rfl rfl rfl dX11_tiles_29 (fun r28 => ?_)
        refine ji_iaload (pc := 30) (jRc3 rfl) r28 hF dX11_tiles_30 (fun x29 r_x29 hF => ?_)
        refine jg_goto (pc := 31) 84 dX11_tiles_31 rfl ?_
        exact ji_reti (pc := 84) rfl r_x29 hF dX11_tiles_84
    · refine ji_iconst (pc := 19) dX11_tiles_19 ?_
      exact ji_reti (pc := 20) rfl (jRc rfl) hF dX11_tiles_20
def fX11_about (l1 l2 : Int) (s0 : jMem) : jO :=
jBd (fX11_isHand l1 s0) fun x2 s3 =>
if x2 = 0 then (
jRet (-1) s3)
else (
jBd (fX11_in l2 0 6 s3) fun x5 s6 =>
if x5 = 0 then (
jRet (-1) s6)
else (
if l2 = 0 then (
jBd (fX11_sizeOf l1 s6) fun x10 s11 =>
jRet x10 s11)
else if l2 = 1 then (
jBd (fX11_heldMany l1 s6) fun x15 s16 =>
jRet x15 s16)
else if l2 = 2 then (
jGd ((0 : Int) ≤ l1 ∧ l1 < jik 58) <| jLet (s6 58 l1) fun x20 =>
jRet x20 s6)
else (
jLet (j32 (l2 - 3)) fun x23 =>
jGd ((0 : Int) ≤ l1 ∧ l1 < jik 58) <| jLet (s6 58 l1) fun x26 =>
if x26 ≤ x23 then (
jRet (-3) s6)
else (
jLet (j32 (5 * l1)) fun x29 =>
jLet (j32 (x29 + l2)) fun x31 =>
jLet (j32 (x31 - 3)) fun x32 =>
jGd ((0 : Int) ≤ x32 ∧ x32 < jik 59) <| jLet (s6 59 x32) fun x33 =>
jRet x33 s6))))
def gX11_about (vs : List Int) (s : jMem) : jO := match vs with
  | [a0, a1, a2] => jGd (a0 = 53) <| fX11_about a1 a2 s
  | _ => none
set_option maxRecDepth 100000 in
set_option maxHeartbeats 4000000 in
theorem oX11_about : jOk MX11_about [3, 1, 1] 2 (jFn gX11_about) := by
  refine jOk_fn (by decide +kernel) (Nat.le_of_ble_eq_true rfl) (by decide +kernel) (.inr (.inl rfl)) ?_
  intro E vs s0 Rr hF ha
  obtain ⟨l0, t0, rfl, r_l0, ha⟩ := jRa_ci ha
  obtain ⟨l1, t1, rfl, r_l1, ha⟩ := jRa_ci ha
  obtain ⟨l2, t2, rfl, r_l2, ha⟩ := jRa_ci ha
  obtain rfl := jRa_ni ha
  replace hF : jHo Rr (jGd (l0 = 53) <| fX11_about l1 l2 s0) := hF
  have hG := jHo_as hF
  clear hF
  obtain ⟨rfl, hF⟩ := hG
  refine jg_norm [3, 1, 1] [53, l1, l2] rfl rfl ?_
  unfold fX11_about at hF
  refine ji_iload_n (n := 1) (pc := 0) l1 rfl rfl rfl dX11_about_0 (fun r1 => ?_)
  refine ji_callSz (pc := 1) [l1] ([]) oX11_isHand wlX11_114 wmX11_isHand rfl rfl (Nat.le_of_ble_eq_true rfl) (jRaC r1 jRa0) rfl rfl (Nat.le_of_ble_eq_true rfl) hF dX11_about_1 (fun x2 s3 r_x2 hF => ?_)
  refine ji_if_eq 19 (pc := 4) (jR51 r_x2) hF dX11_about_4 rfl (fun hF => ?_) (fun hF => ?_)
  · refine ji_iconst (pc := 19) dX11_about_19 ?_
    exact ji_reti (pc := 20) rfl (jRc rfl) hF dX11_about_20
  · refine ji_iload_n (n := 2) (pc := 7) l2 rfl rfl rfl dX11_about_7 (fun r4 => ?_)
    refine jg_i2l (pc := 8) r4 dX11_about_8 ?_
    refine jg_lconst (n := 0) (pc := 9) rfl dX11_about_9 ?_
    refine jg_ldc2 (n := 6) (pc := 10) wnX11_149 dX11_about_10 ?_
    refine ji_callSz (pc := 13) [l2, 0, 6] ([]) oX11_in wlX11_86 wmX11_in rfl rfl (Nat.le_of_ble_eq_true rfl) (jRaC (jR12 r4) (jRaC (jRc2 rfl) (jRaC (jRc2 rfl) jRa0))) rfl rfl (Nat.le_of_ble_eq_true rfl) hF dX11_about_13 (fun x5 s6 r_x5 hF => ?_)
    refine ji_if_ne 21 (pc := 16) (jR51 r_x5) hF dX11_about_16 rfl (fun hF => ?_) (fun hF => ?_)
    · refine ji_iload_n (n := 2) (pc := 21) l2 rfl rfl rfl dX11_about_21 (fun r7 => ?_)
      refine jHo_if hF (fun h12 hF => ?_) (fun h12 hF => ?_)
      · refine jg_tswIn (pc := 22) 48 r7 (by omega) (by omega) (by rw [h12]; rfl) rfl dX11_about_22 ?_
        refine ji_aload_n (n := 0) (pc := 48) 53 rfl rfl rfl dX11_about_48 (fun r8 => ?_)
        refine ji_iload_n (n := 1) (pc := 49) l1 rfl rfl rfl dX11_about_49 (fun r9 => ?_)
        refine ji_callVi (pc := 50) 53 [l1] ([]) oX11_sizeOf wlX11_117 wmX11_sizeOf rfl rfl (Nat.le_of_ble_eq_true rfl) (jRaC (jRc3 rfl) (jRaC r9 jRa0)) rfl jcl_53 rfl (Nat.le_of_ble_eq_true rfl) hF dX11_about_50 (fun x10 s11 r_x10 hF => ?_)
        exact ji_reti (pc := 53) rfl r_x10 hF dX11_about_53
      refine jHo_if hF (fun h17 hF => ?_) (fun h17 hF => ?_)
      · refine jg_tswIn (pc := 22) 54 r7 (by omega) (by omega) (by rw [h17]; rfl) rfl dX11_about_22 ?_
        refine ji_aload_n (n := 0) (pc := 54) 53 rfl rfl rfl dX11_about_54 (fun r13 => ?_)
        refine ji_iload_n (n := 1) (pc := 55) l1 rfl rfl rfl dX11_about_55 (fun r14 => ?_)
        refine ji_callVi (pc := 56) 53 [l1] ([]) oX11_heldMany wlX11_110 wmX11_heldMany rfl rfl (Nat.le_of_ble_eq_true rfl) (jRaC (jRc3 rfl) (jRaC r14 jRa0)) rfl jcl_53 rfl (Nat.le_of_ble_eq_true rfl) hF dX11_about_56 (fun x15 s16 r_x15 hF => ?_)
        exact ji_reti (pc := 59) rfl r_x15 hF dX11_about_59
      refine jHo_if hF (fun h21 hF => ?_) (fun h21 hF => ?_)
      · refine jg_tswIn (pc := 22) 60 r7 (by omega) (by omega) (by rw [h21]; rfl) rfl dX11_about_22 ?_
        refine ji_aload_n (n := 0) (pc := 60) 53 rfl rfl rfl dX11_about_60 (fun r18 => ?_)
        refine ji_getr (pc := 61) 58 wfX11_22 (jRc3 rfl) jcl_53 jrf_53_4 dX11_about_61 ?_
        refine ji_iload_n (n := 1) (pc := 64) l1 rfl rfl rfl dX11_about_64 (fun r19 => ?_)
        refine ji_iaload (pc := 65) (jRc3 rfl) r19 hF dX11_about_65 (fun x20 r_x20 hF => ?_)
        exact ji_reti (pc := 66) rfl r_x20 hF dX11_about_66
      refine jg_tswOut (pc := 22) 67 r7 (by omega) rfl dX11_about_22 ?_
      refine ji_iload_n (n := 2) (pc := 67) l2 rfl rfl rfl dX11_about_67 (fun r22 => ?_)
      refine ji_iconst (pc := 68) dX11_about_68 ?_
      refine ji_isub (pc := 69)  hF dX11_about_69 (fun x23 r_x23 hF => ?_)
      refine ji_aload_n (n := 0) (pc := 70) 53 rfl rfl rfl dX11_about_70 (fun r24 => ?_)
      refine ji_getr (pc := 71) 58 wfX11_22 (jRc3 rfl) jcl_53 jrf_53_4 dX11_about_71 ?_
      refine ji_iload_n (n := 1) (pc := 74) l1 rfl rfl rfl dX11_about_74 (fun r25 => ?_)
      refine ji_iaload (pc := 75) (jRc3 rfl) r25 hF dX11_about_75 (fun x26 r_x26 hF => ?_)
      refine ji_icmp_ge 94 (pc := 76) r_x23 r_x26 hF dX11_about_76 rfl (fun hF => ?_) (fun hF => ?_)
      · refine jg_bipush (pc := 94) rfl dX11_about_94 ?_
        exact ji_reti (pc := 96) rfl (jRc rfl) hF dX11_about_96
      · refine ji_aload_n (n := 0) (pc := 79) 53 rfl rfl rfl dX11_about_79 (fun r27 => ?_)
        refine ji_getr (pc := 80) 59 wfX11_25 (jRc3 rfl) jcl_53 jrf_53_5 dX11_about_80 ?_
        refine ji_iconst (pc := 83) dX11_about_83 ?_
        refine ji_iload_n (n := 1) (pc := 84) l1 rfl rfl rfl dX11_about_84 (fun r28 => ?_)
        refine ji_imul (pc := 85)  hF dX11_about_85 (fun x29 r_x29 hF => ?_)
        refine ji_iload_n (n := 2) (pc := 86) l2 rfl rfl rfl dX11_about_86 (fun r30 => ?_)
        refine ji_iadd (pc := 87)  hF dX11_about_87 (fun x31 r_x31 hF => ?_)
        refine ji_iconst (pc := 88) dX11_about_88 ?_
        refine ji_isub (pc := 89)  hF dX11_about_89 (fun x32 r_x32 hF => ?_)
        refine ji_iaload (pc := 90) (jRc3 rfl) r_x32 hF dX11_about_90 (fun x33 r_x33 hF => ?_)
        refine jg_goto (pc := 91) 96 dX11_about_91 rfl ?_
        exact ji_reti (pc := 96) rfl r_x33 hF dX11_about_96
    · refine ji_iconst (pc := 19) dX11_about_19 ?_
      exact ji_reti (pc := 20) rfl (jRc rfl) hF dX11_about_20
def bX11_count_45 (l3 : Int) (s0 : jMem) : jO :=
if l3 = 0 then (
jRet 0 s0)
else (
jRet 1 s0)
def bX11_count_27 (l1 l2 t0 : Int) (s0 : jMem) : jO :=
if l1 = 0 then (
jGd (0 ≤ l2 ∧ l2 ≤ 1) <| jLet (jU s0 53 10 l2) fun s9 =>
bX11_count_45 t0 s9)
else (
jGd (0 ≤ l2 ∧ l2 ≤ 1) <| jLet (jU s0 53 11 l2) fun s5 =>
bX11_count_45 t0 s5)
def fX11_count (l1 l2 : Int) (s0 : jMem) : jO :=
jBd (fX11_in l1 0 1 s0) fun x2 s3 =>
if x2 = 0 then (
jRet (-1) s3)
else (
if l1 = 0 then (
jLet (s3 53 10) fun x8 =>
bX11_count_27 l1 l2 x8 s3)
else (
jLet (s3 53 11) fun x6 =>
bX11_count_27 l1 l2 x6 s3))
def gX11_count (vs : List Int) (s : jMem) : jO := match vs with
  | [a0, a1, a2] => jGd (a0 = 53) <| fX11_count a1 a2 s
  | _ => none
set_option maxRecDepth 100000 in
set_option maxHeartbeats 4000000 in
theorem obX11_count_45 {E : jEnv} {Rr : Int → jMem → Prop} : ∀ (l3 : Int) (s : jMem), jHo Rr (bX11_count_45 l3 s) → jGo E MX11_count 1 Rr [0, 0, 0, 1] 45 [0, 0, 0, l3] ([]) s := by
  intro l3 s0 hF
  unfold bX11_count_45 at hF
  refine ji_iload_n (n := 3) (pc := 45) l3 rfl rfl rfl dX11_count_45 (fun r1 => ?_)
  refine ji_if_eq 53 (pc := 46) r1 hF dX11_count_46 rfl (fun hF => ?_) (fun hF => ?_)
  · refine ji_iconst (pc := 53) dX11_count_53 ?_
    exact ji_reti (pc := 54) rfl (jRc rfl) hF dX11_count_54
  · refine ji_iconst (pc := 49) dX11_count_49 ?_
    refine jg_goto (pc := 50) 54 dX11_count_50 rfl ?_
    exact ji_reti (pc := 54) rfl (jRc rfl) hF dX11_count_54
set_option maxRecDepth 100000 in
set_option maxHeartbeats 4000000 in
theorem obX11_count_27 {E : jEnv} {Rr : Int → jMem → Prop} : ∀ (l1 l2 t0 : Int) (s : jMem), jR 1 t0 → jHo Rr (bX11_count_27 l1 l2 t0 s) → jGo E MX11_count 1 Rr [3, 1, 1, 0] 27 [53, l1, l2, 0] (jV E 1 t0 :: []) s := by
  intro l1 l2 t0 s0 r_t0 hF
  unfold bX11_count_27 at hF
  refine ji_istore_n (n := 3) (pc := 27) [3, 1, 1, 1] [53, l1, l2, t0] rfl r_t0 (Nat.le_of_ble_eq_true rfl) rfl rfl dX11_count_27 ?_
  refine ji_iload_n (n := 1) (pc := 28) l1 rfl rfl rfl dX11_count_28 (fun r1 => ?_)
  refine ji_if_ne 40 (pc := 29) r1 hF dX11_count_29 rfl (fun hF => ?_) (fun hF => ?_)
  · refine ji_aload_n (n := 0) (pc := 40) 53 rfl rfl rfl dX11_count_40 (fun r2 => ?_)
    refine ji_iload_n (n := 2) (pc := 41) l2 rfl rfl rfl dX11_count_41 (fun r3 => ?_)
    obtain ⟨h4, hF⟩ := jHo_as hF
    refine ji_putfz (pc := 42) wpX11_155 (jRc3 rfl) jcl_53 h4 hF dX11_count_42 (fun s5 hF => ?_)
    refine jg_norm [0, 0, 0, 1] [0, 0, 0, t0] rfl rfl ?_
    exact obX11_count_45 _ _ hF
  · refine ji_aload_n (n := 0) (pc := 32) 53 rfl rfl rfl dX11_count_32 (fun r6 => ?_)
    refine ji_iload_n (n := 2) (pc := 33) l2 rfl rfl rfl dX11_count_33 (fun r7 => ?_)
    obtain ⟨h8, hF⟩ := jHo_as hF
    refine ji_putfz (pc := 34) wpX11_151 (jRc3 rfl) jcl_53 h8 hF dX11_count_34 (fun s9 hF => ?_)
    refine jg_goto (pc := 37) 45 dX11_count_37 rfl ?_
    refine jg_norm [0, 0, 0, 1] [0, 0, 0, t0] rfl rfl ?_
    exact obX11_count_45 _ _ hF
set_option maxRecDepth 100000 in
set_option maxHeartbeats 4000000 in
theorem oX11_count : jOk MX11_count [3, 1, 1] 1 (jFn gX11_count) := by
  refine jOk_fn (by decide +kernel) (Nat.le_of_ble_eq_true rfl) (by decide +kernel) (.inr (.inl rfl)) ?_
  intro E vs s0 Rr hF ha
  obtain ⟨l0, t0, rfl, r_l0, ha⟩ := jRa_ci ha
  obtain ⟨l1, t1, rfl, r_l1, ha⟩ := jRa_ci ha
  obtain ⟨l2, t2, rfl, r_l2, ha⟩ := jRa_ci ha
  obtain rfl := jRa_ni ha
  replace hF : jHo Rr (jGd (l0 = 53) <| fX11_count l1 l2 s0) := hF
  have hG := jHo_as hF
  clear hF
  obtain ⟨rfl, hF⟩ := hG
  refine jg_norm [3, 1, 1, 0] [53, l1, l2, 0] rfl rfl ?_
  unfold fX11_count at hF
  refine ji_iload_n (n := 1) (pc := 0) l1 rfl rfl rfl dX11_count_0 (fun r1 => ?_)
  refine jg_i2l (pc := 1) r1 dX11_count_1 ?_
  refine jg_lconst (n := 0) (pc := 2) rfl dX11_count_2 ?_
  refine jg_lconst (n := 1) (pc := 3) rfl dX11_count_3 ?_
  refine ji_callSz (pc := 4) [l1, 0, 1] ([]) oX11_in wlX11_86 wmX11_in rfl rfl (Nat.le_of_ble_eq_true rfl) (jRaC (jR12 r1) (jRaC (jRc2 rfl) (jRaC (jRc2 rfl) jRa0))) rfl rfl (Nat.le_of_ble_eq_true rfl) hF dX11_count_4 (fun x2 s3 r_x2 hF => ?_)
  refine ji_if_ne 12 (pc := 7) (jR51 r_x2) hF dX11_count_7 rfl (fun hF => ?_) (fun hF => ?_)
  · refine ji_iload_n (n := 1) (pc := 12) l1 rfl rfl rfl dX11_count_12 (fun r4 => ?_)
    refine ji_if_ne 23 (pc := 13) r4 hF dX11_count_13 rfl (fun hF => ?_) (fun hF => ?_)
    · refine ji_aload_n (n := 0) (pc := 23) 53 rfl rfl rfl dX11_count_23 (fun r5 => ?_)
      refine ji_getfz (pc := 24) wfX11_155 (jRc3 rfl) jcl_53 hF dX11_count_24 (fun x6 r_x6 hF => ?_)
      refine jg_norm [3, 1, 1, 0] [53, l1, l2, 0] rfl rfl ?_
      exact obX11_count_27 _ _ _ _ (jR51 r_x6) hF
    · refine ji_aload_n (n := 0) (pc := 16) 53 rfl rfl rfl dX11_count_16 (fun r7 => ?_)
      refine ji_getfz (pc := 17) wfX11_151 (jRc3 rfl) jcl_53 hF dX11_count_17 (fun x8 r_x8 hF => ?_)
      refine jg_goto (pc := 20) 27 dX11_count_20 rfl ?_
      refine jg_norm [3, 1, 1, 0] [53, l1, l2, 0] rfl rfl ?_
      exact obX11_count_27 _ _ _ _ (jR51 r_x8) hF
  · refine ji_iconst (pc := 10) dX11_count_10 ?_
    exact ji_reti (pc := 11) rfl (jRc rfl) hF dX11_count_11
def bX11_look_2 (rec : Int → Int → jMem → jO) (l1 l2 : Int) (s0 : jMem) : jO :=
if 34 ≤ l2 then (
jGd ((0 : Int) ≤ l1 ∧ l1 < jik 58) <| jLet (s0 58 l1) fun x5 =>
jLet (jU s0 53 20 x5) fun s6 =>
jRet 0 s6)
else (
jLet (j32 (34 * l1)) fun x11 =>
jLet (j32 (x11 + l2)) fun x13 =>
jGd ((0 : Int) ≤ x13 ∧ x13 < jik 56) <| jLet (s0 56 x13) fun x14 =>
jGd ((0 : Int) ≤ l2 ∧ l2 < jik 68) <| jLet (jU s0 68 l2 x14) fun s15 =>
jLet (j32 (34 * l1)) fun x20 =>
jLet (j32 (x20 + l2)) fun x22 =>
jGd ((0 : Int) ≤ x22 ∧ x22 < jik 57) <| jLet (s15 57 x22) fun x23 =>
jGd ((0 : Int) ≤ l2 ∧ l2 < jik 69) <| jLet (jU s15 69 l2 x23) fun s24 =>
jLet (j32 (l2 + 1)) fun x25 =>
rec l1 x25 s24)
def fX11_look (l1 : Int) (s0 : jMem) : jO :=
jIt (fun _ _ _ => none) (bX11_look_2) 1000 l1 0 s0
def gX11_look (vs : List Int) (s : jMem) : jO := match vs with
  | [a0, a1] => jGd (a0 = 53) <| fX11_look a1 s
  | _ => none
set_option maxRecDepth 100000 in
set_option maxHeartbeats 4000000 in
theorem obX11_look_2 {E : jEnv} {Rr : Int → jMem → Prop} {rec : Int → Int → jMem → jO} (hrec : ∀ (l1 l2 : Int) (s : jMem), jHo Rr (rec l1 l2 s) → jGo E MX11_look 0 Rr [3, 1, 1] 2 [53, l1, l2] ([]) s) : ∀ (l1 l2 : Int) (s : jMem), jHo Rr (bX11_look_2 rec l1 l2 s) → jGo E MX11_look 0 Rr [3, 1, 1] 2 [53, l1, l2] ([]) s := by
  intro l1 l2 s0 hF
  unfold bX11_look_2 at hF
  refine ji_iload_n (n := 2) (pc := 2) l2 rfl rfl rfl dX11_look_2 (fun r1 => ?_)
  refine jg_bipush (pc := 3) rfl dX11_look_3 ?_
  refine ji_icmp_ge 48 (pc := 5) r1 (jRc rfl) hF dX11_look_5 rfl (fun hF => ?_) (fun hF => ?_)
  · refine ji_aload_n (n := 0) (pc := 48) 53 rfl rfl rfl dX11_look_48 (fun r2 => ?_)
    refine ji_aload_n (n := 0) (pc := 49) 53 rfl rfl rfl dX11_look_49 (fun r3 => ?_)
    refine ji_getr (pc := 50) 58 wfX11_22 (jRc3 rfl) jcl_53 jrf_53_4 dX11_look_50 ?_
    refine ji_iload_n (n := 1) (pc := 53) l1 rfl rfl rfl dX11_look_53 (fun r4 => ?_)
    refine ji_iaload (pc := 54) (jRc3 rfl) r4 hF dX11_look_54 (fun x5 r_x5 hF => ?_)
    refine ji_putfi (pc := 55) wpX11_158 (jRc3 rfl) jcl_53 r_x5 hF dX11_look_55 (fun s6 hF => ?_)
    exact ji_retv (pc := 58) rfl hF dX11_look_58
  · refine ji_aload_n (n := 0) (pc := 8) 53 rfl rfl rfl dX11_look_8 (fun r7 => ?_)
    refine ji_getr (pc := 9) 68 wfX11_56 (jRc3 rfl) jcl_53 jrf_53_18 dX11_look_9 ?_
    refine ji_iload_n (n := 2) (pc := 12) l2 rfl rfl rfl dX11_look_12 (fun r8 => ?_)
    refine ji_aload_n (n := 0) (pc := 13) 53 rfl rfl rfl dX11_look_13 (fun r9 => ?_)
    refine ji_getr (pc := 14) 56 wfX11_16 (jRc3 rfl) jcl_53 jrf_53_2 dX11_look_14 ?_
    refine jg_bipush (pc := 17) rfl dX11_look_17 ?_
    refine ji_iload_n (n := 1) (pc := 19) l1 rfl rfl rfl dX11_look_19 (fun r10 => ?_)
    refine ji_imul (pc := 20)  hF dX11_look_20 (fun x11 r_x11 hF => ?_)
    refine ji_iload_n (n := 2) (pc := 21) l2 rfl rfl rfl dX11_look_21 (fun r12 => ?_)
    refine ji_iadd (pc := 22)  hF dX11_look_22 (fun x13 r_x13 hF => ?_)
    refine ji_iaload (pc := 23) (jRc3 rfl) r_x13 hF dX11_look_23 (fun x14 r_x14 hF => ?_)
    refine ji_iastore (pc := 24) (jRc3 rfl) r8 r_x14 hF dX11_look_24 (fun s15 hF => ?_)
    refine ji_aload_n (n := 0) (pc := 25) 53 rfl rfl rfl dX11_look_25 (fun r16 => ?_)
    refine ji_getr (pc := 26) 69 wfX11_59 (jRc3 rfl) jcl_53 jrf_53_19 dX11_look_26 ?_
    refine ji_iload_n (n := 2) (pc := 29) l2 rfl rfl rfl dX11_look_29 (fun r17 => ?_)
    refine ji_aload_n (n := 0) (pc := 30) 53 rfl rfl rfl dX11_look_30 (fun r18 => ?_)
    refine ji_getr (pc := 31) 57 wfX11_19 (jRc3 rfl) jcl_53 jrf_53_3 dX11_look_31 ?_
    refine jg_bipush (pc := 34) rfl dX11_look_34 ?_
    refine ji_iload_n (n := 1) (pc := 36) l1 rfl rfl rfl dX11_look_36 (fun r19 => ?_)
    refine ji_imul (pc := 37)  hF dX11_look_37 (fun x20 r_x20 hF => ?_)
    refine ji_iload_n (n := 2) (pc := 38) l2 rfl rfl rfl dX11_look_38 (fun r21 => ?_)
    refine ji_iadd (pc := 39)  hF dX11_look_39 (fun x22 r_x22 hF => ?_)
    refine ji_iaload (pc := 40) (jRc3 rfl) r_x22 hF dX11_look_40 (fun x23 r_x23 hF => ?_)
    refine ji_iastore (pc := 41) (jRc3 rfl) r17 r_x23 hF dX11_look_41 (fun s24 hF => ?_)
    refine ji_iinc (pc := 42) l2 (fun w => [53, l1, w]) rfl rfl rfl (fun _ => rfl) hF dX11_look_42 (fun x25 r_x25 hF => ?_)
    refine jg_goto (pc := 45) 2 dX11_look_45 rfl ?_
    refine jg_norm [3, 1, 1] [53, l1, x25] rfl rfl ?_
    exact hrec _ _ _ hF
theorem obX11_look_2W {E : jEnv} {Rr : Int → jMem → Prop} : ∀ n : Nat, ∀ (l1 l2 : Int) (s : jMem), jHo Rr (jIt (fun _ _ _ => none) (bX11_look_2) n l1 l2 s) → jGo E MX11_look 0 Rr [3, 1, 1] 2 [53, l1, l2] ([]) s := by
  intro n
  induction n with
  | zero => intro l1 l2 s hF; exact jHo_none hF
  | succ n ih => exact obX11_look_2 ih

set_option maxRecDepth 100000 in
set_option maxHeartbeats 4000000 in
theorem oX11_look : jOk MX11_look [3, 1] 0 (jFn gX11_look) := by
  refine jOk_fn (by decide +kernel) (Nat.le_of_ble_eq_true rfl) (by decide +kernel) (.inl rfl) ?_
  intro E vs s0 Rr hF ha
  obtain ⟨l0, t0, rfl, r_l0, ha⟩ := jRa_ci ha
  obtain ⟨l1, t1, rfl, r_l1, ha⟩ := jRa_ci ha
  obtain rfl := jRa_ni ha
  replace hF : jHo Rr (jGd (l0 = 53) <| fX11_look l1 s0) := hF
  have hG := jHo_as hF
  clear hF
  obtain ⟨rfl, hF⟩ := hG
  refine jg_norm [3, 1, 0] [53, l1, 0] rfl rfl ?_
  unfold fX11_look at hF
  refine ji_iconst (pc := 0) dX11_look_0 ?_
  refine ji_istore_n (n := 2) (pc := 1) [3, 1, 1] [53, l1, 0] rfl (jRc rfl) (Nat.le_of_ble_eq_true rfl) rfl rfl dX11_look_1 ?_
  refine jg_norm [3, 1, 1] [53, l1, 0] rfl rfl ?_
  exact obX11_look_2W 1000 _ _ _ hF
def fX11_isOuter (l0 : Int) (s0 : jMem) : jO :=
if 26 < l0 then (
jRet 1 s0)
else (
jGd (¬ (9 : Int) = 0) <| jLet (jrem l0 9) fun x3 =>
if x3 = 0 then (
jRet 1 s0)
else (
jGd (¬ (9 : Int) = 0) <| jLet (jrem l0 9) fun x5 =>
if x5 = 8 then (
jRet 1 s0)
else (
jRet 0 s0)))
def gX11_isOuter (vs : List Int) (s : jMem) : jO := match vs with
  | [a0] => fX11_isOuter a0 s
  | _ => none
set_option maxRecDepth 100000 in
set_option maxHeartbeats 4000000 in
theorem oX11_isOuter : jOk MX11_isOuter [1] 0 (jFn gX11_isOuter) := by
  refine jOk_fn (by decide +kernel) (Nat.le_of_ble_eq_true rfl) (by decide +kernel) (.inr (.inr (.inr rfl))) ?_
  intro E vs s0 Rr hF ha
  obtain ⟨l0, t0, rfl, r_l0, ha⟩ := jRa_ci ha
  obtain rfl := jRa_ni ha
  replace hF : jHo Rr (fX11_isOuter l0 s0) := hF
  refine jg_norm [1] [l0] rfl rfl ?_
  unfold fX11_isOuter at hF
  refine ji_iload_n (n := 0) (pc := 0) l0 rfl rfl rfl dX11_isOuter_0 (fun r1 => ?_)
  refine jg_bipush (pc := 1) rfl dX11_isOuter_1 ?_
  refine ji_icmp_gt 22 (pc := 3) r1 (jRc rfl) hF dX11_isOuter_3 rfl (fun hF => ?_) (fun hF => ?_)
  · refine ji_iconst (pc := 22) dX11_isOuter_22 ?_
    refine jg_goto (pc := 23) 27 dX11_isOuter_23 rfl ?_
    exact ji_retz (pc := 27) rfl (jRc5 rfl) hF dX11_isOuter_27
  · refine ji_iload_n (n := 0) (pc := 6) l0 rfl rfl rfl dX11_isOuter_6 (fun r2 => ?_)
    refine jg_bipush (pc := 7) rfl dX11_isOuter_7 ?_
    refine ji_irem (pc := 9) (jRc rfl) hF dX11_isOuter_9 (fun x3 r_x3 hF => ?_)
    refine ji_if_eq 22 (pc := 10) r_x3 hF dX11_isOuter_10 rfl (fun hF => ?_) (fun hF => ?_)
    · refine ji_iconst (pc := 22) dX11_isOuter_22 ?_
      refine jg_goto (pc := 23) 27 dX11_isOuter_23 rfl ?_
      exact ji_retz (pc := 27) rfl (jRc5 rfl) hF dX11_isOuter_27
    · refine ji_iload_n (n := 0) (pc := 13) l0 rfl rfl rfl dX11_isOuter_13 (fun r4 => ?_)
      refine jg_bipush (pc := 14) rfl dX11_isOuter_14 ?_
      refine ji_irem (pc := 16) (jRc rfl) hF dX11_isOuter_16 (fun x5 r_x5 hF => ?_)
      refine jg_bipush (pc := 17) rfl dX11_isOuter_17 ?_
      refine ji_icmp_ne 26 (pc := 19) r_x5 (jRc rfl) hF dX11_isOuter_19 rfl (fun hF => ?_) (fun hF => ?_)
      · refine ji_iconst (pc := 26) dX11_isOuter_26 ?_
        exact ji_retz (pc := 27) rfl (jRc5 rfl) hF dX11_isOuter_27
      · refine ji_iconst (pc := 22) dX11_isOuter_22 ?_
        refine jg_goto (pc := 23) 27 dX11_isOuter_23 rfl ?_
        exact ji_retz (pc := 27) rfl (jRc5 rfl) hF dX11_isOuter_27
def bX11_isSeven_26 (k4 : Int → Int → jMem → jO) (l2 t0 t1 : Int) (s0 : jMem) : jO :=
jLet (j32 (t0 + t1)) fun x1 =>
jLet (j32 (l2 + 1)) fun x2 =>
k4 x1 x2 s0
def bX11_isSeven_4 (k34 : Int → jMem → jO) (rec : Int → Int → jMem → jO) (l1 l2 : Int) (s0 : jMem) : jO :=
if 34 ≤ l2 then (
k34 l1 s0)
else (
jGd ((0 : Int) ≤ l2 ∧ l2 < jik 68) <| jLet (s0 68 l2) fun x5 =>
if x5 = 2 then (
bX11_isSeven_26 rec l2 l1 1 s0)
else (
bX11_isSeven_26 rec l2 l1 0 s0))
def bX11_isSeven_34 (l1 : Int) (s0 : jMem) : jO :=
jLet (s0 53 20) fun x2 =>
if x2 = 0 then (
if l1 = 7 then (
jRet 1 s0)
else (
jRet 0 s0))
else (
jRet 0 s0)
def fX11_isSeven (s0 : jMem) : jO :=
jIt (fun _ _ _ => none) (bX11_isSeven_4 bX11_isSeven_34) 1000 0 0 s0
def gX11_isSeven (vs : List Int) (s : jMem) : jO := match vs with
  | [a0] => jGd (a0 = 53) <| fX11_isSeven s
  | _ => none
set_option maxRecDepth 100000 in
set_option maxHeartbeats 4000000 in
theorem obX11_isSeven_26 {E : jEnv} {Rr : Int → jMem → Prop} {k4 : Int → Int → jMem → jO} (hk4 : ∀ (l1 l2 : Int) (s : jMem), jHo Rr (k4 l1 l2 s) → jGo E MX11_isSeven 0 Rr [3, 1, 1] 4 [53, l1, l2] ([]) s) : ∀ (l2 t0 t1 : Int) (s : jMem), jR 1 t0 → jR 1 t1 → jHo Rr (bX11_isSeven_26 k4 l2 t0 t1 s) → jGo E MX11_isSeven 0 Rr [3, 0, 1] 26 [53, 0, l2] (jV E 1 t1 :: jV E 1 t0 :: []) s := by
  intro l2 t0 t1 s0 r_t0 r_t1 hF
  unfold bX11_isSeven_26 at hF
  refine ji_iadd (pc := 26)  hF dX11_isSeven_26 (fun x1 r_x1 hF => ?_)
  refine ji_istore_n (n := 1) (pc := 27) [3, 1, 1] [53, x1, l2] rfl r_x1 (Nat.le_of_ble_eq_true rfl) rfl rfl dX11_isSeven_27 ?_
  refine ji_iinc (pc := 28) l2 (fun w => [53, x1, w]) rfl rfl rfl (fun _ => rfl) hF dX11_isSeven_28 (fun x2 r_x2 hF => ?_)
  refine jg_goto (pc := 31) 4 dX11_isSeven_31 rfl ?_
  refine jg_norm [3, 1, 1] [53, x1, x2] rfl rfl ?_
  exact hk4 _ _ _ hF
set_option maxRecDepth 100000 in
set_option maxHeartbeats 4000000 in
theorem obX11_isSeven_4 {E : jEnv} {Rr : Int → jMem → Prop} {k34 : Int → jMem → jO} (hk34 : ∀ (l1 : Int) (s : jMem), jHo Rr (k34 l1 s) → jGo E MX11_isSeven 0 Rr [3, 1, 0] 34 [53, l1, 0] ([]) s) {rec : Int → Int → jMem → jO} (hrec : ∀ (l1 l2 : Int) (s : jMem), jHo Rr (rec l1 l2 s) → jGo E MX11_isSeven 0 Rr [3, 1, 1] 4 [53, l1, l2] ([]) s) : ∀ (l1 l2 : Int) (s : jMem), jHo Rr (bX11_isSeven_4 k34 rec l1 l2 s) → jGo E MX11_isSeven 0 Rr [3, 1, 1] 4 [53, l1, l2] ([]) s := by
  intro l1 l2 s0 hF
  unfold bX11_isSeven_4 at hF
  refine ji_iload_n (n := 2) (pc := 4) l2 rfl rfl rfl dX11_isSeven_4 (fun r1 => ?_)
  refine jg_bipush (pc := 5) rfl dX11_isSeven_5 ?_
  refine ji_icmp_ge 34 (pc := 7) r1 (jRc rfl) hF dX11_isSeven_7 rfl (fun hF => ?_) (fun hF => ?_)
  · refine jg_norm [3, 1, 0] [53, l1, 0] rfl rfl ?_
    exact hk34 _ _ hF
  · refine ji_iload_n (n := 1) (pc := 10) l1 rfl rfl rfl dX11_isSeven_10 (fun r2 => ?_)
    refine ji_aload_n (n := 0) (pc := 11) 53 rfl rfl rfl dX11_isSeven_11 (fun r3 => ?_)
    refine ji_getr (pc := 12) 68 wfX11_56 (jRc3 rfl) jcl_53 jrf_53_18 dX11_isSeven_12 ?_
    refine ji_iload_n (n := 2) (pc := 15) l2 rfl rfl rfl dX11_isSeven_15 (fun r4 => ?_)
    refine ji_iaload (pc := 16) (jRc3 rfl) r4 hF dX11_isSeven_16 (fun x5 r_x5 hF => ?_)
    refine ji_iconst (pc := 17) dX11_isSeven_17 ?_
    refine ji_icmp_ne 25 (pc := 18) r_x5 (jRc rfl) hF dX11_isSeven_18 rfl (fun hF => ?_) (fun hF => ?_)
    · refine ji_iconst (pc := 25) dX11_isSeven_25 ?_
      refine jg_norm [3, 0, 1] [53, 0, l2] rfl rfl ?_
      exact obX11_isSeven_26 hrec _ _ _ _ r2 (jRc rfl) hF
    · refine ji_iconst (pc := 21) dX11_isSeven_21 ?_
      refine jg_goto (pc := 22) 26 dX11_isSeven_22 rfl ?_
      refine jg_norm [3, 0, 1] [53, 0, l2] rfl rfl ?_
      exact obX11_isSeven_26 hrec _ _ _ _ r2 (jRc rfl) hF
theorem obX11_isSeven_4W {E : jEnv} {Rr : Int → jMem → Prop} {k34 : Int → jMem → jO} (hk34 : ∀ (l1 : Int) (s : jMem), jHo Rr (k34 l1 s) → jGo E MX11_isSeven 0 Rr [3, 1, 0] 34 [53, l1, 0] ([]) s) : ∀ n : Nat, ∀ (l1 l2 : Int) (s : jMem), jHo Rr (jIt (fun _ _ _ => none) (bX11_isSeven_4 k34) n l1 l2 s) → jGo E MX11_isSeven 0 Rr [3, 1, 1] 4 [53, l1, l2] ([]) s := by
  intro n
  induction n with
  | zero => intro l1 l2 s hF; exact jHo_none hF
  | succ n ih => exact obX11_isSeven_4 hk34 ih

set_option maxRecDepth 100000 in
set_option maxHeartbeats 4000000 in
theorem obX11_isSeven_34 {E : jEnv} {Rr : Int → jMem → Prop} : ∀ (l1 : Int) (s : jMem), jHo Rr (bX11_isSeven_34 l1 s) → jGo E MX11_isSeven 0 Rr [3, 1, 0] 34 [53, l1, 0] ([]) s := by
  intro l1 s0 hF
  unfold bX11_isSeven_34 at hF
  refine ji_aload_n (n := 0) (pc := 34) 53 rfl rfl rfl dX11_isSeven_34 (fun r1 => ?_)
  refine ji_getfi (pc := 35) wfX11_158 (jRc3 rfl) jcl_53 hF dX11_isSeven_35 (fun x2 r_x2 hF => ?_)
  refine ji_if_ne 51 (pc := 38) r_x2 hF dX11_isSeven_38 rfl (fun hF => ?_) (fun hF => ?_)
  · refine ji_iconst (pc := 51) dX11_isSeven_51 ?_
    exact ji_retz (pc := 52) rfl (jRc5 rfl) hF dX11_isSeven_52
  · refine ji_iload_n (n := 1) (pc := 41) l1 rfl rfl rfl dX11_isSeven_41 (fun r3 => ?_)
    refine jg_bipush (pc := 42) rfl dX11_isSeven_42 ?_
    refine ji_icmp_ne 51 (pc := 44) r3 (jRc rfl) hF dX11_isSeven_44 rfl (fun hF => ?_) (fun hF => ?_)
    · refine ji_iconst (pc := 51) dX11_isSeven_51 ?_
      exact ji_retz (pc := 52) rfl (jRc5 rfl) hF dX11_isSeven_52
    · refine ji_iconst (pc := 47) dX11_isSeven_47 ?_
      refine jg_goto (pc := 48) 52 dX11_isSeven_48 rfl ?_
      exact ji_retz (pc := 52) rfl (jRc5 rfl) hF dX11_isSeven_52
set_option maxRecDepth 100000 in
set_option maxHeartbeats 4000000 in
theorem oX11_isSeven : jOk MX11_isSeven [3] 0 (jFn gX11_isSeven) := by
  refine jOk_fn (by decide +kernel) (Nat.le_of_ble_eq_true rfl) (by decide +kernel) (.inr (.inr (.inr rfl))) ?_
  intro E vs s0 Rr hF ha
  obtain ⟨l0, t0, rfl, r_l0, ha⟩ := jRa_ci ha
  obtain rfl := jRa_ni ha
  replace hF : jHo Rr (jGd (l0 = 53) <| fX11_isSeven s0) := hF
  have hG := jHo_as hF
  clear hF
  obtain ⟨rfl, hF⟩ := hG
  refine jg_norm [3, 0, 0] [53, 0, 0] rfl rfl ?_
  unfold fX11_isSeven at hF
  refine ji_iconst (pc := 0) dX11_isSeven_0 ?_
  refine ji_istore_n (n := 1) (pc := 1) [3, 1, 0] [53, 0, 0] rfl (jRc rfl) (Nat.le_of_ble_eq_true rfl) rfl rfl dX11_isSeven_1 ?_
  refine ji_iconst (pc := 2) dX11_isSeven_2 ?_
  refine ji_istore_n (n := 2) (pc := 3) [3, 1, 1] [53, 0, 0] rfl (jRc rfl) (Nat.le_of_ble_eq_true rfl) rfl rfl dX11_isSeven_3 ?_
  refine jg_norm [3, 1, 1] [53, 0, 0] rfl rfl ?_
  exact obX11_isSeven_4W obX11_isSeven_34 1000 _ _ _ hF
def bX11_isOuterHand_55 (k60 : Int → Int → Int → jMem → jO) (l1 l3 : Int) (s0 : jMem) : jO :=
k60 l1 l3 1 s0
def bX11_isOuterHand_59 (k60 : Int → Int → Int → jMem → jO) (l1 l3 : Int) (s0 : jMem) : jO :=
k60 l1 l3 0 s0
def bX11_isOuterHand_60 (k17 : Int → Int → Int → jMem → jO) (l1 l3 t0 : Int) (s0 : jMem) : jO :=
jGd ((0 : Int) ≤ l3 ∧ l3 < jik 68) <| jLet (s0 68 l3) fun x4 =>
jLet (j32 (l1 + x4)) fun x5 =>
jLet (j32 (l3 + 1)) fun x6 =>
k17 x5 t0 x6 s0
def bX11_isOuterHand_17 (k76 : Int → Int → jMem → jO) (rec : Int → Int → Int → jMem → jO) (l1 l2 l3 : Int) (s0 : jMem) : jO :=
if 34 ≤ l3 then (
k76 l1 l2 s0)
else (
if l2 = 0 then (
bX11_isOuterHand_59 (bX11_isOuterHand_60 rec) l1 l3 s0)
else (
jBd (fX11_isOuter l3 s0) fun x4 s5 =>
if x4 = 0 then (
jGd ((0 : Int) ≤ l3 ∧ l3 < jik 68) <| jLet (s5 68 l3) fun x8 =>
if x8 = 0 then (
bX11_isOuterHand_55 (bX11_isOuterHand_60 rec) l1 l3 s5)
else (
bX11_isOuterHand_59 (bX11_isOuterHand_60 rec) l1 l3 s5))
else (
jGd ((0 : Int) ≤ l3 ∧ l3 < jik 68) <| jLet (s5 68 l3) fun x11 =>
if x11 ≤ 0 then (
bX11_isOuterHand_59 (bX11_isOuterHand_60 rec) l1 l3 s5)
else (
bX11_isOuterHand_55 (bX11_isOuterHand_60 rec) l1 l3 s5))))
def bX11_isOuterHand_76 (l1 l2 : Int) (s0 : jMem) : jO :=
if l2 = 0 then (
jRet 0 s0)
else (
if l1 = 14 then (
jRet 1 s0)
else (
jRet 0 s0))
def bX11_isOuterHand_14 (l1 t0 : Int) (s0 : jMem) : jO :=
jIt (fun _ _ _ _ => none) (bX11_isOuterHand_17 bX11_isOuterHand_76) 1000 l1 t0 0 s0
def fX11_isOuterHand (s0 : jMem) : jO :=
jLet (s0 53 20) fun x2 =>
if x2 = 0 then (
bX11_isOuterHand_14 0 1 s0)
else (
bX11_isOuterHand_14 0 0 s0)
def gX11_isOuterHand (vs : List Int) (s : jMem) : jO := match vs with
  | [a0] => jGd (a0 = 53) <| fX11_isOuterHand s
  | _ => none
set_option maxRecDepth 100000 in
set_option maxHeartbeats 4000000 in
theorem obX11_isOuterHand_55 {E : jEnv} {Rr : Int → jMem → Prop} {k60 : Int → Int → Int → jMem → jO} (hk60 : ∀ (l1 l3 t0 : Int) (s : jMem), jR 1 t0 → jHo Rr (k60 l1 l3 t0 s) → jGo E MX11_isOuterHand 1 Rr [3, 1, 0, 1] 60 [53, l1, 0, l3] (jV E 1 t0 :: []) s) : ∀ (l1 l3 : Int) (s : jMem), jHo Rr (bX11_isOuterHand_55 k60 l1 l3 s) → jGo E MX11_isOuterHand 1 Rr [3, 1, 0, 1] 55 [53, l1, 0, l3] ([]) s := by
  intro l1 l3 s0 hF
  unfold bX11_isOuterHand_55 at hF
  refine ji_iconst (pc := 55) dX11_isOuterHand_55 ?_
  refine jg_goto (pc := 56) 60 dX11_isOuterHand_56 rfl ?_
  refine jg_norm [3, 1, 0, 1] [53, l1, 0, l3] rfl rfl ?_
  exact hk60 _ _ _ _ (jRc rfl) hF
set_option maxRecDepth 100000 in
set_option maxHeartbeats 4000000 in
theorem obX11_isOuterHand_59 {E : jEnv} {Rr : Int → jMem → Prop} {k60 : Int → Int → Int → jMem → jO} (hk60 : ∀ (l1 l3 t0 : Int) (s : jMem), jR 1 t0 → jHo Rr (k60 l1 l3 t0 s) → jGo E MX11_isOuterHand 1 Rr [3, 1, 0, 1] 60 [53, l1, 0, l3] (jV E 1 t0 :: []) s) : ∀ (l1 l3 : Int) (s : jMem), jHo Rr (bX11_isOuterHand_59 k60 l1 l3 s) → jGo E MX11_isOuterHand 1 Rr [3, 1, 0, 1] 59 [53, l1, 0, l3] ([]) s := by
  intro l1 l3 s0 hF
  unfold bX11_isOuterHand_59 at hF
  refine ji_iconst (pc := 59) dX11_isOuterHand_59 ?_
  refine jg_norm [3, 1, 0, 1] [53, l1, 0, l3] rfl rfl ?_
  exact hk60 _ _ _ _ (jRc rfl) hF
set_option maxRecDepth 100000 in
set_option maxHeartbeats 4000000 in
theorem obX11_isOuterHand_60 {E : jEnv} {Rr : Int → jMem → Prop} {k17 : Int → Int → Int → jMem → jO} (hk17 : ∀ (l1 l2 l3 : Int) (s : jMem), jHo Rr (k17 l1 l2 l3 s) → jGo E MX11_isOuterHand 1 Rr [3, 1, 1, 1] 17 [53, l1, l2, l3] ([]) s) : ∀ (l1 l3 t0 : Int) (s : jMem), jR 1 t0 → jHo Rr (bX11_isOuterHand_60 k17 l1 l3 t0 s) → jGo E MX11_isOuterHand 1 Rr [3, 1, 0, 1] 60 [53, l1, 0, l3] (jV E 1 t0 :: []) s := by
  intro l1 l3 t0 s0 r_t0 hF
  unfold bX11_isOuterHand_60 at hF
  refine ji_istore_n (n := 2) (pc := 60) [3, 1, 1, 1] [53, l1, t0, l3] rfl r_t0 (Nat.le_of_ble_eq_true rfl) rfl rfl dX11_isOuterHand_60 ?_
  refine ji_iload_n (n := 1) (pc := 61) l1 rfl rfl rfl dX11_isOuterHand_61 (fun r1 => ?_)
  refine ji_aload_n (n := 0) (pc := 62) 53 rfl rfl rfl dX11_isOuterHand_62 (fun r2 => ?_)
  refine ji_getr (pc := 63) 68 wfX11_56 (jRc3 rfl) jcl_53 jrf_53_18 dX11_isOuterHand_63 ?_
  refine ji_iload_n (n := 3) (pc := 66) l3 rfl rfl rfl dX11_isOuterHand_66 (fun r3 => ?_)
  refine ji_iaload (pc := 67) (jRc3 rfl) r3 hF dX11_isOuterHand_67 (fun x4 r_x4 hF => ?_)
  refine ji_iadd (pc := 68)  hF dX11_isOuterHand_68 (fun x5 r_x5 hF => ?_)
  refine ji_istore_n (n := 1) (pc := 69) [3, 1, 1, 1] [53, x5, t0, l3] rfl r_x5 (Nat.le_of_ble_eq_true rfl) rfl rfl dX11_isOuterHand_69 ?_
  refine ji_iinc (pc := 70) l3 (fun w => [53, x5, t0, w]) rfl rfl rfl (fun _ => rfl) hF dX11_isOuterHand_70 (fun x6 r_x6 hF => ?_)
  refine jg_goto (pc := 73) 17 dX11_isOuterHand_73 rfl ?_
  refine jg_norm [3, 1, 1, 1] [53, x5, t0, x6] rfl rfl ?_
  exact hk17 _ _ _ _ hF
set_option maxRecDepth 100000 in
set_option maxHeartbeats 4000000 in
theorem obX11_isOuterHand_17 {E : jEnv} {Rr : Int → jMem → Prop} {k76 : Int → Int → jMem → jO} (hk76 : ∀ (l1 l2 : Int) (s : jMem), jHo Rr (k76 l1 l2 s) → jGo E MX11_isOuterHand 1 Rr [0, 1, 1, 0] 76 [0, l1, l2, 0] ([]) s) {rec : Int → Int → Int → jMem → jO} (hrec : ∀ (l1 l2 l3 : Int) (s : jMem), jHo Rr (rec l1 l2 l3 s) → jGo E MX11_isOuterHand 1 Rr [3, 1, 1, 1] 17 [53, l1, l2, l3] ([]) s) : ∀ (l1 l2 l3 : Int) (s : jMem), jHo Rr (bX11_isOuterHand_17 k76 rec l1 l2 l3 s) → jGo E MX11_isOuterHand 1 Rr [3, 1, 1, 1] 17 [53, l1, l2, l3] ([]) s := by
  intro l1 l2 l3 s0 hF
  unfold bX11_isOuterHand_17 at hF
  refine ji_iload_n (n := 3) (pc := 17) l3 rfl rfl rfl dX11_isOuterHand_17 (fun r1 => ?_)
  refine jg_bipush (pc := 18) rfl dX11_isOuterHand_18 ?_
  refine ji_icmp_ge 76 (pc := 20) r1 (jRc rfl) hF dX11_isOuterHand_20 rfl (fun hF => ?_) (fun hF => ?_)
  · refine jg_norm [0, 1, 1, 0] [0, l1, l2, 0] rfl rfl ?_
    exact hk76 _ _ _ hF
  · refine ji_iload_n (n := 2) (pc := 23) l2 rfl rfl rfl dX11_isOuterHand_23 (fun r2 => ?_)
    refine ji_if_eq 59 (pc := 24) r2 hF dX11_isOuterHand_24 rfl (fun hF => ?_) (fun hF => ?_)
    · refine jg_norm [3, 1, 0, 1] [53, l1, 0, l3] rfl rfl ?_
      exact obX11_isOuterHand_59 (obX11_isOuterHand_60 hrec) _ _ _ hF
    · refine ji_iload_n (n := 3) (pc := 27) l3 rfl rfl rfl dX11_isOuterHand_27 (fun r3 => ?_)
      refine ji_callSz (pc := 28) [l3] ([]) oX11_isOuter wlX11_162 wmX11_isOuter rfl rfl (Nat.le_of_ble_eq_true rfl) (jRaC r3 jRa0) rfl rfl (Nat.le_of_ble_eq_true rfl) hF dX11_isOuterHand_28 (fun x4 s5 r_x4 hF => ?_)
      refine ji_if_eq 46 (pc := 31) (jR51 r_x4) hF dX11_isOuterHand_31 rfl (fun hF => ?_) (fun hF => ?_)
      · refine ji_aload_n (n := 0) (pc := 46) 53 rfl rfl rfl dX11_isOuterHand_46 (fun r6 => ?_)
        refine ji_getr (pc := 47) 68 wfX11_56 (jRc3 rfl) jcl_53 jrf_53_18 dX11_isOuterHand_47 ?_
        refine ji_iload_n (n := 3) (pc := 50) l3 rfl rfl rfl dX11_isOuterHand_50 (fun r7 => ?_)
        refine ji_iaload (pc := 51) (jRc3 rfl) r7 hF dX11_isOuterHand_51 (fun x8 r_x8 hF => ?_)
        refine ji_if_ne 59 (pc := 52) r_x8 hF dX11_isOuterHand_52 rfl (fun hF => ?_) (fun hF => ?_)
        · refine jg_norm [3, 1, 0, 1] [53, l1, 0, l3] rfl rfl ?_
          exact obX11_isOuterHand_59 (obX11_isOuterHand_60 hrec) _ _ _ hF
        · refine jg_norm [3, 1, 0, 1] [53, l1, 0, l3] rfl rfl ?_
          exact obX11_isOuterHand_55 (obX11_isOuterHand_60 hrec) _ _ _ hF
      · refine ji_aload_n (n := 0) (pc := 34) 53 rfl rfl rfl dX11_isOuterHand_34 (fun r9 => ?_)
        refine ji_getr (pc := 35) 68 wfX11_56 (jRc3 rfl) jcl_53 jrf_53_18 dX11_isOuterHand_35 ?_
        refine ji_iload_n (n := 3) (pc := 38) l3 rfl rfl rfl dX11_isOuterHand_38 (fun r10 => ?_)
        refine ji_iaload (pc := 39) (jRc3 rfl) r10 hF dX11_isOuterHand_39 (fun x11 r_x11 hF => ?_)
        refine ji_if_le 59 (pc := 40) r_x11 hF dX11_isOuterHand_40 rfl (fun hF => ?_) (fun hF => ?_)
        · refine jg_norm [3, 1, 0, 1] [53, l1, 0, l3] rfl rfl ?_
          exact obX11_isOuterHand_59 (obX11_isOuterHand_60 hrec) _ _ _ hF
        · refine jg_goto (pc := 43) 55 dX11_isOuterHand_43 rfl ?_
          refine jg_norm [3, 1, 0, 1] [53, l1, 0, l3] rfl rfl ?_
          exact obX11_isOuterHand_55 (obX11_isOuterHand_60 hrec) _ _ _ hF
theorem obX11_isOuterHand_17W {E : jEnv} {Rr : Int → jMem → Prop} {k76 : Int → Int → jMem → jO} (hk76 : ∀ (l1 l2 : Int) (s : jMem), jHo Rr (k76 l1 l2 s) → jGo E MX11_isOuterHand 1 Rr [0, 1, 1, 0] 76 [0, l1, l2, 0] ([]) s) : ∀ n : Nat, ∀ (l1 l2 l3 : Int) (s : jMem), jHo Rr (jIt (fun _ _ _ _ => none) (bX11_isOuterHand_17 k76) n l1 l2 l3 s) → jGo E MX11_isOuterHand 1 Rr [3, 1, 1, 1] 17 [53, l1, l2, l3] ([]) s := by
  intro n
  induction n with
  | zero => intro l1 l2 l3 s hF; exact jHo_none hF
  | succ n ih => exact obX11_isOuterHand_17 hk76 ih

set_option maxRecDepth 100000 in
set_option maxHeartbeats 4000000 in
theorem obX11_isOuterHand_76 {E : jEnv} {Rr : Int → jMem → Prop} : ∀ (l1 l2 : Int) (s : jMem), jHo Rr (bX11_isOuterHand_76 l1 l2 s) → jGo E MX11_isOuterHand 1 Rr [0, 1, 1, 0] 76 [0, l1, l2, 0] ([]) s := by
  intro l1 l2 s0 hF
  unfold bX11_isOuterHand_76 at hF
  refine ji_iload_n (n := 2) (pc := 76) l2 rfl rfl rfl dX11_isOuterHand_76 (fun r1 => ?_)
  refine ji_if_eq 90 (pc := 77) r1 hF dX11_isOuterHand_77 rfl (fun hF => ?_) (fun hF => ?_)
  · refine ji_iconst (pc := 90) dX11_isOuterHand_90 ?_
    exact ji_retz (pc := 91) rfl (jRc5 rfl) hF dX11_isOuterHand_91
  · refine ji_iload_n (n := 1) (pc := 80) l1 rfl rfl rfl dX11_isOuterHand_80 (fun r2 => ?_)
    refine jg_bipush (pc := 81) rfl dX11_isOuterHand_81 ?_
    refine ji_icmp_ne 90 (pc := 83) r2 (jRc rfl) hF dX11_isOuterHand_83 rfl (fun hF => ?_) (fun hF => ?_)
    · refine ji_iconst (pc := 90) dX11_isOuterHand_90 ?_
      exact ji_retz (pc := 91) rfl (jRc5 rfl) hF dX11_isOuterHand_91
    · refine ji_iconst (pc := 86) dX11_isOuterHand_86 ?_
      refine jg_goto (pc := 87) 91 dX11_isOuterHand_87 rfl ?_
      exact ji_retz (pc := 91) rfl (jRc5 rfl) hF dX11_isOuterHand_91
set_option maxRecDepth 100000 in
set_option maxHeartbeats 4000000 in
theorem obX11_isOuterHand_14 {E : jEnv} {Rr : Int → jMem → Prop} : ∀ (l1 t0 : Int) (s : jMem), jR 1 t0 → jHo Rr (bX11_isOuterHand_14 l1 t0 s) → jGo E MX11_isOuterHand 1 Rr [3, 1, 0, 0] 14 [53, l1, 0, 0] (jV E 1 t0 :: []) s := by
  intro l1 t0 s0 r_t0 hF
  unfold bX11_isOuterHand_14 at hF
  refine ji_istore_n (n := 2) (pc := 14) [3, 1, 1, 0] [53, l1, t0, 0] rfl r_t0 (Nat.le_of_ble_eq_true rfl) rfl rfl dX11_isOuterHand_14 ?_
  refine ji_iconst (pc := 15) dX11_isOuterHand_15 ?_
  refine ji_istore_n (n := 3) (pc := 16) [3, 1, 1, 1] [53, l1, t0, 0] rfl (jRc rfl) (Nat.le_of_ble_eq_true rfl) rfl rfl dX11_isOuterHand_16 ?_
  refine jg_norm [3, 1, 1, 1] [53, l1, t0, 0] rfl rfl ?_
  exact obX11_isOuterHand_17W obX11_isOuterHand_76 1000 _ _ _ _ hF
set_option maxRecDepth 100000 in
set_option maxHeartbeats 4000000 in
theorem oX11_isOuterHand : jOk MX11_isOuterHand [3] 1 (jFn gX11_isOuterHand) := by
  refine jOk_fn (by decide +kernel) (Nat.le_of_ble_eq_true rfl) (by decide +kernel) (.inr (.inr (.inr rfl))) ?_
  intro E vs s0 Rr hF ha
  obtain ⟨l0, t0, rfl, r_l0, ha⟩ := jRa_ci ha
  obtain rfl := jRa_ni ha
  replace hF : jHo Rr (jGd (l0 = 53) <| fX11_isOuterHand s0) := hF
  have hG := jHo_as hF
  clear hF
  obtain ⟨rfl, hF⟩ := hG
  refine jg_norm [3, 0, 0, 0] [53, 0, 0, 0] rfl rfl ?_
  unfold fX11_isOuterHand at hF
  refine ji_iconst (pc := 0) dX11_isOuterHand_0 ?_
  refine ji_istore_n (n := 1) (pc := 1) [3, 1, 0, 0] [53, 0, 0, 0] rfl (jRc rfl) (Nat.le_of_ble_eq_true rfl) rfl rfl dX11_isOuterHand_1 ?_
  refine ji_aload_n (n := 0) (pc := 2) 53 rfl rfl rfl dX11_isOuterHand_2 (fun r1 => ?_)
  refine ji_getfi (pc := 3) wfX11_158 (jRc3 rfl) jcl_53 hF dX11_isOuterHand_3 (fun x2 r_x2 hF => ?_)
  refine ji_if_ne 13 (pc := 6) r_x2 hF dX11_isOuterHand_6 rfl (fun hF => ?_) (fun hF => ?_)
  · refine ji_iconst (pc := 13) dX11_isOuterHand_13 ?_
    refine jg_norm [3, 1, 0, 0] [53, 0, 0, 0] rfl rfl ?_
    exact obX11_isOuterHand_14 _ _ _ (jRc rfl) hF
  · refine ji_iconst (pc := 9) dX11_isOuterHand_9 ?_
    refine jg_goto (pc := 10) 14 dX11_isOuterHand_10 rfl ?_
    refine jg_norm [3, 1, 0, 0] [53, 0, 0, 0] rfl rfl ?_
    exact obX11_isOuterHand_14 _ _ _ (jRc rfl) hF
def bX11_isWay_14 (k38 : Int → Int → jMem → jO) (rec : Int → Int → Int → jMem → jO) (l1 l2 l3 : Int) (s0 : jMem) : jO :=
if 34 ≤ l3 then (
k38 l1 l2 s0)
else (
jGd ((0 : Int) ≤ l3 ∧ l3 < jik 68) <| jLet (s0 68 l3) fun x6 =>
jGd ((0 : Int) ≤ l3 ∧ l3 < jik 70) <| jLet (jU s0 70 l3 x6) fun s7 =>
jLet (j32 (l3 + 1)) fun x8 =>
rec l1 l2 x8 s7)
def bX11_isWay_74 (k97 : Int → Int → Int → Int → jMem → jO) (rec : Int → Int → Int → Int → jMem → jO) (l2 l3 l4 l5 : Int) (s0 : jMem) : jO :=
if 34 ≤ l4 then (
k97 l2 l3 l4 l5 s0)
else (
jGd ((0 : Int) ≤ l4 ∧ l4 < jik 70) <| jLet (s0 70 l4) fun x4 =>
if x4 = 0 then (
jLet (j32 (l4 + 1)) fun x5 =>
rec l2 l3 x5 l5 s0)
else (
k97 l2 l3 l4 l5 s0))
def bX11_isWay_278 (k68 : Int → Int → Int → Int → jMem → jO) (l2 l3 l4 l5 t1 t2 t3 : Int) (s0 : jMem) : jO :=
jLet (j32 (t2 * t3)) fun x1 =>
jLet (j32 (x1 + l4)) fun x3 =>
jGd ((0 : Int) ≤ t1 ∧ t1 < jik 71) <| jLet (jU s0 71 t1 x3) fun s4 =>
jLet (j32 (l5 + 1)) fun x5 =>
k68 l2 l3 l4 x5 s4
def bX11_isWay_258 (k68 : Int → Int → Int → Int → jMem → jO) (l2 l3 l4 l5 l6 : Int) (s0 : jMem) : jO :=
jLet (j32 (1 + l5)) fun x3 =>
if l6 = 0 then (
bX11_isWay_278 k68 l2 l3 l4 l5 x3 100 2 s0)
else (
bX11_isWay_278 k68 l2 l3 l4 l5 x3 100 1 s0)
def bX11_isWay_225 (k68 : Int → Int → Int → Int → jMem → jO) (l2 l3 l4 l5 l6 t1 t2 t3 : Int) (s0 : jMem) : jO :=
jLet (j32 (t2 - t3)) fun x1 =>
jGd ((0 : Int) ≤ t1 ∧ t1 < jik 70) <| jLet (jU s0 70 t1 x1) fun s2 =>
if l6 = 0 then (
bX11_isWay_258 k68 l2 l3 l4 l5 l6 s2)
else (
jLet (j32 (l4 + 1)) fun x6 =>
jGd ((0 : Int) ≤ x6 ∧ x6 < jik 70) <| jLet (s2 70 x6) fun x7 =>
jLet (j32 (x7 - 1)) fun x8 =>
jGd ((0 : Int) ≤ x6 ∧ x6 < jik 70) <| jLet (jU s2 70 x6 x8) fun s9 =>
jLet (j32 (l4 + 2)) fun x12 =>
jGd ((0 : Int) ≤ x12 ∧ x12 < jik 70) <| jLet (s9 70 x12) fun x13 =>
jLet (j32 (x13 - 1)) fun x14 =>
jGd ((0 : Int) ≤ x12 ∧ x12 < jik 70) <| jLet (jU s9 70 x12 x14) fun s15 =>
bX11_isWay_258 k68 l2 l3 l4 l5 l6 s15)
def bX11_isWay_207 (k68 : Int → Int → Int → Int → jMem → jO) (l2 l3 l4 l5 l6 : Int) (s0 : jMem) : jO :=
jGd ((0 : Int) ≤ l4 ∧ l4 < jik 70) <| jLet (s0 70 l4) fun x3 =>
if l6 = 0 then (
bX11_isWay_225 k68 l2 l3 l4 l5 l6 l4 x3 3 s0)
else (
bX11_isWay_225 k68 l2 l3 l4 l5 l6 l4 x3 1 s0)
def bX11_isWay_180 (k68 : Int → Int → Int → Int → jMem → jO) (l2 l3 l4 l5 l6 : Int) (s0 : jMem) : jO :=
if l6 = 0 then (
if l5 ≤ 0 then (
bX11_isWay_207 k68 l2 l3 l4 l5 l6 s0)
else (
jGd ((0 : Int) ≤ l5 ∧ l5 < jik 71) <| jLet (s0 71 l5) fun x5 =>
jLet (j32 (100 + l4)) fun x7 =>
if x5 = x7 then (
jRet 0 s0)
else (
bX11_isWay_207 k68 l2 l3 l4 l5 l6 s0)))
else (
bX11_isWay_207 k68 l2 l3 l4 l5 l6 s0)
def bX11_isWay_125 (k68 : Int → Int → Int → Int → jMem → jO) (l2 l3 l4 l5 t0 : Int) (s0 : jMem) : jO :=
if t0 = 0 then (
jGd ((0 : Int) ≤ l4 ∧ l4 < jik 70) <| jLet (s0 70 l4) fun x4 =>
if 3 ≤ x4 then (
bX11_isWay_180 k68 l2 l3 l4 l5 t0 s0)
else (
jRet 0 s0))
else (
jBd (fX11_begins l4 s0) fun x6 s7 =>
if x6 = 0 then (
jRet 0 s7)
else (
jLet (j32 (l4 + 1)) fun x10 =>
jGd ((0 : Int) ≤ x10 ∧ x10 < jik 70) <| jLet (s7 70 x10) fun x11 =>
if x11 = 0 then (
jRet 0 s7)
else (
jLet (j32 (l4 + 2)) fun x14 =>
jGd ((0 : Int) ≤ x14 ∧ x14 < jik 70) <| jLet (s7 70 x14) fun x15 =>
if x15 = 0 then (
jRet 0 s7)
else (
bX11_isWay_180 k68 l2 l3 l4 l5 t0 s7))))
def bX11_isWay_97 (k68 : Int → Int → Int → Int → jMem → jO) (l2 l3 l4 l5 : Int) (s0 : jMem) : jO :=
if l4 = 34 then (
jRet 0 s0)
else (
jLet (j32 (l3 - 1)) fun x4 =>
jLet (j32 (x4 - l5)) fun x6 =>
jLet (jshr l2 x6) fun x7 =>
jLet (jand x7 1) fun x8 =>
if x8 = 1 then (
bX11_isWay_125 k68 l2 l3 l4 l5 1 s0)
else (
bX11_isWay_125 k68 l2 l3 l4 l5 0 s0))
def bX11_isWay_68 (k289 : jMem → jO) (rec : Int → Int → Int → Int → jMem → jO) (l2 l3 l4 l5 : Int) (s0 : jMem) : jO :=
if l3 ≤ l5 then (
k289 s0)
else (
jIt (fun _ _ _ _ _ => none) (bX11_isWay_74 (bX11_isWay_97 rec)) 1000 l2 l3 l4 l5 s0)
def bX11_isWay_321 (k322 : Int → Int → jMem → jO) (l6 : Int) (s0 : jMem) : jO :=
k322 l6 0 s0
def bX11_isWay_322 (k295 : Int → Int → jMem → jO) (l6 t0 : Int) (s0 : jMem) : jO :=
jLet (j32 (l6 + 1)) fun x1 =>
k295 t0 x1 s0
def bX11_isWay_295 (rec : Int → Int → jMem → jO) (l5 l6 : Int) (s0 : jMem) : jO :=
if 34 ≤ l6 then (
jGd (0 ≤ l5 ∧ l5 ≤ 1) <| jRet l5 s0)
else (
if l5 = 0 then (
bX11_isWay_321 (bX11_isWay_322 rec) l6 s0)
else (
jGd ((0 : Int) ≤ l6 ∧ l6 < jik 70) <| jLet (s0 70 l6) fun x7 =>
if x7 = 0 then (
bX11_isWay_322 rec l6 1 s0)
else (
bX11_isWay_321 (bX11_isWay_322 rec) l6 s0)))
def bX11_isWay_289 (s0 : jMem) : jO :=
jIt (fun _ _ _ => none) (bX11_isWay_295) 1000 1 0 s0
def bX11_isWay_38 (l1 l2 : Int) (s0 : jMem) : jO :=
jGd ((0 : Int) ≤ l1 ∧ l1 < jik 70) <| jLet (s0 70 l1) fun x3 =>
jLet (j32 (x3 - 2)) fun x4 =>
jGd ((0 : Int) ≤ l1 ∧ l1 < jik 70) <| jLet (jU s0 70 l1 x4) fun s5 =>
jGd ((0 : Int) ≤ 0 ∧ 0 < jik 71) <| jLet (jU s5 71 0 l1) fun s8 =>
jLet (s8 53 20) fun x10 =>
jLet (j32 (4 - x10)) fun x11 =>
jIt (fun _ _ _ _ _ => none) (bX11_isWay_68 bX11_isWay_289) 1000 l2 x11 0 0 s8
def fX11_isWay (l1 l2 : Int) (s0 : jMem) : jO :=
jGd ((0 : Int) ≤ l1 ∧ l1 < jik 68) <| jLet (s0 68 l1) fun x3 =>
if 2 ≤ x3 then (
jIt (fun _ _ _ _ => none) (bX11_isWay_14 bX11_isWay_38) 1000 l1 l2 0 s0)
else (
jRet 0 s0)
def gX11_isWay (vs : List Int) (s : jMem) : jO := match vs with
  | [a0, a1, a2] => jGd (a0 = 53) <| fX11_isWay a1 a2 s
  | _ => none
set_option maxRecDepth 100000 in
set_option maxHeartbeats 4000000 in
theorem obX11_isWay_14 {E : jEnv} {Rr : Int → jMem → Prop} {k38 : Int → Int → jMem → jO} (hk38 : ∀ (l1 l2 : Int) (s : jMem), jHo Rr (k38 l1 l2 s) → jGo E MX11_isWay 1 Rr [3, 1, 1, 0, 0, 0, 0] 38 [53, l1, l2, 0, 0, 0, 0] ([]) s) {rec : Int → Int → Int → jMem → jO} (hrec : ∀ (l1 l2 l3 : Int) (s : jMem), jHo Rr (rec l1 l2 l3 s) → jGo E MX11_isWay 1 Rr [3, 1, 1, 1, 0, 0, 0] 14 [53, l1, l2, l3, 0, 0, 0] ([]) s) : ∀ (l1 l2 l3 : Int) (s : jMem), jHo Rr (bX11_isWay_14 k38 rec l1 l2 l3 s) → jGo E MX11_isWay 1 Rr [3, 1, 1, 1, 0, 0, 0] 14 [53, l1, l2, l3, 0, 0, 0] ([]) s := by
  intro l1 l2 l3 s0 hF
  unfold bX11_isWay_14 at hF
  refine ji_iload_n (n := 3) (pc := 14) l3 rfl rfl rfl dX11_isWay_14 (fun r1 => ?_)
  refine jg_bipush (pc := 15) rfl dX11_isWay_15 ?_
  refine ji_icmp_ge 38 (pc := 17) r1 (jRc rfl) hF dX11_isWay_17 rfl (fun hF => ?_) (fun hF => ?_)
  · refine jg_norm [3, 1, 1, 0, 0, 0, 0] [53, l1, l2, 0, 0, 0, 0] rfl rfl ?_
    exact hk38 _ _ _ hF
  · refine ji_aload_n (n := 0) (pc := 20) 53 rfl rfl rfl dX11_isWay_20 (fun r2 => ?_)
    refine ji_getr (pc := 21) 70 wfX11_62 (jRc3 rfl) jcl_53 jrf_53_21 dX11_isWay_21 ?_
    refine ji_iload_n (n := 3) (pc := 24) l3 rfl rfl rfl dX11_isWay_24 (fun r3 => ?_)
    refine ji_aload_n (n := 0) (pc := 25) 53 rfl rfl rfl dX11_isWay_25 (fun r4 => ?_)
    refine ji_getr (pc := 26) 68 wfX11_56 (jRc3 rfl) jcl_53 jrf_53_18 dX11_isWay_26 ?_
    refine ji_iload_n (n := 3) (pc := 29) l3 rfl rfl rfl dX11_isWay_29 (fun r5 => ?_)
    refine ji_iaload (pc := 30) (jRc3 rfl) r5 hF dX11_isWay_30 (fun x6 r_x6 hF => ?_)
    refine ji_iastore (pc := 31) (jRc3 rfl) r3 r_x6 hF dX11_isWay_31 (fun s7 hF => ?_)
    refine ji_iinc (pc := 32) l3 (fun w => [53, l1, l2, w, 0, 0, 0]) rfl rfl rfl (fun _ => rfl) hF dX11_isWay_32 (fun x8 r_x8 hF => ?_)
    refine jg_goto (pc := 35) 14 dX11_isWay_35 rfl ?_
    refine jg_norm [3, 1, 1, 1, 0, 0, 0] [53, l1, l2, x8, 0, 0, 0] rfl rfl ?_
    exact hrec _ _ _ _ hF
theorem obX11_isWay_14W {E : jEnv} {Rr : Int → jMem → Prop} {k38 : Int → Int → jMem → jO} (hk38 : ∀ (l1 l2 : Int) (s : jMem), jHo Rr (k38 l1 l2 s) → jGo E MX11_isWay 1 Rr [3, 1, 1, 0, 0, 0, 0] 38 [53, l1, l2, 0, 0, 0, 0] ([]) s) : ∀ n : Nat, ∀ (l1 l2 l3 : Int) (s : jMem), jHo Rr (jIt (fun _ _ _ _ => none) (bX11_isWay_14 k38) n l1 l2 l3 s) → jGo E MX11_isWay 1 Rr [3, 1, 1, 1, 0, 0, 0] 14 [53, l1, l2, l3, 0, 0, 0] ([]) s := by
  intro n
  induction n with
  | zero => intro l1 l2 l3 s hF; exact jHo_none hF
  | succ n ih => exact obX11_isWay_14 hk38 ih

set_option maxRecDepth 100000 in
set_option maxHeartbeats 4000000 in
theorem obX11_isWay_74 {E : jEnv} {Rr : Int → jMem → Prop} {k97 : Int → Int → Int → Int → jMem → jO} (hk97 : ∀ (l2 l3 l4 l5 : Int) (s : jMem), jHo Rr (k97 l2 l3 l4 l5 s) → jGo E MX11_isWay 1 Rr [3, 0, 1, 1, 1, 1, 0] 97 [53, 0, l2, l3, l4, l5, 0] ([]) s) {rec : Int → Int → Int → Int → jMem → jO} (hrec : ∀ (l2 l3 l4 l5 : Int) (s : jMem), jHo Rr (rec l2 l3 l4 l5 s) → jGo E MX11_isWay 1 Rr [3, 0, 1, 1, 1, 1, 0] 74 [53, 0, l2, l3, l4, l5, 0] ([]) s) : ∀ (l2 l3 l4 l5 : Int) (s : jMem), jHo Rr (bX11_isWay_74 k97 rec l2 l3 l4 l5 s) → jGo E MX11_isWay 1 Rr [3, 0, 1, 1, 1, 1, 0] 74 [53, 0, l2, l3, l4, l5, 0] ([]) s := by
  intro l2 l3 l4 l5 s0 hF
  unfold bX11_isWay_74 at hF
  refine ji_iload (pc := 74) l4 rfl rfl dX11_isWay_74 (fun r1 => ?_)
  refine jg_bipush (pc := 76) rfl dX11_isWay_76 ?_
  refine ji_icmp_ge 97 (pc := 78) r1 (jRc rfl) hF dX11_isWay_78 rfl (fun hF => ?_) (fun hF => ?_)
  · refine jg_norm [3, 0, 1, 1, 1, 1, 0] [53, 0, l2, l3, l4, l5, 0] rfl rfl ?_
    exact hk97 _ _ _ _ _ hF
  · refine ji_aload_n (n := 0) (pc := 81) 53 rfl rfl rfl dX11_isWay_81 (fun r2 => ?_)
    refine ji_getr (pc := 82) 70 wfX11_62 (jRc3 rfl) jcl_53 jrf_53_21 dX11_isWay_82 ?_
    refine ji_iload (pc := 85) l4 rfl rfl dX11_isWay_85 (fun r3 => ?_)
    refine ji_iaload (pc := 87) (jRc3 rfl) r3 hF dX11_isWay_87 (fun x4 r_x4 hF => ?_)
    refine ji_if_ne 97 (pc := 88) r_x4 hF dX11_isWay_88 rfl (fun hF => ?_) (fun hF => ?_)
    · refine jg_norm [3, 0, 1, 1, 1, 1, 0] [53, 0, l2, l3, l4, l5, 0] rfl rfl ?_
      exact hk97 _ _ _ _ _ hF
    · refine ji_iinc (pc := 91) l4 (fun w => [53, 0, l2, l3, w, l5, 0]) rfl rfl rfl (fun _ => rfl) hF dX11_isWay_91 (fun x5 r_x5 hF => ?_)
      refine jg_goto (pc := 94) 74 dX11_isWay_94 rfl ?_
      refine jg_norm [3, 0, 1, 1, 1, 1, 0] [53, 0, l2, l3, x5, l5, 0] rfl rfl ?_
      exact hrec _ _ _ _ _ hF
theorem obX11_isWay_74W {E : jEnv} {Rr : Int → jMem → Prop} {k97 : Int → Int → Int → Int → jMem → jO} (hk97 : ∀ (l2 l3 l4 l5 : Int) (s : jMem), jHo Rr (k97 l2 l3 l4 l5 s) → jGo E MX11_isWay 1 Rr [3, 0, 1, 1, 1, 1, 0] 97 [53, 0, l2, l3, l4, l5, 0] ([]) s) : ∀ n : Nat, ∀ (l2 l3 l4 l5 : Int) (s : jMem), jHo Rr (jIt (fun _ _ _ _ _ => none) (bX11_isWay_74 k97) n l2 l3 l4 l5 s) → jGo E MX11_isWay 1 Rr [3, 0, 1, 1, 1, 1, 0] 74 [53, 0, l2, l3, l4, l5, 0] ([]) s := by
  intro n
  induction n with
  | zero => intro l2 l3 l4 l5 s hF; exact jHo_none hF
  | succ n ih => exact obX11_isWay_74 hk97 ih

set_option maxRecDepth 100000 in
set_option maxHeartbeats 4000000 in
theorem obX11_isWay_278 {E : jEnv} {Rr : Int → jMem → Prop} {k68 : Int → Int → Int → Int → jMem → jO} (hk68 : ∀ (l2 l3 l4 l5 : Int) (s : jMem), jHo Rr (k68 l2 l3 l4 l5 s) → jGo E MX11_isWay 1 Rr [3, 0, 1, 1, 1, 1, 0] 68 [53, 0, l2, l3, l4, l5, 0] ([]) s) : ∀ (l2 l3 l4 l5 t1 t2 t3 : Int) (s : jMem), jR 1 t1 → jR 1 t2 → jR 1 t3 → jHo Rr (bX11_isWay_278 k68 l2 l3 l4 l5 t1 t2 t3 s) → jGo E MX11_isWay 1 Rr [3, 0, 1, 1, 1, 1, 0] 278 [53, 0, l2, l3, l4, l5, 0] (jV E 1 t3 :: jV E 1 t2 :: jV E 1 t1 :: jV E 3 71 :: []) s := by
  intro l2 l3 l4 l5 t1 t2 t3 s0 r_t1 r_t2 r_t3 hF
  unfold bX11_isWay_278 at hF
  refine ji_imul (pc := 278)  hF dX11_isWay_278 (fun x1 r_x1 hF => ?_)
  refine ji_iload (pc := 279) l4 rfl rfl dX11_isWay_279 (fun r2 => ?_)
  refine ji_iadd (pc := 281)  hF dX11_isWay_281 (fun x3 r_x3 hF => ?_)
  refine ji_iastore (pc := 282) (jRc3 rfl) r_t1 r_x3 hF dX11_isWay_282 (fun s4 hF => ?_)
  refine ji_iinc (pc := 283) l5 (fun w => [53, 0, l2, l3, l4, w, 0]) rfl rfl rfl (fun _ => rfl) hF dX11_isWay_283 (fun x5 r_x5 hF => ?_)
  refine jg_goto (pc := 286) 68 dX11_isWay_286 rfl ?_
  refine jg_norm [3, 0, 1, 1, 1, 1, 0] [53, 0, l2, l3, l4, x5, 0] rfl rfl ?_
  exact hk68 _ _ _ _ _ hF
set_option maxRecDepth 100000 in
set_option maxHeartbeats 4000000 in
theorem obX11_isWay_258 {E : jEnv} {Rr : Int → jMem → Prop} {k68 : Int → Int → Int → Int → jMem → jO} (hk68 : ∀ (l2 l3 l4 l5 : Int) (s : jMem), jHo Rr (k68 l2 l3 l4 l5 s) → jGo E MX11_isWay 1 Rr [3, 0, 1, 1, 1, 1, 0] 68 [53, 0, l2, l3, l4, l5, 0] ([]) s) : ∀ (l2 l3 l4 l5 l6 : Int) (s : jMem), jHo Rr (bX11_isWay_258 k68 l2 l3 l4 l5 l6 s) → jGo E MX11_isWay 1 Rr [3, 0, 1, 1, 1, 1, 1] 258 [53, 0, l2, l3, l4, l5, l6] ([]) s := by
  intro l2 l3 l4 l5 l6 s0 hF
  unfold bX11_isWay_258 at hF
  refine ji_aload_n (n := 0) (pc := 258) 53 rfl rfl rfl dX11_isWay_258 (fun r1 => ?_)
  refine ji_getr (pc := 259) 71 wfX11_65 (jRc3 rfl) jcl_53 jrf_53_22 dX11_isWay_259 ?_
  refine ji_iconst (pc := 262) dX11_isWay_262 ?_
  refine ji_iload (pc := 263) l5 rfl rfl dX11_isWay_263 (fun r2 => ?_)
  refine ji_iadd (pc := 265)  hF dX11_isWay_265 (fun x3 r_x3 hF => ?_)
  refine jg_bipush (pc := 266) rfl dX11_isWay_266 ?_
  refine ji_iload (pc := 268) l6 rfl rfl dX11_isWay_268 (fun r4 => ?_)
  refine ji_if_eq 277 (pc := 270) r4 hF dX11_isWay_270 rfl (fun hF => ?_) (fun hF => ?_)
  · refine ji_iconst (pc := 277) dX11_isWay_277 ?_
    refine jg_norm [3, 0, 1, 1, 1, 1, 0] [53, 0, l2, l3, l4, l5, 0] rfl rfl ?_
    exact obX11_isWay_278 hk68 _ _ _ _ _ _ _ _ r_x3 (jRc rfl) (jRc rfl) hF
  · refine ji_iconst (pc := 273) dX11_isWay_273 ?_
    refine jg_goto (pc := 274) 278 dX11_isWay_274 rfl ?_
    refine jg_norm [3, 0, 1, 1, 1, 1, 0] [53, 0, l2, l3, l4, l5, 0] rfl rfl ?_
    exact obX11_isWay_278 hk68 _ _ _ _ _ _ _ _ r_x3 (jRc rfl) (jRc rfl) hF
set_option maxRecDepth 100000 in
set_option maxHeartbeats 4000000 in
theorem obX11_isWay_225 {E : jEnv} {Rr : Int → jMem → Prop} {k68 : Int → Int → Int → Int → jMem → jO} (hk68 : ∀ (l2 l3 l4 l5 : Int) (s : jMem), jHo Rr (k68 l2 l3 l4 l5 s) → jGo E MX11_isWay 1 Rr [3, 0, 1, 1, 1, 1, 0] 68 [53, 0, l2, l3, l4, l5, 0] ([]) s) : ∀ (l2 l3 l4 l5 l6 t1 t2 t3 : Int) (s : jMem), jR 1 t1 → jR 1 t2 → jR 1 t3 → jHo Rr (bX11_isWay_225 k68 l2 l3 l4 l5 l6 t1 t2 t3 s) → jGo E MX11_isWay 1 Rr [3, 0, 1, 1, 1, 1, 1] 225 [53, 0, l2, l3, l4, l5, l6] (jV E 1 t3 :: jV E 1 t2 :: jV E 1 t1 :: jV E 3 70 :: []) s := by
  intro l2 l3 l4 l5 l6 t1 t2 t3 s0 r_t1 r_t2 r_t3 hF
  unfold bX11_isWay_225 at hF
  refine ji_isub (pc := 225)  hF dX11_isWay_225 (fun x1 r_x1 hF => ?_)
  refine ji_iastore (pc := 226) (jRc3 rfl) r_t1 r_x1 hF dX11_isWay_226 (fun s2 hF => ?_)
  refine ji_iload (pc := 227) l6 rfl rfl dX11_isWay_227 (fun r3 => ?_)
  refine ji_if_eq 258 (pc := 229) r3 hF dX11_isWay_229 rfl (fun hF => ?_) (fun hF => ?_)
  · refine jg_norm [3, 0, 1, 1, 1, 1, 1] [53, 0, l2, l3, l4, l5, l6] rfl rfl ?_
    exact obX11_isWay_258 hk68 _ _ _ _ _ _ hF
  · refine ji_aload_n (n := 0) (pc := 232) 53 rfl rfl rfl dX11_isWay_232 (fun r4 => ?_)
    refine ji_getr (pc := 233) 70 wfX11_62 (jRc3 rfl) jcl_53 jrf_53_21 dX11_isWay_233 ?_
    refine ji_iload (pc := 236) l4 rfl rfl dX11_isWay_236 (fun r5 => ?_)
    refine ji_iconst (pc := 238) dX11_isWay_238 ?_
    refine ji_iadd (pc := 239)  hF dX11_isWay_239 (fun x6 r_x6 hF => ?_)
    refine jg_dup2 (pc := 240) (by decide) (by decide) dX11_isWay_240 ?_
    refine ji_iaload (pc := 241) (jRc3 rfl) r_x6 hF dX11_isWay_241 (fun x7 r_x7 hF => ?_)
    refine ji_iconst (pc := 242) dX11_isWay_242 ?_
    refine ji_isub (pc := 243)  hF dX11_isWay_243 (fun x8 r_x8 hF => ?_)
    refine ji_iastore (pc := 244) (jRc3 rfl) r_x6 r_x8 hF dX11_isWay_244 (fun s9 hF => ?_)
    refine ji_aload_n (n := 0) (pc := 245) 53 rfl rfl rfl dX11_isWay_245 (fun r10 => ?_)
    refine ji_getr (pc := 246) 70 wfX11_62 (jRc3 rfl) jcl_53 jrf_53_21 dX11_isWay_246 ?_
    refine ji_iload (pc := 249) l4 rfl rfl dX11_isWay_249 (fun r11 => ?_)
    refine ji_iconst (pc := 251) dX11_isWay_251 ?_
    refine ji_iadd (pc := 252)  hF dX11_isWay_252 (fun x12 r_x12 hF => ?_)
    refine jg_dup2 (pc := 253) (by decide) (by decide) dX11_isWay_253 ?_
    refine ji_iaload (pc := 254) (jRc3 rfl) r_x12 hF dX11_isWay_254 (fun x13 r_x13 hF => ?_)
    refine ji_iconst (pc := 255) dX11_isWay_255 ?_
    refine ji_isub (pc := 256)  hF dX11_isWay_256 (fun x14 r_x14 hF => ?_)
    refine ji_iastore (pc := 257) (jRc3 rfl) r_x12 r_x14 hF dX11_isWay_257 (fun s15 hF => ?_)
    refine jg_norm [3, 0, 1, 1, 1, 1, 1] [53, 0, l2, l3, l4, l5, l6] rfl rfl ?_
    exact obX11_isWay_258 hk68 _ _ _ _ _ _ hF
set_option maxRecDepth 100000 in
set_option maxHeartbeats 4000000 in
theorem obX11_isWay_207 {E : jEnv} {Rr : Int → jMem → Prop} {k68 : Int → Int → Int → Int → jMem → jO} (hk68 : ∀ (l2 l3 l4 l5 : Int) (s : jMem), jHo Rr (k68 l2 l3 l4 l5 s) → jGo E MX11_isWay 1 Rr [3, 0, 1, 1, 1, 1, 0] 68 [53, 0, l2, l3, l4, l5, 0] ([]) s) : ∀ (l2 l3 l4 l5 l6 : Int) (s : jMem), jHo Rr (bX11_isWay_207 k68 l2 l3 l4 l5 l6 s) → jGo E MX11_isWay 1 Rr [3, 0, 1, 1, 1, 1, 1] 207 [53, 0, l2, l3, l4, l5, l6] ([]) s := by
  intro l2 l3 l4 l5 l6 s0 hF
  unfold bX11_isWay_207 at hF
  refine ji_aload_n (n := 0) (pc := 207) 53 rfl rfl rfl dX11_isWay_207 (fun r1 => ?_)
  refine ji_getr (pc := 208) 70 wfX11_62 (jRc3 rfl) jcl_53 jrf_53_21 dX11_isWay_208 ?_
  refine ji_iload (pc := 211) l4 rfl rfl dX11_isWay_211 (fun r2 => ?_)
  refine jg_dup2 (pc := 213) (by decide) (by decide) dX11_isWay_213 ?_
  refine ji_iaload (pc := 214) (jRc3 rfl) r2 hF dX11_isWay_214 (fun x3 r_x3 hF => ?_)
  refine ji_iload (pc := 215) l6 rfl rfl dX11_isWay_215 (fun r4 => ?_)
  refine ji_if_eq 224 (pc := 217) r4 hF dX11_isWay_217 rfl (fun hF => ?_) (fun hF => ?_)
  · refine ji_iconst (pc := 224) dX11_isWay_224 ?_
    refine jg_norm [3, 0, 1, 1, 1, 1, 1] [53, 0, l2, l3, l4, l5, l6] rfl rfl ?_
    exact obX11_isWay_225 hk68 _ _ _ _ _ _ _ _ _ r2 r_x3 (jRc rfl) hF
  · refine ji_iconst (pc := 220) dX11_isWay_220 ?_
    refine jg_goto (pc := 221) 225 dX11_isWay_221 rfl ?_
    refine jg_norm [3, 0, 1, 1, 1, 1, 1] [53, 0, l2, l3, l4, l5, l6] rfl rfl ?_
    exact obX11_isWay_225 hk68 _ _ _ _ _ _ _ _ _ r2 r_x3 (jRc rfl) hF
set_option maxRecDepth 100000 in
set_option maxHeartbeats 4000000 in
theorem obX11_isWay_180 {E : jEnv} {Rr : Int → jMem → Prop} {k68 : Int → Int → Int → Int → jMem → jO} (hk68 : ∀ (l2 l3 l4 l5 : Int) (s : jMem), jHo Rr (k68 l2 l3 l4 l5 s) → jGo E MX11_isWay 1 Rr [3, 0, 1, 1, 1, 1, 0] 68 [53, 0, l2, l3, l4, l5, 0] ([]) s) : ∀ (l2 l3 l4 l5 l6 : Int) (s : jMem), jHo Rr (bX11_isWay_180 k68 l2 l3 l4 l5 l6 s) → jGo E MX11_isWay 1 Rr [3, 0, 1, 1, 1, 1, 1] 180 [53, 0, l2, l3, l4, l5, l6] ([]) s := by
  intro l2 l3 l4 l5 l6 s0 hF
  unfold bX11_isWay_180 at hF
  refine ji_iload (pc := 180) l6 rfl rfl dX11_isWay_180 (fun r1 => ?_)
  refine ji_if_ne 207 (pc := 182) r1 hF dX11_isWay_182 rfl (fun hF => ?_) (fun hF => ?_)
  · refine jg_norm [3, 0, 1, 1, 1, 1, 1] [53, 0, l2, l3, l4, l5, l6] rfl rfl ?_
    exact obX11_isWay_207 hk68 _ _ _ _ _ _ hF
  · refine ji_iload (pc := 185) l5 rfl rfl dX11_isWay_185 (fun r2 => ?_)
    refine ji_if_le 207 (pc := 187) r2 hF dX11_isWay_187 rfl (fun hF => ?_) (fun hF => ?_)
    · refine jg_norm [3, 0, 1, 1, 1, 1, 1] [53, 0, l2, l3, l4, l5, l6] rfl rfl ?_
      exact obX11_isWay_207 hk68 _ _ _ _ _ _ hF
    · refine ji_aload_n (n := 0) (pc := 190) 53 rfl rfl rfl dX11_isWay_190 (fun r3 => ?_)
      refine ji_getr (pc := 191) 71 wfX11_65 (jRc3 rfl) jcl_53 jrf_53_22 dX11_isWay_191 ?_
      refine ji_iload (pc := 194) l5 rfl rfl dX11_isWay_194 (fun r4 => ?_)
      refine ji_iaload (pc := 196) (jRc3 rfl) r4 hF dX11_isWay_196 (fun x5 r_x5 hF => ?_)
      refine jg_bipush (pc := 197) rfl dX11_isWay_197 ?_
      refine ji_iload (pc := 199) l4 rfl rfl dX11_isWay_199 (fun r6 => ?_)
      refine ji_iadd (pc := 201)  hF dX11_isWay_201 (fun x7 r_x7 hF => ?_)
      refine ji_icmp_ne 207 (pc := 202) r_x5 r_x7 hF dX11_isWay_202 rfl (fun hF => ?_) (fun hF => ?_)
      · refine jg_norm [3, 0, 1, 1, 1, 1, 1] [53, 0, l2, l3, l4, l5, l6] rfl rfl ?_
        exact obX11_isWay_207 hk68 _ _ _ _ _ _ hF
      · refine ji_iconst (pc := 205) dX11_isWay_205 ?_
        exact ji_retz (pc := 206) rfl (jRc5 rfl) hF dX11_isWay_206
set_option maxRecDepth 100000 in
set_option maxHeartbeats 4000000 in
theorem obX11_isWay_125 {E : jEnv} {Rr : Int → jMem → Prop} {k68 : Int → Int → Int → Int → jMem → jO} (hk68 : ∀ (l2 l3 l4 l5 : Int) (s : jMem), jHo Rr (k68 l2 l3 l4 l5 s) → jGo E MX11_isWay 1 Rr [3, 0, 1, 1, 1, 1, 0] 68 [53, 0, l2, l3, l4, l5, 0] ([]) s) : ∀ (l2 l3 l4 l5 t0 : Int) (s : jMem), jR 1 t0 → jHo Rr (bX11_isWay_125 k68 l2 l3 l4 l5 t0 s) → jGo E MX11_isWay 1 Rr [3, 0, 1, 1, 1, 1, 0] 125 [53, 0, l2, l3, l4, l5, 0] (jV E 1 t0 :: []) s := by
  intro l2 l3 l4 l5 t0 s0 r_t0 hF
  unfold bX11_isWay_125 at hF
  refine ji_istore (n := 6) (pc := 125) [3, 0, 1, 1, 1, 1, 1] [53, 0, l2, l3, l4, l5, t0] r_t0 (Nat.le_of_ble_eq_true rfl) rfl rfl dX11_isWay_125 ?_
  refine ji_iload (pc := 127) t0 rfl rfl dX11_isWay_127 (fun r1 => ?_)
  refine ji_if_eq 167 (pc := 129) r1 hF dX11_isWay_129 rfl (fun hF => ?_) (fun hF => ?_)
  · refine ji_aload_n (n := 0) (pc := 167) 53 rfl rfl rfl dX11_isWay_167 (fun r2 => ?_)
    refine ji_getr (pc := 168) 70 wfX11_62 (jRc3 rfl) jcl_53 jrf_53_21 dX11_isWay_168 ?_
    refine ji_iload (pc := 171) l4 rfl rfl dX11_isWay_171 (fun r3 => ?_)
    refine ji_iaload (pc := 173) (jRc3 rfl) r3 hF dX11_isWay_173 (fun x4 r_x4 hF => ?_)
    refine ji_iconst (pc := 174) dX11_isWay_174 ?_
    refine ji_icmp_ge 180 (pc := 175) r_x4 (jRc rfl) hF dX11_isWay_175 rfl (fun hF => ?_) (fun hF => ?_)
    · refine jg_norm [3, 0, 1, 1, 1, 1, 1] [53, 0, l2, l3, l4, l5, t0] rfl rfl ?_
      exact obX11_isWay_180 hk68 _ _ _ _ _ _ hF
    · refine ji_iconst (pc := 178) dX11_isWay_178 ?_
      exact ji_retz (pc := 179) rfl (jRc5 rfl) hF dX11_isWay_179
  · refine ji_iload (pc := 132) l4 rfl rfl dX11_isWay_132 (fun r5 => ?_)
    refine ji_callSz (pc := 134) [l4] ([]) oX11_begins wlX11_141 wmX11_begins rfl rfl (Nat.le_of_ble_eq_true rfl) (jRaC r5 jRa0) rfl rfl (Nat.le_of_ble_eq_true rfl) hF dX11_isWay_134 (fun x6 s7 r_x6 hF => ?_)
    refine ji_if_eq 178 (pc := 137) (jR51 r_x6) hF dX11_isWay_137 rfl (fun hF => ?_) (fun hF => ?_)
    · refine ji_iconst (pc := 178) dX11_isWay_178 ?_
      exact ji_retz (pc := 179) rfl (jRc5 rfl) hF dX11_isWay_179
    · refine ji_aload_n (n := 0) (pc := 140) 53 rfl rfl rfl dX11_isWay_140 (fun r8 => ?_)
      refine ji_getr (pc := 141) 70 wfX11_62 (jRc3 rfl) jcl_53 jrf_53_21 dX11_isWay_141 ?_
      refine ji_iload (pc := 144) l4 rfl rfl dX11_isWay_144 (fun r9 => ?_)
      refine ji_iconst (pc := 146) dX11_isWay_146 ?_
      refine ji_iadd (pc := 147)  hF dX11_isWay_147 (fun x10 r_x10 hF => ?_)
      refine ji_iaload (pc := 148) (jRc3 rfl) r_x10 hF dX11_isWay_148 (fun x11 r_x11 hF => ?_)
      refine ji_if_eq 178 (pc := 149) r_x11 hF dX11_isWay_149 rfl (fun hF => ?_) (fun hF => ?_)
      · refine ji_iconst (pc := 178) dX11_isWay_178 ?_
        exact ji_retz (pc := 179) rfl (jRc5 rfl) hF dX11_isWay_179
      · refine ji_aload_n (n := 0) (pc := 152) 53 rfl rfl rfl dX11_isWay_152 (fun r12 => ?_)
        refine ji_getr (pc := 153) 70 wfX11_62 (jRc3 rfl) jcl_53 jrf_53_21 dX11_isWay_153 ?_
        refine ji_iload (pc := 156) l4 rfl rfl dX11_isWay_156 (fun r13 => ?_)
        refine ji_iconst (pc := 158) dX11_isWay_158 ?_
        refine ji_iadd (pc := 159)  hF dX11_isWay_159 (fun x14 r_x14 hF => ?_)
        refine ji_iaload (pc := 160) (jRc3 rfl) r_x14 hF dX11_isWay_160 (fun x15 r_x15 hF => ?_)
        refine ji_if_ne 180 (pc := 161) r_x15 hF dX11_isWay_161 rfl (fun hF => ?_) (fun hF => ?_)
        · refine jg_norm [3, 0, 1, 1, 1, 1, 1] [53, 0, l2, l3, l4, l5, t0] rfl rfl ?_
          exact obX11_isWay_180 hk68 _ _ _ _ _ _ hF
        · refine jg_goto (pc := 164) 178 dX11_isWay_164 rfl ?_
          refine ji_iconst (pc := 178) dX11_isWay_178 ?_
          exact ji_retz (pc := 179) rfl (jRc5 rfl) hF dX11_isWay_179
set_option maxRecDepth 100000 in
set_option maxHeartbeats 4000000 in
theorem obX11_isWay_97 {E : jEnv} {Rr : Int → jMem → Prop} {k68 : Int → Int → Int → Int → jMem → jO} (hk68 : ∀ (l2 l3 l4 l5 : Int) (s : jMem), jHo Rr (k68 l2 l3 l4 l5 s) → jGo E MX11_isWay 1 Rr [3, 0, 1, 1, 1, 1, 0] 68 [53, 0, l2, l3, l4, l5, 0] ([]) s) : ∀ (l2 l3 l4 l5 : Int) (s : jMem), jHo Rr (bX11_isWay_97 k68 l2 l3 l4 l5 s) → jGo E MX11_isWay 1 Rr [3, 0, 1, 1, 1, 1, 0] 97 [53, 0, l2, l3, l4, l5, 0] ([]) s := by
  intro l2 l3 l4 l5 s0 hF
  unfold bX11_isWay_97 at hF
  refine ji_iload (pc := 97) l4 rfl rfl dX11_isWay_97 (fun r1 => ?_)
  refine jg_bipush (pc := 99) rfl dX11_isWay_99 ?_
  refine ji_icmp_ne 106 (pc := 101) r1 (jRc rfl) hF dX11_isWay_101 rfl (fun hF => ?_) (fun hF => ?_)
  · refine ji_iload_n (n := 2) (pc := 106) l2 rfl rfl rfl dX11_isWay_106 (fun r2 => ?_)
    refine ji_iload_n (n := 3) (pc := 107) l3 rfl rfl rfl dX11_isWay_107 (fun r3 => ?_)
    refine ji_iconst (pc := 108) dX11_isWay_108 ?_
    refine ji_isub (pc := 109)  hF dX11_isWay_109 (fun x4 r_x4 hF => ?_)
    refine ji_iload (pc := 110) l5 rfl rfl dX11_isWay_110 (fun r5 => ?_)
    refine ji_isub (pc := 112)  hF dX11_isWay_112 (fun x6 r_x6 hF => ?_)
    refine ji_ishr (pc := 113)  hF dX11_isWay_113 (fun x7 r_x7 hF => ?_)
    refine ji_iconst (pc := 114) dX11_isWay_114 ?_
    refine ji_iand (pc := 115)  hF dX11_isWay_115 (fun x8 r_x8 hF => ?_)
    refine ji_iconst (pc := 116) dX11_isWay_116 ?_
    refine ji_icmp_ne 124 (pc := 117) r_x8 (jRc rfl) hF dX11_isWay_117 rfl (fun hF => ?_) (fun hF => ?_)
    · refine ji_iconst (pc := 124) dX11_isWay_124 ?_
      refine jg_norm [3, 0, 1, 1, 1, 1, 0] [53, 0, l2, l3, l4, l5, 0] rfl rfl ?_
      exact obX11_isWay_125 hk68 _ _ _ _ _ _ (jRc rfl) hF
    · refine ji_iconst (pc := 120) dX11_isWay_120 ?_
      refine jg_goto (pc := 121) 125 dX11_isWay_121 rfl ?_
      refine jg_norm [3, 0, 1, 1, 1, 1, 0] [53, 0, l2, l3, l4, l5, 0] rfl rfl ?_
      exact obX11_isWay_125 hk68 _ _ _ _ _ _ (jRc rfl) hF
  · refine ji_iconst (pc := 104) dX11_isWay_104 ?_
    exact ji_retz (pc := 105) rfl (jRc5 rfl) hF dX11_isWay_105
set_option maxRecDepth 100000 in
set_option maxHeartbeats 4000000 in
theorem obX11_isWay_68 {E : jEnv} {Rr : Int → jMem → Prop} {k289 : jMem → jO} (hk289 : ∀ (s : jMem), jHo Rr (k289 s) → jGo E MX11_isWay 1 Rr [3, 0, 0, 0, 0, 0, 0] 289 [53, 0, 0, 0, 0, 0, 0] ([]) s) {rec : Int → Int → Int → Int → jMem → jO} (hrec : ∀ (l2 l3 l4 l5 : Int) (s : jMem), jHo Rr (rec l2 l3 l4 l5 s) → jGo E MX11_isWay 1 Rr [3, 0, 1, 1, 1, 1, 0] 68 [53, 0, l2, l3, l4, l5, 0] ([]) s) : ∀ (l2 l3 l4 l5 : Int) (s : jMem), jHo Rr (bX11_isWay_68 k289 rec l2 l3 l4 l5 s) → jGo E MX11_isWay 1 Rr [3, 0, 1, 1, 1, 1, 0] 68 [53, 0, l2, l3, l4, l5, 0] ([]) s := by
  intro l2 l3 l4 l5 s0 hF
  unfold bX11_isWay_68 at hF
  refine ji_iload (pc := 68) l5 rfl rfl dX11_isWay_68 (fun r1 => ?_)
  refine ji_iload_n (n := 3) (pc := 70) l3 rfl rfl rfl dX11_isWay_70 (fun r2 => ?_)
  refine ji_icmp_ge 289 (pc := 71) r1 r2 hF dX11_isWay_71 rfl (fun hF => ?_) (fun hF => ?_)
  · refine jg_norm [3, 0, 0, 0, 0, 0, 0] [53, 0, 0, 0, 0, 0, 0] rfl rfl ?_
    exact hk289 _ hF
  · refine jg_norm [3, 0, 1, 1, 1, 1, 0] [53, 0, l2, l3, l4, l5, 0] rfl rfl ?_
    exact obX11_isWay_74W (obX11_isWay_97 hrec) 1000 _ _ _ _ _ hF
theorem obX11_isWay_68W {E : jEnv} {Rr : Int → jMem → Prop} {k289 : jMem → jO} (hk289 : ∀ (s : jMem), jHo Rr (k289 s) → jGo E MX11_isWay 1 Rr [3, 0, 0, 0, 0, 0, 0] 289 [53, 0, 0, 0, 0, 0, 0] ([]) s) : ∀ n : Nat, ∀ (l2 l3 l4 l5 : Int) (s : jMem), jHo Rr (jIt (fun _ _ _ _ _ => none) (bX11_isWay_68 k289) n l2 l3 l4 l5 s) → jGo E MX11_isWay 1 Rr [3, 0, 1, 1, 1, 1, 0] 68 [53, 0, l2, l3, l4, l5, 0] ([]) s := by
  intro n
  induction n with
  | zero => intro l2 l3 l4 l5 s hF; exact jHo_none hF
  | succ n ih => exact obX11_isWay_68 hk289 ih

set_option maxRecDepth 100000 in
set_option maxHeartbeats 4000000 in
theorem obX11_isWay_321 {E : jEnv} {Rr : Int → jMem → Prop} {k322 : Int → Int → jMem → jO} (hk322 : ∀ (l6 t0 : Int) (s : jMem), jR 1 t0 → jHo Rr (k322 l6 t0 s) → jGo E MX11_isWay 1 Rr [3, 0, 0, 0, 0, 0, 1] 322 [53, 0, 0, 0, 0, 0, l6] (jV E 1 t0 :: []) s) : ∀ (l6 : Int) (s : jMem), jHo Rr (bX11_isWay_321 k322 l6 s) → jGo E MX11_isWay 1 Rr [3, 0, 0, 0, 0, 0, 1] 321 [53, 0, 0, 0, 0, 0, l6] ([]) s := by
  intro l6 s0 hF
  unfold bX11_isWay_321 at hF
  refine ji_iconst (pc := 321) dX11_isWay_321 ?_
  refine jg_norm [3, 0, 0, 0, 0, 0, 1] [53, 0, 0, 0, 0, 0, l6] rfl rfl ?_
  exact hk322 _ _ _ (jRc rfl) hF
set_option maxRecDepth 100000 in
set_option maxHeartbeats 4000000 in
theorem obX11_isWay_322 {E : jEnv} {Rr : Int → jMem → Prop} {k295 : Int → Int → jMem → jO} (hk295 : ∀ (l5 l6 : Int) (s : jMem), jHo Rr (k295 l5 l6 s) → jGo E MX11_isWay 1 Rr [3, 0, 0, 0, 0, 1, 1] 295 [53, 0, 0, 0, 0, l5, l6] ([]) s) : ∀ (l6 t0 : Int) (s : jMem), jR 1 t0 → jHo Rr (bX11_isWay_322 k295 l6 t0 s) → jGo E MX11_isWay 1 Rr [3, 0, 0, 0, 0, 0, 1] 322 [53, 0, 0, 0, 0, 0, l6] (jV E 1 t0 :: []) s := by
  intro l6 t0 s0 r_t0 hF
  unfold bX11_isWay_322 at hF
  refine ji_istore (n := 5) (pc := 322) [3, 0, 0, 0, 0, 1, 1] [53, 0, 0, 0, 0, t0, l6] r_t0 (Nat.le_of_ble_eq_true rfl) rfl rfl dX11_isWay_322 ?_
  refine ji_iinc (pc := 324) l6 (fun w => [53, 0, 0, 0, 0, t0, w]) rfl rfl rfl (fun _ => rfl) hF dX11_isWay_324 (fun x1 r_x1 hF => ?_)
  refine jg_goto (pc := 327) 295 dX11_isWay_327 rfl ?_
  refine jg_norm [3, 0, 0, 0, 0, 1, 1] [53, 0, 0, 0, 0, t0, x1] rfl rfl ?_
  exact hk295 _ _ _ hF
set_option maxRecDepth 100000 in
set_option maxHeartbeats 4000000 in
theorem obX11_isWay_295 {E : jEnv} {Rr : Int → jMem → Prop} {rec : Int → Int → jMem → jO} (hrec : ∀ (l5 l6 : Int) (s : jMem), jHo Rr (rec l5 l6 s) → jGo E MX11_isWay 1 Rr [3, 0, 0, 0, 0, 1, 1] 295 [53, 0, 0, 0, 0, l5, l6] ([]) s) : ∀ (l5 l6 : Int) (s : jMem), jHo Rr (bX11_isWay_295 rec l5 l6 s) → jGo E MX11_isWay 1 Rr [3, 0, 0, 0, 0, 1, 1] 295 [53, 0, 0, 0, 0, l5, l6] ([]) s := by
  intro l5 l6 s0 hF
  unfold bX11_isWay_295 at hF
  refine ji_iload (pc := 295) l6 rfl rfl dX11_isWay_295 (fun r1 => ?_)
  refine jg_bipush (pc := 297) rfl dX11_isWay_297 ?_
  refine ji_icmp_ge 330 (pc := 299) r1 (jRc rfl) hF dX11_isWay_299 rfl (fun hF => ?_) (fun hF => ?_)
  · refine ji_iload (pc := 330) l5 rfl rfl dX11_isWay_330 (fun r2 => ?_)
    obtain ⟨h3, hF⟩ := jHo_as hF
    exact ji_retz (pc := 332) rfl h3 hF dX11_isWay_332
  · refine ji_iload (pc := 302) l5 rfl rfl dX11_isWay_302 (fun r4 => ?_)
    refine ji_if_eq 321 (pc := 304) r4 hF dX11_isWay_304 rfl (fun hF => ?_) (fun hF => ?_)
    · refine jg_norm [3, 0, 0, 0, 0, 0, 1] [53, 0, 0, 0, 0, 0, l6] rfl rfl ?_
      exact obX11_isWay_321 (obX11_isWay_322 hrec) _ _ hF
    · refine ji_aload_n (n := 0) (pc := 307) 53 rfl rfl rfl dX11_isWay_307 (fun r5 => ?_)
      refine ji_getr (pc := 308) 70 wfX11_62 (jRc3 rfl) jcl_53 jrf_53_21 dX11_isWay_308 ?_
      refine ji_iload (pc := 311) l6 rfl rfl dX11_isWay_311 (fun r6 => ?_)
      refine ji_iaload (pc := 313) (jRc3 rfl) r6 hF dX11_isWay_313 (fun x7 r_x7 hF => ?_)
      refine ji_if_ne 321 (pc := 314) r_x7 hF dX11_isWay_314 rfl (fun hF => ?_) (fun hF => ?_)
      · refine jg_norm [3, 0, 0, 0, 0, 0, 1] [53, 0, 0, 0, 0, 0, l6] rfl rfl ?_
        exact obX11_isWay_321 (obX11_isWay_322 hrec) _ _ hF
      · refine ji_iconst (pc := 317) dX11_isWay_317 ?_
        refine jg_goto (pc := 318) 322 dX11_isWay_318 rfl ?_
        refine jg_norm [3, 0, 0, 0, 0, 0, 1] [53, 0, 0, 0, 0, 0, l6] rfl rfl ?_
        exact obX11_isWay_322 hrec _ _ _ (jRc rfl) hF
theorem obX11_isWay_295W {E : jEnv} {Rr : Int → jMem → Prop} : ∀ n : Nat, ∀ (l5 l6 : Int) (s : jMem), jHo Rr (jIt (fun _ _ _ => none) (bX11_isWay_295) n l5 l6 s) → jGo E MX11_isWay 1 Rr [3, 0, 0, 0, 0, 1, 1] 295 [53, 0, 0, 0, 0, l5, l6] ([]) s := by
  intro n
  induction n with
  | zero => intro l5 l6 s hF; exact jHo_none hF
  | succ n ih => exact obX11_isWay_295 ih

set_option maxRecDepth 100000 in
set_option maxHeartbeats 4000000 in
theorem obX11_isWay_289 {E : jEnv} {Rr : Int → jMem → Prop} : ∀ (s : jMem), jHo Rr (bX11_isWay_289 s) → jGo E MX11_isWay 1 Rr [3, 0, 0, 0, 0, 0, 0] 289 [53, 0, 0, 0, 0, 0, 0] ([]) s := by
  intro s0 hF
  unfold bX11_isWay_289 at hF
  refine ji_iconst (pc := 289) dX11_isWay_289 ?_
  refine ji_istore (n := 5) (pc := 290) [3, 0, 0, 0, 0, 1, 0] [53, 0, 0, 0, 0, 1, 0] (jRc rfl) (Nat.le_of_ble_eq_true rfl) rfl rfl dX11_isWay_290 ?_
  refine ji_iconst (pc := 292) dX11_isWay_292 ?_
  refine ji_istore (n := 6) (pc := 293) [3, 0, 0, 0, 0, 1, 1] [53, 0, 0, 0, 0, 1, 0] (jRc rfl) (Nat.le_of_ble_eq_true rfl) rfl rfl dX11_isWay_293 ?_
  refine jg_norm [3, 0, 0, 0, 0, 1, 1] [53, 0, 0, 0, 0, 1, 0] rfl rfl ?_
  exact obX11_isWay_295W 1000 _ _ _ hF
set_option maxRecDepth 100000 in
set_option maxHeartbeats 4000000 in
theorem obX11_isWay_38 {E : jEnv} {Rr : Int → jMem → Prop} : ∀ (l1 l2 : Int) (s : jMem), jHo Rr (bX11_isWay_38 l1 l2 s) → jGo E MX11_isWay 1 Rr [3, 1, 1, 0, 0, 0, 0] 38 [53, l1, l2, 0, 0, 0, 0] ([]) s := by
  intro l1 l2 s0 hF
  unfold bX11_isWay_38 at hF
  refine ji_aload_n (n := 0) (pc := 38) 53 rfl rfl rfl dX11_isWay_38 (fun r1 => ?_)
  refine ji_getr (pc := 39) 70 wfX11_62 (jRc3 rfl) jcl_53 jrf_53_21 dX11_isWay_39 ?_
  refine ji_iload_n (n := 1) (pc := 42) l1 rfl rfl rfl dX11_isWay_42 (fun r2 => ?_)
  refine jg_dup2 (pc := 43) (by decide) (by decide) dX11_isWay_43 ?_
  refine ji_iaload (pc := 44) (jRc3 rfl) r2 hF dX11_isWay_44 (fun x3 r_x3 hF => ?_)
  refine ji_iconst (pc := 45) dX11_isWay_45 ?_
  refine ji_isub (pc := 46)  hF dX11_isWay_46 (fun x4 r_x4 hF => ?_)
  refine ji_iastore (pc := 47) (jRc3 rfl) r2 r_x4 hF dX11_isWay_47 (fun s5 hF => ?_)
  refine ji_aload_n (n := 0) (pc := 48) 53 rfl rfl rfl dX11_isWay_48 (fun r6 => ?_)
  refine ji_getr (pc := 49) 71 wfX11_65 (jRc3 rfl) jcl_53 jrf_53_22 dX11_isWay_49 ?_
  refine ji_iconst (pc := 52) dX11_isWay_52 ?_
  refine ji_iload_n (n := 1) (pc := 53) l1 rfl rfl rfl dX11_isWay_53 (fun r7 => ?_)
  refine ji_iastore (pc := 54) (jRc3 rfl) (jRc rfl) r7 hF dX11_isWay_54 (fun s8 hF => ?_)
  refine ji_iconst (pc := 55) dX11_isWay_55 ?_
  refine ji_aload_n (n := 0) (pc := 56) 53 rfl rfl rfl dX11_isWay_56 (fun r9 => ?_)
  refine ji_getfi (pc := 57) wfX11_158 (jRc3 rfl) jcl_53 hF dX11_isWay_57 (fun x10 r_x10 hF => ?_)
  refine ji_isub (pc := 60)  hF dX11_isWay_60 (fun x11 r_x11 hF => ?_)
  refine ji_istore_n (n := 3) (pc := 61) [3, 1, 1, 1, 0, 0, 0] [53, l1, l2, x11, 0, 0, 0] rfl r_x11 (Nat.le_of_ble_eq_true rfl) rfl rfl dX11_isWay_61 ?_
  refine ji_iconst (pc := 62) dX11_isWay_62 ?_
  refine ji_istore (n := 4) (pc := 63) [3, 1, 1, 1, 1, 0, 0] [53, l1, l2, x11, 0, 0, 0] (jRc rfl) (Nat.le_of_ble_eq_true rfl) rfl rfl dX11_isWay_63 ?_
  refine ji_iconst (pc := 65) dX11_isWay_65 ?_
  refine ji_istore (n := 5) (pc := 66) [3, 1, 1, 1, 1, 1, 0] [53, l1, l2, x11, 0, 0, 0] (jRc rfl) (Nat.le_of_ble_eq_true rfl) rfl rfl dX11_isWay_66 ?_
  refine jg_norm [3, 0, 1, 1, 1, 1, 0] [53, 0, l2, x11, 0, 0, 0] rfl rfl ?_
  exact obX11_isWay_68W obX11_isWay_289 1000 _ _ _ _ _ hF
set_option maxRecDepth 100000 in
set_option maxHeartbeats 4000000 in
theorem oX11_isWay : jOk MX11_isWay [3, 1, 1] 1 (jFn gX11_isWay) := by
  refine jOk_fn (by decide +kernel) (Nat.le_of_ble_eq_true rfl) (by decide +kernel) (.inr (.inr (.inr rfl))) ?_
  intro E vs s0 Rr hF ha
  obtain ⟨l0, t0, rfl, r_l0, ha⟩ := jRa_ci ha
  obtain ⟨l1, t1, rfl, r_l1, ha⟩ := jRa_ci ha
  obtain ⟨l2, t2, rfl, r_l2, ha⟩ := jRa_ci ha
  obtain rfl := jRa_ni ha
  replace hF : jHo Rr (jGd (l0 = 53) <| fX11_isWay l1 l2 s0) := hF
  have hG := jHo_as hF
  clear hF
  obtain ⟨rfl, hF⟩ := hG
  refine jg_norm [3, 1, 1, 0, 0, 0, 0] [53, l1, l2, 0, 0, 0, 0] rfl rfl ?_
  unfold fX11_isWay at hF
  refine ji_aload_n (n := 0) (pc := 0) 53 rfl rfl rfl dX11_isWay_0 (fun r1 => ?_)
  refine ji_getr (pc := 1) 68 wfX11_56 (jRc3 rfl) jcl_53 jrf_53_18 dX11_isWay_1 ?_
  refine ji_iload_n (n := 1) (pc := 4) l1 rfl rfl rfl dX11_isWay_4 (fun r2 => ?_)
  refine ji_iaload (pc := 5) (jRc3 rfl) r2 hF dX11_isWay_5 (fun x3 r_x3 hF => ?_)
  refine ji_iconst (pc := 6) dX11_isWay_6 ?_
  refine ji_icmp_ge 12 (pc := 7) r_x3 (jRc rfl) hF dX11_isWay_7 rfl (fun hF => ?_) (fun hF => ?_)
  · refine ji_iconst (pc := 12) dX11_isWay_12 ?_
    refine ji_istore_n (n := 3) (pc := 13) [3, 1, 1, 1, 0, 0, 0] [53, l1, l2, 0, 0, 0, 0] rfl (jRc rfl) (Nat.le_of_ble_eq_true rfl) rfl rfl dX11_isWay_13 ?_
    refine jg_norm [3, 1, 1, 1, 0, 0, 0] [53, l1, l2, 0, 0, 0, 0] rfl rfl ?_
    exact obX11_isWay_14W obX11_isWay_38 1000 _ _ _ _ hF
  · refine ji_iconst (pc := 10) dX11_isWay_10 ?_
    exact ji_retz (pc := 11) rfl (jRc5 rfl) hF dX11_isWay_11
def fX11_rowOf (l0 : Int) (s0 : jMem) : jO :=
jGd (¬ (9 : Int) = 0) <| jLet (jdiv l0 9) fun x2 =>
jRet x2 s0
def gX11_rowOf (vs : List Int) (s : jMem) : jO := match vs with
  | [a0] => fX11_rowOf a0 s
  | _ => none
set_option maxRecDepth 100000 in
set_option maxHeartbeats 4000000 in
theorem oX11_rowOf : jOk MX11_rowOf [1] 0 (jFn gX11_rowOf) := by
  refine jOk_fn (by decide +kernel) (Nat.le_of_ble_eq_true rfl) (by decide +kernel) (.inr (.inl rfl)) ?_
  intro E vs s0 Rr hF ha
  obtain ⟨l0, t0, rfl, r_l0, ha⟩ := jRa_ci ha
  obtain rfl := jRa_ni ha
  replace hF : jHo Rr (fX11_rowOf l0 s0) := hF
  refine jg_norm [1] [l0] rfl rfl ?_
  unfold fX11_rowOf at hF
  refine ji_iload_n (n := 0) (pc := 0) l0 rfl rfl rfl dX11_rowOf_0 (fun r1 => ?_)
  refine jg_bipush (pc := 1) rfl dX11_rowOf_1 ?_
  refine ji_idiv (pc := 3) (jRc rfl) hF dX11_rowOf_3 (fun x2 r_x2 hF => ?_)
  exact ji_reti (pc := 4) rfl r_x2 hF dX11_rowOf_4
def bX11_mayBe_45 (k82 : Int → Int → Int → Int → jMem → jO) (rec : Int → Int → Int → Int → Int → jMem → jO) (l1 l2 l3 l4 l5 : Int) (s0 : jMem) : jO :=
jLet (j32 (9 * l3)) fun x3 =>
jLet (j32 (x3 + 9)) fun x4 =>
if x4 ≤ l5 then (
k82 l1 l2 l3 l4 s0)
else (
if 34 ≤ l5 then (
k82 l1 l2 l3 l4 s0)
else (
jGd ((0 : Int) ≤ l5 ∧ l5 < jik 68) <| jLet (s0 68 l5) fun x9 =>
jLet (j32 (l4 + x9)) fun x10 =>
jLet (j32 (l5 + 1)) fun x11 =>
rec l1 l2 l3 x10 x11 s0))
def bX11_mayBe_97 (k98 : Int → Int → Int → jMem → jO) (l1 l3 : Int) (s0 : jMem) : jO :=
k98 l1 l3 0 s0
def bX11_mayBe_98 (k18 : Int → Int → Int → jMem → jO) (l1 l3 t0 : Int) (s0 : jMem) : jO :=
jLet (j32 (l3 + 1)) fun x1 =>
k18 l1 t0 x1 s0
def bX11_mayBe_82 (k18 : Int → Int → Int → jMem → jO) (l1 l2 l3 l4 : Int) (s0 : jMem) : jO :=
if l2 = 0 then (
bX11_mayBe_97 (bX11_mayBe_98 k18) l1 l3 s0)
else (
jGd (¬ (3 : Int) = 0) <| jLet (jrem l4 3) fun x3 =>
if x3 = 0 then (
bX11_mayBe_98 k18 l1 l3 1 s0)
else (
bX11_mayBe_97 (bX11_mayBe_98 k18) l1 l3 s0))
def bX11_mayBe_37 (k18 : Int → Int → Int → jMem → jO) (l1 l2 l3 t0 : Int) (s0 : jMem) : jO :=
jLet (j32 (9 * l3)) fun x2 =>
jIt (fun _ _ _ _ _ _ => none) (bX11_mayBe_45 (bX11_mayBe_82 k18)) 1000 l1 l2 l3 t0 x2 s0
def bX11_mayBe_18 (rec : Int → Int → Int → jMem → jO) (l1 l2 l3 : Int) (s0 : jMem) : jO :=
if 4 ≤ l3 then (
jGd (0 ≤ l2 ∧ l2 ≤ 1) <| jRet l2 s0)
else (
jBd (fX11_rowOf l1 s0) fun x5 s6 =>
if x5 = l3 then (
bX11_mayBe_37 rec l1 l2 l3 (-2) s6)
else (
bX11_mayBe_37 rec l1 l2 l3 0 s6))
def bX11_mayBe_15 (l1 t0 : Int) (s0 : jMem) : jO :=
jIt (fun _ _ _ _ => none) (bX11_mayBe_18) 1000 l1 t0 0 s0
def fX11_mayBe (l1 : Int) (s0 : jMem) : jO :=
jGd ((0 : Int) ≤ l1 ∧ l1 < jik 68) <| jLet (s0 68 l1) fun x3 =>
if x3 ≤ 1 then (
bX11_mayBe_15 l1 0 s0)
else (
bX11_mayBe_15 l1 1 s0)
def gX11_mayBe (vs : List Int) (s : jMem) : jO := match vs with
  | [a0, a1] => jGd (a0 = 53) <| fX11_mayBe a1 s
  | _ => none
set_option maxRecDepth 100000 in
set_option maxHeartbeats 4000000 in
theorem obX11_mayBe_45 {E : jEnv} {Rr : Int → jMem → Prop} {k82 : Int → Int → Int → Int → jMem → jO} (hk82 : ∀ (l1 l2 l3 l4 : Int) (s : jMem), jHo Rr (k82 l1 l2 l3 l4 s) → jGo E MX11_mayBe 1 Rr [3, 1, 1, 1, 1, 0] 82 [53, l1, l2, l3, l4, 0] ([]) s) {rec : Int → Int → Int → Int → Int → jMem → jO} (hrec : ∀ (l1 l2 l3 l4 l5 : Int) (s : jMem), jHo Rr (rec l1 l2 l3 l4 l5 s) → jGo E MX11_mayBe 1 Rr [3, 1, 1, 1, 1, 1] 45 [53, l1, l2, l3, l4, l5] ([]) s) : ∀ (l1 l2 l3 l4 l5 : Int) (s : jMem), jHo Rr (bX11_mayBe_45 k82 rec l1 l2 l3 l4 l5 s) → jGo E MX11_mayBe 1 Rr [3, 1, 1, 1, 1, 1] 45 [53, l1, l2, l3, l4, l5] ([]) s := by
  intro l1 l2 l3 l4 l5 s0 hF
  unfold bX11_mayBe_45 at hF
  refine ji_iload (pc := 45) l5 rfl rfl dX11_mayBe_45 (fun r1 => ?_)
  refine jg_bipush (pc := 47) rfl dX11_mayBe_47 ?_
  refine ji_iload_n (n := 3) (pc := 49) l3 rfl rfl rfl dX11_mayBe_49 (fun r2 => ?_)
  refine ji_imul (pc := 50)  hF dX11_mayBe_50 (fun x3 r_x3 hF => ?_)
  refine jg_bipush (pc := 51) rfl dX11_mayBe_51 ?_
  refine ji_iadd (pc := 53)  hF dX11_mayBe_53 (fun x4 r_x4 hF => ?_)
  refine ji_icmp_ge 82 (pc := 54) r1 r_x4 hF dX11_mayBe_54 rfl (fun hF => ?_) (fun hF => ?_)
  · refine jg_norm [3, 1, 1, 1, 1, 0] [53, l1, l2, l3, l4, 0] rfl rfl ?_
    exact hk82 _ _ _ _ _ hF
  · refine ji_iload (pc := 57) l5 rfl rfl dX11_mayBe_57 (fun r5 => ?_)
    refine jg_bipush (pc := 59) rfl dX11_mayBe_59 ?_
    refine ji_icmp_ge 82 (pc := 61) r5 (jRc rfl) hF dX11_mayBe_61 rfl (fun hF => ?_) (fun hF => ?_)
    · refine jg_norm [3, 1, 1, 1, 1, 0] [53, l1, l2, l3, l4, 0] rfl rfl ?_
      exact hk82 _ _ _ _ _ hF
    · refine ji_iload (pc := 64) l4 rfl rfl dX11_mayBe_64 (fun r6 => ?_)
      refine ji_aload_n (n := 0) (pc := 66) 53 rfl rfl rfl dX11_mayBe_66 (fun r7 => ?_)
      refine ji_getr (pc := 67) 68 wfX11_56 (jRc3 rfl) jcl_53 jrf_53_18 dX11_mayBe_67 ?_
      refine ji_iload (pc := 70) l5 rfl rfl dX11_mayBe_70 (fun r8 => ?_)
      refine ji_iaload (pc := 72) (jRc3 rfl) r8 hF dX11_mayBe_72 (fun x9 r_x9 hF => ?_)
      refine ji_iadd (pc := 73)  hF dX11_mayBe_73 (fun x10 r_x10 hF => ?_)
      refine ji_istore (n := 4) (pc := 74) [3, 1, 1, 1, 1, 1] [53, l1, l2, l3, x10, l5] r_x10 (Nat.le_of_ble_eq_true rfl) rfl rfl dX11_mayBe_74 ?_
      refine ji_iinc (pc := 76) l5 (fun w => [53, l1, l2, l3, x10, w]) rfl rfl rfl (fun _ => rfl) hF dX11_mayBe_76 (fun x11 r_x11 hF => ?_)
      refine jg_goto (pc := 79) 45 dX11_mayBe_79 rfl ?_
      refine jg_norm [3, 1, 1, 1, 1, 1] [53, l1, l2, l3, x10, x11] rfl rfl ?_
      exact hrec _ _ _ _ _ _ hF
theorem obX11_mayBe_45W {E : jEnv} {Rr : Int → jMem → Prop} {k82 : Int → Int → Int → Int → jMem → jO} (hk82 : ∀ (l1 l2 l3 l4 : Int) (s : jMem), jHo Rr (k82 l1 l2 l3 l4 s) → jGo E MX11_mayBe 1 Rr [3, 1, 1, 1, 1, 0] 82 [53, l1, l2, l3, l4, 0] ([]) s) : ∀ n : Nat, ∀ (l1 l2 l3 l4 l5 : Int) (s : jMem), jHo Rr (jIt (fun _ _ _ _ _ _ => none) (bX11_mayBe_45 k82) n l1 l2 l3 l4 l5 s) → jGo E MX11_mayBe 1 Rr [3, 1, 1, 1, 1, 1] 45 [53, l1, l2, l3, l4, l5] ([]) s := by
  intro n
  induction n with
  | zero => intro l1 l2 l3 l4 l5 s hF; exact jHo_none hF
  | succ n ih => exact obX11_mayBe_45 hk82 ih

set_option maxRecDepth 100000 in
set_option maxHeartbeats 4000000 in
theorem obX11_mayBe_97 {E : jEnv} {Rr : Int → jMem → Prop} {k98 : Int → Int → Int → jMem → jO} (hk98 : ∀ (l1 l3 t0 : Int) (s : jMem), jR 1 t0 → jHo Rr (k98 l1 l3 t0 s) → jGo E MX11_mayBe 1 Rr [3, 1, 0, 1, 0, 0] 98 [53, l1, 0, l3, 0, 0] (jV E 1 t0 :: []) s) : ∀ (l1 l3 : Int) (s : jMem), jHo Rr (bX11_mayBe_97 k98 l1 l3 s) → jGo E MX11_mayBe 1 Rr [3, 1, 0, 1, 0, 0] 97 [53, l1, 0, l3, 0, 0] ([]) s := by
  intro l1 l3 s0 hF
  unfold bX11_mayBe_97 at hF
  refine ji_iconst (pc := 97) dX11_mayBe_97 ?_
  refine jg_norm [3, 1, 0, 1, 0, 0] [53, l1, 0, l3, 0, 0] rfl rfl ?_
  exact hk98 _ _ _ _ (jRc rfl) hF
set_option maxRecDepth 100000 in
set_option maxHeartbeats 4000000 in
theorem obX11_mayBe_98 {E : jEnv} {Rr : Int → jMem → Prop} {k18 : Int → Int → Int → jMem → jO} (hk18 : ∀ (l1 l2 l3 : Int) (s : jMem), jHo Rr (k18 l1 l2 l3 s) → jGo E MX11_mayBe 1 Rr [3, 1, 1, 1, 0, 0] 18 [53, l1, l2, l3, 0, 0] ([]) s) : ∀ (l1 l3 t0 : Int) (s : jMem), jR 1 t0 → jHo Rr (bX11_mayBe_98 k18 l1 l3 t0 s) → jGo E MX11_mayBe 1 Rr [3, 1, 0, 1, 0, 0] 98 [53, l1, 0, l3, 0, 0] (jV E 1 t0 :: []) s := by
  intro l1 l3 t0 s0 r_t0 hF
  unfold bX11_mayBe_98 at hF
  refine ji_istore_n (n := 2) (pc := 98) [3, 1, 1, 1, 0, 0] [53, l1, t0, l3, 0, 0] rfl r_t0 (Nat.le_of_ble_eq_true rfl) rfl rfl dX11_mayBe_98 ?_
  refine ji_iinc (pc := 99) l3 (fun w => [53, l1, t0, w, 0, 0]) rfl rfl rfl (fun _ => rfl) hF dX11_mayBe_99 (fun x1 r_x1 hF => ?_)
  refine jg_goto (pc := 102) 18 dX11_mayBe_102 rfl ?_
  refine jg_norm [3, 1, 1, 1, 0, 0] [53, l1, t0, x1, 0, 0] rfl rfl ?_
  exact hk18 _ _ _ _ hF
set_option maxRecDepth 100000 in
set_option maxHeartbeats 4000000 in
theorem obX11_mayBe_82 {E : jEnv} {Rr : Int → jMem → Prop} {k18 : Int → Int → Int → jMem → jO} (hk18 : ∀ (l1 l2 l3 : Int) (s : jMem), jHo Rr (k18 l1 l2 l3 s) → jGo E MX11_mayBe 1 Rr [3, 1, 1, 1, 0, 0] 18 [53, l1, l2, l3, 0, 0] ([]) s) : ∀ (l1 l2 l3 l4 : Int) (s : jMem), jHo Rr (bX11_mayBe_82 k18 l1 l2 l3 l4 s) → jGo E MX11_mayBe 1 Rr [3, 1, 1, 1, 1, 0] 82 [53, l1, l2, l3, l4, 0] ([]) s := by
  intro l1 l2 l3 l4 s0 hF
  unfold bX11_mayBe_82 at hF
  refine ji_iload_n (n := 2) (pc := 82) l2 rfl rfl rfl dX11_mayBe_82 (fun r1 => ?_)
  refine ji_if_eq 97 (pc := 83) r1 hF dX11_mayBe_83 rfl (fun hF => ?_) (fun hF => ?_)
  · refine jg_norm [3, 1, 0, 1, 0, 0] [53, l1, 0, l3, 0, 0] rfl rfl ?_
    exact obX11_mayBe_97 (obX11_mayBe_98 hk18) _ _ _ hF
  · refine ji_iload (pc := 86) l4 rfl rfl dX11_mayBe_86 (fun r2 => ?_)
    refine ji_iconst (pc := 88) dX11_mayBe_88 ?_
    refine ji_irem (pc := 89) (jRc rfl) hF dX11_mayBe_89 (fun x3 r_x3 hF => ?_)
    refine ji_if_ne 97 (pc := 90) r_x3 hF dX11_mayBe_90 rfl (fun hF => ?_) (fun hF => ?_)
    · refine jg_norm [3, 1, 0, 1, 0, 0] [53, l1, 0, l3, 0, 0] rfl rfl ?_
      exact obX11_mayBe_97 (obX11_mayBe_98 hk18) _ _ _ hF
    · refine ji_iconst (pc := 93) dX11_mayBe_93 ?_
      refine jg_goto (pc := 94) 98 dX11_mayBe_94 rfl ?_
      refine jg_norm [3, 1, 0, 1, 0, 0] [53, l1, 0, l3, 0, 0] rfl rfl ?_
      exact obX11_mayBe_98 hk18 _ _ _ _ (jRc rfl) hF
set_option maxRecDepth 100000 in
set_option maxHeartbeats 4000000 in
theorem obX11_mayBe_37 {E : jEnv} {Rr : Int → jMem → Prop} {k18 : Int → Int → Int → jMem → jO} (hk18 : ∀ (l1 l2 l3 : Int) (s : jMem), jHo Rr (k18 l1 l2 l3 s) → jGo E MX11_mayBe 1 Rr [3, 1, 1, 1, 0, 0] 18 [53, l1, l2, l3, 0, 0] ([]) s) : ∀ (l1 l2 l3 t0 : Int) (s : jMem), jR 1 t0 → jHo Rr (bX11_mayBe_37 k18 l1 l2 l3 t0 s) → jGo E MX11_mayBe 1 Rr [3, 1, 1, 1, 0, 0] 37 [53, l1, l2, l3, 0, 0] (jV E 1 t0 :: []) s := by
  intro l1 l2 l3 t0 s0 r_t0 hF
  unfold bX11_mayBe_37 at hF
  refine ji_istore (n := 4) (pc := 37) [3, 1, 1, 1, 1, 0] [53, l1, l2, l3, t0, 0] r_t0 (Nat.le_of_ble_eq_true rfl) rfl rfl dX11_mayBe_37 ?_
  refine jg_bipush (pc := 39) rfl dX11_mayBe_39 ?_
  refine ji_iload_n (n := 3) (pc := 41) l3 rfl rfl rfl dX11_mayBe_41 (fun r1 => ?_)
  refine ji_imul (pc := 42)  hF dX11_mayBe_42 (fun x2 r_x2 hF => ?_)
  refine ji_istore (n := 5) (pc := 43) [3, 1, 1, 1, 1, 1] [53, l1, l2, l3, t0, x2] r_x2 (Nat.le_of_ble_eq_true rfl) rfl rfl dX11_mayBe_43 ?_
  refine jg_norm [3, 1, 1, 1, 1, 1] [53, l1, l2, l3, t0, x2] rfl rfl ?_
  exact obX11_mayBe_45W (obX11_mayBe_82 hk18) 1000 _ _ _ _ _ _ hF
set_option maxRecDepth 100000 in
set_option maxHeartbeats 4000000 in
theorem obX11_mayBe_18 {E : jEnv} {Rr : Int → jMem → Prop} {rec : Int → Int → Int → jMem → jO} (hrec : ∀ (l1 l2 l3 : Int) (s : jMem), jHo Rr (rec l1 l2 l3 s) → jGo E MX11_mayBe 1 Rr [3, 1, 1, 1, 0, 0] 18 [53, l1, l2, l3, 0, 0] ([]) s) : ∀ (l1 l2 l3 : Int) (s : jMem), jHo Rr (bX11_mayBe_18 rec l1 l2 l3 s) → jGo E MX11_mayBe 1 Rr [3, 1, 1, 1, 0, 0] 18 [53, l1, l2, l3, 0, 0] ([]) s := by
  intro l1 l2 l3 s0 hF
  unfold bX11_mayBe_18 at hF
  refine ji_iload_n (n := 3) (pc := 18) l3 rfl rfl rfl dX11_mayBe_18 (fun r1 => ?_)
  refine ji_iconst (pc := 19) dX11_mayBe_19 ?_
  refine ji_icmp_ge 105 (pc := 20) r1 (jRc rfl) hF dX11_mayBe_20 rfl (fun hF => ?_) (fun hF => ?_)
  · refine ji_iload_n (n := 2) (pc := 105) l2 rfl rfl rfl dX11_mayBe_105 (fun r2 => ?_)
    obtain ⟨h3, hF⟩ := jHo_as hF
    exact ji_retz (pc := 106) rfl h3 hF dX11_mayBe_106
  · refine ji_iload_n (n := 1) (pc := 23) l1 rfl rfl rfl dX11_mayBe_23 (fun r4 => ?_)
    refine ji_callSi (pc := 24) [l1] ([]) oX11_rowOf wlX11_165 wmX11_rowOf rfl rfl (Nat.le_of_ble_eq_true rfl) (jRaC r4 jRa0) rfl rfl (Nat.le_of_ble_eq_true rfl) hF dX11_mayBe_24 (fun x5 s6 r_x5 hF => ?_)
    refine ji_iload_n (n := 3) (pc := 27) l3 rfl rfl rfl dX11_mayBe_27 (fun r7 => ?_)
    refine ji_icmp_ne 36 (pc := 28) r_x5 r7 hF dX11_mayBe_28 rfl (fun hF => ?_) (fun hF => ?_)
    · refine ji_iconst (pc := 36) dX11_mayBe_36 ?_
      refine jg_norm [3, 1, 1, 1, 0, 0] [53, l1, l2, l3, 0, 0] rfl rfl ?_
      exact obX11_mayBe_37 hrec _ _ _ _ _ (jRc rfl) hF
    · refine jg_bipush (pc := 31) rfl dX11_mayBe_31 ?_
      refine jg_goto (pc := 33) 37 dX11_mayBe_33 rfl ?_
      refine jg_norm [3, 1, 1, 1, 0, 0] [53, l1, l2, l3, 0, 0] rfl rfl ?_
      exact obX11_mayBe_37 hrec _ _ _ _ _ (jRc rfl) hF
theorem obX11_mayBe_18W {E : jEnv} {Rr : Int → jMem → Prop} : ∀ n : Nat, ∀ (l1 l2 l3 : Int) (s : jMem), jHo Rr (jIt (fun _ _ _ _ => none) (bX11_mayBe_18) n l1 l2 l3 s) → jGo E MX11_mayBe 1 Rr [3, 1, 1, 1, 0, 0] 18 [53, l1, l2, l3, 0, 0] ([]) s := by
  intro n
  induction n with
  | zero => intro l1 l2 l3 s hF; exact jHo_none hF
  | succ n ih => exact obX11_mayBe_18 ih

set_option maxRecDepth 100000 in
set_option maxHeartbeats 4000000 in
theorem obX11_mayBe_15 {E : jEnv} {Rr : Int → jMem → Prop} : ∀ (l1 t0 : Int) (s : jMem), jR 1 t0 → jHo Rr (bX11_mayBe_15 l1 t0 s) → jGo E MX11_mayBe 1 Rr [3, 1, 0, 0, 0, 0] 15 [53, l1, 0, 0, 0, 0] (jV E 1 t0 :: []) s := by
  intro l1 t0 s0 r_t0 hF
  unfold bX11_mayBe_15 at hF
  refine ji_istore_n (n := 2) (pc := 15) [3, 1, 1, 0, 0, 0] [53, l1, t0, 0, 0, 0] rfl r_t0 (Nat.le_of_ble_eq_true rfl) rfl rfl dX11_mayBe_15 ?_
  refine ji_iconst (pc := 16) dX11_mayBe_16 ?_
  refine ji_istore_n (n := 3) (pc := 17) [3, 1, 1, 1, 0, 0] [53, l1, t0, 0, 0, 0] rfl (jRc rfl) (Nat.le_of_ble_eq_true rfl) rfl rfl dX11_mayBe_17 ?_
  refine jg_norm [3, 1, 1, 1, 0, 0] [53, l1, t0, 0, 0, 0] rfl rfl ?_
  exact obX11_mayBe_18W 1000 _ _ _ _ hF
set_option maxRecDepth 100000 in
set_option maxHeartbeats 4000000 in
theorem oX11_mayBe : jOk MX11_mayBe [3, 1] 1 (jFn gX11_mayBe) := by
  refine jOk_fn (by decide +kernel) (Nat.le_of_ble_eq_true rfl) (by decide +kernel) (.inr (.inr (.inr rfl))) ?_
  intro E vs s0 Rr hF ha
  obtain ⟨l0, t0, rfl, r_l0, ha⟩ := jRa_ci ha
  obtain ⟨l1, t1, rfl, r_l1, ha⟩ := jRa_ci ha
  obtain rfl := jRa_ni ha
  replace hF : jHo Rr (jGd (l0 = 53) <| fX11_mayBe l1 s0) := hF
  have hG := jHo_as hF
  clear hF
  obtain ⟨rfl, hF⟩ := hG
  refine jg_norm [3, 1, 0, 0, 0, 0] [53, l1, 0, 0, 0, 0] rfl rfl ?_
  unfold fX11_mayBe at hF
  refine ji_aload_n (n := 0) (pc := 0) 53 rfl rfl rfl dX11_mayBe_0 (fun r1 => ?_)
  refine ji_getr (pc := 1) 68 wfX11_56 (jRc3 rfl) jcl_53 jrf_53_18 dX11_mayBe_1 ?_
  refine ji_iload_n (n := 1) (pc := 4) l1 rfl rfl rfl dX11_mayBe_4 (fun r2 => ?_)
  refine ji_iaload (pc := 5) (jRc3 rfl) r2 hF dX11_mayBe_5 (fun x3 r_x3 hF => ?_)
  refine ji_iconst (pc := 6) dX11_mayBe_6 ?_
  refine ji_icmp_le 14 (pc := 7) r_x3 (jRc rfl) hF dX11_mayBe_7 rfl (fun hF => ?_) (fun hF => ?_)
  · refine ji_iconst (pc := 14) dX11_mayBe_14 ?_
    refine jg_norm [3, 1, 0, 0, 0, 0] [53, l1, 0, 0, 0, 0] rfl rfl ?_
    exact obX11_mayBe_15 _ _ _ (jRc rfl) hF
  · refine ji_iconst (pc := 10) dX11_mayBe_10 ?_
    refine jg_goto (pc := 11) 15 dX11_mayBe_11 rfl ?_
    refine jg_norm [3, 1, 0, 0, 0, 0] [53, l1, 0, 0, 0, 0] rfl rfl ?_
    exact obX11_mayBe_15 _ _ _ (jRc rfl) hF
def bX11_findWay_60 (k20 : Int → Int → Int → Int → Int → jMem → jO) (l1 l2 l3 l4 l5 : Int) (s0 : jMem) : jO :=
jLet (j32 (l5 + 1)) fun x1 =>
k20 l1 l2 l3 l4 x1 s0
def bX11_findWay_20 (k66 : Int → Int → Int → jMem → jO) (rec : Int → Int → Int → Int → Int → jMem → jO) (l1 l2 l3 l4 l5 : Int) (s0 : jMem) : jO :=
jLet (s0 53 20) fun x3 =>
jLet (j32 (4 - x3)) fun x4 =>
jLet (jshl 1 x4) fun x5 =>
if x5 ≤ l5 then (
k66 l1 l2 l3 s0)
else (
if l4 = 0 then (
k66 l1 l2 l3 s0)
else (
jBd (fX11_isWay l3 l5 s0) fun x10 s11 =>
if x10 = 0 then (
bX11_findWay_60 rec l1 l2 l3 l4 l5 s11)
else (
jLet (j32 (l2 + 1)) fun x12 =>
jLet (j32 (l1 + 1)) fun x15 =>
if x12 = x15 then (
jRet x12 s11)
else (
bX11_findWay_60 rec l1 x12 l3 l4 l5 s11))))
def bX11_findWay_66 (k4 : Int → Int → Int → jMem → jO) (l1 l2 l3 : Int) (s0 : jMem) : jO :=
jLet (j32 (l3 + 1)) fun x1 =>
k4 l1 l2 x1 s0
def bX11_findWay_4 (rec : Int → Int → Int → jMem → jO) (l1 l2 l3 : Int) (s0 : jMem) : jO :=
if 34 ≤ l3 then (
jRet l2 s0)
else (
jBd (fX11_mayBe l3 s0) fun x5 s6 =>
jIt (fun _ _ _ _ _ _ => none) (bX11_findWay_20 (bX11_findWay_66 rec)) 1000 l1 l2 l3 x5 0 s6)
def fX11_findWay (l1 : Int) (s0 : jMem) : jO :=
jIt (fun _ _ _ _ => none) (bX11_findWay_4) 1000 l1 0 0 s0
def gX11_findWay (vs : List Int) (s : jMem) : jO := match vs with
  | [a0, a1] => jGd (a0 = 53) <| fX11_findWay a1 s
  | _ => none
set_option maxRecDepth 100000 in
set_option maxHeartbeats 4000000 in
theorem obX11_findWay_60 {E : jEnv} {Rr : Int → jMem → Prop} {k20 : Int → Int → Int → Int → Int → jMem → jO} (hk20 : ∀ (l1 l2 l3 l4 l5 : Int) (s : jMem), jHo Rr (k20 l1 l2 l3 l4 l5 s) → jGo E MX11_findWay 2 Rr [3, 1, 1, 1, 1, 1] 20 [53, l1, l2, l3, l4, l5] ([]) s) : ∀ (l1 l2 l3 l4 l5 : Int) (s : jMem), jHo Rr (bX11_findWay_60 k20 l1 l2 l3 l4 l5 s) → jGo E MX11_findWay 2 Rr [3, 1, 1, 1, 1, 1] 60 [53, l1, l2, l3, l4, l5] ([]) s := by
  intro l1 l2 l3 l4 l5 s0 hF
  unfold bX11_findWay_60 at hF
  refine ji_iinc (pc := 60) l5 (fun w => [53, l1, l2, l3, l4, w]) rfl rfl rfl (fun _ => rfl) hF dX11_findWay_60 (fun x1 r_x1 hF => ?_)
  refine jg_goto (pc := 63) 20 dX11_findWay_63 rfl ?_
  refine jg_norm [3, 1, 1, 1, 1, 1] [53, l1, l2, l3, l4, x1] rfl rfl ?_
  exact hk20 _ _ _ _ _ _ hF
set_option maxRecDepth 100000 in
set_option maxHeartbeats 4000000 in
theorem obX11_findWay_20 {E : jEnv} {Rr : Int → jMem → Prop} {k66 : Int → Int → Int → jMem → jO} (hk66 : ∀ (l1 l2 l3 : Int) (s : jMem), jHo Rr (k66 l1 l2 l3 s) → jGo E MX11_findWay 2 Rr [3, 1, 1, 1, 0, 0] 66 [53, l1, l2, l3, 0, 0] ([]) s) {rec : Int → Int → Int → Int → Int → jMem → jO} (hrec : ∀ (l1 l2 l3 l4 l5 : Int) (s : jMem), jHo Rr (rec l1 l2 l3 l4 l5 s) → jGo E MX11_findWay 2 Rr [3, 1, 1, 1, 1, 1] 20 [53, l1, l2, l3, l4, l5] ([]) s) : ∀ (l1 l2 l3 l4 l5 : Int) (s : jMem), jHo Rr (bX11_findWay_20 k66 rec l1 l2 l3 l4 l5 s) → jGo E MX11_findWay 2 Rr [3, 1, 1, 1, 1, 1] 20 [53, l1, l2, l3, l4, l5] ([]) s := by
  intro l1 l2 l3 l4 l5 s0 hF
  unfold bX11_findWay_20 at hF
  refine ji_iload (pc := 20) l5 rfl rfl dX11_findWay_20 (fun r1 => ?_)
  refine ji_iconst (pc := 22) dX11_findWay_22 ?_
  refine ji_iconst (pc := 23) dX11_findWay_23 ?_
  refine ji_aload_n (n := 0) (pc := 24) 53 rfl rfl rfl dX11_findWay_24 (fun r2 => ?_)
  refine ji_getfi (pc := 25) wfX11_158 (jRc3 rfl) jcl_53 hF dX11_findWay_25 (fun x3 r_x3 hF => ?_)
  refine ji_isub (pc := 28)  hF dX11_findWay_28 (fun x4 r_x4 hF => ?_)
  refine ji_ishl (pc := 29)  hF dX11_findWay_29 (fun x5 r_x5 hF => ?_)
  refine ji_icmp_ge 66 (pc := 30) r1 r_x5 hF dX11_findWay_30 rfl (fun hF => ?_) (fun hF => ?_)
  · refine jg_norm [3, 1, 1, 1, 0, 0] [53, l1, l2, l3, 0, 0] rfl rfl ?_
    exact hk66 _ _ _ _ hF
  · refine ji_iload (pc := 33) l4 rfl rfl dX11_findWay_33 (fun r6 => ?_)
    refine ji_if_eq 66 (pc := 35) r6 hF dX11_findWay_35 rfl (fun hF => ?_) (fun hF => ?_)
    · refine jg_norm [3, 1, 1, 1, 0, 0] [53, l1, l2, l3, 0, 0] rfl rfl ?_
      exact hk66 _ _ _ _ hF
    · refine ji_aload_n (n := 0) (pc := 38) 53 rfl rfl rfl dX11_findWay_38 (fun r7 => ?_)
      refine ji_iload_n (n := 3) (pc := 39) l3 rfl rfl rfl dX11_findWay_39 (fun r8 => ?_)
      refine ji_iload (pc := 40) l5 rfl rfl dX11_findWay_40 (fun r9 => ?_)
      refine ji_callVz (pc := 42) 53 [l3, l5] ([]) oX11_isWay wlX11_171 wmX11_isWay rfl rfl (Nat.le_of_ble_eq_true rfl) (jRaC (jRc3 rfl) (jRaC r8 (jRaC r9 jRa0))) rfl jcl_53 rfl (Nat.le_of_ble_eq_true rfl) hF dX11_findWay_42 (fun x10 s11 r_x10 hF => ?_)
      refine ji_if_eq 60 (pc := 45) (jR51 r_x10) hF dX11_findWay_45 rfl (fun hF => ?_) (fun hF => ?_)
      · refine jg_norm [3, 1, 1, 1, 1, 1] [53, l1, l2, l3, l4, l5] rfl rfl ?_
        exact obX11_findWay_60 hrec _ _ _ _ _ _ hF
      · refine ji_iinc (pc := 48) l2 (fun w => [53, l1, w, l3, l4, l5]) rfl rfl rfl (fun _ => rfl) hF dX11_findWay_48 (fun x12 r_x12 hF => ?_)
        refine ji_iload_n (n := 2) (pc := 51) x12 rfl rfl rfl dX11_findWay_51 (fun r13 => ?_)
        refine ji_iload_n (n := 1) (pc := 52) l1 rfl rfl rfl dX11_findWay_52 (fun r14 => ?_)
        refine ji_iconst (pc := 53) dX11_findWay_53 ?_
        refine ji_iadd (pc := 54)  hF dX11_findWay_54 (fun x15 r_x15 hF => ?_)
        refine ji_icmp_ne 60 (pc := 55) r13 r_x15 hF dX11_findWay_55 rfl (fun hF => ?_) (fun hF => ?_)
        · refine jg_norm [3, 1, 1, 1, 1, 1] [53, l1, x12, l3, l4, l5] rfl rfl ?_
          exact obX11_findWay_60 hrec _ _ _ _ _ _ hF
        · refine ji_iload_n (n := 2) (pc := 58) x12 rfl rfl rfl dX11_findWay_58 (fun r16 => ?_)
          exact ji_reti (pc := 59) rfl r16 hF dX11_findWay_59
theorem obX11_findWay_20W {E : jEnv} {Rr : Int → jMem → Prop} {k66 : Int → Int → Int → jMem → jO} (hk66 : ∀ (l1 l2 l3 : Int) (s : jMem), jHo Rr (k66 l1 l2 l3 s) → jGo E MX11_findWay 2 Rr [3, 1, 1, 1, 0, 0] 66 [53, l1, l2, l3, 0, 0] ([]) s) : ∀ n : Nat, ∀ (l1 l2 l3 l4 l5 : Int) (s : jMem), jHo Rr (jIt (fun _ _ _ _ _ _ => none) (bX11_findWay_20 k66) n l1 l2 l3 l4 l5 s) → jGo E MX11_findWay 2 Rr [3, 1, 1, 1, 1, 1] 20 [53, l1, l2, l3, l4, l5] ([]) s := by
  intro n
  induction n with
  | zero => intro l1 l2 l3 l4 l5 s hF; exact jHo_none hF
  | succ n ih => exact obX11_findWay_20 hk66 ih

set_option maxRecDepth 100000 in
set_option maxHeartbeats 4000000 in
theorem obX11_findWay_66 {E : jEnv} {Rr : Int → jMem → Prop} {k4 : Int → Int → Int → jMem → jO} (hk4 : ∀ (l1 l2 l3 : Int) (s : jMem), jHo Rr (k4 l1 l2 l3 s) → jGo E MX11_findWay 2 Rr [3, 1, 1, 1, 0, 0] 4 [53, l1, l2, l3, 0, 0] ([]) s) : ∀ (l1 l2 l3 : Int) (s : jMem), jHo Rr (bX11_findWay_66 k4 l1 l2 l3 s) → jGo E MX11_findWay 2 Rr [3, 1, 1, 1, 0, 0] 66 [53, l1, l2, l3, 0, 0] ([]) s := by
  intro l1 l2 l3 s0 hF
  unfold bX11_findWay_66 at hF
  refine ji_iinc (pc := 66) l3 (fun w => [53, l1, l2, w, 0, 0]) rfl rfl rfl (fun _ => rfl) hF dX11_findWay_66 (fun x1 r_x1 hF => ?_)
  refine jg_goto (pc := 69) 4 dX11_findWay_69 rfl ?_
  refine jg_norm [3, 1, 1, 1, 0, 0] [53, l1, l2, x1, 0, 0] rfl rfl ?_
  exact hk4 _ _ _ _ hF
set_option maxRecDepth 100000 in
set_option maxHeartbeats 4000000 in
theorem obX11_findWay_4 {E : jEnv} {Rr : Int → jMem → Prop} {rec : Int → Int → Int → jMem → jO} (hrec : ∀ (l1 l2 l3 : Int) (s : jMem), jHo Rr (rec l1 l2 l3 s) → jGo E MX11_findWay 2 Rr [3, 1, 1, 1, 0, 0] 4 [53, l1, l2, l3, 0, 0] ([]) s) : ∀ (l1 l2 l3 : Int) (s : jMem), jHo Rr (bX11_findWay_4 rec l1 l2 l3 s) → jGo E MX11_findWay 2 Rr [3, 1, 1, 1, 0, 0] 4 [53, l1, l2, l3, 0, 0] ([]) s := by
  intro l1 l2 l3 s0 hF
  unfold bX11_findWay_4 at hF
  refine ji_iload_n (n := 3) (pc := 4) l3 rfl rfl rfl dX11_findWay_4 (fun r1 => ?_)
  refine jg_bipush (pc := 5) rfl dX11_findWay_5 ?_
  refine ji_icmp_ge 72 (pc := 7) r1 (jRc rfl) hF dX11_findWay_7 rfl (fun hF => ?_) (fun hF => ?_)
  · refine ji_iload_n (n := 2) (pc := 72) l2 rfl rfl rfl dX11_findWay_72 (fun r2 => ?_)
    exact ji_reti (pc := 73) rfl r2 hF dX11_findWay_73
  · refine ji_aload_n (n := 0) (pc := 10) 53 rfl rfl rfl dX11_findWay_10 (fun r3 => ?_)
    refine ji_iload_n (n := 3) (pc := 11) l3 rfl rfl rfl dX11_findWay_11 (fun r4 => ?_)
    refine ji_callVz (pc := 12) 53 [l3] ([]) oX11_mayBe wlX11_168 wmX11_mayBe rfl rfl (Nat.le_of_ble_eq_true rfl) (jRaC (jRc3 rfl) (jRaC r4 jRa0)) rfl jcl_53 rfl (Nat.le_of_ble_eq_true rfl) hF dX11_findWay_12 (fun x5 s6 r_x5 hF => ?_)
    refine ji_istore (n := 4) (pc := 15) [3, 1, 1, 1, 1, 0] [53, l1, l2, l3, x5, 0] (jR51 r_x5) (Nat.le_of_ble_eq_true rfl) rfl rfl dX11_findWay_15 ?_
    refine ji_iconst (pc := 17) dX11_findWay_17 ?_
    refine ji_istore (n := 5) (pc := 18) [3, 1, 1, 1, 1, 1] [53, l1, l2, l3, x5, 0] (jRc rfl) (Nat.le_of_ble_eq_true rfl) rfl rfl dX11_findWay_18 ?_
    refine jg_norm [3, 1, 1, 1, 1, 1] [53, l1, l2, l3, x5, 0] rfl rfl ?_
    exact obX11_findWay_20W (obX11_findWay_66 hrec) 1000 _ _ _ _ _ _ hF
theorem obX11_findWay_4W {E : jEnv} {Rr : Int → jMem → Prop} : ∀ n : Nat, ∀ (l1 l2 l3 : Int) (s : jMem), jHo Rr (jIt (fun _ _ _ _ => none) (bX11_findWay_4) n l1 l2 l3 s) → jGo E MX11_findWay 2 Rr [3, 1, 1, 1, 0, 0] 4 [53, l1, l2, l3, 0, 0] ([]) s := by
  intro n
  induction n with
  | zero => intro l1 l2 l3 s hF; exact jHo_none hF
  | succ n ih => exact obX11_findWay_4 ih

set_option maxRecDepth 100000 in
set_option maxHeartbeats 4000000 in
theorem oX11_findWay : jOk MX11_findWay [3, 1] 2 (jFn gX11_findWay) := by
  refine jOk_fn (by decide +kernel) (Nat.le_of_ble_eq_true rfl) (by decide +kernel) (.inr (.inl rfl)) ?_
  intro E vs s0 Rr hF ha
  obtain ⟨l0, t0, rfl, r_l0, ha⟩ := jRa_ci ha
  obtain ⟨l1, t1, rfl, r_l1, ha⟩ := jRa_ci ha
  obtain rfl := jRa_ni ha
  replace hF : jHo Rr (jGd (l0 = 53) <| fX11_findWay l1 s0) := hF
  have hG := jHo_as hF
  clear hF
  obtain ⟨rfl, hF⟩ := hG
  refine jg_norm [3, 1, 0, 0, 0, 0] [53, l1, 0, 0, 0, 0] rfl rfl ?_
  unfold fX11_findWay at hF
  refine ji_iconst (pc := 0) dX11_findWay_0 ?_
  refine ji_istore_n (n := 2) (pc := 1) [3, 1, 1, 0, 0, 0] [53, l1, 0, 0, 0, 0] rfl (jRc rfl) (Nat.le_of_ble_eq_true rfl) rfl rfl dX11_findWay_1 ?_
  refine ji_iconst (pc := 2) dX11_findWay_2 ?_
  refine ji_istore_n (n := 3) (pc := 3) [3, 1, 1, 1, 0, 0] [53, l1, 0, 0, 0, 0] rfl (jRc rfl) (Nat.le_of_ble_eq_true rfl) rfl rfl dX11_findWay_3 ?_
  refine jg_norm [3, 1, 1, 1, 0, 0] [53, l1, 0, 0, 0, 0] rfl rfl ?_
  exact obX11_findWay_4W 1000 _ _ _ _ hF
def fX11_isFull (l1 : Int) (s0 : jMem) : jO :=
jBd (fX11_sizeOf l1 s0) fun x3 s4 =>
if x3 = 14 then (
jRet 1 s4)
else (
jRet 0 s4)
def gX11_isFull (vs : List Int) (s : jMem) : jO := match vs with
  | [a0, a1] => jGd (a0 = 53) <| fX11_isFull a1 s
  | _ => none
set_option maxRecDepth 100000 in
set_option maxHeartbeats 4000000 in
theorem oX11_isFull : jOk MX11_isFull [3, 1] 2 (jFn gX11_isFull) := by
  refine jOk_fn (by decide +kernel) (Nat.le_of_ble_eq_true rfl) (by decide +kernel) (.inr (.inr (.inr rfl))) ?_
  intro E vs s0 Rr hF ha
  obtain ⟨l0, t0, rfl, r_l0, ha⟩ := jRa_ci ha
  obtain ⟨l1, t1, rfl, r_l1, ha⟩ := jRa_ci ha
  obtain rfl := jRa_ni ha
  replace hF : jHo Rr (jGd (l0 = 53) <| fX11_isFull l1 s0) := hF
  have hG := jHo_as hF
  clear hF
  obtain ⟨rfl, hF⟩ := hG
  refine jg_norm [3, 1] [53, l1] rfl rfl ?_
  unfold fX11_isFull at hF
  refine ji_aload_n (n := 0) (pc := 0) 53 rfl rfl rfl dX11_isFull_0 (fun r1 => ?_)
  refine ji_iload_n (n := 1) (pc := 1) l1 rfl rfl rfl dX11_isFull_1 (fun r2 => ?_)
  refine ji_callVi (pc := 2) 53 [l1] ([]) oX11_sizeOf wlX11_117 wmX11_sizeOf rfl rfl (Nat.le_of_ble_eq_true rfl) (jRaC (jRc3 rfl) (jRaC r2 jRa0)) rfl jcl_53 rfl (Nat.le_of_ble_eq_true rfl) hF dX11_isFull_2 (fun x3 s4 r_x3 hF => ?_)
  refine jg_bipush (pc := 5) rfl dX11_isFull_5 ?_
  refine ji_icmp_ne 14 (pc := 7) r_x3 (jRc rfl) hF dX11_isFull_7 rfl (fun hF => ?_) (fun hF => ?_)
  · refine ji_iconst (pc := 14) dX11_isFull_14 ?_
    exact ji_retz (pc := 15) rfl (jRc5 rfl) hF dX11_isFull_15
  · refine ji_iconst (pc := 10) dX11_isFull_10 ?_
    refine jg_goto (pc := 11) 15 dX11_isFull_11 rfl ?_
    exact ji_retz (pc := 15) rfl (jRc5 rfl) hF dX11_isFull_15
def bX11_doneBy_30 (s0 : jMem) : jO :=
jLet (s0 53 11) fun x2 =>
if x2 = 0 then (
jRet 0 s0)
else (
jBd (fX11_isOuterHand s0) fun x4 s5 =>
if x4 = 0 then (
jRet 0 s5)
else (
jRet 3 s5))
def fX11_doneBy (s0 : jMem) : jO :=
jBd (fX11_findWay 0 s0) fun x2 s3 =>
if x2 ≤ 0 then (
jLet (s3 53 10) fun x5 =>
if x5 = 0 then (
bX11_doneBy_30 s3)
else (
jBd (fX11_isSeven s3) fun x7 s8 =>
if x7 = 0 then (
bX11_doneBy_30 s8)
else (
jRet 2 s8)))
else (
jRet 1 s3)
def gX11_doneBy (vs : List Int) (s : jMem) : jO := match vs with
  | [a0] => jGd (a0 = 53) <| fX11_doneBy s
  | _ => none
set_option maxRecDepth 100000 in
set_option maxHeartbeats 4000000 in
theorem obX11_doneBy_30 {E : jEnv} {Rr : Int → jMem → Prop} : ∀ (s : jMem), jHo Rr (bX11_doneBy_30 s) → jGo E MX11_doneBy 3 Rr [3] 30 [53] ([]) s := by
  intro s0 hF
  unfold bX11_doneBy_30 at hF
  refine ji_aload_n (n := 0) (pc := 30) 53 rfl rfl rfl dX11_doneBy_30 (fun r1 => ?_)
  refine ji_getfz (pc := 31) wfX11_155 (jRc3 rfl) jcl_53 hF dX11_doneBy_31 (fun x2 r_x2 hF => ?_)
  refine ji_if_eq 48 (pc := 34) (jR51 r_x2) hF dX11_doneBy_34 rfl (fun hF => ?_) (fun hF => ?_)
  · refine ji_iconst (pc := 48) dX11_doneBy_48 ?_
    exact ji_reti (pc := 49) rfl (jRc rfl) hF dX11_doneBy_49
  · refine ji_aload_n (n := 0) (pc := 37) 53 rfl rfl rfl dX11_doneBy_37 (fun r3 => ?_)
    refine ji_callVz (pc := 38) 53 [] ([]) oX11_isOuterHand wlX11_182 wmX11_isOuterHand rfl rfl (Nat.le_of_ble_eq_true rfl) (jRaC (jRc3 rfl) jRa0) rfl jcl_53 rfl (Nat.le_of_ble_eq_true rfl) hF dX11_doneBy_38 (fun x4 s5 r_x4 hF => ?_)
    refine ji_if_eq 48 (pc := 41) (jR51 r_x4) hF dX11_doneBy_41 rfl (fun hF => ?_) (fun hF => ?_)
    · refine ji_iconst (pc := 48) dX11_doneBy_48 ?_
      exact ji_reti (pc := 49) rfl (jRc rfl) hF dX11_doneBy_49
    · refine ji_iconst (pc := 44) dX11_doneBy_44 ?_
      refine jg_goto (pc := 45) 49 dX11_doneBy_45 rfl ?_
      exact ji_reti (pc := 49) rfl (jRc rfl) hF dX11_doneBy_49
set_option maxRecDepth 100000 in
set_option maxHeartbeats 4000000 in
theorem oX11_doneBy : jOk MX11_doneBy [3] 3 (jFn gX11_doneBy) := by
  refine jOk_fn (by decide +kernel) (Nat.le_of_ble_eq_true rfl) (by decide +kernel) (.inr (.inl rfl)) ?_
  intro E vs s0 Rr hF ha
  obtain ⟨l0, t0, rfl, r_l0, ha⟩ := jRa_ci ha
  obtain rfl := jRa_ni ha
  replace hF : jHo Rr (jGd (l0 = 53) <| fX11_doneBy s0) := hF
  have hG := jHo_as hF
  clear hF
  obtain ⟨rfl, hF⟩ := hG
  refine jg_norm [3] [53] rfl rfl ?_
  unfold fX11_doneBy at hF
  refine ji_aload_n (n := 0) (pc := 0) 53 rfl rfl rfl dX11_doneBy_0 (fun r1 => ?_)
  refine ji_iconst (pc := 1) dX11_doneBy_1 ?_
  refine ji_callVi (pc := 2) 53 [0] ([]) oX11_findWay wlX11_175 wmX11_findWay rfl rfl (Nat.le_of_ble_eq_true rfl) (jRaC (jRc3 rfl) (jRaC (jRc rfl) jRa0)) rfl jcl_53 rfl (Nat.le_of_ble_eq_true rfl) hF dX11_doneBy_2 (fun x2 s3 r_x2 hF => ?_)
  refine ji_if_le 12 (pc := 5) r_x2 hF dX11_doneBy_5 rfl (fun hF => ?_) (fun hF => ?_)
  · refine ji_aload_n (n := 0) (pc := 12) 53 rfl rfl rfl dX11_doneBy_12 (fun r4 => ?_)
    refine ji_getfz (pc := 13) wfX11_151 (jRc3 rfl) jcl_53 hF dX11_doneBy_13 (fun x5 r_x5 hF => ?_)
    refine ji_if_eq 30 (pc := 16) (jR51 r_x5) hF dX11_doneBy_16 rfl (fun hF => ?_) (fun hF => ?_)
    · refine jg_norm [3] [53] rfl rfl ?_
      exact obX11_doneBy_30 _ hF
    · refine ji_aload_n (n := 0) (pc := 19) 53 rfl rfl rfl dX11_doneBy_19 (fun r6 => ?_)
      refine ji_callVz (pc := 20) 53 [] ([]) oX11_isSeven wlX11_178 wmX11_isSeven rfl rfl (Nat.le_of_ble_eq_true rfl) (jRaC (jRc3 rfl) jRa0) rfl jcl_53 rfl (Nat.le_of_ble_eq_true rfl) hF dX11_doneBy_20 (fun x7 s8 r_x7 hF => ?_)
      refine ji_if_eq 30 (pc := 23) (jR51 r_x7) hF dX11_doneBy_23 rfl (fun hF => ?_) (fun hF => ?_)
      · refine jg_norm [3] [53] rfl rfl ?_
        exact obX11_doneBy_30 _ hF
      · refine ji_iconst (pc := 26) dX11_doneBy_26 ?_
        refine jg_goto (pc := 27) 49 dX11_doneBy_27 rfl ?_
        exact ji_reti (pc := 49) rfl (jRc rfl) hF dX11_doneBy_49
  · refine ji_iconst (pc := 8) dX11_doneBy_8 ?_
    refine jg_goto (pc := 9) 49 dX11_doneBy_9 rfl ?_
    exact ji_reti (pc := 49) rfl (jRc rfl) hF dX11_doneBy_49
def fX11_done (l1 : Int) (s0 : jMem) : jO :=
jBd (fX11_isHand l1 s0) fun x2 s3 =>
if x2 = 0 then (
jRet (-1) s3)
else (
jBd (fX11_isFull l1 s3) fun x6 s7 =>
if x6 = 0 then (
jRet (-2) s7)
else (
jBd (fX11_look l1 s7) fun x10 s11 =>
jBd (fX11_doneBy s11) fun x13 s14 =>
jRet x13 s14))
def gX11_done (vs : List Int) (s : jMem) : jO := match vs with
  | [a0, a1] => jGd (a0 = 53) <| fX11_done a1 s
  | _ => none
set_option maxRecDepth 100000 in
set_option maxHeartbeats 4000000 in
theorem oX11_done : jOk MX11_done [3, 1] 4 (jFn gX11_done) := by
  refine jOk_fn (by decide +kernel) (Nat.le_of_ble_eq_true rfl) (by decide +kernel) (.inr (.inl rfl)) ?_
  intro E vs s0 Rr hF ha
  obtain ⟨l0, t0, rfl, r_l0, ha⟩ := jRa_ci ha
  obtain ⟨l1, t1, rfl, r_l1, ha⟩ := jRa_ci ha
  obtain rfl := jRa_ni ha
  replace hF : jHo Rr (jGd (l0 = 53) <| fX11_done l1 s0) := hF
  have hG := jHo_as hF
  clear hF
  obtain ⟨rfl, hF⟩ := hG
  refine jg_norm [3, 1] [53, l1] rfl rfl ?_
  unfold fX11_done at hF
  refine ji_iload_n (n := 1) (pc := 0) l1 rfl rfl rfl dX11_done_0 (fun r1 => ?_)
  refine ji_callSz (pc := 1) [l1] ([]) oX11_isHand wlX11_114 wmX11_isHand rfl rfl (Nat.le_of_ble_eq_true rfl) (jRaC r1 jRa0) rfl rfl (Nat.le_of_ble_eq_true rfl) hF dX11_done_1 (fun x2 s3 r_x2 hF => ?_)
  refine ji_if_ne 9 (pc := 4) (jR51 r_x2) hF dX11_done_4 rfl (fun hF => ?_) (fun hF => ?_)
  · refine ji_aload_n (n := 0) (pc := 9) 53 rfl rfl rfl dX11_done_9 (fun r4 => ?_)
    refine ji_iload_n (n := 1) (pc := 10) l1 rfl rfl rfl dX11_done_10 (fun r5 => ?_)
    refine ji_callVz (pc := 11) 53 [l1] ([]) oX11_isFull wlX11_185 wmX11_isFull rfl rfl (Nat.le_of_ble_eq_true rfl) (jRaC (jRc3 rfl) (jRaC r5 jRa0)) rfl jcl_53 rfl (Nat.le_of_ble_eq_true rfl) hF dX11_done_11 (fun x6 s7 r_x6 hF => ?_)
    refine ji_if_ne 20 (pc := 14) (jR51 r_x6) hF dX11_done_14 rfl (fun hF => ?_) (fun hF => ?_)
    · refine ji_aload_n (n := 0) (pc := 20) 53 rfl rfl rfl dX11_done_20 (fun r8 => ?_)
      refine ji_iload_n (n := 1) (pc := 21) l1 rfl rfl rfl dX11_done_21 (fun r9 => ?_)
      refine ji_callVv (pc := 22) 53 [l1] ([]) oX11_look wlX11_188 wmX11_look rfl rfl (Nat.le_of_ble_eq_true rfl) (jRaC (jRc3 rfl) (jRaC r9 jRa0)) rfl jcl_53 rfl (Nat.le_of_ble_eq_true rfl) hF dX11_done_22 (fun x10 s11 hF => ?_)
      refine ji_aload_n (n := 0) (pc := 25) 53 rfl rfl rfl dX11_done_25 (fun r12 => ?_)
      refine ji_callVi (pc := 26) 53 [] ([]) oX11_doneBy wlX11_192 wmX11_doneBy rfl rfl (Nat.le_of_ble_eq_true rfl) (jRaC (jRc3 rfl) jRa0) rfl jcl_53 rfl (Nat.le_of_ble_eq_true rfl) hF dX11_done_26 (fun x13 s14 r_x13 hF => ?_)
      exact ji_reti (pc := 29) rfl r_x13 hF dX11_done_29
    · refine jg_bipush (pc := 17) rfl dX11_done_17 ?_
      exact ji_reti (pc := 19) rfl (jRc rfl) hF dX11_done_19
  · refine ji_iconst (pc := 7) dX11_done_7 ?_
    exact ji_reti (pc := 8) rfl (jRc rfl) hF dX11_done_8
end

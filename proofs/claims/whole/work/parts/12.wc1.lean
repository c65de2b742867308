section
def bX9_conditionsOf_73 (k78 : Int → Int → Int → Int → Int → Int → Int → Int → Int → Int → jMem → jO) (l1 l2 l3 l5 l6 l7 l8 l9 l10 : Int) (s0 : jMem) : jO :=
k78 l1 l2 l3 l5 l6 l7 l8 l9 l10 1 s0
def bX9_conditionsOf_78 (k80 : Int → Int → Int → Int → Int → Int → Int → Int → Int → Int → jMem → jO) (l1 l2 l3 l5 l6 l7 l8 l9 l10 t0 : Int) (s0 : jMem) : jO :=
k80 l1 l2 l3 t0 l5 l6 l7 l8 l9 l10 s0
def bX9_conditionsOf_115 (k116 : Int → Int → Int → Int → Int → Int → Int → Int → Int → jMem → jO) (l1 l2 l3 l4 l6 l7 l8 l9 : Int) (s0 : jMem) : jO :=
k116 l1 l2 l3 l4 l6 l7 l8 l9 0 s0
def bX9_conditionsOf_143 (k144 : Int → Int → Int → Int → Int → Int → Int → Int → jMem → jO) (l1 l2 l3 l4 l5 l7 l8 : Int) (s0 : jMem) : jO :=
k144 l1 l2 l3 l4 l5 l7 l8 0 s0
def bX9_conditionsOf_144 (k27 : Int → Int → Int → Int → Int → Int → Int → Int → jMem → jO) (l1 l2 l3 l4 l5 l7 l8 t0 : Int) (s0 : jMem) : jO :=
jLet (j32 (l8 + 1)) fun x1 =>
k27 l1 l2 l3 l4 l5 t0 l7 x1 s0
def bX9_conditionsOf_116 (k27 : Int → Int → Int → Int → Int → Int → Int → Int → jMem → jO) (l1 l2 l3 l4 l6 l7 l8 l9 t0 : Int) (s0 : jMem) : jO :=
if l6 = 0 then (
bX9_conditionsOf_143 (bX9_conditionsOf_144 k27) l1 l2 l3 l4 t0 l7 l8 s0)
else (
jBd (fX0_sortOf l9 s0) fun x3 s4 =>
jBd (fX8_rowOf x3 s4) fun x5 s6 =>
jBd (fX8_rowOf l7 s6) fun x8 s9 =>
if x5 = x8 then (
bX9_conditionsOf_144 k27 l1 l2 l3 l4 t0 l7 l8 1 s9)
else (
bX9_conditionsOf_143 (bX9_conditionsOf_144 k27) l1 l2 l3 l4 t0 l7 l8 s9))
def bX9_conditionsOf_98 (k27 : Int → Int → Int → Int → Int → Int → Int → Int → jMem → jO) (l1 l2 l3 l4 l5 l6 l7 l8 l9 : Int) (s0 : jMem) : jO :=
if l5 = 0 then (
bX9_conditionsOf_115 (bX9_conditionsOf_116 k27) l1 l2 l3 l4 l6 l7 l8 l9 s0)
else (
jBd (fX0_hasOuter l9 s0) fun x3 s4 =>
if x3 = 0 then (
bX9_conditionsOf_115 (bX9_conditionsOf_116 k27) l1 l2 l3 l4 l6 l7 l8 l9 s4)
else (
bX9_conditionsOf_116 k27 l1 l2 l3 l4 l6 l7 l8 l9 1 s4))
def bX9_conditionsOf_80 (k27 : Int → Int → Int → Int → Int → Int → Int → Int → jMem → jO) (l1 l2 l3 l4 l5 l6 l7 l8 l9 l10 : Int) (s0 : jMem) : jO :=
if l10 = 2 then (
jLet (s0 17 3) fun x4 =>
if x4 < l8 then (
bX9_conditionsOf_98 k27 l1 l2 l3 l4 l5 l6 l7 l8 l9 s0)
else (
jLet (j32 (l3 + 1)) fun x5 =>
bX9_conditionsOf_98 k27 l1 l2 x5 l4 l5 l6 l7 l8 l9 s0))
else (
bX9_conditionsOf_98 k27 l1 l2 l3 l4 l5 l6 l7 l8 l9 s0)
def bX9_conditionsOf_27 (k152 : Int → Int → Int → Int → Int → Int → jMem → jO) (rec : Int → Int → Int → Int → Int → Int → Int → Int → jMem → jO) (l1 l2 l3 l4 l5 l6 l7 l8 : Int) (s0 : jMem) : jO :=
if 5 ≤ l8 then (
k152 l2 l3 l4 l5 l6 l7 s0)
else (
jBd (fX9_codeAt l1 l8 s0) fun x5 s6 =>
jBd (fX0_kindOf x5 s6) fun x8 s9 =>
if x8 = 1 then (
jLet (j32 (l2 + 1)) fun x11 =>
if l4 = 0 then (
jBd (fX9_stoodAhead l1 l8 s9) fun x16 s17 =>
if x16 = 0 then (
bX9_conditionsOf_78 (bX9_conditionsOf_80 rec) l1 x11 l3 l5 l6 l7 l8 x5 x8 0 s17)
else (
bX9_conditionsOf_73 (bX9_conditionsOf_78 (bX9_conditionsOf_80 rec)) l1 x11 l3 l5 l6 l7 l8 x5 x8 s17))
else (
bX9_conditionsOf_73 (bX9_conditionsOf_78 (bX9_conditionsOf_80 rec)) l1 x11 l3 l5 l6 l7 l8 x5 x8 s9))
else (
bX9_conditionsOf_80 rec l1 l2 l3 l4 l5 l6 l7 l8 x5 x8 s9))
def bX9_conditionsOf_218 (l3 l4 t0 t1 t2 : Int) (s0 : jMem) : jO :=
jBd (fX6_bit t1 t2 s0) fun x1 s2 =>
jLet (jor t0 x1) fun x3 =>
jBd (fX6_bit 6 l4 s2) fun x5 s6 =>
jLet (jor x3 x5) fun x7 =>
if l3 < 3 then (
jBd (fX6_bit 7 0 s6) fun x9 s10 =>
jLet (jor x7 x9) fun x11 =>
jRet x11 s10)
else (
jBd (fX6_bit 7 1 s6) fun x12 s13 =>
jLet (jor x7 x12) fun x14 =>
jRet x14 s13)
def bX9_conditionsOf_176 (l3 l4 l5 l6 l7 t0 t1 t2 : Int) (s0 : jMem) : jO :=
jBd (fX6_bit t1 t2 s0) fun x1 s2 =>
jLet (jor t0 x1) fun x3 =>
jBd (fX8_isOuter l7 s2) fun x5 s6 =>
jBd (fX6_bit 2 x5 s6) fun x7 s8 =>
jLet (jor x3 x7) fun x9 =>
jBd (fX6_bit 3 l5 s8) fun x11 s12 =>
jLet (jor x9 x11) fun x13 =>
jBd (fX6_bit 4 l6 s12) fun x15 s16 =>
jLet (jor x13 x15) fun x17 =>
jLet (s16 17 3) fun x19 =>
if x19 = 4 then (
bX9_conditionsOf_218 l3 l4 x17 5 1 s16)
else (
bX9_conditionsOf_218 l3 l4 x17 5 0 s16)
def bX9_conditionsOf_163 (l2 l3 l4 l5 l6 l7 t0 t1 : Int) (s0 : jMem) : jO :=
jBd (fX6_bit t0 t1 s0) fun x1 s2 =>
if l2 = 0 then (
bX9_conditionsOf_176 l3 l4 l5 l6 l7 x1 1 1 s2)
else (
bX9_conditionsOf_176 l3 l4 l5 l6 l7 x1 1 0 s2)
def bX9_conditionsOf_152 (l2 l3 l4 l5 l6 l7 : Int) (s0 : jMem) : jO :=
if l2 = 4 then (
bX9_conditionsOf_163 l2 l3 l4 l5 l6 l7 0 1 s0)
else (
bX9_conditionsOf_163 l2 l3 l4 l5 l6 l7 0 0 s0)
def fX9_conditionsOf (l1 : Int) (s0 : jMem) : jO :=
jBd (fX9_codeAt l1 0 s0) fun x3 s4 =>
jBd (fX0_sortOf x3 s4) fun x5 s6 =>
jIt (fun _ _ _ _ _ _ _ _ _ => none) (bX9_conditionsOf_27 bX9_conditionsOf_152) 1000 l1 0 0 0 1 1 x5 0 s6
def gX9_conditionsOf (vs : List Int) (s : jMem) : jO := match vs with
  | [a0, a1] => jGd (a0 = 17) <| fX9_conditionsOf a1 s
  | _ => none
set_option maxRecDepth 100000 in
set_option maxHeartbeats 4000000 in
theorem obX9_conditionsOf_73 {E : jEnv} {Rr : Int → jMem → Prop} {k78 : Int → Int → Int → Int → Int → Int → Int → Int → Int → Int → jMem → jO} (hk78 : ∀ (l1 l2 l3 l5 l6 l7 l8 l9 l10 t0 : Int) (s : jMem), jR 1 t0 → jHo Rr (k78 l1 l2 l3 l5 l6 l7 l8 l9 l10 t0 s) → jGo E MX9_conditionsOf 2 Rr [3, 1, 1, 1, 0, 1, 1, 1, 1, 1, 1] 78 [17, l1, l2, l3, 0, l5, l6, l7, l8, l9, l10] (jV E 1 t0 :: []) s) : ∀ (l1 l2 l3 l5 l6 l7 l8 l9 l10 : Int) (s : jMem), jHo Rr (bX9_conditionsOf_73 k78 l1 l2 l3 l5 l6 l7 l8 l9 l10 s) → jGo E MX9_conditionsOf 2 Rr [3, 1, 1, 1, 0, 1, 1, 1, 1, 1, 1] 73 [17, l1, l2, l3, 0, l5, l6, l7, l8, l9, l10] ([]) s := by
  intro l1 l2 l3 l5 l6 l7 l8 l9 l10 s0 hF
  unfold bX9_conditionsOf_73 at hF
  refine ji_iconst (pc := 73) dX9_conditionsOf_73 ?_
  refine jg_goto (pc := 74) 78 dX9_conditionsOf_74 rfl ?_
  refine jg_norm [3, 1, 1, 1, 0, 1, 1, 1, 1, 1, 1] [17, l1, l2, l3, 0, l5, l6, l7, l8, l9, l10] rfl rfl ?_
  exact hk78 _ _ _ _ _ _ _ _ _ _ _ (jRc rfl) hF
set_option maxRecDepth 100000 in
set_option maxHeartbeats 4000000 in
theorem obX9_conditionsOf_78 {E : jEnv} {Rr : Int → jMem → Prop} {k80 : Int → Int → Int → Int → Int → Int → Int → Int → Int → Int → jMem → jO} (hk80 : ∀ (l1 l2 l3 l4 l5 l6 l7 l8 l9 l10 : Int) (s : jMem), jHo Rr (k80 l1 l2 l3 l4 l5 l6 l7 l8 l9 l10 s) → jGo E MX9_conditionsOf 2 Rr [3, 1, 1, 1, 1, 1, 1, 1, 1, 1, 1] 80 [17, l1, l2, l3, l4, l5, l6, l7, l8, l9, l10] ([]) s) : ∀ (l1 l2 l3 l5 l6 l7 l8 l9 l10 t0 : Int) (s : jMem), jR 1 t0 → jHo Rr (bX9_conditionsOf_78 k80 l1 l2 l3 l5 l6 l7 l8 l9 l10 t0 s) → jGo E MX9_conditionsOf 2 Rr [3, 1, 1, 1, 0, 1, 1, 1, 1, 1, 1] 78 [17, l1, l2, l3, 0, l5, l6, l7, l8, l9, l10] (jV E 1 t0 :: []) s := by
  intro l1 l2 l3 l5 l6 l7 l8 l9 l10 t0 s0 r_t0 hF
  unfold bX9_conditionsOf_78 at hF
  refine ji_istore (n := 4) (pc := 78) [3, 1, 1, 1, 1, 1, 1, 1, 1, 1, 1] [17, l1, l2, l3, t0, l5, l6, l7, l8, l9, l10] r_t0 (Nat.le_of_ble_eq_true rfl) rfl rfl dX9_conditionsOf_78 ?_
  refine jg_norm [3, 1, 1, 1, 1, 1, 1, 1, 1, 1, 1] [17, l1, l2, l3, t0, l5, l6, l7, l8, l9, l10] rfl rfl ?_
  exact hk80 _ _ _ _ _ _ _ _ _ _ _ hF
set_option maxRecDepth 100000 in
set_option maxHeartbeats 4000000 in
theorem obX9_conditionsOf_115 {E : jEnv} {Rr : Int → jMem → Prop} {k116 : Int → Int → Int → Int → Int → Int → Int → Int → Int → jMem → jO} (hk116 : ∀ (l1 l2 l3 l4 l6 l7 l8 l9 t0 : Int) (s : jMem), jR 1 t0 → jHo Rr (k116 l1 l2 l3 l4 l6 l7 l8 l9 t0 s) → jGo E MX9_conditionsOf 2 Rr [3, 1, 1, 1, 1, 0, 1, 1, 1, 1, 0] 116 [17, l1, l2, l3, l4, 0, l6, l7, l8, l9, 0] (jV E 1 t0 :: []) s) : ∀ (l1 l2 l3 l4 l6 l7 l8 l9 : Int) (s : jMem), jHo Rr (bX9_conditionsOf_115 k116 l1 l2 l3 l4 l6 l7 l8 l9 s) → jGo E MX9_conditionsOf 2 Rr [3, 1, 1, 1, 1, 0, 1, 1, 1, 1, 0] 115 [17, l1, l2, l3, l4, 0, l6, l7, l8, l9, 0] ([]) s := by
  intro l1 l2 l3 l4 l6 l7 l8 l9 s0 hF
  unfold bX9_conditionsOf_115 at hF
  refine ji_iconst (pc := 115) dX9_conditionsOf_115 ?_
  refine jg_norm [3, 1, 1, 1, 1, 0, 1, 1, 1, 1, 0] [17, l1, l2, l3, l4, 0, l6, l7, l8, l9, 0] rfl rfl ?_
  exact hk116 _ _ _ _ _ _ _ _ _ _ (jRc rfl) hF
set_option maxRecDepth 100000 in
set_option maxHeartbeats 4000000 in
theorem obX9_conditionsOf_143 {E : jEnv} {Rr : Int → jMem → Prop} {k144 : Int → Int → Int → Int → Int → Int → Int → Int → jMem → jO} (hk144 : ∀ (l1 l2 l3 l4 l5 l7 l8 t0 : Int) (s : jMem), jR 1 t0 → jHo Rr (k144 l1 l2 l3 l4 l5 l7 l8 t0 s) → jGo E MX9_conditionsOf 2 Rr [3, 1, 1, 1, 1, 1, 0, 1, 1, 0, 0] 144 [17, l1, l2, l3, l4, l5, 0, l7, l8, 0, 0] (jV E 1 t0 :: []) s) : ∀ (l1 l2 l3 l4 l5 l7 l8 : Int) (s : jMem), jHo Rr (bX9_conditionsOf_143 k144 l1 l2 l3 l4 l5 l7 l8 s) → jGo E MX9_conditionsOf 2 Rr [3, 1, 1, 1, 1, 1, 0, 1, 1, 0, 0] 143 [17, l1, l2, l3, l4, l5, 0, l7, l8, 0, 0] ([]) s := by
  intro l1 l2 l3 l4 l5 l7 l8 s0 hF
  unfold bX9_conditionsOf_143 at hF
  refine ji_iconst (pc := 143) dX9_conditionsOf_143 ?_
  refine jg_norm [3, 1, 1, 1, 1, 1, 0, 1, 1, 0, 0] [17, l1, l2, l3, l4, l5, 0, l7, l8, 0, 0] rfl rfl ?_
  exact hk144 _ _ _ _ _ _ _ _ _ (jRc rfl) hF
set_option maxRecDepth 100000 in
set_option maxHeartbeats 4000000 in
theorem obX9_conditionsOf_144 {E : jEnv} {Rr : Int → jMem → Prop} {k27 : Int → Int → Int → Int → Int → Int → Int → Int → jMem → jO} (hk27 : ∀ (l1 l2 l3 l4 l5 l6 l7 l8 : Int) (s : jMem), jHo Rr (k27 l1 l2 l3 l4 l5 l6 l7 l8 s) → jGo E MX9_conditionsOf 2 Rr [3, 1, 1, 1, 1, 1, 1, 1, 1, 0, 0] 27 [17, l1, l2, l3, l4, l5, l6, l7, l8, 0, 0] ([]) s) : ∀ (l1 l2 l3 l4 l5 l7 l8 t0 : Int) (s : jMem), jR 1 t0 → jHo Rr (bX9_conditionsOf_144 k27 l1 l2 l3 l4 l5 l7 l8 t0 s) → jGo E MX9_conditionsOf 2 Rr [3, 1, 1, 1, 1, 1, 0, 1, 1, 0, 0] 144 [17, l1, l2, l3, l4, l5, 0, l7, l8, 0, 0] (jV E 1 t0 :: []) s := by
  intro l1 l2 l3 l4 l5 l7 l8 t0 s0 r_t0 hF
  unfold bX9_conditionsOf_144 at hF
  refine ji_istore (n := 6) (pc := 144) [3, 1, 1, 1, 1, 1, 1, 1, 1, 0, 0] [17, l1, l2, l3, l4, l5, t0, l7, l8, 0, 0] r_t0 (Nat.le_of_ble_eq_true rfl) rfl rfl dX9_conditionsOf_144 ?_
  refine ji_iinc (pc := 146) l8 (fun w => [17, l1, l2, l3, l4, l5, t0, l7, w, 0, 0]) rfl rfl rfl (fun _ => rfl) hF dX9_conditionsOf_146 (fun x1 r_x1 hF => ?_)
  refine jg_goto (pc := 149) 27 dX9_conditionsOf_149 rfl ?_
  refine jg_norm [3, 1, 1, 1, 1, 1, 1, 1, 1, 0, 0] [17, l1, l2, l3, l4, l5, t0, l7, x1, 0, 0] rfl rfl ?_
  exact hk27 _ _ _ _ _ _ _ _ _ hF
set_option maxRecDepth 100000 in
set_option maxHeartbeats 4000000 in
theorem obX9_conditionsOf_116 {E : jEnv} {Rr : Int → jMem → Prop} {k27 : Int → Int → Int → Int → Int → Int → Int → Int → jMem → jO} (hk27 : ∀ (l1 l2 l3 l4 l5 l6 l7 l8 : Int) (s : jMem), jHo Rr (k27 l1 l2 l3 l4 l5 l6 l7 l8 s) → jGo E MX9_conditionsOf 2 Rr [3, 1, 1, 1, 1, 1, 1, 1, 1, 0, 0] 27 [17, l1, l2, l3, l4, l5, l6, l7, l8, 0, 0] ([]) s) : ∀ (l1 l2 l3 l4 l6 l7 l8 l9 t0 : Int) (s : jMem), jR 1 t0 → jHo Rr (bX9_conditionsOf_116 k27 l1 l2 l3 l4 l6 l7 l8 l9 t0 s) → jGo E MX9_conditionsOf 2 Rr [3, 1, 1, 1, 1, 0, 1, 1, 1, 1, 0] 116 [17, l1, l2, l3, l4, 0, l6, l7, l8, l9, 0] (jV E 1 t0 :: []) s := by
  intro l1 l2 l3 l4 l6 l7 l8 l9 t0 s0 r_t0 hF
  unfold bX9_conditionsOf_116 at hF
  refine ji_istore (n := 5) (pc := 116) [3, 1, 1, 1, 1, 1, 1, 1, 1, 1, 0] [17, l1, l2, l3, l4, t0, l6, l7, l8, l9, 0] r_t0 (Nat.le_of_ble_eq_true rfl) rfl rfl dX9_conditionsOf_116 ?_
  refine ji_iload (pc := 118) l6 rfl rfl dX9_conditionsOf_118 (fun r1 => ?_)
  refine ji_if_eq 143 (pc := 120) r1 hF dX9_conditionsOf_120 rfl (fun hF => ?_) (fun hF => ?_)
  · refine jg_norm [3, 1, 1, 1, 1, 1, 0, 1, 1, 0, 0] [17, l1, l2, l3, l4, t0, 0, l7, l8, 0, 0] rfl rfl ?_
    exact obX9_conditionsOf_143 (obX9_conditionsOf_144 hk27) _ _ _ _ _ _ _ _ hF
  · refine ji_iload (pc := 123) l9 rfl rfl dX9_conditionsOf_123 (fun r2 => ?_)
    refine ji_callSi (pc := 125) [l9] ([]) oX0_sortOf wlX9_67 wmX0_sortOf rfl rfl (Nat.le_of_ble_eq_true rfl) (jRaC r2 jRa0) rfl rfl (Nat.le_of_ble_eq_true rfl) hF dX9_conditionsOf_125 (fun x3 s4 r_x3 hF => ?_)
    refine ji_callSi (pc := 128) [x3] ([]) oX8_rowOf wlX9_81 wmX8_rowOf rfl rfl (Nat.le_of_ble_eq_true rfl) (jRaC r_x3 jRa0) rfl rfl (Nat.le_of_ble_eq_true rfl) hF dX9_conditionsOf_128 (fun x5 s6 r_x5 hF => ?_)
    refine ji_iload (pc := 131) l7 rfl rfl dX9_conditionsOf_131 (fun r7 => ?_)
    refine ji_callSi (pc := 133) [l7] (jV E 1 x5 :: []) oX8_rowOf wlX9_81 wmX8_rowOf rfl rfl (Nat.le_of_ble_eq_true rfl) (jRaC r7 jRa0) rfl rfl (Nat.le_of_ble_eq_true rfl) hF dX9_conditionsOf_133 (fun x8 s9 r_x8 hF => ?_)
    refine ji_icmp_ne 143 (pc := 136) r_x5 r_x8 hF dX9_conditionsOf_136 rfl (fun hF => ?_) (fun hF => ?_)
    · refine jg_norm [3, 1, 1, 1, 1, 1, 0, 1, 1, 0, 0] [17, l1, l2, l3, l4, t0, 0, l7, l8, 0, 0] rfl rfl ?_
      exact obX9_conditionsOf_143 (obX9_conditionsOf_144 hk27) _ _ _ _ _ _ _ _ hF
    · refine ji_iconst (pc := 139) dX9_conditionsOf_139 ?_
      refine jg_goto (pc := 140) 144 dX9_conditionsOf_140 rfl ?_
      refine jg_norm [3, 1, 1, 1, 1, 1, 0, 1, 1, 0, 0] [17, l1, l2, l3, l4, t0, 0, l7, l8, 0, 0] rfl rfl ?_
      exact obX9_conditionsOf_144 hk27 _ _ _ _ _ _ _ _ _ (jRc rfl) hF
set_option maxRecDepth 100000 in
set_option maxHeartbeats 4000000 in
theorem obX9_conditionsOf_98 {E : jEnv} {Rr : Int → jMem → Prop} {k27 : Int → Int → Int → Int → Int → Int → Int → Int → jMem → jO} (hk27 : ∀ (l1 l2 l3 l4 l5 l6 l7 l8 : Int) (s : jMem), jHo Rr (k27 l1 l2 l3 l4 l5 l6 l7 l8 s) → jGo E MX9_conditionsOf 2 Rr [3, 1, 1, 1, 1, 1, 1, 1, 1, 0, 0] 27 [17, l1, l2, l3, l4, l5, l6, l7, l8, 0, 0] ([]) s) : ∀ (l1 l2 l3 l4 l5 l6 l7 l8 l9 : Int) (s : jMem), jHo Rr (bX9_conditionsOf_98 k27 l1 l2 l3 l4 l5 l6 l7 l8 l9 s) → jGo E MX9_conditionsOf 2 Rr [3, 1, 1, 1, 1, 1, 1, 1, 1, 1, 0] 98 [17, l1, l2, l3, l4, l5, l6, l7, l8, l9, 0] ([]) s := by
  intro l1 l2 l3 l4 l5 l6 l7 l8 l9 s0 hF
  unfold bX9_conditionsOf_98 at hF
  refine ji_iload (pc := 98) l5 rfl rfl dX9_conditionsOf_98 (fun r1 => ?_)
  refine ji_if_eq 115 (pc := 100) r1 hF dX9_conditionsOf_100 rfl (fun hF => ?_) (fun hF => ?_)
  · refine jg_norm [3, 1, 1, 1, 1, 0, 1, 1, 1, 1, 0] [17, l1, l2, l3, l4, 0, l6, l7, l8, l9, 0] rfl rfl ?_
    exact obX9_conditionsOf_115 (obX9_conditionsOf_116 hk27) _ _ _ _ _ _ _ _ _ hF
  · refine ji_iload (pc := 103) l9 rfl rfl dX9_conditionsOf_103 (fun r2 => ?_)
    refine ji_callSz (pc := 105) [l9] ([]) oX0_hasOuter wlX9_78 wmX0_hasOuter rfl rfl (Nat.le_of_ble_eq_true rfl) (jRaC r2 jRa0) rfl rfl (Nat.le_of_ble_eq_true rfl) hF dX9_conditionsOf_105 (fun x3 s4 r_x3 hF => ?_)
    refine ji_if_eq 115 (pc := 108) (jR51 r_x3) hF dX9_conditionsOf_108 rfl (fun hF => ?_) (fun hF => ?_)
    · refine jg_norm [3, 1, 1, 1, 1, 0, 1, 1, 1, 1, 0] [17, l1, l2, l3, l4, 0, l6, l7, l8, l9, 0] rfl rfl ?_
      exact obX9_conditionsOf_115 (obX9_conditionsOf_116 hk27) _ _ _ _ _ _ _ _ _ hF
    · refine ji_iconst (pc := 111) dX9_conditionsOf_111 ?_
      refine jg_goto (pc := 112) 116 dX9_conditionsOf_112 rfl ?_
      refine jg_norm [3, 1, 1, 1, 1, 0, 1, 1, 1, 1, 0] [17, l1, l2, l3, l4, 0, l6, l7, l8, l9, 0] rfl rfl ?_
      exact obX9_conditionsOf_116 hk27 _ _ _ _ _ _ _ _ _ _ (jRc rfl) hF
set_option maxRecDepth 100000 in
set_option maxHeartbeats 4000000 in
theorem obX9_conditionsOf_80 {E : jEnv} {Rr : Int → jMem → Prop} {k27 : Int → Int → Int → Int → Int → Int → Int → Int → jMem → jO} (hk27 : ∀ (l1 l2 l3 l4 l5 l6 l7 l8 : Int) (s : jMem), jHo Rr (k27 l1 l2 l3 l4 l5 l6 l7 l8 s) → jGo E MX9_conditionsOf 2 Rr [3, 1, 1, 1, 1, 1, 1, 1, 1, 0, 0] 27 [17, l1, l2, l3, l4, l5, l6, l7, l8, 0, 0] ([]) s) : ∀ (l1 l2 l3 l4 l5 l6 l7 l8 l9 l10 : Int) (s : jMem), jHo Rr (bX9_conditionsOf_80 k27 l1 l2 l3 l4 l5 l6 l7 l8 l9 l10 s) → jGo E MX9_conditionsOf 2 Rr [3, 1, 1, 1, 1, 1, 1, 1, 1, 1, 1] 80 [17, l1, l2, l3, l4, l5, l6, l7, l8, l9, l10] ([]) s := by
  intro l1 l2 l3 l4 l5 l6 l7 l8 l9 l10 s0 hF
  unfold bX9_conditionsOf_80 at hF
  refine ji_iload (pc := 80) l10 rfl rfl dX9_conditionsOf_80 (fun r1 => ?_)
  refine ji_iconst (pc := 82) dX9_conditionsOf_82 ?_
  refine ji_icmp_ne 98 (pc := 83) r1 (jRc rfl) hF dX9_conditionsOf_83 rfl (fun hF => ?_) (fun hF => ?_)
  · refine jg_norm [3, 1, 1, 1, 1, 1, 1, 1, 1, 1, 0] [17, l1, l2, l3, l4, l5, l6, l7, l8, l9, 0] rfl rfl ?_
    exact obX9_conditionsOf_98 hk27 _ _ _ _ _ _ _ _ _ _ hF
  · refine ji_iload (pc := 86) l8 rfl rfl dX9_conditionsOf_86 (fun r2 => ?_)
    refine ji_aload_n (n := 0) (pc := 88) 17 rfl rfl rfl dX9_conditionsOf_88 (fun r3 => ?_)
    refine ji_getfi (pc := 89) wfX9_21 (jRc3 rfl) jcl_17 hF dX9_conditionsOf_89 (fun x4 r_x4 hF => ?_)
    refine ji_icmp_gt 98 (pc := 92) r2 r_x4 hF dX9_conditionsOf_92 rfl (fun hF => ?_) (fun hF => ?_)
    · refine jg_norm [3, 1, 1, 1, 1, 1, 1, 1, 1, 1, 0] [17, l1, l2, l3, l4, l5, l6, l7, l8, l9, 0] rfl rfl ?_
      exact obX9_conditionsOf_98 hk27 _ _ _ _ _ _ _ _ _ _ hF
    · refine ji_iinc (pc := 95) l3 (fun w => [17, l1, l2, w, l4, l5, l6, l7, l8, l9, l10]) rfl rfl rfl (fun _ => rfl) hF dX9_conditionsOf_95 (fun x5 r_x5 hF => ?_)
      refine jg_norm [3, 1, 1, 1, 1, 1, 1, 1, 1, 1, 0] [17, l1, l2, x5, l4, l5, l6, l7, l8, l9, 0] rfl rfl ?_
      exact obX9_conditionsOf_98 hk27 _ _ _ _ _ _ _ _ _ _ hF
set_option maxRecDepth 100000 in
set_option maxHeartbeats 4000000 in
theorem obX9_conditionsOf_27 {E : jEnv} {Rr : Int → jMem → Prop} {k152 : Int → Int → Int → Int → Int → Int → jMem → jO} (hk152 : ∀ (l2 l3 l4 l5 l6 l7 : Int) (s : jMem), jHo Rr (k152 l2 l3 l4 l5 l6 l7 s) → jGo E MX9_conditionsOf 2 Rr [3, 0, 1, 1, 1, 1, 1, 1, 0, 0, 0] 152 [17, 0, l2, l3, l4, l5, l6, l7, 0, 0, 0] ([]) s) {rec : Int → Int → Int → Int → Int → Int → Int → Int → jMem → jO} (hrec : ∀ (l1 l2 l3 l4 l5 l6 l7 l8 : Int) (s : jMem), jHo Rr (rec l1 l2 l3 l4 l5 l6 l7 l8 s) → jGo E MX9_conditionsOf 2 Rr [3, 1, 1, 1, 1, 1, 1, 1, 1, 0, 0] 27 [17, l1, l2, l3, l4, l5, l6, l7, l8, 0, 0] ([]) s) : ∀ (l1 l2 l3 l4 l5 l6 l7 l8 : Int) (s : jMem), jHo Rr (bX9_conditionsOf_27 k152 rec l1 l2 l3 l4 l5 l6 l7 l8 s) → jGo E MX9_conditionsOf 2 Rr [3, 1, 1, 1, 1, 1, 1, 1, 1, 0, 0] 27 [17, l1, l2, l3, l4, l5, l6, l7, l8, 0, 0] ([]) s := by
  intro l1 l2 l3 l4 l5 l6 l7 l8 s0 hF
  unfold bX9_conditionsOf_27 at hF
  refine ji_iload (pc := 27) l8 rfl rfl dX9_conditionsOf_27 (fun r1 => ?_)
  refine ji_iconst (pc := 29) dX9_conditionsOf_29 ?_
  refine ji_icmp_ge 152 (pc := 30) r1 (jRc rfl) hF dX9_conditionsOf_30 rfl (fun hF => ?_) (fun hF => ?_)
  · refine jg_norm [3, 0, 1, 1, 1, 1, 1, 1, 0, 0, 0] [17, 0, l2, l3, l4, l5, l6, l7, 0, 0, 0] rfl rfl ?_
    exact hk152 _ _ _ _ _ _ _ hF
  · refine ji_aload_n (n := 0) (pc := 33) 17 rfl rfl rfl dX9_conditionsOf_33 (fun r2 => ?_)
    refine ji_iload_n (n := 1) (pc := 34) l1 rfl rfl rfl dX9_conditionsOf_34 (fun r3 => ?_)
    refine ji_iload (pc := 35) l8 rfl rfl dX9_conditionsOf_35 (fun r4 => ?_)
    refine ji_callVi (pc := 37) 17 [l1, l8] ([]) oX9_codeAt wlX9_64 wmX9_codeAt rfl rfl (Nat.le_of_ble_eq_true rfl) (jRaC (jRc3 rfl) (jRaC r3 (jRaC r4 jRa0))) rfl jcl_17 rfl (Nat.le_of_ble_eq_true rfl) hF dX9_conditionsOf_37 (fun x5 s6 r_x5 hF => ?_)
    refine ji_istore (n := 9) (pc := 40) [3, 1, 1, 1, 1, 1, 1, 1, 1, 1, 0] [17, l1, l2, l3, l4, l5, l6, l7, l8, x5, 0] r_x5 (Nat.le_of_ble_eq_true rfl) rfl rfl dX9_conditionsOf_40 ?_
    refine ji_iload (pc := 42) x5 rfl rfl dX9_conditionsOf_42 (fun r7 => ?_)
    refine ji_callSi (pc := 44) [x5] ([]) oX0_kindOf wlX9_71 wmX0_kindOf rfl rfl (Nat.le_of_ble_eq_true rfl) (jRaC r7 jRa0) rfl rfl (Nat.le_of_ble_eq_true rfl) hF dX9_conditionsOf_44 (fun x8 s9 r_x8 hF => ?_)
    refine ji_istore (n := 10) (pc := 47) [3, 1, 1, 1, 1, 1, 1, 1, 1, 1, 1] [17, l1, l2, l3, l4, l5, l6, l7, l8, x5, x8] r_x8 (Nat.le_of_ble_eq_true rfl) rfl rfl dX9_conditionsOf_47 ?_
    refine ji_iload (pc := 49) x8 rfl rfl dX9_conditionsOf_49 (fun r10 => ?_)
    refine ji_iconst (pc := 51) dX9_conditionsOf_51 ?_
    refine ji_icmp_ne 80 (pc := 52) r10 (jRc rfl) hF dX9_conditionsOf_52 rfl (fun hF => ?_) (fun hF => ?_)
    · refine jg_norm [3, 1, 1, 1, 1, 1, 1, 1, 1, 1, 1] [17, l1, l2, l3, l4, l5, l6, l7, l8, x5, x8] rfl rfl ?_
      exact obX9_conditionsOf_80 hrec _ _ _ _ _ _ _ _ _ _ _ hF
    · refine ji_iinc (pc := 55) l2 (fun w => [17, l1, w, l3, l4, l5, l6, l7, l8, x5, x8]) rfl rfl rfl (fun _ => rfl) hF dX9_conditionsOf_55 (fun x11 r_x11 hF => ?_)
      refine ji_iload (pc := 58) l4 rfl rfl dX9_conditionsOf_58 (fun r12 => ?_)
      refine ji_if_ne 73 (pc := 60) r12 hF dX9_conditionsOf_60 rfl (fun hF => ?_) (fun hF => ?_)
      · refine jg_norm [3, 1, 1, 1, 0, 1, 1, 1, 1, 1, 1] [17, l1, x11, l3, 0, l5, l6, l7, l8, x5, x8] rfl rfl ?_
        exact obX9_conditionsOf_73 (obX9_conditionsOf_78 (obX9_conditionsOf_80 hrec)) _ _ _ _ _ _ _ _ _ _ hF
      · refine ji_aload_n (n := 0) (pc := 63) 17 rfl rfl rfl dX9_conditionsOf_63 (fun r13 => ?_)
        refine ji_iload_n (n := 1) (pc := 64) l1 rfl rfl rfl dX9_conditionsOf_64 (fun r14 => ?_)
        refine ji_iload (pc := 65) l8 rfl rfl dX9_conditionsOf_65 (fun r15 => ?_)
        refine ji_callVz (pc := 67) 17 [l1, l8] ([]) oX9_stoodAhead wlX9_74 wmX9_stoodAhead rfl rfl (Nat.le_of_ble_eq_true rfl) (jRaC (jRc3 rfl) (jRaC r14 (jRaC r15 jRa0))) rfl jcl_17 rfl (Nat.le_of_ble_eq_true rfl) hF dX9_conditionsOf_67 (fun x16 s17 r_x16 hF => ?_)
        refine ji_if_eq 77 (pc := 70) (jR51 r_x16) hF dX9_conditionsOf_70 rfl (fun hF => ?_) (fun hF => ?_)
        · refine ji_iconst (pc := 77) dX9_conditionsOf_77 ?_
          refine jg_norm [3, 1, 1, 1, 0, 1, 1, 1, 1, 1, 1] [17, l1, x11, l3, 0, l5, l6, l7, l8, x5, x8] rfl rfl ?_
          exact obX9_conditionsOf_78 (obX9_conditionsOf_80 hrec) _ _ _ _ _ _ _ _ _ _ _ (jRc rfl) hF
        · refine jg_norm [3, 1, 1, 1, 0, 1, 1, 1, 1, 1, 1] [17, l1, x11, l3, 0, l5, l6, l7, l8, x5, x8] rfl rfl ?_
          exact obX9_conditionsOf_73 (obX9_conditionsOf_78 (obX9_conditionsOf_80 hrec)) _ _ _ _ _ _ _ _ _ _ hF
theorem obX9_conditionsOf_27W {E : jEnv} {Rr : Int → jMem → Prop} {k152 : Int → Int → Int → Int → Int → Int → jMem → jO} (hk152 : ∀ (l2 l3 l4 l5 l6 l7 : Int) (s : jMem), jHo Rr (k152 l2 l3 l4 l5 l6 l7 s) → jGo E MX9_conditionsOf 2 Rr [3, 0, 1, 1, 1, 1, 1, 1, 0, 0, 0] 152 [17, 0, l2, l3, l4, l5, l6, l7, 0, 0, 0] ([]) s) : ∀ n : Nat, ∀ (l1 l2 l3 l4 l5 l6 l7 l8 : Int) (s : jMem), jHo Rr (jIt (fun _ _ _ _ _ _ _ _ _ => none) (bX9_conditionsOf_27 k152) n l1 l2 l3 l4 l5 l6 l7 l8 s) → jGo E MX9_conditionsOf 2 Rr [3, 1, 1, 1, 1, 1, 1, 1, 1, 0, 0] 27 [17, l1, l2, l3, l4, l5, l6, l7, l8, 0, 0] ([]) s := by
  intro n
  induction n with
  | zero => intro l1 l2 l3 l4 l5 l6 l7 l8 s hF; exact jHo_none hF
  | succ n ih => exact obX9_conditionsOf_27 hk152 ih

set_option maxRecDepth 100000 in
set_option maxHeartbeats 4000000 in
theorem obX9_conditionsOf_218 {E : jEnv} {Rr : Int → jMem → Prop} : ∀ (l3 l4 t0 t1 t2 : Int) (s : jMem), jR 1 t0 → jR 1 t1 → jR 1 t2 → jHo Rr (bX9_conditionsOf_218 l3 l4 t0 t1 t2 s) → jGo E MX9_conditionsOf 2 Rr [0, 0, 0, 1, 1, 0, 0, 0, 0, 0, 0] 218 [0, 0, 0, l3, l4, 0, 0, 0, 0, 0, 0] (jV E 1 t2 :: jV E 1 t1 :: jV E 1 t0 :: []) s := by
  intro l3 l4 t0 t1 t2 s0 r_t0 r_t1 r_t2 hF
  unfold bX9_conditionsOf_218 at hF
  refine ji_callSi (pc := 218) [t1, t2] (jV E 1 t0 :: []) oX6_bit wlX9_86 wmX6_bit rfl rfl (Nat.le_of_ble_eq_true rfl) (jRaC r_t1 (jRaC r_t2 jRa0)) rfl rfl (Nat.le_of_ble_eq_true rfl) hF dX9_conditionsOf_218 (fun x1 s2 r_x1 hF => ?_)
  refine ji_ior (pc := 221)  hF dX9_conditionsOf_221 (fun x3 r_x3 hF => ?_)
  refine jg_bipush (pc := 222) rfl dX9_conditionsOf_222 ?_
  refine ji_iload (pc := 224) l4 rfl rfl dX9_conditionsOf_224 (fun r4 => ?_)
  refine ji_callSi (pc := 226) [6, l4] (jV E 1 x3 :: []) oX6_bit wlX9_86 wmX6_bit rfl rfl (Nat.le_of_ble_eq_true rfl) (jRaC (jRc rfl) (jRaC r4 jRa0)) rfl rfl (Nat.le_of_ble_eq_true rfl) hF dX9_conditionsOf_226 (fun x5 s6 r_x5 hF => ?_)
  refine ji_ior (pc := 229)  hF dX9_conditionsOf_229 (fun x7 r_x7 hF => ?_)
  refine jg_bipush (pc := 230) rfl dX9_conditionsOf_230 ?_
  refine ji_iload_n (n := 3) (pc := 232) l3 rfl rfl rfl dX9_conditionsOf_232 (fun r8 => ?_)
  refine ji_iconst (pc := 233) dX9_conditionsOf_233 ?_
  refine ji_icmp_lt 241 (pc := 234) r8 (jRc rfl) hF dX9_conditionsOf_234 rfl (fun hF => ?_) (fun hF => ?_)
  · refine ji_iconst (pc := 241) dX9_conditionsOf_241 ?_
    refine ji_callSi (pc := 242) [7, 0] (jV E 1 x7 :: []) oX6_bit wlX9_86 wmX6_bit rfl rfl (Nat.le_of_ble_eq_true rfl) (jRaC (jRc rfl) (jRaC (jRc rfl) jRa0)) rfl rfl (Nat.le_of_ble_eq_true rfl) hF dX9_conditionsOf_242 (fun x9 s10 r_x9 hF => ?_)
    refine ji_ior (pc := 245)  hF dX9_conditionsOf_245 (fun x11 r_x11 hF => ?_)
    exact ji_reti (pc := 246) rfl r_x11 hF dX9_conditionsOf_246
  · refine ji_iconst (pc := 237) dX9_conditionsOf_237 ?_
    refine jg_goto (pc := 238) 242 dX9_conditionsOf_238 rfl ?_
    refine ji_callSi (pc := 242) [7, 1] (jV E 1 x7 :: []) oX6_bit wlX9_86 wmX6_bit rfl rfl (Nat.le_of_ble_eq_true rfl) (jRaC (jRc rfl) (jRaC (jRc rfl) jRa0)) rfl rfl (Nat.le_of_ble_eq_true rfl) hF dX9_conditionsOf_242 (fun x12 s13 r_x12 hF => ?_)
    refine ji_ior (pc := 245)  hF dX9_conditionsOf_245 (fun x14 r_x14 hF => ?_)
    exact ji_reti (pc := 246) rfl r_x14 hF dX9_conditionsOf_246
set_option maxRecDepth 100000 in
set_option maxHeartbeats 4000000 in
theorem obX9_conditionsOf_176 {E : jEnv} {Rr : Int → jMem → Prop} : ∀ (l3 l4 l5 l6 l7 t0 t1 t2 : Int) (s : jMem), jR 1 t0 → jR 1 t1 → jR 1 t2 → jHo Rr (bX9_conditionsOf_176 l3 l4 l5 l6 l7 t0 t1 t2 s) → jGo E MX9_conditionsOf 2 Rr [3, 0, 0, 1, 1, 1, 1, 1, 0, 0, 0] 176 [17, 0, 0, l3, l4, l5, l6, l7, 0, 0, 0] (jV E 1 t2 :: jV E 1 t1 :: jV E 1 t0 :: []) s := by
  intro l3 l4 l5 l6 l7 t0 t1 t2 s0 r_t0 r_t1 r_t2 hF
  unfold bX9_conditionsOf_176 at hF
  refine ji_callSi (pc := 176) [t1, t2] (jV E 1 t0 :: []) oX6_bit wlX9_86 wmX6_bit rfl rfl (Nat.le_of_ble_eq_true rfl) (jRaC r_t1 (jRaC r_t2 jRa0)) rfl rfl (Nat.le_of_ble_eq_true rfl) hF dX9_conditionsOf_176 (fun x1 s2 r_x1 hF => ?_)
  refine ji_ior (pc := 179)  hF dX9_conditionsOf_179 (fun x3 r_x3 hF => ?_)
  refine ji_iconst (pc := 180) dX9_conditionsOf_180 ?_
  refine ji_iload (pc := 181) l7 rfl rfl dX9_conditionsOf_181 (fun r4 => ?_)
  refine ji_callSz (pc := 183) [l7] (jV E 1 2 :: jV E 1 x3 :: []) oX8_isOuter wlX9_90 wmX8_isOuter rfl rfl (Nat.le_of_ble_eq_true rfl) (jRaC r4 jRa0) rfl rfl (Nat.le_of_ble_eq_true rfl) hF dX9_conditionsOf_183 (fun x5 s6 r_x5 hF => ?_)
  refine ji_callSi (pc := 186) [2, x5] (jV E 1 x3 :: []) oX6_bit wlX9_86 wmX6_bit rfl rfl (Nat.le_of_ble_eq_true rfl) (jRaC (jRc rfl) (jRaC (jR51 r_x5) jRa0)) rfl rfl (Nat.le_of_ble_eq_true rfl) hF dX9_conditionsOf_186 (fun x7 s8 r_x7 hF => ?_)
  refine ji_ior (pc := 189)  hF dX9_conditionsOf_189 (fun x9 r_x9 hF => ?_)
  refine ji_iconst (pc := 190) dX9_conditionsOf_190 ?_
  refine ji_iload (pc := 191) l5 rfl rfl dX9_conditionsOf_191 (fun r10 => ?_)
  refine ji_callSi (pc := 193) [3, l5] (jV E 1 x9 :: []) oX6_bit wlX9_86 wmX6_bit rfl rfl (Nat.le_of_ble_eq_true rfl) (jRaC (jRc rfl) (jRaC r10 jRa0)) rfl rfl (Nat.le_of_ble_eq_true rfl) hF dX9_conditionsOf_193 (fun x11 s12 r_x11 hF => ?_)
  refine ji_ior (pc := 196)  hF dX9_conditionsOf_196 (fun x13 r_x13 hF => ?_)
  refine ji_iconst (pc := 197) dX9_conditionsOf_197 ?_
  refine ji_iload (pc := 198) l6 rfl rfl dX9_conditionsOf_198 (fun r14 => ?_)
  refine ji_callSi (pc := 200) [4, l6] (jV E 1 x13 :: []) oX6_bit wlX9_86 wmX6_bit rfl rfl (Nat.le_of_ble_eq_true rfl) (jRaC (jRc rfl) (jRaC r14 jRa0)) rfl rfl (Nat.le_of_ble_eq_true rfl) hF dX9_conditionsOf_200 (fun x15 s16 r_x15 hF => ?_)
  refine ji_ior (pc := 203)  hF dX9_conditionsOf_203 (fun x17 r_x17 hF => ?_)
  refine ji_iconst (pc := 204) dX9_conditionsOf_204 ?_
  refine ji_aload_n (n := 0) (pc := 205) 17 rfl rfl rfl dX9_conditionsOf_205 (fun r18 => ?_)
  refine ji_getfi (pc := 206) wfX9_21 (jRc3 rfl) jcl_17 hF dX9_conditionsOf_206 (fun x19 r_x19 hF => ?_)
  refine ji_iconst (pc := 209) dX9_conditionsOf_209 ?_
  refine ji_icmp_ne 217 (pc := 210) r_x19 (jRc rfl) hF dX9_conditionsOf_210 rfl (fun hF => ?_) (fun hF => ?_)
  · refine ji_iconst (pc := 217) dX9_conditionsOf_217 ?_
    refine jg_norm [0, 0, 0, 1, 1, 0, 0, 0, 0, 0, 0] [0, 0, 0, l3, l4, 0, 0, 0, 0, 0, 0] rfl rfl ?_
    exact obX9_conditionsOf_218 _ _ _ _ _ _ r_x17 (jRc rfl) (jRc rfl) hF
  · refine ji_iconst (pc := 213) dX9_conditionsOf_213 ?_
    refine jg_goto (pc := 214) 218 dX9_conditionsOf_214 rfl ?_
    refine jg_norm [0, 0, 0, 1, 1, 0, 0, 0, 0, 0, 0] [0, 0, 0, l3, l4, 0, 0, 0, 0, 0, 0] rfl rfl ?_
    exact obX9_conditionsOf_218 _ _ _ _ _ _ r_x17 (jRc rfl) (jRc rfl) hF
set_option maxRecDepth 100000 in
set_option maxHeartbeats 4000000 in
theorem obX9_conditionsOf_163 {E : jEnv} {Rr : Int → jMem → Prop} : ∀ (l2 l3 l4 l5 l6 l7 t0 t1 : Int) (s : jMem), jR 1 t0 → jR 1 t1 → jHo Rr (bX9_conditionsOf_163 l2 l3 l4 l5 l6 l7 t0 t1 s) → jGo E MX9_conditionsOf 2 Rr [3, 0, 1, 1, 1, 1, 1, 1, 0, 0, 0] 163 [17, 0, l2, l3, l4, l5, l6, l7, 0, 0, 0] (jV E 1 t1 :: jV E 1 t0 :: []) s := by
  intro l2 l3 l4 l5 l6 l7 t0 t1 s0 r_t0 r_t1 hF
  unfold bX9_conditionsOf_163 at hF
  refine ji_callSi (pc := 163) [t0, t1] ([]) oX6_bit wlX9_86 wmX6_bit rfl rfl (Nat.le_of_ble_eq_true rfl) (jRaC r_t0 (jRaC r_t1 jRa0)) rfl rfl (Nat.le_of_ble_eq_true rfl) hF dX9_conditionsOf_163 (fun x1 s2 r_x1 hF => ?_)
  refine ji_iconst (pc := 166) dX9_conditionsOf_166 ?_
  refine ji_iload_n (n := 2) (pc := 167) l2 rfl rfl rfl dX9_conditionsOf_167 (fun r3 => ?_)
  refine ji_if_ne 175 (pc := 168) r3 hF dX9_conditionsOf_168 rfl (fun hF => ?_) (fun hF => ?_)
  · refine ji_iconst (pc := 175) dX9_conditionsOf_175 ?_
    refine jg_norm [3, 0, 0, 1, 1, 1, 1, 1, 0, 0, 0] [17, 0, 0, l3, l4, l5, l6, l7, 0, 0, 0] rfl rfl ?_
    exact obX9_conditionsOf_176 _ _ _ _ _ _ _ _ _ r_x1 (jRc rfl) (jRc rfl) hF
  · refine ji_iconst (pc := 171) dX9_conditionsOf_171 ?_
    refine jg_goto (pc := 172) 176 dX9_conditionsOf_172 rfl ?_
    refine jg_norm [3, 0, 0, 1, 1, 1, 1, 1, 0, 0, 0] [17, 0, 0, l3, l4, l5, l6, l7, 0, 0, 0] rfl rfl ?_
    exact obX9_conditionsOf_176 _ _ _ _ _ _ _ _ _ r_x1 (jRc rfl) (jRc rfl) hF
set_option maxRecDepth 100000 in
set_option maxHeartbeats 4000000 in
theorem obX9_conditionsOf_152 {E : jEnv} {Rr : Int → jMem → Prop} : ∀ (l2 l3 l4 l5 l6 l7 : Int) (s : jMem), jHo Rr (bX9_conditionsOf_152 l2 l3 l4 l5 l6 l7 s) → jGo E MX9_conditionsOf 2 Rr [3, 0, 1, 1, 1, 1, 1, 1, 0, 0, 0] 152 [17, 0, l2, l3, l4, l5, l6, l7, 0, 0, 0] ([]) s := by
  intro l2 l3 l4 l5 l6 l7 s0 hF
  unfold bX9_conditionsOf_152 at hF
  refine ji_iconst (pc := 152) dX9_conditionsOf_152 ?_
  refine ji_iload_n (n := 2) (pc := 153) l2 rfl rfl rfl dX9_conditionsOf_153 (fun r1 => ?_)
  refine ji_iconst (pc := 154) dX9_conditionsOf_154 ?_
  refine ji_icmp_ne 162 (pc := 155) r1 (jRc rfl) hF dX9_conditionsOf_155 rfl (fun hF => ?_) (fun hF => ?_)
  · refine ji_iconst (pc := 162) dX9_conditionsOf_162 ?_
    refine jg_norm [3, 0, 1, 1, 1, 1, 1, 1, 0, 0, 0] [17, 0, l2, l3, l4, l5, l6, l7, 0, 0, 0] rfl rfl ?_
    exact obX9_conditionsOf_163 _ _ _ _ _ _ _ _ _ (jRc rfl) (jRc rfl) hF
  · refine ji_iconst (pc := 158) dX9_conditionsOf_158 ?_
    refine jg_goto (pc := 159) 163 dX9_conditionsOf_159 rfl ?_
    refine jg_norm [3, 0, 1, 1, 1, 1, 1, 1, 0, 0, 0] [17, 0, l2, l3, l4, l5, l6, l7, 0, 0, 0] rfl rfl ?_
    exact obX9_conditionsOf_163 _ _ _ _ _ _ _ _ _ (jRc rfl) (jRc rfl) hF
set_option maxRecDepth 100000 in
set_option maxHeartbeats 4000000 in
theorem oX9_conditionsOf : jOk MX9_conditionsOf [3, 1] 2 (jFn gX9_conditionsOf) := by
  refine jOk_fn (by decide +kernel) (Nat.le_of_ble_eq_true rfl) (by decide +kernel) (.inr (.inl rfl)) ?_
  intro E vs s0 Rr hF ha
  obtain ⟨l0, t0, rfl, r_l0, ha⟩ := jRa_ci ha
  obtain ⟨l1, t1, rfl, r_l1, ha⟩ := jRa_ci ha
  obtain rfl := jRa_ni ha
  replace hF : jHo Rr (jGd (l0 = 17) <| fX9_conditionsOf l1 s0) := hF
  have hG := jHo_as hF
  clear hF
  obtain ⟨rfl, hF⟩ := hG
  refine jg_norm [3, 1, 0, 0, 0, 0, 0, 0, 0, 0, 0] [17, l1, 0, 0, 0, 0, 0, 0, 0, 0, 0] rfl rfl ?_
  unfold fX9_conditionsOf at hF
  refine ji_iconst (pc := 0) dX9_conditionsOf_0 ?_
  refine ji_istore_n (n := 2) (pc := 1) [3, 1, 1, 0, 0, 0, 0, 0, 0, 0, 0] [17, l1, 0, 0, 0, 0, 0, 0, 0, 0, 0] rfl (jRc rfl) (Nat.le_of_ble_eq_true rfl) rfl rfl dX9_conditionsOf_1 ?_
  refine ji_iconst (pc := 2) dX9_conditionsOf_2 ?_
  refine ji_istore_n (n := 3) (pc := 3) [3, 1, 1, 1, 0, 0, 0, 0, 0, 0, 0] [17, l1, 0, 0, 0, 0, 0, 0, 0, 0, 0] rfl (jRc rfl) (Nat.le_of_ble_eq_true rfl) rfl rfl dX9_conditionsOf_3 ?_
  refine ji_iconst (pc := 4) dX9_conditionsOf_4 ?_
  refine ji_istore (n := 4) (pc := 5) [3, 1, 1, 1, 1, 0, 0, 0, 0, 0, 0] [17, l1, 0, 0, 0, 0, 0, 0, 0, 0, 0] (jRc rfl) (Nat.le_of_ble_eq_true rfl) rfl rfl dX9_conditionsOf_5 ?_
  refine ji_iconst (pc := 7) dX9_conditionsOf_7 ?_
  refine ji_istore (n := 5) (pc := 8) [3, 1, 1, 1, 1, 1, 0, 0, 0, 0, 0] [17, l1, 0, 0, 0, 1, 0, 0, 0, 0, 0] (jRc rfl) (Nat.le_of_ble_eq_true rfl) rfl rfl dX9_conditionsOf_8 ?_
  refine ji_iconst (pc := 10) dX9_conditionsOf_10 ?_
  refine ji_istore (n := 6) (pc := 11) [3, 1, 1, 1, 1, 1, 1, 0, 0, 0, 0] [17, l1, 0, 0, 0, 1, 1, 0, 0, 0, 0] (jRc rfl) (Nat.le_of_ble_eq_true rfl) rfl rfl dX9_conditionsOf_11 ?_
  refine ji_aload_n (n := 0) (pc := 13) 17 rfl rfl rfl dX9_conditionsOf_13 (fun r1 => ?_)
  refine ji_iload_n (n := 1) (pc := 14) l1 rfl rfl rfl dX9_conditionsOf_14 (fun r2 => ?_)
  refine ji_iconst (pc := 15) dX9_conditionsOf_15 ?_
  refine ji_callVi (pc := 16) 17 [l1, 0] ([]) oX9_codeAt wlX9_64 wmX9_codeAt rfl rfl (Nat.le_of_ble_eq_true rfl) (jRaC (jRc3 rfl) (jRaC r2 (jRaC (jRc rfl) jRa0))) rfl jcl_17 rfl (Nat.le_of_ble_eq_true rfl) hF dX9_conditionsOf_16 (fun x3 s4 r_x3 hF => ?_)
  refine ji_callSi (pc := 19) [x3] ([]) oX0_sortOf wlX9_67 wmX0_sortOf rfl rfl (Nat.le_of_ble_eq_true rfl) (jRaC r_x3 jRa0) rfl rfl (Nat.le_of_ble_eq_true rfl) hF dX9_conditionsOf_19 (fun x5 s6 r_x5 hF => ?_)
  refine ji_istore (n := 7) (pc := 22) [3, 1, 1, 1, 1, 1, 1, 1, 0, 0, 0] [17, l1, 0, 0, 0, 1, 1, x5, 0, 0, 0] r_x5 (Nat.le_of_ble_eq_true rfl) rfl rfl dX9_conditionsOf_22 ?_
  refine ji_iconst (pc := 24) dX9_conditionsOf_24 ?_
  refine ji_istore (n := 8) (pc := 25) [3, 1, 1, 1, 1, 1, 1, 1, 1, 0, 0] [17, l1, 0, 0, 0, 1, 1, x5, 0, 0, 0] (jRc rfl) (Nat.le_of_ble_eq_true rfl) rfl rfl dX9_conditionsOf_25 ?_
  refine jg_norm [3, 1, 1, 1, 1, 1, 1, 1, 1, 0, 0] [17, l1, 0, 0, 0, 1, 1, x5, 0, 0, 0] rfl rfl ?_
  exact obX9_conditionsOf_27W obX9_conditionsOf_152 1000 _ _ _ _ _ _ _ _ _ hF
def fX6_isIn (l0 l1 : Int) (s0 : jMem) : jO :=
jLet (jshr l1 l0) fun x3 =>
jLet (jand x3 1) fun x4 =>
if x4 = 1 then (
jRet 1 s0)
else (
jRet 0 s0)
def gX6_isIn (vs : List Int) (s : jMem) : jO := match vs with
  | [a0, a1] => fX6_isIn a0 a1 s
  | _ => none
set_option maxRecDepth 100000 in
set_option maxHeartbeats 4000000 in
theorem oX6_isIn : jOk MX6_isIn [1, 1] 0 (jFn gX6_isIn) := by
  refine jOk_fn (by decide +kernel) (Nat.le_of_ble_eq_true rfl) (by decide +kernel) (.inr (.inr (.inr rfl))) ?_
  intro E vs s0 Rr hF ha
  obtain ⟨l0, t0, rfl, r_l0, ha⟩ := jRa_ci ha
  obtain ⟨l1, t1, rfl, r_l1, ha⟩ := jRa_ci ha
  obtain rfl := jRa_ni ha
  replace hF : jHo Rr (fX6_isIn l0 l1 s0) := hF
  refine jg_norm [1, 1] [l0, l1] rfl rfl ?_
  unfold fX6_isIn at hF
  refine ji_iload_n (n := 1) (pc := 0) l1 rfl rfl rfl dX6_isIn_0 (fun r1 => ?_)
  refine ji_iload_n (n := 0) (pc := 1) l0 rfl rfl rfl dX6_isIn_1 (fun r2 => ?_)
  refine ji_ishr (pc := 2)  hF dX6_isIn_2 (fun x3 r_x3 hF => ?_)
  refine ji_iconst (pc := 3) dX6_isIn_3 ?_
  refine ji_iand (pc := 4)  hF dX6_isIn_4 (fun x4 r_x4 hF => ?_)
  refine ji_iconst (pc := 5) dX6_isIn_5 ?_
  refine ji_icmp_ne 13 (pc := 6) r_x4 (jRc rfl) hF dX6_isIn_6 rfl (fun hF => ?_) (fun hF => ?_)
  · refine ji_iconst (pc := 13) dX6_isIn_13 ?_
    exact ji_retz (pc := 14) rfl (jRc5 rfl) hF dX6_isIn_14
  · refine ji_iconst (pc := 9) dX6_isIn_9 ?_
    refine jg_goto (pc := 10) 14 dX6_isIn_10 rfl ?_
    exact ji_retz (pc := 14) rfl (jRc5 rfl) hF dX6_isIn_14
def bX6_isPutOut_45 (k2 : Int → Int → Int → jMem → jO) (l1 l2 l3 : Int) (s0 : jMem) : jO :=
jLet (j32 (l3 + 1)) fun x1 =>
k2 l1 l2 x1 s0
def bX6_isPutOut_2 (rec : Int → Int → Int → jMem → jO) (l1 l2 l3 : Int) (s0 : jMem) : jO :=
jLet (s0 21 3) fun x3 =>
if x3 ≤ l3 then (
jRet 0 s0)
else (
if l3 = l1 then (
bX6_isPutOut_45 rec l1 l2 l3 s0)
else (
jGd ((0 : Int) ≤ l3 ∧ l3 < jik 24) <| jLet (s0 24 l3) fun x8 =>
jGd ((0 : Int) ≤ l1 ∧ l1 < jik 22) <| jLet (s0 22 l1) fun x11 =>
if x8 = x11 then (
jGd ((0 : Int) ≤ l3 ∧ l3 < jik 22) <| jLet (s0 22 l3) fun x14 =>
jBd (fX6_isIn x14 l2 s0) fun x16 s17 =>
if x16 = 0 then (
bX6_isPutOut_45 rec l1 l2 l3 s17)
else (
jRet 1 s17))
else (
bX6_isPutOut_45 rec l1 l2 l3 s0)))
def fX6_isPutOut (l1 l2 : Int) (s0 : jMem) : jO :=
jIt (fun _ _ _ _ => none) (bX6_isPutOut_2) 1000 l1 l2 0 s0
def gX6_isPutOut (vs : List Int) (s : jMem) : jO := match vs with
  | [a0, a1, a2] => jGd (a0 = 21) <| fX6_isPutOut a1 a2 s
  | _ => none
set_option maxRecDepth 100000 in
set_option maxHeartbeats 4000000 in
theorem obX6_isPutOut_45 {E : jEnv} {Rr : Int → jMem → Prop} {k2 : Int → Int → Int → jMem → jO} (hk2 : ∀ (l1 l2 l3 : Int) (s : jMem), jHo Rr (k2 l1 l2 l3 s) → jGo E MX6_isPutOut 1 Rr [3, 1, 1, 1] 2 [21, l1, l2, l3] ([]) s) : ∀ (l1 l2 l3 : Int) (s : jMem), jHo Rr (bX6_isPutOut_45 k2 l1 l2 l3 s) → jGo E MX6_isPutOut 1 Rr [3, 1, 1, 1] 45 [21, l1, l2, l3] ([]) s := by
  intro l1 l2 l3 s0 hF
  unfold bX6_isPutOut_45 at hF
  refine ji_iinc (pc := 45) l3 (fun w => [21, l1, l2, w]) rfl rfl rfl (fun _ => rfl) hF dX6_isPutOut_45 (fun x1 r_x1 hF => ?_)
  refine jg_goto (pc := 48) 2 dX6_isPutOut_48 rfl ?_
  refine jg_norm [3, 1, 1, 1] [21, l1, l2, x1] rfl rfl ?_
  exact hk2 _ _ _ _ hF
set_option maxRecDepth 100000 in
set_option maxHeartbeats 4000000 in
theorem obX6_isPutOut_2 {E : jEnv} {Rr : Int → jMem → Prop} {rec : Int → Int → Int → jMem → jO} (hrec : ∀ (l1 l2 l3 : Int) (s : jMem), jHo Rr (rec l1 l2 l3 s) → jGo E MX6_isPutOut 1 Rr [3, 1, 1, 1] 2 [21, l1, l2, l3] ([]) s) : ∀ (l1 l2 l3 : Int) (s : jMem), jHo Rr (bX6_isPutOut_2 rec l1 l2 l3 s) → jGo E MX6_isPutOut 1 Rr [3, 1, 1, 1] 2 [21, l1, l2, l3] ([]) s := by
  intro l1 l2 l3 s0 hF
  unfold bX6_isPutOut_2 at hF
  refine ji_iload_n (n := 3) (pc := 2) l3 rfl rfl rfl dX6_isPutOut_2 (fun r1 => ?_)
  refine ji_aload_n (n := 0) (pc := 3) 21 rfl rfl rfl dX6_isPutOut_3 (fun r2 => ?_)
  refine ji_getfi (pc := 4) wfX6_19 (jRc3 rfl) jcl_21 hF dX6_isPutOut_4 (fun x3 r_x3 hF => ?_)
  refine ji_icmp_ge 51 (pc := 7) r1 r_x3 hF dX6_isPutOut_7 rfl (fun hF => ?_) (fun hF => ?_)
  · refine ji_iconst (pc := 51) dX6_isPutOut_51 ?_
    exact ji_retz (pc := 52) rfl (jRc5 rfl) hF dX6_isPutOut_52
  · refine ji_iload_n (n := 3) (pc := 10) l3 rfl rfl rfl dX6_isPutOut_10 (fun r4 => ?_)
    refine ji_iload_n (n := 1) (pc := 11) l1 rfl rfl rfl dX6_isPutOut_11 (fun r5 => ?_)
    refine ji_icmp_eq 45 (pc := 12) r4 r5 hF dX6_isPutOut_12 rfl (fun hF => ?_) (fun hF => ?_)
    · refine jg_norm [3, 1, 1, 1] [21, l1, l2, l3] rfl rfl ?_
      exact obX6_isPutOut_45 hrec _ _ _ _ hF
    · refine ji_aload_n (n := 0) (pc := 15) 21 rfl rfl rfl dX6_isPutOut_15 (fun r6 => ?_)
      refine ji_getr (pc := 16) 24 wfX6_16 (jRc3 rfl) jcl_21 jrf_21_2 dX6_isPutOut_16 ?_
      refine ji_iload_n (n := 3) (pc := 19) l3 rfl rfl rfl dX6_isPutOut_19 (fun r7 => ?_)
      refine ji_iaload (pc := 20) (jRc3 rfl) r7 hF dX6_isPutOut_20 (fun x8 r_x8 hF => ?_)
      refine ji_aload_n (n := 0) (pc := 21) 21 rfl rfl rfl dX6_isPutOut_21 (fun r9 => ?_)
      refine ji_getr (pc := 22) 22 wfX6_9 (jRc3 rfl) jcl_21 jrf_21_0 dX6_isPutOut_22 ?_
      refine ji_iload_n (n := 1) (pc := 25) l1 rfl rfl rfl dX6_isPutOut_25 (fun r10 => ?_)
      refine ji_iaload (pc := 26) (jRc3 rfl) r10 hF dX6_isPutOut_26 (fun x11 r_x11 hF => ?_)
      refine ji_icmp_ne 45 (pc := 27) r_x8 r_x11 hF dX6_isPutOut_27 rfl (fun hF => ?_) (fun hF => ?_)
      · refine jg_norm [3, 1, 1, 1] [21, l1, l2, l3] rfl rfl ?_
        exact obX6_isPutOut_45 hrec _ _ _ _ hF
      · refine ji_aload_n (n := 0) (pc := 30) 21 rfl rfl rfl dX6_isPutOut_30 (fun r12 => ?_)
        refine ji_getr (pc := 31) 22 wfX6_9 (jRc3 rfl) jcl_21 jrf_21_0 dX6_isPutOut_31 ?_
        refine ji_iload_n (n := 3) (pc := 34) l3 rfl rfl rfl dX6_isPutOut_34 (fun r13 => ?_)
        refine ji_iaload (pc := 35) (jRc3 rfl) r13 hF dX6_isPutOut_35 (fun x14 r_x14 hF => ?_)
        refine ji_iload_n (n := 2) (pc := 36) l2 rfl rfl rfl dX6_isPutOut_36 (fun r15 => ?_)
        refine ji_callSz (pc := 37) [x14, l2] ([]) oX6_isIn wlX6_23 wmX6_isIn rfl rfl (Nat.le_of_ble_eq_true rfl) (jRaC r_x14 (jRaC r15 jRa0)) rfl rfl (Nat.le_of_ble_eq_true rfl) hF dX6_isPutOut_37 (fun x16 s17 r_x16 hF => ?_)
        refine ji_if_eq 45 (pc := 40) (jR51 r_x16) hF dX6_isPutOut_40 rfl (fun hF => ?_) (fun hF => ?_)
        · refine jg_norm [3, 1, 1, 1] [21, l1, l2, l3] rfl rfl ?_
          exact obX6_isPutOut_45 hrec _ _ _ _ hF
        · refine ji_iconst (pc := 43) dX6_isPutOut_43 ?_
          exact ji_retz (pc := 44) rfl (jRc5 rfl) hF dX6_isPutOut_44
theorem obX6_isPutOut_2W {E : jEnv} {Rr : Int → jMem → Prop} : ∀ n : Nat, ∀ (l1 l2 l3 : Int) (s : jMem), jHo Rr (jIt (fun _ _ _ _ => none) (bX6_isPutOut_2) n l1 l2 l3 s) → jGo E MX6_isPutOut 1 Rr [3, 1, 1, 1] 2 [21, l1, l2, l3] ([]) s := by
  intro n
  induction n with
  | zero => intro l1 l2 l3 s hF; exact jHo_none hF
  | succ n ih => exact obX6_isPutOut_2 ih

set_option maxRecDepth 100000 in
set_option maxHeartbeats 4000000 in
theorem oX6_isPutOut : jOk MX6_isPutOut [3, 1, 1] 1 (jFn gX6_isPutOut) := by
  refine jOk_fn (by decide +kernel) (Nat.le_of_ble_eq_true rfl) (by decide +kernel) (.inr (.inr (.inr rfl))) ?_
  intro E vs s0 Rr hF ha
  obtain ⟨l0, t0, rfl, r_l0, ha⟩ := jRa_ci ha
  obtain ⟨l1, t1, rfl, r_l1, ha⟩ := jRa_ci ha
  obtain ⟨l2, t2, rfl, r_l2, ha⟩ := jRa_ci ha
  obtain rfl := jRa_ni ha
  replace hF : jHo Rr (jGd (l0 = 21) <| fX6_isPutOut l1 l2 s0) := hF
  have hG := jHo_as hF
  clear hF
  obtain ⟨rfl, hF⟩ := hG
  refine jg_norm [3, 1, 1, 0] [21, l1, l2, 0] rfl rfl ?_
  unfold fX6_isPutOut at hF
  refine ji_iconst (pc := 0) dX6_isPutOut_0 ?_
  refine ji_istore_n (n := 3) (pc := 1) [3, 1, 1, 1] [21, l1, l2, 0] rfl (jRc rfl) (Nat.le_of_ble_eq_true rfl) rfl rfl dX6_isPutOut_1 ?_
  refine jg_norm [3, 1, 1, 1] [21, l1, l2, 0] rfl rfl ?_
  exact obX6_isPutOut_2W 1000 _ _ _ _ hF
def bX6_sumOf_43 (k4 : Int → Int → Int → jMem → jO) (l1 l2 l3 : Int) (s0 : jMem) : jO :=
jLet (j32 (l3 + 1)) fun x1 =>
k4 l1 l2 x1 s0
def bX6_sumOf_4 (rec : Int → Int → Int → jMem → jO) (l1 l2 l3 : Int) (s0 : jMem) : jO :=
jLet (s0 21 3) fun x3 =>
if x3 ≤ l3 then (
jRet l2 s0)
else (
jGd ((0 : Int) ≤ l3 ∧ l3 < jik 22) <| jLet (s0 22 l3) fun x7 =>
jBd (fX6_isIn x7 l1 s0) fun x9 s10 =>
if x9 = 0 then (
bX6_sumOf_43 rec l1 l2 l3 s10)
else (
jBd (fX6_isPutOut l3 l1 s10) fun x14 s15 =>
if x14 = 0 then (
jGd ((0 : Int) ≤ l3 ∧ l3 < jik 23) <| jLet (s15 23 l3) fun x19 =>
jLet (j32 (l2 + x19)) fun x20 =>
bX6_sumOf_43 rec l1 x20 l3 s15)
else (
bX6_sumOf_43 rec l1 l2 l3 s15)))
def fX6_sumOf (l1 : Int) (s0 : jMem) : jO :=
jIt (fun _ _ _ _ => none) (bX6_sumOf_4) 1000 l1 0 0 s0
def gX6_sumOf (vs : List Int) (s : jMem) : jO := match vs with
  | [a0, a1] => jGd (a0 = 21) <| fX6_sumOf a1 s
  | _ => none
set_option maxRecDepth 100000 in
set_option maxHeartbeats 4000000 in
theorem obX6_sumOf_43 {E : jEnv} {Rr : Int → jMem → Prop} {k4 : Int → Int → Int → jMem → jO} (hk4 : ∀ (l1 l2 l3 : Int) (s : jMem), jHo Rr (k4 l1 l2 l3 s) → jGo E MX6_sumOf 2 Rr [3, 1, 1, 1] 4 [21, l1, l2, l3] ([]) s) : ∀ (l1 l2 l3 : Int) (s : jMem), jHo Rr (bX6_sumOf_43 k4 l1 l2 l3 s) → jGo E MX6_sumOf 2 Rr [3, 1, 1, 1] 43 [21, l1, l2, l3] ([]) s := by
  intro l1 l2 l3 s0 hF
  unfold bX6_sumOf_43 at hF
  refine ji_iinc (pc := 43) l3 (fun w => [21, l1, l2, w]) rfl rfl rfl (fun _ => rfl) hF dX6_sumOf_43 (fun x1 r_x1 hF => ?_)
  refine jg_goto (pc := 46) 4 dX6_sumOf_46 rfl ?_
  refine jg_norm [3, 1, 1, 1] [21, l1, l2, x1] rfl rfl ?_
  exact hk4 _ _ _ _ hF
set_option maxRecDepth 100000 in
set_option maxHeartbeats 4000000 in
theorem obX6_sumOf_4 {E : jEnv} {Rr : Int → jMem → Prop} {rec : Int → Int → Int → jMem → jO} (hrec : ∀ (l1 l2 l3 : Int) (s : jMem), jHo Rr (rec l1 l2 l3 s) → jGo E MX6_sumOf 2 Rr [3, 1, 1, 1] 4 [21, l1, l2, l3] ([]) s) : ∀ (l1 l2 l3 : Int) (s : jMem), jHo Rr (bX6_sumOf_4 rec l1 l2 l3 s) → jGo E MX6_sumOf 2 Rr [3, 1, 1, 1] 4 [21, l1, l2, l3] ([]) s := by
  intro l1 l2 l3 s0 hF
  unfold bX6_sumOf_4 at hF
  refine ji_iload_n (n := 3) (pc := 4) l3 rfl rfl rfl dX6_sumOf_4 (fun r1 => ?_)
  refine ji_aload_n (n := 0) (pc := 5) 21 rfl rfl rfl dX6_sumOf_5 (fun r2 => ?_)
  refine ji_getfi (pc := 6) wfX6_19 (jRc3 rfl) jcl_21 hF dX6_sumOf_6 (fun x3 r_x3 hF => ?_)
  refine ji_icmp_ge 49 (pc := 9) r1 r_x3 hF dX6_sumOf_9 rfl (fun hF => ?_) (fun hF => ?_)
  · refine ji_iload_n (n := 2) (pc := 49) l2 rfl rfl rfl dX6_sumOf_49 (fun r4 => ?_)
    exact ji_reti (pc := 50) rfl r4 hF dX6_sumOf_50
  · refine ji_aload_n (n := 0) (pc := 12) 21 rfl rfl rfl dX6_sumOf_12 (fun r5 => ?_)
    refine ji_getr (pc := 13) 22 wfX6_9 (jRc3 rfl) jcl_21 jrf_21_0 dX6_sumOf_13 ?_
    refine ji_iload_n (n := 3) (pc := 16) l3 rfl rfl rfl dX6_sumOf_16 (fun r6 => ?_)
    refine ji_iaload (pc := 17) (jRc3 rfl) r6 hF dX6_sumOf_17 (fun x7 r_x7 hF => ?_)
    refine ji_iload_n (n := 1) (pc := 18) l1 rfl rfl rfl dX6_sumOf_18 (fun r8 => ?_)
    refine ji_callSz (pc := 19) [x7, l1] ([]) oX6_isIn wlX6_23 wmX6_isIn rfl rfl (Nat.le_of_ble_eq_true rfl) (jRaC r_x7 (jRaC r8 jRa0)) rfl rfl (Nat.le_of_ble_eq_true rfl) hF dX6_sumOf_19 (fun x9 s10 r_x9 hF => ?_)
    refine ji_if_eq 43 (pc := 22) (jR51 r_x9) hF dX6_sumOf_22 rfl (fun hF => ?_) (fun hF => ?_)
    · refine jg_norm [3, 1, 1, 1] [21, l1, l2, l3] rfl rfl ?_
      exact obX6_sumOf_43 hrec _ _ _ _ hF
    · refine ji_aload_n (n := 0) (pc := 25) 21 rfl rfl rfl dX6_sumOf_25 (fun r11 => ?_)
      refine ji_iload_n (n := 3) (pc := 26) l3 rfl rfl rfl dX6_sumOf_26 (fun r12 => ?_)
      refine ji_iload_n (n := 1) (pc := 27) l1 rfl rfl rfl dX6_sumOf_27 (fun r13 => ?_)
      refine ji_callVz (pc := 28) 21 [l3, l1] ([]) oX6_isPutOut wlX6_27 wmX6_isPutOut rfl rfl (Nat.le_of_ble_eq_true rfl) (jRaC (jRc3 rfl) (jRaC r12 (jRaC r13 jRa0))) rfl jcl_21 rfl (Nat.le_of_ble_eq_true rfl) hF dX6_sumOf_28 (fun x14 s15 r_x14 hF => ?_)
      refine ji_if_ne 43 (pc := 31) (jR51 r_x14) hF dX6_sumOf_31 rfl (fun hF => ?_) (fun hF => ?_)
      · refine jg_norm [3, 1, 1, 1] [21, l1, l2, l3] rfl rfl ?_
        exact obX6_sumOf_43 hrec _ _ _ _ hF
      · refine ji_iload_n (n := 2) (pc := 34) l2 rfl rfl rfl dX6_sumOf_34 (fun r16 => ?_)
        refine ji_aload_n (n := 0) (pc := 35) 21 rfl rfl rfl dX6_sumOf_35 (fun r17 => ?_)
        refine ji_getr (pc := 36) 23 wfX6_13 (jRc3 rfl) jcl_21 jrf_21_1 dX6_sumOf_36 ?_
        refine ji_iload_n (n := 3) (pc := 39) l3 rfl rfl rfl dX6_sumOf_39 (fun r18 => ?_)
        refine ji_iaload (pc := 40) (jRc3 rfl) r18 hF dX6_sumOf_40 (fun x19 r_x19 hF => ?_)
        refine ji_iadd (pc := 41)  hF dX6_sumOf_41 (fun x20 r_x20 hF => ?_)
        refine ji_istore_n (n := 2) (pc := 42) [3, 1, 1, 1] [21, l1, x20, l3] rfl r_x20 (Nat.le_of_ble_eq_true rfl) rfl rfl dX6_sumOf_42 ?_
        refine jg_norm [3, 1, 1, 1] [21, l1, x20, l3] rfl rfl ?_
        exact obX6_sumOf_43 hrec _ _ _ _ hF
theorem obX6_sumOf_4W {E : jEnv} {Rr : Int → jMem → Prop} : ∀ n : Nat, ∀ (l1 l2 l3 : Int) (s : jMem), jHo Rr (jIt (fun _ _ _ _ => none) (bX6_sumOf_4) n l1 l2 l3 s) → jGo E MX6_sumOf 2 Rr [3, 1, 1, 1] 4 [21, l1, l2, l3] ([]) s := by
  intro n
  induction n with
  | zero => intro l1 l2 l3 s hF; exact jHo_none hF
  | succ n ih => exact obX6_sumOf_4 ih

set_option maxRecDepth 100000 in
set_option maxHeartbeats 4000000 in
theorem oX6_sumOf : jOk MX6_sumOf [3, 1] 2 (jFn gX6_sumOf) := by
  refine jOk_fn (by decide +kernel) (Nat.le_of_ble_eq_true rfl) (by decide +kernel) (.inr (.inl rfl)) ?_
  intro E vs s0 Rr hF ha
  obtain ⟨l0, t0, rfl, r_l0, ha⟩ := jRa_ci ha
  obtain ⟨l1, t1, rfl, r_l1, ha⟩ := jRa_ci ha
  obtain rfl := jRa_ni ha
  replace hF : jHo Rr (jGd (l0 = 21) <| fX6_sumOf l1 s0) := hF
  have hG := jHo_as hF
  clear hF
  obtain ⟨rfl, hF⟩ := hG
  refine jg_norm [3, 1, 0, 0] [21, l1, 0, 0] rfl rfl ?_
  unfold fX6_sumOf at hF
  refine ji_iconst (pc := 0) dX6_sumOf_0 ?_
  refine ji_istore_n (n := 2) (pc := 1) [3, 1, 1, 0] [21, l1, 0, 0] rfl (jRc rfl) (Nat.le_of_ble_eq_true rfl) rfl rfl dX6_sumOf_1 ?_
  refine ji_iconst (pc := 2) dX6_sumOf_2 ?_
  refine ji_istore_n (n := 3) (pc := 3) [3, 1, 1, 1] [21, l1, 0, 0] rfl (jRc rfl) (Nat.le_of_ble_eq_true rfl) rfl rfl dX6_sumOf_3 ?_
  refine jg_norm [3, 1, 1, 1] [21, l1, 0, 0] rfl rfl ?_
  exact obX6_sumOf_4W 1000 _ _ _ _ hF
def fX2_consider (l1 l2 : Int) (s0 : jMem) : jO :=
jBd (fX6_sumOf l1 s0) fun x3 s4 =>
jLet (s4 16 3) fun x7 =>
if x3 ≤ x7 then (
jRet 0 s4)
else (
jLet (jU s4 16 3 x3) fun s10 =>
jLet (jU s10 16 4 l2) fun s13 =>
jLet (jU s13 16 5 l1) fun s16 =>
jRet 0 s16)
def gX2_consider (vs : List Int) (s : jMem) : jO := match vs with
  | [a0, a1, a2] => jGd (a0 = 16) <| fX2_consider a1 a2 s
  | _ => none
set_option maxRecDepth 100000 in
set_option maxHeartbeats 4000000 in
theorem oX2_consider : jOk MX2_consider [3, 1, 1] 3 (jFn gX2_consider) := by
  refine jOk_fn (by decide +kernel) (Nat.le_of_ble_eq_true rfl) (by decide +kernel) (.inl rfl) ?_
  intro E vs s0 Rr hF ha
  obtain ⟨l0, t0, rfl, r_l0, ha⟩ := jRa_ci ha
  obtain ⟨l1, t1, rfl, r_l1, ha⟩ := jRa_ci ha
  obtain ⟨l2, t2, rfl, r_l2, ha⟩ := jRa_ci ha
  obtain rfl := jRa_ni ha
  replace hF : jHo Rr (jGd (l0 = 16) <| fX2_consider l1 l2 s0) := hF
  have hG := jHo_as hF
  clear hF
  obtain ⟨rfl, hF⟩ := hG
  refine jg_norm [3, 1, 1, 0] [16, l1, l2, 0] rfl rfl ?_
  unfold fX2_consider at hF
  refine ji_aload_n (n := 0) (pc := 0) 16 rfl rfl rfl dX2_consider_0 (fun r1 => ?_)
  refine ji_getr (pc := 1) 21 wfX2_21 (jRc3 rfl) jcl_16 jrf_16_1 dX2_consider_1 ?_
  refine ji_iload_n (n := 1) (pc := 4) l1 rfl rfl rfl dX2_consider_4 (fun r2 => ?_)
  refine ji_callVi (pc := 5) 21 [l1] ([]) oX6_sumOf wlX2_83 wmX6_sumOf rfl rfl (Nat.le_of_ble_eq_true rfl) (jRaC (jRc3 rfl) (jRaC r2 jRa0)) rfl jcl_21 rfl (Nat.le_of_ble_eq_true rfl) hF dX2_consider_5 (fun x3 s4 r_x3 hF => ?_)
  refine ji_istore_n (n := 3) (pc := 8) [3, 1, 1, 1] [16, l1, l2, x3] rfl r_x3 (Nat.le_of_ble_eq_true rfl) rfl rfl dX2_consider_8 ?_
  refine ji_iload_n (n := 3) (pc := 9) x3 rfl rfl rfl dX2_consider_9 (fun r5 => ?_)
  refine ji_aload_n (n := 0) (pc := 10) 16 rfl rfl rfl dX2_consider_10 (fun r6 => ?_)
  refine ji_getfi (pc := 11) wfX2_25 (jRc3 rfl) jcl_16 hF dX2_consider_11 (fun x7 r_x7 hF => ?_)
  refine ji_icmp_le 32 (pc := 14) r5 r_x7 hF dX2_consider_14 rfl (fun hF => ?_) (fun hF => ?_)
  · exact ji_retv (pc := 32) rfl hF dX2_consider_32
  · refine ji_aload_n (n := 0) (pc := 17) 16 rfl rfl rfl dX2_consider_17 (fun r8 => ?_)
    refine ji_iload_n (n := 3) (pc := 18) x3 rfl rfl rfl dX2_consider_18 (fun r9 => ?_)
    refine ji_putfi (pc := 19) wpX2_25 (jRc3 rfl) jcl_16 r9 hF dX2_consider_19 (fun s10 hF => ?_)
    refine ji_aload_n (n := 0) (pc := 22) 16 rfl rfl rfl dX2_consider_22 (fun r11 => ?_)
    refine ji_iload_n (n := 2) (pc := 23) l2 rfl rfl rfl dX2_consider_23 (fun r12 => ?_)
    refine ji_putfi (pc := 24) wpX2_29 (jRc3 rfl) jcl_16 r12 hF dX2_consider_24 (fun s13 hF => ?_)
    refine ji_aload_n (n := 0) (pc := 27) 16 rfl rfl rfl dX2_consider_27 (fun r14 => ?_)
    refine ji_iload_n (n := 1) (pc := 28) l1 rfl rfl rfl dX2_consider_28 (fun r15 => ?_)
    refine ji_putfi (pc := 29) wpX2_32 (jRc3 rfl) jcl_16 r15 hF dX2_consider_29 (fun s16 hF => ?_)
    exact ji_retv (pc := 32) rfl hF dX2_consider_32
def bX2_conditionsOfSeven_39 (k40 : Int → Int → Int → Int → Int → jMem → jO) (l0 l2 l3 l4 : Int) (s0 : jMem) : jO :=
k40 l0 l2 l3 l4 0 s0
def bX2_conditionsOfSeven_58 (k63 : Int → Int → Int → Int → jMem → jO) (l0 l1 l4 : Int) (s0 : jMem) : jO :=
k63 l0 l1 l4 1 s0
def bX2_conditionsOfSeven_62 (k63 : Int → Int → Int → Int → jMem → jO) (l0 l1 l4 : Int) (s0 : jMem) : jO :=
k63 l0 l1 l4 0 s0
def bX2_conditionsOfSeven_63 (k70 : Int → Int → Int → Int → Int → jMem → jO) (l0 l1 l4 t0 : Int) (s0 : jMem) : jO :=
jBd (fX8_rowOf l4 s0) fun x2 s3 =>
k70 l0 l1 t0 x2 l4 s3
def bX2_conditionsOfSeven_40 (k70 : Int → Int → Int → Int → Int → jMem → jO) (l0 l2 l3 l4 t0 : Int) (s0 : jMem) : jO :=
if l2 = 0 then (
bX2_conditionsOfSeven_62 (bX2_conditionsOfSeven_63 k70) l0 t0 l4 s0)
else (
if l3 < 0 then (
bX2_conditionsOfSeven_58 (bX2_conditionsOfSeven_63 k70) l0 t0 l4 s0)
else (
jBd (fX8_rowOf l4 s0) fun x5 s6 =>
if l3 = x5 then (
bX2_conditionsOfSeven_58 (bX2_conditionsOfSeven_63 k70) l0 t0 l4 s6)
else (
bX2_conditionsOfSeven_62 (bX2_conditionsOfSeven_63 k70) l0 t0 l4 s6)))
def bX2_conditionsOfSeven_70 (k9 : Int → Int → Int → Int → Int → jMem → jO) (l0 l1 l2 l3 l4 : Int) (s0 : jMem) : jO :=
jLet (j32 (l4 + 1)) fun x1 =>
k9 l0 l1 l2 l3 x1 s0
def bX2_conditionsOfSeven_9 (k76 : Int → Int → jMem → jO) (rec : Int → Int → Int → Int → Int → jMem → jO) (l0 l1 l2 l3 l4 : Int) (s0 : jMem) : jO :=
if 34 ≤ l4 then (
k76 l1 l2 s0)
else (
jGd ((0 : Int) ≤ l4 ∧ l4 < jik l0) <| jLet (s0 l0 l4) fun x4 =>
if x4 ≤ 0 then (
bX2_conditionsOfSeven_70 rec l0 l1 l2 l3 l4 s0)
else (
if l1 = 0 then (
bX2_conditionsOfSeven_39 (bX2_conditionsOfSeven_40 (bX2_conditionsOfSeven_70 rec)) l0 l2 l3 l4 s0)
else (
jBd (fX8_isOuter l4 s0) fun x7 s8 =>
if x7 = 0 then (
bX2_conditionsOfSeven_39 (bX2_conditionsOfSeven_40 (bX2_conditionsOfSeven_70 rec)) l0 l2 l3 l4 s8)
else (
bX2_conditionsOfSeven_40 (bX2_conditionsOfSeven_70 rec) l0 l2 l3 l4 1 s8))))
def bX2_conditionsOfSeven_76 (l1 l2 : Int) (s0 : jMem) : jO :=
jBd (fX6_bit 2 l1 s0) fun x2 s3 =>
jBd (fX6_bit 3 l1 s3) fun x5 s6 =>
jLet (jor x2 x5) fun x7 =>
jBd (fX6_bit 4 l2 s6) fun x9 s10 =>
jLet (jor x7 x9) fun x11 =>
jBd (fX6_bit 5 1 s10) fun x12 s13 =>
jLet (jor x11 x12) fun x14 =>
jBd (fX6_bit 8 1 s13) fun x15 s16 =>
jLet (jor x14 x15) fun x17 =>
jRet x17 s16
def fX2_conditionsOfSeven (l0 : Int) (s0 : jMem) : jO :=
jIt (fun _ _ _ _ _ _ => none) (bX2_conditionsOfSeven_9 bX2_conditionsOfSeven_76) 1000 l0 1 1 (-1) 0 s0
def gX2_conditionsOfSeven (vs : List Int) (s : jMem) : jO := match vs with
  | [a0] => fX2_conditionsOfSeven a0 s
  | _ => none
set_option maxRecDepth 100000 in
set_option maxHeartbeats 4000000 in
theorem obX2_conditionsOfSeven_39 {E : jEnv} {Rr : Int → jMem → Prop} {k40 : Int → Int → Int → Int → Int → jMem → jO} (hk40 : ∀ (l0 l2 l3 l4 t0 : Int) (s : jMem), jR 1 t0 → jHo Rr (k40 l0 l2 l3 l4 t0 s) → jGo E MX2_conditionsOfSeven 1 Rr [3, 0, 1, 1, 1] 40 [l0, 0, l2, l3, l4] (jV E 1 t0 :: []) s) : ∀ (l0 l2 l3 l4 : Int) (s : jMem), jHo Rr (bX2_conditionsOfSeven_39 k40 l0 l2 l3 l4 s) → jGo E MX2_conditionsOfSeven 1 Rr [3, 0, 1, 1, 1] 39 [l0, 0, l2, l3, l4] ([]) s := by
  intro l0 l2 l3 l4 s0 hF
  unfold bX2_conditionsOfSeven_39 at hF
  refine ji_iconst (pc := 39) dX2_conditionsOfSeven_39 ?_
  refine jg_norm [3, 0, 1, 1, 1] [l0, 0, l2, l3, l4] rfl rfl ?_
  exact hk40 _ _ _ _ _ _ (jRc rfl) hF
set_option maxRecDepth 100000 in
set_option maxHeartbeats 4000000 in
theorem obX2_conditionsOfSeven_58 {E : jEnv} {Rr : Int → jMem → Prop} {k63 : Int → Int → Int → Int → jMem → jO} (hk63 : ∀ (l0 l1 l4 t0 : Int) (s : jMem), jR 1 t0 → jHo Rr (k63 l0 l1 l4 t0 s) → jGo E MX2_conditionsOfSeven 1 Rr [3, 1, 0, 0, 1] 63 [l0, l1, 0, 0, l4] (jV E 1 t0 :: []) s) : ∀ (l0 l1 l4 : Int) (s : jMem), jHo Rr (bX2_conditionsOfSeven_58 k63 l0 l1 l4 s) → jGo E MX2_conditionsOfSeven 1 Rr [3, 1, 0, 0, 1] 58 [l0, l1, 0, 0, l4] ([]) s := by
  intro l0 l1 l4 s0 hF
  unfold bX2_conditionsOfSeven_58 at hF
  refine ji_iconst (pc := 58) dX2_conditionsOfSeven_58 ?_
  refine jg_goto (pc := 59) 63 dX2_conditionsOfSeven_59 rfl ?_
  refine jg_norm [3, 1, 0, 0, 1] [l0, l1, 0, 0, l4] rfl rfl ?_
  exact hk63 _ _ _ _ _ (jRc rfl) hF
set_option maxRecDepth 100000 in
set_option maxHeartbeats 4000000 in
theorem obX2_conditionsOfSeven_62 {E : jEnv} {Rr : Int → jMem → Prop} {k63 : Int → Int → Int → Int → jMem → jO} (hk63 : ∀ (l0 l1 l4 t0 : Int) (s : jMem), jR 1 t0 → jHo Rr (k63 l0 l1 l4 t0 s) → jGo E MX2_conditionsOfSeven 1 Rr [3, 1, 0, 0, 1] 63 [l0, l1, 0, 0, l4] (jV E 1 t0 :: []) s) : ∀ (l0 l1 l4 : Int) (s : jMem), jHo Rr (bX2_conditionsOfSeven_62 k63 l0 l1 l4 s) → jGo E MX2_conditionsOfSeven 1 Rr [3, 1, 0, 0, 1] 62 [l0, l1, 0, 0, l4] ([]) s := by
  intro l0 l1 l4 s0 hF
  unfold bX2_conditionsOfSeven_62 at hF
  refine ji_iconst (pc := 62) dX2_conditionsOfSeven_62 ?_
  refine jg_norm [3, 1, 0, 0, 1] [l0, l1, 0, 0, l4] rfl rfl ?_
  exact hk63 _ _ _ _ _ (jRc rfl) hF
set_option maxRecDepth 100000 in
set_option maxHeartbeats 4000000 in
theorem obX2_conditionsOfSeven_63 {E : jEnv} {Rr : Int → jMem → Prop} {k70 : Int → Int → Int → Int → Int → jMem → jO} (hk70 : ∀ (l0 l1 l2 l3 l4 : Int) (s : jMem), jHo Rr (k70 l0 l1 l2 l3 l4 s) → jGo E MX2_conditionsOfSeven 1 Rr [3, 1, 1, 1, 1] 70 [l0, l1, l2, l3, l4] ([]) s) : ∀ (l0 l1 l4 t0 : Int) (s : jMem), jR 1 t0 → jHo Rr (bX2_conditionsOfSeven_63 k70 l0 l1 l4 t0 s) → jGo E MX2_conditionsOfSeven 1 Rr [3, 1, 0, 0, 1] 63 [l0, l1, 0, 0, l4] (jV E 1 t0 :: []) s := by
  intro l0 l1 l4 t0 s0 r_t0 hF
  unfold bX2_conditionsOfSeven_63 at hF
  refine ji_istore_n (n := 2) (pc := 63) [3, 1, 1, 0, 1] [l0, l1, t0, 0, l4] rfl r_t0 (Nat.le_of_ble_eq_true rfl) rfl rfl dX2_conditionsOfSeven_63 ?_
  refine ji_iload (pc := 64) l4 rfl rfl dX2_conditionsOfSeven_64 (fun r1 => ?_)
  refine ji_callSi (pc := 66) [l4] ([]) oX8_rowOf wlX2_110 wmX8_rowOf rfl rfl (Nat.le_of_ble_eq_true rfl) (jRaC r1 jRa0) rfl rfl (Nat.le_of_ble_eq_true rfl) hF dX2_conditionsOfSeven_66 (fun x2 s3 r_x2 hF => ?_)
  refine ji_istore_n (n := 3) (pc := 69) [3, 1, 1, 1, 1] [l0, l1, t0, x2, l4] rfl r_x2 (Nat.le_of_ble_eq_true rfl) rfl rfl dX2_conditionsOfSeven_69 ?_
  refine jg_norm [3, 1, 1, 1, 1] [l0, l1, t0, x2, l4] rfl rfl ?_
  exact hk70 _ _ _ _ _ _ hF
set_option maxRecDepth 100000 in
set_option maxHeartbeats 4000000 in
theorem obX2_conditionsOfSeven_40 {E : jEnv} {Rr : Int → jMem → Prop} {k70 : Int → Int → Int → Int → Int → jMem → jO} (hk70 : ∀ (l0 l1 l2 l3 l4 : Int) (s : jMem), jHo Rr (k70 l0 l1 l2 l3 l4 s) → jGo E MX2_conditionsOfSeven 1 Rr [3, 1, 1, 1, 1] 70 [l0, l1, l2, l3, l4] ([]) s) : ∀ (l0 l2 l3 l4 t0 : Int) (s : jMem), jR 1 t0 → jHo Rr (bX2_conditionsOfSeven_40 k70 l0 l2 l3 l4 t0 s) → jGo E MX2_conditionsOfSeven 1 Rr [3, 0, 1, 1, 1] 40 [l0, 0, l2, l3, l4] (jV E 1 t0 :: []) s := by
  intro l0 l2 l3 l4 t0 s0 r_t0 hF
  unfold bX2_conditionsOfSeven_40 at hF
  refine ji_istore_n (n := 1) (pc := 40) [3, 1, 1, 1, 1] [l0, t0, l2, l3, l4] rfl r_t0 (Nat.le_of_ble_eq_true rfl) rfl rfl dX2_conditionsOfSeven_40 ?_
  refine ji_iload_n (n := 2) (pc := 41) l2 rfl rfl rfl dX2_conditionsOfSeven_41 (fun r1 => ?_)
  refine ji_if_eq 62 (pc := 42) r1 hF dX2_conditionsOfSeven_42 rfl (fun hF => ?_) (fun hF => ?_)
  · refine jg_norm [3, 1, 0, 0, 1] [l0, t0, 0, 0, l4] rfl rfl ?_
    exact obX2_conditionsOfSeven_62 (obX2_conditionsOfSeven_63 hk70) _ _ _ _ hF
  · refine ji_iload_n (n := 3) (pc := 45) l3 rfl rfl rfl dX2_conditionsOfSeven_45 (fun r2 => ?_)
    refine ji_if_lt 58 (pc := 46) r2 hF dX2_conditionsOfSeven_46 rfl (fun hF => ?_) (fun hF => ?_)
    · refine jg_norm [3, 1, 0, 0, 1] [l0, t0, 0, 0, l4] rfl rfl ?_
      exact obX2_conditionsOfSeven_58 (obX2_conditionsOfSeven_63 hk70) _ _ _ _ hF
    · refine ji_iload_n (n := 3) (pc := 49) l3 rfl rfl rfl dX2_conditionsOfSeven_49 (fun r3 => ?_)
      refine ji_iload (pc := 50) l4 rfl rfl dX2_conditionsOfSeven_50 (fun r4 => ?_)
      refine ji_callSi (pc := 52) [l4] (jV E 1 l3 :: []) oX8_rowOf wlX2_110 wmX8_rowOf rfl rfl (Nat.le_of_ble_eq_true rfl) (jRaC r4 jRa0) rfl rfl (Nat.le_of_ble_eq_true rfl) hF dX2_conditionsOfSeven_52 (fun x5 s6 r_x5 hF => ?_)
      refine ji_icmp_ne 62 (pc := 55) r3 r_x5 hF dX2_conditionsOfSeven_55 rfl (fun hF => ?_) (fun hF => ?_)
      · refine jg_norm [3, 1, 0, 0, 1] [l0, t0, 0, 0, l4] rfl rfl ?_
        exact obX2_conditionsOfSeven_62 (obX2_conditionsOfSeven_63 hk70) _ _ _ _ hF
      · refine jg_norm [3, 1, 0, 0, 1] [l0, t0, 0, 0, l4] rfl rfl ?_
        exact obX2_conditionsOfSeven_58 (obX2_conditionsOfSeven_63 hk70) _ _ _ _ hF
set_option maxRecDepth 100000 in
set_option maxHeartbeats 4000000 in
theorem obX2_conditionsOfSeven_70 {E : jEnv} {Rr : Int → jMem → Prop} {k9 : Int → Int → Int → Int → Int → jMem → jO} (hk9 : ∀ (l0 l1 l2 l3 l4 : Int) (s : jMem), jHo Rr (k9 l0 l1 l2 l3 l4 s) → jGo E MX2_conditionsOfSeven 1 Rr [3, 1, 1, 1, 1] 9 [l0, l1, l2, l3, l4] ([]) s) : ∀ (l0 l1 l2 l3 l4 : Int) (s : jMem), jHo Rr (bX2_conditionsOfSeven_70 k9 l0 l1 l2 l3 l4 s) → jGo E MX2_conditionsOfSeven 1 Rr [3, 1, 1, 1, 1] 70 [l0, l1, l2, l3, l4] ([]) s := by
  intro l0 l1 l2 l3 l4 s0 hF
  unfold bX2_conditionsOfSeven_70 at hF
  refine ji_iinc (pc := 70) l4 (fun w => [l0, l1, l2, l3, w]) rfl rfl rfl (fun _ => rfl) hF dX2_conditionsOfSeven_70 (fun x1 r_x1 hF => ?_)
  refine jg_goto (pc := 73) 9 dX2_conditionsOfSeven_73 rfl ?_
  refine jg_norm [3, 1, 1, 1, 1] [l0, l1, l2, l3, x1] rfl rfl ?_
  exact hk9 _ _ _ _ _ _ hF
set_option maxRecDepth 100000 in
set_option maxHeartbeats 4000000 in
theorem obX2_conditionsOfSeven_9 {E : jEnv} {Rr : Int → jMem → Prop} {k76 : Int → Int → jMem → jO} (hk76 : ∀ (l1 l2 : Int) (s : jMem), jHo Rr (k76 l1 l2 s) → jGo E MX2_conditionsOfSeven 1 Rr [0, 1, 1, 0, 0] 76 [0, l1, l2, 0, 0] ([]) s) {rec : Int → Int → Int → Int → Int → jMem → jO} (hrec : ∀ (l0 l1 l2 l3 l4 : Int) (s : jMem), jHo Rr (rec l0 l1 l2 l3 l4 s) → jGo E MX2_conditionsOfSeven 1 Rr [3, 1, 1, 1, 1] 9 [l0, l1, l2, l3, l4] ([]) s) : ∀ (l0 l1 l2 l3 l4 : Int) (s : jMem), jHo Rr (bX2_conditionsOfSeven_9 k76 rec l0 l1 l2 l3 l4 s) → jGo E MX2_conditionsOfSeven 1 Rr [3, 1, 1, 1, 1] 9 [l0, l1, l2, l3, l4] ([]) s := by
  intro l0 l1 l2 l3 l4 s0 hF
  unfold bX2_conditionsOfSeven_9 at hF
  refine ji_iload (pc := 9) l4 rfl rfl dX2_conditionsOfSeven_9 (fun r1 => ?_)
  refine jg_bipush (pc := 11) rfl dX2_conditionsOfSeven_11 ?_
  refine ji_icmp_ge 76 (pc := 13) r1 (jRc rfl) hF dX2_conditionsOfSeven_13 rfl (fun hF => ?_) (fun hF => ?_)
  · refine jg_norm [0, 1, 1, 0, 0] [0, l1, l2, 0, 0] rfl rfl ?_
    exact hk76 _ _ _ hF
  · refine ji_aload_n (n := 0) (pc := 16) l0 rfl rfl rfl dX2_conditionsOfSeven_16 (fun r2 => ?_)
    refine ji_iload (pc := 17) l4 rfl rfl dX2_conditionsOfSeven_17 (fun r3 => ?_)
    refine ji_iaload (pc := 19) r2 r3 hF dX2_conditionsOfSeven_19 (fun x4 r_x4 hF => ?_)
    refine ji_if_le 70 (pc := 20) r_x4 hF dX2_conditionsOfSeven_20 rfl (fun hF => ?_) (fun hF => ?_)
    · refine jg_norm [3, 1, 1, 1, 1] [l0, l1, l2, l3, l4] rfl rfl ?_
      exact obX2_conditionsOfSeven_70 hrec _ _ _ _ _ _ hF
    · refine ji_iload_n (n := 1) (pc := 23) l1 rfl rfl rfl dX2_conditionsOfSeven_23 (fun r5 => ?_)
      refine ji_if_eq 39 (pc := 24) r5 hF dX2_conditionsOfSeven_24 rfl (fun hF => ?_) (fun hF => ?_)
      · refine jg_norm [3, 0, 1, 1, 1] [l0, 0, l2, l3, l4] rfl rfl ?_
        exact obX2_conditionsOfSeven_39 (obX2_conditionsOfSeven_40 (obX2_conditionsOfSeven_70 hrec)) _ _ _ _ _ hF
      · refine ji_iload (pc := 27) l4 rfl rfl dX2_conditionsOfSeven_27 (fun r6 => ?_)
        refine ji_callSz (pc := 29) [l4] ([]) oX8_isOuter wlX2_106 wmX8_isOuter rfl rfl (Nat.le_of_ble_eq_true rfl) (jRaC r6 jRa0) rfl rfl (Nat.le_of_ble_eq_true rfl) hF dX2_conditionsOfSeven_29 (fun x7 s8 r_x7 hF => ?_)
        refine ji_if_eq 39 (pc := 32) (jR51 r_x7) hF dX2_conditionsOfSeven_32 rfl (fun hF => ?_) (fun hF => ?_)
        · refine jg_norm [3, 0, 1, 1, 1] [l0, 0, l2, l3, l4] rfl rfl ?_
          exact obX2_conditionsOfSeven_39 (obX2_conditionsOfSeven_40 (obX2_conditionsOfSeven_70 hrec)) _ _ _ _ _ hF
        · refine ji_iconst (pc := 35) dX2_conditionsOfSeven_35 ?_
          refine jg_goto (pc := 36) 40 dX2_conditionsOfSeven_36 rfl ?_
          refine jg_norm [3, 0, 1, 1, 1] [l0, 0, l2, l3, l4] rfl rfl ?_
          exact obX2_conditionsOfSeven_40 (obX2_conditionsOfSeven_70 hrec) _ _ _ _ _ _ (jRc rfl) hF
theorem obX2_conditionsOfSeven_9W {E : jEnv} {Rr : Int → jMem → Prop} {k76 : Int → Int → jMem → jO} (hk76 : ∀ (l1 l2 : Int) (s : jMem), jHo Rr (k76 l1 l2 s) → jGo E MX2_conditionsOfSeven 1 Rr [0, 1, 1, 0, 0] 76 [0, l1, l2, 0, 0] ([]) s) : ∀ n : Nat, ∀ (l0 l1 l2 l3 l4 : Int) (s : jMem), jHo Rr (jIt (fun _ _ _ _ _ _ => none) (bX2_conditionsOfSeven_9 k76) n l0 l1 l2 l3 l4 s) → jGo E MX2_conditionsOfSeven 1 Rr [3, 1, 1, 1, 1] 9 [l0, l1, l2, l3, l4] ([]) s := by
  intro n
  induction n with
  | zero => intro l0 l1 l2 l3 l4 s hF; exact jHo_none hF
  | succ n ih => exact obX2_conditionsOfSeven_9 hk76 ih

set_option maxRecDepth 100000 in
set_option maxHeartbeats 4000000 in
theorem obX2_conditionsOfSeven_76 {E : jEnv} {Rr : Int → jMem → Prop} : ∀ (l1 l2 : Int) (s : jMem), jHo Rr (bX2_conditionsOfSeven_76 l1 l2 s) → jGo E MX2_conditionsOfSeven 1 Rr [0, 1, 1, 0, 0] 76 [0, l1, l2, 0, 0] ([]) s := by
  intro l1 l2 s0 hF
  unfold bX2_conditionsOfSeven_76 at hF
  refine ji_iconst (pc := 76) dX2_conditionsOfSeven_76 ?_
  refine ji_iload_n (n := 1) (pc := 77) l1 rfl rfl rfl dX2_conditionsOfSeven_77 (fun r1 => ?_)
  refine ji_callSi (pc := 78) [2, l1] ([]) oX6_bit wlX2_79 wmX6_bit rfl rfl (Nat.le_of_ble_eq_true rfl) (jRaC (jRc rfl) (jRaC r1 jRa0)) rfl rfl (Nat.le_of_ble_eq_true rfl) hF dX2_conditionsOfSeven_78 (fun x2 s3 r_x2 hF => ?_)
  refine ji_iconst (pc := 81) dX2_conditionsOfSeven_81 ?_
  refine ji_iload_n (n := 1) (pc := 82) l1 rfl rfl rfl dX2_conditionsOfSeven_82 (fun r4 => ?_)
  refine ji_callSi (pc := 83) [3, l1] (jV E 1 x2 :: []) oX6_bit wlX2_79 wmX6_bit rfl rfl (Nat.le_of_ble_eq_true rfl) (jRaC (jRc rfl) (jRaC r4 jRa0)) rfl rfl (Nat.le_of_ble_eq_true rfl) hF dX2_conditionsOfSeven_83 (fun x5 s6 r_x5 hF => ?_)
  refine ji_ior (pc := 86)  hF dX2_conditionsOfSeven_86 (fun x7 r_x7 hF => ?_)
  refine ji_iconst (pc := 87) dX2_conditionsOfSeven_87 ?_
  refine ji_iload_n (n := 2) (pc := 88) l2 rfl rfl rfl dX2_conditionsOfSeven_88 (fun r8 => ?_)
  refine ji_callSi (pc := 89) [4, l2] (jV E 1 x7 :: []) oX6_bit wlX2_79 wmX6_bit rfl rfl (Nat.le_of_ble_eq_true rfl) (jRaC (jRc rfl) (jRaC r8 jRa0)) rfl rfl (Nat.le_of_ble_eq_true rfl) hF dX2_conditionsOfSeven_89 (fun x9 s10 r_x9 hF => ?_)
  refine ji_ior (pc := 92)  hF dX2_conditionsOfSeven_92 (fun x11 r_x11 hF => ?_)
  refine ji_iconst (pc := 93) dX2_conditionsOfSeven_93 ?_
  refine ji_iconst (pc := 94) dX2_conditionsOfSeven_94 ?_
  refine ji_callSi (pc := 95) [5, 1] (jV E 1 x11 :: []) oX6_bit wlX2_79 wmX6_bit rfl rfl (Nat.le_of_ble_eq_true rfl) (jRaC (jRc rfl) (jRaC (jRc rfl) jRa0)) rfl rfl (Nat.le_of_ble_eq_true rfl) hF dX2_conditionsOfSeven_95 (fun x12 s13 r_x12 hF => ?_)
  refine ji_ior (pc := 98)  hF dX2_conditionsOfSeven_98 (fun x14 r_x14 hF => ?_)
  refine jg_bipush (pc := 99) rfl dX2_conditionsOfSeven_99 ?_
  refine ji_iconst (pc := 101) dX2_conditionsOfSeven_101 ?_
  refine ji_callSi (pc := 102) [8, 1] (jV E 1 x14 :: []) oX6_bit wlX2_79 wmX6_bit rfl rfl (Nat.le_of_ble_eq_true rfl) (jRaC (jRc rfl) (jRaC (jRc rfl) jRa0)) rfl rfl (Nat.le_of_ble_eq_true rfl) hF dX2_conditionsOfSeven_102 (fun x15 s16 r_x15 hF => ?_)
  refine ji_ior (pc := 105)  hF dX2_conditionsOfSeven_105 (fun x17 r_x17 hF => ?_)
  exact ji_reti (pc := 106) rfl r_x17 hF dX2_conditionsOfSeven_106
set_option maxRecDepth 100000 in
set_option maxHeartbeats 4000000 in
theorem oX2_conditionsOfSeven : jOk MX2_conditionsOfSeven [3] 1 (jFn gX2_conditionsOfSeven) := by
  refine jOk_fn (by decide +kernel) (Nat.le_of_ble_eq_true rfl) (by decide +kernel) (.inr (.inl rfl)) ?_
  intro E vs s0 Rr hF ha
  obtain ⟨l0, t0, rfl, r_l0, ha⟩ := jRa_ci ha
  obtain rfl := jRa_ni ha
  replace hF : jHo Rr (fX2_conditionsOfSeven l0 s0) := hF
  refine jg_norm [3, 0, 0, 0, 0] [l0, 0, 0, 0, 0] rfl rfl ?_
  unfold fX2_conditionsOfSeven at hF
  refine ji_iconst (pc := 0) dX2_conditionsOfSeven_0 ?_
  refine ji_istore_n (n := 1) (pc := 1) [3, 1, 0, 0, 0] [l0, 1, 0, 0, 0] rfl (jRc rfl) (Nat.le_of_ble_eq_true rfl) rfl rfl dX2_conditionsOfSeven_1 ?_
  refine ji_iconst (pc := 2) dX2_conditionsOfSeven_2 ?_
  refine ji_istore_n (n := 2) (pc := 3) [3, 1, 1, 0, 0] [l0, 1, 1, 0, 0] rfl (jRc rfl) (Nat.le_of_ble_eq_true rfl) rfl rfl dX2_conditionsOfSeven_3 ?_
  refine ji_iconst (pc := 4) dX2_conditionsOfSeven_4 ?_
  refine ji_istore_n (n := 3) (pc := 5) [3, 1, 1, 1, 0] [l0, 1, 1, (-1), 0] rfl (jRc rfl) (Nat.le_of_ble_eq_true rfl) rfl rfl dX2_conditionsOfSeven_5 ?_
  refine ji_iconst (pc := 6) dX2_conditionsOfSeven_6 ?_
  refine ji_istore (n := 4) (pc := 7) [3, 1, 1, 1, 1] [l0, 1, 1, (-1), 0] (jRc rfl) (Nat.le_of_ble_eq_true rfl) rfl rfl dX2_conditionsOfSeven_7 ?_
  refine jg_norm [3, 1, 1, 1, 1] [l0, 1, 1, (-1), 0] rfl rfl ?_
  exact obX2_conditionsOfSeven_9W obX2_conditionsOfSeven_76 1000 _ _ _ _ _ _ hF
def bX2_weigh_17 (k47 : Int → jMem → jO) (rec : Int → Int → jMem → jO) (l1 l2 : Int) (s0 : jMem) : jO :=
jLet (s0 17 4) fun x3 =>
if x3 ≤ l2 then (
k47 l1 s0)
else (
jBd (fX9_conditionsOf l2 s0) fun x7 s8 =>
jBd (fX2_consider x7 l2 s8) fun x10 s11 =>
jLet (j32 (l2 + 1)) fun x12 =>
rec l1 x12 s11)
def bX2_weigh_69 (l1 : Int) (s0 : jMem) : jO :=
jBd (fX2_isOuterOnes l1 s0) fun x3 s4 =>
if x3 = 0 then (
jRet 1 s4)
else (
jBd (fX6_bit 3 1 s4) fun x6 s7 =>
jBd (fX6_bit 5 1 s7) fun x8 s9 =>
jLet (jor x6 x8) fun x10 =>
jBd (fX6_bit 9 1 s9) fun x11 s12 =>
jLet (jor x10 x11) fun x13 =>
jBd (fX2_consider x13 1001 s12) fun x14 s15 =>
jRet 1 s15)
def bX2_weigh_47 (l1 : Int) (s0 : jMem) : jO :=
jBd (fX2_isSeven l1 s0) fun x3 s4 =>
if x3 = 0 then (
bX2_weigh_69 l1 s4)
else (
jGd (jcl l1 = 0) <| jLet (jrf l1 0) fun x8 =>
jBd (fX2_conditionsOfSeven x8 s4) fun x9 s10 =>
jBd (fX2_consider x9 1000 s10) fun x11 s12 =>
bX2_weigh_69 l1 s12)
def fX2_weigh (l1 : Int) (s0 : jMem) : jO :=
jBd (fX2_howDone l1 s0) fun x3 s4 =>
if 0 < x3 then (
jLet (jU s4 16 3 (-1)) fun s6 =>
jIt (fun _ _ _ => none) (bX2_weigh_17 bX2_weigh_47) 1000 l1 0 s6)
else (
jRet 0 s4)
def gX2_weigh (vs : List Int) (s : jMem) : jO := match vs with
  | [a0, a1] => jGd (a0 = 16) <| fX2_weigh a1 s
  | _ => none
set_option maxRecDepth 100000 in
set_option maxHeartbeats 4000000 in
theorem obX2_weigh_17 {E : jEnv} {Rr : Int → jMem → Prop} {k47 : Int → jMem → jO} (hk47 : ∀ (l1 : Int) (s : jMem), jHo Rr (k47 l1 s) → jGo E MX2_weigh 11 Rr [3, 3, 0] 47 [16, l1, 0] ([]) s) {rec : Int → Int → jMem → jO} (hrec : ∀ (l1 l2 : Int) (s : jMem), jHo Rr (rec l1 l2 s) → jGo E MX2_weigh 11 Rr [3, 3, 1] 17 [16, l1, l2] ([]) s) : ∀ (l1 l2 : Int) (s : jMem), jHo Rr (bX2_weigh_17 k47 rec l1 l2 s) → jGo E MX2_weigh 11 Rr [3, 3, 1] 17 [16, l1, l2] ([]) s := by
  intro l1 l2 s0 hF
  unfold bX2_weigh_17 at hF
  refine ji_iload_n (n := 2) (pc := 17) l2 rfl rfl rfl dX2_weigh_17 (fun r1 => ?_)
  refine ji_aload_n (n := 0) (pc := 18) 16 rfl rfl rfl dX2_weigh_18 (fun r2 => ?_)
  refine ji_getr (pc := 19) 17 wfX2_12 (jRc3 rfl) jcl_16 jrf_16_0 dX2_weigh_19 ?_
  refine ji_getfi (pc := 22) wfX2_49 (jRc3 rfl) jcl_17 hF dX2_weigh_22 (fun x3 r_x3 hF => ?_)
  refine ji_icmp_ge 47 (pc := 25) r1 r_x3 hF dX2_weigh_25 rfl (fun hF => ?_) (fun hF => ?_)
  · refine jg_norm [3, 3, 0] [16, l1, 0] rfl rfl ?_
    exact hk47 _ _ hF
  · refine ji_aload_n (n := 0) (pc := 28) 16 rfl rfl rfl dX2_weigh_28 (fun r4 => ?_)
    refine ji_aload_n (n := 0) (pc := 29) 16 rfl rfl rfl dX2_weigh_29 (fun r5 => ?_)
    refine ji_getr (pc := 30) 17 wfX2_12 (jRc3 rfl) jcl_16 jrf_16_0 dX2_weigh_30 ?_
    refine ji_iload_n (n := 2) (pc := 33) l2 rfl rfl rfl dX2_weigh_33 (fun r6 => ?_)
    refine ji_callVi (pc := 34) 17 [l2] (jV E 3 16 :: []) oX9_conditionsOf wlX2_63 wmX9_conditionsOf rfl rfl (Nat.le_of_ble_eq_true rfl) (jRaC (jRc3 rfl) (jRaC r6 jRa0)) rfl jcl_17 rfl (Nat.le_of_ble_eq_true rfl) hF dX2_weigh_34 (fun x7 s8 r_x7 hF => ?_)
    refine ji_iload_n (n := 2) (pc := 37) l2 rfl rfl rfl dX2_weigh_37 (fun r9 => ?_)
    refine ji_callVv (pc := 38) 16 [x7, l2] ([]) oX2_consider wlX2_67 wmX2_consider rfl rfl (Nat.le_of_ble_eq_true rfl) (jRaC (jRc3 rfl) (jRaC r_x7 (jRaC r9 jRa0))) rfl jcl_16 rfl (Nat.le_of_ble_eq_true rfl) hF dX2_weigh_38 (fun x10 s11 hF => ?_)
    refine ji_iinc (pc := 41) l2 (fun w => [16, l1, w]) rfl rfl rfl (fun _ => rfl) hF dX2_weigh_41 (fun x12 r_x12 hF => ?_)
    refine jg_goto (pc := 44) 17 dX2_weigh_44 rfl ?_
    refine jg_norm [3, 3, 1] [16, l1, x12] rfl rfl ?_
    exact hrec _ _ _ hF
theorem obX2_weigh_17W {E : jEnv} {Rr : Int → jMem → Prop} {k47 : Int → jMem → jO} (hk47 : ∀ (l1 : Int) (s : jMem), jHo Rr (k47 l1 s) → jGo E MX2_weigh 11 Rr [3, 3, 0] 47 [16, l1, 0] ([]) s) : ∀ n : Nat, ∀ (l1 l2 : Int) (s : jMem), jHo Rr (jIt (fun _ _ _ => none) (bX2_weigh_17 k47) n l1 l2 s) → jGo E MX2_weigh 11 Rr [3, 3, 1] 17 [16, l1, l2] ([]) s := by
  intro n
  induction n with
  | zero => intro l1 l2 s hF; exact jHo_none hF
  | succ n ih => exact obX2_weigh_17 hk47 ih

set_option maxRecDepth 100000 in
set_option maxHeartbeats 4000000 in
theorem obX2_weigh_69 {E : jEnv} {Rr : Int → jMem → Prop} : ∀ (l1 : Int) (s : jMem), jHo Rr (bX2_weigh_69 l1 s) → jGo E MX2_weigh 11 Rr [3, 3, 0] 69 [16, l1, 0] ([]) s := by
  intro l1 s0 hF
  unfold bX2_weigh_69 at hF
  refine ji_aload_n (n := 0) (pc := 69) 16 rfl rfl rfl dX2_weigh_69 (fun r1 => ?_)
  refine ji_aload_n (n := 1) (pc := 70) l1 rfl rfl rfl dX2_weigh_70 (fun r2 => ?_)
  refine ji_callVz (pc := 71) 16 [l1] ([]) oX2_isOuterOnes wlX2_56 wmX2_isOuterOnes rfl rfl (Nat.le_of_ble_eq_true rfl) (jRaC (jRc3 rfl) (jRaC r2 jRa0)) rfl jcl_16 rfl (Nat.le_of_ble_eq_true rfl) hF dX2_weigh_71 (fun x3 s4 r_x3 hF => ?_)
  refine ji_if_eq 102 (pc := 74) (jR51 r_x3) hF dX2_weigh_74 rfl (fun hF => ?_) (fun hF => ?_)
  · refine ji_iconst (pc := 102) dX2_weigh_102 ?_
    exact ji_retz (pc := 103) rfl (jRc5 rfl) hF dX2_weigh_103
  · refine ji_aload_n (n := 0) (pc := 77) 16 rfl rfl rfl dX2_weigh_77 (fun r5 => ?_)
    refine ji_iconst (pc := 78) dX2_weigh_78 ?_
    refine ji_iconst (pc := 79) dX2_weigh_79 ?_
    refine ji_callSi (pc := 80) [3, 1] (jV E 3 16 :: []) oX6_bit wlX2_79 wmX6_bit rfl rfl (Nat.le_of_ble_eq_true rfl) (jRaC (jRc rfl) (jRaC (jRc rfl) jRa0)) rfl rfl (Nat.le_of_ble_eq_true rfl) hF dX2_weigh_80 (fun x6 s7 r_x6 hF => ?_)
    refine ji_iconst (pc := 83) dX2_weigh_83 ?_
    refine ji_iconst (pc := 84) dX2_weigh_84 ?_
    refine ji_callSi (pc := 85) [5, 1] (jV E 1 x6 :: jV E 3 16 :: []) oX6_bit wlX2_79 wmX6_bit rfl rfl (Nat.le_of_ble_eq_true rfl) (jRaC (jRc rfl) (jRaC (jRc rfl) jRa0)) rfl rfl (Nat.le_of_ble_eq_true rfl) hF dX2_weigh_85 (fun x8 s9 r_x8 hF => ?_)
    refine ji_ior (pc := 88)  hF dX2_weigh_88 (fun x10 r_x10 hF => ?_)
    refine jg_bipush (pc := 89) rfl dX2_weigh_89 ?_
    refine ji_iconst (pc := 91) dX2_weigh_91 ?_
    refine ji_callSi (pc := 92) [9, 1] (jV E 1 x10 :: jV E 3 16 :: []) oX6_bit wlX2_79 wmX6_bit rfl rfl (Nat.le_of_ble_eq_true rfl) (jRaC (jRc rfl) (jRaC (jRc rfl) jRa0)) rfl rfl (Nat.le_of_ble_eq_true rfl) hF dX2_weigh_92 (fun x11 s12 r_x11 hF => ?_)
    refine ji_ior (pc := 95)  hF dX2_weigh_95 (fun x13 r_x13 hF => ?_)
    refine jg_sipush (pc := 96) rfl dX2_weigh_96 ?_
    refine ji_callVv (pc := 99) 16 [x13, 1001] ([]) oX2_consider wlX2_67 wmX2_consider rfl rfl (Nat.le_of_ble_eq_true rfl) (jRaC (jRc3 rfl) (jRaC r_x13 (jRaC (jRc rfl) jRa0))) rfl jcl_16 rfl (Nat.le_of_ble_eq_true rfl) hF dX2_weigh_99 (fun x14 s15 hF => ?_)
    refine ji_iconst (pc := 102) dX2_weigh_102 ?_
    exact ji_retz (pc := 103) rfl (jRc5 rfl) hF dX2_weigh_103
set_option maxRecDepth 100000 in
set_option maxHeartbeats 4000000 in
theorem obX2_weigh_47 {E : jEnv} {Rr : Int → jMem → Prop} : ∀ (l1 : Int) (s : jMem), jHo Rr (bX2_weigh_47 l1 s) → jGo E MX2_weigh 11 Rr [3, 3, 0] 47 [16, l1, 0] ([]) s := by
  intro l1 s0 hF
  unfold bX2_weigh_47 at hF
  refine ji_aload_n (n := 0) (pc := 47) 16 rfl rfl rfl dX2_weigh_47 (fun r1 => ?_)
  refine ji_aload_n (n := 1) (pc := 48) l1 rfl rfl rfl dX2_weigh_48 (fun r2 => ?_)
  refine ji_callVz (pc := 49) 16 [l1] ([]) oX2_isSeven wlX2_52 wmX2_isSeven rfl rfl (Nat.le_of_ble_eq_true rfl) (jRaC (jRc3 rfl) (jRaC r2 jRa0)) rfl jcl_16 rfl (Nat.le_of_ble_eq_true rfl) hF dX2_weigh_49 (fun x3 s4 r_x3 hF => ?_)
  refine ji_if_eq 69 (pc := 52) (jR51 r_x3) hF dX2_weigh_52 rfl (fun hF => ?_) (fun hF => ?_)
  · refine jg_norm [3, 3, 0] [16, l1, 0] rfl rfl ?_
    exact obX2_weigh_69 _ _ hF
  · refine ji_aload_n (n := 0) (pc := 55) 16 rfl rfl rfl dX2_weigh_55 (fun r5 => ?_)
    refine ji_aload_n (n := 1) (pc := 56) l1 rfl rfl rfl dX2_weigh_56 (fun r6 => ?_)
    obtain ⟨h7, hF⟩ := jHo_as hF
    refine ji_getrL (pc := 57) wfX2_71 r6 h7 hF dX2_weigh_57 (fun x8 r_x8 hF => ?_)
    refine ji_callSi (pc := 60) [x8] (jV E 3 16 :: []) oX2_conditionsOfSeven wlX2_75 wmX2_conditionsOfSeven rfl rfl (Nat.le_of_ble_eq_true rfl) (jRaC r_x8 jRa0) rfl rfl (Nat.le_of_ble_eq_true rfl) hF dX2_weigh_60 (fun x9 s10 r_x9 hF => ?_)
    refine jg_sipush (pc := 63) rfl dX2_weigh_63 ?_
    refine ji_callVv (pc := 66) 16 [x9, 1000] ([]) oX2_consider wlX2_67 wmX2_consider rfl rfl (Nat.le_of_ble_eq_true rfl) (jRaC (jRc3 rfl) (jRaC r_x9 (jRaC (jRc rfl) jRa0))) rfl jcl_16 rfl (Nat.le_of_ble_eq_true rfl) hF dX2_weigh_66 (fun x11 s12 hF => ?_)
    refine jg_norm [3, 3, 0] [16, l1, 0] rfl rfl ?_
    exact obX2_weigh_69 _ _ hF
set_option maxRecDepth 100000 in
set_option maxHeartbeats 4000000 in
theorem oX2_weigh : jOk MX2_weigh [3, 3] 11 (jFn gX2_weigh) := by
  refine jOk_fn (by decide +kernel) (Nat.le_of_ble_eq_true rfl) (by decide +kernel) (.inr (.inr (.inr rfl))) ?_
  intro E vs s0 Rr hF ha
  obtain ⟨l0, t0, rfl, r_l0, ha⟩ := jRa_ci ha
  obtain ⟨l1, t1, rfl, r_l1, ha⟩ := jRa_ci ha
  obtain rfl := jRa_ni ha
  replace hF : jHo Rr (jGd (l0 = 16) <| fX2_weigh l1 s0) := hF
  have hG := jHo_as hF
  clear hF
  obtain ⟨rfl, hF⟩ := hG
  refine jg_norm [3, 3, 0] [16, l1, 0] rfl rfl ?_
  unfold fX2_weigh at hF
  refine ji_aload_n (n := 0) (pc := 0) 16 rfl rfl rfl dX2_weigh_0 (fun r1 => ?_)
  refine ji_aload_n (n := 1) (pc := 1) l1 rfl rfl rfl dX2_weigh_1 (fun r2 => ?_)
  refine ji_callVi (pc := 2) 16 [l1] ([]) oX2_howDone wlX2_59 wmX2_howDone rfl rfl (Nat.le_of_ble_eq_true rfl) (jRaC (jRc3 rfl) (jRaC r2 jRa0)) rfl jcl_16 rfl (Nat.le_of_ble_eq_true rfl) hF dX2_weigh_2 (fun x3 s4 r_x3 hF => ?_)
  refine ji_if_gt 10 (pc := 5) r_x3 hF dX2_weigh_5 rfl (fun hF => ?_) (fun hF => ?_)
  · refine ji_aload_n (n := 0) (pc := 10) 16 rfl rfl rfl dX2_weigh_10 (fun r5 => ?_)
    refine ji_iconst (pc := 11) dX2_weigh_11 ?_
    refine ji_putfi (pc := 12) wpX2_25 (jRc3 rfl) jcl_16 (jRc rfl) hF dX2_weigh_12 (fun s6 hF => ?_)
    refine ji_iconst (pc := 15) dX2_weigh_15 ?_
    refine ji_istore_n (n := 2) (pc := 16) [3, 3, 1] [16, l1, 0] rfl (jRc rfl) (Nat.le_of_ble_eq_true rfl) rfl rfl dX2_weigh_16 ?_
    refine jg_norm [3, 3, 1] [16, l1, 0] rfl rfl ?_
    exact obX2_weigh_17W obX2_weigh_47 1000 _ _ _ hF
  · refine ji_iconst (pc := 8) dX2_weigh_8 ?_
    exact ji_retz (pc := 9) rfl (jRc5 rfl) hF dX2_weigh_9
def fX3_look (l1 l2 : Int) (s0 : jMem) : jO :=
jGd (jcl l1 = 0) <| jLet (jrf l1 0) fun x3 =>
jGd ((0 : Int) ≤ 0 ∧ (0 : Int) ≤ 0 ∧ (0 : Int) ≤ 34 ∧ 0 + 34 ≤ jik x3 ∧ 0 + 34 ≤ jik 8 ∧ 0 < jik x3 ∧ 0 < jik 8) <| jLet (jCp s0 x3 0 8 0 34) fun s5 =>
jLet (jrf l1 1) fun x7 =>
jGd ((0 : Int) ≤ 0 ∧ (0 : Int) ≤ 0 ∧ (0 : Int) ≤ 34 ∧ 0 + 34 ≤ jik x7 ∧ 0 + 34 ≤ jik 9 ∧ 0 < jik x7 ∧ 0 < jik 9) <| jLet (jCp s5 x7 0 9 0 34) fun s9 =>
jLet (s9 l1 4) fun x12 =>
jLet (j32 (4 - x12)) fun x13 =>
jLet (jU s9 7 10 x13) fun s14 =>
jLet (jU s14 7 9 l2) fun s17 =>
jRet 0 s17
def gX3_look (vs : List Int) (s : jMem) : jO := match vs with
  | [a0, a1, a2] => jGd (a0 = 7) <| fX3_look a1 a2 s
  | _ => none
set_option maxRecDepth 100000 in
set_option maxHeartbeats 4000000 in
theorem oX3_look : jOk MX3_look [3, 3, 1] 1 (jFn gX3_look) := by
  refine jOk_fn (by decide +kernel) (Nat.le_of_ble_eq_true rfl) (by decide +kernel) (.inl rfl) ?_
  intro E vs s0 Rr hF ha
  obtain ⟨l0, t0, rfl, r_l0, ha⟩ := jRa_ci ha
  obtain ⟨l1, t1, rfl, r_l1, ha⟩ := jRa_ci ha
  obtain ⟨l2, t2, rfl, r_l2, ha⟩ := jRa_ci ha
  obtain rfl := jRa_ni ha
  replace hF : jHo Rr (jGd (l0 = 7) <| fX3_look l1 l2 s0) := hF
  have hG := jHo_as hF
  clear hF
  obtain ⟨rfl, hF⟩ := hG
  refine jg_norm [3, 3, 1] [7, l1, l2] rfl rfl ?_
  unfold fX3_look at hF
  refine ji_aload_n (n := 1) (pc := 0) l1 rfl rfl rfl dX3_look_0 (fun r1 => ?_)
  obtain ⟨h2, hF⟩ := jHo_as hF
  refine ji_getrL (pc := 1) wfX3_92 r1 h2 hF dX3_look_1 (fun x3 r_x3 hF => ?_)
  refine ji_iconst (pc := 4) dX3_look_4 ?_
  refine ji_aload_n (n := 0) (pc := 5) 7 rfl rfl rfl dX3_look_5 (fun r4 => ?_)
  refine ji_getr (pc := 6) 8 wfX3_13 (jRc3 rfl) jcl_7 jrf_7_1 dX3_look_6 ?_
  refine ji_iconst (pc := 9) dX3_look_9 ?_
  refine jg_bipush (pc := 10) rfl dX3_look_10 ?_
  refine ji_copyi (pc := 12) r_x3 (jRc3 rfl) (jRc rfl) (jRc rfl) (jRc rfl) (Nat.le_of_ble_eq_true rfl) (Nat.le_of_ble_eq_true rfl) ⟨wlX3_95, wq_copy⟩ hF dX3_look_12 (fun s5 hF => ?_)
  refine ji_aload_n (n := 1) (pc := 15) l1 rfl rfl rfl dX3_look_15 (fun r6 => ?_)
  refine ji_getrL (pc := 16) wfX3_101 r6 h2 hF dX3_look_16 (fun x7 r_x7 hF => ?_)
  refine ji_iconst (pc := 19) dX3_look_19 ?_
  refine ji_aload_n (n := 0) (pc := 20) 7 rfl rfl rfl dX3_look_20 (fun r8 => ?_)
  refine ji_getr (pc := 21) 9 wfX3_17 (jRc3 rfl) jcl_7 jrf_7_2 dX3_look_21 ?_
  refine ji_iconst (pc := 24) dX3_look_24 ?_
  refine jg_bipush (pc := 25) rfl dX3_look_25 ?_
  refine ji_copyi (pc := 27) r_x7 (jRc3 rfl) (jRc rfl) (jRc rfl) (jRc rfl) (Nat.le_of_ble_eq_true rfl) (Nat.le_of_ble_eq_true rfl) ⟨wlX3_95, wq_copy⟩ hF dX3_look_27 (fun s9 hF => ?_)
  refine ji_aload_n (n := 0) (pc := 30) 7 rfl rfl rfl dX3_look_30 (fun r10 => ?_)
  refine ji_iconst (pc := 31) dX3_look_31 ?_
  refine ji_aload_n (n := 1) (pc := 32) l1 rfl rfl rfl dX3_look_32 (fun r11 => ?_)
  refine ji_getfi (pc := 33) wfX3_102 r11 h2 hF dX3_look_33 (fun x12 r_x12 hF => ?_)
  refine ji_isub (pc := 36)  hF dX3_look_36 (fun x13 r_x13 hF => ?_)
  refine ji_putfi (pc := 37) wpX3_43 (jRc3 rfl) jcl_7 r_x13 hF dX3_look_37 (fun s14 hF => ?_)
  refine ji_aload_n (n := 0) (pc := 40) 7 rfl rfl rfl dX3_look_40 (fun r15 => ?_)
  refine ji_iload_n (n := 2) (pc := 41) l2 rfl rfl rfl dX3_look_41 (fun r16 => ?_)
  refine ji_putfi (pc := 42) wpX3_39 (jRc3 rfl) jcl_7 r16 hF dX3_look_42 (fun s17 hF => ?_)
  exact ji_retv (pc := 45) rfl hF dX3_look_45
def fX8_lengthOf (l0 : Int) (s0 : jMem) : jO :=
if 3 ≤ l0 then (
jRet 7 s0)
else (
jRet 9 s0)
def gX8_lengthOf (vs : List Int) (s : jMem) : jO := match vs with
  | [a0] => fX8_lengthOf a0 s
  | _ => none
set_option maxRecDepth 100000 in
set_option maxHeartbeats 4000000 in
theorem oX8_lengthOf : jOk MX8_lengthOf [1] 0 (jFn gX8_lengthOf) := by
  refine jOk_fn (by decide +kernel) (Nat.le_of_ble_eq_true rfl) (by decide +kernel) (.inr (.inl rfl)) ?_
  intro E vs s0 Rr hF ha
  obtain ⟨l0, t0, rfl, r_l0, ha⟩ := jRa_ci ha
  obtain rfl := jRa_ni ha
  replace hF : jHo Rr (fX8_lengthOf l0 s0) := hF
  refine jg_norm [1] [l0] rfl rfl ?_
  unfold fX8_lengthOf at hF
  refine ji_iload_n (n := 0) (pc := 0) l0 rfl rfl rfl dX8_lengthOf_0 (fun r1 => ?_)
  refine ji_iconst (pc := 1) dX8_lengthOf_1 ?_
  refine ji_icmp_ge 10 (pc := 2) r1 (jRc rfl) hF dX8_lengthOf_2 rfl (fun hF => ?_) (fun hF => ?_)
  · refine jg_bipush (pc := 10) rfl dX8_lengthOf_10 ?_
    exact ji_reti (pc := 12) rfl (jRc rfl) hF dX8_lengthOf_12
  · refine jg_bipush (pc := 5) rfl dX8_lengthOf_5 ?_
    refine jg_goto (pc := 7) 12 dX8_lengthOf_7 rfl ?_
    exact ji_reti (pc := 12) rfl (jRc rfl) hF dX8_lengthOf_12
def bX3_keyOf_9 (rec : Int → Int → Int → jMem → jO) (l1 l2 l4 : Int) (s0 : jMem) : jO :=
jBd (fX8_lengthOf l1 s0) fun x3 s4 =>
if x3 ≤ l4 then (
jRet l2 s4)
else (
jLet (j32 (l1 * 9)) fun x7 =>
jLet (j32 (x7 + l4)) fun x9 =>
jLet (j64 (l2 * 25)) fun x11 =>
jGd ((0 : Int) ≤ x9 ∧ x9 < jik 8) <| jLet (s4 8 x9) fun x14 =>
jLet (j32 (x14 * 5)) fun x15 =>
jLet (j64 (x11 + x15)) fun x16 =>
jGd ((0 : Int) ≤ x9 ∧ x9 < jik 9) <| jLet (s4 9 x9) fun x19 =>
jLet (j64 (x16 + x19)) fun x20 =>
jLet (j32 (l4 + 1)) fun x21 =>
rec l1 x20 x21 s4)
def fX3_keyOf (l1 : Int) (s0 : jMem) : jO :=
jLet (s0 7 9) fun x2 =>
jIt (fun _ _ _ _ => none) (bX3_keyOf_9) 1000 l1 x2 0 s0
def gX3_keyOf (vs : List Int) (s : jMem) : jO := match vs with
  | [a0, a1] => jGd (a0 = 7) <| fX3_keyOf a1 s
  | _ => none
set_option maxRecDepth 100000 in
set_option maxHeartbeats 4000000 in
theorem obX3_keyOf_9 {E : jEnv} {Rr : Int → jMem → Prop} {rec : Int → Int → Int → jMem → jO} (hrec : ∀ (l1 l2 l4 : Int) (s : jMem), jHo Rr (rec l1 l2 l4 s) → jGo E MX3_keyOf 1 Rr [3, 1, 2, 0, 1, 0] 9 [7, l1, l2, 0, l4, 0] ([]) s) : ∀ (l1 l2 l4 : Int) (s : jMem), jHo Rr (bX3_keyOf_9 rec l1 l2 l4 s) → jGo E MX3_keyOf 1 Rr [3, 1, 2, 0, 1, 0] 9 [7, l1, l2, 0, l4, 0] ([]) s := by
  intro l1 l2 l4 s0 hF
  unfold bX3_keyOf_9 at hF
  refine ji_iload (pc := 9) l4 rfl rfl dX3_keyOf_9 (fun r1 => ?_)
  refine ji_iload_n (n := 1) (pc := 11) l1 rfl rfl rfl dX3_keyOf_11 (fun r2 => ?_)
  refine ji_callSi (pc := 12) [l1] (jV E 1 l4 :: []) oX8_lengthOf wlX3_160 wmX8_lengthOf rfl rfl (Nat.le_of_ble_eq_true rfl) (jRaC r2 jRa0) rfl rfl (Nat.le_of_ble_eq_true rfl) hF dX3_keyOf_12 (fun x3 s4 r_x3 hF => ?_)
  refine ji_icmp_ge 59 (pc := 15) r1 r_x3 hF dX3_keyOf_15 rfl (fun hF => ?_) (fun hF => ?_)
  · refine ji_lload_n (n := 2) (pc := 59) l2 rfl rfl rfl dX3_keyOf_59 (fun r5 => ?_)
    exact ji_retl (pc := 60) rfl r5 hF dX3_keyOf_60
  · refine ji_iload_n (n := 1) (pc := 18) l1 rfl rfl rfl dX3_keyOf_18 (fun r6 => ?_)
    refine jg_bipush (pc := 19) rfl dX3_keyOf_19 ?_
    refine ji_imul (pc := 21)  hF dX3_keyOf_21 (fun x7 r_x7 hF => ?_)
    refine ji_iload (pc := 22) l4 rfl rfl dX3_keyOf_22 (fun r8 => ?_)
    refine ji_iadd (pc := 24)  hF dX3_keyOf_24 (fun x9 r_x9 hF => ?_)
    refine ji_istore (n := 5) (pc := 25) [3, 1, 2, 0, 1, 1] [7, l1, l2, 0, l4, x9] r_x9 (Nat.le_of_ble_eq_true rfl) rfl rfl dX3_keyOf_25 ?_
    refine ji_lload_n (n := 2) (pc := 27) l2 rfl rfl rfl dX3_keyOf_27 (fun r10 => ?_)
    refine jg_ldc2 (n := 25) (pc := 28) wnX3_163 dX3_keyOf_28 ?_
    refine ji_lmul (pc := 31)  hF dX3_keyOf_31 (fun x11 r_x11 hF => ?_)
    refine ji_aload_n (n := 0) (pc := 32) 7 rfl rfl rfl dX3_keyOf_32 (fun r12 => ?_)
    refine ji_getr (pc := 33) 8 wfX3_13 (jRc3 rfl) jcl_7 jrf_7_1 dX3_keyOf_33 ?_
    refine ji_iload (pc := 36) x9 rfl rfl dX3_keyOf_36 (fun r13 => ?_)
    refine ji_iaload (pc := 38) (jRc3 rfl) r13 hF dX3_keyOf_38 (fun x14 r_x14 hF => ?_)
    refine ji_iconst (pc := 39) dX3_keyOf_39 ?_
    refine ji_imul (pc := 40)  hF dX3_keyOf_40 (fun x15 r_x15 hF => ?_)
    refine jg_i2l (pc := 41) r_x15 dX3_keyOf_41 ?_
    refine ji_ladd (pc := 42)  hF dX3_keyOf_42 (fun x16 r_x16 hF => ?_)
    refine ji_aload_n (n := 0) (pc := 43) 7 rfl rfl rfl dX3_keyOf_43 (fun r17 => ?_)
    refine ji_getr (pc := 44) 9 wfX3_17 (jRc3 rfl) jcl_7 jrf_7_2 dX3_keyOf_44 ?_
    refine ji_iload (pc := 47) x9 rfl rfl dX3_keyOf_47 (fun r18 => ?_)
    refine ji_iaload (pc := 49) (jRc3 rfl) r18 hF dX3_keyOf_49 (fun x19 r_x19 hF => ?_)
    refine jg_i2l (pc := 50) r_x19 dX3_keyOf_50 ?_
    refine ji_ladd (pc := 51)  hF dX3_keyOf_51 (fun x20 r_x20 hF => ?_)
    refine ji_lstore_n (n := 2) (pc := 52) [3, 1, 2, 0, 1, 1] [7, l1, x20, 0, l4, x9] rfl r_x20 (Nat.le_of_ble_eq_true rfl) rfl rfl dX3_keyOf_52 ?_
    refine ji_iinc (pc := 53) l4 (fun w => [7, l1, x20, 0, w, x9]) rfl rfl rfl (fun _ => rfl) hF dX3_keyOf_53 (fun x21 r_x21 hF => ?_)
    refine jg_goto (pc := 56) 9 dX3_keyOf_56 rfl ?_
    refine jg_norm [3, 1, 2, 0, 1, 0] [7, l1, x20, 0, x21, 0] rfl rfl ?_
    exact hrec _ _ _ _ hF
theorem obX3_keyOf_9W {E : jEnv} {Rr : Int → jMem → Prop} : ∀ n : Nat, ∀ (l1 l2 l4 : Int) (s : jMem), jHo Rr (jIt (fun _ _ _ _ => none) (bX3_keyOf_9) n l1 l2 l4 s) → jGo E MX3_keyOf 1 Rr [3, 1, 2, 0, 1, 0] 9 [7, l1, l2, 0, l4, 0] ([]) s := by
  intro n
  induction n with
  | zero => intro l1 l2 l4 s hF; exact jHo_none hF
  | succ n ih => exact obX3_keyOf_9 ih

set_option maxRecDepth 100000 in
set_option maxHeartbeats 4000000 in
theorem oX3_keyOf : jOk MX3_keyOf [3, 1] 1 (jFn gX3_keyOf) := by
  refine jOk_fn (by decide +kernel) (Nat.le_of_ble_eq_true rfl) (by decide +kernel) (.inr (.inr (.inl rfl))) ?_
  intro E vs s0 Rr hF ha
  obtain ⟨l0, t0, rfl, r_l0, ha⟩ := jRa_ci ha
  obtain ⟨l1, t1, rfl, r_l1, ha⟩ := jRa_ci ha
  obtain rfl := jRa_ni ha
  replace hF : jHo Rr (jGd (l0 = 7) <| fX3_keyOf l1 s0) := hF
  have hG := jHo_as hF
  clear hF
  obtain ⟨rfl, hF⟩ := hG
  refine jg_norm [3, 1, 0, 0, 0, 0] [7, l1, 0, 0, 0, 0] rfl rfl ?_
  unfold fX3_keyOf at hF
  refine ji_aload_n (n := 0) (pc := 0) 7 rfl rfl rfl dX3_keyOf_0 (fun r1 => ?_)
  refine ji_getfi (pc := 1) wfX3_39 (jRc3 rfl) jcl_7 hF dX3_keyOf_1 (fun x2 r_x2 hF => ?_)
  refine jg_i2l (pc := 4) r_x2 dX3_keyOf_4 ?_
  refine ji_lstore_n (n := 2) (pc := 5) [3, 1, 2, 0, 0, 0] [7, l1, x2, 0, 0, 0] rfl (jR12 r_x2) (Nat.le_of_ble_eq_true rfl) rfl rfl dX3_keyOf_5 ?_
  refine ji_iconst (pc := 6) dX3_keyOf_6 ?_
  refine ji_istore (n := 4) (pc := 7) [3, 1, 2, 0, 1, 0] [7, l1, x2, 0, 0, 0] (jRc rfl) (Nat.le_of_ble_eq_true rfl) rfl rfl dX3_keyOf_7 ?_
  refine jg_norm [3, 1, 2, 0, 1, 0] [7, l1, x2, 0, 0, 0] rfl rfl ?_
  exact obX3_keyOf_9W 1000 _ _ _ _ hF
def bJ7_fill_d0a16_6 (rec : Int → Int → Int → Int → jMem → jO) (l0 l1 l3 l4 : Int) (s0 : jMem) : jO :=
if l4 ≤ l3 then (
jRet 0 s0)
else (
jGd ((0 : Int) ≤ l3 ∧ l3 < jjk l0) <| jLet (jU s0 l0 l3 l1) fun s6 =>
jLet (j32 (l3 + 1)) fun x7 =>
rec l0 l1 x7 l4 s6)
def fJ7_fill_d0a16 (l0 l1 : Int) (s0 : jMem) : jO :=
jGd (0 ≤ jln l0) <| jLet (jln l0) fun x2 =>
jIt (fun _ _ _ _ _ => none) (bJ7_fill_d0a16_6) 1000 l0 l1 0 x2 s0
def gJ7_fill_d0a16 (vs : List Int) (s : jMem) : jO := match vs with
  | [a0, a1] => fJ7_fill_d0a16 a0 a1 s
  | _ => none
set_option maxRecDepth 100000 in
set_option maxHeartbeats 4000000 in
theorem obJ7_fill_d0a16_6 {E : jEnv} {Rr : Int → jMem → Prop} {rec : Int → Int → Int → Int → jMem → jO} (hrec : ∀ (l0 l1 l3 l4 : Int) (s : jMem), jHo Rr (rec l0 l1 l3 l4 s) → jGo E MJ7_fill_d0a16 0 Rr [3, 2, 0, 1, 1] 6 [l0, l1, 0, l3, l4] ([]) s) : ∀ (l0 l1 l3 l4 : Int) (s : jMem), jHo Rr (bJ7_fill_d0a16_6 rec l0 l1 l3 l4 s) → jGo E MJ7_fill_d0a16 0 Rr [3, 2, 0, 1, 1] 6 [l0, l1, 0, l3, l4] ([]) s := by
  intro l0 l1 l3 l4 s0 hF
  unfold bJ7_fill_d0a16_6 at hF
  refine ji_iload_n (n := 3) (pc := 6) l3 rfl rfl rfl dJ7_fill_d0a16_6 (fun r1 => ?_)
  refine ji_iload (pc := 7) l4 rfl rfl dJ7_fill_d0a16_7 (fun r2 => ?_)
  refine ji_icmp_ge 22 (pc := 9) r1 r2 hF dJ7_fill_d0a16_9 rfl (fun hF => ?_) (fun hF => ?_)
  · exact ji_retv (pc := 22) rfl hF dJ7_fill_d0a16_22
  · refine ji_aload_n (n := 0) (pc := 12) l0 rfl rfl rfl dJ7_fill_d0a16_12 (fun r3 => ?_)
    refine ji_iload_n (n := 3) (pc := 13) l3 rfl rfl rfl dJ7_fill_d0a16_13 (fun r4 => ?_)
    refine ji_lload_n (n := 1) (pc := 14) l1 rfl rfl rfl dJ7_fill_d0a16_14 (fun r5 => ?_)
    refine ji_lastore (pc := 15) r3 r4 r5 hF dJ7_fill_d0a16_15 (fun s6 hF => ?_)
    refine ji_iinc (pc := 16) l3 (fun w => [l0, l1, 0, w, l4]) rfl rfl rfl (fun _ => rfl) hF dJ7_fill_d0a16_16 (fun x7 r_x7 hF => ?_)
    refine jg_goto (pc := 19) 6 dJ7_fill_d0a16_19 rfl ?_
    refine jg_norm [3, 2, 0, 1, 1] [l0, l1, 0, x7, l4] rfl rfl ?_
    exact hrec _ _ _ _ _ hF
theorem obJ7_fill_d0a16_6W {E : jEnv} {Rr : Int → jMem → Prop} : ∀ n : Nat, ∀ (l0 l1 l3 l4 : Int) (s : jMem), jHo Rr (jIt (fun _ _ _ _ _ => none) (bJ7_fill_d0a16_6) n l0 l1 l3 l4 s) → jGo E MJ7_fill_d0a16 0 Rr [3, 2, 0, 1, 1] 6 [l0, l1, 0, l3, l4] ([]) s := by
  intro n
  induction n with
  | zero => intro l0 l1 l3 l4 s hF; exact jHo_none hF
  | succ n ih => exact obJ7_fill_d0a16_6 ih

set_option maxRecDepth 100000 in
set_option maxHeartbeats 4000000 in
theorem oJ7_fill_d0a16 : jOk MJ7_fill_d0a16 [3, 2] 0 (jFn gJ7_fill_d0a16) := by
  refine jOk_fn (by decide +kernel) (Nat.le_of_ble_eq_true rfl) (by decide +kernel) (.inl rfl) ?_
  intro E vs s0 Rr hF ha
  obtain ⟨l0, t0, rfl, r_l0, ha⟩ := jRa_ci ha
  obtain ⟨l1, t1, rfl, r_l1, ha⟩ := jRa_ci ha
  obtain rfl := jRa_ni ha
  replace hF : jHo Rr (fJ7_fill_d0a16 l0 l1 s0) := hF
  refine jg_norm [3, 2, 0, 0, 0] [l0, l1, 0, 0, 0] rfl rfl ?_
  unfold fJ7_fill_d0a16 at hF
  refine ji_iconst (pc := 0) dJ7_fill_d0a16_0 ?_
  refine ji_istore_n (n := 3) (pc := 1) [3, 2, 0, 1, 0] [l0, l1, 0, 0, 0] rfl (jRc rfl) (Nat.le_of_ble_eq_true rfl) rfl rfl dJ7_fill_d0a16_1 ?_
  refine ji_aload_n (n := 0) (pc := 2) l0 rfl rfl rfl dJ7_fill_d0a16_2 (fun r1 => ?_)
  refine ji_alen (pc := 3) r1 hF dJ7_fill_d0a16_3 (fun x2 r_x2 hF => ?_)
  refine ji_istore (n := 4) (pc := 4) [3, 2, 0, 1, 1] [l0, l1, 0, 0, x2] r_x2 (Nat.le_of_ble_eq_true rfl) rfl rfl dJ7_fill_d0a16_4 ?_
  refine jg_norm [3, 2, 0, 1, 1] [l0, l1, 0, 0, x2] rfl rfl ?_
  exact obJ7_fill_d0a16_6W 1000 _ _ _ _ _ hF
def fX3_less (l1 l3 : Int) (s0 : jMem) : jO :=
jLet (jshrl l3 34) fun x2 =>
jLet (jshrl l1 34) fun x4 =>
jLet (j64 (x2 - x4)) fun x5 =>
jLet (jcmp x5 0) fun x7 =>
if 0 < x7 then (
jRet l1 s0)
else (
jLet (jshrl l3 34) fun x10 =>
jLet (s0 7 9) fun x12 =>
jLet (jcmp x10 x12) fun x13 =>
if x13 ≤ 0 then (
jLet (jcmp x5 0) fun x15 =>
if 0 ≤ x15 then (
jLet (jorl l1 l3) fun x18 =>
jRet x18 s0)
else (
jRet l3 s0))
else (
jRet l1 s0))
def gX3_less (vs : List Int) (s : jMem) : jO := match vs with
  | [a0, a1, a2] => jGd (a0 = 7) <| fX3_less a1 a2 s
  | _ => none
set_option maxRecDepth 100000 in
set_option maxHeartbeats 4000000 in
theorem oX3_less : jOk MX3_less [3, 2, 2] 0 (jFn gX3_less) := by
  refine jOk_fn (by decide +kernel) (Nat.le_of_ble_eq_true rfl) (by decide +kernel) (.inr (.inr (.inl rfl))) ?_
  intro E vs s0 Rr hF ha
  obtain ⟨l0, t0, rfl, r_l0, ha⟩ := jRa_ci ha
  obtain ⟨l1, t1, rfl, r_l1, ha⟩ := jRa_ci ha
  obtain ⟨l3, t2, rfl, r_l3, ha⟩ := jRa_ci ha
  obtain rfl := jRa_ni ha
  replace hF : jHo Rr (jGd (l0 = 7) <| fX3_less l1 l3 s0) := hF
  have hG := jHo_as hF
  clear hF
  obtain ⟨rfl, hF⟩ := hG
  refine jg_norm [3, 2, 0, 2, 0, 0, 0] [7, l1, 0, l3, 0, 0, 0] rfl rfl ?_
  unfold fX3_less at hF
  refine ji_lload_n (n := 3) (pc := 0) l3 rfl rfl rfl dX3_less_0 (fun r1 => ?_)
  refine jg_bipush (pc := 1) rfl dX3_less_1 ?_
  refine ji_lshr (pc := 3)  hF dX3_less_3 (fun x2 r_x2 hF => ?_)
  refine ji_lload_n (n := 1) (pc := 4) l1 rfl rfl rfl dX3_less_4 (fun r3 => ?_)
  refine jg_bipush (pc := 5) rfl dX3_less_5 ?_
  refine ji_lshr (pc := 7)  hF dX3_less_7 (fun x4 r_x4 hF => ?_)
  refine ji_lsub (pc := 8)  hF dX3_less_8 (fun x5 r_x5 hF => ?_)
  refine ji_lstore (n := 5) (pc := 9) [3, 2, 0, 2, 0, 2, 0] [7, l1, 0, l3, 0, x5, 0] r_x5 (Nat.le_of_ble_eq_true rfl) rfl rfl dX3_less_9 ?_
  refine ji_lload (pc := 11) x5 rfl rfl dX3_less_11 (fun r6 => ?_)
  refine jg_lconst (n := 0) (pc := 13) rfl dX3_less_13 ?_
  refine ji_lcmp (pc := 14) r6 (jRc2 rfl) hF dX3_less_14 (fun x7 r_x7 hF => ?_)
  refine ji_if_gt 31 (pc := 15) r_x7 hF dX3_less_15 rfl (fun hF => ?_) (fun hF => ?_)
  · refine ji_lload_n (n := 1) (pc := 31) l1 rfl rfl rfl dX3_less_31 (fun r8 => ?_)
    exact ji_retl (pc := 32) rfl r8 hF dX3_less_32
  · refine ji_lload_n (n := 3) (pc := 18) l3 rfl rfl rfl dX3_less_18 (fun r9 => ?_)
    refine jg_bipush (pc := 19) rfl dX3_less_19 ?_
    refine ji_lshr (pc := 21)  hF dX3_less_21 (fun x10 r_x10 hF => ?_)
    refine ji_aload_n (n := 0) (pc := 22) 7 rfl rfl rfl dX3_less_22 (fun r11 => ?_)
    refine ji_getfi (pc := 23) wfX3_39 (jRc3 rfl) jcl_7 hF dX3_less_23 (fun x12 r_x12 hF => ?_)
    refine jg_i2l (pc := 26) r_x12 dX3_less_26 ?_
    refine ji_lcmp (pc := 27) r_x10 (jR12 r_x12) hF dX3_less_27 (fun x13 r_x13 hF => ?_)
    refine ji_if_le 33 (pc := 28) r_x13 hF dX3_less_28 rfl (fun hF => ?_) (fun hF => ?_)
    · refine ji_lload (pc := 33) x5 rfl rfl dX3_less_33 (fun r14 => ?_)
      refine jg_lconst (n := 0) (pc := 35) rfl dX3_less_35 ?_
      refine ji_lcmp (pc := 36) r14 (jRc2 rfl) hF dX3_less_36 (fun x15 r_x15 hF => ?_)
      refine ji_if_ge 44 (pc := 37) r_x15 hF dX3_less_37 rfl (fun hF => ?_) (fun hF => ?_)
      · refine ji_lload_n (n := 1) (pc := 44) l1 rfl rfl rfl dX3_less_44 (fun r16 => ?_)
        refine ji_lload_n (n := 3) (pc := 45) l3 rfl rfl rfl dX3_less_45 (fun r17 => ?_)
        refine ji_lor (pc := 46)  hF dX3_less_46 (fun x18 r_x18 hF => ?_)
        exact ji_retl (pc := 47) rfl r_x18 hF dX3_less_47
      · refine ji_lload_n (n := 3) (pc := 40) l3 rfl rfl rfl dX3_less_40 (fun r19 => ?_)
        refine jg_goto (pc := 41) 47 dX3_less_41 rfl ?_
        exact ji_retl (pc := 47) rfl r19 hF dX3_less_47
    · refine ji_lload_n (n := 1) (pc := 31) l1 rfl rfl rfl dX3_less_31 (fun r20 => ?_)
      exact ji_retl (pc := 32) rfl r20 hF dX3_less_32
def bX3_spread_154 (k201 : Int → Int → Int → Int → Int → Int → Int → Int → Int → jMem → jO) (l1 l2 l3 l5 l6 l7 l8 l9 l10 l12 l14 t0 : Int) (s0 : jMem) : jO :=
jLet (j32 (3 * l9)) fun x2 =>
jGd (¬ (3 : Int) = 0) <| jLet (jdiv l1 3) fun x4 =>
jLet (j32 (x2 + x4)) fun x5 =>
jLet (j32 (x5 * 10)) fun x6 =>
jLet (j32 (x6 + l12)) fun x8 =>
jGd ((0 : Int) ≤ x8 ∧ x8 < jjk 12) <| jLet (s0 12 x8) fun x14 =>
jLet (jshll l14 34) fun x17 =>
jLet (j64 (l3 + x17)) fun x18 =>
jLet (jorl x18 t0) fun x20 =>
jBd (fX3_less x14 x20 s0) fun x21 s22 =>
jGd ((0 : Int) ≤ x8 ∧ x8 < jjk 12) <| jLet (jU s22 12 x8 x21) fun s23 =>
k201 l1 l2 l3 l5 l6 l7 l8 l9 l10 s23
def bX3_spread_201 (k48 : Int → Int → Int → Int → Int → Int → Int → Int → Int → jMem → jO) (l1 l2 l3 l5 l6 l7 l8 l9 l10 : Int) (s0 : jMem) : jO :=
jLet (j32 (l10 + 1)) fun x1 =>
k48 l1 l2 l3 l5 l6 l7 l8 l9 x1 s0
def bX3_spread_101 (k48 : Int → Int → Int → Int → Int → Int → Int → Int → Int → jMem → jO) (l1 l2 l3 l5 l6 l7 l8 l9 l10 l11 l12 t0 : Int) (s0 : jMem) : jO :=
if l7 < l11 then (
bX3_spread_201 k48 l1 l2 l3 l5 l6 l7 l8 l9 l10 s0)
else (
if 10 ≤ l12 then (
bX3_spread_201 k48 l1 l2 l3 l5 l6 l7 l8 l9 l10 s0)
else (
if t0 = 0 then (
jGd ((0 : Int) ≤ l5 ∧ l5 < jik 8) <| jLet (s0 8 l5) fun x8 =>
jLet (j32 (l11 - x8)) fun x9 =>
jLet (jmax 0 x9) fun x10 =>
if x10 ≤ 0 then (
bX3_spread_154 (bX3_spread_201 k48) l1 l2 l3 l5 l6 l7 l8 l9 l10 l12 x10 0 s0)
else (
jGd (¬ (9 : Int) = 0) <| jLet (jrem l5 9) fun x13 =>
jLet (jshll 1 x13) fun x14 =>
bX3_spread_154 (bX3_spread_201 k48) l1 l2 l3 l5 l6 l7 l8 l9 l10 l12 x10 x14 s0))
else (
bX3_spread_201 k48 l1 l2 l3 l5 l6 l7 l8 l9 l10 s0)))
def bX3_spread_72 (k48 : Int → Int → Int → Int → Int → Int → Int → Int → Int → jMem → jO) (l1 l2 l3 l5 l6 l7 l8 l9 l10 t0 t1 : Int) (s0 : jMem) : jO :=
jLet (j32 (t0 + t1)) fun x1 =>
jLet (j32 (2 * l9)) fun x4 =>
jLet (j32 (l2 + x4)) fun x5 =>
jLet (j32 (x5 + l10)) fun x7 =>
jLet (jand l2 l10) fun x10 =>
jLet (jand x10 1) fun x11 =>
if x11 = 1 then (
bX3_spread_101 k48 l1 l2 l3 l5 l6 l7 l8 l9 l10 x1 x7 1 s0)
else (
bX3_spread_101 k48 l1 l2 l3 l5 l6 l7 l8 l9 l10 x1 x7 0 s0)
def bX3_spread_48 (k207 : Int → Int → Int → Int → Int → Int → Int → Int → jMem → jO) (rec : Int → Int → Int → Int → Int → Int → Int → Int → Int → jMem → jO) (l1 l2 l3 l5 l6 l7 l8 l9 l10 : Int) (s0 : jMem) : jO :=
if 2 < l10 then (
k207 l1 l2 l3 l5 l6 l7 l8 l9 s0)
else (
jLet (j32 (l6 + l9)) fun x4 =>
if l10 = 0 then (
bX3_spread_72 rec l1 l2 l3 l5 l6 l7 l8 l9 l10 x4 0 s0)
else (
jLet (j32 (l10 + 1)) fun x7 =>
bX3_spread_72 rec l1 l2 l3 l5 l6 l7 l8 l9 l10 x4 x7 s0))
def bX3_spread_207 (k38 : Int → Int → Int → Int → Int → Int → Int → Int → jMem → jO) (l1 l2 l3 l5 l6 l7 l8 l9 : Int) (s0 : jMem) : jO :=
jLet (j32 (l9 + 1)) fun x1 =>
k38 l1 l2 l3 l5 l6 l7 l8 x1 s0
def bX3_spread_38 (rec : Int → Int → Int → Int → Int → Int → Int → Int → jMem → jO) (l1 l2 l3 l5 l6 l7 l8 l9 : Int) (s0 : jMem) : jO :=
if l8 < l9 then (
jRet 0 s0)
else (
jIt (fun _ _ _ _ _ _ _ _ _ _ => none) (bX3_spread_48 (bX3_spread_207 rec)) 1000 l1 l2 l3 l5 l6 l7 l8 l9 0 s0)
def bX3_spread_33 (l1 l2 l3 l5 l6 l7 t0 : Int) (s0 : jMem) : jO :=
jIt (fun _ _ _ _ _ _ _ _ _ => none) (bX3_spread_38) 1000 l1 l2 l3 l5 l6 l7 t0 0 s0
def fX3_spread (l1 l2 l3 l5 : Int) (s0 : jMem) : jO :=
jGd (¬ (3 : Int) = 0) <| jLet (jdiv l1 3) fun x2 =>
jGd (¬ (3 : Int) = 0) <| jLet (jrem l1 3) fun x4 =>
jLet (j32 (x2 + x4)) fun x5 =>
jGd ((0 : Int) ≤ l5 ∧ l5 < jik 9) <| jLet (s0 9 l5) fun x8 =>
jLet (j32 (4 - x8)) fun x9 =>
jBd (fX8_startsRun l5 s0) fun x11 s12 =>
if x11 = 0 then (
bX3_spread_33 l1 l2 l3 l5 x5 x9 0 s12)
else (
bX3_spread_33 l1 l2 l3 l5 x5 x9 2 s12)
def gX3_spread (vs : List Int) (s : jMem) : jO := match vs with
  | [a0, a1, a2, a3, a4] => jGd (a0 = 7) <| fX3_spread a1 a2 a3 a4 s
  | _ => none
set_option maxRecDepth 100000 in
set_option maxHeartbeats 4000000 in
theorem obX3_spread_154 {E : jEnv} {Rr : Int → jMem → Prop} {k201 : Int → Int → Int → Int → Int → Int → Int → Int → Int → jMem → jO} (hk201 : ∀ (l1 l2 l3 l5 l6 l7 l8 l9 l10 : Int) (s : jMem), jHo Rr (k201 l1 l2 l3 l5 l6 l7 l8 l9 l10 s) → jGo E MX3_spread 1 Rr [3, 1, 1, 2, 0, 1, 1, 1, 1, 1, 1, 0, 0, 0, 0, 0, 0, 0] 201 [7, l1, l2, l3, 0, l5, l6, l7, l8, l9, l10, 0, 0, 0, 0, 0, 0, 0] ([]) s) : ∀ (l1 l2 l3 l5 l6 l7 l8 l9 l10 l12 l14 t0 : Int) (s : jMem), jR 2 t0 → jHo Rr (bX3_spread_154 k201 l1 l2 l3 l5 l6 l7 l8 l9 l10 l12 l14 t0 s) → jGo E MX3_spread 1 Rr [3, 1, 1, 2, 0, 1, 1, 1, 1, 1, 1, 0, 1, 0, 1, 0, 0, 0] 154 [7, l1, l2, l3, 0, l5, l6, l7, l8, l9, l10, 0, l12, 0, l14, 0, 0, 0] (jV E 2 t0 :: []) s := by
  intro l1 l2 l3 l5 l6 l7 l8 l9 l10 l12 l14 t0 s0 r_t0 hF
  unfold bX3_spread_154 at hF
  refine ji_lstore (n := 15) (pc := 154) [3, 1, 1, 2, 0, 1, 1, 1, 1, 1, 1, 0, 1, 0, 1, 2, 0, 0] [7, l1, l2, l3, 0, l5, l6, l7, l8, l9, l10, 0, l12, 0, l14, t0, 0, 0] r_t0 (Nat.le_of_ble_eq_true rfl) rfl rfl dX3_spread_154 ?_
  refine ji_iconst (pc := 156) dX3_spread_156 ?_
  refine ji_iload (pc := 157) l9 rfl rfl dX3_spread_157 (fun r1 => ?_)
  refine ji_imul (pc := 159)  hF dX3_spread_159 (fun x2 r_x2 hF => ?_)
  refine ji_iload_n (n := 1) (pc := 160) l1 rfl rfl rfl dX3_spread_160 (fun r3 => ?_)
  refine ji_iconst (pc := 161) dX3_spread_161 ?_
  refine ji_idiv (pc := 162) (jRc rfl) hF dX3_spread_162 (fun x4 r_x4 hF => ?_)
  refine ji_iadd (pc := 163)  hF dX3_spread_163 (fun x5 r_x5 hF => ?_)
  refine jg_bipush (pc := 164) rfl dX3_spread_164 ?_
  refine ji_imul (pc := 166)  hF dX3_spread_166 (fun x6 r_x6 hF => ?_)
  refine ji_iload (pc := 167) l12 rfl rfl dX3_spread_167 (fun r7 => ?_)
  refine ji_iadd (pc := 169)  hF dX3_spread_169 (fun x8 r_x8 hF => ?_)
  refine ji_istore (n := 17) (pc := 170) [3, 1, 1, 2, 0, 1, 1, 1, 1, 1, 1, 0, 1, 0, 1, 2, 0, 1] [7, l1, l2, l3, 0, l5, l6, l7, l8, l9, l10, 0, l12, 0, l14, t0, 0, x8] r_x8 (Nat.le_of_ble_eq_true rfl) rfl rfl dX3_spread_170 ?_
  refine ji_aload_n (n := 0) (pc := 172) 7 rfl rfl rfl dX3_spread_172 (fun r9 => ?_)
  refine ji_getr (pc := 173) 12 wfX3_27 (jRc3 rfl) jcl_7 jrf_7_5 dX3_spread_173 ?_
  refine ji_iload (pc := 176) x8 rfl rfl dX3_spread_176 (fun r10 => ?_)
  refine ji_aload_n (n := 0) (pc := 178) 7 rfl rfl rfl dX3_spread_178 (fun r11 => ?_)
  refine ji_aload_n (n := 0) (pc := 179) 7 rfl rfl rfl dX3_spread_179 (fun r12 => ?_)
  refine ji_getr (pc := 180) 12 wfX3_27 (jRc3 rfl) jcl_7 jrf_7_5 dX3_spread_180 ?_
  refine ji_iload (pc := 183) x8 rfl rfl dX3_spread_183 (fun r13 => ?_)
  refine ji_laload (pc := 185) (jRc3 rfl) r13 hF dX3_spread_185 (fun x14 r_x14 hF => ?_)
  refine ji_lload_n (n := 3) (pc := 186) l3 rfl rfl rfl dX3_spread_186 (fun r15 => ?_)
  refine ji_iload (pc := 187) l14 rfl rfl dX3_spread_187 (fun r16 => ?_)
  refine jg_i2l (pc := 189) r16 dX3_spread_189 ?_
  refine jg_bipush (pc := 190) rfl dX3_spread_190 ?_
  refine ji_lshl (pc := 192)  hF dX3_spread_192 (fun x17 r_x17 hF => ?_)
  refine ji_ladd (pc := 193)  hF dX3_spread_193 (fun x18 r_x18 hF => ?_)
  refine ji_lload (pc := 194) t0 rfl rfl dX3_spread_194 (fun r19 => ?_)
  refine ji_lor (pc := 196)  hF dX3_spread_196 (fun x20 r_x20 hF => ?_)
  refine ji_callVl (pc := 197) 7 [x14, x20] (jV E 1 x8 :: jV E 3 12 :: []) oX3_less wlX3_147 wmX3_less rfl rfl (Nat.le_of_ble_eq_true rfl) (jRaC (jRc3 rfl) (jRaC r_x14 (jRaC r_x20 jRa0))) rfl jcl_7 rfl (Nat.le_of_ble_eq_true rfl) hF dX3_spread_197 (fun x21 s22 r_x21 hF => ?_)
  refine ji_lastore (pc := 200) (jRc3 rfl) r10 r_x21 hF dX3_spread_200 (fun s23 hF => ?_)
  refine jg_norm [3, 1, 1, 2, 0, 1, 1, 1, 1, 1, 1, 0, 0, 0, 0, 0, 0, 0] [7, l1, l2, l3, 0, l5, l6, l7, l8, l9, l10, 0, 0, 0, 0, 0, 0, 0] rfl rfl ?_
  exact hk201 _ _ _ _ _ _ _ _ _ _ hF
set_option maxRecDepth 100000 in
set_option maxHeartbeats 4000000 in
theorem obX3_spread_201 {E : jEnv} {Rr : Int → jMem → Prop} {k48 : Int → Int → Int → Int → Int → Int → Int → Int → Int → jMem → jO} (hk48 : ∀ (l1 l2 l3 l5 l6 l7 l8 l9 l10 : Int) (s : jMem), jHo Rr (k48 l1 l2 l3 l5 l6 l7 l8 l9 l10 s) → jGo E MX3_spread 1 Rr [3, 1, 1, 2, 0, 1, 1, 1, 1, 1, 1, 0, 0, 0, 0, 0, 0, 0] 48 [7, l1, l2, l3, 0, l5, l6, l7, l8, l9, l10, 0, 0, 0, 0, 0, 0, 0] ([]) s) : ∀ (l1 l2 l3 l5 l6 l7 l8 l9 l10 : Int) (s : jMem), jHo Rr (bX3_spread_201 k48 l1 l2 l3 l5 l6 l7 l8 l9 l10 s) → jGo E MX3_spread 1 Rr [3, 1, 1, 2, 0, 1, 1, 1, 1, 1, 1, 0, 0, 0, 0, 0, 0, 0] 201 [7, l1, l2, l3, 0, l5, l6, l7, l8, l9, l10, 0, 0, 0, 0, 0, 0, 0] ([]) s := by
  intro l1 l2 l3 l5 l6 l7 l8 l9 l10 s0 hF
  unfold bX3_spread_201 at hF
  refine ji_iinc (pc := 201) l10 (fun w => [7, l1, l2, l3, 0, l5, l6, l7, l8, l9, w, 0, 0, 0, 0, 0, 0, 0]) rfl rfl rfl (fun _ => rfl) hF dX3_spread_201 (fun x1 r_x1 hF => ?_)
  refine jg_goto (pc := 204) 48 dX3_spread_204 rfl ?_
  refine jg_norm [3, 1, 1, 2, 0, 1, 1, 1, 1, 1, 1, 0, 0, 0, 0, 0, 0, 0] [7, l1, l2, l3, 0, l5, l6, l7, l8, l9, x1, 0, 0, 0, 0, 0, 0, 0] rfl rfl ?_
  exact hk48 _ _ _ _ _ _ _ _ _ _ hF
set_option maxRecDepth 100000 in
set_option maxHeartbeats 4000000 in
theorem obX3_spread_101 {E : jEnv} {Rr : Int → jMem → Prop} {k48 : Int → Int → Int → Int → Int → Int → Int → Int → Int → jMem → jO} (hk48 : ∀ (l1 l2 l3 l5 l6 l7 l8 l9 l10 : Int) (s : jMem), jHo Rr (k48 l1 l2 l3 l5 l6 l7 l8 l9 l10 s) → jGo E MX3_spread 1 Rr [3, 1, 1, 2, 0, 1, 1, 1, 1, 1, 1, 0, 0, 0, 0, 0, 0, 0] 48 [7, l1, l2, l3, 0, l5, l6, l7, l8, l9, l10, 0, 0, 0, 0, 0, 0, 0] ([]) s) : ∀ (l1 l2 l3 l5 l6 l7 l8 l9 l10 l11 l12 t0 : Int) (s : jMem), jR 1 t0 → jHo Rr (bX3_spread_101 k48 l1 l2 l3 l5 l6 l7 l8 l9 l10 l11 l12 t0 s) → jGo E MX3_spread 1 Rr [3, 1, 1, 2, 0, 1, 1, 1, 1, 1, 1, 1, 1, 0, 0, 0, 0, 0] 101 [7, l1, l2, l3, 0, l5, l6, l7, l8, l9, l10, l11, l12, 0, 0, 0, 0, 0] (jV E 1 t0 :: []) s := by
  intro l1 l2 l3 l5 l6 l7 l8 l9 l10 l11 l12 t0 s0 r_t0 hF
  unfold bX3_spread_101 at hF
  refine ji_istore (n := 13) (pc := 101) [3, 1, 1, 2, 0, 1, 1, 1, 1, 1, 1, 1, 1, 1, 0, 0, 0, 0] [7, l1, l2, l3, 0, l5, l6, l7, l8, l9, l10, l11, l12, t0, 0, 0, 0, 0] r_t0 (Nat.le_of_ble_eq_true rfl) rfl rfl dX3_spread_101 ?_
  refine ji_iload (pc := 103) l11 rfl rfl dX3_spread_103 (fun r1 => ?_)
  refine ji_iload (pc := 105) l7 rfl rfl dX3_spread_105 (fun r2 => ?_)
  refine ji_icmp_gt 201 (pc := 107) r1 r2 hF dX3_spread_107 rfl (fun hF => ?_) (fun hF => ?_)
  · refine jg_norm [3, 1, 1, 2, 0, 1, 1, 1, 1, 1, 1, 0, 0, 0, 0, 0, 0, 0] [7, l1, l2, l3, 0, l5, l6, l7, l8, l9, l10, 0, 0, 0, 0, 0, 0, 0] rfl rfl ?_
    exact obX3_spread_201 hk48 _ _ _ _ _ _ _ _ _ _ hF
  · refine ji_iload (pc := 110) l12 rfl rfl dX3_spread_110 (fun r3 => ?_)
    refine jg_bipush (pc := 112) rfl dX3_spread_112 ?_
    refine ji_icmp_ge 201 (pc := 114) r3 (jRc rfl) hF dX3_spread_114 rfl (fun hF => ?_) (fun hF => ?_)
    · refine jg_norm [3, 1, 1, 2, 0, 1, 1, 1, 1, 1, 1, 0, 0, 0, 0, 0, 0, 0] [7, l1, l2, l3, 0, l5, l6, l7, l8, l9, l10, 0, 0, 0, 0, 0, 0, 0] rfl rfl ?_
      exact obX3_spread_201 hk48 _ _ _ _ _ _ _ _ _ _ hF
    · refine ji_iload (pc := 117) t0 rfl rfl dX3_spread_117 (fun r4 => ?_)
      refine ji_if_ne 201 (pc := 119) r4 hF dX3_spread_119 rfl (fun hF => ?_) (fun hF => ?_)
      · refine jg_norm [3, 1, 1, 2, 0, 1, 1, 1, 1, 1, 1, 0, 0, 0, 0, 0, 0, 0] [7, l1, l2, l3, 0, l5, l6, l7, l8, l9, l10, 0, 0, 0, 0, 0, 0, 0] rfl rfl ?_
        exact obX3_spread_201 hk48 _ _ _ _ _ _ _ _ _ _ hF
      · refine ji_iconst (pc := 122) dX3_spread_122 ?_
        refine ji_iload (pc := 123) l11 rfl rfl dX3_spread_123 (fun r5 => ?_)
        refine ji_aload_n (n := 0) (pc := 125) 7 rfl rfl rfl dX3_spread_125 (fun r6 => ?_)
        refine ji_getr (pc := 126) 8 wfX3_13 (jRc3 rfl) jcl_7 jrf_7_1 dX3_spread_126 ?_
        refine ji_iload (pc := 129) l5 rfl rfl dX3_spread_129 (fun r7 => ?_)
        refine ji_iaload (pc := 131) (jRc3 rfl) r7 hF dX3_spread_131 (fun x8 r_x8 hF => ?_)
        refine ji_isub (pc := 132)  hF dX3_spread_132 (fun x9 r_x9 hF => ?_)
        refine ji_max (pc := 133) (jRc rfl) r_x9 (Nat.le_of_ble_eq_true rfl) (Nat.le_of_ble_eq_true rfl) ⟨wlX3_172, wq_max⟩ hF dX3_spread_133 (fun x10 r_x10 hF => ?_)
        refine ji_istore (n := 14) (pc := 136) [3, 1, 1, 2, 0, 1, 1, 1, 1, 1, 1, 1, 1, 1, 1, 0, 0, 0] [7, l1, l2, l3, 0, l5, l6, l7, l8, l9, l10, l11, l12, t0, x10, 0, 0, 0] r_x10 (Nat.le_of_ble_eq_true rfl) rfl rfl dX3_spread_136 ?_
        refine ji_iload (pc := 138) x10 rfl rfl dX3_spread_138 (fun r11 => ?_)
        refine ji_if_le 153 (pc := 140) r11 hF dX3_spread_140 rfl (fun hF => ?_) (fun hF => ?_)
        · refine jg_lconst (n := 0) (pc := 153) rfl dX3_spread_153 ?_
          refine jg_norm [3, 1, 1, 2, 0, 1, 1, 1, 1, 1, 1, 0, 1, 0, 1, 0, 0, 0] [7, l1, l2, l3, 0, l5, l6, l7, l8, l9, l10, 0, l12, 0, x10, 0, 0, 0] rfl rfl ?_
          exact obX3_spread_154 (obX3_spread_201 hk48) _ _ _ _ _ _ _ _ _ _ _ _ _ (jRc2 rfl) hF
        · refine jg_lconst (n := 1) (pc := 143) rfl dX3_spread_143 ?_
          refine ji_iload (pc := 144) l5 rfl rfl dX3_spread_144 (fun r12 => ?_)
          refine jg_bipush (pc := 146) rfl dX3_spread_146 ?_
          refine ji_irem (pc := 148) (jRc rfl) hF dX3_spread_148 (fun x13 r_x13 hF => ?_)
          refine ji_lshl (pc := 149)  hF dX3_spread_149 (fun x14 r_x14 hF => ?_)
          refine jg_goto (pc := 150) 154 dX3_spread_150 rfl ?_
          refine jg_norm [3, 1, 1, 2, 0, 1, 1, 1, 1, 1, 1, 0, 1, 0, 1, 0, 0, 0] [7, l1, l2, l3, 0, l5, l6, l7, l8, l9, l10, 0, l12, 0, x10, 0, 0, 0] rfl rfl ?_
          exact obX3_spread_154 (obX3_spread_201 hk48) _ _ _ _ _ _ _ _ _ _ _ _ _ r_x14 hF
set_option maxRecDepth 100000 in
set_option maxHeartbeats 4000000 in
theorem obX3_spread_72 {E : jEnv} {Rr : Int → jMem → Prop} {k48 : Int → Int → Int → Int → Int → Int → Int → Int → Int → jMem → jO} (hk48 : ∀ (l1 l2 l3 l5 l6 l7 l8 l9 l10 : Int) (s : jMem), jHo Rr (k48 l1 l2 l3 l5 l6 l7 l8 l9 l10 s) → jGo E MX3_spread 1 Rr [3, 1, 1, 2, 0, 1, 1, 1, 1, 1, 1, 0, 0, 0, 0, 0, 0, 0] 48 [7, l1, l2, l3, 0, l5, l6, l7, l8, l9, l10, 0, 0, 0, 0, 0, 0, 0] ([]) s) : ∀ (l1 l2 l3 l5 l6 l7 l8 l9 l10 t0 t1 : Int) (s : jMem), jR 1 t0 → jR 1 t1 → jHo Rr (bX3_spread_72 k48 l1 l2 l3 l5 l6 l7 l8 l9 l10 t0 t1 s) → jGo E MX3_spread 1 Rr [3, 1, 1, 2, 0, 1, 1, 1, 1, 1, 1, 0, 0, 0, 0, 0, 0, 0] 72 [7, l1, l2, l3, 0, l5, l6, l7, l8, l9, l10, 0, 0, 0, 0, 0, 0, 0] (jV E 1 t1 :: jV E 1 t0 :: []) s := by
  intro l1 l2 l3 l5 l6 l7 l8 l9 l10 t0 t1 s0 r_t0 r_t1 hF
  unfold bX3_spread_72 at hF
  refine ji_iadd (pc := 72)  hF dX3_spread_72 (fun x1 r_x1 hF => ?_)
  refine ji_istore (n := 11) (pc := 73) [3, 1, 1, 2, 0, 1, 1, 1, 1, 1, 1, 1, 0, 0, 0, 0, 0, 0] [7, l1, l2, l3, 0, l5, l6, l7, l8, l9, l10, x1, 0, 0, 0, 0, 0, 0] r_x1 (Nat.le_of_ble_eq_true rfl) rfl rfl dX3_spread_73 ?_
  refine ji_iload_n (n := 2) (pc := 75) l2 rfl rfl rfl dX3_spread_75 (fun r2 => ?_)
  refine ji_iconst (pc := 76) dX3_spread_76 ?_
  refine ji_iload (pc := 77) l9 rfl rfl dX3_spread_77 (fun r3 => ?_)
  refine ji_imul (pc := 79)  hF dX3_spread_79 (fun x4 r_x4 hF => ?_)
  refine ji_iadd (pc := 80)  hF dX3_spread_80 (fun x5 r_x5 hF => ?_)
  refine ji_iload (pc := 81) l10 rfl rfl dX3_spread_81 (fun r6 => ?_)
  refine ji_iadd (pc := 83)  hF dX3_spread_83 (fun x7 r_x7 hF => ?_)
  refine ji_istore (n := 12) (pc := 84) [3, 1, 1, 2, 0, 1, 1, 1, 1, 1, 1, 1, 1, 0, 0, 0, 0, 0] [7, l1, l2, l3, 0, l5, l6, l7, l8, l9, l10, x1, x7, 0, 0, 0, 0, 0] r_x7 (Nat.le_of_ble_eq_true rfl) rfl rfl dX3_spread_84 ?_
  refine ji_iload_n (n := 2) (pc := 86) l2 rfl rfl rfl dX3_spread_86 (fun r8 => ?_)
  refine ji_iload (pc := 87) l10 rfl rfl dX3_spread_87 (fun r9 => ?_)
  refine ji_iand (pc := 89)  hF dX3_spread_89 (fun x10 r_x10 hF => ?_)
  refine ji_iconst (pc := 90) dX3_spread_90 ?_
  refine ji_iand (pc := 91)  hF dX3_spread_91 (fun x11 r_x11 hF => ?_)
  refine ji_iconst (pc := 92) dX3_spread_92 ?_
  refine ji_icmp_ne 100 (pc := 93) r_x11 (jRc rfl) hF dX3_spread_93 rfl (fun hF => ?_) (fun hF => ?_)
  · refine ji_iconst (pc := 100) dX3_spread_100 ?_
    refine jg_norm [3, 1, 1, 2, 0, 1, 1, 1, 1, 1, 1, 1, 1, 0, 0, 0, 0, 0] [7, l1, l2, l3, 0, l5, l6, l7, l8, l9, l10, x1, x7, 0, 0, 0, 0, 0] rfl rfl ?_
    exact obX3_spread_101 hk48 _ _ _ _ _ _ _ _ _ _ _ _ _ (jRc rfl) hF
  · refine ji_iconst (pc := 96) dX3_spread_96 ?_
    refine jg_goto (pc := 97) 101 dX3_spread_97 rfl ?_
    refine jg_norm [3, 1, 1, 2, 0, 1, 1, 1, 1, 1, 1, 1, 1, 0, 0, 0, 0, 0] [7, l1, l2, l3, 0, l5, l6, l7, l8, l9, l10, x1, x7, 0, 0, 0, 0, 0] rfl rfl ?_
    exact obX3_spread_101 hk48 _ _ _ _ _ _ _ _ _ _ _ _ _ (jRc rfl) hF
set_option maxRecDepth 100000 in
set_option maxHeartbeats 4000000 in
theorem obX3_spread_48 {E : jEnv} {Rr : Int → jMem → Prop} {k207 : Int → Int → Int → Int → Int → Int → Int → Int → jMem → jO} (hk207 : ∀ (l1 l2 l3 l5 l6 l7 l8 l9 : Int) (s : jMem), jHo Rr (k207 l1 l2 l3 l5 l6 l7 l8 l9 s) → jGo E MX3_spread 1 Rr [3, 1, 1, 2, 0, 1, 1, 1, 1, 1, 0, 0, 0, 0, 0, 0, 0, 0] 207 [7, l1, l2, l3, 0, l5, l6, l7, l8, l9, 0, 0, 0, 0, 0, 0, 0, 0] ([]) s) {rec : Int → Int → Int → Int → Int → Int → Int → Int → Int → jMem → jO} (hrec : ∀ (l1 l2 l3 l5 l6 l7 l8 l9 l10 : Int) (s : jMem), jHo Rr (rec l1 l2 l3 l5 l6 l7 l8 l9 l10 s) → jGo E MX3_spread 1 Rr [3, 1, 1, 2, 0, 1, 1, 1, 1, 1, 1, 0, 0, 0, 0, 0, 0, 0] 48 [7, l1, l2, l3, 0, l5, l6, l7, l8, l9, l10, 0, 0, 0, 0, 0, 0, 0] ([]) s) : ∀ (l1 l2 l3 l5 l6 l7 l8 l9 l10 : Int) (s : jMem), jHo Rr (bX3_spread_48 k207 rec l1 l2 l3 l5 l6 l7 l8 l9 l10 s) → jGo E MX3_spread 1 Rr [3, 1, 1, 2, 0, 1, 1, 1, 1, 1, 1, 0, 0, 0, 0, 0, 0, 0] 48 [7, l1, l2, l3, 0, l5, l6, l7, l8, l9, l10, 0, 0, 0, 0, 0, 0, 0] ([]) s := by
  intro l1 l2 l3 l5 l6 l7 l8 l9 l10 s0 hF
  unfold bX3_spread_48 at hF
  refine ji_iload (pc := 48) l10 rfl rfl dX3_spread_48 (fun r1 => ?_)
  refine ji_iconst (pc := 50) dX3_spread_50 ?_
  refine ji_icmp_gt 207 (pc := 51) r1 (jRc rfl) hF dX3_spread_51 rfl (fun hF => ?_) (fun hF => ?_)
  · refine jg_norm [3, 1, 1, 2, 0, 1, 1, 1, 1, 1, 0, 0, 0, 0, 0, 0, 0, 0] [7, l1, l2, l3, 0, l5, l6, l7, l8, l9, 0, 0, 0, 0, 0, 0, 0, 0] rfl rfl ?_
    exact hk207 _ _ _ _ _ _ _ _ _ hF
  · refine ji_iload (pc := 54) l6 rfl rfl dX3_spread_54 (fun r2 => ?_)
    refine ji_iload (pc := 56) l9 rfl rfl dX3_spread_56 (fun r3 => ?_)
    refine ji_iadd (pc := 58)  hF dX3_spread_58 (fun x4 r_x4 hF => ?_)
    refine ji_iload (pc := 59) l10 rfl rfl dX3_spread_59 (fun r5 => ?_)
    refine ji_if_ne 68 (pc := 61) r5 hF dX3_spread_61 rfl (fun hF => ?_) (fun hF => ?_)
    · refine ji_iload (pc := 68) l10 rfl rfl dX3_spread_68 (fun r6 => ?_)
      refine ji_iconst (pc := 70) dX3_spread_70 ?_
      refine ji_iadd (pc := 71)  hF dX3_spread_71 (fun x7 r_x7 hF => ?_)
      refine jg_norm [3, 1, 1, 2, 0, 1, 1, 1, 1, 1, 1, 0, 0, 0, 0, 0, 0, 0] [7, l1, l2, l3, 0, l5, l6, l7, l8, l9, l10, 0, 0, 0, 0, 0, 0, 0] rfl rfl ?_
      exact obX3_spread_72 hrec _ _ _ _ _ _ _ _ _ _ _ _ r_x4 r_x7 hF
    · refine ji_iconst (pc := 64) dX3_spread_64 ?_
      refine jg_goto (pc := 65) 72 dX3_spread_65 rfl ?_
      refine jg_norm [3, 1, 1, 2, 0, 1, 1, 1, 1, 1, 1, 0, 0, 0, 0, 0, 0, 0] [7, l1, l2, l3, 0, l5, l6, l7, l8, l9, l10, 0, 0, 0, 0, 0, 0, 0] rfl rfl ?_
      exact obX3_spread_72 hrec _ _ _ _ _ _ _ _ _ _ _ _ r_x4 (jRc rfl) hF
theorem obX3_spread_48W {E : jEnv} {Rr : Int → jMem → Prop} {k207 : Int → Int → Int → Int → Int → Int → Int → Int → jMem → jO} (hk207 : ∀ (l1 l2 l3 l5 l6 l7 l8 l9 : Int) (s : jMem), jHo Rr (k207 l1 l2 l3 l5 l6 l7 l8 l9 s) → jGo E MX3_spread 1 Rr [3, 1, 1, 2, 0, 1, 1, 1, 1, 1, 0, 0, 0, 0, 0, 0, 0, 0] 207 [7, l1, l2, l3, 0, l5, l6, l7, l8, l9, 0, 0, 0, 0, 0, 0, 0, 0] ([]) s) : ∀ n : Nat, ∀ (l1 l2 l3 l5 l6 l7 l8 l9 l10 : Int) (s : jMem), jHo Rr (jIt (fun _ _ _ _ _ _ _ _ _ _ => none) (bX3_spread_48 k207) n l1 l2 l3 l5 l6 l7 l8 l9 l10 s) → jGo E MX3_spread 1 Rr [3, 1, 1, 2, 0, 1, 1, 1, 1, 1, 1, 0, 0, 0, 0, 0, 0, 0] 48 [7, l1, l2, l3, 0, l5, l6, l7, l8, l9, l10, 0, 0, 0, 0, 0, 0, 0] ([]) s := by
  intro n
  induction n with
  | zero => intro l1 l2 l3 l5 l6 l7 l8 l9 l10 s hF; exact jHo_none hF
  | succ n ih => exact obX3_spread_48 hk207 ih

set_option maxRecDepth 100000 in
set_option maxHeartbeats 4000000 in
theorem obX3_spread_207 {E : jEnv} {Rr : Int → jMem → Prop} {k38 : Int → Int → Int → Int → Int → Int → Int → Int → jMem → jO} (hk38 : ∀ (l1 l2 l3 l5 l6 l7 l8 l9 : Int) (s : jMem), jHo Rr (k38 l1 l2 l3 l5 l6 l7 l8 l9 s) → jGo E MX3_spread 1 Rr [3, 1, 1, 2, 0, 1, 1, 1, 1, 1, 0, 0, 0, 0, 0, 0, 0, 0] 38 [7, l1, l2, l3, 0, l5, l6, l7, l8, l9, 0, 0, 0, 0, 0, 0, 0, 0] ([]) s) : ∀ (l1 l2 l3 l5 l6 l7 l8 l9 : Int) (s : jMem), jHo Rr (bX3_spread_207 k38 l1 l2 l3 l5 l6 l7 l8 l9 s) → jGo E MX3_spread 1 Rr [3, 1, 1, 2, 0, 1, 1, 1, 1, 1, 0, 0, 0, 0, 0, 0, 0, 0] 207 [7, l1, l2, l3, 0, l5, l6, l7, l8, l9, 0, 0, 0, 0, 0, 0, 0, 0] ([]) s := by
  intro l1 l2 l3 l5 l6 l7 l8 l9 s0 hF
  unfold bX3_spread_207 at hF
  refine ji_iinc (pc := 207) l9 (fun w => [7, l1, l2, l3, 0, l5, l6, l7, l8, w, 0, 0, 0, 0, 0, 0, 0, 0]) rfl rfl rfl (fun _ => rfl) hF dX3_spread_207 (fun x1 r_x1 hF => ?_)
  refine jg_goto (pc := 210) 38 dX3_spread_210 rfl ?_
  refine jg_norm [3, 1, 1, 2, 0, 1, 1, 1, 1, 1, 0, 0, 0, 0, 0, 0, 0, 0] [7, l1, l2, l3, 0, l5, l6, l7, l8, x1, 0, 0, 0, 0, 0, 0, 0, 0] rfl rfl ?_
  exact hk38 _ _ _ _ _ _ _ _ _ hF
set_option maxRecDepth 100000 in
set_option maxHeartbeats 4000000 in
theorem obX3_spread_38 {E : jEnv} {Rr : Int → jMem → Prop} {rec : Int → Int → Int → Int → Int → Int → Int → Int → jMem → jO} (hrec : ∀ (l1 l2 l3 l5 l6 l7 l8 l9 : Int) (s : jMem), jHo Rr (rec l1 l2 l3 l5 l6 l7 l8 l9 s) → jGo E MX3_spread 1 Rr [3, 1, 1, 2, 0, 1, 1, 1, 1, 1, 0, 0, 0, 0, 0, 0, 0, 0] 38 [7, l1, l2, l3, 0, l5, l6, l7, l8, l9, 0, 0, 0, 0, 0, 0, 0, 0] ([]) s) : ∀ (l1 l2 l3 l5 l6 l7 l8 l9 : Int) (s : jMem), jHo Rr (bX3_spread_38 rec l1 l2 l3 l5 l6 l7 l8 l9 s) → jGo E MX3_spread 1 Rr [3, 1, 1, 2, 0, 1, 1, 1, 1, 1, 0, 0, 0, 0, 0, 0, 0, 0] 38 [7, l1, l2, l3, 0, l5, l6, l7, l8, l9, 0, 0, 0, 0, 0, 0, 0, 0] ([]) s := by
  intro l1 l2 l3 l5 l6 l7 l8 l9 s0 hF
  unfold bX3_spread_38 at hF
  refine ji_iload (pc := 38) l9 rfl rfl dX3_spread_38 (fun r1 => ?_)
  refine ji_iload (pc := 40) l8 rfl rfl dX3_spread_40 (fun r2 => ?_)
  refine ji_icmp_gt 213 (pc := 42) r1 r2 hF dX3_spread_42 rfl (fun hF => ?_) (fun hF => ?_)
  · exact ji_retv (pc := 213) rfl hF dX3_spread_213
  · refine ji_iconst (pc := 45) dX3_spread_45 ?_
    refine ji_istore (n := 10) (pc := 46) [3, 1, 1, 2, 0, 1, 1, 1, 1, 1, 1, 0, 0, 0, 0, 0, 0, 0] [7, l1, l2, l3, 0, l5, l6, l7, l8, l9, 0, 0, 0, 0, 0, 0, 0, 0] (jRc rfl) (Nat.le_of_ble_eq_true rfl) rfl rfl dX3_spread_46 ?_
    refine jg_norm [3, 1, 1, 2, 0, 1, 1, 1, 1, 1, 1, 0, 0, 0, 0, 0, 0, 0] [7, l1, l2, l3, 0, l5, l6, l7, l8, l9, 0, 0, 0, 0, 0, 0, 0, 0] rfl rfl ?_
    exact obX3_spread_48W (obX3_spread_207 hrec) 1000 _ _ _ _ _ _ _ _ _ _ hF
theorem obX3_spread_38W {E : jEnv} {Rr : Int → jMem → Prop} : ∀ n : Nat, ∀ (l1 l2 l3 l5 l6 l7 l8 l9 : Int) (s : jMem), jHo Rr (jIt (fun _ _ _ _ _ _ _ _ _ => none) (bX3_spread_38) n l1 l2 l3 l5 l6 l7 l8 l9 s) → jGo E MX3_spread 1 Rr [3, 1, 1, 2, 0, 1, 1, 1, 1, 1, 0, 0, 0, 0, 0, 0, 0, 0] 38 [7, l1, l2, l3, 0, l5, l6, l7, l8, l9, 0, 0, 0, 0, 0, 0, 0, 0] ([]) s := by
  intro n
  induction n with
  | zero => intro l1 l2 l3 l5 l6 l7 l8 l9 s hF; exact jHo_none hF
  | succ n ih => exact obX3_spread_38 ih

set_option maxRecDepth 100000 in
set_option maxHeartbeats 4000000 in
theorem obX3_spread_33 {E : jEnv} {Rr : Int → jMem → Prop} : ∀ (l1 l2 l3 l5 l6 l7 t0 : Int) (s : jMem), jR 1 t0 → jHo Rr (bX3_spread_33 l1 l2 l3 l5 l6 l7 t0 s) → jGo E MX3_spread 1 Rr [3, 1, 1, 2, 0, 1, 1, 1, 0, 0, 0, 0, 0, 0, 0, 0, 0, 0] 33 [7, l1, l2, l3, 0, l5, l6, l7, 0, 0, 0, 0, 0, 0, 0, 0, 0, 0] (jV E 1 t0 :: []) s := by
  intro l1 l2 l3 l5 l6 l7 t0 s0 r_t0 hF
  unfold bX3_spread_33 at hF
  refine ji_istore (n := 8) (pc := 33) [3, 1, 1, 2, 0, 1, 1, 1, 1, 0, 0, 0, 0, 0, 0, 0, 0, 0] [7, l1, l2, l3, 0, l5, l6, l7, t0, 0, 0, 0, 0, 0, 0, 0, 0, 0] r_t0 (Nat.le_of_ble_eq_true rfl) rfl rfl dX3_spread_33 ?_
  refine ji_iconst (pc := 35) dX3_spread_35 ?_
  refine ji_istore (n := 9) (pc := 36) [3, 1, 1, 2, 0, 1, 1, 1, 1, 1, 0, 0, 0, 0, 0, 0, 0, 0] [7, l1, l2, l3, 0, l5, l6, l7, t0, 0, 0, 0, 0, 0, 0, 0, 0, 0] (jRc rfl) (Nat.le_of_ble_eq_true rfl) rfl rfl dX3_spread_36 ?_
  refine jg_norm [3, 1, 1, 2, 0, 1, 1, 1, 1, 1, 0, 0, 0, 0, 0, 0, 0, 0] [7, l1, l2, l3, 0, l5, l6, l7, t0, 0, 0, 0, 0, 0, 0, 0, 0, 0] rfl rfl ?_
  exact obX3_spread_38W 1000 _ _ _ _ _ _ _ _ _ hF
set_option maxRecDepth 100000 in
set_option maxHeartbeats 4000000 in
theorem oX3_spread : jOk MX3_spread [3, 1, 1, 2, 1] 1 (jFn gX3_spread) := by
  refine jOk_fn (by decide +kernel) (Nat.le_of_ble_eq_true rfl) (by decide +kernel) (.inl rfl) ?_
  intro E vs s0 Rr hF ha
  obtain ⟨l0, t0, rfl, r_l0, ha⟩ := jRa_ci ha
  obtain ⟨l1, t1, rfl, r_l1, ha⟩ := jRa_ci ha
  obtain ⟨l2, t2, rfl, r_l2, ha⟩ := jRa_ci ha
  obtain ⟨l3, t3, rfl, r_l3, ha⟩ := jRa_ci ha
  obtain ⟨l5, t4, rfl, r_l5, ha⟩ := jRa_ci ha
  obtain rfl := jRa_ni ha
  replace hF : jHo Rr (jGd (l0 = 7) <| fX3_spread l1 l2 l3 l5 s0) := hF
  have hG := jHo_as hF
  clear hF
  obtain ⟨rfl, hF⟩ := hG
  refine jg_norm [3, 1, 1, 2, 0, 1, 0, 0, 0, 0, 0, 0, 0, 0, 0, 0, 0, 0] [7, l1, l2, l3, 0, l5, 0, 0, 0, 0, 0, 0, 0, 0, 0, 0, 0, 0] rfl rfl ?_
  unfold fX3_spread at hF
  refine ji_iload_n (n := 1) (pc := 0) l1 rfl rfl rfl dX3_spread_0 (fun r1 => ?_)
  refine ji_iconst (pc := 1) dX3_spread_1 ?_
  refine ji_idiv (pc := 2) (jRc rfl) hF dX3_spread_2 (fun x2 r_x2 hF => ?_)
  refine ji_iload_n (n := 1) (pc := 3) l1 rfl rfl rfl dX3_spread_3 (fun r3 => ?_)
  refine ji_iconst (pc := 4) dX3_spread_4 ?_
  refine ji_irem (pc := 5) (jRc rfl) hF dX3_spread_5 (fun x4 r_x4 hF => ?_)
  refine ji_iadd (pc := 6)  hF dX3_spread_6 (fun x5 r_x5 hF => ?_)
  refine ji_istore (n := 6) (pc := 7) [3, 1, 1, 2, 0, 1, 1, 0, 0, 0, 0, 0, 0, 0, 0, 0, 0, 0] [7, l1, l2, l3, 0, l5, x5, 0, 0, 0, 0, 0, 0, 0, 0, 0, 0, 0] r_x5 (Nat.le_of_ble_eq_true rfl) rfl rfl dX3_spread_7 ?_
  refine ji_iconst (pc := 9) dX3_spread_9 ?_
  refine ji_aload_n (n := 0) (pc := 10) 7 rfl rfl rfl dX3_spread_10 (fun r6 => ?_)
  refine ji_getr (pc := 11) 9 wfX3_17 (jRc3 rfl) jcl_7 jrf_7_2 dX3_spread_11 ?_
  refine ji_iload (pc := 14) l5 rfl rfl dX3_spread_14 (fun r7 => ?_)
  refine ji_iaload (pc := 16) (jRc3 rfl) r7 hF dX3_spread_16 (fun x8 r_x8 hF => ?_)
  refine ji_isub (pc := 17)  hF dX3_spread_17 (fun x9 r_x9 hF => ?_)
  refine ji_istore (n := 7) (pc := 18) [3, 1, 1, 2, 0, 1, 1, 1, 0, 0, 0, 0, 0, 0, 0, 0, 0, 0] [7, l1, l2, l3, 0, l5, x5, x9, 0, 0, 0, 0, 0, 0, 0, 0, 0, 0] r_x9 (Nat.le_of_ble_eq_true rfl) rfl rfl dX3_spread_18 ?_
  refine ji_iload (pc := 20) l5 rfl rfl dX3_spread_20 (fun r10 => ?_)
  refine ji_callSz (pc := 22) [l5] ([]) oX8_startsRun wlX3_169 wmX8_startsRun rfl rfl (Nat.le_of_ble_eq_true rfl) (jRaC r10 jRa0) rfl rfl (Nat.le_of_ble_eq_true rfl) hF dX3_spread_22 (fun x11 s12 r_x11 hF => ?_)
  refine ji_if_eq 32 (pc := 25) (jR51 r_x11) hF dX3_spread_25 rfl (fun hF => ?_) (fun hF => ?_)
  · refine ji_iconst (pc := 32) dX3_spread_32 ?_
    refine jg_norm [3, 1, 1, 2, 0, 1, 1, 1, 0, 0, 0, 0, 0, 0, 0, 0, 0, 0] [7, l1, l2, l3, 0, l5, x5, x9, 0, 0, 0, 0, 0, 0, 0, 0, 0, 0] rfl rfl ?_
    exact obX3_spread_33 _ _ _ _ _ _ _ _ (jRc rfl) hF
  · refine ji_iconst (pc := 28) dX3_spread_28 ?_
    refine jg_goto (pc := 29) 33 dX3_spread_29 rfl ?_
    refine jg_norm [3, 1, 1, 2, 0, 1, 1, 1, 0, 0, 0, 0, 0, 0, 0, 0, 0, 0] [7, l1, l2, l3, 0, l5, x5, x9, 0, 0, 0, 0, 0, 0, 0, 0, 0, 0] rfl rfl ?_
    exact obX3_spread_33 _ _ _ _ _ _ _ _ (jRc rfl) hF
def bX3_goThrough_90 (k47 : Int → Int → Int → Int → jMem → jO) (l1 l2 l3 l4 : Int) (s0 : jMem) : jO :=
jLet (j32 (l4 + 1)) fun x1 =>
k47 l1 l2 l3 x1 s0
def bX3_goThrough_47 (k96 : Int → Int → jMem → jO) (rec : Int → Int → Int → Int → jMem → jO) (l1 l2 l3 l4 : Int) (s0 : jMem) : jO :=
if 90 ≤ l4 then (
k96 l1 l2 s0)
else (
jGd ((0 : Int) ≤ l4 ∧ l4 < jjk 11) <| jLet (s0 11 l4) fun x4 =>
jLet (jcmp x4 1099511627776) fun x5 =>
if x5 = 0 then (
bX3_goThrough_90 rec l1 l2 l3 l4 s0)
else (
jGd (¬ (10 : Int) = 0) <| jLet (jdiv l4 10) fun x8 =>
jGd (¬ (10 : Int) = 0) <| jLet (jrem l4 10) fun x10 =>
jGd ((0 : Int) ≤ l4 ∧ l4 < jjk 11) <| jLet (s0 11 l4) fun x13 =>
jBd (fX3_spread x8 x10 x13 l3 s0) fun x15 s16 =>
bX3_goThrough_90 rec l1 l2 l3 l4 s16))
def bX3_goThrough_96 (k19 : Int → Int → jMem → jO) (l1 l2 : Int) (s0 : jMem) : jO :=
jGd ((0 : Int) ≤ 0 ∧ (0 : Int) ≤ 0 ∧ (0 : Int) ≤ 90 ∧ 0 + 90 ≤ jjk 12 ∧ 0 + 90 ≤ jjk 11 ∧ 0 < jjk 12 ∧ 0 < jjk 11) <| jLet (jCp s0 12 0 11 0 90) fun s3 =>
jLet (j32 (l2 + 1)) fun x4 =>
k19 l1 x4 s3
def bX3_goThrough_19 (rec : Int → Int → jMem → jO) (l1 l2 : Int) (s0 : jMem) : jO :=
jBd (fX8_lengthOf l1 s0) fun x3 s4 =>
if x3 ≤ l2 then (
jRet 0 s4)
else (
jBd (fJ7_fill_d0a16 12 1099511627776 s4) fun x6 s7 =>
jLet (j32 (l1 * 9)) fun x9 =>
jLet (j32 (x9 + l2)) fun x11 =>
jIt (fun _ _ _ _ _ => none) (bX3_goThrough_47 (bX3_goThrough_96 rec)) 1000 l1 l2 x11 0 s7)
def fX3_goThrough (l1 : Int) (s0 : jMem) : jO :=
jBd (fJ7_fill_d0a16 11 1099511627776 s0) fun x2 s3 =>
jGd ((0 : Int) ≤ 0 ∧ 0 < jjk 11) <| jLet (jU s3 11 0 0) fun s5 =>
jIt (fun _ _ _ => none) (bX3_goThrough_19) 1000 l1 0 s5
def gX3_goThrough (vs : List Int) (s : jMem) : jO := match vs with
  | [a0, a1] => jGd (a0 = 7) <| fX3_goThrough a1 s
  | _ => none
set_option maxRecDepth 100000 in
set_option maxHeartbeats 4000000 in
theorem obX3_goThrough_90 {E : jEnv} {Rr : Int → jMem → Prop} {k47 : Int → Int → Int → Int → jMem → jO} (hk47 : ∀ (l1 l2 l3 l4 : Int) (s : jMem), jHo Rr (k47 l1 l2 l3 l4 s) → jGo E MX3_goThrough 2 Rr [3, 1, 1, 1, 1] 47 [7, l1, l2, l3, l4] ([]) s) : ∀ (l1 l2 l3 l4 : Int) (s : jMem), jHo Rr (bX3_goThrough_90 k47 l1 l2 l3 l4 s) → jGo E MX3_goThrough 2 Rr [3, 1, 1, 1, 1] 90 [7, l1, l2, l3, l4] ([]) s := by
  intro l1 l2 l3 l4 s0 hF
  unfold bX3_goThrough_90 at hF
  refine ji_iinc (pc := 90) l4 (fun w => [7, l1, l2, l3, w]) rfl rfl rfl (fun _ => rfl) hF dX3_goThrough_90 (fun x1 r_x1 hF => ?_)
  refine jg_goto (pc := 93) 47 dX3_goThrough_93 rfl ?_
  refine jg_norm [3, 1, 1, 1, 1] [7, l1, l2, l3, x1] rfl rfl ?_
  exact hk47 _ _ _ _ _ hF
set_option maxRecDepth 100000 in
set_option maxHeartbeats 4000000 in
theorem obX3_goThrough_47 {E : jEnv} {Rr : Int → jMem → Prop} {k96 : Int → Int → jMem → jO} (hk96 : ∀ (l1 l2 : Int) (s : jMem), jHo Rr (k96 l1 l2 s) → jGo E MX3_goThrough 2 Rr [3, 1, 1, 0, 0] 96 [7, l1, l2, 0, 0] ([]) s) {rec : Int → Int → Int → Int → jMem → jO} (hrec : ∀ (l1 l2 l3 l4 : Int) (s : jMem), jHo Rr (rec l1 l2 l3 l4 s) → jGo E MX3_goThrough 2 Rr [3, 1, 1, 1, 1] 47 [7, l1, l2, l3, l4] ([]) s) : ∀ (l1 l2 l3 l4 : Int) (s : jMem), jHo Rr (bX3_goThrough_47 k96 rec l1 l2 l3 l4 s) → jGo E MX3_goThrough 2 Rr [3, 1, 1, 1, 1] 47 [7, l1, l2, l3, l4] ([]) s := by
  intro l1 l2 l3 l4 s0 hF
  unfold bX3_goThrough_47 at hF
  refine ji_iload (pc := 47) l4 rfl rfl dX3_goThrough_47 (fun r1 => ?_)
  refine jg_bipush (pc := 49) rfl dX3_goThrough_49 ?_
  refine ji_icmp_ge 96 (pc := 51) r1 (jRc rfl) hF dX3_goThrough_51 rfl (fun hF => ?_) (fun hF => ?_)
  · refine jg_norm [3, 1, 1, 0, 0] [7, l1, l2, 0, 0] rfl rfl ?_
    exact hk96 _ _ _ hF
  · refine ji_aload_n (n := 0) (pc := 54) 7 rfl rfl rfl dX3_goThrough_54 (fun r2 => ?_)
    refine ji_getr (pc := 55) 11 wfX3_24 (jRc3 rfl) jcl_7 jrf_7_4 dX3_goThrough_55 ?_
    refine ji_iload (pc := 58) l4 rfl rfl dX3_goThrough_58 (fun r3 => ?_)
    refine ji_laload (pc := 60) (jRc3 rfl) r3 hF dX3_goThrough_60 (fun x4 r_x4 hF => ?_)
    refine jg_ldc2 (n := 1099511627776) (pc := 61) wnX3_86 dX3_goThrough_61 ?_
    refine ji_lcmp (pc := 64) r_x4 (jRc2 rfl) hF dX3_goThrough_64 (fun x5 r_x5 hF => ?_)
    refine ji_if_eq 90 (pc := 65) r_x5 hF dX3_goThrough_65 rfl (fun hF => ?_) (fun hF => ?_)
    · refine jg_norm [3, 1, 1, 1, 1] [7, l1, l2, l3, l4] rfl rfl ?_
      exact obX3_goThrough_90 hrec _ _ _ _ _ hF
    · refine ji_aload_n (n := 0) (pc := 68) 7 rfl rfl rfl dX3_goThrough_68 (fun r6 => ?_)
      refine ji_iload (pc := 69) l4 rfl rfl dX3_goThrough_69 (fun r7 => ?_)
      refine jg_bipush (pc := 71) rfl dX3_goThrough_71 ?_
      refine ji_idiv (pc := 73) (jRc rfl) hF dX3_goThrough_73 (fun x8 r_x8 hF => ?_)
      refine ji_iload (pc := 74) l4 rfl rfl dX3_goThrough_74 (fun r9 => ?_)
      refine jg_bipush (pc := 76) rfl dX3_goThrough_76 ?_
      refine ji_irem (pc := 78) (jRc rfl) hF dX3_goThrough_78 (fun x10 r_x10 hF => ?_)
      refine ji_aload_n (n := 0) (pc := 79) 7 rfl rfl rfl dX3_goThrough_79 (fun r11 => ?_)
      refine ji_getr (pc := 80) 11 wfX3_24 (jRc3 rfl) jcl_7 jrf_7_4 dX3_goThrough_80 ?_
      refine ji_iload (pc := 83) l4 rfl rfl dX3_goThrough_83 (fun r12 => ?_)
      refine ji_laload (pc := 85) (jRc3 rfl) r12 hF dX3_goThrough_85 (fun x13 r_x13 hF => ?_)
      refine ji_iload_n (n := 3) (pc := 86) l3 rfl rfl rfl dX3_goThrough_86 (fun r14 => ?_)
      refine ji_callVv (pc := 87) 7 [x8, x10, x13, l3] ([]) oX3_spread wlX3_165 wmX3_spread rfl rfl (Nat.le_of_ble_eq_true rfl) (jRaC (jRc3 rfl) (jRaC r_x8 (jRaC r_x10 (jRaC r_x13 (jRaC r14 jRa0))))) rfl jcl_7 rfl (Nat.le_of_ble_eq_true rfl) hF dX3_goThrough_87 (fun x15 s16 hF => ?_)
      refine jg_norm [3, 1, 1, 1, 1] [7, l1, l2, l3, l4] rfl rfl ?_
      exact obX3_goThrough_90 hrec _ _ _ _ _ hF
theorem obX3_goThrough_47W {E : jEnv} {Rr : Int → jMem → Prop} {k96 : Int → Int → jMem → jO} (hk96 : ∀ (l1 l2 : Int) (s : jMem), jHo Rr (k96 l1 l2 s) → jGo E MX3_goThrough 2 Rr [3, 1, 1, 0, 0] 96 [7, l1, l2, 0, 0] ([]) s) : ∀ n : Nat, ∀ (l1 l2 l3 l4 : Int) (s : jMem), jHo Rr (jIt (fun _ _ _ _ _ => none) (bX3_goThrough_47 k96) n l1 l2 l3 l4 s) → jGo E MX3_goThrough 2 Rr [3, 1, 1, 1, 1] 47 [7, l1, l2, l3, l4] ([]) s := by
  intro n
  induction n with
  | zero => intro l1 l2 l3 l4 s hF; exact jHo_none hF
  | succ n ih => exact obX3_goThrough_47 hk96 ih

set_option maxRecDepth 100000 in
set_option maxHeartbeats 4000000 in
theorem obX3_goThrough_96 {E : jEnv} {Rr : Int → jMem → Prop} {k19 : Int → Int → jMem → jO} (hk19 : ∀ (l1 l2 : Int) (s : jMem), jHo Rr (k19 l1 l2 s) → jGo E MX3_goThrough 2 Rr [3, 1, 1, 0, 0] 19 [7, l1, l2, 0, 0] ([]) s) : ∀ (l1 l2 : Int) (s : jMem), jHo Rr (bX3_goThrough_96 k19 l1 l2 s) → jGo E MX3_goThrough 2 Rr [3, 1, 1, 0, 0] 96 [7, l1, l2, 0, 0] ([]) s := by
  intro l1 l2 s0 hF
  unfold bX3_goThrough_96 at hF
  refine ji_aload_n (n := 0) (pc := 96) 7 rfl rfl rfl dX3_goThrough_96 (fun r1 => ?_)
  refine ji_getr (pc := 97) 12 wfX3_27 (jRc3 rfl) jcl_7 jrf_7_5 dX3_goThrough_97 ?_
  refine ji_iconst (pc := 100) dX3_goThrough_100 ?_
  refine ji_aload_n (n := 0) (pc := 101) 7 rfl rfl rfl dX3_goThrough_101 (fun r2 => ?_)
  refine ji_getr (pc := 102) 11 wfX3_24 (jRc3 rfl) jcl_7 jrf_7_4 dX3_goThrough_102 ?_
  refine ji_iconst (pc := 105) dX3_goThrough_105 ?_
  refine jg_bipush (pc := 106) rfl dX3_goThrough_106 ?_
  refine ji_copyl (pc := 108) (jRc3 rfl) (jRc3 rfl) (jRc rfl) (jRc rfl) (jRc rfl) (Nat.le_of_ble_eq_true rfl) (Nat.le_of_ble_eq_true rfl) ⟨wlX3_95, wq_copy⟩ hF dX3_goThrough_108 (fun s3 hF => ?_)
  refine ji_iinc (pc := 111) l2 (fun w => [7, l1, w, 0, 0]) rfl rfl rfl (fun _ => rfl) hF dX3_goThrough_111 (fun x4 r_x4 hF => ?_)
  refine jg_goto (pc := 114) 19 dX3_goThrough_114 rfl ?_
  refine jg_norm [3, 1, 1, 0, 0] [7, l1, x4, 0, 0] rfl rfl ?_
  exact hk19 _ _ _ hF
set_option maxRecDepth 100000 in
set_option maxHeartbeats 4000000 in
theorem obX3_goThrough_19 {E : jEnv} {Rr : Int → jMem → Prop} {rec : Int → Int → jMem → jO} (hrec : ∀ (l1 l2 : Int) (s : jMem), jHo Rr (rec l1 l2 s) → jGo E MX3_goThrough 2 Rr [3, 1, 1, 0, 0] 19 [7, l1, l2, 0, 0] ([]) s) : ∀ (l1 l2 : Int) (s : jMem), jHo Rr (bX3_goThrough_19 rec l1 l2 s) → jGo E MX3_goThrough 2 Rr [3, 1, 1, 0, 0] 19 [7, l1, l2, 0, 0] ([]) s := by
  intro l1 l2 s0 hF
  unfold bX3_goThrough_19 at hF
  refine ji_iload_n (n := 2) (pc := 19) l2 rfl rfl rfl dX3_goThrough_19 (fun r1 => ?_)
  refine ji_iload_n (n := 1) (pc := 20) l1 rfl rfl rfl dX3_goThrough_20 (fun r2 => ?_)
  refine ji_callSi (pc := 21) [l1] (jV E 1 l2 :: []) oX8_lengthOf wlX3_160 wmX8_lengthOf rfl rfl (Nat.le_of_ble_eq_true rfl) (jRaC r2 jRa0) rfl rfl (Nat.le_of_ble_eq_true rfl) hF dX3_goThrough_21 (fun x3 s4 r_x3 hF => ?_)
  refine ji_icmp_ge 117 (pc := 24) r1 r_x3 hF dX3_goThrough_24 rfl (fun hF => ?_) (fun hF => ?_)
  · exact ji_retv (pc := 117) rfl hF dX3_goThrough_117
  · refine ji_aload_n (n := 0) (pc := 27) 7 rfl rfl rfl dX3_goThrough_27 (fun r5 => ?_)
    refine ji_getr (pc := 28) 12 wfX3_27 (jRc3 rfl) jcl_7 jrf_7_5 dX3_goThrough_28 ?_
    refine jg_ldc2 (n := 1099511627776) (pc := 31) wnX3_86 dX3_goThrough_31 ?_
    refine ji_callSv (pc := 34) [12, 1099511627776] ([]) oJ7_fill_d0a16 wlX3_62 wmJ7_fill_d0a16 rfl rfl (Nat.le_of_ble_eq_true rfl) (jRaC (jRc3 rfl) (jRaC (jRc2 rfl) jRa0)) rfl rfl (Nat.le_of_ble_eq_true rfl) hF dX3_goThrough_34 (fun x6 s7 hF => ?_)
    refine ji_iload_n (n := 1) (pc := 37) l1 rfl rfl rfl dX3_goThrough_37 (fun r8 => ?_)
    refine jg_bipush (pc := 38) rfl dX3_goThrough_38 ?_
    refine ji_imul (pc := 40)  hF dX3_goThrough_40 (fun x9 r_x9 hF => ?_)
    refine ji_iload_n (n := 2) (pc := 41) l2 rfl rfl rfl dX3_goThrough_41 (fun r10 => ?_)
    refine ji_iadd (pc := 42)  hF dX3_goThrough_42 (fun x11 r_x11 hF => ?_)
    refine ji_istore_n (n := 3) (pc := 43) [3, 1, 1, 1, 0] [7, l1, l2, x11, 0] rfl r_x11 (Nat.le_of_ble_eq_true rfl) rfl rfl dX3_goThrough_43 ?_
    refine ji_iconst (pc := 44) dX3_goThrough_44 ?_
    refine ji_istore (n := 4) (pc := 45) [3, 1, 1, 1, 1] [7, l1, l2, x11, 0] (jRc rfl) (Nat.le_of_ble_eq_true rfl) rfl rfl dX3_goThrough_45 ?_
    refine jg_norm [3, 1, 1, 1, 1] [7, l1, l2, x11, 0] rfl rfl ?_
    exact obX3_goThrough_47W (obX3_goThrough_96 hrec) 1000 _ _ _ _ _ hF
theorem obX3_goThrough_19W {E : jEnv} {Rr : Int → jMem → Prop} : ∀ n : Nat, ∀ (l1 l2 : Int) (s : jMem), jHo Rr (jIt (fun _ _ _ => none) (bX3_goThrough_19) n l1 l2 s) → jGo E MX3_goThrough 2 Rr [3, 1, 1, 0, 0] 19 [7, l1, l2, 0, 0] ([]) s := by
  intro n
  induction n with
  | zero => intro l1 l2 s hF; exact jHo_none hF
  | succ n ih => exact obX3_goThrough_19 ih

set_option maxRecDepth 100000 in
set_option maxHeartbeats 4000000 in
theorem oX3_goThrough : jOk MX3_goThrough [3, 1] 2 (jFn gX3_goThrough) := by
  refine jOk_fn (by decide +kernel) (Nat.le_of_ble_eq_true rfl) (by decide +kernel) (.inl rfl) ?_
  intro E vs s0 Rr hF ha
  obtain ⟨l0, t0, rfl, r_l0, ha⟩ := jRa_ci ha
  obtain ⟨l1, t1, rfl, r_l1, ha⟩ := jRa_ci ha
  obtain rfl := jRa_ni ha
  replace hF : jHo Rr (jGd (l0 = 7) <| fX3_goThrough l1 s0) := hF
  have hG := jHo_as hF
  clear hF
  obtain ⟨rfl, hF⟩ := hG
  refine jg_norm [3, 1, 0, 0, 0] [7, l1, 0, 0, 0] rfl rfl ?_
  unfold fX3_goThrough at hF
  refine ji_aload_n (n := 0) (pc := 0) 7 rfl rfl rfl dX3_goThrough_0 (fun r1 => ?_)
  refine ji_getr (pc := 1) 11 wfX3_24 (jRc3 rfl) jcl_7 jrf_7_4 dX3_goThrough_1 ?_
  refine jg_ldc2 (n := 1099511627776) (pc := 4) wnX3_86 dX3_goThrough_4 ?_
  refine ji_callSv (pc := 7) [11, 1099511627776] ([]) oJ7_fill_d0a16 wlX3_62 wmJ7_fill_d0a16 rfl rfl (Nat.le_of_ble_eq_true rfl) (jRaC (jRc3 rfl) (jRaC (jRc2 rfl) jRa0)) rfl rfl (Nat.le_of_ble_eq_true rfl) hF dX3_goThrough_7 (fun x2 s3 hF => ?_)
  refine ji_aload_n (n := 0) (pc := 10) 7 rfl rfl rfl dX3_goThrough_10 (fun r4 => ?_)
  refine ji_getr (pc := 11) 11 wfX3_24 (jRc3 rfl) jcl_7 jrf_7_4 dX3_goThrough_11 ?_
  refine ji_iconst (pc := 14) dX3_goThrough_14 ?_
  refine jg_lconst (n := 0) (pc := 15) rfl dX3_goThrough_15 ?_
  refine ji_lastore (pc := 16) (jRc3 rfl) (jRc rfl) (jRc2 rfl) hF dX3_goThrough_16 (fun s5 hF => ?_)
  refine ji_iconst (pc := 17) dX3_goThrough_17 ?_
  refine ji_istore_n (n := 2) (pc := 18) [3, 1, 1, 0, 0] [7, l1, 0, 0, 0] rfl (jRc rfl) (Nat.le_of_ble_eq_true rfl) rfl rfl dX3_goThrough_18 ?_
  refine jg_norm [3, 1, 1, 0, 0] [7, l1, 0, 0, 0] rfl rfl ?_
  exact obX3_goThrough_19W 1000 _ _ _ hF
end

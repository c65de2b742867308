section
def bX3_spread_154 (k201 : Int → Int → Int → Int → Int → Int → Int → Int → Int → jMem → jO) (l1 l2 l3 l5 l6 l7 l8 l9 l10 l12 l14 t0 : Int) (s0 : jMem) : jO :=
jLet (j32 (3 * l9)) fun x2 =>
jGd (¬ (3 : Int) = 0) <| jLet (jdiv l1 3) fun x4 =>
jLet (j32 (x2 + x4)) fun x5 =>
jLet (j32 (x5 * 10)) fun x6 =>
jLet (j32 (x6 + l12)) fun x8 =>
jGd ((0 : Int) ≤ x8 ∧ x8 < jjk 12) <| jLet (s0 12 x8) fun x14 =>
jLet (jshll l14 34) fun x17 =>
jLet (j64 (l3 + x17)) fun x18 =>
jLet (jorl x18 t0) fun x20 =>
jBd (fX3_less x14 x20 s0) fun x21 s22 =>
jGd ((0 : Int) ≤ x8 ∧ x8 < jjk 12) <| jLet (jU s22 12 x8 x21) fun s23 =>
k201 l1 l2 l3 l5 l6 l7 l8 l9 l10 s23
def bX3_spread_201 (k48 : Int → Int → Int → Int → Int → Int → Int → Int → Int → jMem → jO) (l1 l2 l3 l5 l6 l7 l8 l9 l10 : Int) (s0 : jMem) : jO :=
jLet (j32 (l10 + 1)) fun x1 =>
k48 l1 l2 l3 l5 l6 l7 l8 l9 x1 s0
def bX3_spread_101 (k48 : Int → Int → Int → Int → Int → Int → Int → Int → Int → jMem → jO) (l1 l2 l3 l5 l6 l7 l8 l9 l10 l11 l12 t0 : Int) (s0 : jMem) : jO :=
if l7 < l11 then (
bX3_spread_201 k48 l1 l2 l3 l5 l6 l7 l8 l9 l10 s0)
else (
if 10 ≤ l12 then (
bX3_spread_201 k48 l1 l2 l3 l5 l6 l7 l8 l9 l10 s0)
else (
if t0 = 0 then (
jGd ((0 : Int) ≤ l5 ∧ l5 < jik 8) <| jLet (s0 8 l5) fun x8 =>
jLet (j32 (l11 - x8)) fun x9 =>
jLet (jmax 0 x9) fun x10 =>
if x10 ≤ 0 then (
bX3_spread_154 (bX3_spread_201 k48) l1 l2 l3 l5 l6 l7 l8 l9 l10 l12 x10 0 s0)
else (
jGd (¬ (9 : Int) = 0) <| jLet (jrem l5 9) fun x13 =>
jLet (jshll 1 x13) fun x14 =>
bX3_spread_154 (bX3_spread_201 k48) l1 l2 l3 l5 l6 l7 l8 l9 l10 l12 x10 x14 s0))
else (
bX3_spread_201 k48 l1 l2 l3 l5 l6 l7 l8 l9 l10 s0)))
def bX3_spread_72 (k48 : Int → Int → Int → Int → Int → Int → Int → Int → Int → jMem → jO) (l1 l2 l3 l5 l6 l7 l8 l9 l10 t0 t1 : Int) (s0 : jMem) : jO :=
jLet (j32 (t0 + t1)) fun x1 =>
jLet (j32 (2 * l9)) fun x4 =>
jLet (j32 (l2 + x4)) fun x5 =>
jLet (j32 (x5 + l10)) fun x7 =>
jLet (jand l2 l10) fun x10 =>
jLet (jand x10 1) fun x11 =>
if x11 = 1 then (
bX3_spread_101 k48 l1 l2 l3 l5 l6 l7 l8 l9 l10 x1 x7 1 s0)
else (
bX3_spread_101 k48 l1 l2 l3 l5 l6 l7 l8 l9 l10 x1 x7 0 s0)
def bX3_spread_48 (k207 : Int → Int → Int → Int → Int → Int → Int → Int → jMem → jO) (rec : Int → Int → Int → Int → Int → Int → Int → Int → Int → jMem → jO) (l1 l2 l3 l5 l6 l7 l8 l9 l10 : Int) (s0 : jMem) : jO :=
if 2 < l10 then (
k207 l1 l2 l3 l5 l6 l7 l8 l9 s0)
else (
jLet (j32 (l6 + l9)) fun x4 =>
if l10 = 0 then (
bX3_spread_72 rec l1 l2 l3 l5 l6 l7 l8 l9 l10 x4 0 s0)
else (
jLet (j32 (l10 + 1)) fun x7 =>
bX3_spread_72 rec l1 l2 l3 l5 l6 l7 l8 l9 l10 x4 x7 s0))
def bX3_spread_207 (k38 : Int → Int → Int → Int → Int → Int → Int → Int → jMem → jO) (l1 l2 l3 l5 l6 l7 l8 l9 : Int) (s0 : jMem) : jO :=
jLet (j32 (l9 + 1)) fun x1 =>
k38 l1 l2 l3 l5 l6 l7 l8 x1 s0
def bX3_spread_38 (rec : Int → Int → Int → Int → Int → Int → Int → Int → jMem → jO) (l1 l2 l3 l5 l6 l7 l8 l9 : Int) (s0 : jMem) : jO :=
if l8 < l9 then (
jRet 0 s0)
else (
jIt (fun _ _ _ _ _ _ _ _ _ _ => none) (bX3_spread_48 (bX3_spread_207 rec)) 1000 l1 l2 l3 l5 l6 l7 l8 l9 0 s0)
def bX3_spread_33 (l1 l2 l3 l5 l6 l7 t0 : Int) (s0 : jMem) : jO :=
jIt (fun _ _ _ _ _ _ _ _ _ => none) (bX3_spread_38) 1000 l1 l2 l3 l5 l6 l7 t0 0 s0
def fX3_spread (l1 l2 l3 l5 : Int) (s0 : jMem) : jO :=
jGd (¬ (3 : Int) = 0) <| jLet (jdiv l1 3) fun x2 =>
jGd (¬ (3 : Int) = 0) <| jLet (jrem l1 3) fun x4 =>
jLet (j32 (x2 + x4)) fun x5 =>
jGd ((0 : Int) ≤ l5 ∧ l5 < jik 9) <| jLet (s0 9 l5) fun x8 =>
jLet (j32 (4 - x8)) fun x9 =>
jBd (fX8_startsRun l5 s0) fun x11 s12 =>
if x11 = 0 then (
bX3_spread_33 l1 l2 l3 l5 x5 x9 0 s12)
else (
bX3_spread_33 l1 l2 l3 l5 x5 x9 2 s12)
def gX3_spread (vs : List Int) (s : jMem) : jO := match vs with
  | [a0, a1, a2, a3, a4] => jGd (a0 = 7) <| fX3_spread a1 a2 a3 a4 s
  | _ => none
set_option maxRecDepth 100000 in
set_option maxHeartbeats 4000000 in
theorem obX3_spread_154 {E : jEnv} {Rr : Int → jMem → Prop} {k201 : Int → Int → Int → Int → Int → Int → Int → Int → Int → jMem → jO} (hk201 : ∀ (l1 l2 l3 l5 l6 l7 l8 l9 l10 : Int) (s : jMem), jHo Rr (k201 l1 l2 l3 l5 l6 l7 l8 l9 l10 s) → jGo E MX3_spread 1 Rr [3, 1, 1, 2, 0, 1, 1, 1, 1, 1, 1, 0, 0, 0, 0, 0, 0, 0] 201 [7, l1, l2, l3, 0, l5, l6, l7, l8, l9, l10, 0, 0, 0, 0, 0, 0, 0] ([]) s) : ∀ (l1 l2 l3 l5 l6 l7 l8 l9 l10 l12 l14 t0 : Int) (s : jMem), jR 2 t0 → jHo Rr (bX3_spread_154 k201 l1 l2 l3 l5 l6 l7 l8 l9 l10 l12 l14 t0 s) → jGo E MX3_spread 1 Rr [3, 1, 1, 2, 0, 1, 1, 1, 1, 1, 1, 0, 1, 0, 1, 0, 0, 0] 154 [7, l1, l2, l3, 0, l5, l6, l7, l8, l9, l10, 0, l12, 0, l14, 0, 0, 0] (jV E 2 t0 :: []) s := by
  intro l1 l2 l3 l5 l6 l7 l8 l9 l10 l12 l14 t0 s0 r_t0 hF
  unfold bX3_spread_154 at hF
  refine ji_lstore (n := 15) (pc := 154) [3, 1, 1, 2, 0, 1, 1, 1, 1, 1, 1, 0, 1, 0, 1, 2, 0, 0] [7, l1, l2, l3, 0, l5, l6, l7, l8, l9, l10, 0, l12, 0, l14, t0, 0, 0] r_t0 (Nat.le_of_ble_eq_true rfl) rfl rfl dX3_spread_154 ?_
  refine ji_iconst (pc := 156) dX3_spread_156 ?_
  refine ji_iload (pc := 157) l9 rfl rfl dX3_spread_157 (fun r1 => ?_)
  refine ji_imul (pc := 159)  hF dX3_spread_159 (fun x2 r_x2 hF => ?_)
  refine ji_iload_n (n := 1) (pc := 160) l1 rfl rfl rfl dX3_spread_160 (fun r3 => ?_)
  refine ji_iconst (pc := 161) dX3_spread_161 ?_
  refine ji_idiv (pc := 162) (jRc rfl) hF dX3_spread_162 (fun x4 r_x4 hF => ?_)
  refine ji_iadd (pc := 163)  hF dX3_spread_163 (fun x5 r_x5 hF => ?_)
  refine jg_bipush (pc := 164) rfl dX3_spread_164 ?_
  refine ji_imul (pc := 166)  hF dX3_spread_166 (fun x6 r_x6 hF => ?_)
  refine ji_iload (pc := 167) l12 rfl rfl dX3_spread_167 (fun r7 => ?_)
  refine ji_iadd (pc := 169)  hF dX3_spread_169 (fun x8 r_x8 hF => ?_)
  refine ji_istore (n := 17) (pc := 170) [3, 1, 1, 2, 0, 1, 1, 1, 1, 1, 1, 0, 1, 0, 1, 2, 0, 1] [7, l1, l2, l3, 0, l5, l6, l7, l8, l9, l10, 0, l12, 0, l14, t0, 0, x8] r_x8 (Nat.le_of_ble_eq_true rfl) rfl rfl dX3_spread_170 ?_
  refine ji_aload_n (n := 0) (pc := 172) 7 rfl rfl rfl dX3_spread_172 (fun r9 => ?_)
  refine ji_getr (pc := 173) 12 wfX3_27 (jRc3 rfl) jcl_7 jrf_7_5 dX3_spread_173 ?_
  refine ji_iload (pc := 176) x8 rfl rfl dX3_spread_176 (fun r10 => ?_)
  refine ji_aload_n (n := 0) (pc := 178) 7 rfl rfl rfl dX3_spread_178 (fun r11 => ?_)
  refine ji_aload_n (n := 0) (pc := 179) 7 rfl rfl rfl dX3_spread_179 (fun r12 => ?_)
  refine ji_getr (pc := 180) 12 wfX3_27 (jRc3 rfl) jcl_7 jrf_7_5 dX3_spread_180 ?_
  refine ji_iload (pc := 183) x8 rfl rfl dX3_spread_183 (fun r13 => ?_)
  refine ji_laload (pc := 185) (jRc3 rfl) r13 hF dX3_spread_185 (fun x14 r_x14 hF => ?_)
  refine ji_lload_n (n := 3) (pc := 186) l3 rfl rfl rfl dX3_spread_186 (fun r15 => ?_)
  refine ji_iload (pc := 187) l14 rfl rfl dX3_spread_187 (fun r16 => ?_)
  refine jg_i2l (pc := 189) r16 dX3_spread_189 ?_
  refine jg_bipush (pc := 190) rfl dX3_spread_190 ?_
  refine ji_lshl (pc := 192)  hF dX3_spread_192 (fun x17 r_x17 hF => ?_)
  refine ji_ladd (pc := 193)  hF dX3_spread_193 (fun x18 r_x18 hF => ?_)
  refine ji_lload (pc := 194) t0 rfl rfl dX3_spread_194 (fun r19 => ?_)
  refine ji_lor (pc := 196)  hF dX3_spread_196 (fun x20 r_x20 hF => ?_)
  refine ji_callVl (pc := 197) 7 [x14, x20] (jV E 1 x8 :: jV E 3 12 :: []) oX3_less wlX3_147 wmX3_less rfl rfl (Nat.le_of_ble_eq_true rfl) (jRaC (jRc3 rfl) (jRaC r_x14 (jRaC r_x20 jRa0))) rfl jcl_7 rfl (Nat.le_of_ble_eq_true rfl) hF dX3_spread_197 (fun x21 s22 r_x21 hF => ?_)
  refine ji_lastore (pc := 200) (jRc3 rfl) r10 r_x21 hF dX3_spread_200 (fun s23 hF => ?_)
  refine jg_norm [3, 1, 1, 2, 0, 1, 1, 1, 1, 1, 1, 0, 0, 0, 0, 0, 0, 0] [7, l1, l2, l3, 0, l5, l6, l7, l8, l9, l10, 0, 0, 0, 0, 0, 0, 0] rfl rfl ?_
  exact hk201 _ _ _ _ _ _ _ _ _ _ hF
set_option maxRecDepth 100000 in
set_option maxHeartbeats 4000000 in
theorem obX3_spread_201 {E : jEnv} {Rr : Int → jMem → Prop} {k48 : Int → Int → Int → Int → Int → Int → Int → Int → Int → jMem → jO} (hk48 : ∀ (l1 l2 l3 l5 l6 l7 l8 l9 l10 : Int) (s : jMem), jHo Rr (k48 l1 l2 l3 l5 l6 l7 l8 l9 l10 s) → jGo E MX3_spread 1 Rr [3, 1, 1, 2, 0, 1, 1, 1, 1, 1, 1, 0, 0, 0, 0, 0, 0, 0] 48 [7, l1, l2, l3, 0, l5, l6, l7, l8, l9, l10, 0, 0, 0, 0, 0, 0, 0] ([]) s) : ∀ (l1 l2 l3 l5 l6 l7 l8 l9 l10 : Int) (s : jMem), jHo Rr (bX3_spread_201 k48 l1 l2 l3 l5 l6 l7 l8 l9 l10 s) → jGo E MX3_spread 1 Rr [3, 1, 1, 2, 0, 1, 1, 1, 1, 1, 1, 0, 0, 0, 0, 0, 0, 0] 201 [7, l1, l2, l3, 0, l5, l6, l7, l8, l9, l10, 0, 0, 0, 0, 0, 0, 0] ([]) s := by
  intro l1 l2 l3 l5 l6 l7 l8 l9 l10 s0 hF
  unfold bX3_spread_201 at hF
  refine ji_iinc (pc := 201) l10 (fun w => [7, l1, l2, l3, 0, l5, l6, l7, l8, l9, w, 0, 0, 0, 0, 0, 0, 0]) rfl rfl rfl (fun _ => rfl) hF dX3_spread_201 (fun x1 r_x1 hF => ?_)
  refine jg_goto (pc := 204) 48 dX3_spread_204 rfl ?_
  refine jg_norm [3, 1, 1, 2, 0, 1, 1, 1, 1, 1, 1, 0, 0, 0, 0, 0, 0, 0] [7, l1, l2, l3, 0, l5, l6, l7, l8, l9, x1, 0, 0, 0, 0, 0, 0, 0] rfl rfl ?_
  exact hk48 _ _ _ _ _ _ _ _ _ _ hF
set_option maxRecDepth 100000 in
set_option maxHeartbeats 4000000 in
theorem obX3_spread_101 {E : jEnv} {Rr : Int → jMem → Prop} {k48 : Int → Int → Int → Int → Int → Int → Int → Int → Int → jMem → jO} (hk48 : ∀ (l1 l2 l3 l5 l6 l7 l8 l9 l10 : Int) (s : jMem), jHo Rr (k48 l1 l2 l3 l5 l6 l7 l8 l9 l10 s) → jGo E MX3_spread 1 Rr [3, 1, 1, 2, 0, 1, 1, 1, 1, 1, 1, 0, 0, 0, 0, 0, 0, 0] 48 [7, l1, l2, l3, 0, l5, l6, l7, l8, l9, l10, 0, 0, 0, 0, 0, 0, 0] ([]) s) : ∀ (l1 l2 l3 l5 l6 l7 l8 l9 l10 l11 l12 t0 : Int) (s : jMem), jR 1 t0 → jHo Rr (bX3_spread_101 k48 l1 l2 l3 l5 l6 l7 l8 l9 l10 l11 l12 t0 s) → jGo E MX3_spread 1 Rr [3, 1, 1, 2, 0, 1, 1, 1, 1, 1, 1, 1, 1, 0, 0, 0, 0, 0] 101 [7, l1, l2, l3, 0, l5, l6, l7, l8, l9, l10, l11, l12, 0, 0, 0, 0, 0] (jV E 1 t0 :: []) s := by
  intro l1 l2 l3 l5 l6 l7 l8 l9 l10 l11 l12 t0 s0 r_t0 hF
  unfold bX3_spread_101 at hF
  refine ji_istore (n := 13) (pc := 101) [3, 1, 1, 2, 0, 1, 1, 1, 1, 1, 1, 1, 1, 1, 0, 0, 0, 0] [7, l1, l2, l3, 0, l5, l6, l7, l8, l9, l10, l11, l12, t0, 0, 0, 0, 0] r_t0 (Nat.le_of_ble_eq_true rfl) rfl rfl dX3_spread_101 ?_
  refine ji_iload (pc := 103) l11 rfl rfl dX3_spread_103 (fun r1 => ?_)
  refine ji_iload (pc := 105) l7 rfl rfl dX3_spread_105 (fun r2 => ?_)
  refine ji_icmp_gt 201 (pc := 107) r1 r2 hF dX3_spread_107 rfl (fun hF => ?_) (fun hF => ?_)
  · refine jg_norm [3, 1, 1, 2, 0, 1, 1, 1, 1, 1, 1, 0, 0, 0, 0, 0, 0, 0] [7, l1, l2, l3, 0, l5, l6, l7, l8, l9, l10, 0, 0, 0, 0, 0, 0, 0] rfl rfl ?_
    exact obX3_spread_201 hk48 _ _ _ _ _ _ _ _ _ _ hF
  · refine ji_iload (pc := 110) l12 rfl rfl dX3_spread_110 (fun r3 => ?_)
    refine jg_bipush (pc := 112) rfl dX3_spread_112 ?_
    refine ji_icmp_ge 201 (pc := 114) r3 (jRc rfl) hF dX3_spread_114 rfl (fun hF => ?_) (fun hF => ?_)
    · refine jg_norm [3, 1, 1, 2, 0, 1, 1, 1, 1, 1, 1, 0, 0, 0, 0, 0, 0, 0] [7, l1, l2, l3, 0, l5, l6, l7, l8, l9, l10, 0, 0, 0, 0, 0, 0, 0] rfl rfl ?_
      exact obX3_spread_201 hk48 _ _ _ _ _ _ _ _ _ _ hF
    · refine ji_iload (pc := 117) t0 rfl rfl dX3_spread_117 (fun r4 => ?_)
      refine ji_if_ne 201 (pc := 119) r4 hF dX3_spread_119 rfl (fun hF => ?_) (fun hF => ?_)
      · refine jg_norm [3, 1, 1, 2, 0, 1, 1, 1, 1, 1, 1, 0, 0, 0, 0, 0, 0, 0] [7, l1, l2, l3, 0, l5, l6, l7, l8, l9, l10, 0, 0, 0, 0, 0, 0, 0] rfl rfl ?_
        exact obX3_spread_201 hk48 _ _ _ _ _ _ _ _ _ _ hF
      · refine ji_iconst (pc := 122) dX3_spread_122 ?_
        refine ji_iload (pc := 123) l11 rfl rfl dX3_spread_123 (fun r5 => ?_)
        refine ji_aload_n (n := 0) (pc := 125) 7 rfl rfl rfl dX3_spread_125 (fun r6 => ?_)
        refine ji_getr (pc := 126) 8 wfX3_13 (jRc3 rfl) jcl_7 jrf_7_1 dX3_spread_126 ?_
        refine ji_iload (pc := 129) l5 rfl rfl dX3_spread_129 (fun r7 => ?_)
        refine ji_iaload (pc := 131) (jRc3 rfl) r7 hF dX3_spread_131 (fun x8 r_x8 hF => ?_)
        refine ji_isub (pc := 132)  hF dX3_spread_132 (fun x9 r_x9 hF => ?_)
        refine ji_max (pc := 133) (jRc rfl) r_x9 (Nat.le_of_ble_eq_true rfl) (Nat.le_of_ble_eq_true rfl) ⟨wlX3_172, wq_max⟩ hF dX3_spread_133 (fun x10 r_x10 hF => ?_)
        refine ji_istore (n := 14) (pc := 136) [3, 1, 1, 2, 0, 1, 1, 1, 1, 1, 1, 1, 1, 1, 1, 0, 0, 0] [7, l1, l2, l3, 0, l5, l6, l7, l8, l9, l10, l11, l12, t0, x10, 0, 0, 0] r_x10 (Nat.le_of_ble_eq_true rfl) rfl rfl dX3_spread_136 ?_
        refine ji_iload (pc := 138) x10 rfl rfl dX3_spread_138 (fun r11 => ?_)
        refine ji_if_le 153 (pc := 140) r11 hF dX3_spread_140 rfl (fun hF => ?_) (fun hF => ?_)
        · refine jg_lconst (n := 0) (pc := 153) rfl dX3_spread_153 ?_
          refine jg_norm [3, 1, 1, 2, 0, 1, 1, 1, 1, 1, 1, 0, 1, 0, 1, 0, 0, 0] [7, l1, l2, l3, 0, l5, l6, l7, l8, l9, l10, 0, l12, 0, x10, 0, 0, 0] rfl rfl ?_
          exact obX3_spread_154 (obX3_spread_201 hk48) _ _ _ _ _ _ _ _ _ _ _ _ _ (jRc2 rfl) hF
        · refine jg_lconst (n := 1) (pc := 143) rfl dX3_spread_143 ?_
          refine ji_iload (pc := 144) l5 rfl rfl dX3_spread_144 (fun r12 => ?_)
          refine jg_bipush (pc := 146) rfl dX3_spread_146 ?_
          refine ji_irem (pc := 148) (jRc rfl) hF dX3_spread_148 (fun x13 r_x13 hF => ?_)
          refine ji_lshl (pc := 149)  hF dX3_spread_149 (fun x14 r_x14 hF => ?_)
          refine jg_goto (pc := 150) 154 dX3_spread_150 rfl ?_
          refine jg_norm [3, 1, 1, 2, 0, 1, 1, 1, 1, 1, 1, 0, 1, 0, 1, 0, 0, 0] [7, l1, l2, l3, 0, l5, l6, l7, l8, l9, l10, 0, l12, 0, x10, 0, 0, 0] rfl rfl ?_
          exact obX3_spread_154 (obX3_spread_201 hk48) _ _ _ _ _ _ _ _ _ _ _ _ _ r_x14 hF
set_option maxRecDepth 100000 in
set_option maxHeartbeats 4000000 in
theorem obX3_spread_72 {E : jEnv} {Rr : Int → jMem → Prop} {k48 : Int → Int → Int → Int → Int → Int → Int → Int → Int → jMem → jO} (hk48 : ∀ (l1 l2 l3 l5 l6 l7 l8 l9 l10 : Int) (s : jMem), jHo Rr (k48 l1 l2 l3 l5 l6 l7 l8 l9 l10 s) → jGo E MX3_spread 1 Rr [3, 1, 1, 2, 0, 1, 1, 1, 1, 1, 1, 0, 0, 0, 0, 0, 0, 0] 48 [7, l1, l2, l3, 0, l5, l6, l7, l8, l9, l10, 0, 0, 0, 0, 0, 0, 0] ([]) s) : ∀ (l1 l2 l3 l5 l6 l7 l8 l9 l10 t0 t1 : Int) (s : jMem), jR 1 t0 → jR 1 t1 → jHo Rr (bX3_spread_72 k48 l1 l2 l3 l5 l6 l7 l8 l9 l10 t0 t1 s) → jGo E MX3_spread 1 Rr [3, 1, 1, 2, 0, 1, 1, 1, 1, 1, 1, 0, 0, 0, 0, 0, 0, 0] 72 [7, l1, l2, l3, 0, l5, l6, l7, l8, l9, l10, 0, 0, 0, 0, 0, 0, 0] (jV E 1 t1 :: jV E 1 t0 :: []) s := by
  intro l1 l2 l3 l5 l6 l7 l8 l9 l10 t0 t1 s0 r_t0 r_t1 hF
  unfold bX3_spread_72 at hF
  refine ji_iadd (pc := 72)  hF dX3_spread_72 (fun x1 r_x1 hF => ?_)
  refine ji_istore (n := 11) (pc := 73) [3, 1, 1, 2, 0, 1, 1, 1, 1, 1, 1, 1, 0, 0, 0, 0, 0, 0] [7, l1, l2, l3, 0, l5, l6, l7, l8, l9, l10, x1, 0, 0, 0, 0, 0, 0] r_x1 (Nat.le_of_ble_eq_true rfl) rfl rfl dX3_spread_73 ?_
  refine ji_iload_n (n := 2) (pc := 75) l2 rfl rfl rfl dX3_spread_75 (fun r2 => ?_)
  refine ji_iconst (pc := 76) dX3_spread_76 ?_
  refine ji_iload (pc := 77) l9 rfl rfl dX3_spread_77 (fun r3 => ?_)
  refine ji_imul (pc := 79)  hF dX3_spread_79 (fun x4 r_x4 hF => ?_)
  refine ji_iadd (pc := 80)  hF dX3_spread_80 (fun x5 r_x5 hF => ?_)
  refine ji_iload (pc := 81) l10 rfl rfl dX3_spread_81 (fun r6 => ?_)
  refine ji_iadd (pc := 83)  hF dX3_spread_83 (fun x7 r_x7 hF => ?_)
  refine ji_istore (n := 12) (pc := 84) [3, 1, 1, 2, 0, 1, 1, 1, 1, 1, 1, 1, 1, 0, 0, 0, 0, 0] [7, l1, l2, l3, 0, l5, l6, l7, l8, l9, l10, x1, x7, 0, 0, 0, 0, 0] r_x7 (Nat.le_of_ble_eq_true rfl) rfl rfl dX3_spread_84 ?_
  refine ji_iload_n (n := 2) (pc := 86) l2 rfl rfl rfl dX3_spread_86 (fun r8 => ?_)
  refine ji_iload (pc := 87) l10 rfl rfl dX3_spread_87 (fun r9 => ?_)
  refine ji_iand (pc := 89)  hF dX3_spread_89 (fun x10 r_x10 hF => ?_)
  refine ji_iconst (pc := 90) dX3_spread_90 ?_
  refine ji_iand (pc := 91)  hF dX3_spread_91 (fun x11 r_x11 hF => ?_)
  refine ji_iconst (pc := 92) dX3_spread_92 ?_
  refine ji_icmp_ne 100 (pc := 93) r_x11 (jRc rfl) hF dX3_spread_93 rfl (fun hF => ?_) (fun hF => ?_)
  · refine ji_iconst (pc := 100) dX3_spread_100 ?_
    refine jg_norm [3, 1, 1, 2, 0, 1, 1, 1, 1, 1, 1, 1, 1, 0, 0, 0, 0, 0] [7, l1, l2, l3, 0, l5, l6, l7, l8, l9, l10, x1, x7, 0, 0, 0, 0, 0] rfl rfl ?_
    exact obX3_spread_101 hk48 _ _ _ _ _ _ _ _ _ _ _ _ _ (jRc rfl) hF
  · refine ji_iconst (pc := 96) dX3_spread_96 ?_
    refine jg_goto (pc := 97) 101 dX3_spread_97 rfl ?_
    refine jg_norm [3, 1, 1, 2, 0, 1, 1, 1, 1, 1, 1, 1, 1, 0, 0, 0, 0, 0] [7, l1, l2, l3, 0, l5, l6, l7, l8, l9, l10, x1, x7, 0, 0, 0, 0, 0] rfl rfl ?_
    exact obX3_spread_101 hk48 _ _ _ _ _ _ _ _ _ _ _ _ _ (jRc rfl) hF
set_option maxRecDepth 100000 in
set_option maxHeartbeats 4000000 in
theorem obX3_spread_48 {E : jEnv} {Rr : Int → jMem → Prop} {k207 : Int → Int → Int → Int → Int → Int → Int → Int → jMem → jO} (hk207 : ∀ (l1 l2 l3 l5 l6 l7 l8 l9 : Int) (s : jMem), jHo Rr (k207 l1 l2 l3 l5 l6 l7 l8 l9 s) → jGo E MX3_spread 1 Rr [3, 1, 1, 2, 0, 1, 1, 1, 1, 1, 0, 0, 0, 0, 0, 0, 0, 0] 207 [7, l1, l2, l3, 0, l5, l6, l7, l8, l9, 0, 0, 0, 0, 0, 0, 0, 0] ([]) s) {rec : Int → Int → Int → Int → Int → Int → Int → Int → Int → jMem → jO} (hrec : ∀ (l1 l2 l3 l5 l6 l7 l8 l9 l10 : Int) (s : jMem), jHo Rr (rec l1 l2 l3 l5 l6 l7 l8 l9 l10 s) → jGo E MX3_spread 1 Rr [3, 1, 1, 2, 0, 1, 1, 1, 1, 1, 1, 0, 0, 0, 0, 0, 0, 0] 48 [7, l1, l2, l3, 0, l5, l6, l7, l8, l9, l10, 0, 0, 0, 0, 0, 0, 0] ([]) s) : ∀ (l1 l2 l3 l5 l6 l7 l8 l9 l10 : Int) (s : jMem), jHo Rr (bX3_spread_48 k207 rec l1 l2 l3 l5 l6 l7 l8 l9 l10 s) → jGo E MX3_spread 1 Rr [3, 1, 1, 2, 0, 1, 1, 1, 1, 1, 1, 0, 0, 0, 0, 0, 0, 0] 48 [7, l1, l2, l3, 0, l5, l6, l7, l8, l9, l10, 0, 0, 0, 0, 0, 0, 0] ([]) s := by
  intro l1 l2 l3 l5 l6 l7 l8 l9 l10 s0 hF
  unfold bX3_spread_48 at hF
  refine ji_iload (pc := 48) l10 rfl rfl dX3_spread_48 (fun r1 => ?_)
  refine ji_iconst (pc := 50) dX3_spread_50 ?_
  refine ji_icmp_gt 207 (pc := 51) r1 (jRc rfl) hF dX3_spread_51 rfl (fun hF => ?_) (fun hF => ?_)
  · refine jg_norm [3, 1, 1, 2, 0, 1, 1, 1, 1, 1, 0, 0, 0, 0, 0, 0, 0, 0] [7, l1, l2, l3, 0, l5, l6, l7, l8, l9, 0, 0, 0, 0, 0, 0, 0, 0] rfl rfl ?_
    exact hk207 _ _ _ _ _ _ _ _ _ hF
  · refine ji_iload (pc := 54) l6 rfl rfl dX3_spread_54 (fun r2 => ?_)
    refine ji_iload (pc := 56) l9 rfl rfl dX3_spread_56 (fun r3 => ?_)
    refine ji_iadd (pc := 58)  hF dX3_spread_58 (fun x4 r_x4 hF => ?_)
    refine ji_iload (pc := 59) l10 rfl rfl dX3_spread_59 (fun r5 => ?_)
    refine ji_if_ne 68 (pc := 61) r5 hF dX3_spread_61 rfl (fun hF => ?_) (fun hF => ?_)
    · refine ji_iload (pc := 68) l10 rfl rfl dX3_spread_68 (fun r6 => ?_)
      refine ji_iconst (pc := 70) dX3_spread_70 ?_
      refine ji_iadd (pc := 71)  hF dX3_spread_71 (fun x7 r_x7 hF => ?_)
      refine jg_norm [3, 1, 1, 2, 0, 1, 1, 1, 1, 1, 1, 0, 0, 0, 0, 0, 0, 0] [7, l1, l2, l3, 0, l5, l6, l7, l8, l9, l10, 0, 0, 0, 0, 0, 0, 0] rfl rfl ?_
      exact obX3_spread_72 hrec _ _ _ _ _ _ _ _ _ _ _ _ r_x4 r_x7 hF
    · refine ji_iconst (pc := 64) dX3_spread_64 ?_
      refine jg_goto (pc := 65) 72 dX3_spread_65 rfl ?_
      refine jg_norm [3, 1, 1, 2, 0, 1, 1, 1, 1, 1, 1, 0, 0, 0, 0, 0, 0, 0] [7, l1, l2, l3, 0, l5, l6, l7, l8, l9, l10, 0, 0, 0, 0, 0, 0, 0] rfl rfl ?_
      exact obX3_spread_72 hrec _ _ _ _ _ _ _ _ _ _ _ _ r_x4 (jRc rfl) hF
theorem obX3_spread_48W {E : jEnv} {Rr : Int → jMem → Prop} {k207 : Int → Int → Int → Int → Int → Int → Int → Int → jMem → jO} (hk207 : ∀ (l1 l2 l3 l5 l6 l7 l8 l9 : Int) (s : jMem), jHo Rr (k207 l1 l2 l3 l5 l6 l7 l8 l9 s) → jGo E MX3_spread 1 Rr [3, 1, 1, 2, 0, 1, 1, 1, 1, 1, 0, 0, 0, 0, 0, 0, 0, 0] 207 [7, l1, l2, l3, 0, l5, l6, l7, l8, l9, 0, 0, 0, 0, 0, 0, 0, 0] ([]) s) : ∀ n : Nat, ∀ (l1 l2 l3 l5 l6 l7 l8 l9 l10 : Int) (s : jMem), jHo Rr (jIt (fun _ _ _ _ _ _ _ _ _ _ => none) (bX3_spread_48 k207) n l1 l2 l3 l5 l6 l7 l8 l9 l10 s) → jGo E MX3_spread 1 Rr [3, 1, 1, 2, 0, 1, 1, 1, 1, 1, 1, 0, 0, 0, 0, 0, 0, 0] 48 [7, l1, l2, l3, 0, l5, l6, l7, l8, l9, l10, 0, 0, 0, 0, 0, 0, 0] ([]) s := by
  intro n
  induction n with
  | zero => intro l1 l2 l3 l5 l6 l7 l8 l9 l10 s hF; exact jHo_none hF
  | succ n ih => exact obX3_spread_48 hk207 ih

set_option maxRecDepth 100000 in
set_option maxHeartbeats 4000000 in
theorem obX3_spread_207 {E : jEnv} {Rr : Int → jMem → Prop} {k38 : Int → Int → Int → Int → Int → Int → Int → Int → jMem → jO} (hk38 : ∀ (l1 l2 l3 l5 l6 l7 l8 l9 : Int) (s : jMem), jHo Rr (k38 l1 l2 l3 l5 l6 l7 l8 l9 s) → jGo E MX3_spread 1 Rr [3, 1, 1, 2, 0, 1, 1, 1, 1, 1, 0, 0, 0, 0, 0, 0, 0, 0] 38 [7, l1, l2, l3, 0, l5, l6, l7, l8, l9, 0, 0, 0, 0, 0, 0, 0, 0] ([]) s) : ∀ (l1 l2 l3 l5 l6 l7 l8 l9 : Int) (s : jMem), jHo Rr (bX3_spread_207 k38 l1 l2 l3 l5 l6 l7 l8 l9 s) → jGo E MX3_spread 1 Rr [3, 1, 1, 2, 0, 1, 1, 1, 1, 1, 0, 0, 0, 0, 0, 0, 0, 0] 207 [7, l1, l2, l3, 0, l5, l6, l7, l8, l9, 0, 0, 0, 0, 0, 0, 0, 0] ([]) s := by
  intro l1 l2 l3 l5 l6 l7 l8 l9 s0 hF
  unfold bX3_spread_207 at hF
  refine ji_iinc (pc := 207) l9 (fun w => [7, l1, l2, l3, 0, l5, l6, l7, l8, w, 0, 0, 0, 0, 0, 0, 0, 0]) rfl rfl rfl (fun _ => rfl) hF dX3_spread_207 (fun x1 r_x1 hF => ?_)
  refine jg_goto (pc := 210) 38 dX3_spread_210 rfl ?_
  refine jg_norm [3, 1, 1, 2, 0, 1, 1, 1, 1, 1, 0, 0, 0, 0, 0, 0, 0, 0] [7, l1, l2, l3, 0, l5, l6, l7, l8, x1, 0, 0, 0, 0, 0, 0, 0, 0] rfl rfl ?_
  exact hk38 _ _ _ _ _ _ _ _ _ hF
set_option maxRecDepth 100000 in
set_option maxHeartbeats 4000000 in
theorem obX3_spread_38 {E : jEnv} {Rr : Int → jMem → Prop} {rec : Int → Int → Int → Int → Int → Int → Int → Int → jMem → jO} (hrec : ∀ (l1 l2 l3 l5 l6 l7 l8 l9 : Int) (s : jMem), jHo Rr (rec l1 l2 l3 l5 l6 l7 l8 l9 s) → jGo E MX3_spread 1 Rr [3, 1, 1, 2, 0, 1, 1, 1, 1, 1, 0, 0, 0, 0, 0, 0, 0, 0] 38 [7, l1, l2, l3, 0, l5, l6, l7, l8, l9, 0, 0, 0, 0, 0, 0, 0, 0] ([]) s) : ∀ (l1 l2 l3 l5 l6 l7 l8 l9 : Int) (s : jMem), jHo Rr (bX3_spread_38 rec l1 l2 l3 l5 l6 l7 l8 l9 s) → jGo E MX3_spread 1 Rr [3, 1, 1, 2, 0, 1, 1, 1, 1, 1, 0, 0, 0, 0, 0, 0, 0, 0] 38 [7, l1, l2, l3, 0, l5, l6, l7, l8, l9, 0, 0, 0, 0, 0, 0, 0, 0] ([]) s := by
  intro l1 l2 l3 l5 l6 l7 l8 l9 s0 hF
  unfold bX3_spread_38 at hF
  refine ji_iload (pc := 38) l9 rfl rfl dX3_spread_38 (fun r1 => ?_)
  refine ji_iload (pc := 40) l8 rfl rfl dX3_spread_40 (fun r2 => ?_)
  refine ji_icmp_gt 213 (pc := 42) r1 r2 hF dX3_spread_42 rfl (fun hF => ?_) (fun hF => ?_)
  · exact ji_retv (pc := 213) rfl hF dX3_spread_213
  · refine ji_iconst (pc := 45) dX3_spread_45 ?_
    refine ji_istore (n := 10) (pc := 46) [3, 1, 1, 2, 0, 1, 1, 1, 1, 1, 1, 0, 0, 0, 0, 0, 0, 0] [7, l1, l2, l3, 0, l5, l6, l7, l8, l9, 0, 0, 0, 0, 0, 0, 0, 0] (jRc rfl) (Nat.le_of_ble_eq_true rfl) rfl rfl dX3_spread_46 ?_
    refine jg_norm [3, 1, 1, 2, 0, 1, 1, 1, 1, 1, 1, 0, 0, 0, 0, 0, 0, 0] [7, l1, l2, l3, 0, l5, l6, l7, l8, l9, 0, 0, 0, 0, 0, 0, 0, 0] rfl rfl ?_
    exact obX3_spread_48W (obX3_spread_207 hrec) 1000 _ _ _ _ _ _ _ _ _ _ hF
theorem obX3_spread_38W {E : jEnv} {Rr : Int → jMem → Prop} : ∀ n : Nat, ∀ (l1 l2 l3 l5 l6 l7 l8 l9 : Int) (s : jMem), jHo Rr (jIt (fun _ _ _ _ _ _ _ _ _ => none) (bX3_spread_38) n l1 l2 l3 l5 l6 l7 l8 l9 s) → jGo E MX3_spread 1 Rr [3, 1, 1, 2, 0, 1, 1, 1, 1, 1, 0, 0, 0, 0, 0, 0, 0, 0] 38 [7, l1, l2, l3, 0, l5, l6, l7, l8, l9, 0, 0, 0, 0, 0, 0, 0, 0] ([]) s := by
  intro n
  induction n with
  | zero => intro l1 l2 l3 l5 l6 l7 l8 l9 s hF; exact jHo_none hF
  | succ n ih => exact obX3_spread_38 ih

set_option maxRecDepth 100000 in
set_option maxHeartbeats 4000000 in
theorem obX3_spread_33 {E : jEnv} {Rr : Int → jMem → Prop} : ∀ (l1 l2 l3 l5 l6 l7 t0 : Int) (s : jMem), jR 1 t0 → jHo Rr (bX3_spread_33 l1 l2 l3 l5 l6 l7 t0 s) → jGo E MX3_spread 1 Rr [3, 1, 1, 2, 0, 1, 1, 1, 0, 0, 0, 0, 0, 0, 0, 0, 0, 0] 33 [7, l1, l2, l3, 0, l5, l6, l7, 0, 0, 0, 0, 0, 0, 0, 0, 0, 0] (jV E 1 t0 :: []) s := by
  intro l1 l2 l3 l5 l6 l7 t0 s0 r_t0 hF
  unfold bX3_spread_33 at hF
  refine ji_istore (n := 8) (pc := 33) [3, 1, 1, 2, 0, 1, 1, 1, 1, 0, 0, 0, 0, 0, 0, 0, 0, 0] [7, l1, l2, l3, 0, l5, l6, l7, t0, 0, 0, 0, 0, 0, 0, 0, 0, 0] r_t0 (Nat.le_of_ble_eq_true rfl) rfl rfl dX3_spread_33 ?_
  refine ji_iconst (pc := 35) dX3_spread_35 ?_
  refine ji_istore (n := 9) (pc := 36) [3, 1, 1, 2, 0, 1, 1, 1, 1, 1, 0, 0, 0, 0, 0, 0, 0, 0] [7, l1, l2, l3, 0, l5, l6, l7, t0, 0, 0, 0, 0, 0, 0, 0, 0, 0] (jRc rfl) (Nat.le_of_ble_eq_true rfl) rfl rfl dX3_spread_36 ?_
  refine jg_norm [3, 1, 1, 2, 0, 1, 1, 1, 1, 1, 0, 0, 0, 0, 0, 0, 0, 0] [7, l1, l2, l3, 0, l5, l6, l7, t0, 0, 0, 0, 0, 0, 0, 0, 0, 0] rfl rfl ?_
  exact obX3_spread_38W 1000 _ _ _ _ _ _ _ _ _ hF
set_option maxRecDepth 100000 in
set_option maxHeartbeats 4000000 in
theorem oX3_spread : jOk MX3_spread [3, 1, 1, 2, 1] 1 (jFn gX3_spread) := by
  refine jOk_fn (by decide +kernel) (Nat.le_of_ble_eq_true rfl) (by decide +kernel) (.inl rfl) ?_
  intro E vs s0 Rr hF ha
  obtain ⟨l0, t0, rfl, r_l0, ha⟩ := jRa_ci ha
  obtain ⟨l1, t1, rfl, r_l1, ha⟩ := jRa_ci ha
  obtain ⟨l2, t2, rfl, r_l2, ha⟩ := jRa_ci ha
  obtain ⟨l3, t3, rfl, r_l3, ha⟩ := jRa_ci ha
  obtain ⟨l5, t4, rfl, r_l5, ha⟩ := jRa_ci ha
  obtain rfl := jRa_ni ha
  replace hF : jHo Rr (jGd (l0 = 7) <| fX3_spread l1 l2 l3 l5 s0) := hF
  have hG := jHo_as hF
  clear hF
  obtain ⟨rfl, hF⟩ := hG
  refine jg_norm [3, 1, 1, 2, 0, 1, 0, 0, 0, 0, 0, 0, 0, 0, 0, 0, 0, 0] [7, l1, l2, l3, 0, l5, 0, 0, 0, 0, 0, 0, 0, 0, 0, 0, 0, 0] rfl rfl ?_
  unfold fX3_spread at hF
  refine ji_iload_n (n := 1) (pc := 0) l1 rfl rfl rfl dX3_spread_0 (fun r1 => ?_)
  refine ji_iconst (pc := 1) dX3_spread_1 ?_
  refine ji_idiv (pc := 2) (jRc rfl) hF dX3_spread_2 (fun x2 r_x2 hF => ?_)
  refine ji_iload_n (n := 1) (pc := 3) l1 rfl rfl rfl dX3_spread_3 (fun r3 => ?_)
  refine ji_iconst (pc := 4) dX3_spread_4 ?_
  refine ji_irem (pc := 5) (jRc rfl) hF dX3_spread_5 (fun x4 r_x4 hF => ?_)
  refine ji_iadd (pc := 6)  hF dX3_spread_6 (fun x5 r_x5 hF => ?_)
  refine ji_istore (n := 6) (pc := 7) [3, 1, 1, 2, 0, 1, 1, 0, 0, 0, 0, 0, 0, 0, 0, 0, 0, 0] [7, l1, l2, l3, 0, l5, x5, 0, 0, 0, 0, 0, 0, 0, 0, 0, 0, 0] r_x5 (Nat.le_of_ble_eq_true rfl) rfl rfl dX3_spread_7 ?_
  refine ji_iconst (pc := 9) dX3_spread_9 ?_
  refine ji_aload_n (n := 0) (pc := 10) 7 rfl rfl rfl dX3_spread_10 (fun r6 => ?_)
  refine ji_getr (pc := 11) 9 wfX3_17 (jRc3 rfl) jcl_7 jrf_7_2 dX3_spread_11 ?_
  refine ji_iload (pc := 14) l5 rfl rfl dX3_spread_14 (fun r7 => ?_)
  refine ji_iaload (pc := 16) (jRc3 rfl) r7 hF dX3_spread_16 (fun x8 r_x8 hF => ?_)
  refine ji_isub (pc := 17)  hF dX3_spread_17 (fun x9 r_x9 hF => ?_)
  refine ji_istore (n := 7) (pc := 18) [3, 1, 1, 2, 0, 1, 1, 1, 0, 0, 0, 0, 0, 0, 0, 0, 0, 0] [7, l1, l2, l3, 0, l5, x5, x9, 0, 0, 0, 0, 0, 0, 0, 0, 0, 0] r_x9 (Nat.le_of_ble_eq_true rfl) rfl rfl dX3_spread_18 ?_
  refine ji_iload (pc := 20) l5 rfl rfl dX3_spread_20 (fun r10 => ?_)
  refine ji_callSz (pc := 22) [l5] ([]) oX8_startsRun wlX3_169 wmX8_startsRun rfl rfl (Nat.le_of_ble_eq_true rfl) (jRaC r10 jRa0) rfl rfl (Nat.le_of_ble_eq_true rfl) hF dX3_spread_22 (fun x11 s12 r_x11 hF => ?_)
  refine ji_if_eq 32 (pc := 25) (jR51 r_x11) hF dX3_spread_25 rfl (fun hF => ?_) (fun hF => ?_)
  · refine ji_iconst (pc := 32) dX3_spread_32 ?_
    refine jg_norm [3, 1, 1, 2, 0, 1, 1, 1, 0, 0, 0, 0, 0, 0, 0, 0, 0, 0] [7, l1, l2, l3, 0, l5, x5, x9, 0, 0, 0, 0, 0, 0, 0, 0, 0, 0] rfl rfl ?_
    exact obX3_spread_33 _ _ _ _ _ _ _ _ (jRc rfl) hF
  · refine ji_iconst (pc := 28) dX3_spread_28 ?_
    refine jg_goto (pc := 29) 33 dX3_spread_29 rfl ?_
    refine jg_norm [3, 1, 1, 2, 0, 1, 1, 1, 0, 0, 0, 0, 0, 0, 0, 0, 0, 0] [7, l1, l2, l3, 0, l5, x5, x9, 0, 0, 0, 0, 0, 0, 0, 0, 0, 0] rfl rfl ?_
    exact obX3_spread_33 _ _ _ _ _ _ _ _ (jRc rfl) hF
def bX3_goThrough_90 (k47 : Int → Int → Int → Int → jMem → jO) (l1 l2 l3 l4 : Int) (s0 : jMem) : jO :=
jLet (j32 (l4 + 1)) fun x1 =>
k47 l1 l2 l3 x1 s0
def bX3_goThrough_47 (k96 : Int → Int → jMem → jO) (rec : Int → Int → Int → Int → jMem → jO) (l1 l2 l3 l4 : Int) (s0 : jMem) : jO :=
if 90 ≤ l4 then (
k96 l1 l2 s0)
else (
jGd ((0 : Int) ≤ l4 ∧ l4 < jjk 11) <| jLet (s0 11 l4) fun x4 =>
jLet (jcmp x4 1099511627776) fun x5 =>
if x5 = 0 then (
bX3_goThrough_90 rec l1 l2 l3 l4 s0)
else (
jGd (¬ (10 : Int) = 0) <| jLet (jdiv l4 10) fun x8 =>
jGd (¬ (10 : Int) = 0) <| jLet (jrem l4 10) fun x10 =>
jGd ((0 : Int) ≤ l4 ∧ l4 < jjk 11) <| jLet (s0 11 l4) fun x13 =>
jBd (fX3_spread x8 x10 x13 l3 s0) fun x15 s16 =>
bX3_goThrough_90 rec l1 l2 l3 l4 s16))
def bX3_goThrough_96 (k19 : Int → Int → jMem → jO) (l1 l2 : Int) (s0 : jMem) : jO :=
jGd ((0 : Int) ≤ 0 ∧ (0 : Int) ≤ 0 ∧ (0 : Int) ≤ 90 ∧ 0 + 90 ≤ jjk 12 ∧ 0 + 90 ≤ jjk 11 ∧ 0 < jjk 12 ∧ 0 < jjk 11) <| jLet (jCp s0 12 0 11 0 90) fun s3 =>
jLet (j32 (l2 + 1)) fun x4 =>
k19 l1 x4 s3
def bX3_goThrough_19 (rec : Int → Int → jMem → jO) (l1 l2 : Int) (s0 : jMem) : jO :=
jBd (fX8_lengthOf l1 s0) fun x3 s4 =>
if x3 ≤ l2 then (
jRet 0 s4)
else (
jBd (fJ7_fill_d0a16 12 1099511627776 s4) fun x6 s7 =>
jLet (j32 (l1 * 9)) fun x9 =>
jLet (j32 (x9 + l2)) fun x11 =>
jIt (fun _ _ _ _ _ => none) (bX3_goThrough_47 (bX3_goThrough_96 rec)) 1000 l1 l2 x11 0 s7)
def fX3_goThrough (l1 : Int) (s0 : jMem) : jO :=
jBd (fJ7_fill_d0a16 11 1099511627776 s0) fun x2 s3 =>
jGd ((0 : Int) ≤ 0 ∧ 0 < jjk 11) <| jLet (jU s3 11 0 0) fun s5 =>
jIt (fun _ _ _ => none) (bX3_goThrough_19) 1000 l1 0 s5
def gX3_goThrough (vs : List Int) (s : jMem) : jO := match vs with
  | [a0, a1] => jGd (a0 = 7) <| fX3_goThrough a1 s
  | _ => none
set_option maxRecDepth 100000 in
set_option maxHeartbeats 4000000 in
theorem obX3_goThrough_90 {E : jEnv} {Rr : Int → jMem → Prop} {k47 : Int → Int → Int → Int → jMem → jO} (hk47 : ∀ (l1 l2 l3 l4 : Int) (s : jMem), jHo Rr (k47 l1 l2 l3 l4 s) → jGo E MX3_goThrough 2 Rr [3, 1, 1, 1, 1] 47 [7, l1, l2, l3, l4] ([]) s) : ∀ (l1 l2 l3 l4 : Int) (s : jMem), jHo Rr (bX3_goThrough_90 k47 l1 l2 l3 l4 s) → jGo E MX3_goThrough 2 Rr [3, 1, 1, 1, 1] 90 [7, l1, l2, l3, l4] ([]) s := by
  intro l1 l2 l3 l4 s0 hF
  unfold bX3_goThrough_90 at hF
  refine ji_iinc (pc := 90) l4 (fun w => [7, l1, l2, l3, w]) rfl rfl rfl (fun _ => rfl) hF dX3_goThrough_90 (fun x1 r_x1 hF => ?_)
  refine jg_goto (pc := 93) 47 dX3_goThrough_93 rfl ?_
  refine jg_norm [3, 1, 1, 1, 1] [7, l1, l2, l3, x1] rfl rfl ?_
  exact hk47 _ _ _ _ _ hF
set_option maxRecDepth 100000 in
set_option maxHeartbeats 4000000 in
theorem obX3_goThrough_47 {E : jEnv} {Rr : Int → jMem → Prop} {k96 : Int → Int → jMem → jO} (hk96 : ∀ (l1 l2 : Int) (s : jMem), jHo Rr (k96 l1 l2 s) → jGo E MX3_goThrough 2 Rr [3, 1, 1, 0, 0] 96 [7, l1, l2, 0, 0] ([]) s) {rec : Int → Int → Int → Int → jMem → jO} (hrec : ∀ (l1 l2 l3 l4 : Int) (s : jMem), jHo Rr (rec l1 l2 l3 l4 s) → jGo E MX3_goThrough 2 Rr [3, 1, 1, 1, 1] 47 [7, l1, l2, l3, l4] ([]) s) : ∀ (l1 l2 l3 l4 : Int) (s : jMem), jHo Rr (bX3_goThrough_47 k96 rec l1 l2 l3 l4 s) → jGo E MX3_goThrough 2 Rr [3, 1, 1, 1, 1] 47 [7, l1, l2, l3, l4] ([]) s := by
  intro l1 l2 l3 l4 s0 hF
  unfold bX3_goThrough_47 at hF
  refine ji_iload (pc := 47) l4 rfl rfl dX3_goThrough_47 (fun r1 => ?_)
  refine jg_bipush (pc := 49) rfl dX3_goThrough_49 ?_
  refine ji_icmp_ge 96 (pc := 51) r1 (jRc rfl) hF dX3_goThrough_51 rfl (fun hF => ?_) (fun hF => ?_)
  · refine jg_norm [3, 1, 1, 0, 0] [7, l1, l2, 0, 0] rfl rfl ?_
    exact hk96 _ _ _ hF
  · refine ji_aload_n (n := 0) (pc := 54) 7 rfl rfl rfl dX3_goThrough_54 (fun r2 => ?_)
    refine ji_getr (pc := 55) 11 wfX3_24 (jRc3 rfl) jcl_7 jrf_7_4 dX3_goThrough_55 ?_
    refine ji_iload (pc := 58) l4 rfl rfl dX3_goThrough_58 (fun r3 => ?_)
    refine ji_laload (pc := 60) (jRc3 rfl) r3 hF dX3_goThrough_60 (fun x4 r_x4 hF => ?_)
    refine jg_ldc2 (n := 1099511627776) (pc := 61) wnX3_86 dX3_goThrough_61 ?_
    refine ji_lcmp (pc := 64) r_x4 (jRc2 rfl) hF dX3_goThrough_64 (fun x5 r_x5 hF => ?_)
    refine ji_if_eq 90 (pc := 65) r_x5 hF dX3_goThrough_65 rfl (fun hF => ?_) (fun hF => ?_)
    · refine jg_norm [3, 1, 1, 1, 1] [7, l1, l2, l3, l4] rfl rfl ?_
      exact obX3_goThrough_90 hrec _ _ _ _ _ hF
    · refine ji_aload_n (n := 0) (pc := 68) 7 rfl rfl rfl dX3_goThrough_68 (fun r6 => ?_)
      refine ji_iload (pc := 69) l4 rfl rfl dX3_goThrough_69 (fun r7 => ?_)
      refine jg_bipush (pc := 71) rfl dX3_goThrough_71 ?_
      refine ji_idiv (pc := 73) (jRc rfl) hF dX3_goThrough_73 (fun x8 r_x8 hF => ?_)
      refine ji_iload (pc := 74) l4 rfl rfl dX3_goThrough_74 (fun r9 => ?_)
      refine jg_bipush (pc := 76) rfl dX3_goThrough_76 ?_
      refine ji_irem (pc := 78) (jRc rfl) hF dX3_goThrough_78 (fun x10 r_x10 hF => ?_)
      refine ji_aload_n (n := 0) (pc := 79) 7 rfl rfl rfl dX3_goThrough_79 (fun r11 => ?_)
      refine ji_getr (pc := 80) 11 wfX3_24 (jRc3 rfl) jcl_7 jrf_7_4 dX3_goThrough_80 ?_
      refine ji_iload (pc := 83) l4 rfl rfl dX3_goThrough_83 (fun r12 => ?_)
      refine ji_laload (pc := 85) (jRc3 rfl) r12 hF dX3_goThrough_85 (fun x13 r_x13 hF => ?_)
      refine ji_iload_n (n := 3) (pc := 86) l3 rfl rfl rfl dX3_goThrough_86 (fun r14 => ?_)
      refine ji_callVv (pc := 87) 7 [x8, x10, x13, l3] ([]) oX3_spread wlX3_165 wmX3_spread rfl rfl (Nat.le_of_ble_eq_true rfl) (jRaC (jRc3 rfl) (jRaC r_x8 (jRaC r_x10 (jRaC r_x13 (jRaC r14 jRa0))))) rfl jcl_7 rfl (Nat.le_of_ble_eq_true rfl) hF dX3_goThrough_87 (fun x15 s16 hF => ?_)
      refine jg_norm [3, 1, 1, 1, 1] [7, l1, l2, l3, l4] rfl rfl ?_
      exact obX3_goThrough_90 hrec _ _ _ _ _ hF
theorem obX3_goThrough_47W {E : jEnv} {Rr : Int → jMem → Prop} {k96 : Int → Int → jMem → jO} (hk96 : ∀ (l1 l2 : Int) (s : jMem), jHo Rr (k96 l1 l2 s) → jGo E MX3_goThrough 2 Rr [3, 1, 1, 0, 0] 96 [7, l1, l2, 0, 0] ([]) s) : ∀ n : Nat, ∀ (l1 l2 l3 l4 : Int) (s : jMem), jHo Rr (jIt (fun _ _ _ _ _ => none) (bX3_goThrough_47 k96) n l1 l2 l3 l4 s) → jGo E MX3_goThrough 2 Rr [3, 1, 1, 1, 1] 47 [7, l1, l2, l3, l4] ([]) s := by
  intro n
  induction n with
  | zero => intro l1 l2 l3 l4 s hF; exact jHo_none hF
  | succ n ih => exact obX3_goThrough_47 hk96 ih

set_option maxRecDepth 100000 in
set_option maxHeartbeats 4000000 in
theorem obX3_goThrough_96 {E : jEnv} {Rr : Int → jMem → Prop} {k19 : Int → Int → jMem → jO} (hk19 : ∀ (l1 l2 : Int) (s : jMem), jHo Rr (k19 l1 l2 s) → jGo E MX3_goThrough 2 Rr [3, 1, 1, 0, 0] 19 [7, l1, l2, 0, 0] ([]) s) : ∀ (l1 l2 : Int) (s : jMem), jHo Rr (bX3_goThrough_96 k19 l1 l2 s) → jGo E MX3_goThrough 2 Rr [3, 1, 1, 0, 0] 96 [7, l1, l2, 0, 0] ([]) s := by
  intro l1 l2 s0 hF
  unfold bX3_goThrough_96 at hF
  refine ji_aload_n (n := 0) (pc := 96) 7 rfl rfl rfl dX3_goThrough_96 (fun r1 => ?_)
  refine ji_getr (pc := 97) 12 wfX3_27 (jRc3 rfl) jcl_7 jrf_7_5 dX3_goThrough_97 ?_
  refine ji_iconst (pc := 100) dX3_goThrough_100 ?_
  refine ji_aload_n (n := 0) (pc := 101) 7 rfl rfl rfl dX3_goThrough_101 (fun r2 => ?_)
  refine ji_getr (pc := 102) 11 wfX3_24 (jRc3 rfl) jcl_7 jrf_7_4 dX3_goThrough_102 ?_
  refine ji_iconst (pc := 105) dX3_goThrough_105 ?_
  refine jg_bipush (pc := 106) rfl dX3_goThrough_106 ?_
  refine ji_copyl (pc := 108) (jRc3 rfl) (jRc3 rfl) (jRc rfl) (jRc rfl) (jRc rfl) (Nat.le_of_ble_eq_true rfl) (Nat.le_of_ble_eq_true rfl) ⟨wlX3_95, wq_copy⟩ hF dX3_goThrough_108 (fun s3 hF => ?_)
  refine ji_iinc (pc := 111) l2 (fun w => [7, l1, w, 0, 0]) rfl rfl rfl (fun _ => rfl) hF dX3_goThrough_111 (fun x4 r_x4 hF => ?_)
  refine jg_goto (pc := 114) 19 dX3_goThrough_114 rfl ?_
  refine jg_norm [3, 1, 1, 0, 0] [7, l1, x4, 0, 0] rfl rfl ?_
  exact hk19 _ _ _ hF
set_option maxRecDepth 100000 in
set_option maxHeartbeats 4000000 in
theorem obX3_goThrough_19 {E : jEnv} {Rr : Int → jMem → Prop} {rec : Int → Int → jMem → jO} (hrec : ∀ (l1 l2 : Int) (s : jMem), jHo Rr (rec l1 l2 s) → jGo E MX3_goThrough 2 Rr [3, 1, 1, 0, 0] 19 [7, l1, l2, 0, 0] ([]) s) : ∀ (l1 l2 : Int) (s : jMem), jHo Rr (bX3_goThrough_19 rec l1 l2 s) → jGo E MX3_goThrough 2 Rr [3, 1, 1, 0, 0] 19 [7, l1, l2, 0, 0] ([]) s := by
  intro l1 l2 s0 hF
  unfold bX3_goThrough_19 at hF
  refine ji_iload_n (n := 2) (pc := 19) l2 rfl rfl rfl dX3_goThrough_19 (fun r1 => ?_)
  refine ji_iload_n (n := 1) (pc := 20) l1 rfl rfl rfl dX3_goThrough_20 (fun r2 => ?_)
  refine ji_callSi (pc := 21) [l1] (jV E 1 l2 :: []) oX8_lengthOf wlX3_160 wmX8_lengthOf rfl rfl (Nat.le_of_ble_eq_true rfl) (jRaC r2 jRa0) rfl rfl (Nat.le_of_ble_eq_true rfl) hF dX3_goThrough_21 (fun x3 s4 r_x3 hF => ?_)
  refine ji_icmp_ge 117 (pc := 24) r1 r_x3 hF dX3_goThrough_24 rfl (fun hF => ?_) (fun hF => ?_)
  · exact ji_retv (pc := 117) rfl hF dX3_goThrough_117
  · refine ji_aload_n (n := 0) (pc := 27) 7 rfl rfl rfl dX3_goThrough_27 (fun r5 => ?_)
    refine ji_getr (pc := 28) 12 wfX3_27 (jRc3 rfl) jcl_7 jrf_7_5 dX3_goThrough_28 ?_
    refine jg_ldc2 (n := 1099511627776) (pc := 31) wnX3_86 dX3_goThrough_31 ?_
    refine ji_callSv (pc := 34) [12, 1099511627776] ([]) oJ7_fill_d0a16 wlX3_62 wmJ7_fill_d0a16 rfl rfl (Nat.le_of_ble_eq_true rfl) (jRaC (jRc3 rfl) (jRaC (jRc2 rfl) jRa0)) rfl rfl (Nat.le_of_ble_eq_true rfl) hF dX3_goThrough_34 (fun x6 s7 hF => ?_)
    refine ji_iload_n (n := 1) (pc := 37) l1 rfl rfl rfl dX3_goThrough_37 (fun r8 => ?_)
    refine jg_bipush (pc := 38) rfl dX3_goThrough_38 ?_
    refine ji_imul (pc := 40)  hF dX3_goThrough_40 (fun x9 r_x9 hF => ?_)
    refine ji_iload_n (n := 2) (pc := 41) l2 rfl rfl rfl dX3_goThrough_41 (fun r10 => ?_)
    refine ji_iadd (pc := 42)  hF dX3_goThrough_42 (fun x11 r_x11 hF => ?_)
    refine ji_istore_n (n := 3) (pc := 43) [3, 1, 1, 1, 0] [7, l1, l2, x11, 0] rfl r_x11 (Nat.le_of_ble_eq_true rfl) rfl rfl dX3_goThrough_43 ?_
    refine ji_iconst (pc := 44) dX3_goThrough_44 ?_
    refine ji_istore (n := 4) (pc := 45) [3, 1, 1, 1, 1] [7, l1, l2, x11, 0] (jRc rfl) (Nat.le_of_ble_eq_true rfl) rfl rfl dX3_goThrough_45 ?_
    refine jg_norm [3, 1, 1, 1, 1] [7, l1, l2, x11, 0] rfl rfl ?_
    exact obX3_goThrough_47W (obX3_goThrough_96 hrec) 1000 _ _ _ _ _ hF
theorem obX3_goThrough_19W {E : jEnv} {Rr : Int → jMem → Prop} : ∀ n : Nat, ∀ (l1 l2 : Int) (s : jMem), jHo Rr (jIt (fun _ _ _ => none) (bX3_goThrough_19) n l1 l2 s) → jGo E MX3_goThrough 2 Rr [3, 1, 1, 0, 0] 19 [7, l1, l2, 0, 0] ([]) s := by
  intro n
  induction n with
  | zero => intro l1 l2 s hF; exact jHo_none hF
  | succ n ih => exact obX3_goThrough_19 ih

set_option maxRecDepth 100000 in
set_option maxHeartbeats 4000000 in
theorem oX3_goThrough : jOk MX3_goThrough [3, 1] 2 (jFn gX3_goThrough) := by
  refine jOk_fn (by decide +kernel) (Nat.le_of_ble_eq_true rfl) (by decide +kernel) (.inl rfl) ?_
  intro E vs s0 Rr hF ha
  obtain ⟨l0, t0, rfl, r_l0, ha⟩ := jRa_ci ha
  obtain ⟨l1, t1, rfl, r_l1, ha⟩ := jRa_ci ha
  obtain rfl := jRa_ni ha
  replace hF : jHo Rr (jGd (l0 = 7) <| fX3_goThrough l1 s0) := hF
  have hG := jHo_as hF
  clear hF
  obtain ⟨rfl, hF⟩ := hG
  refine jg_norm [3, 1, 0, 0, 0] [7, l1, 0, 0, 0] rfl rfl ?_
  unfold fX3_goThrough at hF
  refine ji_aload_n (n := 0) (pc := 0) 7 rfl rfl rfl dX3_goThrough_0 (fun r1 => ?_)
  refine ji_getr (pc := 1) 11 wfX3_24 (jRc3 rfl) jcl_7 jrf_7_4 dX3_goThrough_1 ?_
  refine jg_ldc2 (n := 1099511627776) (pc := 4) wnX3_86 dX3_goThrough_4 ?_
  refine ji_callSv (pc := 7) [11, 1099511627776] ([]) oJ7_fill_d0a16 wlX3_62 wmJ7_fill_d0a16 rfl rfl (Nat.le_of_ble_eq_true rfl) (jRaC (jRc3 rfl) (jRaC (jRc2 rfl) jRa0)) rfl rfl (Nat.le_of_ble_eq_true rfl) hF dX3_goThrough_7 (fun x2 s3 hF => ?_)
  refine ji_aload_n (n := 0) (pc := 10) 7 rfl rfl rfl dX3_goThrough_10 (fun r4 => ?_)
  refine ji_getr (pc := 11) 11 wfX3_24 (jRc3 rfl) jcl_7 jrf_7_4 dX3_goThrough_11 ?_
  refine ji_iconst (pc := 14) dX3_goThrough_14 ?_
  refine jg_lconst (n := 0) (pc := 15) rfl dX3_goThrough_15 ?_
  refine ji_lastore (pc := 16) (jRc3 rfl) (jRc rfl) (jRc2 rfl) hF dX3_goThrough_16 (fun s5 hF => ?_)
  refine ji_iconst (pc := 17) dX3_goThrough_17 ?_
  refine ji_istore_n (n := 2) (pc := 18) [3, 1, 1, 0, 0] [7, l1, 0, 0, 0] rfl (jRc rfl) (Nat.le_of_ble_eq_true rfl) rfl rfl dX3_goThrough_18 ?_
  refine jg_norm [3, 1, 1, 0, 0] [7, l1, 0, 0, 0] rfl rfl ?_
  exact obX3_goThrough_19W 1000 _ _ _ hF
def bX3_workOut_61 (l1 l4 : Int) (s0 : jMem) : jO :=
jLet (j32 (l4 * 10)) fun x3 =>
jLet (j32 (l1 * 10)) fun x6 =>
jGd ((0 : Int) ≤ x3 ∧ (0 : Int) ≤ x6 ∧ (0 : Int) ≤ 10 ∧ x3 + 10 ≤ jjk 15 ∧ x6 + 10 ≤ jjk 10 ∧ 0 < jjk 15 ∧ 0 < jjk 10) <| jLet (jCp s0 15 x3 10 x6 10) fun s7 =>
jRet 0 s7
def fX3_workOut (l1 : Int) (s0 : jMem) : jO :=
jBd (fX3_keyOf l1 s0) fun x3 s4 =>
jLet (j64 (x3 * (-7046029254386353131))) fun x6 =>
jLet (jushrl x6 55) fun x7 =>
jLet (j32 x7) fun x8 =>
jGd ((0 : Int) ≤ x8 ∧ x8 < jjk 14) <| jLet (s4 14 x8) fun x11 =>
jLet (jcmp x11 x3) fun x13 =>
if x13 = 0 then (
bX3_workOut_61 l1 x8 s4)
else (
jBd (fX3_goThrough l1 s4) fun x16 s17 =>
jGd ((0 : Int) ≤ x8 ∧ x8 < jjk 14) <| jLet (jU s17 14 x8 x3) fun s21 =>
jLet (j32 (x8 * 10)) fun x25 =>
jGd ((0 : Int) ≤ 0 ∧ (0 : Int) ≤ x25 ∧ (0 : Int) ≤ 10 ∧ 0 + 10 ≤ jjk 11 ∧ x25 + 10 ≤ jjk 15 ∧ 0 < jjk 11 ∧ 0 < jjk 15) <| jLet (jCp s21 11 0 15 x25 10) fun s26 =>
bX3_workOut_61 l1 x8 s26)
def gX3_workOut (vs : List Int) (s : jMem) : jO := match vs with
  | [a0, a1] => jGd (a0 = 7) <| fX3_workOut a1 s
  | _ => none
set_option maxRecDepth 100000 in
set_option maxHeartbeats 4000000 in
theorem obX3_workOut_61 {E : jEnv} {Rr : Int → jMem → Prop} : ∀ (l1 l4 : Int) (s : jMem), jHo Rr (bX3_workOut_61 l1 l4 s) → jGo E MX3_workOut 3 Rr [3, 1, 0, 0, 1] 61 [7, l1, 0, 0, l4] ([]) s := by
  intro l1 l4 s0 hF
  unfold bX3_workOut_61 at hF
  refine ji_aload_n (n := 0) (pc := 61) 7 rfl rfl rfl dX3_workOut_61 (fun r1 => ?_)
  refine ji_getr (pc := 62) 15 wfX3_36 (jRc3 rfl) jcl_7 jrf_7_8 dX3_workOut_62 ?_
  refine ji_iload (pc := 65) l4 rfl rfl dX3_workOut_65 (fun r2 => ?_)
  refine jg_bipush (pc := 67) rfl dX3_workOut_67 ?_
  refine ji_imul (pc := 69)  hF dX3_workOut_69 (fun x3 r_x3 hF => ?_)
  refine ji_aload_n (n := 0) (pc := 70) 7 rfl rfl rfl dX3_workOut_70 (fun r4 => ?_)
  refine ji_getr (pc := 71) 10 wfX3_20 (jRc3 rfl) jcl_7 jrf_7_3 dX3_workOut_71 ?_
  refine ji_iload_n (n := 1) (pc := 74) l1 rfl rfl rfl dX3_workOut_74 (fun r5 => ?_)
  refine jg_bipush (pc := 75) rfl dX3_workOut_75 ?_
  refine ji_imul (pc := 77)  hF dX3_workOut_77 (fun x6 r_x6 hF => ?_)
  refine jg_bipush (pc := 78) rfl dX3_workOut_78 ?_
  refine ji_copyl (pc := 80) (jRc3 rfl) (jRc3 rfl) r_x3 r_x6 (jRc rfl) (Nat.le_of_ble_eq_true rfl) (Nat.le_of_ble_eq_true rfl) ⟨wlX3_95, wq_copy⟩ hF dX3_workOut_80 (fun s7 hF => ?_)
  exact ji_retv (pc := 83) rfl hF dX3_workOut_83
set_option maxRecDepth 100000 in
set_option maxHeartbeats 4000000 in
theorem oX3_workOut : jOk MX3_workOut [3, 1] 3 (jFn gX3_workOut) := by
  refine jOk_fn (by decide +kernel) (Nat.le_of_ble_eq_true rfl) (by decide +kernel) (.inl rfl) ?_
  intro E vs s0 Rr hF ha
  obtain ⟨l0, t0, rfl, r_l0, ha⟩ := jRa_ci ha
  obtain ⟨l1, t1, rfl, r_l1, ha⟩ := jRa_ci ha
  obtain rfl := jRa_ni ha
  replace hF : jHo Rr (jGd (l0 = 7) <| fX3_workOut l1 s0) := hF
  have hG := jHo_as hF
  clear hF
  obtain ⟨rfl, hF⟩ := hG
  refine jg_norm [3, 1, 0, 0, 0] [7, l1, 0, 0, 0] rfl rfl ?_
  unfold fX3_workOut at hF
  refine ji_aload_n (n := 0) (pc := 0) 7 rfl rfl rfl dX3_workOut_0 (fun r1 => ?_)
  refine ji_iload_n (n := 1) (pc := 1) l1 rfl rfl rfl dX3_workOut_1 (fun r2 => ?_)
  refine ji_callVl (pc := 2) 7 [l1] ([]) oX3_keyOf wlX3_151 wmX3_keyOf rfl rfl (Nat.le_of_ble_eq_true rfl) (jRaC (jRc3 rfl) (jRaC r2 jRa0)) rfl jcl_7 rfl (Nat.le_of_ble_eq_true rfl) hF dX3_workOut_2 (fun x3 s4 r_x3 hF => ?_)
  refine ji_lstore_n (n := 2) (pc := 5) [3, 1, 2, 0, 0] [7, l1, x3, 0, 0] rfl r_x3 (Nat.le_of_ble_eq_true rfl) rfl rfl dX3_workOut_5 ?_
  refine ji_lload_n (n := 2) (pc := 6) x3 rfl rfl rfl dX3_workOut_6 (fun r5 => ?_)
  refine jg_ldc2 (n := (-7046029254386353131)) (pc := 7) wnX3_155 dX3_workOut_7 ?_
  refine ji_lmul (pc := 10)  hF dX3_workOut_10 (fun x6 r_x6 hF => ?_)
  refine jg_bipush (pc := 11) rfl dX3_workOut_11 ?_
  refine ji_lushr (pc := 13)  hF dX3_workOut_13 (fun x7 r_x7 hF => ?_)
  refine ji_l2i (pc := 14)  hF dX3_workOut_14 (fun x8 r_x8 hF => ?_)
  refine ji_istore (n := 4) (pc := 15) [3, 1, 2, 0, 1] [7, l1, x3, 0, x8] r_x8 (Nat.le_of_ble_eq_true rfl) rfl rfl dX3_workOut_15 ?_
  refine ji_aload_n (n := 0) (pc := 17) 7 rfl rfl rfl dX3_workOut_17 (fun r9 => ?_)
  refine ji_getr (pc := 18) 14 wfX3_33 (jRc3 rfl) jcl_7 jrf_7_7 dX3_workOut_18 ?_
  refine ji_iload (pc := 21) x8 rfl rfl dX3_workOut_21 (fun r10 => ?_)
  refine ji_laload (pc := 23) (jRc3 rfl) r10 hF dX3_workOut_23 (fun x11 r_x11 hF => ?_)
  refine ji_lload_n (n := 2) (pc := 24) x3 rfl rfl rfl dX3_workOut_24 (fun r12 => ?_)
  refine ji_lcmp (pc := 25) r_x11 r12 hF dX3_workOut_25 (fun x13 r_x13 hF => ?_)
  refine ji_if_eq 61 (pc := 26) r_x13 hF dX3_workOut_26 rfl (fun hF => ?_) (fun hF => ?_)
  · refine jg_norm [3, 1, 0, 0, 1] [7, l1, 0, 0, x8] rfl rfl ?_
    exact obX3_workOut_61 _ _ _ hF
  · refine ji_aload_n (n := 0) (pc := 29) 7 rfl rfl rfl dX3_workOut_29 (fun r14 => ?_)
    refine ji_iload_n (n := 1) (pc := 30) l1 rfl rfl rfl dX3_workOut_30 (fun r15 => ?_)
    refine ji_callVv (pc := 31) 7 [l1] ([]) oX3_goThrough wlX3_157 wmX3_goThrough rfl rfl (Nat.le_of_ble_eq_true rfl) (jRaC (jRc3 rfl) (jRaC r15 jRa0)) rfl jcl_7 rfl (Nat.le_of_ble_eq_true rfl) hF dX3_workOut_31 (fun x16 s17 hF => ?_)
    refine ji_aload_n (n := 0) (pc := 34) 7 rfl rfl rfl dX3_workOut_34 (fun r18 => ?_)
    refine ji_getr (pc := 35) 14 wfX3_33 (jRc3 rfl) jcl_7 jrf_7_7 dX3_workOut_35 ?_
    refine ji_iload (pc := 38) x8 rfl rfl dX3_workOut_38 (fun r19 => ?_)
    refine ji_lload_n (n := 2) (pc := 40) x3 rfl rfl rfl dX3_workOut_40 (fun r20 => ?_)
    refine ji_lastore (pc := 41) (jRc3 rfl) r19 r20 hF dX3_workOut_41 (fun s21 hF => ?_)
    refine ji_aload_n (n := 0) (pc := 42) 7 rfl rfl rfl dX3_workOut_42 (fun r22 => ?_)
    refine ji_getr (pc := 43) 11 wfX3_24 (jRc3 rfl) jcl_7 jrf_7_4 dX3_workOut_43 ?_
    refine ji_iconst (pc := 46) dX3_workOut_46 ?_
    refine ji_aload_n (n := 0) (pc := 47) 7 rfl rfl rfl dX3_workOut_47 (fun r23 => ?_)
    refine ji_getr (pc := 48) 15 wfX3_36 (jRc3 rfl) jcl_7 jrf_7_8 dX3_workOut_48 ?_
    refine ji_iload (pc := 51) x8 rfl rfl dX3_workOut_51 (fun r24 => ?_)
    refine jg_bipush (pc := 53) rfl dX3_workOut_53 ?_
    refine ji_imul (pc := 55)  hF dX3_workOut_55 (fun x25 r_x25 hF => ?_)
    refine jg_bipush (pc := 56) rfl dX3_workOut_56 ?_
    refine ji_copyl (pc := 58) (jRc3 rfl) (jRc3 rfl) (jRc rfl) r_x25 (jRc rfl) (Nat.le_of_ble_eq_true rfl) (Nat.le_of_ble_eq_true rfl) ⟨wlX3_95, wq_copy⟩ hF dX3_workOut_58 (fun s26 hF => ?_)
    refine jg_norm [3, 1, 0, 0, 1] [7, l1, 0, 0, x8] rfl rfl ?_
    exact obX3_workOut_61 _ _ _ hF
def bX3_leastWith_102 (k10 : Int → Int → Int → Int → jMem → jO) (l1 l2 l3 l5 : Int) (s0 : jMem) : jO :=
jLet (j32 (l5 + 1)) fun x1 =>
k10 l1 l2 l3 x1 s0
def bX3_leastWith_48 (k10 : Int → Int → Int → Int → jMem → jO) (l1 l2 l3 l5 l6 t0 : Int) (s0 : jMem) : jO :=
jLet (jcmp l6 1099511627776) fun x2 =>
if x2 = 0 then (
bX3_leastWith_102 k10 l1 l2 l3 l5 s0)
else (
if t0 = 0 then (
jLet (jandl l6 17179869183) fun x5 =>
jLet (j32 (9 * l1)) fun x7 =>
jLet (jshll x5 x7) fun x8 =>
jLet (j32 (l2 - l5)) fun x14 =>
jGd ((0 : Int) ≤ x14 ∧ x14 < jjk 13) <| jLet (s0 13 x14) fun x15 =>
jLet (jandl l6 (-17179869184)) fun x17 =>
jLet (j64 (x15 + x17)) fun x18 =>
jLet (j64 (x18 + x8)) fun x20 =>
jBd (fX3_less l3 x20 s0) fun x21 s22 =>
bX3_leastWith_102 k10 l1 l2 x21 l5 s22)
else (
bX3_leastWith_102 k10 l1 l2 l3 l5 s0))
def bX3_leastWith_10 (rec : Int → Int → Int → Int → jMem → jO) (l1 l2 l3 l5 : Int) (s0 : jMem) : jO :=
if l2 < l5 then (
jRet l3 s0)
else (
jLet (j32 (l1 * 10)) fun x6 =>
jLet (j32 (x6 + l5)) fun x8 =>
jGd ((0 : Int) ≤ x8 ∧ x8 < jjk 10) <| jLet (s0 10 x8) fun x9 =>
jLet (j32 (l2 - l5)) fun x12 =>
jLet (jand x12 l5) fun x14 =>
jLet (jand x14 1) fun x15 =>
if x15 = 1 then (
bX3_leastWith_48 rec l1 l2 l3 l5 x9 1 s0)
else (
bX3_leastWith_48 rec l1 l2 l3 l5 x9 0 s0))
def fX3_leastWith (l1 l2 : Int) (s0 : jMem) : jO :=
jGd ((0 : Int) ≤ l2 ∧ l2 < jjk 13) <| jLet (s0 13 l2) fun x3 =>
jIt (fun _ _ _ _ _ => none) (bX3_leastWith_10) 1000 l1 l2 x3 1 s0
def gX3_leastWith (vs : List Int) (s : jMem) : jO := match vs with
  | [a0, a1, a2] => jGd (a0 = 7) <| fX3_leastWith a1 a2 s
  | _ => none
set_option maxRecDepth 100000 in
set_option maxHeartbeats 4000000 in
theorem obX3_leastWith_102 {E : jEnv} {Rr : Int → jMem → Prop} {k10 : Int → Int → Int → Int → jMem → jO} (hk10 : ∀ (l1 l2 l3 l5 : Int) (s : jMem), jHo Rr (k10 l1 l2 l3 l5 s) → jGo E MX3_leastWith 1 Rr [3, 1, 1, 2, 0, 1, 0, 0, 0, 0, 0] 10 [7, l1, l2, l3, 0, l5, 0, 0, 0, 0, 0] ([]) s) : ∀ (l1 l2 l3 l5 : Int) (s : jMem), jHo Rr (bX3_leastWith_102 k10 l1 l2 l3 l5 s) → jGo E MX3_leastWith 1 Rr [3, 1, 1, 2, 0, 1, 0, 0, 0, 0, 0] 102 [7, l1, l2, l3, 0, l5, 0, 0, 0, 0, 0] ([]) s := by
  intro l1 l2 l3 l5 s0 hF
  unfold bX3_leastWith_102 at hF
  refine ji_iinc (pc := 102) l5 (fun w => [7, l1, l2, l3, 0, w, 0, 0, 0, 0, 0]) rfl rfl rfl (fun _ => rfl) hF dX3_leastWith_102 (fun x1 r_x1 hF => ?_)
  refine jg_goto (pc := 105) 10 dX3_leastWith_105 rfl ?_
  refine jg_norm [3, 1, 1, 2, 0, 1, 0, 0, 0, 0, 0] [7, l1, l2, l3, 0, x1, 0, 0, 0, 0, 0] rfl rfl ?_
  exact hk10 _ _ _ _ _ hF
set_option maxRecDepth 100000 in
set_option maxHeartbeats 4000000 in
theorem obX3_leastWith_48 {E : jEnv} {Rr : Int → jMem → Prop} {k10 : Int → Int → Int → Int → jMem → jO} (hk10 : ∀ (l1 l2 l3 l5 : Int) (s : jMem), jHo Rr (k10 l1 l2 l3 l5 s) → jGo E MX3_leastWith 1 Rr [3, 1, 1, 2, 0, 1, 0, 0, 0, 0, 0] 10 [7, l1, l2, l3, 0, l5, 0, 0, 0, 0, 0] ([]) s) : ∀ (l1 l2 l3 l5 l6 t0 : Int) (s : jMem), jR 1 t0 → jHo Rr (bX3_leastWith_48 k10 l1 l2 l3 l5 l6 t0 s) → jGo E MX3_leastWith 1 Rr [3, 1, 1, 2, 0, 1, 2, 0, 0, 0, 0] 48 [7, l1, l2, l3, 0, l5, l6, 0, 0, 0, 0] (jV E 1 t0 :: []) s := by
  intro l1 l2 l3 l5 l6 t0 s0 r_t0 hF
  unfold bX3_leastWith_48 at hF
  refine ji_istore (n := 8) (pc := 48) [3, 1, 1, 2, 0, 1, 2, 0, 1, 0, 0] [7, l1, l2, l3, 0, l5, l6, 0, t0, 0, 0] r_t0 (Nat.le_of_ble_eq_true rfl) rfl rfl dX3_leastWith_48 ?_
  refine ji_lload (pc := 50) l6 rfl rfl dX3_leastWith_50 (fun r1 => ?_)
  refine jg_ldc2 (n := 1099511627776) (pc := 52) wnX3_86 dX3_leastWith_52 ?_
  refine ji_lcmp (pc := 55) r1 (jRc2 rfl) hF dX3_leastWith_55 (fun x2 r_x2 hF => ?_)
  refine ji_if_eq 102 (pc := 56) r_x2 hF dX3_leastWith_56 rfl (fun hF => ?_) (fun hF => ?_)
  · refine jg_norm [3, 1, 1, 2, 0, 1, 0, 0, 0, 0, 0] [7, l1, l2, l3, 0, l5, 0, 0, 0, 0, 0] rfl rfl ?_
    exact obX3_leastWith_102 hk10 _ _ _ _ _ hF
  · refine ji_iload (pc := 59) t0 rfl rfl dX3_leastWith_59 (fun r3 => ?_)
    refine ji_if_ne 102 (pc := 61) r3 hF dX3_leastWith_61 rfl (fun hF => ?_) (fun hF => ?_)
    · refine jg_norm [3, 1, 1, 2, 0, 1, 0, 0, 0, 0, 0] [7, l1, l2, l3, 0, l5, 0, 0, 0, 0, 0] rfl rfl ?_
      exact obX3_leastWith_102 hk10 _ _ _ _ _ hF
    · refine ji_lload (pc := 64) l6 rfl rfl dX3_leastWith_64 (fun r4 => ?_)
      refine jg_ldc2 (n := 17179869183) (pc := 66) wnX3_109 dX3_leastWith_66 ?_
      refine ji_land (pc := 69)  hF dX3_leastWith_69 (fun x5 r_x5 hF => ?_)
      refine jg_bipush (pc := 70) rfl dX3_leastWith_70 ?_
      refine ji_iload_n (n := 1) (pc := 72) l1 rfl rfl rfl dX3_leastWith_72 (fun r6 => ?_)
      refine ji_imul (pc := 73)  hF dX3_leastWith_73 (fun x7 r_x7 hF => ?_)
      refine ji_lshl (pc := 74)  hF dX3_leastWith_74 (fun x8 r_x8 hF => ?_)
      refine ji_lstore (n := 9) (pc := 75) [3, 1, 1, 2, 0, 1, 2, 0, 1, 2, 0] [7, l1, l2, l3, 0, l5, l6, 0, t0, x8, 0] r_x8 (Nat.le_of_ble_eq_true rfl) rfl rfl dX3_leastWith_75 ?_
      refine ji_aload_n (n := 0) (pc := 77) 7 rfl rfl rfl dX3_leastWith_77 (fun r9 => ?_)
      refine ji_lload_n (n := 3) (pc := 78) l3 rfl rfl rfl dX3_leastWith_78 (fun r10 => ?_)
      refine ji_aload_n (n := 0) (pc := 79) 7 rfl rfl rfl dX3_leastWith_79 (fun r11 => ?_)
      refine ji_getr (pc := 80) 13 wfX3_30 (jRc3 rfl) jcl_7 jrf_7_6 dX3_leastWith_80 ?_
      refine ji_iload_n (n := 2) (pc := 83) l2 rfl rfl rfl dX3_leastWith_83 (fun r12 => ?_)
      refine ji_iload (pc := 84) l5 rfl rfl dX3_leastWith_84 (fun r13 => ?_)
      refine ji_isub (pc := 86)  hF dX3_leastWith_86 (fun x14 r_x14 hF => ?_)
      refine ji_laload (pc := 87) (jRc3 rfl) r_x14 hF dX3_leastWith_87 (fun x15 r_x15 hF => ?_)
      refine ji_lload (pc := 88) l6 rfl rfl dX3_leastWith_88 (fun r16 => ?_)
      refine jg_ldc2 (n := (-17179869184)) (pc := 90) wnX3_145 dX3_leastWith_90 ?_
      refine ji_land (pc := 93)  hF dX3_leastWith_93 (fun x17 r_x17 hF => ?_)
      refine ji_ladd (pc := 94)  hF dX3_leastWith_94 (fun x18 r_x18 hF => ?_)
      refine ji_lload (pc := 95) x8 rfl rfl dX3_leastWith_95 (fun r19 => ?_)
      refine ji_ladd (pc := 97)  hF dX3_leastWith_97 (fun x20 r_x20 hF => ?_)
      refine ji_callVl (pc := 98) 7 [l3, x20] ([]) oX3_less wlX3_147 wmX3_less rfl rfl (Nat.le_of_ble_eq_true rfl) (jRaC (jRc3 rfl) (jRaC r10 (jRaC r_x20 jRa0))) rfl jcl_7 rfl (Nat.le_of_ble_eq_true rfl) hF dX3_leastWith_98 (fun x21 s22 r_x21 hF => ?_)
      refine ji_lstore_n (n := 3) (pc := 101) [3, 1, 1, 2, 0, 1, 2, 0, 1, 2, 0] [7, l1, l2, x21, 0, l5, l6, 0, t0, x8, 0] rfl r_x21 (Nat.le_of_ble_eq_true rfl) rfl rfl dX3_leastWith_101 ?_
      refine jg_norm [3, 1, 1, 2, 0, 1, 0, 0, 0, 0, 0] [7, l1, l2, x21, 0, l5, 0, 0, 0, 0, 0] rfl rfl ?_
      exact obX3_leastWith_102 hk10 _ _ _ _ _ hF
set_option maxRecDepth 100000 in
set_option maxHeartbeats 4000000 in
theorem obX3_leastWith_10 {E : jEnv} {Rr : Int → jMem → Prop} {rec : Int → Int → Int → Int → jMem → jO} (hrec : ∀ (l1 l2 l3 l5 : Int) (s : jMem), jHo Rr (rec l1 l2 l3 l5 s) → jGo E MX3_leastWith 1 Rr [3, 1, 1, 2, 0, 1, 0, 0, 0, 0, 0] 10 [7, l1, l2, l3, 0, l5, 0, 0, 0, 0, 0] ([]) s) : ∀ (l1 l2 l3 l5 : Int) (s : jMem), jHo Rr (bX3_leastWith_10 rec l1 l2 l3 l5 s) → jGo E MX3_leastWith 1 Rr [3, 1, 1, 2, 0, 1, 0, 0, 0, 0, 0] 10 [7, l1, l2, l3, 0, l5, 0, 0, 0, 0, 0] ([]) s := by
  intro l1 l2 l3 l5 s0 hF
  unfold bX3_leastWith_10 at hF
  refine ji_iload (pc := 10) l5 rfl rfl dX3_leastWith_10 (fun r1 => ?_)
  refine ji_iload_n (n := 2) (pc := 12) l2 rfl rfl rfl dX3_leastWith_12 (fun r2 => ?_)
  refine ji_icmp_gt 108 (pc := 13) r1 r2 hF dX3_leastWith_13 rfl (fun hF => ?_) (fun hF => ?_)
  · refine ji_lload_n (n := 3) (pc := 108) l3 rfl rfl rfl dX3_leastWith_108 (fun r3 => ?_)
    exact ji_retl (pc := 109) rfl r3 hF dX3_leastWith_109
  · refine ji_aload_n (n := 0) (pc := 16) 7 rfl rfl rfl dX3_leastWith_16 (fun r4 => ?_)
    refine ji_getr (pc := 17) 10 wfX3_20 (jRc3 rfl) jcl_7 jrf_7_3 dX3_leastWith_17 ?_
    refine ji_iload_n (n := 1) (pc := 20) l1 rfl rfl rfl dX3_leastWith_20 (fun r5 => ?_)
    refine jg_bipush (pc := 21) rfl dX3_leastWith_21 ?_
    refine ji_imul (pc := 23)  hF dX3_leastWith_23 (fun x6 r_x6 hF => ?_)
    refine ji_iload (pc := 24) l5 rfl rfl dX3_leastWith_24 (fun r7 => ?_)
    refine ji_iadd (pc := 26)  hF dX3_leastWith_26 (fun x8 r_x8 hF => ?_)
    refine ji_laload (pc := 27) (jRc3 rfl) r_x8 hF dX3_leastWith_27 (fun x9 r_x9 hF => ?_)
    refine ji_lstore (n := 6) (pc := 28) [3, 1, 1, 2, 0, 1, 2, 0, 0, 0, 0] [7, l1, l2, l3, 0, l5, x9, 0, 0, 0, 0] r_x9 (Nat.le_of_ble_eq_true rfl) rfl rfl dX3_leastWith_28 ?_
    refine ji_iload_n (n := 2) (pc := 30) l2 rfl rfl rfl dX3_leastWith_30 (fun r10 => ?_)
    refine ji_iload (pc := 31) l5 rfl rfl dX3_leastWith_31 (fun r11 => ?_)
    refine ji_isub (pc := 33)  hF dX3_leastWith_33 (fun x12 r_x12 hF => ?_)
    refine ji_iload (pc := 34) l5 rfl rfl dX3_leastWith_34 (fun r13 => ?_)
    refine ji_iand (pc := 36)  hF dX3_leastWith_36 (fun x14 r_x14 hF => ?_)
    refine ji_iconst (pc := 37) dX3_leastWith_37 ?_
    refine ji_iand (pc := 38)  hF dX3_leastWith_38 (fun x15 r_x15 hF => ?_)
    refine ji_iconst (pc := 39) dX3_leastWith_39 ?_
    refine ji_icmp_ne 47 (pc := 40) r_x15 (jRc rfl) hF dX3_leastWith_40 rfl (fun hF => ?_) (fun hF => ?_)
    · refine ji_iconst (pc := 47) dX3_leastWith_47 ?_
      refine jg_norm [3, 1, 1, 2, 0, 1, 2, 0, 0, 0, 0] [7, l1, l2, l3, 0, l5, x9, 0, 0, 0, 0] rfl rfl ?_
      exact obX3_leastWith_48 hrec _ _ _ _ _ _ _ (jRc rfl) hF
    · refine ji_iconst (pc := 43) dX3_leastWith_43 ?_
      refine jg_goto (pc := 44) 48 dX3_leastWith_44 rfl ?_
      refine jg_norm [3, 1, 1, 2, 0, 1, 2, 0, 0, 0, 0] [7, l1, l2, l3, 0, l5, x9, 0, 0, 0, 0] rfl rfl ?_
      exact obX3_leastWith_48 hrec _ _ _ _ _ _ _ (jRc rfl) hF
theorem obX3_leastWith_10W {E : jEnv} {Rr : Int → jMem → Prop} : ∀ n : Nat, ∀ (l1 l2 l3 l5 : Int) (s : jMem), jHo Rr (jIt (fun _ _ _ _ _ => none) (bX3_leastWith_10) n l1 l2 l3 l5 s) → jGo E MX3_leastWith 1 Rr [3, 1, 1, 2, 0, 1, 0, 0, 0, 0, 0] 10 [7, l1, l2, l3, 0, l5, 0, 0, 0, 0, 0] ([]) s := by
  intro n
  induction n with
  | zero => intro l1 l2 l3 l5 s hF; exact jHo_none hF
  | succ n ih => exact obX3_leastWith_10 ih

set_option maxRecDepth 100000 in
set_option maxHeartbeats 4000000 in
theorem oX3_leastWith : jOk MX3_leastWith [3, 1, 1] 1 (jFn gX3_leastWith) := by
  refine jOk_fn (by decide +kernel) (Nat.le_of_ble_eq_true rfl) (by decide +kernel) (.inr (.inr (.inl rfl))) ?_
  intro E vs s0 Rr hF ha
  obtain ⟨l0, t0, rfl, r_l0, ha⟩ := jRa_ci ha
  obtain ⟨l1, t1, rfl, r_l1, ha⟩ := jRa_ci ha
  obtain ⟨l2, t2, rfl, r_l2, ha⟩ := jRa_ci ha
  obtain rfl := jRa_ni ha
  replace hF : jHo Rr (jGd (l0 = 7) <| fX3_leastWith l1 l2 s0) := hF
  have hG := jHo_as hF
  clear hF
  obtain ⟨rfl, hF⟩ := hG
  refine jg_norm [3, 1, 1, 0, 0, 0, 0, 0, 0, 0, 0] [7, l1, l2, 0, 0, 0, 0, 0, 0, 0, 0] rfl rfl ?_
  unfold fX3_leastWith at hF
  refine ji_aload_n (n := 0) (pc := 0) 7 rfl rfl rfl dX3_leastWith_0 (fun r1 => ?_)
  refine ji_getr (pc := 1) 13 wfX3_30 (jRc3 rfl) jcl_7 jrf_7_6 dX3_leastWith_1 ?_
  refine ji_iload_n (n := 2) (pc := 4) l2 rfl rfl rfl dX3_leastWith_4 (fun r2 => ?_)
  refine ji_laload (pc := 5) (jRc3 rfl) r2 hF dX3_leastWith_5 (fun x3 r_x3 hF => ?_)
  refine ji_lstore_n (n := 3) (pc := 6) [3, 1, 1, 2, 0, 0, 0, 0, 0, 0, 0] [7, l1, l2, x3, 0, 0, 0, 0, 0, 0, 0] rfl r_x3 (Nat.le_of_ble_eq_true rfl) rfl rfl dX3_leastWith_6 ?_
  refine ji_iconst (pc := 7) dX3_leastWith_7 ?_
  refine ji_istore (n := 5) (pc := 8) [3, 1, 1, 2, 0, 1, 0, 0, 0, 0, 0] [7, l1, l2, x3, 0, 1, 0, 0, 0, 0, 0] (jRc rfl) (Nat.le_of_ble_eq_true rfl) rfl rfl dX3_leastWith_8 ?_
  refine jg_norm [3, 1, 1, 2, 0, 1, 0, 0, 0, 0, 0] [7, l1, l2, x3, 0, 1, 0, 0, 0, 0, 0] rfl rfl ?_
  exact obX3_leastWith_10W 1000 _ _ _ _ _ hF
def bX3_addRow_9 (rec : Int → Int → jMem → jO) (l1 l2 : Int) (s0 : jMem) : jO :=
if l2 ≤ 0 then (
jRet 0 s0)
else (
jBd (fX3_leastWith l1 l2 s0) fun x7 s8 =>
jGd ((0 : Int) ≤ l2 ∧ l2 < jjk 13) <| jLet (jU s8 13 l2 x7) fun s9 =>
jLet (j32 (l2 + (-1))) fun x10 =>
rec l1 x10 s9)
def fX3_addRow (l1 : Int) (s0 : jMem) : jO :=
jLet (s0 7 10) fun x2 =>
jLet (j32 (2 * x2)) fun x3 =>
jLet (j32 (x3 + 1)) fun x4 =>
jIt (fun _ _ _ => none) (bX3_addRow_9) 1000 l1 x4 s0
def gX3_addRow (vs : List Int) (s : jMem) : jO := match vs with
  | [a0, a1] => jGd (a0 = 7) <| fX3_addRow a1 s
  | _ => none
set_option maxRecDepth 100000 in
set_option maxHeartbeats 4000000 in
theorem obX3_addRow_9 {E : jEnv} {Rr : Int → jMem → Prop} {rec : Int → Int → jMem → jO} (hrec : ∀ (l1 l2 : Int) (s : jMem), jHo Rr (rec l1 l2 s) → jGo E MX3_addRow 2 Rr [3, 1, 1] 9 [7, l1, l2] ([]) s) : ∀ (l1 l2 : Int) (s : jMem), jHo Rr (bX3_addRow_9 rec l1 l2 s) → jGo E MX3_addRow 2 Rr [3, 1, 1] 9 [7, l1, l2] ([]) s := by
  intro l1 l2 s0 hF
  unfold bX3_addRow_9 at hF
  refine ji_iload_n (n := 2) (pc := 9) l2 rfl rfl rfl dX3_addRow_9 (fun r1 => ?_)
  refine ji_if_le 31 (pc := 10) r1 hF dX3_addRow_10 rfl (fun hF => ?_) (fun hF => ?_)
  · exact ji_retv (pc := 31) rfl hF dX3_addRow_31
  · refine ji_aload_n (n := 0) (pc := 13) 7 rfl rfl rfl dX3_addRow_13 (fun r2 => ?_)
    refine ji_getr (pc := 14) 13 wfX3_30 (jRc3 rfl) jcl_7 jrf_7_6 dX3_addRow_14 ?_
    refine ji_iload_n (n := 2) (pc := 17) l2 rfl rfl rfl dX3_addRow_17 (fun r3 => ?_)
    refine ji_aload_n (n := 0) (pc := 18) 7 rfl rfl rfl dX3_addRow_18 (fun r4 => ?_)
    refine ji_iload_n (n := 1) (pc := 19) l1 rfl rfl rfl dX3_addRow_19 (fun r5 => ?_)
    refine ji_iload_n (n := 2) (pc := 20) l2 rfl rfl rfl dX3_addRow_20 (fun r6 => ?_)
    refine ji_callVl (pc := 21) 7 [l1, l2] (jV E 1 l2 :: jV E 3 13 :: []) oX3_leastWith wlX3_105 wmX3_leastWith rfl rfl (Nat.le_of_ble_eq_true rfl) (jRaC (jRc3 rfl) (jRaC r5 (jRaC r6 jRa0))) rfl jcl_7 rfl (Nat.le_of_ble_eq_true rfl) hF dX3_addRow_21 (fun x7 s8 r_x7 hF => ?_)
    refine ji_lastore (pc := 24) (jRc3 rfl) r3 r_x7 hF dX3_addRow_24 (fun s9 hF => ?_)
    refine ji_iinc (pc := 25) l2 (fun w => [7, l1, w]) rfl rfl rfl (fun _ => rfl) hF dX3_addRow_25 (fun x10 r_x10 hF => ?_)
    refine jg_goto (pc := 28) 9 dX3_addRow_28 rfl ?_
    refine jg_norm [3, 1, 1] [7, l1, x10] rfl rfl ?_
    exact hrec _ _ _ hF
theorem obX3_addRow_9W {E : jEnv} {Rr : Int → jMem → Prop} : ∀ n : Nat, ∀ (l1 l2 : Int) (s : jMem), jHo Rr (jIt (fun _ _ _ => none) (bX3_addRow_9) n l1 l2 s) → jGo E MX3_addRow 2 Rr [3, 1, 1] 9 [7, l1, l2] ([]) s := by
  intro n
  induction n with
  | zero => intro l1 l2 s hF; exact jHo_none hF
  | succ n ih => exact obX3_addRow_9 ih

set_option maxRecDepth 100000 in
set_option maxHeartbeats 4000000 in
theorem oX3_addRow : jOk MX3_addRow [3, 1] 2 (jFn gX3_addRow) := by
  refine jOk_fn (by decide +kernel) (Nat.le_of_ble_eq_true rfl) (by decide +kernel) (.inl rfl) ?_
  intro E vs s0 Rr hF ha
  obtain ⟨l0, t0, rfl, r_l0, ha⟩ := jRa_ci ha
  obtain ⟨l1, t1, rfl, r_l1, ha⟩ := jRa_ci ha
  obtain rfl := jRa_ni ha
  replace hF : jHo Rr (jGd (l0 = 7) <| fX3_addRow l1 s0) := hF
  have hG := jHo_as hF
  clear hF
  obtain ⟨rfl, hF⟩ := hG
  refine jg_norm [3, 1, 0] [7, l1, 0] rfl rfl ?_
  unfold fX3_addRow at hF
  refine ji_iconst (pc := 0) dX3_addRow_0 ?_
  refine ji_aload_n (n := 0) (pc := 1) 7 rfl rfl rfl dX3_addRow_1 (fun r1 => ?_)
  refine ji_getfi (pc := 2) wfX3_43 (jRc3 rfl) jcl_7 hF dX3_addRow_2 (fun x2 r_x2 hF => ?_)
  refine ji_imul (pc := 5)  hF dX3_addRow_5 (fun x3 r_x3 hF => ?_)
  refine ji_iconst (pc := 6) dX3_addRow_6 ?_
  refine ji_iadd (pc := 7)  hF dX3_addRow_7 (fun x4 r_x4 hF => ?_)
  refine ji_istore_n (n := 2) (pc := 8) [3, 1, 1] [7, l1, x4] rfl r_x4 (Nat.le_of_ble_eq_true rfl) rfl rfl dX3_addRow_8 ?_
  refine jg_norm [3, 1, 1] [7, l1, x4] rfl rfl ?_
  exact obX3_addRow_9W 1000 _ _ _ hF
def bX3_addAllBut_39 (k24 : Int → Int → jMem → jO) (l1 l2 : Int) (s0 : jMem) : jO :=
jLet (j32 (l2 + 1)) fun x1 =>
k24 l1 x1 s0
def bX3_addAllBut_24 (rec : Int → Int → jMem → jO) (l1 l2 : Int) (s0 : jMem) : jO :=
if 4 ≤ l2 then (
jRet 0 s0)
else (
if l2 = l1 then (
bX3_addAllBut_39 rec l1 l2 s0)
else (
jBd (fX3_addRow l2 s0) fun x6 s7 =>
bX3_addAllBut_39 rec l1 l2 s7))
def fX3_addAllBut (l1 : Int) (s0 : jMem) : jO :=
jLet (jU s0 7 11 l1) fun s3 =>
jBd (fJ7_fill_d0a16 13 1099511627776 s3) fun x5 s6 =>
jGd ((0 : Int) ≤ 0 ∧ 0 < jjk 13) <| jLet (jU s6 13 0 0) fun s8 =>
jIt (fun _ _ _ => none) (bX3_addAllBut_24) 1000 l1 0 s8
def gX3_addAllBut (vs : List Int) (s : jMem) : jO := match vs with
  | [a0, a1] => jGd (a0 = 7) <| fX3_addAllBut a1 s
  | _ => none
set_option maxRecDepth 100000 in
set_option maxHeartbeats 4000000 in
theorem obX3_addAllBut_39 {E : jEnv} {Rr : Int → jMem → Prop} {k24 : Int → Int → jMem → jO} (hk24 : ∀ (l1 l2 : Int) (s : jMem), jHo Rr (k24 l1 l2 s) → jGo E MX3_addAllBut 3 Rr [3, 1, 1] 24 [7, l1, l2] ([]) s) : ∀ (l1 l2 : Int) (s : jMem), jHo Rr (bX3_addAllBut_39 k24 l1 l2 s) → jGo E MX3_addAllBut 3 Rr [3, 1, 1] 39 [7, l1, l2] ([]) s := by
  intro l1 l2 s0 hF
  unfold bX3_addAllBut_39 at hF
  refine ji_iinc (pc := 39) l2 (fun w => [7, l1, w]) rfl rfl rfl (fun _ => rfl) hF dX3_addAllBut_39 (fun x1 r_x1 hF => ?_)
  refine jg_goto (pc := 42) 24 dX3_addAllBut_42 rfl ?_
  refine jg_norm [3, 1, 1] [7, l1, x1] rfl rfl ?_
  exact hk24 _ _ _ hF
set_option maxRecDepth 100000 in
set_option maxHeartbeats 4000000 in
theorem obX3_addAllBut_24 {E : jEnv} {Rr : Int → jMem → Prop} {rec : Int → Int → jMem → jO} (hrec : ∀ (l1 l2 : Int) (s : jMem), jHo Rr (rec l1 l2 s) → jGo E MX3_addAllBut 3 Rr [3, 1, 1] 24 [7, l1, l2] ([]) s) : ∀ (l1 l2 : Int) (s : jMem), jHo Rr (bX3_addAllBut_24 rec l1 l2 s) → jGo E MX3_addAllBut 3 Rr [3, 1, 1] 24 [7, l1, l2] ([]) s := by
  intro l1 l2 s0 hF
  unfold bX3_addAllBut_24 at hF
  refine ji_iload_n (n := 2) (pc := 24) l2 rfl rfl rfl dX3_addAllBut_24 (fun r1 => ?_)
  refine ji_iconst (pc := 25) dX3_addAllBut_25 ?_
  refine ji_icmp_ge 45 (pc := 26) r1 (jRc rfl) hF dX3_addAllBut_26 rfl (fun hF => ?_) (fun hF => ?_)
  · exact ji_retv (pc := 45) rfl hF dX3_addAllBut_45
  · refine ji_iload_n (n := 2) (pc := 29) l2 rfl rfl rfl dX3_addAllBut_29 (fun r2 => ?_)
    refine ji_iload_n (n := 1) (pc := 30) l1 rfl rfl rfl dX3_addAllBut_30 (fun r3 => ?_)
    refine ji_icmp_eq 39 (pc := 31) r2 r3 hF dX3_addAllBut_31 rfl (fun hF => ?_) (fun hF => ?_)
    · refine jg_norm [3, 1, 1] [7, l1, l2] rfl rfl ?_
      exact obX3_addAllBut_39 hrec _ _ _ hF
    · refine ji_aload_n (n := 0) (pc := 34) 7 rfl rfl rfl dX3_addAllBut_34 (fun r4 => ?_)
      refine ji_iload_n (n := 2) (pc := 35) l2 rfl rfl rfl dX3_addAllBut_35 (fun r5 => ?_)
      refine ji_callVv (pc := 36) 7 [l2] ([]) oX3_addRow wlX3_142 wmX3_addRow rfl rfl (Nat.le_of_ble_eq_true rfl) (jRaC (jRc3 rfl) (jRaC r5 jRa0)) rfl jcl_7 rfl (Nat.le_of_ble_eq_true rfl) hF dX3_addAllBut_36 (fun x6 s7 hF => ?_)
      refine jg_norm [3, 1, 1] [7, l1, l2] rfl rfl ?_
      exact obX3_addAllBut_39 hrec _ _ _ hF
theorem obX3_addAllBut_24W {E : jEnv} {Rr : Int → jMem → Prop} : ∀ n : Nat, ∀ (l1 l2 : Int) (s : jMem), jHo Rr (jIt (fun _ _ _ => none) (bX3_addAllBut_24) n l1 l2 s) → jGo E MX3_addAllBut 3 Rr [3, 1, 1] 24 [7, l1, l2] ([]) s := by
  intro n
  induction n with
  | zero => intro l1 l2 s hF; exact jHo_none hF
  | succ n ih => exact obX3_addAllBut_24 ih

set_option maxRecDepth 100000 in
set_option maxHeartbeats 4000000 in
theorem oX3_addAllBut : jOk MX3_addAllBut [3, 1] 3 (jFn gX3_addAllBut) := by
  refine jOk_fn (by decide +kernel) (Nat.le_of_ble_eq_true rfl) (by decide +kernel) (.inl rfl) ?_
  intro E vs s0 Rr hF ha
  obtain ⟨l0, t0, rfl, r_l0, ha⟩ := jRa_ci ha
  obtain ⟨l1, t1, rfl, r_l1, ha⟩ := jRa_ci ha
  obtain rfl := jRa_ni ha
  replace hF : jHo Rr (jGd (l0 = 7) <| fX3_addAllBut l1 s0) := hF
  have hG := jHo_as hF
  clear hF
  obtain ⟨rfl, hF⟩ := hG
  refine jg_norm [3, 1, 0] [7, l1, 0] rfl rfl ?_
  unfold fX3_addAllBut at hF
  refine ji_aload_n (n := 0) (pc := 0) 7 rfl rfl rfl dX3_addAllBut_0 (fun r1 => ?_)
  refine ji_iload_n (n := 1) (pc := 1) l1 rfl rfl rfl dX3_addAllBut_1 (fun r2 => ?_)
  refine ji_putfi (pc := 2) wpX3_46 (jRc3 rfl) jcl_7 r2 hF dX3_addAllBut_2 (fun s3 hF => ?_)
  refine ji_aload_n (n := 0) (pc := 5) 7 rfl rfl rfl dX3_addAllBut_5 (fun r4 => ?_)
  refine ji_getr (pc := 6) 13 wfX3_30 (jRc3 rfl) jcl_7 jrf_7_6 dX3_addAllBut_6 ?_
  refine jg_ldc2 (n := 1099511627776) (pc := 9) wnX3_86 dX3_addAllBut_9 ?_
  refine ji_callSv (pc := 12) [13, 1099511627776] ([]) oJ7_fill_d0a16 wlX3_62 wmJ7_fill_d0a16 rfl rfl (Nat.le_of_ble_eq_true rfl) (jRaC (jRc3 rfl) (jRaC (jRc2 rfl) jRa0)) rfl rfl (Nat.le_of_ble_eq_true rfl) hF dX3_addAllBut_12 (fun x5 s6 hF => ?_)
  refine ji_aload_n (n := 0) (pc := 15) 7 rfl rfl rfl dX3_addAllBut_15 (fun r7 => ?_)
  refine ji_getr (pc := 16) 13 wfX3_30 (jRc3 rfl) jcl_7 jrf_7_6 dX3_addAllBut_16 ?_
  refine ji_iconst (pc := 19) dX3_addAllBut_19 ?_
  refine jg_lconst (n := 0) (pc := 20) rfl dX3_addAllBut_20 ?_
  refine ji_lastore (pc := 21) (jRc3 rfl) (jRc rfl) (jRc2 rfl) hF dX3_addAllBut_21 (fun s8 hF => ?_)
  refine ji_iconst (pc := 22) dX3_addAllBut_22 ?_
  refine ji_istore_n (n := 2) (pc := 23) [3, 1, 1] [7, l1, 0] rfl (jRc rfl) (Nat.le_of_ble_eq_true rfl) rfl rfl dX3_addAllBut_23 ?_
  refine jg_norm [3, 1, 1] [7, l1, 0] rfl rfl ?_
  exact obX3_addAllBut_24W 1000 _ _ _ hF
def fX3_tilesOf (l0 : Int) (s0 : jMem) : jO :=
jLet (jshrl l0 34) fun x2 =>
jLet (j32 x2) fun x3 =>
jRet x3 s0
def gX3_tilesOf (vs : List Int) (s : jMem) : jO := match vs with
  | [a0] => fX3_tilesOf a0 s
  | _ => none
set_option maxRecDepth 100000 in
set_option maxHeartbeats 4000000 in
theorem oX3_tilesOf : jOk MX3_tilesOf [2] 0 (jFn gX3_tilesOf) := by
  refine jOk_fn (by decide +kernel) (Nat.le_of_ble_eq_true rfl) (by decide +kernel) (.inr (.inl rfl)) ?_
  intro E vs s0 Rr hF ha
  obtain ⟨l0, t0, rfl, r_l0, ha⟩ := jRa_ci ha
  obtain rfl := jRa_ni ha
  replace hF : jHo Rr (fX3_tilesOf l0 s0) := hF
  refine jg_norm [2, 0] [l0, 0] rfl rfl ?_
  unfold fX3_tilesOf at hF
  refine ji_lload_n (n := 0) (pc := 0) l0 rfl rfl rfl dX3_tilesOf_0 (fun r1 => ?_)
  refine jg_bipush (pc := 1) rfl dX3_tilesOf_1 ?_
  refine ji_lshr (pc := 3)  hF dX3_tilesOf_3 (fun x2 r_x2 hF => ?_)
  refine ji_l2i (pc := 4)  hF dX3_tilesOf_4 (fun x3 r_x3 hF => ?_)
  exact ji_reti (pc := 5) rfl r_x3 hF dX3_tilesOf_5
def fX3_offer (l1 l2 : Int) (s0 : jMem) : jO :=
jLet (s0 7 12) fun x3 =>
if x3 ≤ l1 then (
jLet (s0 7 12) fun x6 =>
if l1 = x6 then (
jLet (s0 7 13) fun x8 =>
jLet (jorl x8 l2) fun x10 =>
jLet (jU s0 7 13 x10) fun s11 =>
jRet 0 s11)
else (
jRet 0 s0))
else (
jLet (jU s0 7 12 l1) fun s14 =>
jLet (jU s14 7 13 l2) fun s17 =>
jRet 0 s17)
def gX3_offer (vs : List Int) (s : jMem) : jO := match vs with
  | [a0, a1, a2] => jGd (a0 = 7) <| fX3_offer a1 a2 s
  | _ => none
set_option maxRecDepth 100000 in
set_option maxHeartbeats 4000000 in
theorem oX3_offer : jOk MX3_offer [3, 1, 2] 0 (jFn gX3_offer) := by
  refine jOk_fn (by decide +kernel) (Nat.le_of_ble_eq_true rfl) (by decide +kernel) (.inl rfl) ?_
  intro E vs s0 Rr hF ha
  obtain ⟨l0, t0, rfl, r_l0, ha⟩ := jRa_ci ha
  obtain ⟨l1, t1, rfl, r_l1, ha⟩ := jRa_ci ha
  obtain ⟨l2, t2, rfl, r_l2, ha⟩ := jRa_ci ha
  obtain rfl := jRa_ni ha
  replace hF : jHo Rr (jGd (l0 = 7) <| fX3_offer l1 l2 s0) := hF
  have hG := jHo_as hF
  clear hF
  obtain ⟨rfl, hF⟩ := hG
  refine jg_norm [3, 1, 2, 0] [7, l1, l2, 0] rfl rfl ?_
  unfold fX3_offer at hF
  refine ji_iload_n (n := 1) (pc := 0) l1 rfl rfl rfl dX3_offer_0 (fun r1 => ?_)
  refine ji_aload_n (n := 0) (pc := 1) 7 rfl rfl rfl dX3_offer_1 (fun r2 => ?_)
  refine ji_getfi (pc := 2) wfX3_49 (jRc3 rfl) jcl_7 hF dX3_offer_2 (fun x3 r_x3 hF => ?_)
  refine ji_icmp_ge 21 (pc := 5) r1 r_x3 hF dX3_offer_5 rfl (fun hF => ?_) (fun hF => ?_)
  · refine ji_iload_n (n := 1) (pc := 21) l1 rfl rfl rfl dX3_offer_21 (fun r4 => ?_)
    refine ji_aload_n (n := 0) (pc := 22) 7 rfl rfl rfl dX3_offer_22 (fun r5 => ?_)
    refine ji_getfi (pc := 23) wfX3_49 (jRc3 rfl) jcl_7 hF dX3_offer_23 (fun x6 r_x6 hF => ?_)
    refine ji_icmp_ne 39 (pc := 26) r4 r_x6 hF dX3_offer_26 rfl (fun hF => ?_) (fun hF => ?_)
    · exact ji_retv (pc := 39) rfl hF dX3_offer_39
    · refine ji_aload_n (n := 0) (pc := 29) 7 rfl rfl rfl dX3_offer_29 (fun r7 => ?_)
      refine jg_dup (pc := 30) (by decide) dX3_offer_30 ?_
      refine ji_getfl (pc := 31) wfX3_52 (jRc3 rfl) jcl_7 hF dX3_offer_31 (fun x8 r_x8 hF => ?_)
      refine ji_lload_n (n := 2) (pc := 34) l2 rfl rfl rfl dX3_offer_34 (fun r9 => ?_)
      refine ji_lor (pc := 35)  hF dX3_offer_35 (fun x10 r_x10 hF => ?_)
      refine ji_putfl (pc := 36) wpX3_52 (jRc3 rfl) jcl_7 r_x10 hF dX3_offer_36 (fun s11 hF => ?_)
      exact ji_retv (pc := 39) rfl hF dX3_offer_39
  · refine ji_aload_n (n := 0) (pc := 8) 7 rfl rfl rfl dX3_offer_8 (fun r12 => ?_)
    refine ji_iload_n (n := 1) (pc := 9) l1 rfl rfl rfl dX3_offer_9 (fun r13 => ?_)
    refine ji_putfi (pc := 10) wpX3_49 (jRc3 rfl) jcl_7 r13 hF dX3_offer_10 (fun s14 hF => ?_)
    refine ji_aload_n (n := 0) (pc := 13) 7 rfl rfl rfl dX3_offer_13 (fun r15 => ?_)
    refine ji_lload_n (n := 2) (pc := 14) l2 rfl rfl rfl dX3_offer_14 (fun r16 => ?_)
    refine ji_putfl (pc := 15) wpX3_52 (jRc3 rfl) jcl_7 r16 hF dX3_offer_15 (fun s17 hF => ?_)
    refine jg_goto (pc := 18) 39 dX3_offer_18 rfl ?_
    exact ji_retv (pc := 39) rfl hF dX3_offer_39
def bX4_helpersOfSeven_34 (k10 : Int → Int → Int → Int → Int → jMem → jO) (l0 l2 l3 l4 t0 t1 : Int) (s0 : jMem) : jO :=
jLet (j32 (t0 + t1)) fun x1 =>
jLet (j32 (l4 + 1)) fun x2 =>
k10 l0 x1 l2 l3 x2 s0
def bX4_helpersOfSeven_10 (k42 : Int → Int → jMem → jO) (rec : Int → Int → Int → Int → Int → jMem → jO) (l0 l1 l2 l3 l4 : Int) (s0 : jMem) : jO :=
if l3 ≤ l4 then (
k42 l0 l1 s0)
else (
jGd ((0 : Int) ≤ l4 ∧ l4 < jik l2) <| jLet (s0 l2 l4) fun x5 =>
if x5 < 1 then (
bX4_helpersOfSeven_34 rec l0 l2 l3 l4 l1 0 s0)
else (
bX4_helpersOfSeven_34 rec l0 l2 l3 l4 l1 1 s0))
def bX4_helpersOfSeven_75 (k82 : Int → Int → Int → Int → jMem → jO) (l0 l1 l2 l4 : Int) (s0 : jMem) : jO :=
jLet (jshll 1 l4) fun x3 =>
jLet (jorl l2 x3) fun x4 =>
k82 l0 l1 x4 l4 s0
def bX4_helpersOfSeven_82 (k47 : Int → Int → Int → Int → jMem → jO) (l0 l1 l2 l4 : Int) (s0 : jMem) : jO :=
jLet (j32 (l4 + 1)) fun x1 =>
k47 l0 l1 l2 x1 s0
def bX4_helpersOfSeven_47 (rec : Int → Int → Int → Int → jMem → jO) (l0 l1 l2 l4 : Int) (s0 : jMem) : jO :=
if 34 ≤ l4 then (
jRet l2 s0)
else (
jGd ((0 : Int) ≤ l4 ∧ l4 < jik l0) <| jLet (s0 l0 l4) fun x5 =>
if x5 = 1 then (
bX4_helpersOfSeven_75 (bX4_helpersOfSeven_82 rec) l0 l1 l2 l4 s0)
else (
jGd ((0 : Int) ≤ l4 ∧ l4 < jik l0) <| jLet (s0 l0 l4) fun x8 =>
if x8 = 0 then (
if 7 ≤ l1 then (
bX4_helpersOfSeven_82 rec l0 l1 l2 l4 s0)
else (
bX4_helpersOfSeven_75 (bX4_helpersOfSeven_82 rec) l0 l1 l2 l4 s0))
else (
bX4_helpersOfSeven_82 rec l0 l1 l2 l4 s0)))
def bX4_helpersOfSeven_42 (l0 l1 : Int) (s0 : jMem) : jO :=
jIt (fun _ _ _ _ _ => none) (bX4_helpersOfSeven_47) 1000 l0 l1 0 0 s0
def fX4_helpersOfSeven (l0 : Int) (s0 : jMem) : jO :=
jGd (0 ≤ jln l0) <| jLet (jln l0) fun x3 =>
jIt (fun _ _ _ _ _ _ => none) (bX4_helpersOfSeven_10 bX4_helpersOfSeven_42) 1000 l0 0 l0 x3 0 s0
def gX4_helpersOfSeven (vs : List Int) (s : jMem) : jO := match vs with
  | [a0] => fX4_helpersOfSeven a0 s
  | _ => none
set_option maxRecDepth 100000 in
set_option maxHeartbeats 4000000 in
theorem obX4_helpersOfSeven_34 {E : jEnv} {Rr : Int → jMem → Prop} {k10 : Int → Int → Int → Int → Int → jMem → jO} (hk10 : ∀ (l0 l1 l2 l3 l4 : Int) (s : jMem), jHo Rr (k10 l0 l1 l2 l3 l4 s) → jGo E MX4_helpersOfSeven 0 Rr [3, 1, 3, 1, 1, 0] 10 [l0, l1, l2, l3, l4, 0] ([]) s) : ∀ (l0 l2 l3 l4 t0 t1 : Int) (s : jMem), jR 1 t0 → jR 1 t1 → jHo Rr (bX4_helpersOfSeven_34 k10 l0 l2 l3 l4 t0 t1 s) → jGo E MX4_helpersOfSeven 0 Rr [3, 0, 3, 1, 1, 0] 34 [l0, 0, l2, l3, l4, 0] (jV E 1 t1 :: jV E 1 t0 :: []) s := by
  intro l0 l2 l3 l4 t0 t1 s0 r_t0 r_t1 hF
  unfold bX4_helpersOfSeven_34 at hF
  refine ji_iadd (pc := 34)  hF dX4_helpersOfSeven_34 (fun x1 r_x1 hF => ?_)
  refine ji_istore_n (n := 1) (pc := 35) [3, 1, 3, 1, 1, 0] [l0, x1, l2, l3, l4, 0] rfl r_x1 (Nat.le_of_ble_eq_true rfl) rfl rfl dX4_helpersOfSeven_35 ?_
  refine ji_iinc (pc := 36) l4 (fun w => [l0, x1, l2, l3, w, 0]) rfl rfl rfl (fun _ => rfl) hF dX4_helpersOfSeven_36 (fun x2 r_x2 hF => ?_)
  refine jg_goto (pc := 39) 10 dX4_helpersOfSeven_39 rfl ?_
  refine jg_norm [3, 1, 3, 1, 1, 0] [l0, x1, l2, l3, x2, 0] rfl rfl ?_
  exact hk10 _ _ _ _ _ _ hF
set_option maxRecDepth 100000 in
set_option maxHeartbeats 4000000 in
theorem obX4_helpersOfSeven_10 {E : jEnv} {Rr : Int → jMem → Prop} {k42 : Int → Int → jMem → jO} (hk42 : ∀ (l0 l1 : Int) (s : jMem), jHo Rr (k42 l0 l1 s) → jGo E MX4_helpersOfSeven 0 Rr [3, 1, 0, 0, 0, 0] 42 [l0, l1, 0, 0, 0, 0] ([]) s) {rec : Int → Int → Int → Int → Int → jMem → jO} (hrec : ∀ (l0 l1 l2 l3 l4 : Int) (s : jMem), jHo Rr (rec l0 l1 l2 l3 l4 s) → jGo E MX4_helpersOfSeven 0 Rr [3, 1, 3, 1, 1, 0] 10 [l0, l1, l2, l3, l4, 0] ([]) s) : ∀ (l0 l1 l2 l3 l4 : Int) (s : jMem), jHo Rr (bX4_helpersOfSeven_10 k42 rec l0 l1 l2 l3 l4 s) → jGo E MX4_helpersOfSeven 0 Rr [3, 1, 3, 1, 1, 0] 10 [l0, l1, l2, l3, l4, 0] ([]) s := by
  intro l0 l1 l2 l3 l4 s0 hF
  unfold bX4_helpersOfSeven_10 at hF
  refine ji_iload (pc := 10) l4 rfl rfl dX4_helpersOfSeven_10 (fun r1 => ?_)
  refine ji_iload_n (n := 3) (pc := 12) l3 rfl rfl rfl dX4_helpersOfSeven_12 (fun r2 => ?_)
  refine ji_icmp_ge 42 (pc := 13) r1 r2 hF dX4_helpersOfSeven_13 rfl (fun hF => ?_) (fun hF => ?_)
  · refine jg_norm [3, 1, 0, 0, 0, 0] [l0, l1, 0, 0, 0, 0] rfl rfl ?_
    exact hk42 _ _ _ hF
  · refine ji_aload_n (n := 2) (pc := 16) l2 rfl rfl rfl dX4_helpersOfSeven_16 (fun r3 => ?_)
    refine ji_iload (pc := 17) l4 rfl rfl dX4_helpersOfSeven_17 (fun r4 => ?_)
    refine ji_iaload (pc := 19) r3 r4 hF dX4_helpersOfSeven_19 (fun x5 r_x5 hF => ?_)
    refine ji_istore (n := 5) (pc := 20) [3, 1, 3, 1, 1, 1] [l0, l1, l2, l3, l4, x5] r_x5 (Nat.le_of_ble_eq_true rfl) rfl rfl dX4_helpersOfSeven_20 ?_
    refine ji_iload_n (n := 1) (pc := 22) l1 rfl rfl rfl dX4_helpersOfSeven_22 (fun r6 => ?_)
    refine ji_iload (pc := 23) x5 rfl rfl dX4_helpersOfSeven_23 (fun r7 => ?_)
    refine ji_iconst (pc := 25) dX4_helpersOfSeven_25 ?_
    refine ji_icmp_lt 33 (pc := 26) r7 (jRc rfl) hF dX4_helpersOfSeven_26 rfl (fun hF => ?_) (fun hF => ?_)
    · refine ji_iconst (pc := 33) dX4_helpersOfSeven_33 ?_
      refine jg_norm [3, 0, 3, 1, 1, 0] [l0, 0, l2, l3, l4, 0] rfl rfl ?_
      exact obX4_helpersOfSeven_34 hrec _ _ _ _ _ _ _ r6 (jRc rfl) hF
    · refine ji_iconst (pc := 29) dX4_helpersOfSeven_29 ?_
      refine jg_goto (pc := 30) 34 dX4_helpersOfSeven_30 rfl ?_
      refine jg_norm [3, 0, 3, 1, 1, 0] [l0, 0, l2, l3, l4, 0] rfl rfl ?_
      exact obX4_helpersOfSeven_34 hrec _ _ _ _ _ _ _ r6 (jRc rfl) hF
theorem obX4_helpersOfSeven_10W {E : jEnv} {Rr : Int → jMem → Prop} {k42 : Int → Int → jMem → jO} (hk42 : ∀ (l0 l1 : Int) (s : jMem), jHo Rr (k42 l0 l1 s) → jGo E MX4_helpersOfSeven 0 Rr [3, 1, 0, 0, 0, 0] 42 [l0, l1, 0, 0, 0, 0] ([]) s) : ∀ n : Nat, ∀ (l0 l1 l2 l3 l4 : Int) (s : jMem), jHo Rr (jIt (fun _ _ _ _ _ _ => none) (bX4_helpersOfSeven_10 k42) n l0 l1 l2 l3 l4 s) → jGo E MX4_helpersOfSeven 0 Rr [3, 1, 3, 1, 1, 0] 10 [l0, l1, l2, l3, l4, 0] ([]) s := by
  intro n
  induction n with
  | zero => intro l0 l1 l2 l3 l4 s hF; exact jHo_none hF
  | succ n ih => exact obX4_helpersOfSeven_10 hk42 ih

set_option maxRecDepth 100000 in
set_option maxHeartbeats 4000000 in
theorem obX4_helpersOfSeven_75 {E : jEnv} {Rr : Int → jMem → Prop} {k82 : Int → Int → Int → Int → jMem → jO} (hk82 : ∀ (l0 l1 l2 l4 : Int) (s : jMem), jHo Rr (k82 l0 l1 l2 l4 s) → jGo E MX4_helpersOfSeven 0 Rr [3, 1, 2, 0, 1, 0] 82 [l0, l1, l2, 0, l4, 0] ([]) s) : ∀ (l0 l1 l2 l4 : Int) (s : jMem), jHo Rr (bX4_helpersOfSeven_75 k82 l0 l1 l2 l4 s) → jGo E MX4_helpersOfSeven 0 Rr [3, 1, 2, 0, 1, 0] 75 [l0, l1, l2, 0, l4, 0] ([]) s := by
  intro l0 l1 l2 l4 s0 hF
  unfold bX4_helpersOfSeven_75 at hF
  refine ji_lload_n (n := 2) (pc := 75) l2 rfl rfl rfl dX4_helpersOfSeven_75 (fun r1 => ?_)
  refine jg_lconst (n := 1) (pc := 76) rfl dX4_helpersOfSeven_76 ?_
  refine ji_iload (pc := 77) l4 rfl rfl dX4_helpersOfSeven_77 (fun r2 => ?_)
  refine ji_lshl (pc := 79)  hF dX4_helpersOfSeven_79 (fun x3 r_x3 hF => ?_)
  refine ji_lor (pc := 80)  hF dX4_helpersOfSeven_80 (fun x4 r_x4 hF => ?_)
  refine ji_lstore_n (n := 2) (pc := 81) [3, 1, 2, 0, 1, 0] [l0, l1, x4, 0, l4, 0] rfl r_x4 (Nat.le_of_ble_eq_true rfl) rfl rfl dX4_helpersOfSeven_81 ?_
  refine jg_norm [3, 1, 2, 0, 1, 0] [l0, l1, x4, 0, l4, 0] rfl rfl ?_
  exact hk82 _ _ _ _ _ hF
set_option maxRecDepth 100000 in
set_option maxHeartbeats 4000000 in
theorem obX4_helpersOfSeven_82 {E : jEnv} {Rr : Int → jMem → Prop} {k47 : Int → Int → Int → Int → jMem → jO} (hk47 : ∀ (l0 l1 l2 l4 : Int) (s : jMem), jHo Rr (k47 l0 l1 l2 l4 s) → jGo E MX4_helpersOfSeven 0 Rr [3, 1, 2, 0, 1, 0] 47 [l0, l1, l2, 0, l4, 0] ([]) s) : ∀ (l0 l1 l2 l4 : Int) (s : jMem), jHo Rr (bX4_helpersOfSeven_82 k47 l0 l1 l2 l4 s) → jGo E MX4_helpersOfSeven 0 Rr [3, 1, 2, 0, 1, 0] 82 [l0, l1, l2, 0, l4, 0] ([]) s := by
  intro l0 l1 l2 l4 s0 hF
  unfold bX4_helpersOfSeven_82 at hF
  refine ji_iinc (pc := 82) l4 (fun w => [l0, l1, l2, 0, w, 0]) rfl rfl rfl (fun _ => rfl) hF dX4_helpersOfSeven_82 (fun x1 r_x1 hF => ?_)
  refine jg_goto (pc := 85) 47 dX4_helpersOfSeven_85 rfl ?_
  refine jg_norm [3, 1, 2, 0, 1, 0] [l0, l1, l2, 0, x1, 0] rfl rfl ?_
  exact hk47 _ _ _ _ _ hF
set_option maxRecDepth 100000 in
set_option maxHeartbeats 4000000 in
theorem obX4_helpersOfSeven_47 {E : jEnv} {Rr : Int → jMem → Prop} {rec : Int → Int → Int → Int → jMem → jO} (hrec : ∀ (l0 l1 l2 l4 : Int) (s : jMem), jHo Rr (rec l0 l1 l2 l4 s) → jGo E MX4_helpersOfSeven 0 Rr [3, 1, 2, 0, 1, 0] 47 [l0, l1, l2, 0, l4, 0] ([]) s) : ∀ (l0 l1 l2 l4 : Int) (s : jMem), jHo Rr (bX4_helpersOfSeven_47 rec l0 l1 l2 l4 s) → jGo E MX4_helpersOfSeven 0 Rr [3, 1, 2, 0, 1, 0] 47 [l0, l1, l2, 0, l4, 0] ([]) s := by
  intro l0 l1 l2 l4 s0 hF
  unfold bX4_helpersOfSeven_47 at hF
  refine ji_iload (pc := 47) l4 rfl rfl dX4_helpersOfSeven_47 (fun r1 => ?_)
  refine jg_bipush (pc := 49) rfl dX4_helpersOfSeven_49 ?_
  refine ji_icmp_ge 88 (pc := 51) r1 (jRc rfl) hF dX4_helpersOfSeven_51 rfl (fun hF => ?_) (fun hF => ?_)
  · refine ji_lload_n (n := 2) (pc := 88) l2 rfl rfl rfl dX4_helpersOfSeven_88 (fun r2 => ?_)
    exact ji_retl (pc := 89) rfl r2 hF dX4_helpersOfSeven_89
  · refine ji_aload_n (n := 0) (pc := 54) l0 rfl rfl rfl dX4_helpersOfSeven_54 (fun r3 => ?_)
    refine ji_iload (pc := 55) l4 rfl rfl dX4_helpersOfSeven_55 (fun r4 => ?_)
    refine ji_iaload (pc := 57) r3 r4 hF dX4_helpersOfSeven_57 (fun x5 r_x5 hF => ?_)
    refine ji_iconst (pc := 58) dX4_helpersOfSeven_58 ?_
    refine ji_icmp_eq 75 (pc := 59) r_x5 (jRc rfl) hF dX4_helpersOfSeven_59 rfl (fun hF => ?_) (fun hF => ?_)
    · refine jg_norm [3, 1, 2, 0, 1, 0] [l0, l1, l2, 0, l4, 0] rfl rfl ?_
      exact obX4_helpersOfSeven_75 (obX4_helpersOfSeven_82 hrec) _ _ _ _ _ hF
    · refine ji_aload_n (n := 0) (pc := 62) l0 rfl rfl rfl dX4_helpersOfSeven_62 (fun r6 => ?_)
      refine ji_iload (pc := 63) l4 rfl rfl dX4_helpersOfSeven_63 (fun r7 => ?_)
      refine ji_iaload (pc := 65) r6 r7 hF dX4_helpersOfSeven_65 (fun x8 r_x8 hF => ?_)
      refine ji_if_ne 82 (pc := 66) r_x8 hF dX4_helpersOfSeven_66 rfl (fun hF => ?_) (fun hF => ?_)
      · refine jg_norm [3, 1, 2, 0, 1, 0] [l0, l1, l2, 0, l4, 0] rfl rfl ?_
        exact obX4_helpersOfSeven_82 hrec _ _ _ _ _ hF
      · refine ji_iload_n (n := 1) (pc := 69) l1 rfl rfl rfl dX4_helpersOfSeven_69 (fun r9 => ?_)
        refine jg_bipush (pc := 70) rfl dX4_helpersOfSeven_70 ?_
        refine ji_icmp_ge 82 (pc := 72) r9 (jRc rfl) hF dX4_helpersOfSeven_72 rfl (fun hF => ?_) (fun hF => ?_)
        · refine jg_norm [3, 1, 2, 0, 1, 0] [l0, l1, l2, 0, l4, 0] rfl rfl ?_
          exact obX4_helpersOfSeven_82 hrec _ _ _ _ _ hF
        · refine jg_norm [3, 1, 2, 0, 1, 0] [l0, l1, l2, 0, l4, 0] rfl rfl ?_
          exact obX4_helpersOfSeven_75 (obX4_helpersOfSeven_82 hrec) _ _ _ _ _ hF
theorem obX4_helpersOfSeven_47W {E : jEnv} {Rr : Int → jMem → Prop} : ∀ n : Nat, ∀ (l0 l1 l2 l4 : Int) (s : jMem), jHo Rr (jIt (fun _ _ _ _ _ => none) (bX4_helpersOfSeven_47) n l0 l1 l2 l4 s) → jGo E MX4_helpersOfSeven 0 Rr [3, 1, 2, 0, 1, 0] 47 [l0, l1, l2, 0, l4, 0] ([]) s := by
  intro n
  induction n with
  | zero => intro l0 l1 l2 l4 s hF; exact jHo_none hF
  | succ n ih => exact obX4_helpersOfSeven_47 ih

set_option maxRecDepth 100000 in
set_option maxHeartbeats 4000000 in
theorem obX4_helpersOfSeven_42 {E : jEnv} {Rr : Int → jMem → Prop} : ∀ (l0 l1 : Int) (s : jMem), jHo Rr (bX4_helpersOfSeven_42 l0 l1 s) → jGo E MX4_helpersOfSeven 0 Rr [3, 1, 0, 0, 0, 0] 42 [l0, l1, 0, 0, 0, 0] ([]) s := by
  intro l0 l1 s0 hF
  unfold bX4_helpersOfSeven_42 at hF
  refine jg_lconst (n := 0) (pc := 42) rfl dX4_helpersOfSeven_42 ?_
  refine ji_lstore_n (n := 2) (pc := 43) [3, 1, 2, 0, 0, 0] [l0, l1, 0, 0, 0, 0] rfl (jRc2 rfl) (Nat.le_of_ble_eq_true rfl) rfl rfl dX4_helpersOfSeven_43 ?_
  refine ji_iconst (pc := 44) dX4_helpersOfSeven_44 ?_
  refine ji_istore (n := 4) (pc := 45) [3, 1, 2, 0, 1, 0] [l0, l1, 0, 0, 0, 0] (jRc rfl) (Nat.le_of_ble_eq_true rfl) rfl rfl dX4_helpersOfSeven_45 ?_
  refine jg_norm [3, 1, 2, 0, 1, 0] [l0, l1, 0, 0, 0, 0] rfl rfl ?_
  exact obX4_helpersOfSeven_47W 1000 _ _ _ _ _ hF
set_option maxRecDepth 100000 in
set_option maxHeartbeats 4000000 in
theorem oX4_helpersOfSeven : jOk MX4_helpersOfSeven [3] 0 (jFn gX4_helpersOfSeven) := by
  refine jOk_fn (by decide +kernel) (Nat.le_of_ble_eq_true rfl) (by decide +kernel) (.inr (.inr (.inl rfl))) ?_
  intro E vs s0 Rr hF ha
  obtain ⟨l0, t0, rfl, r_l0, ha⟩ := jRa_ci ha
  obtain rfl := jRa_ni ha
  replace hF : jHo Rr (fX4_helpersOfSeven l0 s0) := hF
  refine jg_norm [3, 0, 0, 0, 0, 0] [l0, 0, 0, 0, 0, 0] rfl rfl ?_
  unfold fX4_helpersOfSeven at hF
  refine ji_iconst (pc := 0) dX4_helpersOfSeven_0 ?_
  refine ji_istore_n (n := 1) (pc := 1) [3, 1, 0, 0, 0, 0] [l0, 0, 0, 0, 0, 0] rfl (jRc rfl) (Nat.le_of_ble_eq_true rfl) rfl rfl dX4_helpersOfSeven_1 ?_
  refine ji_aload_n (n := 0) (pc := 2) l0 rfl rfl rfl dX4_helpersOfSeven_2 (fun r1 => ?_)
  refine ji_astore_n (n := 2) (pc := 3) [3, 1, 3, 0, 0, 0] [l0, 0, l0, 0, 0, 0] rfl r1 (Nat.le_of_ble_eq_true rfl) rfl rfl dX4_helpersOfSeven_3 ?_
  refine ji_aload_n (n := 2) (pc := 4) l0 rfl rfl rfl dX4_helpersOfSeven_4 (fun r2 => ?_)
  refine ji_alen (pc := 5) r2 hF dX4_helpersOfSeven_5 (fun x3 r_x3 hF => ?_)
  refine ji_istore_n (n := 3) (pc := 6) [3, 1, 3, 1, 0, 0] [l0, 0, l0, x3, 0, 0] rfl r_x3 (Nat.le_of_ble_eq_true rfl) rfl rfl dX4_helpersOfSeven_6 ?_
  refine ji_iconst (pc := 7) dX4_helpersOfSeven_7 ?_
  refine ji_istore (n := 4) (pc := 8) [3, 1, 3, 1, 1, 0] [l0, 0, l0, x3, 0, 0] (jRc rfl) (Nat.le_of_ble_eq_true rfl) rfl rfl dX4_helpersOfSeven_8 ?_
  refine jg_norm [3, 1, 3, 1, 1, 0] [l0, 0, l0, x3, 0, 0] rfl rfl ?_
  exact obX4_helpersOfSeven_10W obX4_helpersOfSeven_42 1000 _ _ _ _ _ _ hF
def bX4_helpersOfOuter_48 (k18 : Int → Int → Int → Int → jMem → jO) (l0 l1 l2 l4 : Int) (s0 : jMem) : jO :=
jLet (j32 (l4 + 1)) fun x1 =>
k18 l0 l1 l2 x1 s0
def bX4_helpersOfOuter_18 (rec : Int → Int → Int → Int → jMem → jO) (l0 l1 l2 l4 : Int) (s0 : jMem) : jO :=
if 34 ≤ l4 then (
jRet l2 s0)
else (
jBd (fX8_isOuter l4 s0) fun x4 s5 =>
if x4 = 0 then (
bX4_helpersOfOuter_48 rec l0 l1 l2 l4 s5)
else (
jGd ((0 : Int) ≤ l4 ∧ l4 < jik l0) <| jLet (s5 l0 l4) fun x8 =>
if l1 ≤ x8 then (
bX4_helpersOfOuter_48 rec l0 l1 l2 l4 s5)
else (
jLet (jshll 1 l4) fun x12 =>
jLet (jorl l2 x12) fun x13 =>
bX4_helpersOfOuter_48 rec l0 l1 x13 l4 s5)))
def bX4_helpersOfOuter_12 (l0 t0 : Int) (s0 : jMem) : jO :=
jIt (fun _ _ _ _ _ => none) (bX4_helpersOfOuter_18) 1000 l0 t0 0 0 s0
def fX4_helpersOfOuter (l0 : Int) (s0 : jMem) : jO :=
jBd (fX4_hasOuterPair l0 s0) fun x2 s3 =>
if x2 = 0 then (
bX4_helpersOfOuter_12 l0 2 s3)
else (
bX4_helpersOfOuter_12 l0 1 s3)
def gX4_helpersOfOuter (vs : List Int) (s : jMem) : jO := match vs with
  | [a0] => fX4_helpersOfOuter a0 s
  | _ => none
set_option maxRecDepth 100000 in
set_option maxHeartbeats 4000000 in
theorem obX4_helpersOfOuter_48 {E : jEnv} {Rr : Int → jMem → Prop} {k18 : Int → Int → Int → Int → jMem → jO} (hk18 : ∀ (l0 l1 l2 l4 : Int) (s : jMem), jHo Rr (k18 l0 l1 l2 l4 s) → jGo E MX4_helpersOfOuter 2 Rr [3, 1, 2, 0, 1] 18 [l0, l1, l2, 0, l4] ([]) s) : ∀ (l0 l1 l2 l4 : Int) (s : jMem), jHo Rr (bX4_helpersOfOuter_48 k18 l0 l1 l2 l4 s) → jGo E MX4_helpersOfOuter 2 Rr [3, 1, 2, 0, 1] 48 [l0, l1, l2, 0, l4] ([]) s := by
  intro l0 l1 l2 l4 s0 hF
  unfold bX4_helpersOfOuter_48 at hF
  refine ji_iinc (pc := 48) l4 (fun w => [l0, l1, l2, 0, w]) rfl rfl rfl (fun _ => rfl) hF dX4_helpersOfOuter_48 (fun x1 r_x1 hF => ?_)
  refine jg_goto (pc := 51) 18 dX4_helpersOfOuter_51 rfl ?_
  refine jg_norm [3, 1, 2, 0, 1] [l0, l1, l2, 0, x1] rfl rfl ?_
  exact hk18 _ _ _ _ _ hF
set_option maxRecDepth 100000 in
set_option maxHeartbeats 4000000 in
theorem obX4_helpersOfOuter_18 {E : jEnv} {Rr : Int → jMem → Prop} {rec : Int → Int → Int → Int → jMem → jO} (hrec : ∀ (l0 l1 l2 l4 : Int) (s : jMem), jHo Rr (rec l0 l1 l2 l4 s) → jGo E MX4_helpersOfOuter 2 Rr [3, 1, 2, 0, 1] 18 [l0, l1, l2, 0, l4] ([]) s) : ∀ (l0 l1 l2 l4 : Int) (s : jMem), jHo Rr (bX4_helpersOfOuter_18 rec l0 l1 l2 l4 s) → jGo E MX4_helpersOfOuter 2 Rr [3, 1, 2, 0, 1] 18 [l0, l1, l2, 0, l4] ([]) s := by
  intro l0 l1 l2 l4 s0 hF
  unfold bX4_helpersOfOuter_18 at hF
  refine ji_iload (pc := 18) l4 rfl rfl dX4_helpersOfOuter_18 (fun r1 => ?_)
  refine jg_bipush (pc := 20) rfl dX4_helpersOfOuter_20 ?_
  refine ji_icmp_ge 54 (pc := 22) r1 (jRc rfl) hF dX4_helpersOfOuter_22 rfl (fun hF => ?_) (fun hF => ?_)
  · refine ji_lload_n (n := 2) (pc := 54) l2 rfl rfl rfl dX4_helpersOfOuter_54 (fun r2 => ?_)
    exact ji_retl (pc := 55) rfl r2 hF dX4_helpersOfOuter_55
  · refine ji_iload (pc := 25) l4 rfl rfl dX4_helpersOfOuter_25 (fun r3 => ?_)
    refine ji_callSz (pc := 27) [l4] ([]) oX8_isOuter wlX4_24 wmX8_isOuter rfl rfl (Nat.le_of_ble_eq_true rfl) (jRaC r3 jRa0) rfl rfl (Nat.le_of_ble_eq_true rfl) hF dX4_helpersOfOuter_27 (fun x4 s5 r_x4 hF => ?_)
    refine ji_if_eq 48 (pc := 30) (jR51 r_x4) hF dX4_helpersOfOuter_30 rfl (fun hF => ?_) (fun hF => ?_)
    · refine jg_norm [3, 1, 2, 0, 1] [l0, l1, l2, 0, l4] rfl rfl ?_
      exact obX4_helpersOfOuter_48 hrec _ _ _ _ _ hF
    · refine ji_aload_n (n := 0) (pc := 33) l0 rfl rfl rfl dX4_helpersOfOuter_33 (fun r6 => ?_)
      refine ji_iload (pc := 34) l4 rfl rfl dX4_helpersOfOuter_34 (fun r7 => ?_)
      refine ji_iaload (pc := 36) r6 r7 hF dX4_helpersOfOuter_36 (fun x8 r_x8 hF => ?_)
      refine ji_iload_n (n := 1) (pc := 37) l1 rfl rfl rfl dX4_helpersOfOuter_37 (fun r9 => ?_)
      refine ji_icmp_ge 48 (pc := 38) r_x8 r9 hF dX4_helpersOfOuter_38 rfl (fun hF => ?_) (fun hF => ?_)
      · refine jg_norm [3, 1, 2, 0, 1] [l0, l1, l2, 0, l4] rfl rfl ?_
        exact obX4_helpersOfOuter_48 hrec _ _ _ _ _ hF
      · refine ji_lload_n (n := 2) (pc := 41) l2 rfl rfl rfl dX4_helpersOfOuter_41 (fun r10 => ?_)
        refine jg_lconst (n := 1) (pc := 42) rfl dX4_helpersOfOuter_42 ?_
        refine ji_iload (pc := 43) l4 rfl rfl dX4_helpersOfOuter_43 (fun r11 => ?_)
        refine ji_lshl (pc := 45)  hF dX4_helpersOfOuter_45 (fun x12 r_x12 hF => ?_)
        refine ji_lor (pc := 46)  hF dX4_helpersOfOuter_46 (fun x13 r_x13 hF => ?_)
        refine ji_lstore_n (n := 2) (pc := 47) [3, 1, 2, 0, 1] [l0, l1, x13, 0, l4] rfl r_x13 (Nat.le_of_ble_eq_true rfl) rfl rfl dX4_helpersOfOuter_47 ?_
        refine jg_norm [3, 1, 2, 0, 1] [l0, l1, x13, 0, l4] rfl rfl ?_
        exact obX4_helpersOfOuter_48 hrec _ _ _ _ _ hF
theorem obX4_helpersOfOuter_18W {E : jEnv} {Rr : Int → jMem → Prop} : ∀ n : Nat, ∀ (l0 l1 l2 l4 : Int) (s : jMem), jHo Rr (jIt (fun _ _ _ _ _ => none) (bX4_helpersOfOuter_18) n l0 l1 l2 l4 s) → jGo E MX4_helpersOfOuter 2 Rr [3, 1, 2, 0, 1] 18 [l0, l1, l2, 0, l4] ([]) s := by
  intro n
  induction n with
  | zero => intro l0 l1 l2 l4 s hF; exact jHo_none hF
  | succ n ih => exact obX4_helpersOfOuter_18 ih

set_option maxRecDepth 100000 in
set_option maxHeartbeats 4000000 in
theorem obX4_helpersOfOuter_12 {E : jEnv} {Rr : Int → jMem → Prop} : ∀ (l0 t0 : Int) (s : jMem), jR 1 t0 → jHo Rr (bX4_helpersOfOuter_12 l0 t0 s) → jGo E MX4_helpersOfOuter 2 Rr [3, 0, 0, 0, 0] 12 [l0, 0, 0, 0, 0] (jV E 1 t0 :: []) s := by
  intro l0 t0 s0 r_t0 hF
  unfold bX4_helpersOfOuter_12 at hF
  refine ji_istore_n (n := 1) (pc := 12) [3, 1, 0, 0, 0] [l0, t0, 0, 0, 0] rfl r_t0 (Nat.le_of_ble_eq_true rfl) rfl rfl dX4_helpersOfOuter_12 ?_
  refine jg_lconst (n := 0) (pc := 13) rfl dX4_helpersOfOuter_13 ?_
  refine ji_lstore_n (n := 2) (pc := 14) [3, 1, 2, 0, 0] [l0, t0, 0, 0, 0] rfl (jRc2 rfl) (Nat.le_of_ble_eq_true rfl) rfl rfl dX4_helpersOfOuter_14 ?_
  refine ji_iconst (pc := 15) dX4_helpersOfOuter_15 ?_
  refine ji_istore (n := 4) (pc := 16) [3, 1, 2, 0, 1] [l0, t0, 0, 0, 0] (jRc rfl) (Nat.le_of_ble_eq_true rfl) rfl rfl dX4_helpersOfOuter_16 ?_
  refine jg_norm [3, 1, 2, 0, 1] [l0, t0, 0, 0, 0] rfl rfl ?_
  exact obX4_helpersOfOuter_18W 1000 _ _ _ _ _ hF
set_option maxRecDepth 100000 in
set_option maxHeartbeats 4000000 in
theorem oX4_helpersOfOuter : jOk MX4_helpersOfOuter [3] 2 (jFn gX4_helpersOfOuter) := by
  refine jOk_fn (by decide +kernel) (Nat.le_of_ble_eq_true rfl) (by decide +kernel) (.inr (.inr (.inl rfl))) ?_
  intro E vs s0 Rr hF ha
  obtain ⟨l0, t0, rfl, r_l0, ha⟩ := jRa_ci ha
  obtain rfl := jRa_ni ha
  replace hF : jHo Rr (fX4_helpersOfOuter l0 s0) := hF
  refine jg_norm [3, 0, 0, 0, 0] [l0, 0, 0, 0, 0] rfl rfl ?_
  unfold fX4_helpersOfOuter at hF
  refine ji_aload_n (n := 0) (pc := 0) l0 rfl rfl rfl dX4_helpersOfOuter_0 (fun r1 => ?_)
  refine ji_callSz (pc := 1) [l0] ([]) oX4_hasOuterPair wlX4_28 wmX4_hasOuterPair rfl rfl (Nat.le_of_ble_eq_true rfl) (jRaC r1 jRa0) rfl rfl (Nat.le_of_ble_eq_true rfl) hF dX4_helpersOfOuter_1 (fun x2 s3 r_x2 hF => ?_)
  refine ji_if_eq 11 (pc := 4) (jR51 r_x2) hF dX4_helpersOfOuter_4 rfl (fun hF => ?_) (fun hF => ?_)
  · refine ji_iconst (pc := 11) dX4_helpersOfOuter_11 ?_
    refine jg_norm [3, 0, 0, 0, 0] [l0, 0, 0, 0, 0] rfl rfl ?_
    exact obX4_helpersOfOuter_12 _ _ _ (jRc rfl) hF
  · refine ji_iconst (pc := 7) dX4_helpersOfOuter_7 ?_
    refine jg_goto (pc := 8) 12 dX4_helpersOfOuter_8 rfl ?_
    refine jg_norm [3, 0, 0, 0, 0] [l0, 0, 0, 0, 0] rfl rfl ?_
    exact obX4_helpersOfOuter_12 _ _ _ (jRc rfl) hF
def bX3_total_95 (l3 : Int) (s0 : jMem) : jO :=
if l3 = 0 then (
jRet 0 s0)
else (
jLet (s0 6 1) fun x3 =>
if x3 = 0 then (
jRet 0 s0)
else (
jBd (fX4_lackOfOuter 8 s0) fun x6 s7 =>
jBd (fX4_helpersOfOuter 8 s7) fun x9 s10 =>
jBd (fX3_offer x6 x9 s10) fun x11 s12 =>
jRet 0 s12))
def bX3_total_62 (t0 : Int) (s0 : jMem) : jO :=
if t0 = 0 then (
bX3_total_95 t0 s0)
else (
jLet (s0 6 0) fun x3 =>
if x3 = 0 then (
bX3_total_95 t0 s0)
else (
jBd (fX4_lackOfSeven 8 s0) fun x6 s7 =>
jBd (fX4_helpersOfSeven 8 s7) fun x9 s10 =>
jBd (fX3_offer x6 x9 s10) fun x11 s12 =>
bX3_total_95 t0 s12))
def bX3_total_49 (s0 : jMem) : jO :=
jLet (s0 7 10) fun x2 =>
if x2 = 4 then (
bX3_total_62 1 s0)
else (
bX3_total_62 0 s0)
def fX3_total (s0 : jMem) : jO :=
jLet (s0 7 11) fun x3 =>
jLet (s0 7 10) fun x5 =>
jLet (j32 (2 * x5)) fun x6 =>
jLet (j32 (x6 + 1)) fun x7 =>
jBd (fX3_leastWith x3 x7 s0) fun x8 s9 =>
jLet (jU s9 7 12 99) fun s11 =>
jLet (jU s11 7 13 0) fun s13 =>
jLet (jcmp x8 1099511627776) fun x15 =>
if x15 = 0 then (
bX3_total_49 s13)
else (
jBd (fX3_tilesOf x8 s13) fun x18 s19 =>
jLet (jandl x8 17179869183) fun x21 =>
jBd (fX3_offer x18 x21 s19) fun x22 s23 =>
bX3_total_49 s23)
def gX3_total (vs : List Int) (s : jMem) : jO := match vs with
  | [a0] => jGd (a0 = 7) <| fX3_total s
  | _ => none
set_option maxRecDepth 100000 in
set_option maxHeartbeats 4000000 in
theorem obX3_total_95 {E : jEnv} {Rr : Int → jMem → Prop} : ∀ (l3 : Int) (s : jMem), jHo Rr (bX3_total_95 l3 s) → jGo E MX3_total 3 Rr [3, 0, 0, 1] 95 [7, 0, 0, l3] ([]) s := by
  intro l3 s0 hF
  unfold bX3_total_95 at hF
  refine ji_iload_n (n := 3) (pc := 95) l3 rfl rfl rfl dX3_total_95 (fun r1 => ?_)
  refine ji_if_eq 127 (pc := 96) r1 hF dX3_total_96 rfl (fun hF => ?_) (fun hF => ?_)
  · exact ji_retv (pc := 127) rfl hF dX3_total_127
  · refine ji_aload_n (n := 0) (pc := 99) 7 rfl rfl rfl dX3_total_99 (fun r2 => ?_)
    refine ji_getr (pc := 100) 6 wfX3_56 (jRc3 rfl) jcl_7 jrf_7_0 dX3_total_100 ?_
    refine ji_getfz (pc := 103) wfX3_129 (jRc3 rfl) jcl_6 hF dX3_total_103 (fun x3 r_x3 hF => ?_)
    refine ji_if_eq 127 (pc := 106) (jR51 r_x3) hF dX3_total_106 rfl (fun hF => ?_) (fun hF => ?_)
    · exact ji_retv (pc := 127) rfl hF dX3_total_127
    · refine ji_aload_n (n := 0) (pc := 109) 7 rfl rfl rfl dX3_total_109 (fun r4 => ?_)
      refine ji_aload_n (n := 0) (pc := 110) 7 rfl rfl rfl dX3_total_110 (fun r5 => ?_)
      refine ji_getr (pc := 111) 8 wfX3_13 (jRc3 rfl) jcl_7 jrf_7_1 dX3_total_111 ?_
      refine ji_callSi (pc := 114) [8] (jV E 3 7 :: []) oX4_lackOfOuter wlX3_132 wmX4_lackOfOuter rfl rfl (Nat.le_of_ble_eq_true rfl) (jRaC (jRc3 rfl) jRa0) rfl rfl (Nat.le_of_ble_eq_true rfl) hF dX3_total_114 (fun x6 s7 r_x6 hF => ?_)
      refine ji_aload_n (n := 0) (pc := 117) 7 rfl rfl rfl dX3_total_117 (fun r8 => ?_)
      refine ji_getr (pc := 118) 8 wfX3_13 (jRc3 rfl) jcl_7 jrf_7_1 dX3_total_118 ?_
      refine ji_callSl (pc := 121) [8] (jV E 1 x6 :: jV E 3 7 :: []) oX4_helpersOfOuter wlX3_135 wmX4_helpersOfOuter rfl rfl (Nat.le_of_ble_eq_true rfl) (jRaC (jRc3 rfl) jRa0) rfl rfl (Nat.le_of_ble_eq_true rfl) hF dX3_total_121 (fun x9 s10 r_x9 hF => ?_)
      refine ji_callVv (pc := 124) 7 [x6, x9] ([]) oX3_offer wlX3_111 wmX3_offer rfl rfl (Nat.le_of_ble_eq_true rfl) (jRaC (jRc3 rfl) (jRaC r_x6 (jRaC r_x9 jRa0))) rfl jcl_7 rfl (Nat.le_of_ble_eq_true rfl) hF dX3_total_124 (fun x11 s12 hF => ?_)
      exact ji_retv (pc := 127) rfl hF dX3_total_127
set_option maxRecDepth 100000 in
set_option maxHeartbeats 4000000 in
theorem obX3_total_62 {E : jEnv} {Rr : Int → jMem → Prop} : ∀ (t0 : Int) (s : jMem), jR 1 t0 → jHo Rr (bX3_total_62 t0 s) → jGo E MX3_total 3 Rr [3, 0, 0, 0] 62 [7, 0, 0, 0] (jV E 1 t0 :: []) s := by
  intro t0 s0 r_t0 hF
  unfold bX3_total_62 at hF
  refine ji_istore_n (n := 3) (pc := 62) [3, 0, 0, 1] [7, 0, 0, t0] rfl r_t0 (Nat.le_of_ble_eq_true rfl) rfl rfl dX3_total_62 ?_
  refine ji_iload_n (n := 3) (pc := 63) t0 rfl rfl rfl dX3_total_63 (fun r1 => ?_)
  refine ji_if_eq 95 (pc := 64) r1 hF dX3_total_64 rfl (fun hF => ?_) (fun hF => ?_)
  · refine jg_norm [3, 0, 0, 1] [7, 0, 0, t0] rfl rfl ?_
    exact obX3_total_95 _ _ hF
  · refine ji_aload_n (n := 0) (pc := 67) 7 rfl rfl rfl dX3_total_67 (fun r2 => ?_)
    refine ji_getr (pc := 68) 6 wfX3_56 (jRc3 rfl) jcl_7 jrf_7_0 dX3_total_68 ?_
    refine ji_getfz (pc := 71) wfX3_115 (jRc3 rfl) jcl_6 hF dX3_total_71 (fun x3 r_x3 hF => ?_)
    refine ji_if_eq 95 (pc := 74) (jR51 r_x3) hF dX3_total_74 rfl (fun hF => ?_) (fun hF => ?_)
    · refine jg_norm [3, 0, 0, 1] [7, 0, 0, t0] rfl rfl ?_
      exact obX3_total_95 _ _ hF
    · refine ji_aload_n (n := 0) (pc := 77) 7 rfl rfl rfl dX3_total_77 (fun r4 => ?_)
      refine ji_aload_n (n := 0) (pc := 78) 7 rfl rfl rfl dX3_total_78 (fun r5 => ?_)
      refine ji_getr (pc := 79) 8 wfX3_13 (jRc3 rfl) jcl_7 jrf_7_1 dX3_total_79 ?_
      refine ji_callSi (pc := 82) [8] (jV E 3 7 :: []) oX4_lackOfSeven wlX3_121 wmX4_lackOfSeven rfl rfl (Nat.le_of_ble_eq_true rfl) (jRaC (jRc3 rfl) jRa0) rfl rfl (Nat.le_of_ble_eq_true rfl) hF dX3_total_82 (fun x6 s7 r_x6 hF => ?_)
      refine ji_aload_n (n := 0) (pc := 85) 7 rfl rfl rfl dX3_total_85 (fun r8 => ?_)
      refine ji_getr (pc := 86) 8 wfX3_13 (jRc3 rfl) jcl_7 jrf_7_1 dX3_total_86 ?_
      refine ji_callSl (pc := 89) [8] (jV E 1 x6 :: jV E 3 7 :: []) oX4_helpersOfSeven wlX3_125 wmX4_helpersOfSeven rfl rfl (Nat.le_of_ble_eq_true rfl) (jRaC (jRc3 rfl) jRa0) rfl rfl (Nat.le_of_ble_eq_true rfl) hF dX3_total_89 (fun x9 s10 r_x9 hF => ?_)
      refine ji_callVv (pc := 92) 7 [x6, x9] ([]) oX3_offer wlX3_111 wmX3_offer rfl rfl (Nat.le_of_ble_eq_true rfl) (jRaC (jRc3 rfl) (jRaC r_x6 (jRaC r_x9 jRa0))) rfl jcl_7 rfl (Nat.le_of_ble_eq_true rfl) hF dX3_total_92 (fun x11 s12 hF => ?_)
      refine jg_norm [3, 0, 0, 1] [7, 0, 0, t0] rfl rfl ?_
      exact obX3_total_95 _ _ hF
set_option maxRecDepth 100000 in
set_option maxHeartbeats 4000000 in
theorem obX3_total_49 {E : jEnv} {Rr : Int → jMem → Prop} : ∀ (s : jMem), jHo Rr (bX3_total_49 s) → jGo E MX3_total 3 Rr [3, 0, 0, 0] 49 [7, 0, 0, 0] ([]) s := by
  intro s0 hF
  unfold bX3_total_49 at hF
  refine ji_aload_n (n := 0) (pc := 49) 7 rfl rfl rfl dX3_total_49 (fun r1 => ?_)
  refine ji_getfi (pc := 50) wfX3_43 (jRc3 rfl) jcl_7 hF dX3_total_50 (fun x2 r_x2 hF => ?_)
  refine ji_iconst (pc := 53) dX3_total_53 ?_
  refine ji_icmp_ne 61 (pc := 54) r_x2 (jRc rfl) hF dX3_total_54 rfl (fun hF => ?_) (fun hF => ?_)
  · refine ji_iconst (pc := 61) dX3_total_61 ?_
    refine jg_norm [3, 0, 0, 0] [7, 0, 0, 0] rfl rfl ?_
    exact obX3_total_62 _ _ (jRc rfl) hF
  · refine ji_iconst (pc := 57) dX3_total_57 ?_
    refine jg_goto (pc := 58) 62 dX3_total_58 rfl ?_
    refine jg_norm [3, 0, 0, 0] [7, 0, 0, 0] rfl rfl ?_
    exact obX3_total_62 _ _ (jRc rfl) hF
set_option maxRecDepth 100000 in
set_option maxHeartbeats 4000000 in
theorem oX3_total : jOk MX3_total [3] 3 (jFn gX3_total) := by
  refine jOk_fn (by decide +kernel) (Nat.le_of_ble_eq_true rfl) (by decide +kernel) (.inl rfl) ?_
  intro E vs s0 Rr hF ha
  obtain ⟨l0, t0, rfl, r_l0, ha⟩ := jRa_ci ha
  obtain rfl := jRa_ni ha
  replace hF : jHo Rr (jGd (l0 = 7) <| fX3_total s0) := hF
  have hG := jHo_as hF
  clear hF
  obtain ⟨rfl, hF⟩ := hG
  refine jg_norm [3, 0, 0, 0] [7, 0, 0, 0] rfl rfl ?_
  unfold fX3_total at hF
  refine ji_aload_n (n := 0) (pc := 0) 7 rfl rfl rfl dX3_total_0 (fun r1 => ?_)
  refine ji_aload_n (n := 0) (pc := 1) 7 rfl rfl rfl dX3_total_1 (fun r2 => ?_)
  refine ji_getfi (pc := 2) wfX3_46 (jRc3 rfl) jcl_7 hF dX3_total_2 (fun x3 r_x3 hF => ?_)
  refine ji_iconst (pc := 5) dX3_total_5 ?_
  refine ji_aload_n (n := 0) (pc := 6) 7 rfl rfl rfl dX3_total_6 (fun r4 => ?_)
  refine ji_getfi (pc := 7) wfX3_43 (jRc3 rfl) jcl_7 hF dX3_total_7 (fun x5 r_x5 hF => ?_)
  refine ji_imul (pc := 10)  hF dX3_total_10 (fun x6 r_x6 hF => ?_)
  refine ji_iconst (pc := 11) dX3_total_11 ?_
  refine ji_iadd (pc := 12)  hF dX3_total_12 (fun x7 r_x7 hF => ?_)
  refine ji_callVl (pc := 13) 7 [x3, x7] ([]) oX3_leastWith wlX3_105 wmX3_leastWith rfl rfl (Nat.le_of_ble_eq_true rfl) (jRaC (jRc3 rfl) (jRaC r_x3 (jRaC r_x7 jRa0))) rfl jcl_7 rfl (Nat.le_of_ble_eq_true rfl) hF dX3_total_13 (fun x8 s9 r_x8 hF => ?_)
  refine ji_lstore_n (n := 1) (pc := 16) [3, 2, 0, 0] [7, x8, 0, 0] rfl r_x8 (Nat.le_of_ble_eq_true rfl) rfl rfl dX3_total_16 ?_
  refine ji_aload_n (n := 0) (pc := 17) 7 rfl rfl rfl dX3_total_17 (fun r10 => ?_)
  refine jg_bipush (pc := 18) rfl dX3_total_18 ?_
  refine ji_putfi (pc := 20) wpX3_49 (jRc3 rfl) jcl_7 (jRc rfl) hF dX3_total_20 (fun s11 hF => ?_)
  refine ji_aload_n (n := 0) (pc := 23) 7 rfl rfl rfl dX3_total_23 (fun r12 => ?_)
  refine jg_lconst (n := 0) (pc := 24) rfl dX3_total_24 ?_
  refine ji_putfl (pc := 25) wpX3_52 (jRc3 rfl) jcl_7 (jRc2 rfl) hF dX3_total_25 (fun s13 hF => ?_)
  refine ji_lload_n (n := 1) (pc := 28) x8 rfl rfl rfl dX3_total_28 (fun r14 => ?_)
  refine jg_ldc2 (n := 1099511627776) (pc := 29) wnX3_86 dX3_total_29 ?_
  refine ji_lcmp (pc := 32) r14 (jRc2 rfl) hF dX3_total_32 (fun x15 r_x15 hF => ?_)
  refine ji_if_eq 49 (pc := 33) r_x15 hF dX3_total_33 rfl (fun hF => ?_) (fun hF => ?_)
  · refine jg_norm [3, 0, 0, 0] [7, 0, 0, 0] rfl rfl ?_
    exact obX3_total_49 _ hF
  · refine ji_aload_n (n := 0) (pc := 36) 7 rfl rfl rfl dX3_total_36 (fun r16 => ?_)
    refine ji_lload_n (n := 1) (pc := 37) x8 rfl rfl rfl dX3_total_37 (fun r17 => ?_)
    refine ji_callSi (pc := 38) [x8] (jV E 3 7 :: []) oX3_tilesOf wlX3_88 wmX3_tilesOf rfl rfl (Nat.le_of_ble_eq_true rfl) (jRaC r17 jRa0) rfl rfl (Nat.le_of_ble_eq_true rfl) hF dX3_total_38 (fun x18 s19 r_x18 hF => ?_)
    refine ji_lload_n (n := 1) (pc := 41) x8 rfl rfl rfl dX3_total_41 (fun r20 => ?_)
    refine jg_ldc2 (n := 17179869183) (pc := 42) wnX3_109 dX3_total_42 ?_
    refine ji_land (pc := 45)  hF dX3_total_45 (fun x21 r_x21 hF => ?_)
    refine ji_callVv (pc := 46) 7 [x18, x21] ([]) oX3_offer wlX3_111 wmX3_offer rfl rfl (Nat.le_of_ble_eq_true rfl) (jRaC (jRc3 rfl) (jRaC r_x18 (jRaC r_x21 jRa0))) rfl jcl_7 rfl (Nat.le_of_ble_eq_true rfl) hF dX3_total_46 (fun x22 s23 hF => ?_)
    refine jg_norm [3, 0, 0, 0] [7, 0, 0, 0] rfl rfl ?_
    exact obX3_total_49 _ hF
def bX3_reckon_8 (rec : Int → jMem → jO) (l3 : Int) (s0 : jMem) : jO :=
if 4 ≤ l3 then (
jBd (fX3_addAllBut 3 s0) fun x3 s4 =>
jBd (fX3_total s4) fun x6 s7 =>
jRet 0 s7)
else (
jBd (fX3_workOut l3 s0) fun x10 s11 =>
jLet (j32 (l3 + 1)) fun x12 =>
rec x12 s11)
def fX3_reckon (l1 l2 : Int) (s0 : jMem) : jO :=
jBd (fX3_look l1 l2 s0) fun x4 s5 =>
jIt (fun _ _ => none) (bX3_reckon_8) 1000 0 s5
def gX3_reckon (vs : List Int) (s : jMem) : jO := match vs with
  | [a0, a1, a2] => jGd (a0 = 7) <| fX3_reckon a1 a2 s
  | _ => none
set_option maxRecDepth 100000 in
set_option maxHeartbeats 4000000 in
theorem obX3_reckon_8 {E : jEnv} {Rr : Int → jMem → Prop} {rec : Int → jMem → jO} (hrec : ∀ (l3 : Int) (s : jMem), jHo Rr (rec l3 s) → jGo E MX3_reckon 4 Rr [3, 0, 0, 1] 8 [7, 0, 0, l3] ([]) s) : ∀ (l3 : Int) (s : jMem), jHo Rr (bX3_reckon_8 rec l3 s) → jGo E MX3_reckon 4 Rr [3, 0, 0, 1] 8 [7, 0, 0, l3] ([]) s := by
  intro l3 s0 hF
  unfold bX3_reckon_8 at hF
  refine ji_iload_n (n := 3) (pc := 8) l3 rfl rfl rfl dX3_reckon_8 (fun r1 => ?_)
  refine ji_iconst (pc := 9) dX3_reckon_9 ?_
  refine ji_icmp_ge 24 (pc := 10) r1 (jRc rfl) hF dX3_reckon_10 rfl (fun hF => ?_) (fun hF => ?_)
  · refine ji_aload_n (n := 0) (pc := 24) 7 rfl rfl rfl dX3_reckon_24 (fun r2 => ?_)
    refine ji_iconst (pc := 25) dX3_reckon_25 ?_
    refine ji_callVv (pc := 26) 7 [3] ([]) oX3_addAllBut wlX3_76 wmX3_addAllBut rfl rfl (Nat.le_of_ble_eq_true rfl) (jRaC (jRc3 rfl) (jRaC (jRc rfl) jRa0)) rfl jcl_7 rfl (Nat.le_of_ble_eq_true rfl) hF dX3_reckon_26 (fun x3 s4 hF => ?_)
    refine ji_aload_n (n := 0) (pc := 29) 7 rfl rfl rfl dX3_reckon_29 (fun r5 => ?_)
    refine ji_callVv (pc := 30) 7 [] ([]) oX3_total wlX3_79 wmX3_total rfl rfl (Nat.le_of_ble_eq_true rfl) (jRaC (jRc3 rfl) jRa0) rfl jcl_7 rfl (Nat.le_of_ble_eq_true rfl) hF dX3_reckon_30 (fun x6 s7 hF => ?_)
    exact ji_retv (pc := 33) rfl hF dX3_reckon_33
  · refine ji_aload_n (n := 0) (pc := 13) 7 rfl rfl rfl dX3_reckon_13 (fun r8 => ?_)
    refine ji_iload_n (n := 3) (pc := 14) l3 rfl rfl rfl dX3_reckon_14 (fun r9 => ?_)
    refine ji_callVv (pc := 15) 7 [l3] ([]) oX3_workOut wlX3_72 wmX3_workOut rfl rfl (Nat.le_of_ble_eq_true rfl) (jRaC (jRc3 rfl) (jRaC r9 jRa0)) rfl jcl_7 rfl (Nat.le_of_ble_eq_true rfl) hF dX3_reckon_15 (fun x10 s11 hF => ?_)
    refine ji_iinc (pc := 18) l3 (fun w => [7, 0, 0, w]) rfl rfl rfl (fun _ => rfl) hF dX3_reckon_18 (fun x12 r_x12 hF => ?_)
    refine jg_goto (pc := 21) 8 dX3_reckon_21 rfl ?_
    refine jg_norm [3, 0, 0, 1] [7, 0, 0, x12] rfl rfl ?_
    exact hrec _ _ hF
theorem obX3_reckon_8W {E : jEnv} {Rr : Int → jMem → Prop} : ∀ n : Nat, ∀ (l3 : Int) (s : jMem), jHo Rr (jIt (fun _ _ => none) (bX3_reckon_8) n l3 s) → jGo E MX3_reckon 4 Rr [3, 0, 0, 1] 8 [7, 0, 0, l3] ([]) s := by
  intro n
  induction n with
  | zero => intro l3 s hF; exact jHo_none hF
  | succ n ih => exact obX3_reckon_8 ih

set_option maxRecDepth 100000 in
set_option maxHeartbeats 4000000 in
theorem oX3_reckon : jOk MX3_reckon [3, 3, 1] 4 (jFn gX3_reckon) := by
  refine jOk_fn (by decide +kernel) (Nat.le_of_ble_eq_true rfl) (by decide +kernel) (.inl rfl) ?_
  intro E vs s0 Rr hF ha
  obtain ⟨l0, t0, rfl, r_l0, ha⟩ := jRa_ci ha
  obtain ⟨l1, t1, rfl, r_l1, ha⟩ := jRa_ci ha
  obtain ⟨l2, t2, rfl, r_l2, ha⟩ := jRa_ci ha
  obtain rfl := jRa_ni ha
  replace hF : jHo Rr (jGd (l0 = 7) <| fX3_reckon l1 l2 s0) := hF
  have hG := jHo_as hF
  clear hF
  obtain ⟨rfl, hF⟩ := hG
  refine jg_norm [3, 3, 1, 0] [7, l1, l2, 0] rfl rfl ?_
  unfold fX3_reckon at hF
  refine ji_aload_n (n := 0) (pc := 0) 7 rfl rfl rfl dX3_reckon_0 (fun r1 => ?_)
  refine ji_aload_n (n := 1) (pc := 1) l1 rfl rfl rfl dX3_reckon_1 (fun r2 => ?_)
  refine ji_iload_n (n := 2) (pc := 2) l2 rfl rfl rfl dX3_reckon_2 (fun r3 => ?_)
  refine ji_callVv (pc := 3) 7 [l1, l2] ([]) oX3_look wlX3_68 wmX3_look rfl rfl (Nat.le_of_ble_eq_true rfl) (jRaC (jRc3 rfl) (jRaC r2 (jRaC r3 jRa0))) rfl jcl_7 rfl (Nat.le_of_ble_eq_true rfl) hF dX3_reckon_3 (fun x4 s5 hF => ?_)
  refine ji_iconst (pc := 6) dX3_reckon_6 ?_
  refine ji_istore_n (n := 3) (pc := 7) [3, 3, 1, 1] [7, l1, l2, 0] rfl (jRc rfl) (Nat.le_of_ble_eq_true rfl) rfl rfl dX3_reckon_7 ?_
  refine jg_norm [3, 0, 0, 1] [7, 0, 0, 0] rfl rfl ?_
  exact obX3_reckon_8W 1000 _ _ hF
def fX8_rowOf (l0 : Int) (s0 : jMem) : jO :=
jGd (¬ (9 : Int) = 0) <| jLet (jdiv l0 9) fun x2 =>
jRet x2 s0
def gX8_rowOf (vs : List Int) (s : jMem) : jO := match vs with
  | [a0] => fX8_rowOf a0 s
  | _ => none
set_option maxRecDepth 100000 in
set_option maxHeartbeats 4000000 in
theorem oX8_rowOf : jOk MX8_rowOf [1] 0 (jFn gX8_rowOf) := by
  refine jOk_fn (by decide +kernel) (Nat.le_of_ble_eq_true rfl) (by decide +kernel) (.inr (.inl rfl)) ?_
  intro E vs s0 Rr hF ha
  obtain ⟨l0, t0, rfl, r_l0, ha⟩ := jRa_ci ha
  obtain rfl := jRa_ni ha
  replace hF : jHo Rr (fX8_rowOf l0 s0) := hF
  refine jg_norm [1] [l0] rfl rfl ?_
  unfold fX8_rowOf at hF
  refine ji_iload_n (n := 0) (pc := 0) l0 rfl rfl rfl dX8_rowOf_0 (fun r1 => ?_)
  refine jg_bipush (pc := 1) rfl dX8_rowOf_1 ?_
  refine ji_idiv (pc := 3) (jRc rfl) hF dX8_rowOf_3 (fun x2 r_x2 hF => ?_)
  exact ji_reti (pc := 4) rfl r_x2 hF dX8_rowOf_4
def fX3_change (l1 l2 : Int) (s0 : jMem) : jO :=
jBd (fX8_rowOf l1 s0) fun x2 s3 =>
jGd ((0 : Int) ≤ l1 ∧ l1 < jik 8) <| jLet (s3 8 l1) fun x6 =>
jLet (j32 (x6 + l2)) fun x8 =>
jGd ((0 : Int) ≤ l1 ∧ l1 < jik 8) <| jLet (jU s3 8 l1 x8) fun s9 =>
jBd (fX3_workOut x2 s9) fun x12 s13 =>
jLet (s13 7 11) fun x16 =>
if x2 = x16 then (
jRet 0 s13)
else (
jBd (fX3_addAllBut x2 s13) fun x19 s20 =>
jRet 0 s20)
def gX3_change (vs : List Int) (s : jMem) : jO := match vs with
  | [a0, a1, a2] => jGd (a0 = 7) <| fX3_change a1 a2 s
  | _ => none
set_option maxRecDepth 100000 in
set_option maxHeartbeats 4000000 in
theorem oX3_change : jOk MX3_change [3, 1, 1] 4 (jFn gX3_change) := by
  refine jOk_fn (by decide +kernel) (Nat.le_of_ble_eq_true rfl) (by decide +kernel) (.inl rfl) ?_
  intro E vs s0 Rr hF ha
  obtain ⟨l0, t0, rfl, r_l0, ha⟩ := jRa_ci ha
  obtain ⟨l1, t1, rfl, r_l1, ha⟩ := jRa_ci ha
  obtain ⟨l2, t2, rfl, r_l2, ha⟩ := jRa_ci ha
  obtain rfl := jRa_ni ha
  replace hF : jHo Rr (jGd (l0 = 7) <| fX3_change l1 l2 s0) := hF
  have hG := jHo_as hF
  clear hF
  obtain ⟨rfl, hF⟩ := hG
  refine jg_norm [3, 1, 1, 0] [7, l1, l2, 0] rfl rfl ?_
  unfold fX3_change at hF
  refine ji_iload_n (n := 1) (pc := 0) l1 rfl rfl rfl dX3_change_0 (fun r1 => ?_)
  refine ji_callSi (pc := 1) [l1] ([]) oX8_rowOf wlX3_82 wmX8_rowOf rfl rfl (Nat.le_of_ble_eq_true rfl) (jRaC r1 jRa0) rfl rfl (Nat.le_of_ble_eq_true rfl) hF dX3_change_1 (fun x2 s3 r_x2 hF => ?_)
  refine ji_istore_n (n := 3) (pc := 4) [3, 1, 1, 1] [7, l1, l2, x2] rfl r_x2 (Nat.le_of_ble_eq_true rfl) rfl rfl dX3_change_4 ?_
  refine ji_aload_n (n := 0) (pc := 5) 7 rfl rfl rfl dX3_change_5 (fun r4 => ?_)
  refine ji_getr (pc := 6) 8 wfX3_13 (jRc3 rfl) jcl_7 jrf_7_1 dX3_change_6 ?_
  refine ji_iload_n (n := 1) (pc := 9) l1 rfl rfl rfl dX3_change_9 (fun r5 => ?_)
  refine jg_dup2 (pc := 10) (by decide) (by decide) dX3_change_10 ?_
  refine ji_iaload (pc := 11) (jRc3 rfl) r5 hF dX3_change_11 (fun x6 r_x6 hF => ?_)
  refine ji_iload_n (n := 2) (pc := 12) l2 rfl rfl rfl dX3_change_12 (fun r7 => ?_)
  refine ji_iadd (pc := 13)  hF dX3_change_13 (fun x8 r_x8 hF => ?_)
  refine ji_iastore (pc := 14) (jRc3 rfl) r5 r_x8 hF dX3_change_14 (fun s9 hF => ?_)
  refine ji_aload_n (n := 0) (pc := 15) 7 rfl rfl rfl dX3_change_15 (fun r10 => ?_)
  refine ji_iload_n (n := 3) (pc := 16) x2 rfl rfl rfl dX3_change_16 (fun r11 => ?_)
  refine ji_callVv (pc := 17) 7 [x2] ([]) oX3_workOut wlX3_72 wmX3_workOut rfl rfl (Nat.le_of_ble_eq_true rfl) (jRaC (jRc3 rfl) (jRaC r11 jRa0)) rfl jcl_7 rfl (Nat.le_of_ble_eq_true rfl) hF dX3_change_17 (fun x12 s13 hF => ?_)
  refine ji_iload_n (n := 3) (pc := 20) x2 rfl rfl rfl dX3_change_20 (fun r14 => ?_)
  refine ji_aload_n (n := 0) (pc := 21) 7 rfl rfl rfl dX3_change_21 (fun r15 => ?_)
  refine ji_getfi (pc := 22) wfX3_46 (jRc3 rfl) jcl_7 hF dX3_change_22 (fun x16 r_x16 hF => ?_)
  refine ji_icmp_eq 33 (pc := 25) r14 r_x16 hF dX3_change_25 rfl (fun hF => ?_) (fun hF => ?_)
  · exact ji_retv (pc := 33) rfl hF dX3_change_33
  · refine ji_aload_n (n := 0) (pc := 28) 7 rfl rfl rfl dX3_change_28 (fun r17 => ?_)
    refine ji_iload_n (n := 3) (pc := 29) x2 rfl rfl rfl dX3_change_29 (fun r18 => ?_)
    refine ji_callVv (pc := 30) 7 [x2] ([]) oX3_addAllBut wlX3_76 wmX3_addAllBut rfl rfl (Nat.le_of_ble_eq_true rfl) (jRaC (jRc3 rfl) (jRaC r18 jRa0)) rfl jcl_7 rfl (Nat.le_of_ble_eq_true rfl) hF dX3_change_30 (fun x19 s20 hF => ?_)
    exact ji_retv (pc := 33) rfl hF dX3_change_33
def fX3_isHelper (l1 : Int) (s0 : jMem) : jO :=
jLet (s0 7 13) fun x2 =>
jLet (jshrl x2 l1) fun x4 =>
jLet (jandl x4 1) fun x5 =>
jLet (jcmp x5 1) fun x6 =>
if x6 = 0 then (
jRet 1 s0)
else (
jRet 0 s0)
def gX3_isHelper (vs : List Int) (s : jMem) : jO := match vs with
  | [a0, a1] => jGd (a0 = 7) <| fX3_isHelper a1 s
  | _ => none
set_option maxRecDepth 100000 in
set_option maxHeartbeats 4000000 in
theorem oX3_isHelper : jOk MX3_isHelper [3, 1] 0 (jFn gX3_isHelper) := by
  refine jOk_fn (by decide +kernel) (Nat.le_of_ble_eq_true rfl) (by decide +kernel) (.inr (.inr (.inr rfl))) ?_
  intro E vs s0 Rr hF ha
  obtain ⟨l0, t0, rfl, r_l0, ha⟩ := jRa_ci ha
  obtain ⟨l1, t1, rfl, r_l1, ha⟩ := jRa_ci ha
  obtain rfl := jRa_ni ha
  replace hF : jHo Rr (jGd (l0 = 7) <| fX3_isHelper l1 s0) := hF
  have hG := jHo_as hF
  clear hF
  obtain ⟨rfl, hF⟩ := hG
  refine jg_norm [3, 1] [7, l1] rfl rfl ?_
  unfold fX3_isHelper at hF
  refine ji_aload_n (n := 0) (pc := 0) 7 rfl rfl rfl dX3_isHelper_0 (fun r1 => ?_)
  refine ji_getfl (pc := 1) wfX3_52 (jRc3 rfl) jcl_7 hF dX3_isHelper_1 (fun x2 r_x2 hF => ?_)
  refine ji_iload_n (n := 1) (pc := 4) l1 rfl rfl rfl dX3_isHelper_4 (fun r3 => ?_)
  refine ji_lshr (pc := 5)  hF dX3_isHelper_5 (fun x4 r_x4 hF => ?_)
  refine jg_lconst (n := 1) (pc := 6) rfl dX3_isHelper_6 ?_
  refine ji_land (pc := 7)  hF dX3_isHelper_7 (fun x5 r_x5 hF => ?_)
  refine jg_lconst (n := 1) (pc := 8) rfl dX3_isHelper_8 ?_
  refine ji_lcmp (pc := 9) r_x5 (jRc2 rfl) hF dX3_isHelper_9 (fun x6 r_x6 hF => ?_)
  refine ji_if_ne 17 (pc := 10) r_x6 hF dX3_isHelper_10 rfl (fun hF => ?_) (fun hF => ?_)
  · refine ji_iconst (pc := 17) dX3_isHelper_17 ?_
    exact ji_retz (pc := 18) rfl (jRc5 rfl) hF dX3_isHelper_18
  · refine ji_iconst (pc := 13) dX3_isHelper_13 ?_
    refine jg_goto (pc := 14) 18 dX3_isHelper_14 rfl ?_
    exact ji_retz (pc := 18) rfl (jRc5 rfl) hF dX3_isHelper_18
def bX3_helper_27 (k4 : Int → Int → jMem → jO) (l2 l3 : Int) (s0 : jMem) : jO :=
jLet (j32 (l3 + 1)) fun x1 =>
k4 l2 x1 s0
def bX3_helper_4 (rec : Int → Int → jMem → jO) (l2 l3 : Int) (s0 : jMem) : jO :=
if 34 ≤ l3 then (
jRet (-3) s0)
else (
jBd (fX3_isHelper l3 s0) fun x4 s5 =>
if x4 = 0 then (
bX3_helper_27 rec l2 l3 s5)
else (
if l2 = 0 then (
jRet l3 s5)
else (
jLet (j32 (l2 + (-1))) fun x7 =>
bX3_helper_27 rec x7 l3 s5)))
def fX3_helper (l1 : Int) (s0 : jMem) : jO :=
jIt (fun _ _ _ => none) (bX3_helper_4) 1000 l1 0 s0
def gX3_helper (vs : List Int) (s : jMem) : jO := match vs with
  | [a0, a1] => jGd (a0 = 7) <| fX3_helper a1 s
  | _ => none
set_option maxRecDepth 100000 in
set_option maxHeartbeats 4000000 in
theorem obX3_helper_27 {E : jEnv} {Rr : Int → jMem → Prop} {k4 : Int → Int → jMem → jO} (hk4 : ∀ (l2 l3 : Int) (s : jMem), jHo Rr (k4 l2 l3 s) → jGo E MX3_helper 1 Rr [3, 0, 1, 1] 4 [7, 0, l2, l3] ([]) s) : ∀ (l2 l3 : Int) (s : jMem), jHo Rr (bX3_helper_27 k4 l2 l3 s) → jGo E MX3_helper 1 Rr [3, 0, 1, 1] 27 [7, 0, l2, l3] ([]) s := by
  intro l2 l3 s0 hF
  unfold bX3_helper_27 at hF
  refine ji_iinc (pc := 27) l3 (fun w => [7, 0, l2, w]) rfl rfl rfl (fun _ => rfl) hF dX3_helper_27 (fun x1 r_x1 hF => ?_)
  refine jg_goto (pc := 30) 4 dX3_helper_30 rfl ?_
  refine jg_norm [3, 0, 1, 1] [7, 0, l2, x1] rfl rfl ?_
  exact hk4 _ _ _ hF
set_option maxRecDepth 100000 in
set_option maxHeartbeats 4000000 in
theorem obX3_helper_4 {E : jEnv} {Rr : Int → jMem → Prop} {rec : Int → Int → jMem → jO} (hrec : ∀ (l2 l3 : Int) (s : jMem), jHo Rr (rec l2 l3 s) → jGo E MX3_helper 1 Rr [3, 0, 1, 1] 4 [7, 0, l2, l3] ([]) s) : ∀ (l2 l3 : Int) (s : jMem), jHo Rr (bX3_helper_4 rec l2 l3 s) → jGo E MX3_helper 1 Rr [3, 0, 1, 1] 4 [7, 0, l2, l3] ([]) s := by
  intro l2 l3 s0 hF
  unfold bX3_helper_4 at hF
  refine ji_iload_n (n := 3) (pc := 4) l3 rfl rfl rfl dX3_helper_4 (fun r1 => ?_)
  refine jg_bipush (pc := 5) rfl dX3_helper_5 ?_
  refine ji_icmp_ge 33 (pc := 7) r1 (jRc rfl) hF dX3_helper_7 rfl (fun hF => ?_) (fun hF => ?_)
  · refine jg_bipush (pc := 33) rfl dX3_helper_33 ?_
    exact ji_reti (pc := 35) rfl (jRc rfl) hF dX3_helper_35
  · refine ji_aload_n (n := 0) (pc := 10) 7 rfl rfl rfl dX3_helper_10 (fun r2 => ?_)
    refine ji_iload_n (n := 3) (pc := 11) l3 rfl rfl rfl dX3_helper_11 (fun r3 => ?_)
    refine ji_callVz (pc := 12) 7 [l3] ([]) oX3_isHelper wlX3_138 wmX3_isHelper rfl rfl (Nat.le_of_ble_eq_true rfl) (jRaC (jRc3 rfl) (jRaC r3 jRa0)) rfl jcl_7 rfl (Nat.le_of_ble_eq_true rfl) hF dX3_helper_12 (fun x4 s5 r_x4 hF => ?_)
    refine ji_if_eq 27 (pc := 15) (jR51 r_x4) hF dX3_helper_15 rfl (fun hF => ?_) (fun hF => ?_)
    · refine jg_norm [3, 0, 1, 1] [7, 0, l2, l3] rfl rfl ?_
      exact obX3_helper_27 hrec _ _ _ hF
    · refine ji_iload_n (n := 2) (pc := 18) l2 rfl rfl rfl dX3_helper_18 (fun r6 => ?_)
      refine ji_if_ne 24 (pc := 19) r6 hF dX3_helper_19 rfl (fun hF => ?_) (fun hF => ?_)
      · refine ji_iinc (pc := 24) l2 (fun w => [7, 0, w, l3]) rfl rfl rfl (fun _ => rfl) hF dX3_helper_24 (fun x7 r_x7 hF => ?_)
        refine jg_norm [3, 0, 1, 1] [7, 0, x7, l3] rfl rfl ?_
        exact obX3_helper_27 hrec _ _ _ hF
      · refine ji_iload_n (n := 3) (pc := 22) l3 rfl rfl rfl dX3_helper_22 (fun r8 => ?_)
        exact ji_reti (pc := 23) rfl r8 hF dX3_helper_23
theorem obX3_helper_4W {E : jEnv} {Rr : Int → jMem → Prop} : ∀ n : Nat, ∀ (l2 l3 : Int) (s : jMem), jHo Rr (jIt (fun _ _ _ => none) (bX3_helper_4) n l2 l3 s) → jGo E MX3_helper 1 Rr [3, 0, 1, 1] 4 [7, 0, l2, l3] ([]) s := by
  intro n
  induction n with
  | zero => intro l2 l3 s hF; exact jHo_none hF
  | succ n ih => exact obX3_helper_4 ih

set_option maxRecDepth 100000 in
set_option maxHeartbeats 4000000 in
theorem oX3_helper : jOk MX3_helper [3, 1] 1 (jFn gX3_helper) := by
  refine jOk_fn (by decide +kernel) (Nat.le_of_ble_eq_true rfl) (by decide +kernel) (.inr (.inl rfl)) ?_
  intro E vs s0 Rr hF ha
  obtain ⟨l0, t0, rfl, r_l0, ha⟩ := jRa_ci ha
  obtain ⟨l1, t1, rfl, r_l1, ha⟩ := jRa_ci ha
  obtain rfl := jRa_ni ha
  replace hF : jHo Rr (jGd (l0 = 7) <| fX3_helper l1 s0) := hF
  have hG := jHo_as hF
  clear hF
  obtain ⟨rfl, hF⟩ := hG
  refine jg_norm [3, 1, 0, 0] [7, l1, 0, 0] rfl rfl ?_
  unfold fX3_helper at hF
  refine ji_iload_n (n := 1) (pc := 0) l1 rfl rfl rfl dX3_helper_0 (fun r1 => ?_)
  refine ji_istore_n (n := 2) (pc := 1) [3, 1, 1, 0] [7, l1, l1, 0] rfl r1 (Nat.le_of_ble_eq_true rfl) rfl rfl dX3_helper_1 ?_
  refine ji_iconst (pc := 2) dX3_helper_2 ?_
  refine ji_istore_n (n := 3) (pc := 3) [3, 1, 1, 1] [7, l1, l1, 0] rfl (jRc rfl) (Nat.le_of_ble_eq_true rfl) rfl rfl dX3_helper_3 ?_
  refine jg_norm [3, 0, 1, 1] [7, 0, l1, 0] rfl rfl ?_
  exact obX3_helper_4W 1000 _ _ _ hF
def bX3_helpingOf_24 (k4 : Int → Int → Int → jMem → jO) (l1 l2 l3 : Int) (s0 : jMem) : jO :=
jLet (j32 (l3 + 1)) fun x1 =>
k4 l1 l2 x1 s0
def bX3_helpingOf_4 (rec : Int → Int → Int → jMem → jO) (l1 l2 l3 : Int) (s0 : jMem) : jO :=
if 34 ≤ l3 then (
jRet l2 s0)
else (
jBd (fX3_isHelper l3 s0) fun x5 s6 =>
if x5 = 0 then (
bX3_helpingOf_24 rec l1 l2 l3 s6)
else (
jGd ((0 : Int) ≤ l3 ∧ l3 < jik l1) <| jLet (s6 l1 l3) fun x10 =>
jLet (j32 (l2 + x10)) fun x11 =>
bX3_helpingOf_24 rec l1 x11 l3 s6))
def fX3_helpingOf (l1 : Int) (s0 : jMem) : jO :=
jIt (fun _ _ _ _ => none) (bX3_helpingOf_4) 1000 l1 0 0 s0
def gX3_helpingOf (vs : List Int) (s : jMem) : jO := match vs with
  | [a0, a1] => jGd (a0 = 7) <| fX3_helpingOf a1 s
  | _ => none
set_option maxRecDepth 100000 in
set_option maxHeartbeats 4000000 in
theorem obX3_helpingOf_24 {E : jEnv} {Rr : Int → jMem → Prop} {k4 : Int → Int → Int → jMem → jO} (hk4 : ∀ (l1 l2 l3 : Int) (s : jMem), jHo Rr (k4 l1 l2 l3 s) → jGo E MX3_helpingOf 1 Rr [3, 3, 1, 1] 4 [7, l1, l2, l3] ([]) s) : ∀ (l1 l2 l3 : Int) (s : jMem), jHo Rr (bX3_helpingOf_24 k4 l1 l2 l3 s) → jGo E MX3_helpingOf 1 Rr [3, 3, 1, 1] 24 [7, l1, l2, l3] ([]) s := by
  intro l1 l2 l3 s0 hF
  unfold bX3_helpingOf_24 at hF
  refine ji_iinc (pc := 24) l3 (fun w => [7, l1, l2, w]) rfl rfl rfl (fun _ => rfl) hF dX3_helpingOf_24 (fun x1 r_x1 hF => ?_)
  refine jg_goto (pc := 27) 4 dX3_helpingOf_27 rfl ?_
  refine jg_norm [3, 3, 1, 1] [7, l1, l2, x1] rfl rfl ?_
  exact hk4 _ _ _ _ hF
set_option maxRecDepth 100000 in
set_option maxHeartbeats 4000000 in
theorem obX3_helpingOf_4 {E : jEnv} {Rr : Int → jMem → Prop} {rec : Int → Int → Int → jMem → jO} (hrec : ∀ (l1 l2 l3 : Int) (s : jMem), jHo Rr (rec l1 l2 l3 s) → jGo E MX3_helpingOf 1 Rr [3, 3, 1, 1] 4 [7, l1, l2, l3] ([]) s) : ∀ (l1 l2 l3 : Int) (s : jMem), jHo Rr (bX3_helpingOf_4 rec l1 l2 l3 s) → jGo E MX3_helpingOf 1 Rr [3, 3, 1, 1] 4 [7, l1, l2, l3] ([]) s := by
  intro l1 l2 l3 s0 hF
  unfold bX3_helpingOf_4 at hF
  refine ji_iload_n (n := 3) (pc := 4) l3 rfl rfl rfl dX3_helpingOf_4 (fun r1 => ?_)
  refine jg_bipush (pc := 5) rfl dX3_helpingOf_5 ?_
  refine ji_icmp_ge 30 (pc := 7) r1 (jRc rfl) hF dX3_helpingOf_7 rfl (fun hF => ?_) (fun hF => ?_)
  · refine ji_iload_n (n := 2) (pc := 30) l2 rfl rfl rfl dX3_helpingOf_30 (fun r2 => ?_)
    exact ji_reti (pc := 31) rfl r2 hF dX3_helpingOf_31
  · refine ji_aload_n (n := 0) (pc := 10) 7 rfl rfl rfl dX3_helpingOf_10 (fun r3 => ?_)
    refine ji_iload_n (n := 3) (pc := 11) l3 rfl rfl rfl dX3_helpingOf_11 (fun r4 => ?_)
    refine ji_callVz (pc := 12) 7 [l3] ([]) oX3_isHelper wlX3_138 wmX3_isHelper rfl rfl (Nat.le_of_ble_eq_true rfl) (jRaC (jRc3 rfl) (jRaC r4 jRa0)) rfl jcl_7 rfl (Nat.le_of_ble_eq_true rfl) hF dX3_helpingOf_12 (fun x5 s6 r_x5 hF => ?_)
    refine ji_if_eq 24 (pc := 15) (jR51 r_x5) hF dX3_helpingOf_15 rfl (fun hF => ?_) (fun hF => ?_)
    · refine jg_norm [3, 3, 1, 1] [7, l1, l2, l3] rfl rfl ?_
      exact obX3_helpingOf_24 hrec _ _ _ _ hF
    · refine ji_iload_n (n := 2) (pc := 18) l2 rfl rfl rfl dX3_helpingOf_18 (fun r7 => ?_)
      refine ji_aload_n (n := 1) (pc := 19) l1 rfl rfl rfl dX3_helpingOf_19 (fun r8 => ?_)
      refine ji_iload_n (n := 3) (pc := 20) l3 rfl rfl rfl dX3_helpingOf_20 (fun r9 => ?_)
      refine ji_iaload (pc := 21) r8 r9 hF dX3_helpingOf_21 (fun x10 r_x10 hF => ?_)
      refine ji_iadd (pc := 22)  hF dX3_helpingOf_22 (fun x11 r_x11 hF => ?_)
      refine ji_istore_n (n := 2) (pc := 23) [3, 3, 1, 1] [7, l1, x11, l3] rfl r_x11 (Nat.le_of_ble_eq_true rfl) rfl rfl dX3_helpingOf_23 ?_
      refine jg_norm [3, 3, 1, 1] [7, l1, x11, l3] rfl rfl ?_
      exact obX3_helpingOf_24 hrec _ _ _ _ hF
theorem obX3_helpingOf_4W {E : jEnv} {Rr : Int → jMem → Prop} : ∀ n : Nat, ∀ (l1 l2 l3 : Int) (s : jMem), jHo Rr (jIt (fun _ _ _ _ => none) (bX3_helpingOf_4) n l1 l2 l3 s) → jGo E MX3_helpingOf 1 Rr [3, 3, 1, 1] 4 [7, l1, l2, l3] ([]) s := by
  intro n
  induction n with
  | zero => intro l1 l2 l3 s hF; exact jHo_none hF
  | succ n ih => exact obX3_helpingOf_4 ih

set_option maxRecDepth 100000 in
set_option maxHeartbeats 4000000 in
theorem oX3_helpingOf : jOk MX3_helpingOf [3, 3] 1 (jFn gX3_helpingOf) := by
  refine jOk_fn (by decide +kernel) (Nat.le_of_ble_eq_true rfl) (by decide +kernel) (.inr (.inl rfl)) ?_
  intro E vs s0 Rr hF ha
  obtain ⟨l0, t0, rfl, r_l0, ha⟩ := jRa_ci ha
  obtain ⟨l1, t1, rfl, r_l1, ha⟩ := jRa_ci ha
  obtain rfl := jRa_ni ha
  replace hF : jHo Rr (jGd (l0 = 7) <| fX3_helpingOf l1 s0) := hF
  have hG := jHo_as hF
  clear hF
  obtain ⟨rfl, hF⟩ := hG
  refine jg_norm [3, 3, 0, 0] [7, l1, 0, 0] rfl rfl ?_
  unfold fX3_helpingOf at hF
  refine ji_iconst (pc := 0) dX3_helpingOf_0 ?_
  refine ji_istore_n (n := 2) (pc := 1) [3, 3, 1, 0] [7, l1, 0, 0] rfl (jRc rfl) (Nat.le_of_ble_eq_true rfl) rfl rfl dX3_helpingOf_1 ?_
  refine ji_iconst (pc := 2) dX3_helpingOf_2 ?_
  refine ji_istore_n (n := 3) (pc := 3) [3, 3, 1, 1] [7, l1, 0, 0] rfl (jRc rfl) (Nat.le_of_ble_eq_true rfl) rfl rfl dX3_helpingOf_3 ?_
  refine jg_norm [3, 3, 1, 1] [7, l1, 0, 0] rfl rfl ?_
  exact obX3_helpingOf_4W 1000 _ _ _ _ hF
def bX7_rowKey_13 (rec : Int → Int → Int → Int → Int → jMem → jO) (l0 l2 l3 l4 l5 : Int) (s0 : jMem) : jO :=
if 9 ≤ l5 then (
jLet (jmax l2 l3) fun x4 =>
jRet x4 s0)
else (
jLet (j32 (l2 * 5)) fun x6 =>
jLet (j32 (l4 + l5)) fun x10 =>
jGd ((0 : Int) ≤ x10 ∧ x10 < jik l0) <| jLet (s0 l0 x10) fun x11 =>
jLet (j32 (x6 + x11)) fun x12 =>
jLet (j32 (l3 * 5)) fun x14 =>
jLet (j32 (l4 + 9)) fun x17 =>
jLet (j32 (x17 - 1)) fun x18 =>
jLet (j32 (x18 - l5)) fun x20 =>
jGd ((0 : Int) ≤ x20 ∧ x20 < jik l0) <| jLet (s0 l0 x20) fun x21 =>
jLet (j32 (x14 + x21)) fun x22 =>
jLet (j32 (l5 + 1)) fun x23 =>
rec l0 x12 x22 l4 x23 s0)
def fX7_rowKey (l0 l1 : Int) (s0 : jMem) : jO :=
jLet (j32 (l1 * 9)) fun x2 =>
jIt (fun _ _ _ _ _ _ => none) (bX7_rowKey_13) 1000 l0 0 0 x2 0 s0
def gX7_rowKey (vs : List Int) (s : jMem) : jO := match vs with
  | [a0, a1] => fX7_rowKey a0 a1 s
  | _ => none
set_option maxRecDepth 100000 in
set_option maxHeartbeats 4000000 in
theorem obX7_rowKey_13 {E : jEnv} {Rr : Int → jMem → Prop} {rec : Int → Int → Int → Int → Int → jMem → jO} (hrec : ∀ (l0 l2 l3 l4 l5 : Int) (s : jMem), jHo Rr (rec l0 l2 l3 l4 l5 s) → jGo E MX7_rowKey 1 Rr [3, 0, 1, 1, 1, 1] 13 [l0, 0, l2, l3, l4, l5] ([]) s) : ∀ (l0 l2 l3 l4 l5 : Int) (s : jMem), jHo Rr (bX7_rowKey_13 rec l0 l2 l3 l4 l5 s) → jGo E MX7_rowKey 1 Rr [3, 0, 1, 1, 1, 1] 13 [l0, 0, l2, l3, l4, l5] ([]) s := by
  intro l0 l2 l3 l4 l5 s0 hF
  unfold bX7_rowKey_13 at hF
  refine ji_iload (pc := 13) l5 rfl rfl dX7_rowKey_13 (fun r1 => ?_)
  refine jg_bipush (pc := 15) rfl dX7_rowKey_15 ?_
  refine ji_icmp_ge 55 (pc := 17) r1 (jRc rfl) hF dX7_rowKey_17 rfl (fun hF => ?_) (fun hF => ?_)
  · refine ji_iload_n (n := 2) (pc := 55) l2 rfl rfl rfl dX7_rowKey_55 (fun r2 => ?_)
    refine ji_iload_n (n := 3) (pc := 56) l3 rfl rfl rfl dX7_rowKey_56 (fun r3 => ?_)
    refine ji_max (pc := 57) r2 r3 (Nat.le_of_ble_eq_true rfl) (Nat.le_of_ble_eq_true rfl) ⟨wlX7_19, wq_max⟩ hF dX7_rowKey_57 (fun x4 r_x4 hF => ?_)
    exact ji_reti (pc := 60) rfl r_x4 hF dX7_rowKey_60
  · refine ji_iload_n (n := 2) (pc := 20) l2 rfl rfl rfl dX7_rowKey_20 (fun r5 => ?_)
    refine ji_iconst (pc := 21) dX7_rowKey_21 ?_
    refine ji_imul (pc := 22)  hF dX7_rowKey_22 (fun x6 r_x6 hF => ?_)
    refine ji_aload_n (n := 0) (pc := 23) l0 rfl rfl rfl dX7_rowKey_23 (fun r7 => ?_)
    refine ji_iload (pc := 24) l4 rfl rfl dX7_rowKey_24 (fun r8 => ?_)
    refine ji_iload (pc := 26) l5 rfl rfl dX7_rowKey_26 (fun r9 => ?_)
    refine ji_iadd (pc := 28)  hF dX7_rowKey_28 (fun x10 r_x10 hF => ?_)
    refine ji_iaload (pc := 29) r7 r_x10 hF dX7_rowKey_29 (fun x11 r_x11 hF => ?_)
    refine ji_iadd (pc := 30)  hF dX7_rowKey_30 (fun x12 r_x12 hF => ?_)
    refine ji_istore_n (n := 2) (pc := 31) [3, 0, 1, 1, 1, 1] [l0, 0, x12, l3, l4, l5] rfl r_x12 (Nat.le_of_ble_eq_true rfl) rfl rfl dX7_rowKey_31 ?_
    refine ji_iload_n (n := 3) (pc := 32) l3 rfl rfl rfl dX7_rowKey_32 (fun r13 => ?_)
    refine ji_iconst (pc := 33) dX7_rowKey_33 ?_
    refine ji_imul (pc := 34)  hF dX7_rowKey_34 (fun x14 r_x14 hF => ?_)
    refine ji_aload_n (n := 0) (pc := 35) l0 rfl rfl rfl dX7_rowKey_35 (fun r15 => ?_)
    refine ji_iload (pc := 36) l4 rfl rfl dX7_rowKey_36 (fun r16 => ?_)
    refine jg_bipush (pc := 38) rfl dX7_rowKey_38 ?_
    refine ji_iadd (pc := 40)  hF dX7_rowKey_40 (fun x17 r_x17 hF => ?_)
    refine ji_iconst (pc := 41) dX7_rowKey_41 ?_
    refine ji_isub (pc := 42)  hF dX7_rowKey_42 (fun x18 r_x18 hF => ?_)
    refine ji_iload (pc := 43) l5 rfl rfl dX7_rowKey_43 (fun r19 => ?_)
    refine ji_isub (pc := 45)  hF dX7_rowKey_45 (fun x20 r_x20 hF => ?_)
    refine ji_iaload (pc := 46) r15 r_x20 hF dX7_rowKey_46 (fun x21 r_x21 hF => ?_)
    refine ji_iadd (pc := 47)  hF dX7_rowKey_47 (fun x22 r_x22 hF => ?_)
    refine ji_istore_n (n := 3) (pc := 48) [3, 0, 1, 1, 1, 1] [l0, 0, x12, x22, l4, l5] rfl r_x22 (Nat.le_of_ble_eq_true rfl) rfl rfl dX7_rowKey_48 ?_
    refine ji_iinc (pc := 49) l5 (fun w => [l0, 0, x12, x22, l4, w]) rfl rfl rfl (fun _ => rfl) hF dX7_rowKey_49 (fun x23 r_x23 hF => ?_)
    refine jg_goto (pc := 52) 13 dX7_rowKey_52 rfl ?_
    refine jg_norm [3, 0, 1, 1, 1, 1] [l0, 0, x12, x22, l4, x23] rfl rfl ?_
    exact hrec _ _ _ _ _ _ hF
theorem obX7_rowKey_13W {E : jEnv} {Rr : Int → jMem → Prop} : ∀ n : Nat, ∀ (l0 l2 l3 l4 l5 : Int) (s : jMem), jHo Rr (jIt (fun _ _ _ _ _ _ => none) (bX7_rowKey_13) n l0 l2 l3 l4 l5 s) → jGo E MX7_rowKey 1 Rr [3, 0, 1, 1, 1, 1] 13 [l0, 0, l2, l3, l4, l5] ([]) s := by
  intro n
  induction n with
  | zero => intro l0 l2 l3 l4 l5 s hF; exact jHo_none hF
  | succ n ih => exact obX7_rowKey_13 ih

set_option maxRecDepth 100000 in
set_option maxHeartbeats 4000000 in
theorem oX7_rowKey : jOk MX7_rowKey [3, 1] 1 (jFn gX7_rowKey) := by
  refine jOk_fn (by decide +kernel) (Nat.le_of_ble_eq_true rfl) (by decide +kernel) (.inr (.inl rfl)) ?_
  intro E vs s0 Rr hF ha
  obtain ⟨l0, t0, rfl, r_l0, ha⟩ := jRa_ci ha
  obtain ⟨l1, t1, rfl, r_l1, ha⟩ := jRa_ci ha
  obtain rfl := jRa_ni ha
  replace hF : jHo Rr (fX7_rowKey l0 l1 s0) := hF
  refine jg_norm [3, 1, 0, 0, 0, 0] [l0, l1, 0, 0, 0, 0] rfl rfl ?_
  unfold fX7_rowKey at hF
  refine ji_iconst (pc := 0) dX7_rowKey_0 ?_
  refine ji_istore_n (n := 2) (pc := 1) [3, 1, 1, 0, 0, 0] [l0, l1, 0, 0, 0, 0] rfl (jRc rfl) (Nat.le_of_ble_eq_true rfl) rfl rfl dX7_rowKey_1 ?_
  refine ji_iconst (pc := 2) dX7_rowKey_2 ?_
  refine ji_istore_n (n := 3) (pc := 3) [3, 1, 1, 1, 0, 0] [l0, l1, 0, 0, 0, 0] rfl (jRc rfl) (Nat.le_of_ble_eq_true rfl) rfl rfl dX7_rowKey_3 ?_
  refine ji_iload_n (n := 1) (pc := 4) l1 rfl rfl rfl dX7_rowKey_4 (fun r1 => ?_)
  refine jg_bipush (pc := 5) rfl dX7_rowKey_5 ?_
  refine ji_imul (pc := 7)  hF dX7_rowKey_7 (fun x2 r_x2 hF => ?_)
  refine ji_istore (n := 4) (pc := 8) [3, 1, 1, 1, 1, 0] [l0, l1, 0, 0, x2, 0] r_x2 (Nat.le_of_ble_eq_true rfl) rfl rfl dX7_rowKey_8 ?_
  refine ji_iconst (pc := 10) dX7_rowKey_10 ?_
  refine ji_istore (n := 5) (pc := 11) [3, 1, 1, 1, 1, 1] [l0, l1, 0, 0, x2, 0] (jRc rfl) (Nat.le_of_ble_eq_true rfl) rfl rfl dX7_rowKey_11 ?_
  refine jg_norm [3, 0, 1, 1, 1, 1] [l0, 0, 0, 0, x2, 0] rfl rfl ?_
  exact obX7_rowKey_13W 1000 _ _ _ _ _ _ hF
def bX7_lastRowKey_4 (rec : Int → Int → Int → jMem → jO) (l0 l1 l2 : Int) (s0 : jMem) : jO :=
if 7 ≤ l2 then (
jRet l1 s0)
else (
jLet (j32 (27 + l2)) fun x6 =>
jGd ((0 : Int) ≤ x6 ∧ x6 < jik l0) <| jLet (s0 l0 x6) fun x7 =>
jLet (j32 (3 * x7)) fun x8 =>
jLet (jshl 1 x8) fun x9 =>
jLet (j32 (l1 + x9)) fun x10 =>
jLet (j32 (l2 + 1)) fun x11 =>
rec l0 x10 x11 s0)
def fX7_lastRowKey (l0 : Int) (s0 : jMem) : jO :=
jIt (fun _ _ _ _ => none) (bX7_lastRowKey_4) 1000 l0 0 0 s0
def gX7_lastRowKey (vs : List Int) (s : jMem) : jO := match vs with
  | [a0] => fX7_lastRowKey a0 s
  | _ => none
set_option maxRecDepth 100000 in
set_option maxHeartbeats 4000000 in
theorem obX7_lastRowKey_4 {E : jEnv} {Rr : Int → jMem → Prop} {rec : Int → Int → Int → jMem → jO} (hrec : ∀ (l0 l1 l2 : Int) (s : jMem), jHo Rr (rec l0 l1 l2 s) → jGo E MX7_lastRowKey 0 Rr [3, 1, 1] 4 [l0, l1, l2] ([]) s) : ∀ (l0 l1 l2 : Int) (s : jMem), jHo Rr (bX7_lastRowKey_4 rec l0 l1 l2 s) → jGo E MX7_lastRowKey 0 Rr [3, 1, 1] 4 [l0, l1, l2] ([]) s := by
  intro l0 l1 l2 s0 hF
  unfold bX7_lastRowKey_4 at hF
  refine ji_iload_n (n := 2) (pc := 4) l2 rfl rfl rfl dX7_lastRowKey_4 (fun r1 => ?_)
  refine jg_bipush (pc := 5) rfl dX7_lastRowKey_5 ?_
  refine ji_icmp_ge 29 (pc := 7) r1 (jRc rfl) hF dX7_lastRowKey_7 rfl (fun hF => ?_) (fun hF => ?_)
  · refine ji_iload_n (n := 1) (pc := 29) l1 rfl rfl rfl dX7_lastRowKey_29 (fun r2 => ?_)
    exact ji_reti (pc := 30) rfl r2 hF dX7_lastRowKey_30
  · refine ji_iload_n (n := 1) (pc := 10) l1 rfl rfl rfl dX7_lastRowKey_10 (fun r3 => ?_)
    refine ji_iconst (pc := 11) dX7_lastRowKey_11 ?_
    refine ji_iconst (pc := 12) dX7_lastRowKey_12 ?_
    refine ji_aload_n (n := 0) (pc := 13) l0 rfl rfl rfl dX7_lastRowKey_13 (fun r4 => ?_)
    refine jg_bipush (pc := 14) rfl dX7_lastRowKey_14 ?_
    refine ji_iload_n (n := 2) (pc := 16) l2 rfl rfl rfl dX7_lastRowKey_16 (fun r5 => ?_)
    refine ji_iadd (pc := 17)  hF dX7_lastRowKey_17 (fun x6 r_x6 hF => ?_)
    refine ji_iaload (pc := 18) r4 r_x6 hF dX7_lastRowKey_18 (fun x7 r_x7 hF => ?_)
    refine ji_imul (pc := 19)  hF dX7_lastRowKey_19 (fun x8 r_x8 hF => ?_)
    refine ji_ishl (pc := 20)  hF dX7_lastRowKey_20 (fun x9 r_x9 hF => ?_)
    refine ji_iadd (pc := 21)  hF dX7_lastRowKey_21 (fun x10 r_x10 hF => ?_)
    refine ji_istore_n (n := 1) (pc := 22) [3, 1, 1] [l0, x10, l2] rfl r_x10 (Nat.le_of_ble_eq_true rfl) rfl rfl dX7_lastRowKey_22 ?_
    refine ji_iinc (pc := 23) l2 (fun w => [l0, x10, w]) rfl rfl rfl (fun _ => rfl) hF dX7_lastRowKey_23 (fun x11 r_x11 hF => ?_)
    refine jg_goto (pc := 26) 4 dX7_lastRowKey_26 rfl ?_
    refine jg_norm [3, 1, 1] [l0, x10, x11] rfl rfl ?_
    exact hrec _ _ _ _ hF
theorem obX7_lastRowKey_4W {E : jEnv} {Rr : Int → jMem → Prop} : ∀ n : Nat, ∀ (l0 l1 l2 : Int) (s : jMem), jHo Rr (jIt (fun _ _ _ _ => none) (bX7_lastRowKey_4) n l0 l1 l2 s) → jGo E MX7_lastRowKey 0 Rr [3, 1, 1] 4 [l0, l1, l2] ([]) s := by
  intro n
  induction n with
  | zero => intro l0 l1 l2 s hF; exact jHo_none hF
  | succ n ih => exact obX7_lastRowKey_4 ih

set_option maxRecDepth 100000 in
set_option maxHeartbeats 4000000 in
theorem oX7_lastRowKey : jOk MX7_lastRowKey [3] 0 (jFn gX7_lastRowKey) := by
  refine jOk_fn (by decide +kernel) (Nat.le_of_ble_eq_true rfl) (by decide +kernel) (.inr (.inl rfl)) ?_
  intro E vs s0 Rr hF ha
  obtain ⟨l0, t0, rfl, r_l0, ha⟩ := jRa_ci ha
  obtain rfl := jRa_ni ha
  replace hF : jHo Rr (fX7_lastRowKey l0 s0) := hF
  refine jg_norm [3, 0, 0] [l0, 0, 0] rfl rfl ?_
  unfold fX7_lastRowKey at hF
  refine ji_iconst (pc := 0) dX7_lastRowKey_0 ?_
  refine ji_istore_n (n := 1) (pc := 1) [3, 1, 0] [l0, 0, 0] rfl (jRc rfl) (Nat.le_of_ble_eq_true rfl) rfl rfl dX7_lastRowKey_1 ?_
  refine ji_iconst (pc := 2) dX7_lastRowKey_2 ?_
  refine ji_istore_n (n := 2) (pc := 3) [3, 1, 1] [l0, 0, 0] rfl (jRc rfl) (Nat.le_of_ble_eq_true rfl) rfl rfl dX7_lastRowKey_3 ?_
  refine jg_norm [3, 1, 1] [l0, 0, 0] rfl rfl ?_
  exact obX7_lastRowKey_4W 1000 _ _ _ _ hF
end

section
abbrev ML_law : jM := (yL_law, cL_law, 10, some .boolean)
set_option maxRecDepth 100000 in
theorem wlL_66 : Cond.methodLink RL 66 yL_asked ∈ jgw := jgw_in 493 rfl rfl
set_option maxRecDepth 100000 in
theorem wlL_70 : Cond.methodLink RL 70 yL_act ∈ jgw := jgw_in 319 rfl rfl
set_option maxRecDepth 100000 in
theorem wlL_74 : Cond.methodLink RL 74 yX10_unseen ∈ jgw := jgw_in 307 rfl rfl
set_option maxRecDepth 100000 in
theorem wmL_act : jmS ML_act 2 := ⟨⟨jgw_in 18 rfl rfl, jgw_in 321 rfl rfl, by decide, by decide +kernel, by decide +kernel, by decide +kernel⟩, jgw_in 320 rfl rfl⟩
set_option maxRecDepth 100000 in
theorem wmL_asked : jmS ML_asked 2 := ⟨⟨jgw_in 18 rfl rfl, jgw_in 495 rfl rfl, by decide, by decide +kernel, by decide +kernel, by decide +kernel⟩, jgw_in 494 rfl rfl⟩
set_option maxRecDepth 100000 in
theorem wmX10_unseen : jmV MX10_unseen 1 7 := ⟨⟨jgw_in 19 rfl rfl, jgw_in 310 rfl rfl, by decide, by decide +kernel, by decide +kernel, by decide +kernel⟩, jgw_in 308 rfl rfl, jgw_in 309 rfl rfl, RX10, TX10, 9, wcX10, rfl, by decide⟩
def bL_law_142 (xs : Int → Int) (L : Int) (k200 : Int → Int → Int → Int → Int → Int → qMem → qO) (rec : Int → Int → Int → Int → Int → Int → Int → qMem → qO) (l3 l4 l5 l6 l7 l8 l9 : Int) (s0 : qMem) : qO :=
if 10 ≤ l9 then (
k200 l3 l4 l5 l6 l7 l8 s0)
else (
qBd (qC1 (fun s => fX10_tiles l7 l9 s) s0) fun x6 s7 =>
qLet (j32 (l8 + x6)) fun x8 =>
qBd (qC1 (fun s => fX10_tiles l7 l9 s) s7) fun x12 s13 =>
qBd (qC2 (fun s => fX10_tiles l7 l9 s) s13) fun x16 s17 =>
if x12 = x16 then (
qBd (qC1 (fun s => fX10_tiles l7 l9 s) s17) fun x21 s22 =>
if 0 ≤ x21 then (
qLet (j32 (l9 + 1)) fun x23 =>
rec l3 l4 l5 l6 l7 x8 x23 s22)
else (
qRet 0 s22))
else (
qRet 0 s17))
def bL_law_200 (xs : Int → Int) (L : Int) (k129 : Int → Int → Int → Int → Int → qMem → qO) (l3 l4 l5 l6 l7 l8 : Int) (s0 : qMem) : qO :=
if l8 = 4 then (
qLet (j32 (l7 + 1)) fun x2 =>
k129 l3 l4 l5 l6 x2 s0)
else (
qRet 0 s0)
def bL_law_129 (xs : Int → Int) (L : Int) (k214 : Int → Int → Int → Int → qMem → qO) (rec : Int → Int → Int → Int → Int → qMem → qO) (l3 l4 l5 l6 l7 : Int) (s0 : qMem) : qO :=
if 34 ≤ l7 then (
k214 l3 l4 l5 l6 s0)
else (
jIt (fun _ _ _ _ _ _ _ _ => none) (bL_law_142 xs L (bL_law_200 xs L rec)) 1000 l3 l4 l5 l6 l7 0 0 s0)
def bL_law_228 (xs : Int → Int) (L : Int) (k256 : Int → Int → Int → Int → Int → qMem → qO) (rec : Int → Int → Int → Int → Int → Int → qMem → qO) (l3 l4 l5 l7 l8 l9 : Int) (s0 : qMem) : qO :=
if 34 ≤ l9 then (
k256 l3 l4 l5 l7 l8 s0)
else (
qLet (j32 (2 + l7)) fun x6 =>
qBd (qC1 (fun s => fX10_tiles l9 x6 s) s0) fun x7 s8 =>
qLet (j32 (l8 + x7)) fun x9 =>
qLet (j32 (l9 + 1)) fun x10 =>
rec l3 l4 l5 l7 x9 x10 s8)
def bL_law_256 (xs : Int → Int) (L : Int) (k80 : Int → Int → Int → qMem → qO) (l3 l4 l5 l7 l8 : Int) (s0 : qMem) : qO :=
qBd (qC1 (fun s => fX10_about l7 1 s) s0) fun x3 s4 =>
if x3 = l8 then (
qBd (qC1 (fun s => fX10_about l7 0 s) s4) fun x8 s9 =>
qBd (qC1 (fun s => fX10_about l7 2 s) s9) fun x13 s14 =>
qLet (j32 (3 * x13)) fun x15 =>
qLet (j32 (l8 + x15)) fun x16 =>
if x8 = x16 then (
qBd (qC1 (fun s => fX10_about l7 0 s) s14) fun x19 s20 =>
if 14 < x19 then (
qRet 0 s20)
else (
qBd (qC1 (fun s => fX10_unseen l7 s) s20) fun x23 s24 =>
qLet (j32 (136 - l8)) fun x26 =>
if x23 ≤ x26 then (
qLet (j32 (l5 + 1)) fun x27 =>
k80 l3 l4 x27 s24)
else (
qRet 0 s24)))
else (
qRet 0 s14))
else (
qRet 0 s4)
def bL_law_214 (xs : Int → Int) (L : Int) (k80 : Int → Int → Int → qMem → qO) (l3 l4 l5 l6 : Int) (s0 : qMem) : qO :=
qLet (jshr l6 3) fun x2 =>
qLet (jand x2 3) fun x3 =>
jIt (fun _ _ _ _ _ _ _ => none) (bL_law_228 xs L (bL_law_256 xs L k80)) 1000 l3 l4 l5 x3 0 0 s0
def bL_law_80 (xs : Int → Int) (L : Int) (k325 : Int → Int → qMem → qO) (rec : Int → Int → Int → qMem → qO) (l3 l4 l5 : Int) (s0 : qMem) : qO :=
if 40 ≤ l5 then (
k325 l3 l4 s0)
else (
qLet (j32 (1 + l5)) fun x3 =>
qGd ((0 : Int) ≤ x3) <| qLet (qCell xs L x3) fun x4 =>
qLet (jshr x4 9) fun x6 =>
qBd (qC2 (fun s => fL_asked x6 s) s0) fun x7 s8 =>
if x7 = 0 then (
qRet 0 s8)
else (
qBd (qC1 (fun s => jCz (fL_act x4 s)) s8) fun x11 s12 =>
qBd (qC2 (fun s => jCz (fL_act x4 s)) s12) fun x14 s15 =>
if x11 = x14 then (
jIt (fun _ _ _ _ _ _ => none) (bL_law_129 xs L (bL_law_214 xs L rec)) 1000 l3 l4 l5 x4 0 s15)
else (
qRet 0 s15)))
def bL_law_358 (xs : Int → Int) (L : Int) (k398 : qMem → qO) (rec : Int → Int → qMem → qO) (l4 l5 : Int) (s0 : qMem) : qO :=
if 34 ≤ l5 then (
k398 s0)
else (
qBd (qC1 (fun s => fX10_tiles l5 2 s) s0) fun x4 s5 =>
qGd (l4 = s5.2.2.1 ∧ (0 : Int) ≤ l5 ∧ l5 < 34) <| qLet (s5.2.2.2 l5) fun x8 =>
if x4 = x8 then (
qBd (qC1 (fun s => fX10_tiles l5 1 s) s5) fun x11 s12 =>
if x11 = 0 then (
qLet (j32 (l5 + 1)) fun x13 =>
rec l4 x13 s12)
else (
qRet 0 s12))
else (
qRet 0 s5))
def bL_law_398 (xs : Int → Int) (L : Int) (s0 : qMem) : qO :=
qBd (qC1 (fun s => fX10_unseen 0 s) s0) fun x2 s3 =>
if x2 = 123 then (
qRet 1 s3)
else (
qRet 0 s3)
def bL_law_325 (xs : Int → Int) (L : Int) (l3 l4 : Int) (s0 : qMem) : qO :=
qBd (qC1 (fun s => jCz (fX10_deal l3 s)) s0) fun x3 s4 =>
if x3 = 0 then (
qBd (qC1 (fun s => fX10_about 3 0 s) s4) fun x6 s7 =>
if x6 = 13 then (
qBd (qC1 (fun s => fX10_about 0 2 s) s7) fun x9 s10 =>
if x9 = 0 then (
jIt (fun _ _ _ => none) (bL_law_358 xs L (bL_law_398 xs L)) 1000 l4 0 s10)
else (
qRet 0 s10))
else (
qRet 0 s7))
else (
qRet 0 s4)
def bL_law_77 (xs : Int → Int) (L : Int) (l3 l4 : Int) (s0 : qMem) : qO :=
jIt (fun _ _ _ _ => none) (bL_law_80 xs L (bL_law_325 xs L)) 1000 l3 l4 0 s0
def bL_law_52 (xs : Int → Int) (L : Int) (rec : Int → Int → Int → qMem → qO) (l3 l4 l5 : Int) (s0 : qMem) : qO :=
if 34 ≤ l5 then (
bL_law_77 xs L l3 l4 s0)
else (
qBd (qC1 (fun s => fX10_tiles l5 2 s) s0) fun x6 s7 =>
qGd (l4 = s7.2.2.1 ∧ (0 : Int) ≤ l5 ∧ l5 < 34) <| qLet (((s7.1, s7.2.1, s7.2.2.1, fun j => if j = l5 then x6 else s7.2.2.2 j) : qMem)) fun s8 =>
qLet (j32 (l5 + 1)) fun x9 =>
rec l3 l4 x9 s8)
set_option maxRecDepth 100000 in
set_option maxHeartbeats 4000000 in
theorem obL_law_142 {E : qEnv} {Rr : Int → qMem → Prop} (hLE : qxl E < 2147483648) {k200 : Int → Int → Int → Int → Int → Int → qMem → qO} (hk200 : ∀ (l3 l4 l5 l6 l7 l8 : Int) (s : qMem), qHo Rr (k200 l3 l4 l5 l6 l7 l8 s) → qGo E ML_law 40 Rr [4, 3, 6, 1, 7, 1, 1, 1, 1, 0] 200 [0, 0, 0, l3, l4, l5, l6, l7, l8, 0] ([]) s) {rec : Int → Int → Int → Int → Int → Int → Int → qMem → qO} (hrec : ∀ (l3 l4 l5 l6 l7 l8 l9 : Int) (s : qMem), qHo Rr (rec l3 l4 l5 l6 l7 l8 l9 s) → qGo E ML_law 40 Rr [4, 3, 6, 1, 7, 1, 1, 1, 1, 1] 142 [0, 0, 0, l3, l4, l5, l6, l7, l8, l9] ([]) s) : ∀ (l3 l4 l5 l6 l7 l8 l9 : Int) (s : qMem), qHo Rr (bL_law_142 (qxs E) (qxl E) k200 rec l3 l4 l5 l6 l7 l8 l9 s) → qGo E ML_law 40 Rr [4, 3, 6, 1, 7, 1, 1, 1, 1, 1] 142 [0, 0, 0, l3, l4, l5, l6, l7, l8, l9] ([]) s := by
  intro l3 l4 l5 l6 l7 l8 l9 s0 hF
  unfold bL_law_142 at hF
  refine qi_iload (pc := 142) l9 rfl rfl dL_law_142 (fun r1 => ?_)
  refine qg_bipush (pc := 144) rfl dL_law_144 ?_
  refine qi_icmp_ge 200 (pc := 146) r1 (jRc rfl) hF dL_law_146 rfl (fun hF => ?_) (fun hF => ?_)
  · refine qg_norm [4, 3, 6, 1, 7, 1, 1, 1, 1, 0] [0, 0, 0, l3, l4, l5, l6, l7, l8, 0] rfl rfl ?_
    exact hk200 _ _ _ _ _ _ _ hF
  · refine qi_iload (pc := 149) l8 rfl rfl dL_law_149 (fun r2 => ?_)
    refine qi_aload_n (n := 1) (pc := 151) 0 rfl rfl rfl dL_law_151 (fun r3 => ?_)
    refine qi_iload (pc := 152) l7 rfl rfl dL_law_152 (fun r4 => ?_)
    refine qi_iload (pc := 154) l9 rfl rfl dL_law_154 (fun r5 => ?_)
    refine qi_callV1i (pc := 156) (f := fun s => fX10_tiles l7 l9 s) [l7, l9] (jV E.1 1 l8 :: []) oX10_tiles wlL_46 wmX10_tiles rfl rfl (Nat.le_of_ble_eq_true rfl) (jRaC (jRc3 rfl) (jRaC r4 (jRaC r5 jRa0))) rfl (fun _ => rfl) (Nat.le_of_ble_eq_true rfl) hF dL_law_156 (fun x6 s7 r_x6 hF => ?_)
    refine qi_iadd (pc := 159)  hF dL_law_159 (fun x8 r_x8 hF => ?_)
    refine qi_istore (n := 8) (pc := 160) [4, 3, 6, 1, 7, 1, 1, 1, 1, 1] [0, 0, 0, l3, l4, l5, l6, l7, x8, l9] r_x8 (Nat.le_of_ble_eq_true rfl) rfl rfl dL_law_160 ?_
    refine qi_aload_n (n := 1) (pc := 162) 0 rfl rfl rfl dL_law_162 (fun r9 => ?_)
    refine qi_iload (pc := 163) l7 rfl rfl dL_law_163 (fun r10 => ?_)
    refine qi_iload (pc := 165) l9 rfl rfl dL_law_165 (fun r11 => ?_)
    refine qi_callV1i (pc := 167) (f := fun s => fX10_tiles l7 l9 s) [l7, l9] ([]) oX10_tiles wlL_46 wmX10_tiles rfl rfl (Nat.le_of_ble_eq_true rfl) (jRaC (jRc3 rfl) (jRaC r10 (jRaC r11 jRa0))) rfl (fun _ => rfl) (Nat.le_of_ble_eq_true rfl) hF dL_law_167 (fun x12 s13 r_x12 hF => ?_)
    refine qg_aloadk_n (n := 2) (κ := 6) (pc := 170) (by decide) 0 rfl rfl rfl dL_law_170 ?_
    refine qi_iload (pc := 171) l7 rfl rfl dL_law_171 (fun r14 => ?_)
    refine qi_iload (pc := 173) l9 rfl rfl dL_law_173 (fun r15 => ?_)
    refine qi_callV2i (pc := 175) (f := fun s => fX10_tiles l7 l9 s) [l7, l9] (jV E.1 1 x12 :: []) oX10_tiles wlL_46 wmX10_tiles rfl rfl (Nat.le_of_ble_eq_true rfl) (jRaC (jRc3 rfl) (jRaC r14 (jRaC r15 jRa0))) rfl (fun _ _ => rfl) (fun _ => rfl) (Nat.le_of_ble_eq_true rfl) hF dL_law_175 (fun x16 s17 r_x16 hF => ?_)
    refine qi_icmp_ne 192 (pc := 178) r_x12 r_x16 hF dL_law_178 rfl (fun hF => ?_) (fun hF => ?_)
    · refine qi_iconst (pc := 192) dL_law_192 ?_
      exact qi_retz (pc := 193) rfl (jRc5 rfl) hF dL_law_193
    · refine qi_aload_n (n := 1) (pc := 181) 0 rfl rfl rfl dL_law_181 (fun r18 => ?_)
      refine qi_iload (pc := 182) l7 rfl rfl dL_law_182 (fun r19 => ?_)
      refine qi_iload (pc := 184) l9 rfl rfl dL_law_184 (fun r20 => ?_)
      refine qi_callV1i (pc := 186) (f := fun s => fX10_tiles l7 l9 s) [l7, l9] ([]) oX10_tiles wlL_46 wmX10_tiles rfl rfl (Nat.le_of_ble_eq_true rfl) (jRaC (jRc3 rfl) (jRaC r19 (jRaC r20 jRa0))) rfl (fun _ => rfl) (Nat.le_of_ble_eq_true rfl) hF dL_law_186 (fun x21 s22 r_x21 hF => ?_)
      refine qi_if_ge 194 (pc := 189) r_x21 hF dL_law_189 rfl (fun hF => ?_) (fun hF => ?_)
      · refine qi_iinc (pc := 194) l9 (fun w => [0, 0, 0, l3, l4, l5, l6, l7, x8, w]) rfl rfl rfl (fun _ => rfl) hF dL_law_194 (fun x23 r_x23 hF => ?_)
        refine qg_goto (pc := 197) 142 dL_law_197 rfl ?_
        refine qg_norm [4, 3, 6, 1, 7, 1, 1, 1, 1, 1] [0, 0, 0, l3, l4, l5, l6, l7, x8, x23] rfl rfl ?_
        exact hrec _ _ _ _ _ _ _ _ hF
      · refine qi_iconst (pc := 192) dL_law_192 ?_
        exact qi_retz (pc := 193) rfl (jRc5 rfl) hF dL_law_193
theorem obL_law_142W {E : qEnv} {Rr : Int → qMem → Prop} (hLE : qxl E < 2147483648) {k200 : Int → Int → Int → Int → Int → Int → qMem → qO} (hk200 : ∀ (l3 l4 l5 l6 l7 l8 : Int) (s : qMem), qHo Rr (k200 l3 l4 l5 l6 l7 l8 s) → qGo E ML_law 40 Rr [4, 3, 6, 1, 7, 1, 1, 1, 1, 0] 200 [0, 0, 0, l3, l4, l5, l6, l7, l8, 0] ([]) s) : ∀ n : Nat, ∀ (l3 l4 l5 l6 l7 l8 l9 : Int) (s : qMem), qHo Rr (jIt (fun _ _ _ _ _ _ _ _ => none) (bL_law_142 (qxs E) (qxl E) k200) n l3 l4 l5 l6 l7 l8 l9 s) → qGo E ML_law 40 Rr [4, 3, 6, 1, 7, 1, 1, 1, 1, 1] 142 [0, 0, 0, l3, l4, l5, l6, l7, l8, l9] ([]) s := by
  intro n
  induction n with
  | zero => intro l3 l4 l5 l6 l7 l8 l9 s hF; exact qHo_none hF
  | succ n ih => exact obL_law_142 hLE hk200 ih

set_option maxRecDepth 100000 in
set_option maxHeartbeats 4000000 in
theorem obL_law_200 {E : qEnv} {Rr : Int → qMem → Prop} (hLE : qxl E < 2147483648) {k129 : Int → Int → Int → Int → Int → qMem → qO} (hk129 : ∀ (l3 l4 l5 l6 l7 : Int) (s : qMem), qHo Rr (k129 l3 l4 l5 l6 l7 s) → qGo E ML_law 40 Rr [4, 3, 6, 1, 7, 1, 1, 1, 0, 0] 129 [0, 0, 0, l3, l4, l5, l6, l7, 0, 0] ([]) s) : ∀ (l3 l4 l5 l6 l7 l8 : Int) (s : qMem), qHo Rr (bL_law_200 (qxs E) (qxl E) k129 l3 l4 l5 l6 l7 l8 s) → qGo E ML_law 40 Rr [4, 3, 6, 1, 7, 1, 1, 1, 1, 0] 200 [0, 0, 0, l3, l4, l5, l6, l7, l8, 0] ([]) s := by
  intro l3 l4 l5 l6 l7 l8 s0 hF
  unfold bL_law_200 at hF
  refine qi_iload (pc := 200) l8 rfl rfl dL_law_200 (fun r1 => ?_)
  refine qi_iconst (pc := 202) dL_law_202 ?_
  refine qi_icmp_eq 208 (pc := 203) r1 (jRc rfl) hF dL_law_203 rfl (fun hF => ?_) (fun hF => ?_)
  · refine qi_iinc (pc := 208) l7 (fun w => [0, 0, 0, l3, l4, l5, l6, w, l8, 0]) rfl rfl rfl (fun _ => rfl) hF dL_law_208 (fun x2 r_x2 hF => ?_)
    refine qg_goto (pc := 211) 129 dL_law_211 rfl ?_
    refine qg_norm [4, 3, 6, 1, 7, 1, 1, 1, 0, 0] [0, 0, 0, l3, l4, l5, l6, x2, 0, 0] rfl rfl ?_
    exact hk129 _ _ _ _ _ _ hF
  · refine qi_iconst (pc := 206) dL_law_206 ?_
    exact qi_retz (pc := 207) rfl (jRc5 rfl) hF dL_law_207
set_option maxRecDepth 100000 in
set_option maxHeartbeats 4000000 in
theorem obL_law_129 {E : qEnv} {Rr : Int → qMem → Prop} (hLE : qxl E < 2147483648) {k214 : Int → Int → Int → Int → qMem → qO} (hk214 : ∀ (l3 l4 l5 l6 : Int) (s : qMem), qHo Rr (k214 l3 l4 l5 l6 s) → qGo E ML_law 40 Rr [4, 3, 6, 1, 7, 1, 1, 0, 0, 0] 214 [0, 0, 0, l3, l4, l5, l6, 0, 0, 0] ([]) s) {rec : Int → Int → Int → Int → Int → qMem → qO} (hrec : ∀ (l3 l4 l5 l6 l7 : Int) (s : qMem), qHo Rr (rec l3 l4 l5 l6 l7 s) → qGo E ML_law 40 Rr [4, 3, 6, 1, 7, 1, 1, 1, 0, 0] 129 [0, 0, 0, l3, l4, l5, l6, l7, 0, 0] ([]) s) : ∀ (l3 l4 l5 l6 l7 : Int) (s : qMem), qHo Rr (bL_law_129 (qxs E) (qxl E) k214 rec l3 l4 l5 l6 l7 s) → qGo E ML_law 40 Rr [4, 3, 6, 1, 7, 1, 1, 1, 0, 0] 129 [0, 0, 0, l3, l4, l5, l6, l7, 0, 0] ([]) s := by
  intro l3 l4 l5 l6 l7 s0 hF
  unfold bL_law_129 at hF
  refine qi_iload (pc := 129) l7 rfl rfl dL_law_129 (fun r1 => ?_)
  refine qg_bipush (pc := 131) rfl dL_law_131 ?_
  refine qi_icmp_ge 214 (pc := 133) r1 (jRc rfl) hF dL_law_133 rfl (fun hF => ?_) (fun hF => ?_)
  · refine qg_norm [4, 3, 6, 1, 7, 1, 1, 0, 0, 0] [0, 0, 0, l3, l4, l5, l6, 0, 0, 0] rfl rfl ?_
    exact hk214 _ _ _ _ _ hF
  · refine qi_iconst (pc := 136) dL_law_136 ?_
    refine qi_istore (n := 8) (pc := 137) [4, 3, 6, 1, 7, 1, 1, 1, 1, 0] [0, 0, 0, l3, l4, l5, l6, l7, 0, 0] (jRc rfl) (Nat.le_of_ble_eq_true rfl) rfl rfl dL_law_137 ?_
    refine qi_iconst (pc := 139) dL_law_139 ?_
    refine qi_istore (n := 9) (pc := 140) [4, 3, 6, 1, 7, 1, 1, 1, 1, 1] [0, 0, 0, l3, l4, l5, l6, l7, 0, 0] (jRc rfl) (Nat.le_of_ble_eq_true rfl) rfl rfl dL_law_140 ?_
    refine qg_norm [4, 3, 6, 1, 7, 1, 1, 1, 1, 1] [0, 0, 0, l3, l4, l5, l6, l7, 0, 0] rfl rfl ?_
    exact obL_law_142W hLE (obL_law_200 hLE hrec) 1000 _ _ _ _ _ _ _ _ hF
theorem obL_law_129W {E : qEnv} {Rr : Int → qMem → Prop} (hLE : qxl E < 2147483648) {k214 : Int → Int → Int → Int → qMem → qO} (hk214 : ∀ (l3 l4 l5 l6 : Int) (s : qMem), qHo Rr (k214 l3 l4 l5 l6 s) → qGo E ML_law 40 Rr [4, 3, 6, 1, 7, 1, 1, 0, 0, 0] 214 [0, 0, 0, l3, l4, l5, l6, 0, 0, 0] ([]) s) : ∀ n : Nat, ∀ (l3 l4 l5 l6 l7 : Int) (s : qMem), qHo Rr (jIt (fun _ _ _ _ _ _ => none) (bL_law_129 (qxs E) (qxl E) k214) n l3 l4 l5 l6 l7 s) → qGo E ML_law 40 Rr [4, 3, 6, 1, 7, 1, 1, 1, 0, 0] 129 [0, 0, 0, l3, l4, l5, l6, l7, 0, 0] ([]) s := by
  intro n
  induction n with
  | zero => intro l3 l4 l5 l6 l7 s hF; exact qHo_none hF
  | succ n ih => exact obL_law_129 hLE hk214 ih

set_option maxRecDepth 100000 in
set_option maxHeartbeats 4000000 in
theorem obL_law_228 {E : qEnv} {Rr : Int → qMem → Prop} (hLE : qxl E < 2147483648) {k256 : Int → Int → Int → Int → Int → qMem → qO} (hk256 : ∀ (l3 l4 l5 l7 l8 : Int) (s : qMem), qHo Rr (k256 l3 l4 l5 l7 l8 s) → qGo E ML_law 40 Rr [4, 3, 6, 1, 7, 1, 0, 1, 1, 0] 256 [0, 0, 0, l3, l4, l5, 0, l7, l8, 0] ([]) s) {rec : Int → Int → Int → Int → Int → Int → qMem → qO} (hrec : ∀ (l3 l4 l5 l7 l8 l9 : Int) (s : qMem), qHo Rr (rec l3 l4 l5 l7 l8 l9 s) → qGo E ML_law 40 Rr [4, 3, 6, 1, 7, 1, 0, 1, 1, 1] 228 [0, 0, 0, l3, l4, l5, 0, l7, l8, l9] ([]) s) : ∀ (l3 l4 l5 l7 l8 l9 : Int) (s : qMem), qHo Rr (bL_law_228 (qxs E) (qxl E) k256 rec l3 l4 l5 l7 l8 l9 s) → qGo E ML_law 40 Rr [4, 3, 6, 1, 7, 1, 0, 1, 1, 1] 228 [0, 0, 0, l3, l4, l5, 0, l7, l8, l9] ([]) s := by
  intro l3 l4 l5 l7 l8 l9 s0 hF
  unfold bL_law_228 at hF
  refine qi_iload (pc := 228) l9 rfl rfl dL_law_228 (fun r1 => ?_)
  refine qg_bipush (pc := 230) rfl dL_law_230 ?_
  refine qi_icmp_ge 256 (pc := 232) r1 (jRc rfl) hF dL_law_232 rfl (fun hF => ?_) (fun hF => ?_)
  · refine qg_norm [4, 3, 6, 1, 7, 1, 0, 1, 1, 0] [0, 0, 0, l3, l4, l5, 0, l7, l8, 0] rfl rfl ?_
    exact hk256 _ _ _ _ _ _ hF
  · refine qi_iload (pc := 235) l8 rfl rfl dL_law_235 (fun r2 => ?_)
    refine qi_aload_n (n := 1) (pc := 237) 0 rfl rfl rfl dL_law_237 (fun r3 => ?_)
    refine qi_iload (pc := 238) l9 rfl rfl dL_law_238 (fun r4 => ?_)
    refine qi_iconst (pc := 240) dL_law_240 ?_
    refine qi_iload (pc := 241) l7 rfl rfl dL_law_241 (fun r5 => ?_)
    refine qi_iadd (pc := 243)  hF dL_law_243 (fun x6 r_x6 hF => ?_)
    refine qi_callV1i (pc := 244) (f := fun s => fX10_tiles l9 x6 s) [l9, x6] (jV E.1 1 l8 :: []) oX10_tiles wlL_46 wmX10_tiles rfl rfl (Nat.le_of_ble_eq_true rfl) (jRaC (jRc3 rfl) (jRaC r4 (jRaC r_x6 jRa0))) rfl (fun _ => rfl) (Nat.le_of_ble_eq_true rfl) hF dL_law_244 (fun x7 s8 r_x7 hF => ?_)
    refine qi_iadd (pc := 247)  hF dL_law_247 (fun x9 r_x9 hF => ?_)
    refine qi_istore (n := 8) (pc := 248) [4, 3, 6, 1, 7, 1, 0, 1, 1, 1] [0, 0, 0, l3, l4, l5, 0, l7, x9, l9] r_x9 (Nat.le_of_ble_eq_true rfl) rfl rfl dL_law_248 ?_
    refine qi_iinc (pc := 250) l9 (fun w => [0, 0, 0, l3, l4, l5, 0, l7, x9, w]) rfl rfl rfl (fun _ => rfl) hF dL_law_250 (fun x10 r_x10 hF => ?_)
    refine qg_goto (pc := 253) 228 dL_law_253 rfl ?_
    refine qg_norm [4, 3, 6, 1, 7, 1, 0, 1, 1, 1] [0, 0, 0, l3, l4, l5, 0, l7, x9, x10] rfl rfl ?_
    exact hrec _ _ _ _ _ _ _ hF
theorem obL_law_228W {E : qEnv} {Rr : Int → qMem → Prop} (hLE : qxl E < 2147483648) {k256 : Int → Int → Int → Int → Int → qMem → qO} (hk256 : ∀ (l3 l4 l5 l7 l8 : Int) (s : qMem), qHo Rr (k256 l3 l4 l5 l7 l8 s) → qGo E ML_law 40 Rr [4, 3, 6, 1, 7, 1, 0, 1, 1, 0] 256 [0, 0, 0, l3, l4, l5, 0, l7, l8, 0] ([]) s) : ∀ n : Nat, ∀ (l3 l4 l5 l7 l8 l9 : Int) (s : qMem), qHo Rr (jIt (fun _ _ _ _ _ _ _ => none) (bL_law_228 (qxs E) (qxl E) k256) n l3 l4 l5 l7 l8 l9 s) → qGo E ML_law 40 Rr [4, 3, 6, 1, 7, 1, 0, 1, 1, 1] 228 [0, 0, 0, l3, l4, l5, 0, l7, l8, l9] ([]) s := by
  intro n
  induction n with
  | zero => intro l3 l4 l5 l7 l8 l9 s hF; exact qHo_none hF
  | succ n ih => exact obL_law_228 hLE hk256 ih

set_option maxRecDepth 100000 in
set_option maxHeartbeats 4000000 in
theorem obL_law_256 {E : qEnv} {Rr : Int → qMem → Prop} (hLE : qxl E < 2147483648) {k80 : Int → Int → Int → qMem → qO} (hk80 : ∀ (l3 l4 l5 : Int) (s : qMem), qHo Rr (k80 l3 l4 l5 s) → qGo E ML_law 40 Rr [4, 3, 6, 1, 7, 1, 0, 0, 0, 0] 80 [0, 0, 0, l3, l4, l5, 0, 0, 0, 0] ([]) s) : ∀ (l3 l4 l5 l7 l8 : Int) (s : qMem), qHo Rr (bL_law_256 (qxs E) (qxl E) k80 l3 l4 l5 l7 l8 s) → qGo E ML_law 40 Rr [4, 3, 6, 1, 7, 1, 0, 1, 1, 0] 256 [0, 0, 0, l3, l4, l5, 0, l7, l8, 0] ([]) s := by
  intro l3 l4 l5 l7 l8 s0 hF
  unfold bL_law_256 at hF
  refine qi_aload_n (n := 1) (pc := 256) 0 rfl rfl rfl dL_law_256 (fun r1 => ?_)
  refine qi_iload (pc := 257) l7 rfl rfl dL_law_257 (fun r2 => ?_)
  refine qi_iconst (pc := 259) dL_law_259 ?_
  refine qi_callV1i (pc := 260) (f := fun s => fX10_about l7 1 s) [l7, 1] ([]) oX10_about wlL_40 wmX10_about rfl rfl (Nat.le_of_ble_eq_true rfl) (jRaC (jRc3 rfl) (jRaC r2 (jRaC (jRc rfl) jRa0))) rfl (fun _ => rfl) (Nat.le_of_ble_eq_true rfl) hF dL_law_260 (fun x3 s4 r_x3 hF => ?_)
  refine qi_iload (pc := 263) l8 rfl rfl dL_law_263 (fun r5 => ?_)
  refine qi_icmp_ne 317 (pc := 265) r_x3 r5 hF dL_law_265 rfl (fun hF => ?_) (fun hF => ?_)
  · refine qi_iconst (pc := 317) dL_law_317 ?_
    exact qi_retz (pc := 318) rfl (jRc5 rfl) hF dL_law_318
  · refine qi_aload_n (n := 1) (pc := 268) 0 rfl rfl rfl dL_law_268 (fun r6 => ?_)
    refine qi_iload (pc := 269) l7 rfl rfl dL_law_269 (fun r7 => ?_)
    refine qi_iconst (pc := 271) dL_law_271 ?_
    refine qi_callV1i (pc := 272) (f := fun s => fX10_about l7 0 s) [l7, 0] ([]) oX10_about wlL_40 wmX10_about rfl rfl (Nat.le_of_ble_eq_true rfl) (jRaC (jRc3 rfl) (jRaC r7 (jRaC (jRc rfl) jRa0))) rfl (fun _ => rfl) (Nat.le_of_ble_eq_true rfl) hF dL_law_272 (fun x8 s9 r_x8 hF => ?_)
    refine qi_iload (pc := 275) l8 rfl rfl dL_law_275 (fun r10 => ?_)
    refine qi_iconst (pc := 277) dL_law_277 ?_
    refine qi_aload_n (n := 1) (pc := 278) 0 rfl rfl rfl dL_law_278 (fun r11 => ?_)
    refine qi_iload (pc := 279) l7 rfl rfl dL_law_279 (fun r12 => ?_)
    refine qi_iconst (pc := 281) dL_law_281 ?_
    refine qi_callV1i (pc := 282) (f := fun s => fX10_about l7 2 s) [l7, 2] (jV E.1 1 3 :: jV E.1 1 l8 :: jV E.1 1 x8 :: []) oX10_about wlL_40 wmX10_about rfl rfl (Nat.le_of_ble_eq_true rfl) (jRaC (jRc3 rfl) (jRaC r12 (jRaC (jRc rfl) jRa0))) rfl (fun _ => rfl) (Nat.le_of_ble_eq_true rfl) hF dL_law_282 (fun x13 s14 r_x13 hF => ?_)
    refine qi_imul (pc := 285)  hF dL_law_285 (fun x15 r_x15 hF => ?_)
    refine qi_iadd (pc := 286)  hF dL_law_286 (fun x16 r_x16 hF => ?_)
    refine qi_icmp_ne 317 (pc := 287) r_x8 r_x16 hF dL_law_287 rfl (fun hF => ?_) (fun hF => ?_)
    · refine qi_iconst (pc := 317) dL_law_317 ?_
      exact qi_retz (pc := 318) rfl (jRc5 rfl) hF dL_law_318
    · refine qi_aload_n (n := 1) (pc := 290) 0 rfl rfl rfl dL_law_290 (fun r17 => ?_)
      refine qi_iload (pc := 291) l7 rfl rfl dL_law_291 (fun r18 => ?_)
      refine qi_iconst (pc := 293) dL_law_293 ?_
      refine qi_callV1i (pc := 294) (f := fun s => fX10_about l7 0 s) [l7, 0] ([]) oX10_about wlL_40 wmX10_about rfl rfl (Nat.le_of_ble_eq_true rfl) (jRaC (jRc3 rfl) (jRaC r18 (jRaC (jRc rfl) jRa0))) rfl (fun _ => rfl) (Nat.le_of_ble_eq_true rfl) hF dL_law_294 (fun x19 s20 r_x19 hF => ?_)
      refine qg_bipush (pc := 297) rfl dL_law_297 ?_
      refine qi_icmp_gt 317 (pc := 299) r_x19 (jRc rfl) hF dL_law_299 rfl (fun hF => ?_) (fun hF => ?_)
      · refine qi_iconst (pc := 317) dL_law_317 ?_
        exact qi_retz (pc := 318) rfl (jRc5 rfl) hF dL_law_318
      · refine qi_aload_n (n := 1) (pc := 302) 0 rfl rfl rfl dL_law_302 (fun r21 => ?_)
        refine qi_iload (pc := 303) l7 rfl rfl dL_law_303 (fun r22 => ?_)
        refine qi_callV1i (pc := 305) (f := fun s => fX10_unseen l7 s) [l7] ([]) oX10_unseen wlL_74 wmX10_unseen rfl rfl (Nat.le_of_ble_eq_true rfl) (jRaC (jRc3 rfl) (jRaC r22 jRa0)) rfl (fun _ => rfl) (Nat.le_of_ble_eq_true rfl) hF dL_law_305 (fun x23 s24 r_x23 hF => ?_)
        refine qg_sipush (pc := 308) rfl dL_law_308 ?_
        refine qi_iload (pc := 311) l8 rfl rfl dL_law_311 (fun r25 => ?_)
        refine qi_isub (pc := 313)  hF dL_law_313 (fun x26 r_x26 hF => ?_)
        refine qi_icmp_le 319 (pc := 314) r_x23 r_x26 hF dL_law_314 rfl (fun hF => ?_) (fun hF => ?_)
        · refine qi_iinc (pc := 319) l5 (fun w => [0, 0, 0, l3, l4, w, 0, l7, l8, 0]) rfl rfl rfl (fun _ => rfl) hF dL_law_319 (fun x27 r_x27 hF => ?_)
          refine qg_goto (pc := 322) 80 dL_law_322 rfl ?_
          refine qg_norm [4, 3, 6, 1, 7, 1, 0, 0, 0, 0] [0, 0, 0, l3, l4, x27, 0, 0, 0, 0] rfl rfl ?_
          exact hk80 _ _ _ _ hF
        · refine qi_iconst (pc := 317) dL_law_317 ?_
          exact qi_retz (pc := 318) rfl (jRc5 rfl) hF dL_law_318
set_option maxRecDepth 100000 in
set_option maxHeartbeats 4000000 in
theorem obL_law_214 {E : qEnv} {Rr : Int → qMem → Prop} (hLE : qxl E < 2147483648) {k80 : Int → Int → Int → qMem → qO} (hk80 : ∀ (l3 l4 l5 : Int) (s : qMem), qHo Rr (k80 l3 l4 l5 s) → qGo E ML_law 40 Rr [4, 3, 6, 1, 7, 1, 0, 0, 0, 0] 80 [0, 0, 0, l3, l4, l5, 0, 0, 0, 0] ([]) s) : ∀ (l3 l4 l5 l6 : Int) (s : qMem), qHo Rr (bL_law_214 (qxs E) (qxl E) k80 l3 l4 l5 l6 s) → qGo E ML_law 40 Rr [4, 3, 6, 1, 7, 1, 1, 0, 0, 0] 214 [0, 0, 0, l3, l4, l5, l6, 0, 0, 0] ([]) s := by
  intro l3 l4 l5 l6 s0 hF
  unfold bL_law_214 at hF
  refine qi_iload (pc := 214) l6 rfl rfl dL_law_214 (fun r1 => ?_)
  refine qi_iconst (pc := 216) dL_law_216 ?_
  refine qi_ishr (pc := 217)  hF dL_law_217 (fun x2 r_x2 hF => ?_)
  refine qi_iconst (pc := 218) dL_law_218 ?_
  refine qi_iand (pc := 219)  hF dL_law_219 (fun x3 r_x3 hF => ?_)
  refine qi_istore (n := 7) (pc := 220) [4, 3, 6, 1, 7, 1, 1, 1, 0, 0] [0, 0, 0, l3, l4, l5, l6, x3, 0, 0] r_x3 (Nat.le_of_ble_eq_true rfl) rfl rfl dL_law_220 ?_
  refine qi_iconst (pc := 222) dL_law_222 ?_
  refine qi_istore (n := 8) (pc := 223) [4, 3, 6, 1, 7, 1, 1, 1, 1, 0] [0, 0, 0, l3, l4, l5, l6, x3, 0, 0] (jRc rfl) (Nat.le_of_ble_eq_true rfl) rfl rfl dL_law_223 ?_
  refine qi_iconst (pc := 225) dL_law_225 ?_
  refine qi_istore (n := 9) (pc := 226) [4, 3, 6, 1, 7, 1, 1, 1, 1, 1] [0, 0, 0, l3, l4, l5, l6, x3, 0, 0] (jRc rfl) (Nat.le_of_ble_eq_true rfl) rfl rfl dL_law_226 ?_
  refine qg_norm [4, 3, 6, 1, 7, 1, 0, 1, 1, 1] [0, 0, 0, l3, l4, l5, 0, x3, 0, 0] rfl rfl ?_
  exact obL_law_228W hLE (obL_law_256 hLE hk80) 1000 _ _ _ _ _ _ _ hF
set_option maxRecDepth 100000 in
set_option maxHeartbeats 4000000 in
theorem obL_law_80 {E : qEnv} {Rr : Int → qMem → Prop} (hLE : qxl E < 2147483648) {k325 : Int → Int → qMem → qO} (hk325 : ∀ (l3 l4 : Int) (s : qMem), qHo Rr (k325 l3 l4 s) → qGo E ML_law 40 Rr [0, 3, 0, 1, 7, 0, 0, 0, 0, 0] 325 [0, 0, 0, l3, l4, 0, 0, 0, 0, 0] ([]) s) {rec : Int → Int → Int → qMem → qO} (hrec : ∀ (l3 l4 l5 : Int) (s : qMem), qHo Rr (rec l3 l4 l5 s) → qGo E ML_law 40 Rr [4, 3, 6, 1, 7, 1, 0, 0, 0, 0] 80 [0, 0, 0, l3, l4, l5, 0, 0, 0, 0] ([]) s) : ∀ (l3 l4 l5 : Int) (s : qMem), qHo Rr (bL_law_80 (qxs E) (qxl E) k325 rec l3 l4 l5 s) → qGo E ML_law 40 Rr [4, 3, 6, 1, 7, 1, 0, 0, 0, 0] 80 [0, 0, 0, l3, l4, l5, 0, 0, 0, 0] ([]) s := by
  intro l3 l4 l5 s0 hF
  unfold bL_law_80 at hF
  refine qi_iload (pc := 80) l5 rfl rfl dL_law_80 (fun r1 => ?_)
  refine qg_bipush (pc := 82) rfl dL_law_82 ?_
  refine qi_icmp_ge 325 (pc := 84) r1 (jRc rfl) hF dL_law_84 rfl (fun hF => ?_) (fun hF => ?_)
  · refine qg_norm [0, 3, 0, 1, 7, 0, 0, 0, 0, 0] [0, 0, 0, l3, l4, 0, 0, 0, 0, 0] rfl rfl ?_
    exact hk325 _ _ _ hF
  · refine qg_aloadk_n (n := 0) (κ := 4) (pc := 87) (by decide) 0 rfl rfl rfl dL_law_87 ?_
    refine qi_iconst (pc := 88) dL_law_88 ?_
    refine qi_iload (pc := 89) l5 rfl rfl dL_law_89 (fun r2 => ?_)
    refine qi_iadd (pc := 91)  hF dL_law_91 (fun x3 r_x3 hF => ?_)
    refine qi_cell (pc := 92) ⟨rfl, rfl⟩ hLE r_x3 (Nat.le_of_ble_eq_true rfl) (Nat.le_of_ble_eq_true rfl) hF dL_law_92 (fun x4 r_x4 hF => ?_)
    refine qi_istore (n := 6) (pc := 95) [4, 3, 6, 1, 7, 1, 1, 0, 0, 0] [0, 0, 0, l3, l4, l5, x4, 0, 0, 0] r_x4 (Nat.le_of_ble_eq_true rfl) rfl rfl dL_law_95 ?_
    refine qg_aloadk_n (n := 2) (κ := 6) (pc := 97) (by decide) 0 rfl rfl rfl dL_law_97 ?_
    refine qi_iload (pc := 98) x4 rfl rfl dL_law_98 (fun r5 => ?_)
    refine qg_bipush (pc := 100) rfl dL_law_100 ?_
    refine qi_ishr (pc := 102)  hF dL_law_102 (fun x6 r_x6 hF => ?_)
    refine qi_callS2z (pc := 103) (f := fun s => fL_asked x6 s) [x6] ([]) oL_asked wlL_66 wmL_asked rfl rfl (Nat.le_of_ble_eq_true rfl) (jRaC (jRc3 rfl) (jRaC r_x6 jRa0)) rfl (fun _ _ => rfl) (fun _ => rfl) (Nat.le_of_ble_eq_true rfl) hF dL_law_103 (fun x7 s8 r_x7 hF => ?_)
    refine qi_if_eq 124 (pc := 106) (jR51 r_x7) hF dL_law_106 rfl (fun hF => ?_) (fun hF => ?_)
    · refine qi_iconst (pc := 124) dL_law_124 ?_
      exact qi_retz (pc := 125) rfl (jRc5 rfl) hF dL_law_125
    · refine qi_aload_n (n := 1) (pc := 109) 0 rfl rfl rfl dL_law_109 (fun r9 => ?_)
      refine qi_iload (pc := 110) x4 rfl rfl dL_law_110 (fun r10 => ?_)
      refine qi_callS1ic (pc := 112) (f := fun s => jCz (fL_act x4 s)) [x4] ([]) oL_act wlL_70 wmL_act rfl rfl (Nat.le_of_ble_eq_true rfl) (jRaC (jRc3 rfl) (jRaC r10 jRa0)) rfl (fun _ => rfl) (Nat.le_of_ble_eq_true rfl) hF dL_law_112 (fun x11 s12 r_x11 hF => ?_)
      refine qg_aloadk_n (n := 2) (κ := 6) (pc := 115) (by decide) 0 rfl rfl rfl dL_law_115 ?_
      refine qi_iload (pc := 116) x4 rfl rfl dL_law_116 (fun r13 => ?_)
      refine qi_callS2ic (pc := 118) (f := fun s => jCz (fL_act x4 s)) [x4] (jV E.1 1 x11 :: []) oL_act wlL_70 wmL_act rfl rfl (Nat.le_of_ble_eq_true rfl) (jRaC (jRc3 rfl) (jRaC r13 jRa0)) rfl (fun _ _ => rfl) (fun _ => rfl) (Nat.le_of_ble_eq_true rfl) hF dL_law_118 (fun x14 s15 r_x14 hF => ?_)
      refine qi_icmp_eq 126 (pc := 121) r_x11 r_x14 hF dL_law_121 rfl (fun hF => ?_) (fun hF => ?_)
      · refine qi_iconst (pc := 126) dL_law_126 ?_
        refine qi_istore (n := 7) (pc := 127) [4, 3, 6, 1, 7, 1, 1, 1, 0, 0] [0, 0, 0, l3, l4, l5, x4, 0, 0, 0] (jRc rfl) (Nat.le_of_ble_eq_true rfl) rfl rfl dL_law_127 ?_
        refine qg_norm [4, 3, 6, 1, 7, 1, 1, 1, 0, 0] [0, 0, 0, l3, l4, l5, x4, 0, 0, 0] rfl rfl ?_
        exact obL_law_129W hLE (obL_law_214 hLE hrec) 1000 _ _ _ _ _ _ hF
      · refine qi_iconst (pc := 124) dL_law_124 ?_
        exact qi_retz (pc := 125) rfl (jRc5 rfl) hF dL_law_125
theorem obL_law_80W {E : qEnv} {Rr : Int → qMem → Prop} (hLE : qxl E < 2147483648) {k325 : Int → Int → qMem → qO} (hk325 : ∀ (l3 l4 : Int) (s : qMem), qHo Rr (k325 l3 l4 s) → qGo E ML_law 40 Rr [0, 3, 0, 1, 7, 0, 0, 0, 0, 0] 325 [0, 0, 0, l3, l4, 0, 0, 0, 0, 0] ([]) s) : ∀ n : Nat, ∀ (l3 l4 l5 : Int) (s : qMem), qHo Rr (jIt (fun _ _ _ _ => none) (bL_law_80 (qxs E) (qxl E) k325) n l3 l4 l5 s) → qGo E ML_law 40 Rr [4, 3, 6, 1, 7, 1, 0, 0, 0, 0] 80 [0, 0, 0, l3, l4, l5, 0, 0, 0, 0] ([]) s := by
  intro n
  induction n with
  | zero => intro l3 l4 l5 s hF; exact qHo_none hF
  | succ n ih => exact obL_law_80 hLE hk325 ih

set_option maxRecDepth 100000 in
set_option maxHeartbeats 4000000 in
theorem obL_law_358 {E : qEnv} {Rr : Int → qMem → Prop} (hLE : qxl E < 2147483648) {k398 : qMem → qO} (hk398 : ∀ (s : qMem), qHo Rr (k398 s) → qGo E ML_law 40 Rr [0, 3, 0, 0, 0, 0, 0, 0, 0, 0] 398 [0, 0, 0, 0, 0, 0, 0, 0, 0, 0] ([]) s) {rec : Int → Int → qMem → qO} (hrec : ∀ (l4 l5 : Int) (s : qMem), qHo Rr (rec l4 l5 s) → qGo E ML_law 40 Rr [0, 3, 0, 0, 7, 1, 0, 0, 0, 0] 358 [0, 0, 0, 0, l4, l5, 0, 0, 0, 0] ([]) s) : ∀ (l4 l5 : Int) (s : qMem), qHo Rr (bL_law_358 (qxs E) (qxl E) k398 rec l4 l5 s) → qGo E ML_law 40 Rr [0, 3, 0, 0, 7, 1, 0, 0, 0, 0] 358 [0, 0, 0, 0, l4, l5, 0, 0, 0, 0] ([]) s := by
  intro l4 l5 s0 hF
  unfold bL_law_358 at hF
  refine qi_iload (pc := 358) l5 rfl rfl dL_law_358 (fun r1 => ?_)
  refine qg_bipush (pc := 360) rfl dL_law_360 ?_
  refine qi_icmp_ge 398 (pc := 362) r1 (jRc rfl) hF dL_law_362 rfl (fun hF => ?_) (fun hF => ?_)
  · refine qg_norm [0, 3, 0, 0, 0, 0, 0, 0, 0, 0] [0, 0, 0, 0, 0, 0, 0, 0, 0, 0] rfl rfl ?_
    exact hk398 _ hF
  · refine qi_aload_n (n := 1) (pc := 365) 0 rfl rfl rfl dL_law_365 (fun r2 => ?_)
    refine qi_iload (pc := 366) l5 rfl rfl dL_law_366 (fun r3 => ?_)
    refine qi_iconst (pc := 368) dL_law_368 ?_
    refine qi_callV1i (pc := 369) (f := fun s => fX10_tiles l5 2 s) [l5, 2] ([]) oX10_tiles wlL_46 wmX10_tiles rfl rfl (Nat.le_of_ble_eq_true rfl) (jRaC (jRc3 rfl) (jRaC r3 (jRaC (jRc rfl) jRa0))) rfl (fun _ => rfl) (Nat.le_of_ble_eq_true rfl) hF dL_law_369 (fun x4 s5 r_x4 hF => ?_)
    refine qg_aload7 (pc := 372) l4 rfl rfl dL_law_372 (fun r6 => ?_)
    refine qi_iload (pc := 374) l5 rfl rfl dL_law_374 (fun r7 => ?_)
    refine qi_fld (pc := 376) r6 r7 hF dL_law_376 (fun x8 r_x8 hF => ?_)
    refine qi_icmp_ne 390 (pc := 377) r_x4 r_x8 hF dL_law_377 rfl (fun hF => ?_) (fun hF => ?_)
    · refine qi_iconst (pc := 390) dL_law_390 ?_
      exact qi_retz (pc := 391) rfl (jRc5 rfl) hF dL_law_391
    · refine qi_aload_n (n := 1) (pc := 380) 0 rfl rfl rfl dL_law_380 (fun r9 => ?_)
      refine qi_iload (pc := 381) l5 rfl rfl dL_law_381 (fun r10 => ?_)
      refine qi_iconst (pc := 383) dL_law_383 ?_
      refine qi_callV1i (pc := 384) (f := fun s => fX10_tiles l5 1 s) [l5, 1] ([]) oX10_tiles wlL_46 wmX10_tiles rfl rfl (Nat.le_of_ble_eq_true rfl) (jRaC (jRc3 rfl) (jRaC r10 (jRaC (jRc rfl) jRa0))) rfl (fun _ => rfl) (Nat.le_of_ble_eq_true rfl) hF dL_law_384 (fun x11 s12 r_x11 hF => ?_)
      refine qi_if_eq 392 (pc := 387) r_x11 hF dL_law_387 rfl (fun hF => ?_) (fun hF => ?_)
      · refine qi_iinc (pc := 392) l5 (fun w => [0, 0, 0, 0, l4, w, 0, 0, 0, 0]) rfl rfl rfl (fun _ => rfl) hF dL_law_392 (fun x13 r_x13 hF => ?_)
        refine qg_goto (pc := 395) 358 dL_law_395 rfl ?_
        refine qg_norm [0, 3, 0, 0, 7, 1, 0, 0, 0, 0] [0, 0, 0, 0, l4, x13, 0, 0, 0, 0] rfl rfl ?_
        exact hrec _ _ _ hF
      · refine qi_iconst (pc := 390) dL_law_390 ?_
        exact qi_retz (pc := 391) rfl (jRc5 rfl) hF dL_law_391
theorem obL_law_358W {E : qEnv} {Rr : Int → qMem → Prop} (hLE : qxl E < 2147483648) {k398 : qMem → qO} (hk398 : ∀ (s : qMem), qHo Rr (k398 s) → qGo E ML_law 40 Rr [0, 3, 0, 0, 0, 0, 0, 0, 0, 0] 398 [0, 0, 0, 0, 0, 0, 0, 0, 0, 0] ([]) s) : ∀ n : Nat, ∀ (l4 l5 : Int) (s : qMem), qHo Rr (jIt (fun _ _ _ => none) (bL_law_358 (qxs E) (qxl E) k398) n l4 l5 s) → qGo E ML_law 40 Rr [0, 3, 0, 0, 7, 1, 0, 0, 0, 0] 358 [0, 0, 0, 0, l4, l5, 0, 0, 0, 0] ([]) s := by
  intro n
  induction n with
  | zero => intro l4 l5 s hF; exact qHo_none hF
  | succ n ih => exact obL_law_358 hLE hk398 ih

set_option maxRecDepth 100000 in
set_option maxHeartbeats 4000000 in
theorem obL_law_398 {E : qEnv} {Rr : Int → qMem → Prop} (hLE : qxl E < 2147483648) : ∀ (s : qMem), qHo Rr (bL_law_398 (qxs E) (qxl E) s) → qGo E ML_law 40 Rr [0, 3, 0, 0, 0, 0, 0, 0, 0, 0] 398 [0, 0, 0, 0, 0, 0, 0, 0, 0, 0] ([]) s := by
  intro s0 hF
  unfold bL_law_398 at hF
  refine qi_aload_n (n := 1) (pc := 398) 0 rfl rfl rfl dL_law_398 (fun r1 => ?_)
  refine qi_iconst (pc := 399) dL_law_399 ?_
  refine qi_callV1i (pc := 400) (f := fun s => fX10_unseen 0 s) [0] ([]) oX10_unseen wlL_74 wmX10_unseen rfl rfl (Nat.le_of_ble_eq_true rfl) (jRaC (jRc3 rfl) (jRaC (jRc rfl) jRa0)) rfl (fun _ => rfl) (Nat.le_of_ble_eq_true rfl) hF dL_law_400 (fun x2 s3 r_x2 hF => ?_)
  refine qg_bipush (pc := 403) rfl dL_law_403 ?_
  refine qi_icmp_ne 412 (pc := 405) r_x2 (jRc rfl) hF dL_law_405 rfl (fun hF => ?_) (fun hF => ?_)
  · refine qi_iconst (pc := 412) dL_law_412 ?_
    exact qi_retz (pc := 413) rfl (jRc5 rfl) hF dL_law_413
  · refine qi_iconst (pc := 408) dL_law_408 ?_
    refine qg_goto (pc := 409) 413 dL_law_409 rfl ?_
    exact qi_retz (pc := 413) rfl (jRc5 rfl) hF dL_law_413
set_option maxRecDepth 100000 in
set_option maxHeartbeats 4000000 in
theorem obL_law_325 {E : qEnv} {Rr : Int → qMem → Prop} (hLE : qxl E < 2147483648) : ∀ (l3 l4 : Int) (s : qMem), qHo Rr (bL_law_325 (qxs E) (qxl E) l3 l4 s) → qGo E ML_law 40 Rr [0, 3, 0, 1, 7, 0, 0, 0, 0, 0] 325 [0, 0, 0, l3, l4, 0, 0, 0, 0, 0] ([]) s := by
  intro l3 l4 s0 hF
  unfold bL_law_325 at hF
  refine qi_aload_n (n := 1) (pc := 325) 0 rfl rfl rfl dL_law_325 (fun r1 => ?_)
  refine qi_iload_n (n := 3) (pc := 326) l3 rfl rfl rfl dL_law_326 (fun r2 => ?_)
  refine qi_callV1ic (pc := 327) (f := fun s => jCz (fX10_deal l3 s)) [l3] ([]) oX10_deal wlL_52 wmX10_deal rfl rfl (Nat.le_of_ble_eq_true rfl) (jRaC (jRc3 rfl) (jRaC r2 jRa0)) rfl (fun _ => rfl) (Nat.le_of_ble_eq_true rfl) hF dL_law_327 (fun x3 s4 r_x3 hF => ?_)
  refine qi_if_ne 353 (pc := 330) r_x3 hF dL_law_330 rfl (fun hF => ?_) (fun hF => ?_)
  · refine qi_iconst (pc := 353) dL_law_353 ?_
    exact qi_retz (pc := 354) rfl (jRc5 rfl) hF dL_law_354
  · refine qi_aload_n (n := 1) (pc := 333) 0 rfl rfl rfl dL_law_333 (fun r5 => ?_)
    refine qi_iconst (pc := 334) dL_law_334 ?_
    refine qi_iconst (pc := 335) dL_law_335 ?_
    refine qi_callV1i (pc := 336) (f := fun s => fX10_about 3 0 s) [3, 0] ([]) oX10_about wlL_40 wmX10_about rfl rfl (Nat.le_of_ble_eq_true rfl) (jRaC (jRc3 rfl) (jRaC (jRc rfl) (jRaC (jRc rfl) jRa0))) rfl (fun _ => rfl) (Nat.le_of_ble_eq_true rfl) hF dL_law_336 (fun x6 s7 r_x6 hF => ?_)
    refine qg_bipush (pc := 339) rfl dL_law_339 ?_
    refine qi_icmp_ne 353 (pc := 341) r_x6 (jRc rfl) hF dL_law_341 rfl (fun hF => ?_) (fun hF => ?_)
    · refine qi_iconst (pc := 353) dL_law_353 ?_
      exact qi_retz (pc := 354) rfl (jRc5 rfl) hF dL_law_354
    · refine qi_aload_n (n := 1) (pc := 344) 0 rfl rfl rfl dL_law_344 (fun r8 => ?_)
      refine qi_iconst (pc := 345) dL_law_345 ?_
      refine qi_iconst (pc := 346) dL_law_346 ?_
      refine qi_callV1i (pc := 347) (f := fun s => fX10_about 0 2 s) [0, 2] ([]) oX10_about wlL_40 wmX10_about rfl rfl (Nat.le_of_ble_eq_true rfl) (jRaC (jRc3 rfl) (jRaC (jRc rfl) (jRaC (jRc rfl) jRa0))) rfl (fun _ => rfl) (Nat.le_of_ble_eq_true rfl) hF dL_law_347 (fun x9 s10 r_x9 hF => ?_)
      refine qi_if_eq 355 (pc := 350) r_x9 hF dL_law_350 rfl (fun hF => ?_) (fun hF => ?_)
      · refine qi_iconst (pc := 355) dL_law_355 ?_
        refine qi_istore (n := 5) (pc := 356) [0, 3, 0, 1, 7, 1, 0, 0, 0, 0] [0, 0, 0, l3, l4, 0, 0, 0, 0, 0] (jRc rfl) (Nat.le_of_ble_eq_true rfl) rfl rfl dL_law_356 ?_
        refine qg_norm [0, 3, 0, 0, 7, 1, 0, 0, 0, 0] [0, 0, 0, 0, l4, 0, 0, 0, 0, 0] rfl rfl ?_
        exact obL_law_358W hLE (obL_law_398 hLE) 1000 _ _ _ hF
      · refine qi_iconst (pc := 353) dL_law_353 ?_
        exact qi_retz (pc := 354) rfl (jRc5 rfl) hF dL_law_354
set_option maxRecDepth 100000 in
set_option maxHeartbeats 4000000 in
theorem obL_law_77 {E : qEnv} {Rr : Int → qMem → Prop} (hLE : qxl E < 2147483648) : ∀ (l3 l4 : Int) (s : qMem), qHo Rr (bL_law_77 (qxs E) (qxl E) l3 l4 s) → qGo E ML_law 40 Rr [4, 3, 6, 1, 7, 0, 0, 0, 0, 0] 77 [0, 0, 0, l3, l4, 0, 0, 0, 0, 0] ([]) s := by
  intro l3 l4 s0 hF
  unfold bL_law_77 at hF
  refine qi_iconst (pc := 77) dL_law_77 ?_
  refine qi_istore (n := 5) (pc := 78) [4, 3, 6, 1, 7, 1, 0, 0, 0, 0] [0, 0, 0, l3, l4, 0, 0, 0, 0, 0] (jRc rfl) (Nat.le_of_ble_eq_true rfl) rfl rfl dL_law_78 ?_
  refine qg_norm [4, 3, 6, 1, 7, 1, 0, 0, 0, 0] [0, 0, 0, l3, l4, 0, 0, 0, 0, 0] rfl rfl ?_
  exact obL_law_80W hLE (obL_law_325 hLE) 1000 _ _ _ _ hF
set_option maxRecDepth 100000 in
set_option maxHeartbeats 4000000 in
theorem obL_law_52 {E : qEnv} {Rr : Int → qMem → Prop} (hLE : qxl E < 2147483648) {rec : Int → Int → Int → qMem → qO} (hrec : ∀ (l3 l4 l5 : Int) (s : qMem), qHo Rr (rec l3 l4 l5 s) → qGo E ML_law 40 Rr [4, 3, 6, 1, 7, 1, 0, 0, 0, 0] 52 [0, 0, 0, l3, l4, l5, 0, 0, 0, 0] ([]) s) : ∀ (l3 l4 l5 : Int) (s : qMem), qHo Rr (bL_law_52 (qxs E) (qxl E) rec l3 l4 l5 s) → qGo E ML_law 40 Rr [4, 3, 6, 1, 7, 1, 0, 0, 0, 0] 52 [0, 0, 0, l3, l4, l5, 0, 0, 0, 0] ([]) s := by
  intro l3 l4 l5 s0 hF
  unfold bL_law_52 at hF
  refine qi_iload (pc := 52) l5 rfl rfl dL_law_52 (fun r1 => ?_)
  refine qg_bipush (pc := 54) rfl dL_law_54 ?_
  refine qi_icmp_ge 77 (pc := 56) r1 (jRc rfl) hF dL_law_56 rfl (fun hF => ?_) (fun hF => ?_)
  · refine qg_norm [4, 3, 6, 1, 7, 0, 0, 0, 0, 0] [0, 0, 0, l3, l4, 0, 0, 0, 0, 0] rfl rfl ?_
    exact obL_law_77 hLE _ _ _ hF
  · refine qg_aload7 (pc := 59) l4 rfl rfl dL_law_59 (fun r2 => ?_)
    refine qi_iload (pc := 61) l5 rfl rfl dL_law_61 (fun r3 => ?_)
    refine qi_aload_n (n := 1) (pc := 63) 0 rfl rfl rfl dL_law_63 (fun r4 => ?_)
    refine qi_iload (pc := 64) l5 rfl rfl dL_law_64 (fun r5 => ?_)
    refine qi_iconst (pc := 66) dL_law_66 ?_
    refine qi_callV1i (pc := 67) (f := fun s => fX10_tiles l5 2 s) [l5, 2] (jV E.1 1 l5 :: jV E.1 7 l4 :: []) oX10_tiles wlL_46 wmX10_tiles rfl rfl (Nat.le_of_ble_eq_true rfl) (jRaC (jRc3 rfl) (jRaC r5 (jRaC (jRc rfl) jRa0))) rfl (fun _ => rfl) (Nat.le_of_ble_eq_true rfl) hF dL_law_67 (fun x6 s7 r_x6 hF => ?_)
    refine qi_fst (pc := 70) r2 r3 r_x6 hF dL_law_70 (fun s8 hF => ?_)
    refine qi_iinc (pc := 71) l5 (fun w => [0, 0, 0, l3, l4, w, 0, 0, 0, 0]) rfl rfl rfl (fun _ => rfl) hF dL_law_71 (fun x9 r_x9 hF => ?_)
    refine qg_goto (pc := 74) 52 dL_law_74 rfl ?_
    refine qg_norm [4, 3, 6, 1, 7, 1, 0, 0, 0, 0] [0, 0, 0, l3, l4, x9, 0, 0, 0, 0] rfl rfl ?_
    exact hrec _ _ _ _ hF
theorem obL_law_52W {E : qEnv} {Rr : Int → qMem → Prop} (hLE : qxl E < 2147483648) : ∀ n : Nat, ∀ (l3 l4 l5 : Int) (s : qMem), qHo Rr (jIt (fun _ _ _ _ => none) (bL_law_52 (qxs E) (qxl E)) n l3 l4 l5 s) → qGo E ML_law 40 Rr [4, 3, 6, 1, 7, 1, 0, 0, 0, 0] 52 [0, 0, 0, l3, l4, l5, 0, 0, 0, 0] ([]) s := by
  intro n
  induction n with
  | zero => intro l3 l4 l5 s hF; exact qHo_none hF
  | succ n ih => exact obL_law_52 hLE ih

end

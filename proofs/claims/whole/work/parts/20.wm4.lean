section
def bX11_alike_95 (k37 : Int → Int → Int → Int → Int → Int → Int → jMem → jO) (l1 l2 l3 l4 l5 l7 t0 t1 : Int) (s0 : jMem) : jO :=
jLet (j32 (t0 + t1)) fun x1 =>
jLet (j32 (l7 + 1)) fun x2 =>
k37 l1 l2 l3 l4 l5 x1 x2 s0
def bX11_alike_68 (k37 : Int → Int → Int → Int → Int → Int → Int → jMem → jO) (l1 l2 l3 l4 l6 l7 t0 t1 : Int) (s0 : jMem) : jO :=
jLet (j32 (t0 + t1)) fun x1 =>
jLet (j32 (34 * l2)) fun x5 =>
jLet (j32 (x5 + l7)) fun x7 =>
jGd ((0 : Int) ≤ x7 ∧ x7 < jik 56) <| jLet (s0 56 x7) fun x8 =>
if x8 = l4 then (
bX11_alike_95 k37 l1 l2 l3 l4 x1 l7 l6 1 s0)
else (
bX11_alike_95 k37 l1 l2 l3 l4 x1 l7 l6 0 s0)
def bX11_alike_37 (k104 : Int → Int → Int → Int → Int → Int → jMem → jO) (rec : Int → Int → Int → Int → Int → Int → Int → jMem → jO) (l1 l2 l3 l4 l5 l6 l7 : Int) (s0 : jMem) : jO :=
if 34 ≤ l7 then (
k104 l1 l2 l3 l4 l5 l6 s0)
else (
jLet (j32 (34 * l1)) fun x5 =>
jLet (j32 (x5 + l7)) fun x7 =>
jGd ((0 : Int) ≤ x7 ∧ x7 < jik 56) <| jLet (s0 56 x7) fun x8 =>
if x8 = l4 then (
bX11_alike_68 rec l1 l2 l3 l4 l6 l7 l5 1 s0)
else (
bX11_alike_68 rec l1 l2 l3 l4 l6 l7 l5 0 s0))
def bX11_alike_119 (k120 : Int → Int → Int → Int → jMem → jO) (l1 l2 l4 : Int) (s0 : jMem) : jO :=
k120 l1 l2 l4 0 s0
def bX11_alike_120 (k21 : Int → Int → Int → Int → jMem → jO) (l1 l2 l4 t0 : Int) (s0 : jMem) : jO :=
jLet (j32 (l4 + 1)) fun x1 =>
k21 l1 l2 t0 x1 s0
def bX11_alike_104 (k21 : Int → Int → Int → Int → jMem → jO) (l1 l2 l3 l4 l5 l6 : Int) (s0 : jMem) : jO :=
if l3 = 0 then (
bX11_alike_119 (bX11_alike_120 k21) l1 l2 l4 s0)
else (
if l5 = l6 then (
bX11_alike_120 k21 l1 l2 l4 1 s0)
else (
bX11_alike_119 (bX11_alike_120 k21) l1 l2 l4 s0))
def bX11_alike_21 (k127 : Int → Int → Int → jMem → jO) (rec : Int → Int → Int → Int → jMem → jO) (l1 l2 l3 l4 : Int) (s0 : jMem) : jO :=
if 5 ≤ l4 then (
k127 l1 l2 l3 s0)
else (
jIt (fun _ _ _ _ _ _ _ _ => none) (bX11_alike_37 (bX11_alike_104 rec)) 1000 l1 l2 l3 l4 0 0 27 s0)
def bX11_alike_205 (k210 : Int → Int → Int → Int → Int → Int → jMem → jO) (l1 l2 l3 l5 l6 : Int) (s0 : jMem) : jO :=
k210 l1 l2 l3 l5 l6 1 s0
def bX11_alike_209 (k210 : Int → Int → Int → Int → Int → Int → jMem → jO) (l1 l2 l3 l5 l6 : Int) (s0 : jMem) : jO :=
k210 l1 l2 l3 l5 l6 0 s0
def bX11_alike_210 (k142 : Int → Int → Int → Int → Int → Int → jMem → jO) (l1 l2 l3 l5 l6 t0 : Int) (s0 : jMem) : jO :=
jLet (j32 (l6 + 1)) fun x1 =>
k142 l1 l2 l3 t0 l5 x1 s0
def bX11_alike_142 (k218 : Int → Int → Int → Int → Int → jMem → jO) (rec : Int → Int → Int → Int → Int → Int → jMem → jO) (l1 l2 l3 l4 l5 l6 : Int) (s0 : jMem) : jO :=
if 3 ≤ l6 then (
k218 l1 l2 l3 l4 l5 s0)
else (
jLet (j32 (3 - l5)) fun x3 =>
jLet (j32 (x3 - l6)) fun x5 =>
if l4 = 0 then (
if l5 = l6 then (
bX11_alike_209 (bX11_alike_210 rec) l1 l2 l3 l5 l6 s0)
else (
jBd (fX11_areRows l1 0 l2 l5 s0) fun x13 s14 =>
if x13 = 0 then (
bX11_alike_209 (bX11_alike_210 rec) l1 l2 l3 l5 l6 s14)
else (
jBd (fX11_areRows l1 1 l2 l6 s14) fun x19 s20 =>
if x19 = 0 then (
bX11_alike_209 (bX11_alike_210 rec) l1 l2 l3 l5 l6 s20)
else (
jBd (fX11_areRows l1 2 l2 x5 s20) fun x25 s26 =>
if x25 = 0 then (
bX11_alike_209 (bX11_alike_210 rec) l1 l2 l3 l5 l6 s26)
else (
bX11_alike_205 (bX11_alike_210 rec) l1 l2 l3 l5 l6 s26)))))
else (
bX11_alike_205 (bX11_alike_210 rec) l1 l2 l3 l5 l6 s0))
def bX11_alike_218 (k133 : Int → Int → Int → Int → Int → jMem → jO) (l1 l2 l3 l4 l5 : Int) (s0 : jMem) : jO :=
jLet (j32 (l5 + 1)) fun x1 =>
k133 l1 l2 l3 l4 x1 s0
def bX11_alike_133 (k224 : Int → Int → jMem → jO) (rec : Int → Int → Int → Int → Int → jMem → jO) (l1 l2 l3 l4 l5 : Int) (s0 : jMem) : jO :=
if 3 ≤ l5 then (
k224 l3 l4 s0)
else (
jIt (fun _ _ _ _ _ _ _ => none) (bX11_alike_142 (bX11_alike_218 rec)) 1000 l1 l2 l3 l4 l5 0 s0)
def bX11_alike_224 (l3 l4 : Int) (s0 : jMem) : jO :=
if l3 = 0 then (
jRet 0 s0)
else (
if l4 = 0 then (
jRet 0 s0)
else (
jRet 1 s0))
def bX11_alike_127 (l1 l2 l3 : Int) (s0 : jMem) : jO :=
jIt (fun _ _ _ _ _ _ => none) (bX11_alike_133 bX11_alike_224) 1000 l1 l2 l3 0 0 s0
def fX11_alike (l1 l2 : Int) (s0 : jMem) : jO :=
jBd (fX11_isHand l1 s0) fun x2 s3 =>
if x2 = 0 then (
jRet (-1) s3)
else (
jBd (fX11_isHand l2 s3) fun x5 s6 =>
if x5 = 0 then (
jRet (-1) s6)
else (
jIt (fun _ _ _ _ _ => none) (bX11_alike_21 bX11_alike_127) 1000 l1 l2 1 0 s6))
def gX11_alike (vs : List Int) (s : jMem) : jO := match vs with
  | [a0, a1, a2] => jGd (a0 = 53) <| fX11_alike a1 a2 s
  | _ => none
set_option maxRecDepth 100000 in
set_option maxHeartbeats 4000000 in
theorem obX11_alike_95 {E : jEnv} {Rr : Int → jMem → Prop} {k37 : Int → Int → Int → Int → Int → Int → Int → jMem → jO} (hk37 : ∀ (l1 l2 l3 l4 l5 l6 l7 : Int) (s : jMem), jHo Rr (k37 l1 l2 l3 l4 l5 l6 l7 s) → jGo E MX11_alike 2 Rr [3, 1, 1, 1, 1, 1, 1, 1] 37 [53, l1, l2, l3, l4, l5, l6, l7] ([]) s) : ∀ (l1 l2 l3 l4 l5 l7 t0 t1 : Int) (s : jMem), jR 1 t0 → jR 1 t1 → jHo Rr (bX11_alike_95 k37 l1 l2 l3 l4 l5 l7 t0 t1 s) → jGo E MX11_alike 2 Rr [3, 1, 1, 1, 1, 1, 0, 1] 95 [53, l1, l2, l3, l4, l5, 0, l7] (jV E 1 t1 :: jV E 1 t0 :: []) s := by
  intro l1 l2 l3 l4 l5 l7 t0 t1 s0 r_t0 r_t1 hF
  unfold bX11_alike_95 at hF
  refine ji_iadd (pc := 95)  hF dX11_alike_95 (fun x1 r_x1 hF => ?_)
  refine ji_istore (n := 6) (pc := 96) [3, 1, 1, 1, 1, 1, 1, 1] [53, l1, l2, l3, l4, l5, x1, l7] r_x1 (Nat.le_of_ble_eq_true rfl) rfl rfl dX11_alike_96 ?_
  refine ji_iinc (pc := 98) l7 (fun w => [53, l1, l2, l3, l4, l5, x1, w]) rfl rfl rfl (fun _ => rfl) hF dX11_alike_98 (fun x2 r_x2 hF => ?_)
  refine jg_goto (pc := 101) 37 dX11_alike_101 rfl ?_
  refine jg_norm [3, 1, 1, 1, 1, 1, 1, 1] [53, l1, l2, l3, l4, l5, x1, x2] rfl rfl ?_
  exact hk37 _ _ _ _ _ _ _ _ hF
set_option maxRecDepth 100000 in
set_option maxHeartbeats 4000000 in
theorem obX11_alike_68 {E : jEnv} {Rr : Int → jMem → Prop} {k37 : Int → Int → Int → Int → Int → Int → Int → jMem → jO} (hk37 : ∀ (l1 l2 l3 l4 l5 l6 l7 : Int) (s : jMem), jHo Rr (k37 l1 l2 l3 l4 l5 l6 l7 s) → jGo E MX11_alike 2 Rr [3, 1, 1, 1, 1, 1, 1, 1] 37 [53, l1, l2, l3, l4, l5, l6, l7] ([]) s) : ∀ (l1 l2 l3 l4 l6 l7 t0 t1 : Int) (s : jMem), jR 1 t0 → jR 1 t1 → jHo Rr (bX11_alike_68 k37 l1 l2 l3 l4 l6 l7 t0 t1 s) → jGo E MX11_alike 2 Rr [3, 1, 1, 1, 1, 0, 1, 1] 68 [53, l1, l2, l3, l4, 0, l6, l7] (jV E 1 t1 :: jV E 1 t0 :: []) s := by
  intro l1 l2 l3 l4 l6 l7 t0 t1 s0 r_t0 r_t1 hF
  unfold bX11_alike_68 at hF
  refine ji_iadd (pc := 68)  hF dX11_alike_68 (fun x1 r_x1 hF => ?_)
  refine ji_istore (n := 5) (pc := 69) [3, 1, 1, 1, 1, 1, 1, 1] [53, l1, l2, l3, l4, x1, l6, l7] r_x1 (Nat.le_of_ble_eq_true rfl) rfl rfl dX11_alike_69 ?_
  refine ji_iload (pc := 71) l6 rfl rfl dX11_alike_71 (fun r2 => ?_)
  refine ji_aload_n (n := 0) (pc := 73) 53 rfl rfl rfl dX11_alike_73 (fun r3 => ?_)
  refine ji_getr (pc := 74) 56 wfX11_16 (jRc3 rfl) jcl_53 jrf_53_2 dX11_alike_74 ?_
  refine jg_bipush (pc := 77) rfl dX11_alike_77 ?_
  refine ji_iload_n (n := 2) (pc := 79) l2 rfl rfl rfl dX11_alike_79 (fun r4 => ?_)
  refine ji_imul (pc := 80)  hF dX11_alike_80 (fun x5 r_x5 hF => ?_)
  refine ji_iload (pc := 81) l7 rfl rfl dX11_alike_81 (fun r6 => ?_)
  refine ji_iadd (pc := 83)  hF dX11_alike_83 (fun x7 r_x7 hF => ?_)
  refine ji_iaload (pc := 84) (jRc3 rfl) r_x7 hF dX11_alike_84 (fun x8 r_x8 hF => ?_)
  refine ji_iload (pc := 85) l4 rfl rfl dX11_alike_85 (fun r9 => ?_)
  refine ji_icmp_ne 94 (pc := 87) r_x8 r9 hF dX11_alike_87 rfl (fun hF => ?_) (fun hF => ?_)
  · refine ji_iconst (pc := 94) dX11_alike_94 ?_
    refine jg_norm [3, 1, 1, 1, 1, 1, 0, 1] [53, l1, l2, l3, l4, x1, 0, l7] rfl rfl ?_
    exact obX11_alike_95 hk37 _ _ _ _ _ _ _ _ _ r2 (jRc rfl) hF
  · refine ji_iconst (pc := 90) dX11_alike_90 ?_
    refine jg_goto (pc := 91) 95 dX11_alike_91 rfl ?_
    refine jg_norm [3, 1, 1, 1, 1, 1, 0, 1] [53, l1, l2, l3, l4, x1, 0, l7] rfl rfl ?_
    exact obX11_alike_95 hk37 _ _ _ _ _ _ _ _ _ r2 (jRc rfl) hF
set_option maxRecDepth 100000 in
set_option maxHeartbeats 4000000 in
theorem obX11_alike_37 {E : jEnv} {Rr : Int → jMem → Prop} {k104 : Int → Int → Int → Int → Int → Int → jMem → jO} (hk104 : ∀ (l1 l2 l3 l4 l5 l6 : Int) (s : jMem), jHo Rr (k104 l1 l2 l3 l4 l5 l6 s) → jGo E MX11_alike 2 Rr [3, 1, 1, 1, 1, 1, 1, 0] 104 [53, l1, l2, l3, l4, l5, l6, 0] ([]) s) {rec : Int → Int → Int → Int → Int → Int → Int → jMem → jO} (hrec : ∀ (l1 l2 l3 l4 l5 l6 l7 : Int) (s : jMem), jHo Rr (rec l1 l2 l3 l4 l5 l6 l7 s) → jGo E MX11_alike 2 Rr [3, 1, 1, 1, 1, 1, 1, 1] 37 [53, l1, l2, l3, l4, l5, l6, l7] ([]) s) : ∀ (l1 l2 l3 l4 l5 l6 l7 : Int) (s : jMem), jHo Rr (bX11_alike_37 k104 rec l1 l2 l3 l4 l5 l6 l7 s) → jGo E MX11_alike 2 Rr [3, 1, 1, 1, 1, 1, 1, 1] 37 [53, l1, l2, l3, l4, l5, l6, l7] ([]) s := by
  intro l1 l2 l3 l4 l5 l6 l7 s0 hF
  unfold bX11_alike_37 at hF
  refine ji_iload (pc := 37) l7 rfl rfl dX11_alike_37 (fun r1 => ?_)
  refine jg_bipush (pc := 39) rfl dX11_alike_39 ?_
  refine ji_icmp_ge 104 (pc := 41) r1 (jRc rfl) hF dX11_alike_41 rfl (fun hF => ?_) (fun hF => ?_)
  · refine jg_norm [3, 1, 1, 1, 1, 1, 1, 0] [53, l1, l2, l3, l4, l5, l6, 0] rfl rfl ?_
    exact hk104 _ _ _ _ _ _ _ hF
  · refine ji_iload (pc := 44) l5 rfl rfl dX11_alike_44 (fun r2 => ?_)
    refine ji_aload_n (n := 0) (pc := 46) 53 rfl rfl rfl dX11_alike_46 (fun r3 => ?_)
    refine ji_getr (pc := 47) 56 wfX11_16 (jRc3 rfl) jcl_53 jrf_53_2 dX11_alike_47 ?_
    refine jg_bipush (pc := 50) rfl dX11_alike_50 ?_
    refine ji_iload_n (n := 1) (pc := 52) l1 rfl rfl rfl dX11_alike_52 (fun r4 => ?_)
    refine ji_imul (pc := 53)  hF dX11_alike_53 (fun x5 r_x5 hF => ?_)
    refine ji_iload (pc := 54) l7 rfl rfl dX11_alike_54 (fun r6 => ?_)
    refine ji_iadd (pc := 56)  hF dX11_alike_56 (fun x7 r_x7 hF => ?_)
    refine ji_iaload (pc := 57) (jRc3 rfl) r_x7 hF dX11_alike_57 (fun x8 r_x8 hF => ?_)
    refine ji_iload (pc := 58) l4 rfl rfl dX11_alike_58 (fun r9 => ?_)
    refine ji_icmp_ne 67 (pc := 60) r_x8 r9 hF dX11_alike_60 rfl (fun hF => ?_) (fun hF => ?_)
    · refine ji_iconst (pc := 67) dX11_alike_67 ?_
      refine jg_norm [3, 1, 1, 1, 1, 0, 1, 1] [53, l1, l2, l3, l4, 0, l6, l7] rfl rfl ?_
      exact obX11_alike_68 hrec _ _ _ _ _ _ _ _ _ r2 (jRc rfl) hF
    · refine ji_iconst (pc := 63) dX11_alike_63 ?_
      refine jg_goto (pc := 64) 68 dX11_alike_64 rfl ?_
      refine jg_norm [3, 1, 1, 1, 1, 0, 1, 1] [53, l1, l2, l3, l4, 0, l6, l7] rfl rfl ?_
      exact obX11_alike_68 hrec _ _ _ _ _ _ _ _ _ r2 (jRc rfl) hF
theorem obX11_alike_37W {E : jEnv} {Rr : Int → jMem → Prop} {k104 : Int → Int → Int → Int → Int → Int → jMem → jO} (hk104 : ∀ (l1 l2 l3 l4 l5 l6 : Int) (s : jMem), jHo Rr (k104 l1 l2 l3 l4 l5 l6 s) → jGo E MX11_alike 2 Rr [3, 1, 1, 1, 1, 1, 1, 0] 104 [53, l1, l2, l3, l4, l5, l6, 0] ([]) s) : ∀ n : Nat, ∀ (l1 l2 l3 l4 l5 l6 l7 : Int) (s : jMem), jHo Rr (jIt (fun _ _ _ _ _ _ _ _ => none) (bX11_alike_37 k104) n l1 l2 l3 l4 l5 l6 l7 s) → jGo E MX11_alike 2 Rr [3, 1, 1, 1, 1, 1, 1, 1] 37 [53, l1, l2, l3, l4, l5, l6, l7] ([]) s := by
  intro n
  induction n with
  | zero => intro l1 l2 l3 l4 l5 l6 l7 s hF; exact jHo_none hF
  | succ n ih => exact obX11_alike_37 hk104 ih

set_option maxRecDepth 100000 in
set_option maxHeartbeats 4000000 in
theorem obX11_alike_119 {E : jEnv} {Rr : Int → jMem → Prop} {k120 : Int → Int → Int → Int → jMem → jO} (hk120 : ∀ (l1 l2 l4 t0 : Int) (s : jMem), jR 1 t0 → jHo Rr (k120 l1 l2 l4 t0 s) → jGo E MX11_alike 2 Rr [3, 1, 1, 0, 1, 0, 0, 0] 120 [53, l1, l2, 0, l4, 0, 0, 0] (jV E 1 t0 :: []) s) : ∀ (l1 l2 l4 : Int) (s : jMem), jHo Rr (bX11_alike_119 k120 l1 l2 l4 s) → jGo E MX11_alike 2 Rr [3, 1, 1, 0, 1, 0, 0, 0] 119 [53, l1, l2, 0, l4, 0, 0, 0] ([]) s := by
  intro l1 l2 l4 s0 hF
  unfold bX11_alike_119 at hF
  refine ji_iconst (pc := 119) dX11_alike_119 ?_
  refine jg_norm [3, 1, 1, 0, 1, 0, 0, 0] [53, l1, l2, 0, l4, 0, 0, 0] rfl rfl ?_
  exact hk120 _ _ _ _ _ (jRc rfl) hF
set_option maxRecDepth 100000 in
set_option maxHeartbeats 4000000 in
theorem obX11_alike_120 {E : jEnv} {Rr : Int → jMem → Prop} {k21 : Int → Int → Int → Int → jMem → jO} (hk21 : ∀ (l1 l2 l3 l4 : Int) (s : jMem), jHo Rr (k21 l1 l2 l3 l4 s) → jGo E MX11_alike 2 Rr [3, 1, 1, 1, 1, 0, 0, 0] 21 [53, l1, l2, l3, l4, 0, 0, 0] ([]) s) : ∀ (l1 l2 l4 t0 : Int) (s : jMem), jR 1 t0 → jHo Rr (bX11_alike_120 k21 l1 l2 l4 t0 s) → jGo E MX11_alike 2 Rr [3, 1, 1, 0, 1, 0, 0, 0] 120 [53, l1, l2, 0, l4, 0, 0, 0] (jV E 1 t0 :: []) s := by
  intro l1 l2 l4 t0 s0 r_t0 hF
  unfold bX11_alike_120 at hF
  refine ji_istore_n (n := 3) (pc := 120) [3, 1, 1, 1, 1, 0, 0, 0] [53, l1, l2, t0, l4, 0, 0, 0] rfl r_t0 (Nat.le_of_ble_eq_true rfl) rfl rfl dX11_alike_120 ?_
  refine ji_iinc (pc := 121) l4 (fun w => [53, l1, l2, t0, w, 0, 0, 0]) rfl rfl rfl (fun _ => rfl) hF dX11_alike_121 (fun x1 r_x1 hF => ?_)
  refine jg_goto (pc := 124) 21 dX11_alike_124 rfl ?_
  refine jg_norm [3, 1, 1, 1, 1, 0, 0, 0] [53, l1, l2, t0, x1, 0, 0, 0] rfl rfl ?_
  exact hk21 _ _ _ _ _ hF
set_option maxRecDepth 100000 in
set_option maxHeartbeats 4000000 in
theorem obX11_alike_104 {E : jEnv} {Rr : Int → jMem → Prop} {k21 : Int → Int → Int → Int → jMem → jO} (hk21 : ∀ (l1 l2 l3 l4 : Int) (s : jMem), jHo Rr (k21 l1 l2 l3 l4 s) → jGo E MX11_alike 2 Rr [3, 1, 1, 1, 1, 0, 0, 0] 21 [53, l1, l2, l3, l4, 0, 0, 0] ([]) s) : ∀ (l1 l2 l3 l4 l5 l6 : Int) (s : jMem), jHo Rr (bX11_alike_104 k21 l1 l2 l3 l4 l5 l6 s) → jGo E MX11_alike 2 Rr [3, 1, 1, 1, 1, 1, 1, 0] 104 [53, l1, l2, l3, l4, l5, l6, 0] ([]) s := by
  intro l1 l2 l3 l4 l5 l6 s0 hF
  unfold bX11_alike_104 at hF
  refine ji_iload_n (n := 3) (pc := 104) l3 rfl rfl rfl dX11_alike_104 (fun r1 => ?_)
  refine ji_if_eq 119 (pc := 105) r1 hF dX11_alike_105 rfl (fun hF => ?_) (fun hF => ?_)
  · refine jg_norm [3, 1, 1, 0, 1, 0, 0, 0] [53, l1, l2, 0, l4, 0, 0, 0] rfl rfl ?_
    exact obX11_alike_119 (obX11_alike_120 hk21) _ _ _ _ hF
  · refine ji_iload (pc := 108) l5 rfl rfl dX11_alike_108 (fun r2 => ?_)
    refine ji_iload (pc := 110) l6 rfl rfl dX11_alike_110 (fun r3 => ?_)
    refine ji_icmp_ne 119 (pc := 112) r2 r3 hF dX11_alike_112 rfl (fun hF => ?_) (fun hF => ?_)
    · refine jg_norm [3, 1, 1, 0, 1, 0, 0, 0] [53, l1, l2, 0, l4, 0, 0, 0] rfl rfl ?_
      exact obX11_alike_119 (obX11_alike_120 hk21) _ _ _ _ hF
    · refine ji_iconst (pc := 115) dX11_alike_115 ?_
      refine jg_goto (pc := 116) 120 dX11_alike_116 rfl ?_
      refine jg_norm [3, 1, 1, 0, 1, 0, 0, 0] [53, l1, l2, 0, l4, 0, 0, 0] rfl rfl ?_
      exact obX11_alike_120 hk21 _ _ _ _ _ (jRc rfl) hF
set_option maxRecDepth 100000 in
set_option maxHeartbeats 4000000 in
theorem obX11_alike_21 {E : jEnv} {Rr : Int → jMem → Prop} {k127 : Int → Int → Int → jMem → jO} (hk127 : ∀ (l1 l2 l3 : Int) (s : jMem), jHo Rr (k127 l1 l2 l3 s) → jGo E MX11_alike 2 Rr [3, 1, 1, 1, 0, 0, 0, 0] 127 [53, l1, l2, l3, 0, 0, 0, 0] ([]) s) {rec : Int → Int → Int → Int → jMem → jO} (hrec : ∀ (l1 l2 l3 l4 : Int) (s : jMem), jHo Rr (rec l1 l2 l3 l4 s) → jGo E MX11_alike 2 Rr [3, 1, 1, 1, 1, 0, 0, 0] 21 [53, l1, l2, l3, l4, 0, 0, 0] ([]) s) : ∀ (l1 l2 l3 l4 : Int) (s : jMem), jHo Rr (bX11_alike_21 k127 rec l1 l2 l3 l4 s) → jGo E MX11_alike 2 Rr [3, 1, 1, 1, 1, 0, 0, 0] 21 [53, l1, l2, l3, l4, 0, 0, 0] ([]) s := by
  intro l1 l2 l3 l4 s0 hF
  unfold bX11_alike_21 at hF
  refine ji_iload (pc := 21) l4 rfl rfl dX11_alike_21 (fun r1 => ?_)
  refine ji_iconst (pc := 23) dX11_alike_23 ?_
  refine ji_icmp_ge 127 (pc := 24) r1 (jRc rfl) hF dX11_alike_24 rfl (fun hF => ?_) (fun hF => ?_)
  · refine jg_norm [3, 1, 1, 1, 0, 0, 0, 0] [53, l1, l2, l3, 0, 0, 0, 0] rfl rfl ?_
    exact hk127 _ _ _ _ hF
  · refine ji_iconst (pc := 27) dX11_alike_27 ?_
    refine ji_istore (n := 5) (pc := 28) [3, 1, 1, 1, 1, 1, 0, 0] [53, l1, l2, l3, l4, 0, 0, 0] (jRc rfl) (Nat.le_of_ble_eq_true rfl) rfl rfl dX11_alike_28 ?_
    refine ji_iconst (pc := 30) dX11_alike_30 ?_
    refine ji_istore (n := 6) (pc := 31) [3, 1, 1, 1, 1, 1, 1, 0] [53, l1, l2, l3, l4, 0, 0, 0] (jRc rfl) (Nat.le_of_ble_eq_true rfl) rfl rfl dX11_alike_31 ?_
    refine jg_bipush (pc := 33) rfl dX11_alike_33 ?_
    refine ji_istore (n := 7) (pc := 35) [3, 1, 1, 1, 1, 1, 1, 1] [53, l1, l2, l3, l4, 0, 0, 27] (jRc rfl) (Nat.le_of_ble_eq_true rfl) rfl rfl dX11_alike_35 ?_
    refine jg_norm [3, 1, 1, 1, 1, 1, 1, 1] [53, l1, l2, l3, l4, 0, 0, 27] rfl rfl ?_
    exact obX11_alike_37W (obX11_alike_104 hrec) 1000 _ _ _ _ _ _ _ _ hF
theorem obX11_alike_21W {E : jEnv} {Rr : Int → jMem → Prop} {k127 : Int → Int → Int → jMem → jO} (hk127 : ∀ (l1 l2 l3 : Int) (s : jMem), jHo Rr (k127 l1 l2 l3 s) → jGo E MX11_alike 2 Rr [3, 1, 1, 1, 0, 0, 0, 0] 127 [53, l1, l2, l3, 0, 0, 0, 0] ([]) s) : ∀ n : Nat, ∀ (l1 l2 l3 l4 : Int) (s : jMem), jHo Rr (jIt (fun _ _ _ _ _ => none) (bX11_alike_21 k127) n l1 l2 l3 l4 s) → jGo E MX11_alike 2 Rr [3, 1, 1, 1, 1, 0, 0, 0] 21 [53, l1, l2, l3, l4, 0, 0, 0] ([]) s := by
  intro n
  induction n with
  | zero => intro l1 l2 l3 l4 s hF; exact jHo_none hF
  | succ n ih => exact obX11_alike_21 hk127 ih

set_option maxRecDepth 100000 in
set_option maxHeartbeats 4000000 in
theorem obX11_alike_205 {E : jEnv} {Rr : Int → jMem → Prop} {k210 : Int → Int → Int → Int → Int → Int → jMem → jO} (hk210 : ∀ (l1 l2 l3 l5 l6 t0 : Int) (s : jMem), jR 1 t0 → jHo Rr (k210 l1 l2 l3 l5 l6 t0 s) → jGo E MX11_alike 2 Rr [3, 1, 1, 1, 0, 1, 1, 0] 210 [53, l1, l2, l3, 0, l5, l6, 0] (jV E 1 t0 :: []) s) : ∀ (l1 l2 l3 l5 l6 : Int) (s : jMem), jHo Rr (bX11_alike_205 k210 l1 l2 l3 l5 l6 s) → jGo E MX11_alike 2 Rr [3, 1, 1, 1, 0, 1, 1, 0] 205 [53, l1, l2, l3, 0, l5, l6, 0] ([]) s := by
  intro l1 l2 l3 l5 l6 s0 hF
  unfold bX11_alike_205 at hF
  refine ji_iconst (pc := 205) dX11_alike_205 ?_
  refine jg_goto (pc := 206) 210 dX11_alike_206 rfl ?_
  refine jg_norm [3, 1, 1, 1, 0, 1, 1, 0] [53, l1, l2, l3, 0, l5, l6, 0] rfl rfl ?_
  exact hk210 _ _ _ _ _ _ _ (jRc rfl) hF
set_option maxRecDepth 100000 in
set_option maxHeartbeats 4000000 in
theorem obX11_alike_209 {E : jEnv} {Rr : Int → jMem → Prop} {k210 : Int → Int → Int → Int → Int → Int → jMem → jO} (hk210 : ∀ (l1 l2 l3 l5 l6 t0 : Int) (s : jMem), jR 1 t0 → jHo Rr (k210 l1 l2 l3 l5 l6 t0 s) → jGo E MX11_alike 2 Rr [3, 1, 1, 1, 0, 1, 1, 0] 210 [53, l1, l2, l3, 0, l5, l6, 0] (jV E 1 t0 :: []) s) : ∀ (l1 l2 l3 l5 l6 : Int) (s : jMem), jHo Rr (bX11_alike_209 k210 l1 l2 l3 l5 l6 s) → jGo E MX11_alike 2 Rr [3, 1, 1, 1, 0, 1, 1, 0] 209 [53, l1, l2, l3, 0, l5, l6, 0] ([]) s := by
  intro l1 l2 l3 l5 l6 s0 hF
  unfold bX11_alike_209 at hF
  refine ji_iconst (pc := 209) dX11_alike_209 ?_
  refine jg_norm [3, 1, 1, 1, 0, 1, 1, 0] [53, l1, l2, l3, 0, l5, l6, 0] rfl rfl ?_
  exact hk210 _ _ _ _ _ _ _ (jRc rfl) hF
set_option maxRecDepth 100000 in
set_option maxHeartbeats 4000000 in
theorem obX11_alike_210 {E : jEnv} {Rr : Int → jMem → Prop} {k142 : Int → Int → Int → Int → Int → Int → jMem → jO} (hk142 : ∀ (l1 l2 l3 l4 l5 l6 : Int) (s : jMem), jHo Rr (k142 l1 l2 l3 l4 l5 l6 s) → jGo E MX11_alike 2 Rr [3, 1, 1, 1, 1, 1, 1, 0] 142 [53, l1, l2, l3, l4, l5, l6, 0] ([]) s) : ∀ (l1 l2 l3 l5 l6 t0 : Int) (s : jMem), jR 1 t0 → jHo Rr (bX11_alike_210 k142 l1 l2 l3 l5 l6 t0 s) → jGo E MX11_alike 2 Rr [3, 1, 1, 1, 0, 1, 1, 0] 210 [53, l1, l2, l3, 0, l5, l6, 0] (jV E 1 t0 :: []) s := by
  intro l1 l2 l3 l5 l6 t0 s0 r_t0 hF
  unfold bX11_alike_210 at hF
  refine ji_istore (n := 4) (pc := 210) [3, 1, 1, 1, 1, 1, 1, 0] [53, l1, l2, l3, t0, l5, l6, 0] r_t0 (Nat.le_of_ble_eq_true rfl) rfl rfl dX11_alike_210 ?_
  refine ji_iinc (pc := 212) l6 (fun w => [53, l1, l2, l3, t0, l5, w, 0]) rfl rfl rfl (fun _ => rfl) hF dX11_alike_212 (fun x1 r_x1 hF => ?_)
  refine jg_goto (pc := 215) 142 dX11_alike_215 rfl ?_
  refine jg_norm [3, 1, 1, 1, 1, 1, 1, 0] [53, l1, l2, l3, t0, l5, x1, 0] rfl rfl ?_
  exact hk142 _ _ _ _ _ _ _ hF
set_option maxRecDepth 100000 in
set_option maxHeartbeats 4000000 in
theorem obX11_alike_142 {E : jEnv} {Rr : Int → jMem → Prop} {k218 : Int → Int → Int → Int → Int → jMem → jO} (hk218 : ∀ (l1 l2 l3 l4 l5 : Int) (s : jMem), jHo Rr (k218 l1 l2 l3 l4 l5 s) → jGo E MX11_alike 2 Rr [3, 1, 1, 1, 1, 1, 0, 0] 218 [53, l1, l2, l3, l4, l5, 0, 0] ([]) s) {rec : Int → Int → Int → Int → Int → Int → jMem → jO} (hrec : ∀ (l1 l2 l3 l4 l5 l6 : Int) (s : jMem), jHo Rr (rec l1 l2 l3 l4 l5 l6 s) → jGo E MX11_alike 2 Rr [3, 1, 1, 1, 1, 1, 1, 0] 142 [53, l1, l2, l3, l4, l5, l6, 0] ([]) s) : ∀ (l1 l2 l3 l4 l5 l6 : Int) (s : jMem), jHo Rr (bX11_alike_142 k218 rec l1 l2 l3 l4 l5 l6 s) → jGo E MX11_alike 2 Rr [3, 1, 1, 1, 1, 1, 1, 0] 142 [53, l1, l2, l3, l4, l5, l6, 0] ([]) s := by
  intro l1 l2 l3 l4 l5 l6 s0 hF
  unfold bX11_alike_142 at hF
  refine ji_iload (pc := 142) l6 rfl rfl dX11_alike_142 (fun r1 => ?_)
  refine ji_iconst (pc := 144) dX11_alike_144 ?_
  refine ji_icmp_ge 218 (pc := 145) r1 (jRc rfl) hF dX11_alike_145 rfl (fun hF => ?_) (fun hF => ?_)
  · refine jg_norm [3, 1, 1, 1, 1, 1, 0, 0] [53, l1, l2, l3, l4, l5, 0, 0] rfl rfl ?_
    exact hk218 _ _ _ _ _ _ hF
  · refine ji_iconst (pc := 148) dX11_alike_148 ?_
    refine ji_iload (pc := 149) l5 rfl rfl dX11_alike_149 (fun r2 => ?_)
    refine ji_isub (pc := 151)  hF dX11_alike_151 (fun x3 r_x3 hF => ?_)
    refine ji_iload (pc := 152) l6 rfl rfl dX11_alike_152 (fun r4 => ?_)
    refine ji_isub (pc := 154)  hF dX11_alike_154 (fun x5 r_x5 hF => ?_)
    refine ji_istore (n := 7) (pc := 155) [3, 1, 1, 1, 1, 1, 1, 1] [53, l1, l2, l3, l4, l5, l6, x5] r_x5 (Nat.le_of_ble_eq_true rfl) rfl rfl dX11_alike_155 ?_
    refine ji_iload (pc := 157) l4 rfl rfl dX11_alike_157 (fun r6 => ?_)
    refine ji_if_ne 205 (pc := 159) r6 hF dX11_alike_159 rfl (fun hF => ?_) (fun hF => ?_)
    · refine jg_norm [3, 1, 1, 1, 0, 1, 1, 0] [53, l1, l2, l3, 0, l5, l6, 0] rfl rfl ?_
      exact obX11_alike_205 (obX11_alike_210 hrec) _ _ _ _ _ _ hF
    · refine ji_iload (pc := 162) l5 rfl rfl dX11_alike_162 (fun r7 => ?_)
      refine ji_iload (pc := 164) l6 rfl rfl dX11_alike_164 (fun r8 => ?_)
      refine ji_icmp_eq 209 (pc := 166) r7 r8 hF dX11_alike_166 rfl (fun hF => ?_) (fun hF => ?_)
      · refine jg_norm [3, 1, 1, 1, 0, 1, 1, 0] [53, l1, l2, l3, 0, l5, l6, 0] rfl rfl ?_
        exact obX11_alike_209 (obX11_alike_210 hrec) _ _ _ _ _ _ hF
      · refine ji_aload_n (n := 0) (pc := 169) 53 rfl rfl rfl dX11_alike_169 (fun r9 => ?_)
        refine ji_iload_n (n := 1) (pc := 170) l1 rfl rfl rfl dX11_alike_170 (fun r10 => ?_)
        refine ji_iconst (pc := 171) dX11_alike_171 ?_
        refine ji_iload_n (n := 2) (pc := 172) l2 rfl rfl rfl dX11_alike_172 (fun r11 => ?_)
        refine ji_iload (pc := 173) l5 rfl rfl dX11_alike_173 (fun r12 => ?_)
        refine ji_callVz (pc := 175) 53 [l1, 0, l2, l5] ([]) oX11_areRows wlX11_267 wmX11_areRows rfl rfl (Nat.le_of_ble_eq_true rfl) (jRaC (jRc3 rfl) (jRaC r10 (jRaC (jRc rfl) (jRaC r11 (jRaC r12 jRa0))))) rfl jcl_53 rfl (Nat.le_of_ble_eq_true rfl) hF dX11_alike_175 (fun x13 s14 r_x13 hF => ?_)
        refine ji_if_eq 209 (pc := 178) (jR51 r_x13) hF dX11_alike_178 rfl (fun hF => ?_) (fun hF => ?_)
        · refine jg_norm [3, 1, 1, 1, 0, 1, 1, 0] [53, l1, l2, l3, 0, l5, l6, 0] rfl rfl ?_
          exact obX11_alike_209 (obX11_alike_210 hrec) _ _ _ _ _ _ hF
        · refine ji_aload_n (n := 0) (pc := 181) 53 rfl rfl rfl dX11_alike_181 (fun r15 => ?_)
          refine ji_iload_n (n := 1) (pc := 182) l1 rfl rfl rfl dX11_alike_182 (fun r16 => ?_)
          refine ji_iconst (pc := 183) dX11_alike_183 ?_
          refine ji_iload_n (n := 2) (pc := 184) l2 rfl rfl rfl dX11_alike_184 (fun r17 => ?_)
          refine ji_iload (pc := 185) l6 rfl rfl dX11_alike_185 (fun r18 => ?_)
          refine ji_callVz (pc := 187) 53 [l1, 1, l2, l6] ([]) oX11_areRows wlX11_267 wmX11_areRows rfl rfl (Nat.le_of_ble_eq_true rfl) (jRaC (jRc3 rfl) (jRaC r16 (jRaC (jRc rfl) (jRaC r17 (jRaC r18 jRa0))))) rfl jcl_53 rfl (Nat.le_of_ble_eq_true rfl) hF dX11_alike_187 (fun x19 s20 r_x19 hF => ?_)
          refine ji_if_eq 209 (pc := 190) (jR51 r_x19) hF dX11_alike_190 rfl (fun hF => ?_) (fun hF => ?_)
          · refine jg_norm [3, 1, 1, 1, 0, 1, 1, 0] [53, l1, l2, l3, 0, l5, l6, 0] rfl rfl ?_
            exact obX11_alike_209 (obX11_alike_210 hrec) _ _ _ _ _ _ hF
          · refine ji_aload_n (n := 0) (pc := 193) 53 rfl rfl rfl dX11_alike_193 (fun r21 => ?_)
            refine ji_iload_n (n := 1) (pc := 194) l1 rfl rfl rfl dX11_alike_194 (fun r22 => ?_)
            refine ji_iconst (pc := 195) dX11_alike_195 ?_
            refine ji_iload_n (n := 2) (pc := 196) l2 rfl rfl rfl dX11_alike_196 (fun r23 => ?_)
            refine ji_iload (pc := 197) x5 rfl rfl dX11_alike_197 (fun r24 => ?_)
            refine ji_callVz (pc := 199) 53 [l1, 2, l2, x5] ([]) oX11_areRows wlX11_267 wmX11_areRows rfl rfl (Nat.le_of_ble_eq_true rfl) (jRaC (jRc3 rfl) (jRaC r22 (jRaC (jRc rfl) (jRaC r23 (jRaC r24 jRa0))))) rfl jcl_53 rfl (Nat.le_of_ble_eq_true rfl) hF dX11_alike_199 (fun x25 s26 r_x25 hF => ?_)
            refine ji_if_eq 209 (pc := 202) (jR51 r_x25) hF dX11_alike_202 rfl (fun hF => ?_) (fun hF => ?_)
            · refine jg_norm [3, 1, 1, 1, 0, 1, 1, 0] [53, l1, l2, l3, 0, l5, l6, 0] rfl rfl ?_
              exact obX11_alike_209 (obX11_alike_210 hrec) _ _ _ _ _ _ hF
            · refine jg_norm [3, 1, 1, 1, 0, 1, 1, 0] [53, l1, l2, l3, 0, l5, l6, 0] rfl rfl ?_
              exact obX11_alike_205 (obX11_alike_210 hrec) _ _ _ _ _ _ hF
theorem obX11_alike_142W {E : jEnv} {Rr : Int → jMem → Prop} {k218 : Int → Int → Int → Int → Int → jMem → jO} (hk218 : ∀ (l1 l2 l3 l4 l5 : Int) (s : jMem), jHo Rr (k218 l1 l2 l3 l4 l5 s) → jGo E MX11_alike 2 Rr [3, 1, 1, 1, 1, 1, 0, 0] 218 [53, l1, l2, l3, l4, l5, 0, 0] ([]) s) : ∀ n : Nat, ∀ (l1 l2 l3 l4 l5 l6 : Int) (s : jMem), jHo Rr (jIt (fun _ _ _ _ _ _ _ => none) (bX11_alike_142 k218) n l1 l2 l3 l4 l5 l6 s) → jGo E MX11_alike 2 Rr [3, 1, 1, 1, 1, 1, 1, 0] 142 [53, l1, l2, l3, l4, l5, l6, 0] ([]) s := by
  intro n
  induction n with
  | zero => intro l1 l2 l3 l4 l5 l6 s hF; exact jHo_none hF
  | succ n ih => exact obX11_alike_142 hk218 ih

set_option maxRecDepth 100000 in
set_option maxHeartbeats 4000000 in
theorem obX11_alike_218 {E : jEnv} {Rr : Int → jMem → Prop} {k133 : Int → Int → Int → Int → Int → jMem → jO} (hk133 : ∀ (l1 l2 l3 l4 l5 : Int) (s : jMem), jHo Rr (k133 l1 l2 l3 l4 l5 s) → jGo E MX11_alike 2 Rr [3, 1, 1, 1, 1, 1, 0, 0] 133 [53, l1, l2, l3, l4, l5, 0, 0] ([]) s) : ∀ (l1 l2 l3 l4 l5 : Int) (s : jMem), jHo Rr (bX11_alike_218 k133 l1 l2 l3 l4 l5 s) → jGo E MX11_alike 2 Rr [3, 1, 1, 1, 1, 1, 0, 0] 218 [53, l1, l2, l3, l4, l5, 0, 0] ([]) s := by
  intro l1 l2 l3 l4 l5 s0 hF
  unfold bX11_alike_218 at hF
  refine ji_iinc (pc := 218) l5 (fun w => [53, l1, l2, l3, l4, w, 0, 0]) rfl rfl rfl (fun _ => rfl) hF dX11_alike_218 (fun x1 r_x1 hF => ?_)
  refine jg_goto (pc := 221) 133 dX11_alike_221 rfl ?_
  refine jg_norm [3, 1, 1, 1, 1, 1, 0, 0] [53, l1, l2, l3, l4, x1, 0, 0] rfl rfl ?_
  exact hk133 _ _ _ _ _ _ hF
set_option maxRecDepth 100000 in
set_option maxHeartbeats 4000000 in
theorem obX11_alike_133 {E : jEnv} {Rr : Int → jMem → Prop} {k224 : Int → Int → jMem → jO} (hk224 : ∀ (l3 l4 : Int) (s : jMem), jHo Rr (k224 l3 l4 s) → jGo E MX11_alike 2 Rr [0, 0, 0, 1, 1, 0, 0, 0] 224 [0, 0, 0, l3, l4, 0, 0, 0] ([]) s) {rec : Int → Int → Int → Int → Int → jMem → jO} (hrec : ∀ (l1 l2 l3 l4 l5 : Int) (s : jMem), jHo Rr (rec l1 l2 l3 l4 l5 s) → jGo E MX11_alike 2 Rr [3, 1, 1, 1, 1, 1, 0, 0] 133 [53, l1, l2, l3, l4, l5, 0, 0] ([]) s) : ∀ (l1 l2 l3 l4 l5 : Int) (s : jMem), jHo Rr (bX11_alike_133 k224 rec l1 l2 l3 l4 l5 s) → jGo E MX11_alike 2 Rr [3, 1, 1, 1, 1, 1, 0, 0] 133 [53, l1, l2, l3, l4, l5, 0, 0] ([]) s := by
  intro l1 l2 l3 l4 l5 s0 hF
  unfold bX11_alike_133 at hF
  refine ji_iload (pc := 133) l5 rfl rfl dX11_alike_133 (fun r1 => ?_)
  refine ji_iconst (pc := 135) dX11_alike_135 ?_
  refine ji_icmp_ge 224 (pc := 136) r1 (jRc rfl) hF dX11_alike_136 rfl (fun hF => ?_) (fun hF => ?_)
  · refine jg_norm [0, 0, 0, 1, 1, 0, 0, 0] [0, 0, 0, l3, l4, 0, 0, 0] rfl rfl ?_
    exact hk224 _ _ _ hF
  · refine ji_iconst (pc := 139) dX11_alike_139 ?_
    refine ji_istore (n := 6) (pc := 140) [3, 1, 1, 1, 1, 1, 1, 0] [53, l1, l2, l3, l4, l5, 0, 0] (jRc rfl) (Nat.le_of_ble_eq_true rfl) rfl rfl dX11_alike_140 ?_
    refine jg_norm [3, 1, 1, 1, 1, 1, 1, 0] [53, l1, l2, l3, l4, l5, 0, 0] rfl rfl ?_
    exact obX11_alike_142W (obX11_alike_218 hrec) 1000 _ _ _ _ _ _ _ hF
theorem obX11_alike_133W {E : jEnv} {Rr : Int → jMem → Prop} {k224 : Int → Int → jMem → jO} (hk224 : ∀ (l3 l4 : Int) (s : jMem), jHo Rr (k224 l3 l4 s) → jGo E MX11_alike 2 Rr [0, 0, 0, 1, 1, 0, 0, 0] 224 [0, 0, 0, l3, l4, 0, 0, 0] ([]) s) : ∀ n : Nat, ∀ (l1 l2 l3 l4 l5 : Int) (s : jMem), jHo Rr (jIt (fun _ _ _ _ _ _ => none) (bX11_alike_133 k224) n l1 l2 l3 l4 l5 s) → jGo E MX11_alike 2 Rr [3, 1, 1, 1, 1, 1, 0, 0] 133 [53, l1, l2, l3, l4, l5, 0, 0] ([]) s := by
  intro n
  induction n with
  | zero => intro l1 l2 l3 l4 l5 s hF; exact jHo_none hF
  | succ n ih => exact obX11_alike_133 hk224 ih

set_option maxRecDepth 100000 in
set_option maxHeartbeats 4000000 in
theorem obX11_alike_224 {E : jEnv} {Rr : Int → jMem → Prop} : ∀ (l3 l4 : Int) (s : jMem), jHo Rr (bX11_alike_224 l3 l4 s) → jGo E MX11_alike 2 Rr [0, 0, 0, 1, 1, 0, 0, 0] 224 [0, 0, 0, l3, l4, 0, 0, 0] ([]) s := by
  intro l3 l4 s0 hF
  unfold bX11_alike_224 at hF
  refine ji_iload_n (n := 3) (pc := 224) l3 rfl rfl rfl dX11_alike_224 (fun r1 => ?_)
  refine ji_if_eq 237 (pc := 225) r1 hF dX11_alike_225 rfl (fun hF => ?_) (fun hF => ?_)
  · refine ji_iconst (pc := 237) dX11_alike_237 ?_
    exact ji_reti (pc := 238) rfl (jRc rfl) hF dX11_alike_238
  · refine ji_iload (pc := 228) l4 rfl rfl dX11_alike_228 (fun r2 => ?_)
    refine ji_if_eq 237 (pc := 230) r2 hF dX11_alike_230 rfl (fun hF => ?_) (fun hF => ?_)
    · refine ji_iconst (pc := 237) dX11_alike_237 ?_
      exact ji_reti (pc := 238) rfl (jRc rfl) hF dX11_alike_238
    · refine ji_iconst (pc := 233) dX11_alike_233 ?_
      refine jg_goto (pc := 234) 238 dX11_alike_234 rfl ?_
      exact ji_reti (pc := 238) rfl (jRc rfl) hF dX11_alike_238
set_option maxRecDepth 100000 in
set_option maxHeartbeats 4000000 in
theorem obX11_alike_127 {E : jEnv} {Rr : Int → jMem → Prop} : ∀ (l1 l2 l3 : Int) (s : jMem), jHo Rr (bX11_alike_127 l1 l2 l3 s) → jGo E MX11_alike 2 Rr [3, 1, 1, 1, 0, 0, 0, 0] 127 [53, l1, l2, l3, 0, 0, 0, 0] ([]) s := by
  intro l1 l2 l3 s0 hF
  unfold bX11_alike_127 at hF
  refine ji_iconst (pc := 127) dX11_alike_127 ?_
  refine ji_istore (n := 4) (pc := 128) [3, 1, 1, 1, 1, 0, 0, 0] [53, l1, l2, l3, 0, 0, 0, 0] (jRc rfl) (Nat.le_of_ble_eq_true rfl) rfl rfl dX11_alike_128 ?_
  refine ji_iconst (pc := 130) dX11_alike_130 ?_
  refine ji_istore (n := 5) (pc := 131) [3, 1, 1, 1, 1, 1, 0, 0] [53, l1, l2, l3, 0, 0, 0, 0] (jRc rfl) (Nat.le_of_ble_eq_true rfl) rfl rfl dX11_alike_131 ?_
  refine jg_norm [3, 1, 1, 1, 1, 1, 0, 0] [53, l1, l2, l3, 0, 0, 0, 0] rfl rfl ?_
  exact obX11_alike_133W obX11_alike_224 1000 _ _ _ _ _ _ hF
set_option maxRecDepth 100000 in
set_option maxHeartbeats 4000000 in
theorem oX11_alike : jOk MX11_alike [3, 1, 1] 2 (jFn gX11_alike) := by
  refine jOk_fn (by decide +kernel) (Nat.le_of_ble_eq_true rfl) (by decide +kernel) (.inr (.inl rfl)) ?_
  intro E vs s0 Rr hF ha
  obtain ⟨l0, t0, rfl, r_l0, ha⟩ := jRa_ci ha
  obtain ⟨l1, t1, rfl, r_l1, ha⟩ := jRa_ci ha
  obtain ⟨l2, t2, rfl, r_l2, ha⟩ := jRa_ci ha
  obtain rfl := jRa_ni ha
  replace hF : jHo Rr (jGd (l0 = 53) <| fX11_alike l1 l2 s0) := hF
  have hG := jHo_as hF
  clear hF
  obtain ⟨rfl, hF⟩ := hG
  refine jg_norm [3, 1, 1, 0, 0, 0, 0, 0] [53, l1, l2, 0, 0, 0, 0, 0] rfl rfl ?_
  unfold fX11_alike at hF
  refine ji_iload_n (n := 1) (pc := 0) l1 rfl rfl rfl dX11_alike_0 (fun r1 => ?_)
  refine ji_callSz (pc := 1) [l1] ([]) oX11_isHand wlX11_114 wmX11_isHand rfl rfl (Nat.le_of_ble_eq_true rfl) (jRaC r1 jRa0) rfl rfl (Nat.le_of_ble_eq_true rfl) hF dX11_alike_1 (fun x2 s3 r_x2 hF => ?_)
  refine ji_if_eq 14 (pc := 4) (jR51 r_x2) hF dX11_alike_4 rfl (fun hF => ?_) (fun hF => ?_)
  · refine ji_iconst (pc := 14) dX11_alike_14 ?_
    exact ji_reti (pc := 15) rfl (jRc rfl) hF dX11_alike_15
  · refine ji_iload_n (n := 2) (pc := 7) l2 rfl rfl rfl dX11_alike_7 (fun r4 => ?_)
    refine ji_callSz (pc := 8) [l2] ([]) oX11_isHand wlX11_114 wmX11_isHand rfl rfl (Nat.le_of_ble_eq_true rfl) (jRaC r4 jRa0) rfl rfl (Nat.le_of_ble_eq_true rfl) hF dX11_alike_8 (fun x5 s6 r_x5 hF => ?_)
    refine ji_if_ne 16 (pc := 11) (jR51 r_x5) hF dX11_alike_11 rfl (fun hF => ?_) (fun hF => ?_)
    · refine ji_iconst (pc := 16) dX11_alike_16 ?_
      refine ji_istore_n (n := 3) (pc := 17) [3, 1, 1, 1, 0, 0, 0, 0] [53, l1, l2, 1, 0, 0, 0, 0] rfl (jRc rfl) (Nat.le_of_ble_eq_true rfl) rfl rfl dX11_alike_17 ?_
      refine ji_iconst (pc := 18) dX11_alike_18 ?_
      refine ji_istore (n := 4) (pc := 19) [3, 1, 1, 1, 1, 0, 0, 0] [53, l1, l2, 1, 0, 0, 0, 0] (jRc rfl) (Nat.le_of_ble_eq_true rfl) rfl rfl dX11_alike_19 ?_
      refine jg_norm [3, 1, 1, 1, 1, 0, 0, 0] [53, l1, l2, 1, 0, 0, 0, 0] rfl rfl ?_
      exact obX11_alike_21W obX11_alike_127 1000 _ _ _ _ _ hF
    · refine ji_iconst (pc := 14) dX11_alike_14 ?_
      exact ji_reti (pc := 15) rfl (jRc rfl) hF dX11_alike_15
def fX11_rule (l1 l2 l3 : Int) (s0 : jMem) : jO :=
jBd (fX11_in l1 0 9 s0) fun x2 s3 =>
if x2 = 0 then (
jRet (-1) s3)
else (
jBd (fX11_in l2 0 1000 s3) fun x5 s6 =>
if x5 = 0 then (
jRet (-1) s6)
else (
jBd (fX11_in l3 (-1) 9 s6) fun x8 s9 =>
if x8 = 0 then (
jRet (-1) s9)
else (
jLet (s9 53 12) fun x11 =>
if x11 = 20 then (
jRet (-4) s9)
else (
jLet (s9 53 12) fun x14 =>
jGd ((0 : Int) ≤ x14 ∧ x14 < jik 63) <| jLet (jU s9 63 x14 l1) fun s16 =>
jLet (s16 53 12) fun x19 =>
jGd ((0 : Int) ≤ x19 ∧ x19 < jik 64) <| jLet (jU s16 64 x19 l2) fun s21 =>
jLet (s21 53 12) fun x24 =>
jGd ((0 : Int) ≤ x24 ∧ x24 < jik 65) <| jLet (jU s21 65 x24 l3) fun s26 =>
jLet (s26 53 12) fun x28 =>
jLet (j32 (x28 + 1)) fun x29 =>
jLet (jU s26 53 12 x29) fun s30 =>
jLet (s30 53 12) fun x32 =>
jLet (j32 (x32 - 1)) fun x33 =>
jRet x33 s30))))
def gX11_rule (vs : List Int) (s : jMem) : jO := match vs with
  | [a0, a1, a2, a3] => jGd (a0 = 53) <| fX11_rule a1 a2 a3 s
  | _ => none
set_option maxRecDepth 100000 in
set_option maxHeartbeats 4000000 in
theorem oX11_rule : jOk MX11_rule [3, 1, 1, 1] 1 (jFn gX11_rule) := by
  refine jOk_fn (by decide +kernel) (Nat.le_of_ble_eq_true rfl) (by decide +kernel) (.inr (.inl rfl)) ?_
  intro E vs s0 Rr hF ha
  obtain ⟨l0, t0, rfl, r_l0, ha⟩ := jRa_ci ha
  obtain ⟨l1, t1, rfl, r_l1, ha⟩ := jRa_ci ha
  obtain ⟨l2, t2, rfl, r_l2, ha⟩ := jRa_ci ha
  obtain ⟨l3, t3, rfl, r_l3, ha⟩ := jRa_ci ha
  obtain rfl := jRa_ni ha
  replace hF : jHo Rr (jGd (l0 = 53) <| fX11_rule l1 l2 l3 s0) := hF
  have hG := jHo_as hF
  clear hF
  obtain ⟨rfl, hF⟩ := hG
  refine jg_norm [3, 1, 1, 1] [53, l1, l2, l3] rfl rfl ?_
  unfold fX11_rule at hF
  refine ji_iload_n (n := 1) (pc := 0) l1 rfl rfl rfl dX11_rule_0 (fun r1 => ?_)
  refine jg_i2l (pc := 1) r1 dX11_rule_1 ?_
  refine jg_lconst (n := 0) (pc := 2) rfl dX11_rule_2 ?_
  refine jg_ldc2 (n := 9) (pc := 3) wnX11_147 dX11_rule_3 ?_
  refine ji_callSz (pc := 6) [l1, 0, 9] ([]) oX11_in wlX11_86 wmX11_in rfl rfl (Nat.le_of_ble_eq_true rfl) (jRaC (jR12 r1) (jRaC (jRc2 rfl) (jRaC (jRc2 rfl) jRa0))) rfl rfl (Nat.le_of_ble_eq_true rfl) hF dX11_rule_6 (fun x2 s3 r_x2 hF => ?_)
  refine ji_if_eq 38 (pc := 9) (jR51 r_x2) hF dX11_rule_9 rfl (fun hF => ?_) (fun hF => ?_)
  · refine ji_iconst (pc := 38) dX11_rule_38 ?_
    exact ji_reti (pc := 39) rfl (jRc rfl) hF dX11_rule_39
  · refine ji_iload_n (n := 2) (pc := 12) l2 rfl rfl rfl dX11_rule_12 (fun r4 => ?_)
    refine jg_i2l (pc := 13) r4 dX11_rule_13 ?_
    refine jg_lconst (n := 0) (pc := 14) rfl dX11_rule_14 ?_
    refine jg_ldc2 (n := 1000) (pc := 15) wnX11_271 dX11_rule_15 ?_
    refine ji_callSz (pc := 18) [l2, 0, 1000] ([]) oX11_in wlX11_86 wmX11_in rfl rfl (Nat.le_of_ble_eq_true rfl) (jRaC (jR12 r4) (jRaC (jRc2 rfl) (jRaC (jRc2 rfl) jRa0))) rfl rfl (Nat.le_of_ble_eq_true rfl) hF dX11_rule_18 (fun x5 s6 r_x5 hF => ?_)
    refine ji_if_eq 38 (pc := 21) (jR51 r_x5) hF dX11_rule_21 rfl (fun hF => ?_) (fun hF => ?_)
    · refine ji_iconst (pc := 38) dX11_rule_38 ?_
      exact ji_reti (pc := 39) rfl (jRc rfl) hF dX11_rule_39
    · refine ji_iload_n (n := 3) (pc := 24) l3 rfl rfl rfl dX11_rule_24 (fun r7 => ?_)
      refine jg_i2l (pc := 25) r7 dX11_rule_25 ?_
      refine jg_ldc2 (n := (-1)) (pc := 26) wnX11_98 dX11_rule_26 ?_
      refine jg_ldc2 (n := 9) (pc := 29) wnX11_147 dX11_rule_29 ?_
      refine ji_callSz (pc := 32) [l3, (-1), 9] ([]) oX11_in wlX11_86 wmX11_in rfl rfl (Nat.le_of_ble_eq_true rfl) (jRaC (jR12 r7) (jRaC (jRc2 rfl) (jRaC (jRc2 rfl) jRa0))) rfl rfl (Nat.le_of_ble_eq_true rfl) hF dX11_rule_32 (fun x8 s9 r_x8 hF => ?_)
      refine ji_if_ne 40 (pc := 35) (jR51 r_x8) hF dX11_rule_35 rfl (fun hF => ?_) (fun hF => ?_)
      · refine ji_aload_n (n := 0) (pc := 40) 53 rfl rfl rfl dX11_rule_40 (fun r10 => ?_)
        refine ji_getfi (pc := 41) wfX11_273 (jRc3 rfl) jcl_53 hF dX11_rule_41 (fun x11 r_x11 hF => ?_)
        refine jg_bipush (pc := 44) rfl dX11_rule_44 ?_
        refine ji_icmp_ne 52 (pc := 46) r_x11 (jRc rfl) hF dX11_rule_46 rfl (fun hF => ?_) (fun hF => ?_)
        · refine ji_aload_n (n := 0) (pc := 52) 53 rfl rfl rfl dX11_rule_52 (fun r12 => ?_)
          refine ji_getr (pc := 53) 63 wfX11_41 (jRc3 rfl) jcl_53 jrf_53_13 dX11_rule_53 ?_
          refine ji_aload_n (n := 0) (pc := 56) 53 rfl rfl rfl dX11_rule_56 (fun r13 => ?_)
          refine ji_getfi (pc := 57) wfX11_273 (jRc3 rfl) jcl_53 hF dX11_rule_57 (fun x14 r_x14 hF => ?_)
          refine ji_iload_n (n := 1) (pc := 60) l1 rfl rfl rfl dX11_rule_60 (fun r15 => ?_)
          refine ji_iastore (pc := 61) (jRc3 rfl) r_x14 r15 hF dX11_rule_61 (fun s16 hF => ?_)
          refine ji_aload_n (n := 0) (pc := 62) 53 rfl rfl rfl dX11_rule_62 (fun r17 => ?_)
          refine ji_getr (pc := 63) 64 wfX11_44 (jRc3 rfl) jcl_53 jrf_53_14 dX11_rule_63 ?_
          refine ji_aload_n (n := 0) (pc := 66) 53 rfl rfl rfl dX11_rule_66 (fun r18 => ?_)
          refine ji_getfi (pc := 67) wfX11_273 (jRc3 rfl) jcl_53 hF dX11_rule_67 (fun x19 r_x19 hF => ?_)
          refine ji_iload_n (n := 2) (pc := 70) l2 rfl rfl rfl dX11_rule_70 (fun r20 => ?_)
          refine ji_iastore (pc := 71) (jRc3 rfl) r_x19 r20 hF dX11_rule_71 (fun s21 hF => ?_)
          refine ji_aload_n (n := 0) (pc := 72) 53 rfl rfl rfl dX11_rule_72 (fun r22 => ?_)
          refine ji_getr (pc := 73) 65 wfX11_47 (jRc3 rfl) jcl_53 jrf_53_15 dX11_rule_73 ?_
          refine ji_aload_n (n := 0) (pc := 76) 53 rfl rfl rfl dX11_rule_76 (fun r23 => ?_)
          refine ji_getfi (pc := 77) wfX11_273 (jRc3 rfl) jcl_53 hF dX11_rule_77 (fun x24 r_x24 hF => ?_)
          refine ji_iload_n (n := 3) (pc := 80) l3 rfl rfl rfl dX11_rule_80 (fun r25 => ?_)
          refine ji_iastore (pc := 81) (jRc3 rfl) r_x24 r25 hF dX11_rule_81 (fun s26 hF => ?_)
          refine ji_aload_n (n := 0) (pc := 82) 53 rfl rfl rfl dX11_rule_82 (fun r27 => ?_)
          refine jg_dup (pc := 83) (by decide) dX11_rule_83 ?_
          refine ji_getfi (pc := 84) wfX11_273 (jRc3 rfl) jcl_53 hF dX11_rule_84 (fun x28 r_x28 hF => ?_)
          refine ji_iconst (pc := 87) dX11_rule_87 ?_
          refine ji_iadd (pc := 88)  hF dX11_rule_88 (fun x29 r_x29 hF => ?_)
          refine ji_putfi (pc := 89) wpX11_273 (jRc3 rfl) jcl_53 r_x29 hF dX11_rule_89 (fun s30 hF => ?_)
          refine ji_aload_n (n := 0) (pc := 92) 53 rfl rfl rfl dX11_rule_92 (fun r31 => ?_)
          refine ji_getfi (pc := 93) wfX11_273 (jRc3 rfl) jcl_53 hF dX11_rule_93 (fun x32 r_x32 hF => ?_)
          refine ji_iconst (pc := 96) dX11_rule_96 ?_
          refine ji_isub (pc := 97)  hF dX11_rule_97 (fun x33 r_x33 hF => ?_)
          exact ji_reti (pc := 98) rfl r_x33 hF dX11_rule_98
        · refine jg_bipush (pc := 49) rfl dX11_rule_49 ?_
          exact ji_reti (pc := 51) rfl (jRc rfl) hF dX11_rule_51
      · refine ji_iconst (pc := 38) dX11_rule_38 ?_
        exact ji_reti (pc := 39) rfl (jRc rfl) hF dX11_rule_39
def fX11_clearRules (s0 : jMem) : jO :=
jLet (s0 53 12) fun x2 =>
jLet (jU s0 53 12 0) fun s4 =>
jRet x2 s4
def gX11_clearRules (vs : List Int) (s : jMem) : jO := match vs with
  | [a0] => jGd (a0 = 53) <| fX11_clearRules s
  | _ => none
set_option maxRecDepth 100000 in
set_option maxHeartbeats 4000000 in
theorem oX11_clearRules : jOk MX11_clearRules [3] 0 (jFn gX11_clearRules) := by
  refine jOk_fn (by decide +kernel) (Nat.le_of_ble_eq_true rfl) (by decide +kernel) (.inr (.inl rfl)) ?_
  intro E vs s0 Rr hF ha
  obtain ⟨l0, t0, rfl, r_l0, ha⟩ := jRa_ci ha
  obtain rfl := jRa_ni ha
  replace hF : jHo Rr (jGd (l0 = 53) <| fX11_clearRules s0) := hF
  have hG := jHo_as hF
  clear hF
  obtain ⟨rfl, hF⟩ := hG
  refine jg_norm [3, 0] [53, 0] rfl rfl ?_
  unfold fX11_clearRules at hF
  refine ji_aload_n (n := 0) (pc := 0) 53 rfl rfl rfl dX11_clearRules_0 (fun r1 => ?_)
  refine ji_getfi (pc := 1) wfX11_273 (jRc3 rfl) jcl_53 hF dX11_clearRules_1 (fun x2 r_x2 hF => ?_)
  refine ji_istore_n (n := 1) (pc := 4) [3, 1] [53, x2] rfl r_x2 (Nat.le_of_ble_eq_true rfl) rfl rfl dX11_clearRules_4 ?_
  refine ji_aload_n (n := 0) (pc := 5) 53 rfl rfl rfl dX11_clearRules_5 (fun r3 => ?_)
  refine ji_iconst (pc := 6) dX11_clearRules_6 ?_
  refine ji_putfi (pc := 7) wpX11_273 (jRc3 rfl) jcl_53 (jRc rfl) hF dX11_clearRules_7 (fun s4 hF => ?_)
  refine ji_iload_n (n := 1) (pc := 10) x2 rfl rfl rfl dX11_clearRules_10 (fun r5 => ?_)
  exact ji_reti (pc := 11) rfl r5 hF dX11_clearRules_11
def fX11_hasOuter (l0 : Int) (s0 : jMem) : jO :=
jGd (¬ (100 : Int) = 0) <| jLet (jrem l0 100) fun x2 =>
jGd (¬ (100 : Int) = 0) <| jLet (jdiv l0 100) fun x4 =>
if x4 = 1 then (
jGd (¬ (9 : Int) = 0) <| jLet (jrem x2 9) fun x9 =>
if x9 = 0 then (
jRet 1 s0)
else (
jGd (¬ (9 : Int) = 0) <| jLet (jrem x2 9) fun x11 =>
if x11 = 6 then (
jRet 1 s0)
else (
jRet 0 s0)))
else (
jBd (fX11_isOuter x2 s0) fun x6 s7 =>
jRet x6 s7)
def gX11_hasOuter (vs : List Int) (s : jMem) : jO := match vs with
  | [a0] => fX11_hasOuter a0 s
  | _ => none
set_option maxRecDepth 100000 in
set_option maxHeartbeats 4000000 in
theorem oX11_hasOuter : jOk MX11_hasOuter [1] 1 (jFn gX11_hasOuter) := by
  refine jOk_fn (by decide +kernel) (Nat.le_of_ble_eq_true rfl) (by decide +kernel) (.inr (.inr (.inr rfl))) ?_
  intro E vs s0 Rr hF ha
  obtain ⟨l0, t0, rfl, r_l0, ha⟩ := jRa_ci ha
  obtain rfl := jRa_ni ha
  replace hF : jHo Rr (fX11_hasOuter l0 s0) := hF
  refine jg_norm [1, 0] [l0, 0] rfl rfl ?_
  unfold fX11_hasOuter at hF
  refine ji_iload_n (n := 0) (pc := 0) l0 rfl rfl rfl dX11_hasOuter_0 (fun r1 => ?_)
  refine jg_bipush (pc := 1) rfl dX11_hasOuter_1 ?_
  refine ji_irem (pc := 3) (jRc rfl) hF dX11_hasOuter_3 (fun x2 r_x2 hF => ?_)
  refine ji_istore_n (n := 1) (pc := 4) [1, 1] [l0, x2] rfl r_x2 (Nat.le_of_ble_eq_true rfl) rfl rfl dX11_hasOuter_4 ?_
  refine ji_iload_n (n := 0) (pc := 5) l0 rfl rfl rfl dX11_hasOuter_5 (fun r3 => ?_)
  refine jg_bipush (pc := 6) rfl dX11_hasOuter_6 ?_
  refine ji_idiv (pc := 8) (jRc rfl) hF dX11_hasOuter_8 (fun x4 r_x4 hF => ?_)
  refine ji_iconst (pc := 9) dX11_hasOuter_9 ?_
  refine ji_icmp_ne 37 (pc := 10) r_x4 (jRc rfl) hF dX11_hasOuter_10 rfl (fun hF => ?_) (fun hF => ?_)
  · refine ji_iload_n (n := 1) (pc := 37) x2 rfl rfl rfl dX11_hasOuter_37 (fun r5 => ?_)
    refine ji_callSz (pc := 38) [x2] ([]) oX11_isOuter wlX11_162 wmX11_isOuter rfl rfl (Nat.le_of_ble_eq_true rfl) (jRaC r5 jRa0) rfl rfl (Nat.le_of_ble_eq_true rfl) hF dX11_hasOuter_38 (fun x6 s7 r_x6 hF => ?_)
    exact ji_retz (pc := 41) rfl r_x6 hF dX11_hasOuter_41
  · refine ji_iload_n (n := 1) (pc := 13) x2 rfl rfl rfl dX11_hasOuter_13 (fun r8 => ?_)
    refine jg_bipush (pc := 14) rfl dX11_hasOuter_14 ?_
    refine ji_irem (pc := 16) (jRc rfl) hF dX11_hasOuter_16 (fun x9 r_x9 hF => ?_)
    refine ji_if_eq 29 (pc := 17) r_x9 hF dX11_hasOuter_17 rfl (fun hF => ?_) (fun hF => ?_)
    · refine ji_iconst (pc := 29) dX11_hasOuter_29 ?_
      refine jg_goto (pc := 30) 41 dX11_hasOuter_30 rfl ?_
      exact ji_retz (pc := 41) rfl (jRc5 rfl) hF dX11_hasOuter_41
    · refine ji_iload_n (n := 1) (pc := 20) x2 rfl rfl rfl dX11_hasOuter_20 (fun r10 => ?_)
      refine jg_bipush (pc := 21) rfl dX11_hasOuter_21 ?_
      refine ji_irem (pc := 23) (jRc rfl) hF dX11_hasOuter_23 (fun x11 r_x11 hF => ?_)
      refine jg_bipush (pc := 24) rfl dX11_hasOuter_24 ?_
      refine ji_icmp_ne 33 (pc := 26) r_x11 (jRc rfl) hF dX11_hasOuter_26 rfl (fun hF => ?_) (fun hF => ?_)
      · refine ji_iconst (pc := 33) dX11_hasOuter_33 ?_
        refine jg_goto (pc := 34) 41 dX11_hasOuter_34 rfl ?_
        exact ji_retz (pc := 41) rfl (jRc5 rfl) hF dX11_hasOuter_41
      · refine ji_iconst (pc := 29) dX11_hasOuter_29 ?_
        refine jg_goto (pc := 30) 41 dX11_hasOuter_30 rfl ?_
        exact ji_retz (pc := 41) rfl (jRc5 rfl) hF dX11_hasOuter_41
def bX11_isOneRow_37 (k4 : Int → Int → jMem → jO) (l2 t0 t1 : Int) (s0 : jMem) : jO :=
jLet (jor t0 t1) fun x1 =>
jLet (j32 (l2 + 1)) fun x2 =>
k4 x1 x2 s0
def bX11_isOneRow_4 (k45 : Int → jMem → jO) (rec : Int → Int → jMem → jO) (l1 l2 : Int) (s0 : jMem) : jO :=
if 34 ≤ l2 then (
k45 l1 s0)
else (
jGd ((0 : Int) ≤ l2 ∧ l2 < jik 68) <| jLet (s0 68 l2) fun x5 =>
jGd ((0 : Int) ≤ l2 ∧ l2 < jik 69) <| jLet (s0 69 l2) fun x8 =>
jLet (j32 (x5 + x8)) fun x9 =>
if x9 ≤ 0 then (
bX11_isOneRow_37 rec l2 l1 0 s0)
else (
jBd (fX11_rowOf l2 s0) fun x11 s12 =>
jLet (jshl 1 x11) fun x13 =>
bX11_isOneRow_37 rec l2 l1 x13 s12))
def bX11_isOneRow_45 (l1 : Int) (s0 : jMem) : jO :=
if l1 = 1 then (
jRet 1 s0)
else (
if l1 = 2 then (
jRet 1 s0)
else (
if l1 = 4 then (
jRet 1 s0)
else (
if l1 = 8 then (
jRet 1 s0)
else (
jRet 0 s0))))
def fX11_isOneRow (s0 : jMem) : jO :=
jIt (fun _ _ _ => none) (bX11_isOneRow_4 bX11_isOneRow_45) 1000 0 0 s0
def gX11_isOneRow (vs : List Int) (s : jMem) : jO := match vs with
  | [a0] => jGd (a0 = 53) <| fX11_isOneRow s
  | _ => none
set_option maxRecDepth 100000 in
set_option maxHeartbeats 4000000 in
theorem obX11_isOneRow_37 {E : jEnv} {Rr : Int → jMem → Prop} {k4 : Int → Int → jMem → jO} (hk4 : ∀ (l1 l2 : Int) (s : jMem), jHo Rr (k4 l1 l2 s) → jGo E MX11_isOneRow 1 Rr [3, 1, 1] 4 [53, l1, l2] ([]) s) : ∀ (l2 t0 t1 : Int) (s : jMem), jR 1 t0 → jR 1 t1 → jHo Rr (bX11_isOneRow_37 k4 l2 t0 t1 s) → jGo E MX11_isOneRow 1 Rr [3, 0, 1] 37 [53, 0, l2] (jV E 1 t1 :: jV E 1 t0 :: []) s := by
  intro l2 t0 t1 s0 r_t0 r_t1 hF
  unfold bX11_isOneRow_37 at hF
  refine ji_ior (pc := 37)  hF dX11_isOneRow_37 (fun x1 r_x1 hF => ?_)
  refine ji_istore_n (n := 1) (pc := 38) [3, 1, 1] [53, x1, l2] rfl r_x1 (Nat.le_of_ble_eq_true rfl) rfl rfl dX11_isOneRow_38 ?_
  refine ji_iinc (pc := 39) l2 (fun w => [53, x1, w]) rfl rfl rfl (fun _ => rfl) hF dX11_isOneRow_39 (fun x2 r_x2 hF => ?_)
  refine jg_goto (pc := 42) 4 dX11_isOneRow_42 rfl ?_
  refine jg_norm [3, 1, 1] [53, x1, x2] rfl rfl ?_
  exact hk4 _ _ _ hF
set_option maxRecDepth 100000 in
set_option maxHeartbeats 4000000 in
theorem obX11_isOneRow_4 {E : jEnv} {Rr : Int → jMem → Prop} {k45 : Int → jMem → jO} (hk45 : ∀ (l1 : Int) (s : jMem), jHo Rr (k45 l1 s) → jGo E MX11_isOneRow 1 Rr [0, 1, 0] 45 [0, l1, 0] ([]) s) {rec : Int → Int → jMem → jO} (hrec : ∀ (l1 l2 : Int) (s : jMem), jHo Rr (rec l1 l2 s) → jGo E MX11_isOneRow 1 Rr [3, 1, 1] 4 [53, l1, l2] ([]) s) : ∀ (l1 l2 : Int) (s : jMem), jHo Rr (bX11_isOneRow_4 k45 rec l1 l2 s) → jGo E MX11_isOneRow 1 Rr [3, 1, 1] 4 [53, l1, l2] ([]) s := by
  intro l1 l2 s0 hF
  unfold bX11_isOneRow_4 at hF
  refine ji_iload_n (n := 2) (pc := 4) l2 rfl rfl rfl dX11_isOneRow_4 (fun r1 => ?_)
  refine jg_bipush (pc := 5) rfl dX11_isOneRow_5 ?_
  refine ji_icmp_ge 45 (pc := 7) r1 (jRc rfl) hF dX11_isOneRow_7 rfl (fun hF => ?_) (fun hF => ?_)
  · refine jg_norm [0, 1, 0] [0, l1, 0] rfl rfl ?_
    exact hk45 _ _ hF
  · refine ji_iload_n (n := 1) (pc := 10) l1 rfl rfl rfl dX11_isOneRow_10 (fun r2 => ?_)
    refine ji_aload_n (n := 0) (pc := 11) 53 rfl rfl rfl dX11_isOneRow_11 (fun r3 => ?_)
    refine ji_getr (pc := 12) 68 wfX11_56 (jRc3 rfl) jcl_53 jrf_53_18 dX11_isOneRow_12 ?_
    refine ji_iload_n (n := 2) (pc := 15) l2 rfl rfl rfl dX11_isOneRow_15 (fun r4 => ?_)
    refine ji_iaload (pc := 16) (jRc3 rfl) r4 hF dX11_isOneRow_16 (fun x5 r_x5 hF => ?_)
    refine ji_aload_n (n := 0) (pc := 17) 53 rfl rfl rfl dX11_isOneRow_17 (fun r6 => ?_)
    refine ji_getr (pc := 18) 69 wfX11_59 (jRc3 rfl) jcl_53 jrf_53_19 dX11_isOneRow_18 ?_
    refine ji_iload_n (n := 2) (pc := 21) l2 rfl rfl rfl dX11_isOneRow_21 (fun r7 => ?_)
    refine ji_iaload (pc := 22) (jRc3 rfl) r7 hF dX11_isOneRow_22 (fun x8 r_x8 hF => ?_)
    refine ji_iadd (pc := 23)  hF dX11_isOneRow_23 (fun x9 r_x9 hF => ?_)
    refine ji_if_le 36 (pc := 24) r_x9 hF dX11_isOneRow_24 rfl (fun hF => ?_) (fun hF => ?_)
    · refine ji_iconst (pc := 36) dX11_isOneRow_36 ?_
      refine jg_norm [3, 0, 1] [53, 0, l2] rfl rfl ?_
      exact obX11_isOneRow_37 hrec _ _ _ _ r2 (jRc rfl) hF
    · refine ji_iconst (pc := 27) dX11_isOneRow_27 ?_
      refine ji_iload_n (n := 2) (pc := 28) l2 rfl rfl rfl dX11_isOneRow_28 (fun r10 => ?_)
      refine ji_callSi (pc := 29) [l2] (jV E 1 1 :: jV E 1 l1 :: []) oX11_rowOf wlX11_165 wmX11_rowOf rfl rfl (Nat.le_of_ble_eq_true rfl) (jRaC r10 jRa0) rfl rfl (Nat.le_of_ble_eq_true rfl) hF dX11_isOneRow_29 (fun x11 s12 r_x11 hF => ?_)
      refine ji_ishl (pc := 32)  hF dX11_isOneRow_32 (fun x13 r_x13 hF => ?_)
      refine jg_goto (pc := 33) 37 dX11_isOneRow_33 rfl ?_
      refine jg_norm [3, 0, 1] [53, 0, l2] rfl rfl ?_
      exact obX11_isOneRow_37 hrec _ _ _ _ r2 r_x13 hF
theorem obX11_isOneRow_4W {E : jEnv} {Rr : Int → jMem → Prop} {k45 : Int → jMem → jO} (hk45 : ∀ (l1 : Int) (s : jMem), jHo Rr (k45 l1 s) → jGo E MX11_isOneRow 1 Rr [0, 1, 0] 45 [0, l1, 0] ([]) s) : ∀ n : Nat, ∀ (l1 l2 : Int) (s : jMem), jHo Rr (jIt (fun _ _ _ => none) (bX11_isOneRow_4 k45) n l1 l2 s) → jGo E MX11_isOneRow 1 Rr [3, 1, 1] 4 [53, l1, l2] ([]) s := by
  intro n
  induction n with
  | zero => intro l1 l2 s hF; exact jHo_none hF
  | succ n ih => exact obX11_isOneRow_4 hk45 ih

set_option maxRecDepth 100000 in
set_option maxHeartbeats 4000000 in
theorem obX11_isOneRow_45 {E : jEnv} {Rr : Int → jMem → Prop} : ∀ (l1 : Int) (s : jMem), jHo Rr (bX11_isOneRow_45 l1 s) → jGo E MX11_isOneRow 1 Rr [0, 1, 0] 45 [0, l1, 0] ([]) s := by
  intro l1 s0 hF
  unfold bX11_isOneRow_45 at hF
  refine ji_iload_n (n := 1) (pc := 45) l1 rfl rfl rfl dX11_isOneRow_45 (fun r1 => ?_)
  refine ji_iconst (pc := 46) dX11_isOneRow_46 ?_
  refine ji_icmp_eq 66 (pc := 47) r1 (jRc rfl) hF dX11_isOneRow_47 rfl (fun hF => ?_) (fun hF => ?_)
  · refine ji_iconst (pc := 66) dX11_isOneRow_66 ?_
    refine jg_goto (pc := 67) 71 dX11_isOneRow_67 rfl ?_
    exact ji_retz (pc := 71) rfl (jRc5 rfl) hF dX11_isOneRow_71
  · refine ji_iload_n (n := 1) (pc := 50) l1 rfl rfl rfl dX11_isOneRow_50 (fun r2 => ?_)
    refine ji_iconst (pc := 51) dX11_isOneRow_51 ?_
    refine ji_icmp_eq 66 (pc := 52) r2 (jRc rfl) hF dX11_isOneRow_52 rfl (fun hF => ?_) (fun hF => ?_)
    · refine ji_iconst (pc := 66) dX11_isOneRow_66 ?_
      refine jg_goto (pc := 67) 71 dX11_isOneRow_67 rfl ?_
      exact ji_retz (pc := 71) rfl (jRc5 rfl) hF dX11_isOneRow_71
    · refine ji_iload_n (n := 1) (pc := 55) l1 rfl rfl rfl dX11_isOneRow_55 (fun r3 => ?_)
      refine ji_iconst (pc := 56) dX11_isOneRow_56 ?_
      refine ji_icmp_eq 66 (pc := 57) r3 (jRc rfl) hF dX11_isOneRow_57 rfl (fun hF => ?_) (fun hF => ?_)
      · refine ji_iconst (pc := 66) dX11_isOneRow_66 ?_
        refine jg_goto (pc := 67) 71 dX11_isOneRow_67 rfl ?_
        exact ji_retz (pc := 71) rfl (jRc5 rfl) hF dX11_isOneRow_71
      · refine ji_iload_n (n := 1) (pc := 60) l1 rfl rfl rfl dX11_isOneRow_60 (fun r4 => ?_)
        refine jg_bipush (pc := 61) rfl dX11_isOneRow_61 ?_
        refine ji_icmp_ne 70 (pc := 63) r4 (jRc rfl) hF dX11_isOneRow_63 rfl (fun hF => ?_) (fun hF => ?_)
        · refine ji_iconst (pc := 70) dX11_isOneRow_70 ?_
          exact ji_retz (pc := 71) rfl (jRc5 rfl) hF dX11_isOneRow_71
        · refine ji_iconst (pc := 66) dX11_isOneRow_66 ?_
          refine jg_goto (pc := 67) 71 dX11_isOneRow_67 rfl ?_
          exact ji_retz (pc := 71) rfl (jRc5 rfl) hF dX11_isOneRow_71
set_option maxRecDepth 100000 in
set_option maxHeartbeats 4000000 in
theorem oX11_isOneRow : jOk MX11_isOneRow [3] 1 (jFn gX11_isOneRow) := by
  refine jOk_fn (by decide +kernel) (Nat.le_of_ble_eq_true rfl) (by decide +kernel) (.inr (.inr (.inr rfl))) ?_
  intro E vs s0 Rr hF ha
  obtain ⟨l0, t0, rfl, r_l0, ha⟩ := jRa_ci ha
  obtain rfl := jRa_ni ha
  replace hF : jHo Rr (jGd (l0 = 53) <| fX11_isOneRow s0) := hF
  have hG := jHo_as hF
  clear hF
  obtain ⟨rfl, hF⟩ := hG
  refine jg_norm [3, 0, 0] [53, 0, 0] rfl rfl ?_
  unfold fX11_isOneRow at hF
  refine ji_iconst (pc := 0) dX11_isOneRow_0 ?_
  refine ji_istore_n (n := 1) (pc := 1) [3, 1, 0] [53, 0, 0] rfl (jRc rfl) (Nat.le_of_ble_eq_true rfl) rfl rfl dX11_isOneRow_1 ?_
  refine ji_iconst (pc := 2) dX11_isOneRow_2 ?_
  refine ji_istore_n (n := 2) (pc := 3) [3, 1, 1] [53, 0, 0] rfl (jRc rfl) (Nat.le_of_ble_eq_true rfl) rfl rfl dX11_isOneRow_3 ?_
  refine jg_norm [3, 1, 1] [53, 0, 0] rfl rfl ?_
  exact obX11_isOneRow_4W obX11_isOneRow_45 1000 _ _ _ hF
def bX11_conditionsOfWay_40 (k41 : Int → Int → Int → Int → Int → jMem → jO) (l1 l2 l3 l5 : Int) (s0 : jMem) : jO :=
k41 l1 l2 l3 l5 0 s0
def bX11_conditionsOfWay_91 (k96 : Int → Int → Int → Int → Int → Int → jMem → jO) (l1 l2 l4 l5 l6 : Int) (s0 : jMem) : jO :=
k96 l1 l2 l4 l5 l6 1 s0
def bX11_conditionsOfWay_96 (k63 : Int → Int → Int → Int → Int → Int → jMem → jO) (l1 l2 l4 l5 l6 t0 : Int) (s0 : jMem) : jO :=
jLet (j32 (l6 + 1)) fun x1 =>
k63 l1 l2 t0 l4 l5 x1 s0
def bX11_conditionsOfWay_63 (k103 : Int → Int → Int → Int → Int → jMem → jO) (rec : Int → Int → Int → Int → Int → Int → jMem → jO) (l1 l2 l3 l4 l5 l6 : Int) (s0 : jMem) : jO :=
if l5 ≤ l6 then (
k103 l1 l2 l3 l4 l5 s0)
else (
if l3 = 0 then (
jGd ((0 : Int) ≤ l6 ∧ l6 < jik 71) <| jLet (s0 71 l6) fun x6 =>
jGd ((0 : Int) ≤ l5 ∧ l5 < jik 71) <| jLet (s0 71 l5) fun x9 =>
if x6 = x9 then (
bX11_conditionsOfWay_91 (bX11_conditionsOfWay_96 rec) l1 l2 l4 l5 l6 s0)
else (
bX11_conditionsOfWay_96 rec l1 l2 l4 l5 l6 0 s0))
else (
bX11_conditionsOfWay_91 (bX11_conditionsOfWay_96 rec) l1 l2 l4 l5 l6 s0))
def bX11_conditionsOfWay_133 (k134 : Int → Int → Int → Int → Int → Int → jMem → jO) (l1 l3 l4 l5 t0 : Int) (s0 : jMem) : jO :=
k134 l1 l3 l4 l5 t0 0 s0
def bX11_conditionsOfWay_134 (k12 : Int → Int → Int → Int → Int → jMem → jO) (l1 l3 l4 l5 t0 t1 : Int) (s0 : jMem) : jO :=
jLet (j32 (t0 + t1)) fun x1 =>
jLet (j32 (l5 + 1)) fun x2 =>
k12 l1 x1 l3 l4 x2 s0
def bX11_conditionsOfWay_103 (k12 : Int → Int → Int → Int → Int → jMem → jO) (l1 l2 l3 l4 l5 : Int) (s0 : jMem) : jO :=
jGd ((0 : Int) ≤ l5 ∧ l5 < jik 71) <| jLet (s0 71 l5) fun x4 =>
jGd (¬ (100 : Int) = 0) <| jLet (jdiv x4 100) fun x5 =>
if x5 = 2 then (
jLet (s0 53 20) fun x8 =>
jLet (j32 (5 - x8)) fun x9 =>
if x9 ≤ l5 then (
bX11_conditionsOfWay_133 (bX11_conditionsOfWay_134 k12) l1 l3 l4 l5 l2 s0)
else (
bX11_conditionsOfWay_134 k12 l1 l3 l4 l5 l2 1 s0))
else (
bX11_conditionsOfWay_133 (bX11_conditionsOfWay_134 k12) l1 l3 l4 l5 l2 s0)
def bX11_conditionsOfWay_41 (k12 : Int → Int → Int → Int → Int → jMem → jO) (l1 l2 l3 l5 t0 : Int) (s0 : jMem) : jO :=
jGd ((0 : Int) ≤ l5 ∧ l5 < jik 71) <| jLet (s0 71 l5) fun x3 =>
jGd (¬ (100 : Int) = 0) <| jLet (jdiv x3 100) fun x4 =>
if x4 = 1 then (
jLet (j32 (l1 + 1)) fun x5 =>
jIt (fun _ _ _ _ _ _ _ => none) (bX11_conditionsOfWay_63 (bX11_conditionsOfWay_103 k12)) 1000 x5 l2 l3 t0 l5 1 s0)
else (
bX11_conditionsOfWay_103 k12 l1 l2 l3 t0 l5 s0)
def bX11_conditionsOfWay_12 (k142 : Int → Int → Int → Int → jMem → jO) (rec : Int → Int → Int → Int → Int → jMem → jO) (l1 l2 l3 l4 l5 : Int) (s0 : jMem) : jO :=
if 5 ≤ l5 then (
k142 l1 l2 l3 l4 s0)
else (
if l4 = 0 then (
bX11_conditionsOfWay_40 (bX11_conditionsOfWay_41 rec) l1 l2 l3 l5 s0)
else (
jGd ((0 : Int) ≤ l5 ∧ l5 < jik 71) <| jLet (s0 71 l5) fun x5 =>
jBd (fX11_hasOuter x5 s0) fun x6 s7 =>
if x6 = 0 then (
bX11_conditionsOfWay_40 (bX11_conditionsOfWay_41 rec) l1 l2 l3 l5 s7)
else (
bX11_conditionsOfWay_41 rec l1 l2 l3 l5 1 s7)))
def bX11_conditionsOfWay_248 (l2 t0 t1 : Int) (s0 : jMem) : jO :=
jLet (jor t0 t1) fun x1 =>
if l2 < 3 then (
jLet (jor x1 0) fun x4 =>
jRet x4 s0)
else (
jLet (jor x1 128) fun x5 =>
jRet x5 s0)
def bX11_conditionsOfWay_233 (l2 l3 t0 t1 : Int) (s0 : jMem) : jO :=
jLet (jor t0 t1) fun x1 =>
if l3 = 0 then (
bX11_conditionsOfWay_248 l2 x1 0 s0)
else (
bX11_conditionsOfWay_248 l2 x1 64 s0)
def bX11_conditionsOfWay_215 (l2 l3 t0 t1 : Int) (s0 : jMem) : jO :=
jLet (jor t0 t1) fun x1 =>
jLet (s0 53 20) fun x4 =>
if x4 = 0 then (
bX11_conditionsOfWay_233 l2 l3 x1 32 s0)
else (
bX11_conditionsOfWay_233 l2 l3 x1 0 s0)
def bX11_conditionsOfWay_197 (l2 l3 t0 t1 : Int) (s0 : jMem) : jO :=
jLet (jor t0 t1) fun x1 =>
jBd (fX11_isOneRow s0) fun x4 s5 =>
if x4 = 0 then (
bX11_conditionsOfWay_215 l2 l3 x1 0 s5)
else (
bX11_conditionsOfWay_215 l2 l3 x1 16 s5)
def bX11_conditionsOfWay_181 (l2 l3 l4 t0 t1 : Int) (s0 : jMem) : jO :=
jLet (jor t0 t1) fun x1 =>
if l4 = 0 then (
bX11_conditionsOfWay_197 l2 l3 x1 0 s0)
else (
bX11_conditionsOfWay_197 l2 l3 x1 8 s0)
def bX11_conditionsOfWay_160 (l2 l3 l4 t0 : Int) (s0 : jMem) : jO :=
jGd ((0 : Int) ≤ 0 ∧ 0 < jik 71) <| jLet (s0 71 0) fun x3 =>
jBd (fX11_isOuter x3 s0) fun x4 s5 =>
if x4 = 0 then (
bX11_conditionsOfWay_181 l2 l3 l4 t0 0 s5)
else (
bX11_conditionsOfWay_181 l2 l3 l4 t0 4 s5)
def bX11_conditionsOfWay_142 (l1 l2 l3 l4 : Int) (s0 : jMem) : jO :=
if l1 = 4 then (
bX11_conditionsOfWay_160 l2 l3 l4 1 s0)
else (
if l1 = 0 then (
bX11_conditionsOfWay_160 l2 l3 l4 2 s0)
else (
bX11_conditionsOfWay_160 l2 l3 l4 0 s0))
def fX11_conditionsOfWay (s0 : jMem) : jO :=
jIt (fun _ _ _ _ _ _ => none) (bX11_conditionsOfWay_12 bX11_conditionsOfWay_142) 1000 0 0 0 1 0 s0
def gX11_conditionsOfWay (vs : List Int) (s : jMem) : jO := match vs with
  | [a0] => jGd (a0 = 53) <| fX11_conditionsOfWay s
  | _ => none
set_option maxRecDepth 100000 in
set_option maxHeartbeats 4000000 in
theorem obX11_conditionsOfWay_40 {E : jEnv} {Rr : Int → jMem → Prop} {k41 : Int → Int → Int → Int → Int → jMem → jO} (hk41 : ∀ (l1 l2 l3 l5 t0 : Int) (s : jMem), jR 1 t0 → jHo Rr (k41 l1 l2 l3 l5 t0 s) → jGo E MX11_conditionsOfWay 2 Rr [3, 1, 1, 1, 0, 1, 0] 41 [53, l1, l2, l3, 0, l5, 0] (jV E 1 t0 :: []) s) : ∀ (l1 l2 l3 l5 : Int) (s : jMem), jHo Rr (bX11_conditionsOfWay_40 k41 l1 l2 l3 l5 s) → jGo E MX11_conditionsOfWay 2 Rr [3, 1, 1, 1, 0, 1, 0] 40 [53, l1, l2, l3, 0, l5, 0] ([]) s := by
  intro l1 l2 l3 l5 s0 hF
  unfold bX11_conditionsOfWay_40 at hF
  refine ji_iconst (pc := 40) dX11_conditionsOfWay_40 ?_
  refine jg_norm [3, 1, 1, 1, 0, 1, 0] [53, l1, l2, l3, 0, l5, 0] rfl rfl ?_
  exact hk41 _ _ _ _ _ _ (jRc rfl) hF
set_option maxRecDepth 100000 in
set_option maxHeartbeats 4000000 in
theorem obX11_conditionsOfWay_91 {E : jEnv} {Rr : Int → jMem → Prop} {k96 : Int → Int → Int → Int → Int → Int → jMem → jO} (hk96 : ∀ (l1 l2 l4 l5 l6 t0 : Int) (s : jMem), jR 1 t0 → jHo Rr (k96 l1 l2 l4 l5 l6 t0 s) → jGo E MX11_conditionsOfWay 2 Rr [3, 1, 1, 0, 1, 1, 1] 96 [53, l1, l2, 0, l4, l5, l6] (jV E 1 t0 :: []) s) : ∀ (l1 l2 l4 l5 l6 : Int) (s : jMem), jHo Rr (bX11_conditionsOfWay_91 k96 l1 l2 l4 l5 l6 s) → jGo E MX11_conditionsOfWay 2 Rr [3, 1, 1, 0, 1, 1, 1] 91 [53, l1, l2, 0, l4, l5, l6] ([]) s := by
  intro l1 l2 l4 l5 l6 s0 hF
  unfold bX11_conditionsOfWay_91 at hF
  refine ji_iconst (pc := 91) dX11_conditionsOfWay_91 ?_
  refine jg_goto (pc := 92) 96 dX11_conditionsOfWay_92 rfl ?_
  refine jg_norm [3, 1, 1, 0, 1, 1, 1] [53, l1, l2, 0, l4, l5, l6] rfl rfl ?_
  exact hk96 _ _ _ _ _ _ _ (jRc rfl) hF
set_option maxRecDepth 100000 in
set_option maxHeartbeats 4000000 in
theorem obX11_conditionsOfWay_96 {E : jEnv} {Rr : Int → jMem → Prop} {k63 : Int → Int → Int → Int → Int → Int → jMem → jO} (hk63 : ∀ (l1 l2 l3 l4 l5 l6 : Int) (s : jMem), jHo Rr (k63 l1 l2 l3 l4 l5 l6 s) → jGo E MX11_conditionsOfWay 2 Rr [3, 1, 1, 1, 1, 1, 1] 63 [53, l1, l2, l3, l4, l5, l6] ([]) s) : ∀ (l1 l2 l4 l5 l6 t0 : Int) (s : jMem), jR 1 t0 → jHo Rr (bX11_conditionsOfWay_96 k63 l1 l2 l4 l5 l6 t0 s) → jGo E MX11_conditionsOfWay 2 Rr [3, 1, 1, 0, 1, 1, 1] 96 [53, l1, l2, 0, l4, l5, l6] (jV E 1 t0 :: []) s := by
  intro l1 l2 l4 l5 l6 t0 s0 r_t0 hF
  unfold bX11_conditionsOfWay_96 at hF
  refine ji_istore_n (n := 3) (pc := 96) [3, 1, 1, 1, 1, 1, 1] [53, l1, l2, t0, l4, l5, l6] rfl r_t0 (Nat.le_of_ble_eq_true rfl) rfl rfl dX11_conditionsOfWay_96 ?_
  refine ji_iinc (pc := 97) l6 (fun w => [53, l1, l2, t0, l4, l5, w]) rfl rfl rfl (fun _ => rfl) hF dX11_conditionsOfWay_97 (fun x1 r_x1 hF => ?_)
  refine jg_goto (pc := 100) 63 dX11_conditionsOfWay_100 rfl ?_
  refine jg_norm [3, 1, 1, 1, 1, 1, 1] [53, l1, l2, t0, l4, l5, x1] rfl rfl ?_
  exact hk63 _ _ _ _ _ _ _ hF
set_option maxRecDepth 100000 in
set_option maxHeartbeats 4000000 in
theorem obX11_conditionsOfWay_63 {E : jEnv} {Rr : Int → jMem → Prop} {k103 : Int → Int → Int → Int → Int → jMem → jO} (hk103 : ∀ (l1 l2 l3 l4 l5 : Int) (s : jMem), jHo Rr (k103 l1 l2 l3 l4 l5 s) → jGo E MX11_conditionsOfWay 2 Rr [3, 1, 1, 1, 1, 1, 0] 103 [53, l1, l2, l3, l4, l5, 0] ([]) s) {rec : Int → Int → Int → Int → Int → Int → jMem → jO} (hrec : ∀ (l1 l2 l3 l4 l5 l6 : Int) (s : jMem), jHo Rr (rec l1 l2 l3 l4 l5 l6 s) → jGo E MX11_conditionsOfWay 2 Rr [3, 1, 1, 1, 1, 1, 1] 63 [53, l1, l2, l3, l4, l5, l6] ([]) s) : ∀ (l1 l2 l3 l4 l5 l6 : Int) (s : jMem), jHo Rr (bX11_conditionsOfWay_63 k103 rec l1 l2 l3 l4 l5 l6 s) → jGo E MX11_conditionsOfWay 2 Rr [3, 1, 1, 1, 1, 1, 1] 63 [53, l1, l2, l3, l4, l5, l6] ([]) s := by
  intro l1 l2 l3 l4 l5 l6 s0 hF
  unfold bX11_conditionsOfWay_63 at hF
  refine ji_iload (pc := 63) l6 rfl rfl dX11_conditionsOfWay_63 (fun r1 => ?_)
  refine ji_iload (pc := 65) l5 rfl rfl dX11_conditionsOfWay_65 (fun r2 => ?_)
  refine ji_icmp_ge 103 (pc := 67) r1 r2 hF dX11_conditionsOfWay_67 rfl (fun hF => ?_) (fun hF => ?_)
  · refine jg_norm [3, 1, 1, 1, 1, 1, 0] [53, l1, l2, l3, l4, l5, 0] rfl rfl ?_
    exact hk103 _ _ _ _ _ _ hF
  · refine ji_iload_n (n := 3) (pc := 70) l3 rfl rfl rfl dX11_conditionsOfWay_70 (fun r3 => ?_)
    refine ji_if_ne 91 (pc := 71) r3 hF dX11_conditionsOfWay_71 rfl (fun hF => ?_) (fun hF => ?_)
    · refine jg_norm [3, 1, 1, 0, 1, 1, 1] [53, l1, l2, 0, l4, l5, l6] rfl rfl ?_
      exact obX11_conditionsOfWay_91 (obX11_conditionsOfWay_96 hrec) _ _ _ _ _ _ hF
    · refine ji_aload_n (n := 0) (pc := 74) 53 rfl rfl rfl dX11_conditionsOfWay_74 (fun r4 => ?_)
      refine ji_getr (pc := 75) 71 wfX11_65 (jRc3 rfl) jcl_53 jrf_53_22 dX11_conditionsOfWay_75 ?_
      refine ji_iload (pc := 78) l6 rfl rfl dX11_conditionsOfWay_78 (fun r5 => ?_)
      refine ji_iaload (pc := 80) (jRc3 rfl) r5 hF dX11_conditionsOfWay_80 (fun x6 r_x6 hF => ?_)
      refine ji_aload_n (n := 0) (pc := 81) 53 rfl rfl rfl dX11_conditionsOfWay_81 (fun r7 => ?_)
      refine ji_getr (pc := 82) 71 wfX11_65 (jRc3 rfl) jcl_53 jrf_53_22 dX11_conditionsOfWay_82 ?_
      refine ji_iload (pc := 85) l5 rfl rfl dX11_conditionsOfWay_85 (fun r8 => ?_)
      refine ji_iaload (pc := 87) (jRc3 rfl) r8 hF dX11_conditionsOfWay_87 (fun x9 r_x9 hF => ?_)
      refine ji_icmp_ne 95 (pc := 88) r_x6 r_x9 hF dX11_conditionsOfWay_88 rfl (fun hF => ?_) (fun hF => ?_)
      · refine ji_iconst (pc := 95) dX11_conditionsOfWay_95 ?_
        refine jg_norm [3, 1, 1, 0, 1, 1, 1] [53, l1, l2, 0, l4, l5, l6] rfl rfl ?_
        exact obX11_conditionsOfWay_96 hrec _ _ _ _ _ _ _ (jRc rfl) hF
      · refine jg_norm [3, 1, 1, 0, 1, 1, 1] [53, l1, l2, 0, l4, l5, l6] rfl rfl ?_
        exact obX11_conditionsOfWay_91 (obX11_conditionsOfWay_96 hrec) _ _ _ _ _ _ hF
theorem obX11_conditionsOfWay_63W {E : jEnv} {Rr : Int → jMem → Prop} {k103 : Int → Int → Int → Int → Int → jMem → jO} (hk103 : ∀ (l1 l2 l3 l4 l5 : Int) (s : jMem), jHo Rr (k103 l1 l2 l3 l4 l5 s) → jGo E MX11_conditionsOfWay 2 Rr [3, 1, 1, 1, 1, 1, 0] 103 [53, l1, l2, l3, l4, l5, 0] ([]) s) : ∀ n : Nat, ∀ (l1 l2 l3 l4 l5 l6 : Int) (s : jMem), jHo Rr (jIt (fun _ _ _ _ _ _ _ => none) (bX11_conditionsOfWay_63 k103) n l1 l2 l3 l4 l5 l6 s) → jGo E MX11_conditionsOfWay 2 Rr [3, 1, 1, 1, 1, 1, 1] 63 [53, l1, l2, l3, l4, l5, l6] ([]) s := by
  intro n
  induction n with
  | zero => intro l1 l2 l3 l4 l5 l6 s hF; exact jHo_none hF
  | succ n ih => exact obX11_conditionsOfWay_63 hk103 ih

set_option maxRecDepth 100000 in
set_option maxHeartbeats 4000000 in
theorem obX11_conditionsOfWay_133 {E : jEnv} {Rr : Int → jMem → Prop} {k134 : Int → Int → Int → Int → Int → Int → jMem → jO} (hk134 : ∀ (l1 l3 l4 l5 t0 t1 : Int) (s : jMem), jR 1 t0 → jR 1 t1 → jHo Rr (k134 l1 l3 l4 l5 t0 t1 s) → jGo E MX11_conditionsOfWay 2 Rr [3, 1, 0, 1, 1, 1, 0] 134 [53, l1, 0, l3, l4, l5, 0] (jV E 1 t1 :: jV E 1 t0 :: []) s) : ∀ (l1 l3 l4 l5 t0 : Int) (s : jMem), jR 1 t0 → jHo Rr (bX11_conditionsOfWay_133 k134 l1 l3 l4 l5 t0 s) → jGo E MX11_conditionsOfWay 2 Rr [3, 1, 0, 1, 1, 1, 0] 133 [53, l1, 0, l3, l4, l5, 0] (jV E 1 t0 :: []) s := by
  intro l1 l3 l4 l5 t0 s0 r_t0 hF
  unfold bX11_conditionsOfWay_133 at hF
  refine ji_iconst (pc := 133) dX11_conditionsOfWay_133 ?_
  refine jg_norm [3, 1, 0, 1, 1, 1, 0] [53, l1, 0, l3, l4, l5, 0] rfl rfl ?_
  exact hk134 _ _ _ _ _ _ _ r_t0 (jRc rfl) hF
set_option maxRecDepth 100000 in
set_option maxHeartbeats 4000000 in
theorem obX11_conditionsOfWay_134 {E : jEnv} {Rr : Int → jMem → Prop} {k12 : Int → Int → Int → Int → Int → jMem → jO} (hk12 : ∀ (l1 l2 l3 l4 l5 : Int) (s : jMem), jHo Rr (k12 l1 l2 l3 l4 l5 s) → jGo E MX11_conditionsOfWay 2 Rr [3, 1, 1, 1, 1, 1, 0] 12 [53, l1, l2, l3, l4, l5, 0] ([]) s) : ∀ (l1 l3 l4 l5 t0 t1 : Int) (s : jMem), jR 1 t0 → jR 1 t1 → jHo Rr (bX11_conditionsOfWay_134 k12 l1 l3 l4 l5 t0 t1 s) → jGo E MX11_conditionsOfWay 2 Rr [3, 1, 0, 1, 1, 1, 0] 134 [53, l1, 0, l3, l4, l5, 0] (jV E 1 t1 :: jV E 1 t0 :: []) s := by
  intro l1 l3 l4 l5 t0 t1 s0 r_t0 r_t1 hF
  unfold bX11_conditionsOfWay_134 at hF
  refine ji_iadd (pc := 134)  hF dX11_conditionsOfWay_134 (fun x1 r_x1 hF => ?_)
  refine ji_istore_n (n := 2) (pc := 135) [3, 1, 1, 1, 1, 1, 0] [53, l1, x1, l3, l4, l5, 0] rfl r_x1 (Nat.le_of_ble_eq_true rfl) rfl rfl dX11_conditionsOfWay_135 ?_
  refine ji_iinc (pc := 136) l5 (fun w => [53, l1, x1, l3, l4, w, 0]) rfl rfl rfl (fun _ => rfl) hF dX11_conditionsOfWay_136 (fun x2 r_x2 hF => ?_)
  refine jg_goto (pc := 139) 12 dX11_conditionsOfWay_139 rfl ?_
  refine jg_norm [3, 1, 1, 1, 1, 1, 0] [53, l1, x1, l3, l4, x2, 0] rfl rfl ?_
  exact hk12 _ _ _ _ _ _ hF
set_option maxRecDepth 100000 in
set_option maxHeartbeats 4000000 in
theorem obX11_conditionsOfWay_103 {E : jEnv} {Rr : Int → jMem → Prop} {k12 : Int → Int → Int → Int → Int → jMem → jO} (hk12 : ∀ (l1 l2 l3 l4 l5 : Int) (s : jMem), jHo Rr (k12 l1 l2 l3 l4 l5 s) → jGo E MX11_conditionsOfWay 2 Rr [3, 1, 1, 1, 1, 1, 0] 12 [53, l1, l2, l3, l4, l5, 0] ([]) s) : ∀ (l1 l2 l3 l4 l5 : Int) (s : jMem), jHo Rr (bX11_conditionsOfWay_103 k12 l1 l2 l3 l4 l5 s) → jGo E MX11_conditionsOfWay 2 Rr [3, 1, 1, 1, 1, 1, 0] 103 [53, l1, l2, l3, l4, l5, 0] ([]) s := by
  intro l1 l2 l3 l4 l5 s0 hF
  unfold bX11_conditionsOfWay_103 at hF
  refine ji_iload_n (n := 2) (pc := 103) l2 rfl rfl rfl dX11_conditionsOfWay_103 (fun r1 => ?_)
  refine ji_aload_n (n := 0) (pc := 104) 53 rfl rfl rfl dX11_conditionsOfWay_104 (fun r2 => ?_)
  refine ji_getr (pc := 105) 71 wfX11_65 (jRc3 rfl) jcl_53 jrf_53_22 dX11_conditionsOfWay_105 ?_
  refine ji_iload (pc := 108) l5 rfl rfl dX11_conditionsOfWay_108 (fun r3 => ?_)
  refine ji_iaload (pc := 110) (jRc3 rfl) r3 hF dX11_conditionsOfWay_110 (fun x4 r_x4 hF => ?_)
  refine jg_bipush (pc := 111) rfl dX11_conditionsOfWay_111 ?_
  refine ji_idiv (pc := 113) (jRc rfl) hF dX11_conditionsOfWay_113 (fun x5 r_x5 hF => ?_)
  refine ji_iconst (pc := 114) dX11_conditionsOfWay_114 ?_
  refine ji_icmp_ne 133 (pc := 115) r_x5 (jRc rfl) hF dX11_conditionsOfWay_115 rfl (fun hF => ?_) (fun hF => ?_)
  · refine jg_norm [3, 1, 0, 1, 1, 1, 0] [53, l1, 0, l3, l4, l5, 0] rfl rfl ?_
    exact obX11_conditionsOfWay_133 (obX11_conditionsOfWay_134 hk12) _ _ _ _ _ _ r1 hF
  · refine ji_iload (pc := 118) l5 rfl rfl dX11_conditionsOfWay_118 (fun r6 => ?_)
    refine ji_iconst (pc := 120) dX11_conditionsOfWay_120 ?_
    refine ji_aload_n (n := 0) (pc := 121) 53 rfl rfl rfl dX11_conditionsOfWay_121 (fun r7 => ?_)
    refine ji_getfi (pc := 122) wfX11_158 (jRc3 rfl) jcl_53 hF dX11_conditionsOfWay_122 (fun x8 r_x8 hF => ?_)
    refine ji_isub (pc := 125)  hF dX11_conditionsOfWay_125 (fun x9 r_x9 hF => ?_)
    refine ji_icmp_ge 133 (pc := 126) r6 r_x9 hF dX11_conditionsOfWay_126 rfl (fun hF => ?_) (fun hF => ?_)
    · refine jg_norm [3, 1, 0, 1, 1, 1, 0] [53, l1, 0, l3, l4, l5, 0] rfl rfl ?_
      exact obX11_conditionsOfWay_133 (obX11_conditionsOfWay_134 hk12) _ _ _ _ _ _ r1 hF
    · refine ji_iconst (pc := 129) dX11_conditionsOfWay_129 ?_
      refine jg_goto (pc := 130) 134 dX11_conditionsOfWay_130 rfl ?_
      refine jg_norm [3, 1, 0, 1, 1, 1, 0] [53, l1, 0, l3, l4, l5, 0] rfl rfl ?_
      exact obX11_conditionsOfWay_134 hk12 _ _ _ _ _ _ _ r1 (jRc rfl) hF
set_option maxRecDepth 100000 in
set_option maxHeartbeats 4000000 in
theorem obX11_conditionsOfWay_41 {E : jEnv} {Rr : Int → jMem → Prop} {k12 : Int → Int → Int → Int → Int → jMem → jO} (hk12 : ∀ (l1 l2 l3 l4 l5 : Int) (s : jMem), jHo Rr (k12 l1 l2 l3 l4 l5 s) → jGo E MX11_conditionsOfWay 2 Rr [3, 1, 1, 1, 1, 1, 0] 12 [53, l1, l2, l3, l4, l5, 0] ([]) s) : ∀ (l1 l2 l3 l5 t0 : Int) (s : jMem), jR 1 t0 → jHo Rr (bX11_conditionsOfWay_41 k12 l1 l2 l3 l5 t0 s) → jGo E MX11_conditionsOfWay 2 Rr [3, 1, 1, 1, 0, 1, 0] 41 [53, l1, l2, l3, 0, l5, 0] (jV E 1 t0 :: []) s := by
  intro l1 l2 l3 l5 t0 s0 r_t0 hF
  unfold bX11_conditionsOfWay_41 at hF
  refine ji_istore (n := 4) (pc := 41) [3, 1, 1, 1, 1, 1, 0] [53, l1, l2, l3, t0, l5, 0] r_t0 (Nat.le_of_ble_eq_true rfl) rfl rfl dX11_conditionsOfWay_41 ?_
  refine ji_aload_n (n := 0) (pc := 43) 53 rfl rfl rfl dX11_conditionsOfWay_43 (fun r1 => ?_)
  refine ji_getr (pc := 44) 71 wfX11_65 (jRc3 rfl) jcl_53 jrf_53_22 dX11_conditionsOfWay_44 ?_
  refine ji_iload (pc := 47) l5 rfl rfl dX11_conditionsOfWay_47 (fun r2 => ?_)
  refine ji_iaload (pc := 49) (jRc3 rfl) r2 hF dX11_conditionsOfWay_49 (fun x3 r_x3 hF => ?_)
  refine jg_bipush (pc := 50) rfl dX11_conditionsOfWay_50 ?_
  refine ji_idiv (pc := 52) (jRc rfl) hF dX11_conditionsOfWay_52 (fun x4 r_x4 hF => ?_)
  refine ji_iconst (pc := 53) dX11_conditionsOfWay_53 ?_
  refine ji_icmp_ne 103 (pc := 54) r_x4 (jRc rfl) hF dX11_conditionsOfWay_54 rfl (fun hF => ?_) (fun hF => ?_)
  · refine jg_norm [3, 1, 1, 1, 1, 1, 0] [53, l1, l2, l3, t0, l5, 0] rfl rfl ?_
    exact obX11_conditionsOfWay_103 hk12 _ _ _ _ _ _ hF
  · refine ji_iinc (pc := 57) l1 (fun w => [53, w, l2, l3, t0, l5, 0]) rfl rfl rfl (fun _ => rfl) hF dX11_conditionsOfWay_57 (fun x5 r_x5 hF => ?_)
    refine ji_iconst (pc := 60) dX11_conditionsOfWay_60 ?_
    refine ji_istore (n := 6) (pc := 61) [3, 1, 1, 1, 1, 1, 1] [53, x5, l2, l3, t0, l5, 1] (jRc rfl) (Nat.le_of_ble_eq_true rfl) rfl rfl dX11_conditionsOfWay_61 ?_
    refine jg_norm [3, 1, 1, 1, 1, 1, 1] [53, x5, l2, l3, t0, l5, 1] rfl rfl ?_
    exact obX11_conditionsOfWay_63W (obX11_conditionsOfWay_103 hk12) 1000 _ _ _ _ _ _ _ hF
set_option maxRecDepth 100000 in
set_option maxHeartbeats 4000000 in
theorem obX11_conditionsOfWay_12 {E : jEnv} {Rr : Int → jMem → Prop} {k142 : Int → Int → Int → Int → jMem → jO} (hk142 : ∀ (l1 l2 l3 l4 : Int) (s : jMem), jHo Rr (k142 l1 l2 l3 l4 s) → jGo E MX11_conditionsOfWay 2 Rr [3, 1, 1, 1, 1, 0, 0] 142 [53, l1, l2, l3, l4, 0, 0] ([]) s) {rec : Int → Int → Int → Int → Int → jMem → jO} (hrec : ∀ (l1 l2 l3 l4 l5 : Int) (s : jMem), jHo Rr (rec l1 l2 l3 l4 l5 s) → jGo E MX11_conditionsOfWay 2 Rr [3, 1, 1, 1, 1, 1, 0] 12 [53, l1, l2, l3, l4, l5, 0] ([]) s) : ∀ (l1 l2 l3 l4 l5 : Int) (s : jMem), jHo Rr (bX11_conditionsOfWay_12 k142 rec l1 l2 l3 l4 l5 s) → jGo E MX11_conditionsOfWay 2 Rr [3, 1, 1, 1, 1, 1, 0] 12 [53, l1, l2, l3, l4, l5, 0] ([]) s := by
  intro l1 l2 l3 l4 l5 s0 hF
  unfold bX11_conditionsOfWay_12 at hF
  refine ji_iload (pc := 12) l5 rfl rfl dX11_conditionsOfWay_12 (fun r1 => ?_)
  refine ji_iconst (pc := 14) dX11_conditionsOfWay_14 ?_
  refine ji_icmp_ge 142 (pc := 15) r1 (jRc rfl) hF dX11_conditionsOfWay_15 rfl (fun hF => ?_) (fun hF => ?_)
  · refine jg_norm [3, 1, 1, 1, 1, 0, 0] [53, l1, l2, l3, l4, 0, 0] rfl rfl ?_
    exact hk142 _ _ _ _ _ hF
  · refine ji_iload (pc := 18) l4 rfl rfl dX11_conditionsOfWay_18 (fun r2 => ?_)
    refine ji_if_eq 40 (pc := 20) r2 hF dX11_conditionsOfWay_20 rfl (fun hF => ?_) (fun hF => ?_)
    · refine jg_norm [3, 1, 1, 1, 0, 1, 0] [53, l1, l2, l3, 0, l5, 0] rfl rfl ?_
      exact obX11_conditionsOfWay_40 (obX11_conditionsOfWay_41 hrec) _ _ _ _ _ hF
    · refine ji_aload_n (n := 0) (pc := 23) 53 rfl rfl rfl dX11_conditionsOfWay_23 (fun r3 => ?_)
      refine ji_getr (pc := 24) 71 wfX11_65 (jRc3 rfl) jcl_53 jrf_53_22 dX11_conditionsOfWay_24 ?_
      refine ji_iload (pc := 27) l5 rfl rfl dX11_conditionsOfWay_27 (fun r4 => ?_)
      refine ji_iaload (pc := 29) (jRc3 rfl) r4 hF dX11_conditionsOfWay_29 (fun x5 r_x5 hF => ?_)
      refine ji_callSz (pc := 30) [x5] ([]) oX11_hasOuter wlX11_276 wmX11_hasOuter rfl rfl (Nat.le_of_ble_eq_true rfl) (jRaC r_x5 jRa0) rfl rfl (Nat.le_of_ble_eq_true rfl) hF dX11_conditionsOfWay_30 (fun x6 s7 r_x6 hF => ?_)
      refine ji_if_eq 40 (pc := 33) (jR51 r_x6) hF dX11_conditionsOfWay_33 rfl (fun hF => ?_) (fun hF => ?_)
      · refine jg_norm [3, 1, 1, 1, 0, 1, 0] [53, l1, l2, l3, 0, l5, 0] rfl rfl ?_
        exact obX11_conditionsOfWay_40 (obX11_conditionsOfWay_41 hrec) _ _ _ _ _ hF
      · refine ji_iconst (pc := 36) dX11_conditionsOfWay_36 ?_
        refine jg_goto (pc := 37) 41 dX11_conditionsOfWay_37 rfl ?_
        refine jg_norm [3, 1, 1, 1, 0, 1, 0] [53, l1, l2, l3, 0, l5, 0] rfl rfl ?_
        exact obX11_conditionsOfWay_41 hrec _ _ _ _ _ _ (jRc rfl) hF
theorem obX11_conditionsOfWay_12W {E : jEnv} {Rr : Int → jMem → Prop} {k142 : Int → Int → Int → Int → jMem → jO} (hk142 : ∀ (l1 l2 l3 l4 : Int) (s : jMem), jHo Rr (k142 l1 l2 l3 l4 s) → jGo E MX11_conditionsOfWay 2 Rr [3, 1, 1, 1, 1, 0, 0] 142 [53, l1, l2, l3, l4, 0, 0] ([]) s) : ∀ n : Nat, ∀ (l1 l2 l3 l4 l5 : Int) (s : jMem), jHo Rr (jIt (fun _ _ _ _ _ _ => none) (bX11_conditionsOfWay_12 k142) n l1 l2 l3 l4 l5 s) → jGo E MX11_conditionsOfWay 2 Rr [3, 1, 1, 1, 1, 1, 0] 12 [53, l1, l2, l3, l4, l5, 0] ([]) s := by
  intro n
  induction n with
  | zero => intro l1 l2 l3 l4 l5 s hF; exact jHo_none hF
  | succ n ih => exact obX11_conditionsOfWay_12 hk142 ih

set_option maxRecDepth 100000 in
set_option maxHeartbeats 4000000 in
theorem obX11_conditionsOfWay_248 {E : jEnv} {Rr : Int → jMem → Prop} : ∀ (l2 t0 t1 : Int) (s : jMem), jR 1 t0 → jR 1 t1 → jHo Rr (bX11_conditionsOfWay_248 l2 t0 t1 s) → jGo E MX11_conditionsOfWay 2 Rr [0, 0, 1, 0, 0, 0, 0] 248 [0, 0, l2, 0, 0, 0, 0] (jV E 1 t1 :: jV E 1 t0 :: []) s := by
  intro l2 t0 t1 s0 r_t0 r_t1 hF
  unfold bX11_conditionsOfWay_248 at hF
  refine ji_ior (pc := 248)  hF dX11_conditionsOfWay_248 (fun x1 r_x1 hF => ?_)
  refine ji_istore (n := 5) (pc := 249) [0, 0, 1, 0, 0, 1, 0] [0, 0, l2, 0, 0, x1, 0] r_x1 (Nat.le_of_ble_eq_true rfl) rfl rfl dX11_conditionsOfWay_249 ?_
  refine ji_iload (pc := 251) x1 rfl rfl dX11_conditionsOfWay_251 (fun r2 => ?_)
  refine ji_iload_n (n := 2) (pc := 253) l2 rfl rfl rfl dX11_conditionsOfWay_253 (fun r3 => ?_)
  refine ji_iconst (pc := 254) dX11_conditionsOfWay_254 ?_
  refine ji_icmp_lt 264 (pc := 255) r3 (jRc rfl) hF dX11_conditionsOfWay_255 rfl (fun hF => ?_) (fun hF => ?_)
  · refine ji_iconst (pc := 264) dX11_conditionsOfWay_264 ?_
    refine ji_ior (pc := 265)  hF dX11_conditionsOfWay_265 (fun x4 r_x4 hF => ?_)
    exact ji_reti (pc := 266) rfl r_x4 hF dX11_conditionsOfWay_266
  · refine jg_sipush (pc := 258) rfl dX11_conditionsOfWay_258 ?_
    refine jg_goto (pc := 261) 265 dX11_conditionsOfWay_261 rfl ?_
    refine ji_ior (pc := 265)  hF dX11_conditionsOfWay_265 (fun x5 r_x5 hF => ?_)
    exact ji_reti (pc := 266) rfl r_x5 hF dX11_conditionsOfWay_266
set_option maxRecDepth 100000 in
set_option maxHeartbeats 4000000 in
theorem obX11_conditionsOfWay_233 {E : jEnv} {Rr : Int → jMem → Prop} : ∀ (l2 l3 t0 t1 : Int) (s : jMem), jR 1 t0 → jR 1 t1 → jHo Rr (bX11_conditionsOfWay_233 l2 l3 t0 t1 s) → jGo E MX11_conditionsOfWay 2 Rr [0, 0, 1, 1, 0, 0, 0] 233 [0, 0, l2, l3, 0, 0, 0] (jV E 1 t1 :: jV E 1 t0 :: []) s := by
  intro l2 l3 t0 t1 s0 r_t0 r_t1 hF
  unfold bX11_conditionsOfWay_233 at hF
  refine ji_ior (pc := 233)  hF dX11_conditionsOfWay_233 (fun x1 r_x1 hF => ?_)
  refine ji_istore (n := 5) (pc := 234) [0, 0, 1, 1, 0, 1, 0] [0, 0, l2, l3, 0, x1, 0] r_x1 (Nat.le_of_ble_eq_true rfl) rfl rfl dX11_conditionsOfWay_234 ?_
  refine ji_iload (pc := 236) x1 rfl rfl dX11_conditionsOfWay_236 (fun r2 => ?_)
  refine ji_iload_n (n := 3) (pc := 238) l3 rfl rfl rfl dX11_conditionsOfWay_238 (fun r3 => ?_)
  refine ji_if_eq 247 (pc := 239) r3 hF dX11_conditionsOfWay_239 rfl (fun hF => ?_) (fun hF => ?_)
  · refine ji_iconst (pc := 247) dX11_conditionsOfWay_247 ?_
    refine jg_norm [0, 0, 1, 0, 0, 0, 0] [0, 0, l2, 0, 0, 0, 0] rfl rfl ?_
    exact obX11_conditionsOfWay_248 _ _ _ _ r2 (jRc rfl) hF
  · refine jg_bipush (pc := 242) rfl dX11_conditionsOfWay_242 ?_
    refine jg_goto (pc := 244) 248 dX11_conditionsOfWay_244 rfl ?_
    refine jg_norm [0, 0, 1, 0, 0, 0, 0] [0, 0, l2, 0, 0, 0, 0] rfl rfl ?_
    exact obX11_conditionsOfWay_248 _ _ _ _ r2 (jRc rfl) hF
set_option maxRecDepth 100000 in
set_option maxHeartbeats 4000000 in
theorem obX11_conditionsOfWay_215 {E : jEnv} {Rr : Int → jMem → Prop} : ∀ (l2 l3 t0 t1 : Int) (s : jMem), jR 1 t0 → jR 1 t1 → jHo Rr (bX11_conditionsOfWay_215 l2 l3 t0 t1 s) → jGo E MX11_conditionsOfWay 2 Rr [3, 0, 1, 1, 0, 0, 0] 215 [53, 0, l2, l3, 0, 0, 0] (jV E 1 t1 :: jV E 1 t0 :: []) s := by
  intro l2 l3 t0 t1 s0 r_t0 r_t1 hF
  unfold bX11_conditionsOfWay_215 at hF
  refine ji_ior (pc := 215)  hF dX11_conditionsOfWay_215 (fun x1 r_x1 hF => ?_)
  refine ji_istore (n := 5) (pc := 216) [3, 0, 1, 1, 0, 1, 0] [53, 0, l2, l3, 0, x1, 0] r_x1 (Nat.le_of_ble_eq_true rfl) rfl rfl dX11_conditionsOfWay_216 ?_
  refine ji_iload (pc := 218) x1 rfl rfl dX11_conditionsOfWay_218 (fun r2 => ?_)
  refine ji_aload_n (n := 0) (pc := 220) 53 rfl rfl rfl dX11_conditionsOfWay_220 (fun r3 => ?_)
  refine ji_getfi (pc := 221) wfX11_158 (jRc3 rfl) jcl_53 hF dX11_conditionsOfWay_221 (fun x4 r_x4 hF => ?_)
  refine ji_if_ne 232 (pc := 224) r_x4 hF dX11_conditionsOfWay_224 rfl (fun hF => ?_) (fun hF => ?_)
  · refine ji_iconst (pc := 232) dX11_conditionsOfWay_232 ?_
    refine jg_norm [0, 0, 1, 1, 0, 0, 0] [0, 0, l2, l3, 0, 0, 0] rfl rfl ?_
    exact obX11_conditionsOfWay_233 _ _ _ _ _ r2 (jRc rfl) hF
  · refine jg_bipush (pc := 227) rfl dX11_conditionsOfWay_227 ?_
    refine jg_goto (pc := 229) 233 dX11_conditionsOfWay_229 rfl ?_
    refine jg_norm [0, 0, 1, 1, 0, 0, 0] [0, 0, l2, l3, 0, 0, 0] rfl rfl ?_
    exact obX11_conditionsOfWay_233 _ _ _ _ _ r2 (jRc rfl) hF
set_option maxRecDepth 100000 in
set_option maxHeartbeats 4000000 in
theorem obX11_conditionsOfWay_197 {E : jEnv} {Rr : Int → jMem → Prop} : ∀ (l2 l3 t0 t1 : Int) (s : jMem), jR 1 t0 → jR 1 t1 → jHo Rr (bX11_conditionsOfWay_197 l2 l3 t0 t1 s) → jGo E MX11_conditionsOfWay 2 Rr [3, 0, 1, 1, 0, 0, 0] 197 [53, 0, l2, l3, 0, 0, 0] (jV E 1 t1 :: jV E 1 t0 :: []) s := by
  intro l2 l3 t0 t1 s0 r_t0 r_t1 hF
  unfold bX11_conditionsOfWay_197 at hF
  refine ji_ior (pc := 197)  hF dX11_conditionsOfWay_197 (fun x1 r_x1 hF => ?_)
  refine ji_istore (n := 5) (pc := 198) [3, 0, 1, 1, 0, 1, 0] [53, 0, l2, l3, 0, x1, 0] r_x1 (Nat.le_of_ble_eq_true rfl) rfl rfl dX11_conditionsOfWay_198 ?_
  refine ji_iload (pc := 200) x1 rfl rfl dX11_conditionsOfWay_200 (fun r2 => ?_)
  refine ji_aload_n (n := 0) (pc := 202) 53 rfl rfl rfl dX11_conditionsOfWay_202 (fun r3 => ?_)
  refine ji_callVz (pc := 203) 53 [] (jV E 1 x1 :: []) oX11_isOneRow wlX11_279 wmX11_isOneRow rfl rfl (Nat.le_of_ble_eq_true rfl) (jRaC (jRc3 rfl) jRa0) rfl jcl_53 rfl (Nat.le_of_ble_eq_true rfl) hF dX11_conditionsOfWay_203 (fun x4 s5 r_x4 hF => ?_)
  refine ji_if_eq 214 (pc := 206) (jR51 r_x4) hF dX11_conditionsOfWay_206 rfl (fun hF => ?_) (fun hF => ?_)
  · refine ji_iconst (pc := 214) dX11_conditionsOfWay_214 ?_
    refine jg_norm [3, 0, 1, 1, 0, 0, 0] [53, 0, l2, l3, 0, 0, 0] rfl rfl ?_
    exact obX11_conditionsOfWay_215 _ _ _ _ _ r2 (jRc rfl) hF
  · refine jg_bipush (pc := 209) rfl dX11_conditionsOfWay_209 ?_
    refine jg_goto (pc := 211) 215 dX11_conditionsOfWay_211 rfl ?_
    refine jg_norm [3, 0, 1, 1, 0, 0, 0] [53, 0, l2, l3, 0, 0, 0] rfl rfl ?_
    exact obX11_conditionsOfWay_215 _ _ _ _ _ r2 (jRc rfl) hF
set_option maxRecDepth 100000 in
set_option maxHeartbeats 4000000 in
theorem obX11_conditionsOfWay_181 {E : jEnv} {Rr : Int → jMem → Prop} : ∀ (l2 l3 l4 t0 t1 : Int) (s : jMem), jR 1 t0 → jR 1 t1 → jHo Rr (bX11_conditionsOfWay_181 l2 l3 l4 t0 t1 s) → jGo E MX11_conditionsOfWay 2 Rr [3, 0, 1, 1, 1, 0, 0] 181 [53, 0, l2, l3, l4, 0, 0] (jV E 1 t1 :: jV E 1 t0 :: []) s := by
  intro l2 l3 l4 t0 t1 s0 r_t0 r_t1 hF
  unfold bX11_conditionsOfWay_181 at hF
  refine ji_ior (pc := 181)  hF dX11_conditionsOfWay_181 (fun x1 r_x1 hF => ?_)
  refine ji_istore (n := 5) (pc := 182) [3, 0, 1, 1, 1, 1, 0] [53, 0, l2, l3, l4, x1, 0] r_x1 (Nat.le_of_ble_eq_true rfl) rfl rfl dX11_conditionsOfWay_182 ?_
  refine ji_iload (pc := 184) x1 rfl rfl dX11_conditionsOfWay_184 (fun r2 => ?_)
  refine ji_iload (pc := 186) l4 rfl rfl dX11_conditionsOfWay_186 (fun r3 => ?_)
  refine ji_if_eq 196 (pc := 188) r3 hF dX11_conditionsOfWay_188 rfl (fun hF => ?_) (fun hF => ?_)
  · refine ji_iconst (pc := 196) dX11_conditionsOfWay_196 ?_
    refine jg_norm [3, 0, 1, 1, 0, 0, 0] [53, 0, l2, l3, 0, 0, 0] rfl rfl ?_
    exact obX11_conditionsOfWay_197 _ _ _ _ _ r2 (jRc rfl) hF
  · refine jg_bipush (pc := 191) rfl dX11_conditionsOfWay_191 ?_
    refine jg_goto (pc := 193) 197 dX11_conditionsOfWay_193 rfl ?_
    refine jg_norm [3, 0, 1, 1, 0, 0, 0] [53, 0, l2, l3, 0, 0, 0] rfl rfl ?_
    exact obX11_conditionsOfWay_197 _ _ _ _ _ r2 (jRc rfl) hF
set_option maxRecDepth 100000 in
set_option maxHeartbeats 4000000 in
theorem obX11_conditionsOfWay_160 {E : jEnv} {Rr : Int → jMem → Prop} : ∀ (l2 l3 l4 t0 : Int) (s : jMem), jR 1 t0 → jHo Rr (bX11_conditionsOfWay_160 l2 l3 l4 t0 s) → jGo E MX11_conditionsOfWay 2 Rr [3, 0, 1, 1, 1, 0, 0] 160 [53, 0, l2, l3, l4, 0, 0] (jV E 1 t0 :: []) s := by
  intro l2 l3 l4 t0 s0 r_t0 hF
  unfold bX11_conditionsOfWay_160 at hF
  refine ji_istore (n := 5) (pc := 160) [3, 0, 1, 1, 1, 1, 0] [53, 0, l2, l3, l4, t0, 0] r_t0 (Nat.le_of_ble_eq_true rfl) rfl rfl dX11_conditionsOfWay_160 ?_
  refine ji_iload (pc := 162) t0 rfl rfl dX11_conditionsOfWay_162 (fun r1 => ?_)
  refine ji_aload_n (n := 0) (pc := 164) 53 rfl rfl rfl dX11_conditionsOfWay_164 (fun r2 => ?_)
  refine ji_getr (pc := 165) 71 wfX11_65 (jRc3 rfl) jcl_53 jrf_53_22 dX11_conditionsOfWay_165 ?_
  refine ji_iconst (pc := 168) dX11_conditionsOfWay_168 ?_
  refine ji_iaload (pc := 169) (jRc3 rfl) (jRc rfl) hF dX11_conditionsOfWay_169 (fun x3 r_x3 hF => ?_)
  refine ji_callSz (pc := 170) [x3] (jV E 1 t0 :: []) oX11_isOuter wlX11_162 wmX11_isOuter rfl rfl (Nat.le_of_ble_eq_true rfl) (jRaC r_x3 jRa0) rfl rfl (Nat.le_of_ble_eq_true rfl) hF dX11_conditionsOfWay_170 (fun x4 s5 r_x4 hF => ?_)
  refine ji_if_eq 180 (pc := 173) (jR51 r_x4) hF dX11_conditionsOfWay_173 rfl (fun hF => ?_) (fun hF => ?_)
  · refine ji_iconst (pc := 180) dX11_conditionsOfWay_180 ?_
    refine jg_norm [3, 0, 1, 1, 1, 0, 0] [53, 0, l2, l3, l4, 0, 0] rfl rfl ?_
    exact obX11_conditionsOfWay_181 _ _ _ _ _ _ r1 (jRc rfl) hF
  · refine ji_iconst (pc := 176) dX11_conditionsOfWay_176 ?_
    refine jg_goto (pc := 177) 181 dX11_conditionsOfWay_177 rfl ?_
    refine jg_norm [3, 0, 1, 1, 1, 0, 0] [53, 0, l2, l3, l4, 0, 0] rfl rfl ?_
    exact obX11_conditionsOfWay_181 _ _ _ _ _ _ r1 (jRc rfl) hF
set_option maxRecDepth 100000 in
set_option maxHeartbeats 4000000 in
theorem obX11_conditionsOfWay_142 {E : jEnv} {Rr : Int → jMem → Prop} : ∀ (l1 l2 l3 l4 : Int) (s : jMem), jHo Rr (bX11_conditionsOfWay_142 l1 l2 l3 l4 s) → jGo E MX11_conditionsOfWay 2 Rr [3, 1, 1, 1, 1, 0, 0] 142 [53, l1, l2, l3, l4, 0, 0] ([]) s := by
  intro l1 l2 l3 l4 s0 hF
  unfold bX11_conditionsOfWay_142 at hF
  refine ji_iload_n (n := 1) (pc := 142) l1 rfl rfl rfl dX11_conditionsOfWay_142 (fun r1 => ?_)
  refine ji_iconst (pc := 143) dX11_conditionsOfWay_143 ?_
  refine ji_icmp_ne 151 (pc := 144) r1 (jRc rfl) hF dX11_conditionsOfWay_144 rfl (fun hF => ?_) (fun hF => ?_)
  · refine ji_iload_n (n := 1) (pc := 151) l1 rfl rfl rfl dX11_conditionsOfWay_151 (fun r2 => ?_)
    refine ji_if_ne 159 (pc := 152) r2 hF dX11_conditionsOfWay_152 rfl (fun hF => ?_) (fun hF => ?_)
    · refine ji_iconst (pc := 159) dX11_conditionsOfWay_159 ?_
      refine jg_norm [3, 0, 1, 1, 1, 0, 0] [53, 0, l2, l3, l4, 0, 0] rfl rfl ?_
      exact obX11_conditionsOfWay_160 _ _ _ _ _ (jRc rfl) hF
    · refine ji_iconst (pc := 155) dX11_conditionsOfWay_155 ?_
      refine jg_goto (pc := 156) 160 dX11_conditionsOfWay_156 rfl ?_
      refine jg_norm [3, 0, 1, 1, 1, 0, 0] [53, 0, l2, l3, l4, 0, 0] rfl rfl ?_
      exact obX11_conditionsOfWay_160 _ _ _ _ _ (jRc rfl) hF
  · refine ji_iconst (pc := 147) dX11_conditionsOfWay_147 ?_
    refine jg_goto (pc := 148) 160 dX11_conditionsOfWay_148 rfl ?_
    refine jg_norm [3, 0, 1, 1, 1, 0, 0] [53, 0, l2, l3, l4, 0, 0] rfl rfl ?_
    exact obX11_conditionsOfWay_160 _ _ _ _ _ (jRc rfl) hF
set_option maxRecDepth 100000 in
set_option maxHeartbeats 4000000 in
theorem oX11_conditionsOfWay : jOk MX11_conditionsOfWay [3] 2 (jFn gX11_conditionsOfWay) := by
  refine jOk_fn (by decide +kernel) (Nat.le_of_ble_eq_true rfl) (by decide +kernel) (.inr (.inl rfl)) ?_
  intro E vs s0 Rr hF ha
  obtain ⟨l0, t0, rfl, r_l0, ha⟩ := jRa_ci ha
  obtain rfl := jRa_ni ha
  replace hF : jHo Rr (jGd (l0 = 53) <| fX11_conditionsOfWay s0) := hF
  have hG := jHo_as hF
  clear hF
  obtain ⟨rfl, hF⟩ := hG
  refine jg_norm [3, 0, 0, 0, 0, 0, 0] [53, 0, 0, 0, 0, 0, 0] rfl rfl ?_
  unfold fX11_conditionsOfWay at hF
  refine ji_iconst (pc := 0) dX11_conditionsOfWay_0 ?_
  refine ji_istore_n (n := 1) (pc := 1) [3, 1, 0, 0, 0, 0, 0] [53, 0, 0, 0, 0, 0, 0] rfl (jRc rfl) (Nat.le_of_ble_eq_true rfl) rfl rfl dX11_conditionsOfWay_1 ?_
  refine ji_iconst (pc := 2) dX11_conditionsOfWay_2 ?_
  refine ji_istore_n (n := 2) (pc := 3) [3, 1, 1, 0, 0, 0, 0] [53, 0, 0, 0, 0, 0, 0] rfl (jRc rfl) (Nat.le_of_ble_eq_true rfl) rfl rfl dX11_conditionsOfWay_3 ?_
  refine ji_iconst (pc := 4) dX11_conditionsOfWay_4 ?_
  refine ji_istore_n (n := 3) (pc := 5) [3, 1, 1, 1, 0, 0, 0] [53, 0, 0, 0, 0, 0, 0] rfl (jRc rfl) (Nat.le_of_ble_eq_true rfl) rfl rfl dX11_conditionsOfWay_5 ?_
  refine ji_iconst (pc := 6) dX11_conditionsOfWay_6 ?_
  refine ji_istore (n := 4) (pc := 7) [3, 1, 1, 1, 1, 0, 0] [53, 0, 0, 0, 1, 0, 0] (jRc rfl) (Nat.le_of_ble_eq_true rfl) rfl rfl dX11_conditionsOfWay_7 ?_
  refine ji_iconst (pc := 9) dX11_conditionsOfWay_9 ?_
  refine ji_istore (n := 5) (pc := 10) [3, 1, 1, 1, 1, 1, 0] [53, 0, 0, 0, 1, 0, 0] (jRc rfl) (Nat.le_of_ble_eq_true rfl) rfl rfl dX11_conditionsOfWay_10 ?_
  refine jg_norm [3, 1, 1, 1, 1, 1, 0] [53, 0, 0, 0, 1, 0, 0] rfl rfl ?_
  exact obX11_conditionsOfWay_12W obX11_conditionsOfWay_142 1000 _ _ _ _ _ _ hF
def bX11_conditionsOfSeven_30 (k35 : Int → Int → jMem → jO) (l2 : Int) (s0 : jMem) : jO :=
k35 l2 1 s0
def bX11_conditionsOfSeven_34 (k35 : Int → Int → jMem → jO) (l2 : Int) (s0 : jMem) : jO :=
k35 l2 0 s0
def bX11_conditionsOfSeven_35 (k4 : Int → Int → jMem → jO) (l2 t0 : Int) (s0 : jMem) : jO :=
jLet (j32 (l2 + 1)) fun x1 =>
k4 t0 x1 s0
def bX11_conditionsOfSeven_4 (k42 : Int → jMem → jO) (rec : Int → Int → jMem → jO) (l1 l2 : Int) (s0 : jMem) : jO :=
if 34 ≤ l2 then (
k42 l1 s0)
else (
if l1 = 0 then (
bX11_conditionsOfSeven_34 (bX11_conditionsOfSeven_35 rec) l2 s0)
else (
jGd ((0 : Int) ≤ l2 ∧ l2 < jik 68) <| jLet (s0 68 l2) fun x5 =>
if x5 = 0 then (
bX11_conditionsOfSeven_30 (bX11_conditionsOfSeven_35 rec) l2 s0)
else (
jBd (fX11_isOuter l2 s0) fun x7 s8 =>
if x7 = 0 then (
bX11_conditionsOfSeven_34 (bX11_conditionsOfSeven_35 rec) l2 s8)
else (
bX11_conditionsOfSeven_30 (bX11_conditionsOfSeven_35 rec) l2 s8))))
def bX11_conditionsOfSeven_65 (t0 t1 : Int) (s0 : jMem) : jO :=
jLet (jor t0 t1) fun x1 =>
jLet (jor x1 32) fun x2 =>
jLet (jor x2 256) fun x3 =>
jRet x3 s0
def bX11_conditionsOfSeven_52 (t0 : Int) (s0 : jMem) : jO :=
jBd (fX11_isOneRow s0) fun x2 s3 =>
if x2 = 0 then (
bX11_conditionsOfSeven_65 t0 0 s3)
else (
bX11_conditionsOfSeven_65 t0 16 s3)
def bX11_conditionsOfSeven_42 (l1 : Int) (s0 : jMem) : jO :=
if l1 = 0 then (
bX11_conditionsOfSeven_52 0 s0)
else (
bX11_conditionsOfSeven_52 12 s0)
def fX11_conditionsOfSeven (s0 : jMem) : jO :=
jIt (fun _ _ _ => none) (bX11_conditionsOfSeven_4 bX11_conditionsOfSeven_42) 1000 1 0 s0
def gX11_conditionsOfSeven (vs : List Int) (s : jMem) : jO := match vs with
  | [a0] => jGd (a0 = 53) <| fX11_conditionsOfSeven s
  | _ => none
set_option maxRecDepth 100000 in
set_option maxHeartbeats 4000000 in
theorem obX11_conditionsOfSeven_30 {E : jEnv} {Rr : Int → jMem → Prop} {k35 : Int → Int → jMem → jO} (hk35 : ∀ (l2 t0 : Int) (s : jMem), jR 1 t0 → jHo Rr (k35 l2 t0 s) → jGo E MX11_conditionsOfSeven 2 Rr [3, 0, 1] 35 [53, 0, l2] (jV E 1 t0 :: []) s) : ∀ (l2 : Int) (s : jMem), jHo Rr (bX11_conditionsOfSeven_30 k35 l2 s) → jGo E MX11_conditionsOfSeven 2 Rr [3, 0, 1] 30 [53, 0, l2] ([]) s := by
  intro l2 s0 hF
  unfold bX11_conditionsOfSeven_30 at hF
  refine ji_iconst (pc := 30) dX11_conditionsOfSeven_30 ?_
  refine jg_goto (pc := 31) 35 dX11_conditionsOfSeven_31 rfl ?_
  refine jg_norm [3, 0, 1] [53, 0, l2] rfl rfl ?_
  exact hk35 _ _ _ (jRc rfl) hF
set_option maxRecDepth 100000 in
set_option maxHeartbeats 4000000 in
theorem obX11_conditionsOfSeven_34 {E : jEnv} {Rr : Int → jMem → Prop} {k35 : Int → Int → jMem → jO} (hk35 : ∀ (l2 t0 : Int) (s : jMem), jR 1 t0 → jHo Rr (k35 l2 t0 s) → jGo E MX11_conditionsOfSeven 2 Rr [3, 0, 1] 35 [53, 0, l2] (jV E 1 t0 :: []) s) : ∀ (l2 : Int) (s : jMem), jHo Rr (bX11_conditionsOfSeven_34 k35 l2 s) → jGo E MX11_conditionsOfSeven 2 Rr [3, 0, 1] 34 [53, 0, l2] ([]) s := by
  intro l2 s0 hF
  unfold bX11_conditionsOfSeven_34 at hF
  refine ji_iconst (pc := 34) dX11_conditionsOfSeven_34 ?_
  refine jg_norm [3, 0, 1] [53, 0, l2] rfl rfl ?_
  exact hk35 _ _ _ (jRc rfl) hF
set_option maxRecDepth 100000 in
set_option maxHeartbeats 4000000 in
theorem obX11_conditionsOfSeven_35 {E : jEnv} {Rr : Int → jMem → Prop} {k4 : Int → Int → jMem → jO} (hk4 : ∀ (l1 l2 : Int) (s : jMem), jHo Rr (k4 l1 l2 s) → jGo E MX11_conditionsOfSeven 2 Rr [3, 1, 1] 4 [53, l1, l2] ([]) s) : ∀ (l2 t0 : Int) (s : jMem), jR 1 t0 → jHo Rr (bX11_conditionsOfSeven_35 k4 l2 t0 s) → jGo E MX11_conditionsOfSeven 2 Rr [3, 0, 1] 35 [53, 0, l2] (jV E 1 t0 :: []) s := by
  intro l2 t0 s0 r_t0 hF
  unfold bX11_conditionsOfSeven_35 at hF
  refine ji_istore_n (n := 1) (pc := 35) [3, 1, 1] [53, t0, l2] rfl r_t0 (Nat.le_of_ble_eq_true rfl) rfl rfl dX11_conditionsOfSeven_35 ?_
  refine ji_iinc (pc := 36) l2 (fun w => [53, t0, w]) rfl rfl rfl (fun _ => rfl) hF dX11_conditionsOfSeven_36 (fun x1 r_x1 hF => ?_)
  refine jg_goto (pc := 39) 4 dX11_conditionsOfSeven_39 rfl ?_
  refine jg_norm [3, 1, 1] [53, t0, x1] rfl rfl ?_
  exact hk4 _ _ _ hF
set_option maxRecDepth 100000 in
set_option maxHeartbeats 4000000 in
theorem obX11_conditionsOfSeven_4 {E : jEnv} {Rr : Int → jMem → Prop} {k42 : Int → jMem → jO} (hk42 : ∀ (l1 : Int) (s : jMem), jHo Rr (k42 l1 s) → jGo E MX11_conditionsOfSeven 2 Rr [3, 1, 0] 42 [53, l1, 0] ([]) s) {rec : Int → Int → jMem → jO} (hrec : ∀ (l1 l2 : Int) (s : jMem), jHo Rr (rec l1 l2 s) → jGo E MX11_conditionsOfSeven 2 Rr [3, 1, 1] 4 [53, l1, l2] ([]) s) : ∀ (l1 l2 : Int) (s : jMem), jHo Rr (bX11_conditionsOfSeven_4 k42 rec l1 l2 s) → jGo E MX11_conditionsOfSeven 2 Rr [3, 1, 1] 4 [53, l1, l2] ([]) s := by
  intro l1 l2 s0 hF
  unfold bX11_conditionsOfSeven_4 at hF
  refine ji_iload_n (n := 2) (pc := 4) l2 rfl rfl rfl dX11_conditionsOfSeven_4 (fun r1 => ?_)
  refine jg_bipush (pc := 5) rfl dX11_conditionsOfSeven_5 ?_
  refine ji_icmp_ge 42 (pc := 7) r1 (jRc rfl) hF dX11_conditionsOfSeven_7 rfl (fun hF => ?_) (fun hF => ?_)
  · refine jg_norm [3, 1, 0] [53, l1, 0] rfl rfl ?_
    exact hk42 _ _ hF
  · refine ji_iload_n (n := 1) (pc := 10) l1 rfl rfl rfl dX11_conditionsOfSeven_10 (fun r2 => ?_)
    refine ji_if_eq 34 (pc := 11) r2 hF dX11_conditionsOfSeven_11 rfl (fun hF => ?_) (fun hF => ?_)
    · refine jg_norm [3, 0, 1] [53, 0, l2] rfl rfl ?_
      exact obX11_conditionsOfSeven_34 (obX11_conditionsOfSeven_35 hrec) _ _ hF
    · refine ji_aload_n (n := 0) (pc := 14) 53 rfl rfl rfl dX11_conditionsOfSeven_14 (fun r3 => ?_)
      refine ji_getr (pc := 15) 68 wfX11_56 (jRc3 rfl) jcl_53 jrf_53_18 dX11_conditionsOfSeven_15 ?_
      refine ji_iload_n (n := 2) (pc := 18) l2 rfl rfl rfl dX11_conditionsOfSeven_18 (fun r4 => ?_)
      refine ji_iaload (pc := 19) (jRc3 rfl) r4 hF dX11_conditionsOfSeven_19 (fun x5 r_x5 hF => ?_)
      refine ji_if_eq 30 (pc := 20) r_x5 hF dX11_conditionsOfSeven_20 rfl (fun hF => ?_) (fun hF => ?_)
      · refine jg_norm [3, 0, 1] [53, 0, l2] rfl rfl ?_
        exact obX11_conditionsOfSeven_30 (obX11_conditionsOfSeven_35 hrec) _ _ hF
      · refine ji_iload_n (n := 2) (pc := 23) l2 rfl rfl rfl dX11_conditionsOfSeven_23 (fun r6 => ?_)
        refine ji_callSz (pc := 24) [l2] ([]) oX11_isOuter wlX11_162 wmX11_isOuter rfl rfl (Nat.le_of_ble_eq_true rfl) (jRaC r6 jRa0) rfl rfl (Nat.le_of_ble_eq_true rfl) hF dX11_conditionsOfSeven_24 (fun x7 s8 r_x7 hF => ?_)
        refine ji_if_eq 34 (pc := 27) (jR51 r_x7) hF dX11_conditionsOfSeven_27 rfl (fun hF => ?_) (fun hF => ?_)
        · refine jg_norm [3, 0, 1] [53, 0, l2] rfl rfl ?_
          exact obX11_conditionsOfSeven_34 (obX11_conditionsOfSeven_35 hrec) _ _ hF
        · refine jg_norm [3, 0, 1] [53, 0, l2] rfl rfl ?_
          exact obX11_conditionsOfSeven_30 (obX11_conditionsOfSeven_35 hrec) _ _ hF
theorem obX11_conditionsOfSeven_4W {E : jEnv} {Rr : Int → jMem → Prop} {k42 : Int → jMem → jO} (hk42 : ∀ (l1 : Int) (s : jMem), jHo Rr (k42 l1 s) → jGo E MX11_conditionsOfSeven 2 Rr [3, 1, 0] 42 [53, l1, 0] ([]) s) : ∀ n : Nat, ∀ (l1 l2 : Int) (s : jMem), jHo Rr (jIt (fun _ _ _ => none) (bX11_conditionsOfSeven_4 k42) n l1 l2 s) → jGo E MX11_conditionsOfSeven 2 Rr [3, 1, 1] 4 [53, l1, l2] ([]) s := by
  intro n
  induction n with
  | zero => intro l1 l2 s hF; exact jHo_none hF
  | succ n ih => exact obX11_conditionsOfSeven_4 hk42 ih

set_option maxRecDepth 100000 in
set_option maxHeartbeats 4000000 in
theorem obX11_conditionsOfSeven_65 {E : jEnv} {Rr : Int → jMem → Prop} : ∀ (t0 t1 : Int) (s : jMem), jR 1 t0 → jR 1 t1 → jHo Rr (bX11_conditionsOfSeven_65 t0 t1 s) → jGo E MX11_conditionsOfSeven 2 Rr [0, 0, 0] 65 [0, 0, 0] (jV E 1 t1 :: jV E 1 t0 :: []) s := by
  intro t0 t1 s0 r_t0 r_t1 hF
  unfold bX11_conditionsOfSeven_65 at hF
  refine ji_ior (pc := 65)  hF dX11_conditionsOfSeven_65 (fun x1 r_x1 hF => ?_)
  refine jg_bipush (pc := 66) rfl dX11_conditionsOfSeven_66 ?_
  refine ji_ior (pc := 68)  hF dX11_conditionsOfSeven_68 (fun x2 r_x2 hF => ?_)
  refine jg_sipush (pc := 69) rfl dX11_conditionsOfSeven_69 ?_
  refine ji_ior (pc := 72)  hF dX11_conditionsOfSeven_72 (fun x3 r_x3 hF => ?_)
  exact ji_reti (pc := 73) rfl r_x3 hF dX11_conditionsOfSeven_73
set_option maxRecDepth 100000 in
set_option maxHeartbeats 4000000 in
theorem obX11_conditionsOfSeven_52 {E : jEnv} {Rr : Int → jMem → Prop} : ∀ (t0 : Int) (s : jMem), jR 1 t0 → jHo Rr (bX11_conditionsOfSeven_52 t0 s) → jGo E MX11_conditionsOfSeven 2 Rr [3, 0, 0] 52 [53, 0, 0] (jV E 1 t0 :: []) s := by
  intro t0 s0 r_t0 hF
  unfold bX11_conditionsOfSeven_52 at hF
  refine ji_aload_n (n := 0) (pc := 52) 53 rfl rfl rfl dX11_conditionsOfSeven_52 (fun r1 => ?_)
  refine ji_callVz (pc := 53) 53 [] (jV E 1 t0 :: []) oX11_isOneRow wlX11_279 wmX11_isOneRow rfl rfl (Nat.le_of_ble_eq_true rfl) (jRaC (jRc3 rfl) jRa0) rfl jcl_53 rfl (Nat.le_of_ble_eq_true rfl) hF dX11_conditionsOfSeven_53 (fun x2 s3 r_x2 hF => ?_)
  refine ji_if_eq 64 (pc := 56) (jR51 r_x2) hF dX11_conditionsOfSeven_56 rfl (fun hF => ?_) (fun hF => ?_)
  · refine ji_iconst (pc := 64) dX11_conditionsOfSeven_64 ?_
    refine jg_norm [0, 0, 0] [0, 0, 0] rfl rfl ?_
    exact obX11_conditionsOfSeven_65 _ _ _ r_t0 (jRc rfl) hF
  · refine jg_bipush (pc := 59) rfl dX11_conditionsOfSeven_59 ?_
    refine jg_goto (pc := 61) 65 dX11_conditionsOfSeven_61 rfl ?_
    refine jg_norm [0, 0, 0] [0, 0, 0] rfl rfl ?_
    exact obX11_conditionsOfSeven_65 _ _ _ r_t0 (jRc rfl) hF
set_option maxRecDepth 100000 in
set_option maxHeartbeats 4000000 in
theorem obX11_conditionsOfSeven_42 {E : jEnv} {Rr : Int → jMem → Prop} : ∀ (l1 : Int) (s : jMem), jHo Rr (bX11_conditionsOfSeven_42 l1 s) → jGo E MX11_conditionsOfSeven 2 Rr [3, 1, 0] 42 [53, l1, 0] ([]) s := by
  intro l1 s0 hF
  unfold bX11_conditionsOfSeven_42 at hF
  refine ji_iload_n (n := 1) (pc := 42) l1 rfl rfl rfl dX11_conditionsOfSeven_42 (fun r1 => ?_)
  refine ji_if_eq 51 (pc := 43) r1 hF dX11_conditionsOfSeven_43 rfl (fun hF => ?_) (fun hF => ?_)
  · refine ji_iconst (pc := 51) dX11_conditionsOfSeven_51 ?_
    refine jg_norm [3, 0, 0] [53, 0, 0] rfl rfl ?_
    exact obX11_conditionsOfSeven_52 _ _ (jRc rfl) hF
  · refine jg_bipush (pc := 46) rfl dX11_conditionsOfSeven_46 ?_
    refine jg_goto (pc := 48) 52 dX11_conditionsOfSeven_48 rfl ?_
    refine jg_norm [3, 0, 0] [53, 0, 0] rfl rfl ?_
    exact obX11_conditionsOfSeven_52 _ _ (jRc rfl) hF
set_option maxRecDepth 100000 in
set_option maxHeartbeats 4000000 in
theorem oX11_conditionsOfSeven : jOk MX11_conditionsOfSeven [3] 2 (jFn gX11_conditionsOfSeven) := by
  refine jOk_fn (by decide +kernel) (Nat.le_of_ble_eq_true rfl) (by decide +kernel) (.inr (.inl rfl)) ?_
  intro E vs s0 Rr hF ha
  obtain ⟨l0, t0, rfl, r_l0, ha⟩ := jRa_ci ha
  obtain rfl := jRa_ni ha
  replace hF : jHo Rr (jGd (l0 = 53) <| fX11_conditionsOfSeven s0) := hF
  have hG := jHo_as hF
  clear hF
  obtain ⟨rfl, hF⟩ := hG
  refine jg_norm [3, 0, 0] [53, 0, 0] rfl rfl ?_
  unfold fX11_conditionsOfSeven at hF
  refine ji_iconst (pc := 0) dX11_conditionsOfSeven_0 ?_
  refine ji_istore_n (n := 1) (pc := 1) [3, 1, 0] [53, 1, 0] rfl (jRc rfl) (Nat.le_of_ble_eq_true rfl) rfl rfl dX11_conditionsOfSeven_1 ?_
  refine ji_iconst (pc := 2) dX11_conditionsOfSeven_2 ?_
  refine ji_istore_n (n := 2) (pc := 3) [3, 1, 1] [53, 1, 0] rfl (jRc rfl) (Nat.le_of_ble_eq_true rfl) rfl rfl dX11_conditionsOfSeven_3 ?_
  refine jg_norm [3, 1, 1] [53, 1, 0] rfl rfl ?_
  exact obX11_conditionsOfSeven_4W obX11_conditionsOfSeven_42 1000 _ _ _ hF
def bX11_sumOf_87 (k92 : Int → Int → Int → Int → Int → jMem → jO) (l1 l2 l3 l5 : Int) (s0 : jMem) : jO :=
k92 l1 l2 l3 l5 1 s0
def bX11_sumOf_91 (k92 : Int → Int → Int → Int → Int → jMem → jO) (l1 l2 l3 l5 : Int) (s0 : jMem) : jO :=
k92 l1 l2 l3 l5 0 s0
def bX11_sumOf_92 (k36 : Int → Int → Int → Int → Int → jMem → jO) (l1 l2 l3 l5 t0 : Int) (s0 : jMem) : jO :=
jLet (j32 (l5 + 1)) fun x1 =>
k36 l1 l2 l3 t0 x1 s0
def bX11_sumOf_36 (k100 : Int → Int → Int → Int → jMem → jO) (rec : Int → Int → Int → Int → Int → jMem → jO) (l1 l2 l3 l4 l5 : Int) (s0 : jMem) : jO :=
jLet (s0 53 12) fun x3 =>
if x3 ≤ l5 then (
k100 l1 l2 l3 l4 s0)
else (
if l4 = 0 then (
bX11_sumOf_91 (bX11_sumOf_92 rec) l1 l2 l3 l5 s0)
else (
if l5 = l3 then (
bX11_sumOf_87 (bX11_sumOf_92 rec) l1 l2 l3 l5 s0)
else (
jGd ((0 : Int) ≤ l5 ∧ l5 < jik 65) <| jLet (s0 65 l5) fun x9 =>
jGd ((0 : Int) ≤ l3 ∧ l3 < jik 63) <| jLet (s0 63 l3) fun x12 =>
if x9 = x12 then (
jGd ((0 : Int) ≤ l5 ∧ l5 < jik 63) <| jLet (s0 63 l5) fun x16 =>
jLet (jshr l1 x16) fun x17 =>
jLet (jand x17 1) fun x18 =>
if x18 = 1 then (
bX11_sumOf_91 (bX11_sumOf_92 rec) l1 l2 l3 l5 s0)
else (
bX11_sumOf_87 (bX11_sumOf_92 rec) l1 l2 l3 l5 s0))
else (
bX11_sumOf_87 (bX11_sumOf_92 rec) l1 l2 l3 l5 s0))))
def bX11_sumOf_116 (k4 : Int → Int → Int → jMem → jO) (l1 l3 t0 t1 : Int) (s0 : jMem) : jO :=
jLet (j32 (t0 + t1)) fun x1 =>
jLet (j32 (l3 + 1)) fun x2 =>
k4 l1 x1 x2 s0
def bX11_sumOf_100 (k4 : Int → Int → Int → jMem → jO) (l1 l2 l3 l4 : Int) (s0 : jMem) : jO :=
if l4 = 0 then (
bX11_sumOf_116 k4 l1 l3 l2 0 s0)
else (
jGd ((0 : Int) ≤ l3 ∧ l3 < jik 64) <| jLet (s0 64 l3) fun x5 =>
bX11_sumOf_116 k4 l1 l3 l2 x5 s0)
def bX11_sumOf_31 (k4 : Int → Int → Int → jMem → jO) (l1 l2 l3 t0 : Int) (s0 : jMem) : jO :=
jIt (fun _ _ _ _ _ _ => none) (bX11_sumOf_36 (bX11_sumOf_100 k4)) 1000 l1 l2 l3 t0 0 s0
def bX11_sumOf_4 (rec : Int → Int → Int → jMem → jO) (l1 l2 l3 : Int) (s0 : jMem) : jO :=
jLet (s0 53 12) fun x3 =>
if x3 ≤ l3 then (
jRet l2 s0)
else (
jGd ((0 : Int) ≤ l3 ∧ l3 < jik 63) <| jLet (s0 63 l3) fun x8 =>
jLet (jshr l1 x8) fun x9 =>
jLet (jand x9 1) fun x10 =>
if x10 = 1 then (
bX11_sumOf_31 rec l1 l2 l3 1 s0)
else (
bX11_sumOf_31 rec l1 l2 l3 0 s0))
def fX11_sumOf (l1 : Int) (s0 : jMem) : jO :=
jIt (fun _ _ _ _ => none) (bX11_sumOf_4) 1000 l1 0 0 s0
def gX11_sumOf (vs : List Int) (s : jMem) : jO := match vs with
  | [a0, a1] => jGd (a0 = 53) <| fX11_sumOf a1 s
  | _ => none
set_option maxRecDepth 100000 in
set_option maxHeartbeats 4000000 in
theorem obX11_sumOf_87 {E : jEnv} {Rr : Int → jMem → Prop} {k92 : Int → Int → Int → Int → Int → jMem → jO} (hk92 : ∀ (l1 l2 l3 l5 t0 : Int) (s : jMem), jR 1 t0 → jHo Rr (k92 l1 l2 l3 l5 t0 s) → jGo E MX11_sumOf 0 Rr [3, 1, 1, 1, 0, 1] 92 [53, l1, l2, l3, 0, l5] (jV E 1 t0 :: []) s) : ∀ (l1 l2 l3 l5 : Int) (s : jMem), jHo Rr (bX11_sumOf_87 k92 l1 l2 l3 l5 s) → jGo E MX11_sumOf 0 Rr [3, 1, 1, 1, 0, 1] 87 [53, l1, l2, l3, 0, l5] ([]) s := by
  intro l1 l2 l3 l5 s0 hF
  unfold bX11_sumOf_87 at hF
  refine ji_iconst (pc := 87) dX11_sumOf_87 ?_
  refine jg_goto (pc := 88) 92 dX11_sumOf_88 rfl ?_
  refine jg_norm [3, 1, 1, 1, 0, 1] [53, l1, l2, l3, 0, l5] rfl rfl ?_
  exact hk92 _ _ _ _ _ _ (jRc rfl) hF
set_option maxRecDepth 100000 in
set_option maxHeartbeats 4000000 in
theorem obX11_sumOf_91 {E : jEnv} {Rr : Int → jMem → Prop} {k92 : Int → Int → Int → Int → Int → jMem → jO} (hk92 : ∀ (l1 l2 l3 l5 t0 : Int) (s : jMem), jR 1 t0 → jHo Rr (k92 l1 l2 l3 l5 t0 s) → jGo E MX11_sumOf 0 Rr [3, 1, 1, 1, 0, 1] 92 [53, l1, l2, l3, 0, l5] (jV E 1 t0 :: []) s) : ∀ (l1 l2 l3 l5 : Int) (s : jMem), jHo Rr (bX11_sumOf_91 k92 l1 l2 l3 l5 s) → jGo E MX11_sumOf 0 Rr [3, 1, 1, 1, 0, 1] 91 [53, l1, l2, l3, 0, l5] ([]) s := by
  intro l1 l2 l3 l5 s0 hF
  unfold bX11_sumOf_91 at hF
  refine ji_iconst (pc := 91) dX11_sumOf_91 ?_
  refine jg_norm [3, 1, 1, 1, 0, 1] [53, l1, l2, l3, 0, l5] rfl rfl ?_
  exact hk92 _ _ _ _ _ _ (jRc rfl) hF
set_option maxRecDepth 100000 in
set_option maxHeartbeats 4000000 in
theorem obX11_sumOf_92 {E : jEnv} {Rr : Int → jMem → Prop} {k36 : Int → Int → Int → Int → Int → jMem → jO} (hk36 : ∀ (l1 l2 l3 l4 l5 : Int) (s : jMem), jHo Rr (k36 l1 l2 l3 l4 l5 s) → jGo E MX11_sumOf 0 Rr [3, 1, 1, 1, 1, 1] 36 [53, l1, l2, l3, l4, l5] ([]) s) : ∀ (l1 l2 l3 l5 t0 : Int) (s : jMem), jR 1 t0 → jHo Rr (bX11_sumOf_92 k36 l1 l2 l3 l5 t0 s) → jGo E MX11_sumOf 0 Rr [3, 1, 1, 1, 0, 1] 92 [53, l1, l2, l3, 0, l5] (jV E 1 t0 :: []) s := by
  intro l1 l2 l3 l5 t0 s0 r_t0 hF
  unfold bX11_sumOf_92 at hF
  refine ji_istore (n := 4) (pc := 92) [3, 1, 1, 1, 1, 1] [53, l1, l2, l3, t0, l5] r_t0 (Nat.le_of_ble_eq_true rfl) rfl rfl dX11_sumOf_92 ?_
  refine ji_iinc (pc := 94) l5 (fun w => [53, l1, l2, l3, t0, w]) rfl rfl rfl (fun _ => rfl) hF dX11_sumOf_94 (fun x1 r_x1 hF => ?_)
  refine jg_goto (pc := 97) 36 dX11_sumOf_97 rfl ?_
  refine jg_norm [3, 1, 1, 1, 1, 1] [53, l1, l2, l3, t0, x1] rfl rfl ?_
  exact hk36 _ _ _ _ _ _ hF
set_option maxRecDepth 100000 in
set_option maxHeartbeats 4000000 in
theorem obX11_sumOf_36 {E : jEnv} {Rr : Int → jMem → Prop} {k100 : Int → Int → Int → Int → jMem → jO} (hk100 : ∀ (l1 l2 l3 l4 : Int) (s : jMem), jHo Rr (k100 l1 l2 l3 l4 s) → jGo E MX11_sumOf 0 Rr [3, 1, 1, 1, 1, 0] 100 [53, l1, l2, l3, l4, 0] ([]) s) {rec : Int → Int → Int → Int → Int → jMem → jO} (hrec : ∀ (l1 l2 l3 l4 l5 : Int) (s : jMem), jHo Rr (rec l1 l2 l3 l4 l5 s) → jGo E MX11_sumOf 0 Rr [3, 1, 1, 1, 1, 1] 36 [53, l1, l2, l3, l4, l5] ([]) s) : ∀ (l1 l2 l3 l4 l5 : Int) (s : jMem), jHo Rr (bX11_sumOf_36 k100 rec l1 l2 l3 l4 l5 s) → jGo E MX11_sumOf 0 Rr [3, 1, 1, 1, 1, 1] 36 [53, l1, l2, l3, l4, l5] ([]) s := by
  intro l1 l2 l3 l4 l5 s0 hF
  unfold bX11_sumOf_36 at hF
  refine ji_iload (pc := 36) l5 rfl rfl dX11_sumOf_36 (fun r1 => ?_)
  refine ji_aload_n (n := 0) (pc := 38) 53 rfl rfl rfl dX11_sumOf_38 (fun r2 => ?_)
  refine ji_getfi (pc := 39) wfX11_273 (jRc3 rfl) jcl_53 hF dX11_sumOf_39 (fun x3 r_x3 hF => ?_)
  refine ji_icmp_ge 100 (pc := 42) r1 r_x3 hF dX11_sumOf_42 rfl (fun hF => ?_) (fun hF => ?_)
  · refine jg_norm [3, 1, 1, 1, 1, 0] [53, l1, l2, l3, l4, 0] rfl rfl ?_
    exact hk100 _ _ _ _ _ hF
  · refine ji_iload (pc := 45) l4 rfl rfl dX11_sumOf_45 (fun r4 => ?_)
    refine ji_if_eq 91 (pc := 47) r4 hF dX11_sumOf_47 rfl (fun hF => ?_) (fun hF => ?_)
    · refine jg_norm [3, 1, 1, 1, 0, 1] [53, l1, l2, l3, 0, l5] rfl rfl ?_
      exact obX11_sumOf_91 (obX11_sumOf_92 hrec) _ _ _ _ _ hF
    · refine ji_iload (pc := 50) l5 rfl rfl dX11_sumOf_50 (fun r5 => ?_)
      refine ji_iload_n (n := 3) (pc := 52) l3 rfl rfl rfl dX11_sumOf_52 (fun r6 => ?_)
      refine ji_icmp_eq 87 (pc := 53) r5 r6 hF dX11_sumOf_53 rfl (fun hF => ?_) (fun hF => ?_)
      · refine jg_norm [3, 1, 1, 1, 0, 1] [53, l1, l2, l3, 0, l5] rfl rfl ?_
        exact obX11_sumOf_87 (obX11_sumOf_92 hrec) _ _ _ _ _ hF
      · refine ji_aload_n (n := 0) (pc := 56) 53 rfl rfl rfl dX11_sumOf_56 (fun r7 => ?_)
        refine ji_getr (pc := 57) 65 wfX11_47 (jRc3 rfl) jcl_53 jrf_53_15 dX11_sumOf_57 ?_
        refine ji_iload (pc := 60) l5 rfl rfl dX11_sumOf_60 (fun r8 => ?_)
        refine ji_iaload (pc := 62) (jRc3 rfl) r8 hF dX11_sumOf_62 (fun x9 r_x9 hF => ?_)
        refine ji_aload_n (n := 0) (pc := 63) 53 rfl rfl rfl dX11_sumOf_63 (fun r10 => ?_)
        refine ji_getr (pc := 64) 63 wfX11_41 (jRc3 rfl) jcl_53 jrf_53_13 dX11_sumOf_64 ?_
        refine ji_iload_n (n := 3) (pc := 67) l3 rfl rfl rfl dX11_sumOf_67 (fun r11 => ?_)
        refine ji_iaload (pc := 68) (jRc3 rfl) r11 hF dX11_sumOf_68 (fun x12 r_x12 hF => ?_)
        refine ji_icmp_ne 87 (pc := 69) r_x9 r_x12 hF dX11_sumOf_69 rfl (fun hF => ?_) (fun hF => ?_)
        · refine jg_norm [3, 1, 1, 1, 0, 1] [53, l1, l2, l3, 0, l5] rfl rfl ?_
          exact obX11_sumOf_87 (obX11_sumOf_92 hrec) _ _ _ _ _ hF
        · refine ji_iload_n (n := 1) (pc := 72) l1 rfl rfl rfl dX11_sumOf_72 (fun r13 => ?_)
          refine ji_aload_n (n := 0) (pc := 73) 53 rfl rfl rfl dX11_sumOf_73 (fun r14 => ?_)
          refine ji_getr (pc := 74) 63 wfX11_41 (jRc3 rfl) jcl_53 jrf_53_13 dX11_sumOf_74 ?_
          refine ji_iload (pc := 77) l5 rfl rfl dX11_sumOf_77 (fun r15 => ?_)
          refine ji_iaload (pc := 79) (jRc3 rfl) r15 hF dX11_sumOf_79 (fun x16 r_x16 hF => ?_)
          refine ji_ishr (pc := 80)  hF dX11_sumOf_80 (fun x17 r_x17 hF => ?_)
          refine ji_iconst (pc := 81) dX11_sumOf_81 ?_
          refine ji_iand (pc := 82)  hF dX11_sumOf_82 (fun x18 r_x18 hF => ?_)
          refine ji_iconst (pc := 83) dX11_sumOf_83 ?_
          refine ji_icmp_eq 91 (pc := 84) r_x18 (jRc rfl) hF dX11_sumOf_84 rfl (fun hF => ?_) (fun hF => ?_)
          · refine jg_norm [3, 1, 1, 1, 0, 1] [53, l1, l2, l3, 0, l5] rfl rfl ?_
            exact obX11_sumOf_91 (obX11_sumOf_92 hrec) _ _ _ _ _ hF
          · refine jg_norm [3, 1, 1, 1, 0, 1] [53, l1, l2, l3, 0, l5] rfl rfl ?_
            exact obX11_sumOf_87 (obX11_sumOf_92 hrec) _ _ _ _ _ hF
theorem obX11_sumOf_36W {E : jEnv} {Rr : Int → jMem → Prop} {k100 : Int → Int → Int → Int → jMem → jO} (hk100 : ∀ (l1 l2 l3 l4 : Int) (s : jMem), jHo Rr (k100 l1 l2 l3 l4 s) → jGo E MX11_sumOf 0 Rr [3, 1, 1, 1, 1, 0] 100 [53, l1, l2, l3, l4, 0] ([]) s) : ∀ n : Nat, ∀ (l1 l2 l3 l4 l5 : Int) (s : jMem), jHo Rr (jIt (fun _ _ _ _ _ _ => none) (bX11_sumOf_36 k100) n l1 l2 l3 l4 l5 s) → jGo E MX11_sumOf 0 Rr [3, 1, 1, 1, 1, 1] 36 [53, l1, l2, l3, l4, l5] ([]) s := by
  intro n
  induction n with
  | zero => intro l1 l2 l3 l4 l5 s hF; exact jHo_none hF
  | succ n ih => exact obX11_sumOf_36 hk100 ih

set_option maxRecDepth 100000 in
set_option maxHeartbeats 4000000 in
theorem obX11_sumOf_116 {E : jEnv} {Rr : Int → jMem → Prop} {k4 : Int → Int → Int → jMem → jO} (hk4 : ∀ (l1 l2 l3 : Int) (s : jMem), jHo Rr (k4 l1 l2 l3 s) → jGo E MX11_sumOf 0 Rr [3, 1, 1, 1, 0, 0] 4 [53, l1, l2, l3, 0, 0] ([]) s) : ∀ (l1 l3 t0 t1 : Int) (s : jMem), jR 1 t0 → jR 1 t1 → jHo Rr (bX11_sumOf_116 k4 l1 l3 t0 t1 s) → jGo E MX11_sumOf 0 Rr [3, 1, 0, 1, 0, 0] 116 [53, l1, 0, l3, 0, 0] (jV E 1 t1 :: jV E 1 t0 :: []) s := by
  intro l1 l3 t0 t1 s0 r_t0 r_t1 hF
  unfold bX11_sumOf_116 at hF
  refine ji_iadd (pc := 116)  hF dX11_sumOf_116 (fun x1 r_x1 hF => ?_)
  refine ji_istore_n (n := 2) (pc := 117) [3, 1, 1, 1, 0, 0] [53, l1, x1, l3, 0, 0] rfl r_x1 (Nat.le_of_ble_eq_true rfl) rfl rfl dX11_sumOf_117 ?_
  refine ji_iinc (pc := 118) l3 (fun w => [53, l1, x1, w, 0, 0]) rfl rfl rfl (fun _ => rfl) hF dX11_sumOf_118 (fun x2 r_x2 hF => ?_)
  refine jg_goto (pc := 121) 4 dX11_sumOf_121 rfl ?_
  refine jg_norm [3, 1, 1, 1, 0, 0] [53, l1, x1, x2, 0, 0] rfl rfl ?_
  exact hk4 _ _ _ _ hF
set_option maxRecDepth 100000 in
set_option maxHeartbeats 4000000 in
theorem obX11_sumOf_100 {E : jEnv} {Rr : Int → jMem → Prop} {k4 : Int → Int → Int → jMem → jO} (hk4 : ∀ (l1 l2 l3 : Int) (s : jMem), jHo Rr (k4 l1 l2 l3 s) → jGo E MX11_sumOf 0 Rr [3, 1, 1, 1, 0, 0] 4 [53, l1, l2, l3, 0, 0] ([]) s) : ∀ (l1 l2 l3 l4 : Int) (s : jMem), jHo Rr (bX11_sumOf_100 k4 l1 l2 l3 l4 s) → jGo E MX11_sumOf 0 Rr [3, 1, 1, 1, 1, 0] 100 [53, l1, l2, l3, l4, 0] ([]) s := by
  intro l1 l2 l3 l4 s0 hF
  unfold bX11_sumOf_100 at hF
  refine ji_iload_n (n := 2) (pc := 100) l2 rfl rfl rfl dX11_sumOf_100 (fun r1 => ?_)
  refine ji_iload (pc := 101) l4 rfl rfl dX11_sumOf_101 (fun r2 => ?_)
  refine ji_if_eq 115 (pc := 103) r2 hF dX11_sumOf_103 rfl (fun hF => ?_) (fun hF => ?_)
  · refine ji_iconst (pc := 115) dX11_sumOf_115 ?_
    refine jg_norm [3, 1, 0, 1, 0, 0] [53, l1, 0, l3, 0, 0] rfl rfl ?_
    exact obX11_sumOf_116 hk4 _ _ _ _ _ r1 (jRc rfl) hF
  · refine ji_aload_n (n := 0) (pc := 106) 53 rfl rfl rfl dX11_sumOf_106 (fun r3 => ?_)
    refine ji_getr (pc := 107) 64 wfX11_44 (jRc3 rfl) jcl_53 jrf_53_14 dX11_sumOf_107 ?_
    refine ji_iload_n (n := 3) (pc := 110) l3 rfl rfl rfl dX11_sumOf_110 (fun r4 => ?_)
    refine ji_iaload (pc := 111) (jRc3 rfl) r4 hF dX11_sumOf_111 (fun x5 r_x5 hF => ?_)
    refine jg_goto (pc := 112) 116 dX11_sumOf_112 rfl ?_
    refine jg_norm [3, 1, 0, 1, 0, 0] [53, l1, 0, l3, 0, 0] rfl rfl ?_
    exact obX11_sumOf_116 hk4 _ _ _ _ _ r1 r_x5 hF
set_option maxRecDepth 100000 in
set_option maxHeartbeats 4000000 in
theorem obX11_sumOf_31 {E : jEnv} {Rr : Int → jMem → Prop} {k4 : Int → Int → Int → jMem → jO} (hk4 : ∀ (l1 l2 l3 : Int) (s : jMem), jHo Rr (k4 l1 l2 l3 s) → jGo E MX11_sumOf 0 Rr [3, 1, 1, 1, 0, 0] 4 [53, l1, l2, l3, 0, 0] ([]) s) : ∀ (l1 l2 l3 t0 : Int) (s : jMem), jR 1 t0 → jHo Rr (bX11_sumOf_31 k4 l1 l2 l3 t0 s) → jGo E MX11_sumOf 0 Rr [3, 1, 1, 1, 0, 0] 31 [53, l1, l2, l3, 0, 0] (jV E 1 t0 :: []) s := by
  intro l1 l2 l3 t0 s0 r_t0 hF
  unfold bX11_sumOf_31 at hF
  refine ji_istore (n := 4) (pc := 31) [3, 1, 1, 1, 1, 0] [53, l1, l2, l3, t0, 0] r_t0 (Nat.le_of_ble_eq_true rfl) rfl rfl dX11_sumOf_31 ?_
  refine ji_iconst (pc := 33) dX11_sumOf_33 ?_
  refine ji_istore (n := 5) (pc := 34) [3, 1, 1, 1, 1, 1] [53, l1, l2, l3, t0, 0] (jRc rfl) (Nat.le_of_ble_eq_true rfl) rfl rfl dX11_sumOf_34 ?_
  refine jg_norm [3, 1, 1, 1, 1, 1] [53, l1, l2, l3, t0, 0] rfl rfl ?_
  exact obX11_sumOf_36W (obX11_sumOf_100 hk4) 1000 _ _ _ _ _ _ hF
set_option maxRecDepth 100000 in
set_option maxHeartbeats 4000000 in
theorem obX11_sumOf_4 {E : jEnv} {Rr : Int → jMem → Prop} {rec : Int → Int → Int → jMem → jO} (hrec : ∀ (l1 l2 l3 : Int) (s : jMem), jHo Rr (rec l1 l2 l3 s) → jGo E MX11_sumOf 0 Rr [3, 1, 1, 1, 0, 0] 4 [53, l1, l2, l3, 0, 0] ([]) s) : ∀ (l1 l2 l3 : Int) (s : jMem), jHo Rr (bX11_sumOf_4 rec l1 l2 l3 s) → jGo E MX11_sumOf 0 Rr [3, 1, 1, 1, 0, 0] 4 [53, l1, l2, l3, 0, 0] ([]) s := by
  intro l1 l2 l3 s0 hF
  unfold bX11_sumOf_4 at hF
  refine ji_iload_n (n := 3) (pc := 4) l3 rfl rfl rfl dX11_sumOf_4 (fun r1 => ?_)
  refine ji_aload_n (n := 0) (pc := 5) 53 rfl rfl rfl dX11_sumOf_5 (fun r2 => ?_)
  refine ji_getfi (pc := 6) wfX11_273 (jRc3 rfl) jcl_53 hF dX11_sumOf_6 (fun x3 r_x3 hF => ?_)
  refine ji_icmp_ge 124 (pc := 9) r1 r_x3 hF dX11_sumOf_9 rfl (fun hF => ?_) (fun hF => ?_)
  · refine ji_iload_n (n := 2) (pc := 124) l2 rfl rfl rfl dX11_sumOf_124 (fun r4 => ?_)
    exact ji_reti (pc := 125) rfl r4 hF dX11_sumOf_125
  · refine ji_iload_n (n := 1) (pc := 12) l1 rfl rfl rfl dX11_sumOf_12 (fun r5 => ?_)
    refine ji_aload_n (n := 0) (pc := 13) 53 rfl rfl rfl dX11_sumOf_13 (fun r6 => ?_)
    refine ji_getr (pc := 14) 63 wfX11_41 (jRc3 rfl) jcl_53 jrf_53_13 dX11_sumOf_14 ?_
    refine ji_iload_n (n := 3) (pc := 17) l3 rfl rfl rfl dX11_sumOf_17 (fun r7 => ?_)
    refine ji_iaload (pc := 18) (jRc3 rfl) r7 hF dX11_sumOf_18 (fun x8 r_x8 hF => ?_)
    refine ji_ishr (pc := 19)  hF dX11_sumOf_19 (fun x9 r_x9 hF => ?_)
    refine ji_iconst (pc := 20) dX11_sumOf_20 ?_
    refine ji_iand (pc := 21)  hF dX11_sumOf_21 (fun x10 r_x10 hF => ?_)
    refine ji_iconst (pc := 22) dX11_sumOf_22 ?_
    refine ji_icmp_ne 30 (pc := 23) r_x10 (jRc rfl) hF dX11_sumOf_23 rfl (fun hF => ?_) (fun hF => ?_)
    · refine ji_iconst (pc := 30) dX11_sumOf_30 ?_
      refine jg_norm [3, 1, 1, 1, 0, 0] [53, l1, l2, l3, 0, 0] rfl rfl ?_
      exact obX11_sumOf_31 hrec _ _ _ _ _ (jRc rfl) hF
    · refine ji_iconst (pc := 26) dX11_sumOf_26 ?_
      refine jg_goto (pc := 27) 31 dX11_sumOf_27 rfl ?_
      refine jg_norm [3, 1, 1, 1, 0, 0] [53, l1, l2, l3, 0, 0] rfl rfl ?_
      exact obX11_sumOf_31 hrec _ _ _ _ _ (jRc rfl) hF
theorem obX11_sumOf_4W {E : jEnv} {Rr : Int → jMem → Prop} : ∀ n : Nat, ∀ (l1 l2 l3 : Int) (s : jMem), jHo Rr (jIt (fun _ _ _ _ => none) (bX11_sumOf_4) n l1 l2 l3 s) → jGo E MX11_sumOf 0 Rr [3, 1, 1, 1, 0, 0] 4 [53, l1, l2, l3, 0, 0] ([]) s := by
  intro n
  induction n with
  | zero => intro l1 l2 l3 s hF; exact jHo_none hF
  | succ n ih => exact obX11_sumOf_4 ih

set_option maxRecDepth 100000 in
set_option maxHeartbeats 4000000 in
theorem oX11_sumOf : jOk MX11_sumOf [3, 1] 0 (jFn gX11_sumOf) := by
  refine jOk_fn (by decide +kernel) (Nat.le_of_ble_eq_true rfl) (by decide +kernel) (.inr (.inl rfl)) ?_
  intro E vs s0 Rr hF ha
  obtain ⟨l0, t0, rfl, r_l0, ha⟩ := jRa_ci ha
  obtain ⟨l1, t1, rfl, r_l1, ha⟩ := jRa_ci ha
  obtain rfl := jRa_ni ha
  replace hF : jHo Rr (jGd (l0 = 53) <| fX11_sumOf l1 s0) := hF
  have hG := jHo_as hF
  clear hF
  obtain ⟨rfl, hF⟩ := hG
  refine jg_norm [3, 1, 0, 0, 0, 0] [53, l1, 0, 0, 0, 0] rfl rfl ?_
  unfold fX11_sumOf at hF
  refine ji_iconst (pc := 0) dX11_sumOf_0 ?_
  refine ji_istore_n (n := 2) (pc := 1) [3, 1, 1, 0, 0, 0] [53, l1, 0, 0, 0, 0] rfl (jRc rfl) (Nat.le_of_ble_eq_true rfl) rfl rfl dX11_sumOf_1 ?_
  refine ji_iconst (pc := 2) dX11_sumOf_2 ?_
  refine ji_istore_n (n := 3) (pc := 3) [3, 1, 1, 1, 0, 0] [53, l1, 0, 0, 0, 0] rfl (jRc rfl) (Nat.le_of_ble_eq_true rfl) rfl rfl dX11_sumOf_3 ?_
  refine jg_norm [3, 1, 1, 1, 0, 0] [53, l1, 0, 0, 0, 0] rfl rfl ?_
  exact obX11_sumOf_4W 1000 _ _ _ _ hF
def fX11_tries (l1 l2 l3 : Int) (s0 : jMem) : jO :=
jBd (fX11_sumOf l2 s0) fun x3 s4 =>
jLet (jU s4 53 31 l3) fun s7 =>
if x3 ≤ l3 then (
jRet 0 s7)
else (
jLet (jU s7 53 31 x3) fun s12 =>
jLet (jU s12 53 29 l1) fun s15 =>
jLet (jU s15 53 30 l2) fun s18 =>
jRet 0 s18)
def gX11_tries (vs : List Int) (s : jMem) : jO := match vs with
  | [a0, a1, a2, a3] => jGd (a0 = 53) <| fX11_tries a1 a2 a3 s
  | _ => none
set_option maxRecDepth 100000 in
set_option maxHeartbeats 4000000 in
theorem oX11_tries : jOk MX11_tries [3, 1, 1, 1] 1 (jFn gX11_tries) := by
  refine jOk_fn (by decide +kernel) (Nat.le_of_ble_eq_true rfl) (by decide +kernel) (.inl rfl) ?_
  intro E vs s0 Rr hF ha
  obtain ⟨l0, t0, rfl, r_l0, ha⟩ := jRa_ci ha
  obtain ⟨l1, t1, rfl, r_l1, ha⟩ := jRa_ci ha
  obtain ⟨l2, t2, rfl, r_l2, ha⟩ := jRa_ci ha
  obtain ⟨l3, t3, rfl, r_l3, ha⟩ := jRa_ci ha
  obtain rfl := jRa_ni ha
  replace hF : jHo Rr (jGd (l0 = 53) <| fX11_tries l1 l2 l3 s0) := hF
  have hG := jHo_as hF
  clear hF
  obtain ⟨rfl, hF⟩ := hG
  refine jg_norm [3, 1, 1, 1, 0] [53, l1, l2, l3, 0] rfl rfl ?_
  unfold fX11_tries at hF
  refine ji_aload_n (n := 0) (pc := 0) 53 rfl rfl rfl dX11_tries_0 (fun r1 => ?_)
  refine ji_iload_n (n := 2) (pc := 1) l2 rfl rfl rfl dX11_tries_1 (fun r2 => ?_)
  refine ji_callVi (pc := 2) 53 [l2] ([]) oX11_sumOf wlX11_295 wmX11_sumOf rfl rfl (Nat.le_of_ble_eq_true rfl) (jRaC (jRc3 rfl) (jRaC r2 jRa0)) rfl jcl_53 rfl (Nat.le_of_ble_eq_true rfl) hF dX11_tries_2 (fun x3 s4 r_x3 hF => ?_)
  refine ji_istore (n := 4) (pc := 5) [3, 1, 1, 1, 1] [53, l1, l2, l3, x3] r_x3 (Nat.le_of_ble_eq_true rfl) rfl rfl dX11_tries_5 ?_
  refine ji_aload_n (n := 0) (pc := 7) 53 rfl rfl rfl dX11_tries_7 (fun r5 => ?_)
  refine ji_iload_n (n := 3) (pc := 8) l3 rfl rfl rfl dX11_tries_8 (fun r6 => ?_)
  refine ji_putfi (pc := 9) wpX11_289 (jRc3 rfl) jcl_53 r6 hF dX11_tries_9 (fun s7 hF => ?_)
  refine ji_iload (pc := 12) x3 rfl rfl dX11_tries_12 (fun r8 => ?_)
  refine ji_iload_n (n := 3) (pc := 14) l3 rfl rfl rfl dX11_tries_14 (fun r9 => ?_)
  refine ji_icmp_le 34 (pc := 15) r8 r9 hF dX11_tries_15 rfl (fun hF => ?_) (fun hF => ?_)
  · exact ji_retv (pc := 34) rfl hF dX11_tries_34
  · refine ji_aload_n (n := 0) (pc := 18) 53 rfl rfl rfl dX11_tries_18 (fun r10 => ?_)
    refine ji_iload (pc := 19) x3 rfl rfl dX11_tries_19 (fun r11 => ?_)
    refine ji_putfi (pc := 21) wpX11_289 (jRc3 rfl) jcl_53 r11 hF dX11_tries_21 (fun s12 hF => ?_)
    refine ji_aload_n (n := 0) (pc := 24) 53 rfl rfl rfl dX11_tries_24 (fun r13 => ?_)
    refine ji_iload_n (n := 1) (pc := 25) l1 rfl rfl rfl dX11_tries_25 (fun r14 => ?_)
    refine ji_putfi (pc := 26) wpX11_298 (jRc3 rfl) jcl_53 r14 hF dX11_tries_26 (fun s15 hF => ?_)
    refine ji_aload_n (n := 0) (pc := 29) 53 rfl rfl rfl dX11_tries_29 (fun r16 => ?_)
    refine ji_iload_n (n := 2) (pc := 30) l2 rfl rfl rfl dX11_tries_30 (fun r17 => ?_)
    refine ji_putfi (pc := 31) wpX11_301 (jRc3 rfl) jcl_53 r17 hF dX11_tries_31 (fun s18 hF => ?_)
    exact ji_retv (pc := 34) rfl hF dX11_tries_34
def bX11_worthOf_36 (k77 : Int → jMem → jO) (rec : Int → Int → Int → Int → jMem → jO) (l1 l2 l3 l4 : Int) (s0 : jMem) : jO :=
if l3 ≤ l4 then (
k77 l2 s0)
else (
jBd (fX11_findWay l4 s0) fun x5 s6 =>
jBd (fX11_addOpen l1 s6) fun x9 s10 =>
jBd (fX11_conditionsOfWay s10) fun x14 s15 =>
jBd (fX11_tries l4 x14 l2 s15) fun x17 s18 =>
jLet (s18 53 31) fun x20 =>
jLet (j32 (l4 + 1)) fun x21 =>
rec l1 x20 l3 x21 s18)
def bX11_worthOf_138 (l2 : Int) (s0 : jMem) : jO :=
if 0 ≤ l2 then (
jRet l2 s0)
else (
jRet (-2) s0)
def bX11_worthOf_108 (l2 : Int) (s0 : jMem) : jO :=
jLet (s0 53 11) fun x2 =>
if x2 = 0 then (
bX11_worthOf_138 l2 s0)
else (
jBd (fX11_isOuterHand s0) fun x4 s5 =>
if x4 = 0 then (
bX11_worthOf_138 l2 s5)
else (
jBd (fX11_tries 1001 552 l2 s5) fun x8 s9 =>
jLet (s9 53 31) fun x11 =>
bX11_worthOf_138 x11 s9))
def bX11_worthOf_77 (l2 : Int) (s0 : jMem) : jO :=
jLet (s0 53 10) fun x2 =>
if x2 = 0 then (
bX11_worthOf_108 l2 s0)
else (
jBd (fX11_isSeven s0) fun x4 s5 =>
if x4 = 0 then (
bX11_worthOf_108 l2 s5)
else (
jBd (fX11_conditionsOfSeven s5) fun x8 s9 =>
jBd (fX11_tries 1000 x8 l2 s9) fun x11 s12 =>
jLet (s12 53 31) fun x14 =>
bX11_worthOf_108 x14 s12))
def fX11_worthOf (l1 : Int) (s0 : jMem) : jO :=
jBd (fX11_isHand l1 s0) fun x2 s3 =>
if x2 = 0 then (
jRet (-1) s3)
else (
jBd (fX11_isFull l1 s3) fun x6 s7 =>
if x6 = 0 then (
jRet (-2) s7)
else (
jBd (fX11_look l1 s7) fun x10 s11 =>
jBd (fX11_findWay (-1) s11) fun x13 s14 =>
jIt (fun _ _ _ _ _ => none) (bX11_worthOf_36 bX11_worthOf_77) 1000 l1 (-1) x13 0 s14))
def gX11_worthOf (vs : List Int) (s : jMem) : jO := match vs with
  | [a0, a1] => jGd (a0 = 53) <| fX11_worthOf a1 s
  | _ => none
set_option maxRecDepth 100000 in
set_option maxHeartbeats 4000000 in
theorem obX11_worthOf_36 {E : jEnv} {Rr : Int → jMem → Prop} {k77 : Int → jMem → jO} (hk77 : ∀ (l2 : Int) (s : jMem), jHo Rr (k77 l2 s) → jGo E MX11_worthOf 3 Rr [3, 0, 1, 0, 0, 0] 77 [53, 0, l2, 0, 0, 0] ([]) s) {rec : Int → Int → Int → Int → jMem → jO} (hrec : ∀ (l1 l2 l3 l4 : Int) (s : jMem), jHo Rr (rec l1 l2 l3 l4 s) → jGo E MX11_worthOf 3 Rr [3, 1, 1, 1, 1, 0] 36 [53, l1, l2, l3, l4, 0] ([]) s) : ∀ (l1 l2 l3 l4 : Int) (s : jMem), jHo Rr (bX11_worthOf_36 k77 rec l1 l2 l3 l4 s) → jGo E MX11_worthOf 3 Rr [3, 1, 1, 1, 1, 0] 36 [53, l1, l2, l3, l4, 0] ([]) s := by
  intro l1 l2 l3 l4 s0 hF
  unfold bX11_worthOf_36 at hF
  refine ji_iload (pc := 36) l4 rfl rfl dX11_worthOf_36 (fun r1 => ?_)
  refine ji_iload_n (n := 3) (pc := 38) l3 rfl rfl rfl dX11_worthOf_38 (fun r2 => ?_)
  refine ji_icmp_ge 77 (pc := 39) r1 r2 hF dX11_worthOf_39 rfl (fun hF => ?_) (fun hF => ?_)
  · refine jg_norm [3, 0, 1, 0, 0, 0] [53, 0, l2, 0, 0, 0] rfl rfl ?_
    exact hk77 _ _ hF
  · refine ji_aload_n (n := 0) (pc := 42) 53 rfl rfl rfl dX11_worthOf_42 (fun r3 => ?_)
    refine ji_iload (pc := 43) l4 rfl rfl dX11_worthOf_43 (fun r4 => ?_)
    refine ji_callVi (pc := 45) 53 [l4] ([]) oX11_findWay wlX11_175 wmX11_findWay rfl rfl (Nat.le_of_ble_eq_true rfl) (jRaC (jRc3 rfl) (jRaC r4 jRa0)) rfl jcl_53 rfl (Nat.le_of_ble_eq_true rfl) hF dX11_worthOf_45 (fun x5 s6 r_x5 hF => ?_)
    refine ji_istore (n := 5) (pc := 48) [3, 1, 1, 1, 1, 1] [53, l1, l2, l3, l4, x5] r_x5 (Nat.le_of_ble_eq_true rfl) rfl rfl dX11_worthOf_48 ?_
    refine ji_aload_n (n := 0) (pc := 50) 53 rfl rfl rfl dX11_worthOf_50 (fun r7 => ?_)
    refine ji_iload_n (n := 1) (pc := 51) l1 rfl rfl rfl dX11_worthOf_51 (fun r8 => ?_)
    refine ji_callVv (pc := 52) 53 [l1] ([]) oX11_addOpen wlX11_197 wmX11_addOpen rfl rfl (Nat.le_of_ble_eq_true rfl) (jRaC (jRc3 rfl) (jRaC r8 jRa0)) rfl jcl_53 rfl (Nat.le_of_ble_eq_true rfl) hF dX11_worthOf_52 (fun x9 s10 hF => ?_)
    refine ji_aload_n (n := 0) (pc := 55) 53 rfl rfl rfl dX11_worthOf_55 (fun r11 => ?_)
    refine ji_iload (pc := 56) l4 rfl rfl dX11_worthOf_56 (fun r12 => ?_)
    refine ji_aload_n (n := 0) (pc := 58) 53 rfl rfl rfl dX11_worthOf_58 (fun r13 => ?_)
    refine ji_callVi (pc := 59) 53 [] (jV E 1 l4 :: jV E 3 53 :: []) oX11_conditionsOfWay wlX11_282 wmX11_conditionsOfWay rfl rfl (Nat.le_of_ble_eq_true rfl) (jRaC (jRc3 rfl) jRa0) rfl jcl_53 rfl (Nat.le_of_ble_eq_true rfl) hF dX11_worthOf_59 (fun x14 s15 r_x14 hF => ?_)
    refine ji_iload_n (n := 2) (pc := 62) l2 rfl rfl rfl dX11_worthOf_62 (fun r16 => ?_)
    refine ji_callVv (pc := 63) 53 [l4, x14, l2] ([]) oX11_tries wlX11_285 wmX11_tries rfl rfl (Nat.le_of_ble_eq_true rfl) (jRaC (jRc3 rfl) (jRaC r12 (jRaC r_x14 (jRaC r16 jRa0)))) rfl jcl_53 rfl (Nat.le_of_ble_eq_true rfl) hF dX11_worthOf_63 (fun x17 s18 hF => ?_)
    refine ji_aload_n (n := 0) (pc := 66) 53 rfl rfl rfl dX11_worthOf_66 (fun r19 => ?_)
    refine ji_getfi (pc := 67) wfX11_289 (jRc3 rfl) jcl_53 hF dX11_worthOf_67 (fun x20 r_x20 hF => ?_)
    refine ji_istore_n (n := 2) (pc := 70) [3, 1, 1, 1, 1, 1] [53, l1, x20, l3, l4, x5] rfl r_x20 (Nat.le_of_ble_eq_true rfl) rfl rfl dX11_worthOf_70 ?_
    refine ji_iinc (pc := 71) l4 (fun w => [53, l1, x20, l3, w, x5]) rfl rfl rfl (fun _ => rfl) hF dX11_worthOf_71 (fun x21 r_x21 hF => ?_)
    refine jg_goto (pc := 74) 36 dX11_worthOf_74 rfl ?_
    refine jg_norm [3, 1, 1, 1, 1, 0] [53, l1, x20, l3, x21, 0] rfl rfl ?_
    exact hrec _ _ _ _ _ hF
theorem obX11_worthOf_36W {E : jEnv} {Rr : Int → jMem → Prop} {k77 : Int → jMem → jO} (hk77 : ∀ (l2 : Int) (s : jMem), jHo Rr (k77 l2 s) → jGo E MX11_worthOf 3 Rr [3, 0, 1, 0, 0, 0] 77 [53, 0, l2, 0, 0, 0] ([]) s) : ∀ n : Nat, ∀ (l1 l2 l3 l4 : Int) (s : jMem), jHo Rr (jIt (fun _ _ _ _ _ => none) (bX11_worthOf_36 k77) n l1 l2 l3 l4 s) → jGo E MX11_worthOf 3 Rr [3, 1, 1, 1, 1, 0] 36 [53, l1, l2, l3, l4, 0] ([]) s := by
  intro n
  induction n with
  | zero => intro l1 l2 l3 l4 s hF; exact jHo_none hF
  | succ n ih => exact obX11_worthOf_36 hk77 ih

set_option maxRecDepth 100000 in
set_option maxHeartbeats 4000000 in
theorem obX11_worthOf_138 {E : jEnv} {Rr : Int → jMem → Prop} : ∀ (l2 : Int) (s : jMem), jHo Rr (bX11_worthOf_138 l2 s) → jGo E MX11_worthOf 3 Rr [0, 0, 1, 0, 0, 0] 138 [0, 0, l2, 0, 0, 0] ([]) s := by
  intro l2 s0 hF
  unfold bX11_worthOf_138 at hF
  refine ji_iload_n (n := 2) (pc := 138) l2 rfl rfl rfl dX11_worthOf_138 (fun r1 => ?_)
  refine ji_if_ge 147 (pc := 139) r1 hF dX11_worthOf_139 rfl (fun hF => ?_) (fun hF => ?_)
  · refine ji_iload_n (n := 2) (pc := 147) l2 rfl rfl rfl dX11_worthOf_147 (fun r2 => ?_)
    exact ji_reti (pc := 148) rfl r2 hF dX11_worthOf_148
  · refine jg_bipush (pc := 142) rfl dX11_worthOf_142 ?_
    refine jg_goto (pc := 144) 148 dX11_worthOf_144 rfl ?_
    exact ji_reti (pc := 148) rfl (jRc rfl) hF dX11_worthOf_148
set_option maxRecDepth 100000 in
set_option maxHeartbeats 4000000 in
theorem obX11_worthOf_108 {E : jEnv} {Rr : Int → jMem → Prop} : ∀ (l2 : Int) (s : jMem), jHo Rr (bX11_worthOf_108 l2 s) → jGo E MX11_worthOf 3 Rr [3, 0, 1, 0, 0, 0] 108 [53, 0, l2, 0, 0, 0] ([]) s := by
  intro l2 s0 hF
  unfold bX11_worthOf_108 at hF
  refine ji_aload_n (n := 0) (pc := 108) 53 rfl rfl rfl dX11_worthOf_108 (fun r1 => ?_)
  refine ji_getfz (pc := 109) wfX11_155 (jRc3 rfl) jcl_53 hF dX11_worthOf_109 (fun x2 r_x2 hF => ?_)
  refine ji_if_eq 138 (pc := 112) (jR51 r_x2) hF dX11_worthOf_112 rfl (fun hF => ?_) (fun hF => ?_)
  · refine jg_norm [0, 0, 1, 0, 0, 0] [0, 0, l2, 0, 0, 0] rfl rfl ?_
    exact obX11_worthOf_138 _ _ hF
  · refine ji_aload_n (n := 0) (pc := 115) 53 rfl rfl rfl dX11_worthOf_115 (fun r3 => ?_)
    refine ji_callVz (pc := 116) 53 [] ([]) oX11_isOuterHand wlX11_182 wmX11_isOuterHand rfl rfl (Nat.le_of_ble_eq_true rfl) (jRaC (jRc3 rfl) jRa0) rfl jcl_53 rfl (Nat.le_of_ble_eq_true rfl) hF dX11_worthOf_116 (fun x4 s5 r_x4 hF => ?_)
    refine ji_if_eq 138 (pc := 119) (jR51 r_x4) hF dX11_worthOf_119 rfl (fun hF => ?_) (fun hF => ?_)
    · refine jg_norm [0, 0, 1, 0, 0, 0] [0, 0, l2, 0, 0, 0] rfl rfl ?_
      exact obX11_worthOf_138 _ _ hF
    · refine ji_aload_n (n := 0) (pc := 122) 53 rfl rfl rfl dX11_worthOf_122 (fun r6 => ?_)
      refine jg_sipush (pc := 123) rfl dX11_worthOf_123 ?_
      refine jg_sipush (pc := 126) rfl dX11_worthOf_126 ?_
      refine ji_iload_n (n := 2) (pc := 129) l2 rfl rfl rfl dX11_worthOf_129 (fun r7 => ?_)
      refine ji_callVv (pc := 130) 53 [1001, 552, l2] ([]) oX11_tries wlX11_285 wmX11_tries rfl rfl (Nat.le_of_ble_eq_true rfl) (jRaC (jRc3 rfl) (jRaC (jRc rfl) (jRaC (jRc rfl) (jRaC r7 jRa0)))) rfl jcl_53 rfl (Nat.le_of_ble_eq_true rfl) hF dX11_worthOf_130 (fun x8 s9 hF => ?_)
      refine ji_aload_n (n := 0) (pc := 133) 53 rfl rfl rfl dX11_worthOf_133 (fun r10 => ?_)
      refine ji_getfi (pc := 134) wfX11_289 (jRc3 rfl) jcl_53 hF dX11_worthOf_134 (fun x11 r_x11 hF => ?_)
      refine ji_istore_n (n := 2) (pc := 137) [3, 0, 1, 0, 0, 0] [53, 0, x11, 0, 0, 0] rfl r_x11 (Nat.le_of_ble_eq_true rfl) rfl rfl dX11_worthOf_137 ?_
      refine jg_norm [0, 0, 1, 0, 0, 0] [0, 0, x11, 0, 0, 0] rfl rfl ?_
      exact obX11_worthOf_138 _ _ hF
set_option maxRecDepth 100000 in
set_option maxHeartbeats 4000000 in
theorem obX11_worthOf_77 {E : jEnv} {Rr : Int → jMem → Prop} : ∀ (l2 : Int) (s : jMem), jHo Rr (bX11_worthOf_77 l2 s) → jGo E MX11_worthOf 3 Rr [3, 0, 1, 0, 0, 0] 77 [53, 0, l2, 0, 0, 0] ([]) s := by
  intro l2 s0 hF
  unfold bX11_worthOf_77 at hF
  refine ji_aload_n (n := 0) (pc := 77) 53 rfl rfl rfl dX11_worthOf_77 (fun r1 => ?_)
  refine ji_getfz (pc := 78) wfX11_151 (jRc3 rfl) jcl_53 hF dX11_worthOf_78 (fun x2 r_x2 hF => ?_)
  refine ji_if_eq 108 (pc := 81) (jR51 r_x2) hF dX11_worthOf_81 rfl (fun hF => ?_) (fun hF => ?_)
  · refine jg_norm [3, 0, 1, 0, 0, 0] [53, 0, l2, 0, 0, 0] rfl rfl ?_
    exact obX11_worthOf_108 _ _ hF
  · refine ji_aload_n (n := 0) (pc := 84) 53 rfl rfl rfl dX11_worthOf_84 (fun r3 => ?_)
    refine ji_callVz (pc := 85) 53 [] ([]) oX11_isSeven wlX11_178 wmX11_isSeven rfl rfl (Nat.le_of_ble_eq_true rfl) (jRaC (jRc3 rfl) jRa0) rfl jcl_53 rfl (Nat.le_of_ble_eq_true rfl) hF dX11_worthOf_85 (fun x4 s5 r_x4 hF => ?_)
    refine ji_if_eq 108 (pc := 88) (jR51 r_x4) hF dX11_worthOf_88 rfl (fun hF => ?_) (fun hF => ?_)
    · refine jg_norm [3, 0, 1, 0, 0, 0] [53, 0, l2, 0, 0, 0] rfl rfl ?_
      exact obX11_worthOf_108 _ _ hF
    · refine ji_aload_n (n := 0) (pc := 91) 53 rfl rfl rfl dX11_worthOf_91 (fun r6 => ?_)
      refine jg_sipush (pc := 92) rfl dX11_worthOf_92 ?_
      refine ji_aload_n (n := 0) (pc := 95) 53 rfl rfl rfl dX11_worthOf_95 (fun r7 => ?_)
      refine ji_callVi (pc := 96) 53 [] (jV E 1 1000 :: jV E 3 53 :: []) oX11_conditionsOfSeven wlX11_292 wmX11_conditionsOfSeven rfl rfl (Nat.le_of_ble_eq_true rfl) (jRaC (jRc3 rfl) jRa0) rfl jcl_53 rfl (Nat.le_of_ble_eq_true rfl) hF dX11_worthOf_96 (fun x8 s9 r_x8 hF => ?_)
      refine ji_iload_n (n := 2) (pc := 99) l2 rfl rfl rfl dX11_worthOf_99 (fun r10 => ?_)
      refine ji_callVv (pc := 100) 53 [1000, x8, l2] ([]) oX11_tries wlX11_285 wmX11_tries rfl rfl (Nat.le_of_ble_eq_true rfl) (jRaC (jRc3 rfl) (jRaC (jRc rfl) (jRaC r_x8 (jRaC r10 jRa0)))) rfl jcl_53 rfl (Nat.le_of_ble_eq_true rfl) hF dX11_worthOf_100 (fun x11 s12 hF => ?_)
      refine ji_aload_n (n := 0) (pc := 103) 53 rfl rfl rfl dX11_worthOf_103 (fun r13 => ?_)
      refine ji_getfi (pc := 104) wfX11_289 (jRc3 rfl) jcl_53 hF dX11_worthOf_104 (fun x14 r_x14 hF => ?_)
      refine ji_istore_n (n := 2) (pc := 107) [3, 0, 1, 0, 0, 0] [53, 0, x14, 0, 0, 0] rfl r_x14 (Nat.le_of_ble_eq_true rfl) rfl rfl dX11_worthOf_107 ?_
      refine jg_norm [3, 0, 1, 0, 0, 0] [53, 0, x14, 0, 0, 0] rfl rfl ?_
      exact obX11_worthOf_108 _ _ hF
set_option maxRecDepth 100000 in
set_option maxHeartbeats 4000000 in
theorem oX11_worthOf : jOk MX11_worthOf [3, 1] 3 (jFn gX11_worthOf) := by
  refine jOk_fn (by decide +kernel) (Nat.le_of_ble_eq_true rfl) (by decide +kernel) (.inr (.inl rfl)) ?_
  intro E vs s0 Rr hF ha
  obtain ⟨l0, t0, rfl, r_l0, ha⟩ := jRa_ci ha
  obtain ⟨l1, t1, rfl, r_l1, ha⟩ := jRa_ci ha
  obtain rfl := jRa_ni ha
  replace hF : jHo Rr (jGd (l0 = 53) <| fX11_worthOf l1 s0) := hF
  have hG := jHo_as hF
  clear hF
  obtain ⟨rfl, hF⟩ := hG
  refine jg_norm [3, 1, 0, 0, 0, 0] [53, l1, 0, 0, 0, 0] rfl rfl ?_
  unfold fX11_worthOf at hF
  refine ji_iload_n (n := 1) (pc := 0) l1 rfl rfl rfl dX11_worthOf_0 (fun r1 => ?_)
  refine ji_callSz (pc := 1) [l1] ([]) oX11_isHand wlX11_114 wmX11_isHand rfl rfl (Nat.le_of_ble_eq_true rfl) (jRaC r1 jRa0) rfl rfl (Nat.le_of_ble_eq_true rfl) hF dX11_worthOf_1 (fun x2 s3 r_x2 hF => ?_)
  refine ji_if_ne 9 (pc := 4) (jR51 r_x2) hF dX11_worthOf_4 rfl (fun hF => ?_) (fun hF => ?_)
  · refine ji_aload_n (n := 0) (pc := 9) 53 rfl rfl rfl dX11_worthOf_9 (fun r4 => ?_)
    refine ji_iload_n (n := 1) (pc := 10) l1 rfl rfl rfl dX11_worthOf_10 (fun r5 => ?_)
    refine ji_callVz (pc := 11) 53 [l1] ([]) oX11_isFull wlX11_185 wmX11_isFull rfl rfl (Nat.le_of_ble_eq_true rfl) (jRaC (jRc3 rfl) (jRaC r5 jRa0)) rfl jcl_53 rfl (Nat.le_of_ble_eq_true rfl) hF dX11_worthOf_11 (fun x6 s7 r_x6 hF => ?_)
    refine ji_if_ne 20 (pc := 14) (jR51 r_x6) hF dX11_worthOf_14 rfl (fun hF => ?_) (fun hF => ?_)
    · refine ji_aload_n (n := 0) (pc := 20) 53 rfl rfl rfl dX11_worthOf_20 (fun r8 => ?_)
      refine ji_iload_n (n := 1) (pc := 21) l1 rfl rfl rfl dX11_worthOf_21 (fun r9 => ?_)
      refine ji_callVv (pc := 22) 53 [l1] ([]) oX11_look wlX11_188 wmX11_look rfl rfl (Nat.le_of_ble_eq_true rfl) (jRaC (jRc3 rfl) (jRaC r9 jRa0)) rfl jcl_53 rfl (Nat.le_of_ble_eq_true rfl) hF dX11_worthOf_22 (fun x10 s11 hF => ?_)
      refine ji_iconst (pc := 25) dX11_worthOf_25 ?_
      refine ji_istore_n (n := 2) (pc := 26) [3, 1, 1, 0, 0, 0] [53, l1, (-1), 0, 0, 0] rfl (jRc rfl) (Nat.le_of_ble_eq_true rfl) rfl rfl dX11_worthOf_26 ?_
      refine ji_aload_n (n := 0) (pc := 27) 53 rfl rfl rfl dX11_worthOf_27 (fun r12 => ?_)
      refine ji_iconst (pc := 28) dX11_worthOf_28 ?_
      refine ji_callVi (pc := 29) 53 [(-1)] ([]) oX11_findWay wlX11_175 wmX11_findWay rfl rfl (Nat.le_of_ble_eq_true rfl) (jRaC (jRc3 rfl) (jRaC (jRc rfl) jRa0)) rfl jcl_53 rfl (Nat.le_of_ble_eq_true rfl) hF dX11_worthOf_29 (fun x13 s14 r_x13 hF => ?_)
      refine ji_istore_n (n := 3) (pc := 32) [3, 1, 1, 1, 0, 0] [53, l1, (-1), x13, 0, 0] rfl r_x13 (Nat.le_of_ble_eq_true rfl) rfl rfl dX11_worthOf_32 ?_
      refine ji_iconst (pc := 33) dX11_worthOf_33 ?_
      refine ji_istore (n := 4) (pc := 34) [3, 1, 1, 1, 1, 0] [53, l1, (-1), x13, 0, 0] (jRc rfl) (Nat.le_of_ble_eq_true rfl) rfl rfl dX11_worthOf_34 ?_
      refine jg_norm [3, 1, 1, 1, 1, 0] [53, l1, (-1), x13, 0, 0] rfl rfl ?_
      exact obX11_worthOf_36W obX11_worthOf_77 1000 _ _ _ _ _ hF
    · refine jg_bipush (pc := 17) rfl dX11_worthOf_17 ?_
      exact ji_reti (pc := 19) rfl (jRc rfl) hF dX11_worthOf_19
  · refine ji_iconst (pc := 7) dX11_worthOf_7 ?_
    exact ji_reti (pc := 8) rfl (jRc rfl) hF dX11_worthOf_8
def fX11_worth (l1 : Int) (s0 : jMem) : jO :=
jBd (fX11_worthOf l1 s0) fun x3 s4 =>
jRet x3 s4
def gX11_worth (vs : List Int) (s : jMem) : jO := match vs with
  | [a0, a1] => jGd (a0 = 53) <| fX11_worth a1 s
  | _ => none
set_option maxRecDepth 100000 in
set_option maxHeartbeats 4000000 in
theorem oX11_worth : jOk MX11_worth [3, 1] 4 (jFn gX11_worth) := by
  refine jOk_fn (by decide +kernel) (Nat.le_of_ble_eq_true rfl) (by decide +kernel) (.inr (.inl rfl)) ?_
  intro E vs s0 Rr hF ha
  obtain ⟨l0, t0, rfl, r_l0, ha⟩ := jRa_ci ha
  obtain ⟨l1, t1, rfl, r_l1, ha⟩ := jRa_ci ha
  obtain rfl := jRa_ni ha
  replace hF : jHo Rr (jGd (l0 = 53) <| fX11_worth l1 s0) := hF
  have hG := jHo_as hF
  clear hF
  obtain ⟨rfl, hF⟩ := hG
  refine jg_norm [3, 1] [53, l1] rfl rfl ?_
  unfold fX11_worth at hF
  refine ji_aload_n (n := 0) (pc := 0) 53 rfl rfl rfl dX11_worth_0 (fun r1 => ?_)
  refine ji_iload_n (n := 1) (pc := 1) l1 rfl rfl rfl dX11_worth_1 (fun r2 => ?_)
  refine ji_callVi (pc := 2) 53 [l1] ([]) oX11_worthOf wlX11_304 wmX11_worthOf rfl rfl (Nat.le_of_ble_eq_true rfl) (jRaC (jRc3 rfl) (jRaC r2 jRa0)) rfl jcl_53 rfl (Nat.le_of_ble_eq_true rfl) hF dX11_worth_2 (fun x3 s4 r_x3 hF => ?_)
  exact ji_reti (pc := 5) rfl r_x3 hF dX11_worth_5
def fX11_by (l1 : Int) (s0 : jMem) : jO :=
jBd (fX11_worthOf l1 s0) fun x3 s4 =>
if 0 ≤ x3 then (
jLet (s4 53 29) fun x7 =>
jRet x7 s4)
else (
jRet x3 s4)
def gX11_by (vs : List Int) (s : jMem) : jO := match vs with
  | [a0, a1] => jGd (a0 = 53) <| fX11_by a1 s
  | _ => none
set_option maxRecDepth 100000 in
set_option maxHeartbeats 4000000 in
theorem oX11_by : jOk MX11_by [3, 1] 4 (jFn gX11_by) := by
  refine jOk_fn (by decide +kernel) (Nat.le_of_ble_eq_true rfl) (by decide +kernel) (.inr (.inl rfl)) ?_
  intro E vs s0 Rr hF ha
  obtain ⟨l0, t0, rfl, r_l0, ha⟩ := jRa_ci ha
  obtain ⟨l1, t1, rfl, r_l1, ha⟩ := jRa_ci ha
  obtain rfl := jRa_ni ha
  replace hF : jHo Rr (jGd (l0 = 53) <| fX11_by l1 s0) := hF
  have hG := jHo_as hF
  clear hF
  obtain ⟨rfl, hF⟩ := hG
  refine jg_norm [3, 1, 0] [53, l1, 0] rfl rfl ?_
  unfold fX11_by at hF
  refine ji_aload_n (n := 0) (pc := 0) 53 rfl rfl rfl dX11_by_0 (fun r1 => ?_)
  refine ji_iload_n (n := 1) (pc := 1) l1 rfl rfl rfl dX11_by_1 (fun r2 => ?_)
  refine ji_callVi (pc := 2) 53 [l1] ([]) oX11_worthOf wlX11_304 wmX11_worthOf rfl rfl (Nat.le_of_ble_eq_true rfl) (jRaC (jRc3 rfl) (jRaC r2 jRa0)) rfl jcl_53 rfl (Nat.le_of_ble_eq_true rfl) hF dX11_by_2 (fun x3 s4 r_x3 hF => ?_)
  refine ji_istore_n (n := 2) (pc := 5) [3, 1, 1] [53, l1, x3] rfl r_x3 (Nat.le_of_ble_eq_true rfl) rfl rfl dX11_by_5 ?_
  refine ji_iload_n (n := 2) (pc := 6) x3 rfl rfl rfl dX11_by_6 (fun r5 => ?_)
  refine ji_if_ge 14 (pc := 7) r5 hF dX11_by_7 rfl (fun hF => ?_) (fun hF => ?_)
  · refine ji_aload_n (n := 0) (pc := 14) 53 rfl rfl rfl dX11_by_14 (fun r6 => ?_)
    refine ji_getfi (pc := 15) wfX11_298 (jRc3 rfl) jcl_53 hF dX11_by_15 (fun x7 r_x7 hF => ?_)
    exact ji_reti (pc := 18) rfl r_x7 hF dX11_by_18
  · refine ji_iload_n (n := 2) (pc := 10) x3 rfl rfl rfl dX11_by_10 (fun r8 => ?_)
    refine jg_goto (pc := 11) 18 dX11_by_11 rfl ?_
    exact ji_reti (pc := 18) rfl r8 hF dX11_by_18
end

/-! ===== the functions of the class and of the reference that this law does not walk (their words: see whole) ===== -/
def fX0_kindOf (l0 : Int) (s0 : jMem) : jO :=
jGd (¬ (100 : Int) = 0) <| jLet (jdiv l0 100) fun x2 =>
jRet x2 s0
def fX0_sortOf (l0 : Int) (s0 : jMem) : jO :=
jGd (¬ (100 : Int) = 0) <| jLet (jrem l0 100) fun x2 =>
jRet x2 s0
def fX0_hasOuter (l0 : Int) (s0 : jMem) : jO :=
jBd (fX0_sortOf l0 s0) fun x2 s3 =>
jBd (fX8_isOuter x2 s3) fun x5 s6 =>
if x5 = 0 then (
jBd (fX0_kindOf l0 s6) fun x8 s9 =>
if x8 = 1 then (
jLet (j32 (x2 + 2)) fun x11 =>
jBd (fX8_isOuter x11 s9) fun x12 s13 =>
if x12 = 0 then (
jRet 0 s13)
else (
jRet 1 s13))
else (
jRet 0 s9))
else (
jRet 1 s6)
def fX9_codeAt (l1 l2 : Int) (s0 : jMem) : jO :=
jLet (j32 (5 * l1)) fun x3 =>
jLet (j32 (x3 + l2)) fun x5 =>
jGd ((0 : Int) ≤ x5 ∧ x5 < jik 20) <| jLet (s0 20 x5) fun x6 =>
jRet x6 s0
def bX9_stoodAhead_2 (rec : Int → Int → Int → jMem → jO) (l1 l2 l3 : Int) (s0 : jMem) : jO :=
if l2 ≤ l3 then (
jRet 0 s0)
else (
jBd (fX9_codeAt l1 l3 s0) fun x6 s7 =>
jBd (fX9_codeAt l1 l2 s7) fun x11 s12 =>
if x6 = x11 then (
jRet 1 s12)
else (
jLet (j32 (l3 + 1)) fun x13 =>
rec l1 l2 x13 s12))
def fX9_stoodAhead (l1 l2 : Int) (s0 : jMem) : jO :=
jIt (fun _ _ _ _ => none) (bX9_stoodAhead_2) 1000 l1 l2 1 s0
def fX6_bit (l0 l1 : Int) (s0 : jMem) : jO :=
if l1 = 0 then (
jRet 0 s0)
else (
jLet (jshl 1 l0) fun x3 =>
jRet x3 s0)
def bX9_conditionsOf_73 (k78 : Int → Int → Int → Int → Int → Int → Int → Int → Int → Int → jMem → jO) (l1 l2 l3 l5 l6 l7 l8 l9 l10 : Int) (s0 : jMem) : jO :=
k78 l1 l2 l3 l5 l6 l7 l8 l9 l10 1 s0
def bX9_conditionsOf_78 (k80 : Int → Int → Int → Int → Int → Int → Int → Int → Int → Int → jMem → jO) (l1 l2 l3 l5 l6 l7 l8 l9 l10 t0 : Int) (s0 : jMem) : jO :=
k80 l1 l2 l3 t0 l5 l6 l7 l8 l9 l10 s0
def bX9_conditionsOf_115 (k116 : Int → Int → Int → Int → Int → Int → Int → Int → Int → jMem → jO) (l1 l2 l3 l4 l6 l7 l8 l9 : Int) (s0 : jMem) : jO :=
k116 l1 l2 l3 l4 l6 l7 l8 l9 0 s0
def bX9_conditionsOf_143 (k144 : Int → Int → Int → Int → Int → Int → Int → Int → jMem → jO) (l1 l2 l3 l4 l5 l7 l8 : Int) (s0 : jMem) : jO :=
k144 l1 l2 l3 l4 l5 l7 l8 0 s0
def bX9_conditionsOf_144 (k27 : Int → Int → Int → Int → Int → Int → Int → Int → jMem → jO) (l1 l2 l3 l4 l5 l7 l8 t0 : Int) (s0 : jMem) : jO :=
jLet (j32 (l8 + 1)) fun x1 =>
k27 l1 l2 l3 l4 l5 t0 l7 x1 s0
def bX9_conditionsOf_116 (k27 : Int → Int → Int → Int → Int → Int → Int → Int → jMem → jO) (l1 l2 l3 l4 l6 l7 l8 l9 t0 : Int) (s0 : jMem) : jO :=
if l6 = 0 then (
bX9_conditionsOf_143 (bX9_conditionsOf_144 k27) l1 l2 l3 l4 t0 l7 l8 s0)
else (
jBd (fX0_sortOf l9 s0) fun x3 s4 =>
jBd (fX8_rowOf x3 s4) fun x5 s6 =>
jBd (fX8_rowOf l7 s6) fun x8 s9 =>
if x5 = x8 then (
bX9_conditionsOf_144 k27 l1 l2 l3 l4 t0 l7 l8 1 s9)
else (
bX9_conditionsOf_143 (bX9_conditionsOf_144 k27) l1 l2 l3 l4 t0 l7 l8 s9))
def bX9_conditionsOf_98 (k27 : Int → Int → Int → Int → Int → Int → Int → Int → jMem → jO) (l1 l2 l3 l4 l5 l6 l7 l8 l9 : Int) (s0 : jMem) : jO :=
if l5 = 0 then (
bX9_conditionsOf_115 (bX9_conditionsOf_116 k27) l1 l2 l3 l4 l6 l7 l8 l9 s0)
else (
jBd (fX0_hasOuter l9 s0) fun x3 s4 =>
if x3 = 0 then (
bX9_conditionsOf_115 (bX9_conditionsOf_116 k27) l1 l2 l3 l4 l6 l7 l8 l9 s4)
else (
bX9_conditionsOf_116 k27 l1 l2 l3 l4 l6 l7 l8 l9 1 s4))
def bX9_conditionsOf_80 (k27 : Int → Int → Int → Int → Int → Int → Int → Int → jMem → jO) (l1 l2 l3 l4 l5 l6 l7 l8 l9 l10 : Int) (s0 : jMem) : jO :=
if l10 = 2 then (
jLet (s0 17 3) fun x4 =>
if x4 < l8 then (
bX9_conditionsOf_98 k27 l1 l2 l3 l4 l5 l6 l7 l8 l9 s0)
else (
jLet (j32 (l3 + 1)) fun x5 =>
bX9_conditionsOf_98 k27 l1 l2 x5 l4 l5 l6 l7 l8 l9 s0))
else (
bX9_conditionsOf_98 k27 l1 l2 l3 l4 l5 l6 l7 l8 l9 s0)
def bX9_conditionsOf_27 (k152 : Int → Int → Int → Int → Int → Int → jMem → jO) (rec : Int → Int → Int → Int → Int → Int → Int → Int → jMem → jO) (l1 l2 l3 l4 l5 l6 l7 l8 : Int) (s0 : jMem) : jO :=
if 5 ≤ l8 then (
k152 l2 l3 l4 l5 l6 l7 s0)
else (
jBd (fX9_codeAt l1 l8 s0) fun x5 s6 =>
jBd (fX0_kindOf x5 s6) fun x8 s9 =>
if x8 = 1 then (
jLet (j32 (l2 + 1)) fun x11 =>
if l4 = 0 then (
jBd (fX9_stoodAhead l1 l8 s9) fun x16 s17 =>
if x16 = 0 then (
bX9_conditionsOf_78 (bX9_conditionsOf_80 rec) l1 x11 l3 l5 l6 l7 l8 x5 x8 0 s17)
else (
bX9_conditionsOf_73 (bX9_conditionsOf_78 (bX9_conditionsOf_80 rec)) l1 x11 l3 l5 l6 l7 l8 x5 x8 s17))
else (
bX9_conditionsOf_73 (bX9_conditionsOf_78 (bX9_conditionsOf_80 rec)) l1 x11 l3 l5 l6 l7 l8 x5 x8 s9))
else (
bX9_conditionsOf_80 rec l1 l2 l3 l4 l5 l6 l7 l8 x5 x8 s9))
def bX9_conditionsOf_218 (l3 l4 t0 t1 t2 : Int) (s0 : jMem) : jO :=
jBd (fX6_bit t1 t2 s0) fun x1 s2 =>
jLet (jor t0 x1) fun x3 =>
jBd (fX6_bit 6 l4 s2) fun x5 s6 =>
jLet (jor x3 x5) fun x7 =>
if l3 < 3 then (
jBd (fX6_bit 7 0 s6) fun x9 s10 =>
jLet (jor x7 x9) fun x11 =>
jRet x11 s10)
else (
jBd (fX6_bit 7 1 s6) fun x12 s13 =>
jLet (jor x7 x12) fun x14 =>
jRet x14 s13)
def bX9_conditionsOf_176 (l3 l4 l5 l6 l7 t0 t1 t2 : Int) (s0 : jMem) : jO :=
jBd (fX6_bit t1 t2 s0) fun x1 s2 =>
jLet (jor t0 x1) fun x3 =>
jBd (fX8_isOuter l7 s2) fun x5 s6 =>
jBd (fX6_bit 2 x5 s6) fun x7 s8 =>
jLet (jor x3 x7) fun x9 =>
jBd (fX6_bit 3 l5 s8) fun x11 s12 =>
jLet (jor x9 x11) fun x13 =>
jBd (fX6_bit 4 l6 s12) fun x15 s16 =>
jLet (jor x13 x15) fun x17 =>
jLet (s16 17 3) fun x19 =>
if x19 = 4 then (
bX9_conditionsOf_218 l3 l4 x17 5 1 s16)
else (
bX9_conditionsOf_218 l3 l4 x17 5 0 s16)
def bX9_conditionsOf_163 (l2 l3 l4 l5 l6 l7 t0 t1 : Int) (s0 : jMem) : jO :=
jBd (fX6_bit t0 t1 s0) fun x1 s2 =>
if l2 = 0 then (
bX9_conditionsOf_176 l3 l4 l5 l6 l7 x1 1 1 s2)
else (
bX9_conditionsOf_176 l3 l4 l5 l6 l7 x1 1 0 s2)
def bX9_conditionsOf_152 (l2 l3 l4 l5 l6 l7 : Int) (s0 : jMem) : jO :=
if l2 = 4 then (
bX9_conditionsOf_163 l2 l3 l4 l5 l6 l7 0 1 s0)
else (
bX9_conditionsOf_163 l2 l3 l4 l5 l6 l7 0 0 s0)
def fX9_conditionsOf (l1 : Int) (s0 : jMem) : jO :=
jBd (fX9_codeAt l1 0 s0) fun x3 s4 =>
jBd (fX0_sortOf x3 s4) fun x5 s6 =>
jIt (fun _ _ _ _ _ _ _ _ _ => none) (bX9_conditionsOf_27 bX9_conditionsOf_152) 1000 l1 0 0 0 1 1 x5 0 s6
def fX6_isIn (l0 l1 : Int) (s0 : jMem) : jO :=
jLet (jshr l1 l0) fun x3 =>
jLet (jand x3 1) fun x4 =>
if x4 = 1 then (
jRet 1 s0)
else (
jRet 0 s0)
def bX6_isPutOut_45 (k2 : Int → Int → Int → jMem → jO) (l1 l2 l3 : Int) (s0 : jMem) : jO :=
jLet (j32 (l3 + 1)) fun x1 =>
k2 l1 l2 x1 s0
def bX6_isPutOut_2 (rec : Int → Int → Int → jMem → jO) (l1 l2 l3 : Int) (s0 : jMem) : jO :=
jLet (s0 21 3) fun x3 =>
if x3 ≤ l3 then (
jRet 0 s0)
else (
if l3 = l1 then (
bX6_isPutOut_45 rec l1 l2 l3 s0)
else (
jGd ((0 : Int) ≤ l3 ∧ l3 < jik 24) <| jLet (s0 24 l3) fun x8 =>
jGd ((0 : Int) ≤ l1 ∧ l1 < jik 22) <| jLet (s0 22 l1) fun x11 =>
if x8 = x11 then (
jGd ((0 : Int) ≤ l3 ∧ l3 < jik 22) <| jLet (s0 22 l3) fun x14 =>
jBd (fX6_isIn x14 l2 s0) fun x16 s17 =>
if x16 = 0 then (
bX6_isPutOut_45 rec l1 l2 l3 s17)
else (
jRet 1 s17))
else (
bX6_isPutOut_45 rec l1 l2 l3 s0)))
def fX6_isPutOut (l1 l2 : Int) (s0 : jMem) : jO :=
jIt (fun _ _ _ _ => none) (bX6_isPutOut_2) 1000 l1 l2 0 s0
def bX6_sumOf_43 (k4 : Int → Int → Int → jMem → jO) (l1 l2 l3 : Int) (s0 : jMem) : jO :=
jLet (j32 (l3 + 1)) fun x1 =>
k4 l1 l2 x1 s0
def bX6_sumOf_4 (rec : Int → Int → Int → jMem → jO) (l1 l2 l3 : Int) (s0 : jMem) : jO :=
jLet (s0 21 3) fun x3 =>
if x3 ≤ l3 then (
jRet l2 s0)
else (
jGd ((0 : Int) ≤ l3 ∧ l3 < jik 22) <| jLet (s0 22 l3) fun x7 =>
jBd (fX6_isIn x7 l1 s0) fun x9 s10 =>
if x9 = 0 then (
bX6_sumOf_43 rec l1 l2 l3 s10)
else (
jBd (fX6_isPutOut l3 l1 s10) fun x14 s15 =>
if x14 = 0 then (
jGd ((0 : Int) ≤ l3 ∧ l3 < jik 23) <| jLet (s15 23 l3) fun x19 =>
jLet (j32 (l2 + x19)) fun x20 =>
bX6_sumOf_43 rec l1 x20 l3 s15)
else (
bX6_sumOf_43 rec l1 l2 l3 s15)))
def fX6_sumOf (l1 : Int) (s0 : jMem) : jO :=
jIt (fun _ _ _ _ => none) (bX6_sumOf_4) 1000 l1 0 0 s0
def fX2_consider (l1 l2 : Int) (s0 : jMem) : jO :=
jBd (fX6_sumOf l1 s0) fun x3 s4 =>
jLet (s4 16 3) fun x7 =>
if x3 ≤ x7 then (
jRet 0 s4)
else (
jLet (jU s4 16 3 x3) fun s10 =>
jLet (jU s10 16 4 l2) fun s13 =>
jLet (jU s13 16 5 l1) fun s16 =>
jRet 0 s16)
def bX2_conditionsOfSeven_39 (k40 : Int → Int → Int → Int → Int → jMem → jO) (l0 l2 l3 l4 : Int) (s0 : jMem) : jO :=
k40 l0 l2 l3 l4 0 s0
def bX2_conditionsOfSeven_58 (k63 : Int → Int → Int → Int → jMem → jO) (l0 l1 l4 : Int) (s0 : jMem) : jO :=
k63 l0 l1 l4 1 s0
def bX2_conditionsOfSeven_62 (k63 : Int → Int → Int → Int → jMem → jO) (l0 l1 l4 : Int) (s0 : jMem) : jO :=
k63 l0 l1 l4 0 s0
def bX2_conditionsOfSeven_63 (k70 : Int → Int → Int → Int → Int → jMem → jO) (l0 l1 l4 t0 : Int) (s0 : jMem) : jO :=
jBd (fX8_rowOf l4 s0) fun x2 s3 =>
k70 l0 l1 t0 x2 l4 s3
def bX2_conditionsOfSeven_40 (k70 : Int → Int → Int → Int → Int → jMem → jO) (l0 l2 l3 l4 t0 : Int) (s0 : jMem) : jO :=
if l2 = 0 then (
bX2_conditionsOfSeven_62 (bX2_conditionsOfSeven_63 k70) l0 t0 l4 s0)
else (
if l3 < 0 then (
bX2_conditionsOfSeven_58 (bX2_conditionsOfSeven_63 k70) l0 t0 l4 s0)
else (
jBd (fX8_rowOf l4 s0) fun x5 s6 =>
if l3 = x5 then (
bX2_conditionsOfSeven_58 (bX2_conditionsOfSeven_63 k70) l0 t0 l4 s6)
else (
bX2_conditionsOfSeven_62 (bX2_conditionsOfSeven_63 k70) l0 t0 l4 s6)))
def bX2_conditionsOfSeven_70 (k9 : Int → Int → Int → Int → Int → jMem → jO) (l0 l1 l2 l3 l4 : Int) (s0 : jMem) : jO :=
jLet (j32 (l4 + 1)) fun x1 =>
k9 l0 l1 l2 l3 x1 s0
def bX2_conditionsOfSeven_9 (k76 : Int → Int → jMem → jO) (rec : Int → Int → Int → Int → Int → jMem → jO) (l0 l1 l2 l3 l4 : Int) (s0 : jMem) : jO :=
if 34 ≤ l4 then (
k76 l1 l2 s0)
else (
jGd ((0 : Int) ≤ l4 ∧ l4 < jik l0) <| jLet (s0 l0 l4) fun x4 =>
if x4 ≤ 0 then (
bX2_conditionsOfSeven_70 rec l0 l1 l2 l3 l4 s0)
else (
if l1 = 0 then (
bX2_conditionsOfSeven_39 (bX2_conditionsOfSeven_40 (bX2_conditionsOfSeven_70 rec)) l0 l2 l3 l4 s0)
else (
jBd (fX8_isOuter l4 s0) fun x7 s8 =>
if x7 = 0 then (
bX2_conditionsOfSeven_39 (bX2_conditionsOfSeven_40 (bX2_conditionsOfSeven_70 rec)) l0 l2 l3 l4 s8)
else (
bX2_conditionsOfSeven_40 (bX2_conditionsOfSeven_70 rec) l0 l2 l3 l4 1 s8))))
def bX2_conditionsOfSeven_76 (l1 l2 : Int) (s0 : jMem) : jO :=
jBd (fX6_bit 2 l1 s0) fun x2 s3 =>
jBd (fX6_bit 3 l1 s3) fun x5 s6 =>
jLet (jor x2 x5) fun x7 =>
jBd (fX6_bit 4 l2 s6) fun x9 s10 =>
jLet (jor x7 x9) fun x11 =>
jBd (fX6_bit 5 1 s10) fun x12 s13 =>
jLet (jor x11 x12) fun x14 =>
jBd (fX6_bit 8 1 s13) fun x15 s16 =>
jLet (jor x14 x15) fun x17 =>
jRet x17 s16
def fX2_conditionsOfSeven (l0 : Int) (s0 : jMem) : jO :=
jIt (fun _ _ _ _ _ _ => none) (bX2_conditionsOfSeven_9 bX2_conditionsOfSeven_76) 1000 l0 1 1 (-1) 0 s0
def bX2_weigh_17 (k47 : Int → jMem → jO) (rec : Int → Int → jMem → jO) (l1 l2 : Int) (s0 : jMem) : jO :=
jLet (s0 17 4) fun x3 =>
if x3 ≤ l2 then (
k47 l1 s0)
else (
jBd (fX9_conditionsOf l2 s0) fun x7 s8 =>
jBd (fX2_consider x7 l2 s8) fun x10 s11 =>
jLet (j32 (l2 + 1)) fun x12 =>
rec l1 x12 s11)
def bX2_weigh_69 (l1 : Int) (s0 : jMem) : jO :=
jBd (fX2_isOuterOnes l1 s0) fun x3 s4 =>
if x3 = 0 then (
jRet 1 s4)
else (
jBd (fX6_bit 3 1 s4) fun x6 s7 =>
jBd (fX6_bit 5 1 s7) fun x8 s9 =>
jLet (jor x6 x8) fun x10 =>
jBd (fX6_bit 9 1 s9) fun x11 s12 =>
jLet (jor x10 x11) fun x13 =>
jBd (fX2_consider x13 1001 s12) fun x14 s15 =>
jRet 1 s15)
def bX2_weigh_47 (l1 : Int) (s0 : jMem) : jO :=
jBd (fX2_isSeven l1 s0) fun x3 s4 =>
if x3 = 0 then (
bX2_weigh_69 l1 s4)
else (
jGd (jcl l1 = 0) <| jLet (jrf l1 0) fun x8 =>
jBd (fX2_conditionsOfSeven x8 s4) fun x9 s10 =>
jBd (fX2_consider x9 1000 s10) fun x11 s12 =>
bX2_weigh_69 l1 s12)
def fX2_weigh (l1 : Int) (s0 : jMem) : jO :=
jBd (fX2_howDone l1 s0) fun x3 s4 =>
if 0 < x3 then (
jLet (jU s4 16 3 (-1)) fun s6 =>
jIt (fun _ _ _ => none) (bX2_weigh_17 bX2_weigh_47) 1000 l1 0 s6)
else (
jRet 0 s4)
def fX3_ofRow (l1 l2 l3 l4 : Int) (s0 : jMem) : jO :=
jBd (fX3_look l1 14 s0) fun x3 s4 =>
jBd (fX3_workOut l2 s4) fun x7 s8 =>
jLet (j32 (l2 * 10)) fun x11 =>
jLet (j32 (2 * l3)) fun x13 =>
jLet (j32 (x11 + x13)) fun x14 =>
jLet (j32 (x14 + l4)) fun x16 =>
jGd ((0 : Int) ≤ x16 ∧ x16 < jjk 10) <| jLet (s8 10 x16) fun x17 =>
jLet (jcmp x17 1099511627776) fun x19 =>
if x19 = 0 then (
jRet (-3) s8)
else (
jBd (fX3_tilesOf x17 s8) fun x21 s22 =>
jRet x21 s22)
def fX5_become (l0 l1 l2 : Int) (s0 : jMem) : jO :=
jGd (jcl l0 = 4) <| jLet (jU s0 l0 1 l1) fun s4 =>
jLet (jU s4 l0 2 l2) fun s7 =>
jLet (jrf l0 0) fun x9 =>
jBd (fJ7_fill_53178 x9 0 s7) fun x10 s11 =>
jRet 0 s11
def fX5_isMissing (l0 : Int) (s0 : jMem) : jO :=
jGd (jcl l0 = 4) <| jLet (s0 l0 1) fun x3 =>
if x3 = (-1) then (
jRet 1 s0)
else (
jRet 0 s0)
def fX5_reaches (l0 l1 l2 : Int) (s0 : jMem) : jO :=
if l1 < 0 then (
jRet 0 s0)
else (
if l2 < 0 then (
jRet 0 s0)
else (
jGd (jcl l0 = 4) <| jLet (s0 l0 2) fun x6 =>
jLet (j32 (x6 - l2)) fun x8 =>
if x8 < l1 then (
jRet 0 s0)
else (
jRet 1 s0)))
def bX5_keep_32 (l0 l1 t0 t1 t2 : Int) (s0 : jMem) : jO :=
jGd ((0 : Int) ≤ t1 ∧ t1 < jik t0) <| jLet (jU s0 t0 t1 t2) fun s1 =>
jGd (jcl l0 = 4) <| jLet (jrf l0 0) fun x4 =>
jGd ((0 : Int) ≤ l1 ∧ l1 < jik x4) <| jLet (s1 x4 l1) fun x6 =>
jRet x6 s1
def fX5_keep (l0 l1 l2 : Int) (s0 : jMem) : jO :=
jGd (jcl l0 = 4) <| jLet (jrf l0 0) fun x3 =>
jLet (s0 l0 1) fun x6 =>
if x6 = 0 then (
jLet (ji2b l2) fun x14 =>
bX5_keep_32 l0 l1 x3 l1 x14 s0)
else (
jLet (s0 l0 1) fun x8 =>
if x8 = 1 then (
jLet (ji2c l2) fun x12 =>
bX5_keep_32 l0 l1 x3 l1 x12 s0)
else (
jLet (ji2s l2) fun x10 =>
bX5_keep_32 l0 l1 x3 l1 x10 s0))
def fX6_isCondition (l0 : Int) (s0 : jMem) : jO :=
if l0 < 0 then (
jRet 0 s0)
else (
if 10 ≤ l0 then (
jRet 0 s0)
else (
jRet 1 s0))
def fX6_add (l1 l2 l3 : Int) (s0 : jMem) : jO :=
jLet (s0 21 3) fun x3 =>
jGd ((0 : Int) ≤ x3 ∧ x3 < jik 22) <| jLet (jU s0 22 x3 l1) fun s5 =>
jLet (s5 21 3) fun x8 =>
jGd ((0 : Int) ≤ x8 ∧ x8 < jik 23) <| jLet (jU s5 23 x8 l2) fun s10 =>
jLet (s10 21 3) fun x13 =>
jGd ((0 : Int) ≤ x13 ∧ x13 < jik 24) <| jLet (jU s10 24 x13 l3) fun s15 =>
jLet (s15 21 3) fun x17 =>
jLet (j32 (x17 + 1)) fun x18 =>
jLet (jU s15 21 3 x18) fun s19 =>
jLet (s19 21 3) fun x21 =>
jLet (j32 (x21 - 1)) fun x22 =>
jRet x22 s19
def fX10_isRack (l0 : Int) (s0 : jMem) : jO :=
if l0 < 0 then (
jRet 0 s0)
else (
if 6 ≤ l0 then (
jRet 0 s0)
else (
jRet 1 s0))
def fX10_rack (l1 l2 l3 : Int) (s0 : jMem) : jO :=
jBd (fX10_isRack l1 s0) fun x2 s3 =>
if x2 = 0 then (
jRet (-1) s3)
else (
if l2 < (-1) then (
jRet (-1) s3)
else (
if l2 ≤ 2 then (
if l2 = (-1) then (
jGd ((0 : Int) ≤ l1 ∧ l1 < jrk 1 5) <| jLet (jrf 1 l1) fun x19 =>
jGd (jcl x19 = 4) <| jBd (fX5_become x19 l2 0 s3) fun x22 s23 =>
jRet 0 s23)
else (
if 0 ≤ l3 then (
if l3 ≤ 40 then (
jGd ((0 : Int) ≤ l1 ∧ l1 < jrk 1 5) <| jLet (jrf 1 l1) fun x11 =>
jGd (jcl x11 = 4) <| jBd (fX5_become x11 l2 l3 s3) fun x15 s16 =>
jRet 0 s16)
else (
jRet (-4) s3))
else (
jRet (-13) s3)))
else (
jRet (-1) s3)))
def fX10_refusalOfPlace (l1 l2 : Int) (s0 : jMem) : jO :=
jBd (fX10_isRack l1 s0) fun x2 s3 =>
if x2 = 0 then (
jRet (-100000) s3)
else (
jGd ((0 : Int) ≤ l1 ∧ l1 < jrk 1 5) <| jLet (jrf 1 l1) fun x6 =>
jGd (jcl x6 = 4) <| jBd (fX5_isMissing x6 s3) fun x8 s9 =>
if x8 = 0 then (
if l2 < 0 then (
jRet (-100012) s9)
else (
jGd ((0 : Int) ≤ l1 ∧ l1 < jrk 1 5) <| jLet (jrf 1 l1) fun x14 =>
jGd (jcl x14 = 4) <| jLet (s9 x14 2) fun x16 =>
if l2 < x16 then (
jRet 0 s9)
else (
jRet (-100012) s9)))
else (
jRet (-100011) s9))
def fX10_place (l1 l2 l3 : Int) (s0 : jMem) : jO :=
jBd (fX10_refusalOfPlace l1 l2 s0) fun x4 s5 =>
if x4 = 0 then (
jGd ((0 : Int) ≤ l1 ∧ l1 < jrk 1 5) <| jLet (jrf 1 l1) fun x9 =>
jGd (jcl x9 = 4) <| jBd (fX5_keep x9 l2 l3 s5) fun x13 s14 =>
jRet x13 s14)
else (
jRet x4 s5)
def fX10_copy (l1 l2 l3 l4 l5 : Int) (s0 : jMem) : jO :=
jBd (fX10_isRack l1 s0) fun x2 s3 =>
if x2 = 0 then (
jRet (-1) s3)
else (
jBd (fX10_isRack l3 s3) fun x5 s6 =>
if x5 = 0 then (
jRet (-1) s6)
else (
jGd ((0 : Int) ≤ l1 ∧ l1 < jrk 1 5) <| jLet (jrf 1 l1) fun x9 =>
jGd ((0 : Int) ≤ l3 ∧ l3 < jrk 1 5) <| jLet (jrf 1 l3) fun x12 =>
jGd (jcl x9 = 4) <| jBd (fX5_isMissing x9 s6) fun x15 s16 =>
if x15 = 0 then (
jGd (jcl x12 = 4) <| jBd (fX5_isMissing x12 s16) fun x19 s20 =>
if x19 = 0 then (
jLet (s20 x9 1) fun x22 =>
jLet (s20 x12 1) fun x24 =>
if x22 = x24 then (
jBd (fX5_reaches x9 l2 l5 s20) fun x28 s29 =>
if x28 = 0 then (
jRet (-12) s29)
else (
jBd (fX5_reaches x12 l4 l5 s29) fun x33 s34 =>
if x33 = 0 then (
jRet (-12) s34)
else (
jLet (jrf x9 0) fun x36 =>
jLet (jrf x12 0) fun x39 =>
jGd ((0 : Int) ≤ l2 ∧ (0 : Int) ≤ l4 ∧ (0 : Int) ≤ l5 ∧ l2 + l5 ≤ jik x36 ∧ l4 + l5 ≤ jik x39 ∧ 0 < jik x36 ∧ 0 < jik x39) <| jLet (jCp s34 x36 l2 x39 l4 l5) fun s42 =>
jRet 0 s42)))
else (
jRet (-14) s20))
else (
jRet (-11) s20))
else (
jRet (-11) s16)))
def fX10_told (l1 l2 : Int) (s0 : jMem) : jO :=
jBd (fX10_refusalOfPlace l1 l2 s0) fun x4 s5 =>
if x4 = 0 then (
jGd ((0 : Int) ≤ l1 ∧ l1 < jrk 1 5) <| jLet (jrf 1 l1) fun x9 =>
jGd (jcl x9 = 4) <| jLet (jrf x9 0) fun x11 =>
jGd ((0 : Int) ≤ l2 ∧ l2 < jik x11) <| jLet (s5 x11 l2) fun x13 =>
jRet x13 s5)
else (
jRet x4 s5)
def bX10_unread_3 (rec : Int → Int → Int → Int → Int → jMem → jO) (l1 l2 l3 l4 l5 : Int) (s0 : jMem) : jO :=
if l4 ≤ l5 then (
jRet 0 s0)
else (
jGd (jcl l2 = 4) <| jLet (jrf l2 0) fun x5 =>
jLet (j32 (l3 + l5)) fun x8 =>
jGd ((0 : Int) ≤ x8 ∧ x8 < jik x5) <| jLet (s0 x5 x8) fun x9 =>
jGd (jcl l1 = 0) <| jBd (fX1_lose l1 x9 s0) fun x13 s14 =>
jGd ((0 : Int) ≤ x9 ∧ x9 < jik 3) <| jLet (s14 3 x9) fun x17 =>
jLet (j32 (x17 + 1)) fun x18 =>
jGd ((0 : Int) ≤ x9 ∧ x9 < jik 3) <| jLet (jU s14 3 x9 x18) fun s19 =>
jLet (j32 (l5 + 1)) fun x20 =>
rec l1 l2 l3 l4 x20 s19)
def fX10_unread (l1 l2 l3 l4 : Int) (s0 : jMem) : jO :=
jIt (fun _ _ _ _ _ _ => none) (bX10_unread_3) 1000 l1 l2 l3 l4 0 s0
def bX10_readAll_3 (k39 : Int → Int → Int → Int → Int → jMem → jO) (rec : Int → Int → Int → Int → Int → jMem → jO) (l1 l2 l3 l4 l5 : Int) (s0 : jMem) : jO :=
if l4 ≤ l5 then (
jGd (jcl l1 = 0) <| jBd (fX1_size l1 s0) fun x5 s6 =>
jRet x5 s6)
else (
jGd (jcl l2 = 4) <| jLet (jrf l2 0) fun x9 =>
jLet (j32 (l3 + l5)) fun x12 =>
jGd ((0 : Int) ≤ x12 ∧ x12 < jik x9) <| jLet (s0 x9 x12) fun x13 =>
jBd (fX8_isSort x13 s0) fun x15 s16 =>
if x15 = 0 then (
k39 l1 l2 l3 l5 x13 s16)
else (
jGd ((0 : Int) ≤ x13 ∧ x13 < jik 3) <| jLet (s16 3 x13) fun x19 =>
if x19 = 0 then (
k39 l1 l2 l3 l5 x13 s16)
else (
jGd ((0 : Int) ≤ x13 ∧ x13 < jik 3) <| jLet (s16 3 x13) fun x22 =>
jLet (j32 (x22 - 1)) fun x23 =>
jGd ((0 : Int) ≤ x13 ∧ x13 < jik 3) <| jLet (jU s16 3 x13 x23) fun s24 =>
jGd (jcl l1 = 0) <| jBd (fX1_gain l1 x13 s24) fun x28 s29 =>
jLet (j32 (l5 + 1)) fun x30 =>
rec l1 l2 l3 l4 x30 s29)))
def bX10_readAll_39 (l1 l2 l3 l5 l6 : Int) (s0 : jMem) : jO :=
jBd (fX10_unread l1 l2 l3 l5 s0) fun x6 s7 =>
jBd (fX8_isSort l6 s7) fun x9 s10 =>
if x9 = 0 then (
jRet (-15) s10)
else (
jRet (-16) s10)
def fX10_readAll (l1 l2 l3 l4 : Int) (s0 : jMem) : jO :=
jIt (fun _ _ _ _ _ _ => none) (bX10_readAll_3 bX10_readAll_39) 1000 l1 l2 l3 l4 0 s0
def fX10_read (l1 l2 l3 l4 : Int) (s0 : jMem) : jO :=
jBd (fX10_isHand l1 s0) fun x2 s3 =>
if x2 = 0 then (
jRet (-1) s3)
else (
jBd (fX10_isRack l2 s3) fun x5 s6 =>
if x5 = 0 then (
jRet (-1) s6)
else (
jGd ((0 : Int) ≤ l2 ∧ l2 < jrk 1 5) <| jLet (jrf 1 l2) fun x9 =>
jGd ((0 : Int) ≤ l1 ∧ l1 < jrk 2 6) <| jLet (jrf 2 l1) fun x12 =>
jGd (jcl x9 = 4) <| jBd (fX5_isMissing x9 s6) fun x15 s16 =>
if x15 = 0 then (
if 0 ≤ l4 then (
jBd (fX5_reaches x9 l3 l4 s16) fun x21 s22 =>
if x21 = 0 then (
jRet (-12) s22)
else (
jGd (jcl x12 = 0) <| jBd (fX1_size x12 s22) fun x25 s26 =>
jLet (j32 (x25 + l4)) fun x28 =>
if x28 ≤ 14 then (
jBd (fX10_readAll x12 x9 l3 l4 s26) fun x34 s35 =>
jRet x34 s35)
else (
jRet (-17) s26)))
else (
jRet (-13) s16))
else (
jRet (-11) s16)))
def bX10_count_56 (l3 : Int) (s0 : jMem) : jO :=
if l3 = 0 then (
jRet 0 s0)
else (
jRet 1 s0)
def bX10_count_32 (l1 l2 t0 : Int) (s0 : jMem) : jO :=
if l1 = 0 then (
jGd (0 ≤ l2 ∧ l2 ≤ 1) <| jLet (jU s0 6 0 l2) fun s9 =>
bX10_count_56 t0 s9)
else (
jGd (0 ≤ l2 ∧ l2 ≤ 1) <| jLet (jU s0 6 1 l2) fun s5 =>
bX10_count_56 t0 s5)
def bX10_count_11 (l1 l2 : Int) (s0 : jMem) : jO :=
if l1 = 0 then (
jLet (s0 6 0) fun x5 =>
bX10_count_32 l1 l2 x5 s0)
else (
jLet (s0 6 1) fun x3 =>
bX10_count_32 l1 l2 x3 s0)
def fX10_count (l1 l2 : Int) (s0 : jMem) : jO :=
if l1 = 0 then (
bX10_count_11 l1 l2 s0)
else (
if l1 = 1 then (
bX10_count_11 l1 l2 s0)
else (
jRet (-1) s0))
def fX10_ways (l1 : Int) (s0 : jMem) : jO :=
jBd (fX10_isHand l1 s0) fun x2 s3 =>
if x2 = 0 then (
jRet (-1) s3)
else (
jGd ((0 : Int) ≤ l1 ∧ l1 < jrk 2 6) <| jLet (jrf 2 l1) fun x6 =>
jGd (jcl x6 = 0) <| jBd (fX1_isFull x6 s3) fun x8 s9 =>
if x8 = 0 then (
jRet (-2) s9)
else (
jGd ((0 : Int) ≤ l1 ∧ l1 < jrk 2 6) <| jLet (jrf 2 l1) fun x13 =>
jBd (fX9_find x13 s9) fun x14 s15 =>
jLet (s15 17 4) fun x17 =>
jRet x17 s15))
def fX10_way (l1 l2 l3 : Int) (s0 : jMem) : jO :=
jBd (fX10_isHand l1 s0) fun x2 s3 =>
if x2 = 0 then (
jRet (-1) s3)
else (
if l3 < 0 then (
jRet (-1) s3)
else (
if l3 < 5 then (
jGd ((0 : Int) ≤ l1 ∧ l1 < jrk 2 6) <| jLet (jrf 2 l1) fun x8 =>
jGd (jcl x8 = 0) <| jBd (fX1_isFull x8 s3) fun x10 s11 =>
if x10 = 0 then (
jRet (-2) s11)
else (
jGd ((0 : Int) ≤ l1 ∧ l1 < jrk 2 6) <| jLet (jrf 2 l1) fun x15 =>
jBd (fX9_find x15 s11) fun x16 s17 =>
if l2 < 0 then (
jRet (-3) s17)
else (
jLet (s17 17 4) fun x21 =>
if x21 ≤ l2 then (
jRet (-3) s17)
else (
jBd (fX9_codeAt l2 l3 s17) fun x25 s26 =>
jRet x25 s26))))
else (
jRet (-1) s3)))
def fX10_helps (l1 l2 : Int) (s0 : jMem) : jO :=
jBd (fX10_isHand l1 s0) fun x2 s3 =>
if x2 = 0 then (
jRet (-1) s3)
else (
if 0 ≤ l2 then (
jGd ((0 : Int) ≤ l1 ∧ l1 < jrk 2 6) <| jLet (jrf 2 l1) fun x7 =>
jGd (jcl x7 = 0) <| jBd (fX1_rests x7 s3) fun x9 s10 =>
if x9 = 0 then (
jRet (-2) s10)
else (
jGd ((0 : Int) ≤ l1 ∧ l1 < jrk 2 6) <| jLet (jrf 2 l1) fun x14 =>
jBd (fX3_reckon x14 14 s10) fun x15 s16 =>
jBd (fX3_helper l2 s16) fun x19 s20 =>
jRet x19 s20))
else (
jRet (-1) s3))
def fX10_refusalOfThrow (l1 l2 : Int) (s0 : jMem) : jO :=
jBd (fX10_isHand l1 s0) fun x2 s3 =>
if x2 = 0 then (
jRet (-1) s3)
else (
jBd (fX8_isSort l2 s3) fun x5 s6 =>
if x5 = 0 then (
jRet (-1) s6)
else (
jGd ((0 : Int) ≤ l1 ∧ l1 < jrk 2 6) <| jLet (jrf 2 l1) fun x9 =>
jGd (jcl x9 = 0) <| jBd (fX1_isFull x9 s6) fun x11 s12 =>
if x11 = 0 then (
jRet (-2) s12)
else (
jGd ((0 : Int) ≤ l1 ∧ l1 < jrk 2 6) <| jLet (jrf 2 l1) fun x15 =>
jGd (jcl x15 = 0) <| jLet (jrf x15 0) fun x17 =>
jGd ((0 : Int) ≤ l2 ∧ l2 < jik x17) <| jLet (s12 x17 l2) fun x19 =>
if x19 = 0 then (
jRet (-2) s12)
else (
jRet 0 s12))))
def fX10_reckonWithout (l1 l2 : Int) (s0 : jMem) : jO :=
jBd (fX3_reckon l1 14 s0) fun x3 s4 =>
jBd (fX3_change l2 (-1) s4) fun x7 s8 =>
jBd (fX3_total s8) fun x10 s11 =>
jRet 0 s11
def fX10_without (l1 l2 : Int) (s0 : jMem) : jO :=
jBd (fX10_refusalOfThrow l1 l2 s0) fun x4 s5 =>
if x4 = 0 then (
jGd ((0 : Int) ≤ l1 ∧ l1 < jrk 2 6) <| jLet (jrf 2 l1) fun x10 =>
jBd (fX10_reckonWithout x10 l2 s5) fun x12 s13 =>
jLet (s13 7 12) fun x15 =>
jLet (j32 (x15 - 1)) fun x16 =>
jRet x16 s13)
else (
jRet x4 s5)
def fX10_more (l1 l2 : Int) (s0 : jMem) : jO :=
jBd (fX10_refusalOfThrow l1 l2 s0) fun x4 s5 =>
if x4 = 0 then (
jGd ((0 : Int) ≤ l1 ∧ l1 < jrk 2 6) <| jLet (jrf 2 l1) fun x10 =>
jBd (fX10_countHidden x10 s5) fun x11 s12 =>
jGd ((0 : Int) ≤ l1 ∧ l1 < jrk 2 6) <| jLet (jrf 2 l1) fun x16 =>
jBd (fX10_reckonWithout x16 l2 s12) fun x18 s19 =>
jBd (fX3_helpingOf 5 s19) fun x22 s23 =>
jRet x22 s23)
else (
jRet x4 s5)
def fX10_lack (l1 l2 l3 l4 : Int) (s0 : jMem) : jO :=
jBd (fX10_isHand l1 s0) fun x2 s3 =>
if x2 = 0 then (
jRet (-1) s3)
else (
if l2 < 0 then (
jRet (-1) s3)
else (
if 4 ≤ l2 then (
jRet (-1) s3)
else (
if l3 < 0 then (
jRet (-1) s3)
else (
if 4 < l3 then (
jRet (-1) s3)
else (
if l4 < 0 then (
jRet (-1) s3)
else (
if l4 ≤ 1 then (
jGd ((0 : Int) ≤ l1 ∧ l1 < jrk 2 6) <| jLet (jrf 2 l1) fun x13 =>
jBd (fX3_ofRow x13 l2 l3 l4 s3) fun x17 s18 =>
jRet x17 s18)
else (
jRet (-1) s3)))))))
def bX10_secondTiles_88 (k97 : Int → Int → Int → jMem → jO) (l1 l2 l3 : Int) (s0 : jMem) : jO :=
jBd (fX3_change l3 1 s0) fun x3 s4 =>
k97 l1 l2 l3 s4
def bX10_secondTiles_97 (k27 : Int → Int → Int → jMem → jO) (l1 l2 l3 : Int) (s0 : jMem) : jO :=
jLet (j32 (l3 + 1)) fun x1 =>
k27 l1 l2 x1 s0
def bX10_secondTiles_27 (k103 : Int → Int → jMem → jO) (rec : Int → Int → Int → jMem → jO) (l1 l2 l3 : Int) (s0 : jMem) : jO :=
if 34 ≤ l3 then (
k103 l1 l2 s0)
else (
jGd ((0 : Int) ≤ l3 ∧ l3 < jik 8) <| jLet (s0 8 l3) fun x4 =>
if x4 ≤ 0 then (
bX10_secondTiles_97 rec l1 l2 l3 s0)
else (
jBd (fX3_change l3 (-1) s0) fun x7 s8 =>
jBd (fX3_total s8) fun x10 s11 =>
jLet (s11 7 12) fun x13 =>
if x13 = 1 then (
jBd (fX3_helpingOf 5 s11) fun x17 s18 =>
jLet (jmax l2 x17) fun x19 =>
bX10_secondTiles_88 (bX10_secondTiles_97 rec) l1 x19 l3 s18)
else (
bX10_secondTiles_88 (bX10_secondTiles_97 rec) l1 l2 l3 s11)))
def bX10_secondTiles_103 (l1 l2 : Int) (s0 : jMem) : jO :=
jGd ((0 : Int) ≤ l1 ∧ l1 < jik 5) <| jLet (s0 5 l1) fun x3 =>
jLet (j32 (x3 + 1)) fun x4 =>
jGd ((0 : Int) ≤ l1 ∧ l1 < jik 5) <| jLet (jU s0 5 l1 x4) fun s5 =>
jRet l2 s5
def fX10_secondTiles (l1 : Int) (s0 : jMem) : jO :=
jLet (s0 7 12) fun x2 =>
if x2 ≤ 1 then (
jGd ((0 : Int) ≤ l1 ∧ l1 < jik 5) <| jLet (s0 5 l1) fun x5 =>
jLet (j32 (x5 - 1)) fun x6 =>
jGd ((0 : Int) ≤ l1 ∧ l1 < jik 5) <| jLet (jU s0 5 l1 x6) fun s7 =>
jIt (fun _ _ _ _ => none) (bX10_secondTiles_27 bX10_secondTiles_103) 1000 l1 0 0 s7)
else (
jRet 0 s0)
def bX10_odds_174 (k188 : Int → Int → Int → jMem → jO) (l3 l5 t0 t1 t2 : Int) (s0 : jMem) : jO :=
jLet (j32 (t1 * t2)) fun x1 =>
jLet (j32 (t0 + x1)) fun x2 =>
jBd (fX3_change l5 (-1) s0) fun x5 s6 =>
k188 l3 x2 l5 s6
def bX10_odds_188 (k111 : Int → Int → Int → jMem → jO) (l3 l4 l5 : Int) (s0 : jMem) : jO :=
jLet (j32 (l5 + 1)) fun x1 =>
k111 l3 l4 x1 s0
def bX10_odds_111 (rec : Int → Int → Int → jMem → jO) (l3 l4 l5 : Int) (s0 : jMem) : jO :=
if 34 ≤ l5 then (
jRet l4 s0)
else (
jGd ((0 : Int) ≤ l5 ∧ l5 < jik 5) <| jLet (s0 5 l5) fun x5 =>
if x5 ≤ 0 then (
bX10_odds_188 rec l3 l4 l5 s0)
else (
jBd (fX3_change l5 1 s0) fun x8 s9 =>
jBd (fX3_total s9) fun x11 s12 =>
jGd ((0 : Int) ≤ l5 ∧ l5 < jik 5) <| jLet (s12 5 l5) fun x16 =>
jLet (s12 7 12) fun x18 =>
if x18 = 0 then (
bX10_odds_174 (bX10_odds_188 rec) l3 l5 l4 x16 l3 s12)
else (
jBd (fX10_secondTiles l5 s12) fun x21 s22 =>
bX10_odds_174 (bX10_odds_188 rec) l3 l5 l4 x16 x21 s22)))
def fX10_odds (l1 l2 : Int) (s0 : jMem) : jO :=
jBd (fX10_isHand l1 s0) fun x2 s3 =>
if x2 = 0 then (
jRet (-1) s3)
else (
if l2 < 1 then (
jRet (-1) s3)
else (
if l2 ≤ 2 then (
jGd ((0 : Int) ≤ l1 ∧ l1 < jrk 2 6) <| jLet (jrf 2 l1) fun x8 =>
jGd (jcl x8 = 0) <| jBd (fX1_rests x8 s3) fun x10 s11 =>
if x10 = 0 then (
jRet (-2) s11)
else (
jGd ((0 : Int) ≤ l1 ∧ l1 < jrk 2 6) <| jLet (jrf 2 l1) fun x15 =>
jBd (fX10_countHidden x15 s11) fun x16 s17 =>
jLet (j32 (x16 - 1)) fun x18 =>
jGd ((0 : Int) ≤ l1 ∧ l1 < jrk 2 6) <| jLet (jrf 2 l1) fun x22 =>
jBd (fX3_reckon x22 l2 s17) fun x24 s25 =>
jLet (s25 7 12) fun x27 =>
if x27 ≤ l2 then (
if l2 = 1 then (
jBd (fX3_helpingOf 5 s25) fun x38 s39 =>
jRet x38 s39)
else (
jGd ((0 : Int) ≤ l1 ∧ l1 < jrk 2 6) <| jLet (jrf 2 l1) fun x33 =>
jBd (fX3_reckon x33 1 s25) fun x34 s35 =>
jIt (fun _ _ _ _ => none) (bX10_odds_111) 1000 x18 0 0 s35))
else (
jRet 0 s25)))
else (
jRet (-1) s3)))
def bX10_rule_34 (l1 l2 l3 : Int) (s0 : jMem) : jO :=
jLet (s0 21 3) fun x2 =>
if x2 < 20 then (
jBd (fX6_add l1 l2 l3 s0) fun x7 s8 =>
jRet x7 s8)
else (
jRet (-4) s0)
def fX10_rule (l1 l2 l3 : Int) (s0 : jMem) : jO :=
jBd (fX6_isCondition l1 s0) fun x2 s3 =>
if x2 = 0 then (
jRet (-1) s3)
else (
if l2 < 0 then (
jRet (-1) s3)
else (
if l2 ≤ 1000 then (
if l3 = (-1) then (
bX10_rule_34 l1 l2 l3 s3)
else (
jBd (fX6_isCondition l3 s3) fun x8 s9 =>
if x8 = 0 then (
jRet (-1) s9)
else (
bX10_rule_34 l1 l2 l3 s9)))
else (
jRet (-1) s3)))
def fX10_clearRules (s0 : jMem) : jO :=
jLet (s0 21 3) fun x2 =>
jLet (jU s0 21 3 0) fun s4 =>
jRet x2 s4
def fX10_worth (l1 : Int) (s0 : jMem) : jO :=
jBd (fX10_isHand l1 s0) fun x2 s3 =>
if x2 = 0 then (
jRet (-1) s3)
else (
jGd ((0 : Int) ≤ l1 ∧ l1 < jrk 2 6) <| jLet (jrf 2 l1) fun x7 =>
jBd (fX2_weigh x7 s3) fun x8 s9 =>
if x8 = 0 then (
jRet (-2) s9)
else (
jLet (s9 16 3) fun x11 =>
jRet x11 s9))
def fX10_by (l1 : Int) (s0 : jMem) : jO :=
jBd (fX10_isHand l1 s0) fun x2 s3 =>
if x2 = 0 then (
jRet (-1) s3)
else (
jGd ((0 : Int) ≤ l1 ∧ l1 < jrk 2 6) <| jLet (jrf 2 l1) fun x7 =>
jBd (fX2_weigh x7 s3) fun x8 s9 =>
if x8 = 0 then (
jRet (-2) s9)
else (
jLet (s9 16 4) fun x11 =>
jRet x11 s9))
def fX10_holds (l1 l2 : Int) (s0 : jMem) : jO :=
jBd (fX10_isHand l1 s0) fun x2 s3 =>
if x2 = 0 then (
jRet (-1) s3)
else (
jBd (fX6_isCondition l2 s3) fun x5 s6 =>
if x5 = 0 then (
jRet (-1) s6)
else (
jGd ((0 : Int) ≤ l1 ∧ l1 < jrk 2 6) <| jLet (jrf 2 l1) fun x10 =>
jBd (fX2_weigh x10 s6) fun x11 s12 =>
if x11 = 0 then (
jRet (-2) s12)
else (
jLet (s12 16 5) fun x15 =>
jBd (fX6_isIn l2 x15 s12) fun x16 s17 =>
if x16 = 0 then (
jRet 0 s17)
else (
jRet 1 s17))))
def fX11_in (l0 l2 l4 : Int) (s0 : jMem) : jO :=
jLet (jcmp l0 l2) fun x3 =>
if x3 < 0 then (
jRet 0 s0)
else (
jLet (jcmp l0 l4) fun x6 =>
if 0 < x6 then (
jRet 0 s0)
else (
jRet 1 s0))
def fX11_isHand (l0 : Int) (s0 : jMem) : jO :=
jBd (fX11_in l0 0 3 s0) fun x2 s3 =>
jRet x2 s3
def fX11_isSort (l0 : Int) (s0 : jMem) : jO :=
jBd (fX11_in l0 0 33 s0) fun x2 s3 =>
jRet x2 s3
def fX11_isRack (l0 : Int) (s0 : jMem) : jO :=
jBd (fX11_in l0 0 5 s0) fun x2 s3 =>
jRet x2 s3
def bX11_rack_72 (rec : Int → Int → jMem → jO) (l1 l4 : Int) (s0 : jMem) : jO :=
if 40 ≤ l4 then (
jRet 0 s0)
else (
jLet (j32 (40 * l1)) fun x4 =>
jLet (j32 (x4 + l4)) fun x6 =>
jGd ((0 : Int) ≤ x6 ∧ x6 < jik 62) <| jLet (jU s0 62 x6 0) fun s7 =>
jLet (j32 (l4 + 1)) fun x8 =>
rec l1 x8 s7)
def bX11_rack_68 (l1 t1 t2 : Int) (s0 : jMem) : jO :=
jGd ((0 : Int) ≤ t1 ∧ t1 < jik 61) <| jLet (jU s0 61 t1 t2) fun s1 =>
jIt (fun _ _ _ => none) (bX11_rack_72) 1000 l1 0 s1
def bX11_rack_47 (l1 l2 l3 : Int) (s0 : jMem) : jO :=
jGd ((0 : Int) ≤ l1 ∧ l1 < jik 60) <| jLet (jU s0 60 l1 l2) fun s4 =>
if 0 ≤ l2 then (
bX11_rack_68 l1 l1 l3 s4)
else (
bX11_rack_68 l1 l1 0 s4)
def bX11_rack_34 (l1 l2 l3 : Int) (s0 : jMem) : jO :=
if l2 < 0 then (
bX11_rack_47 l1 l2 l3 s0)
else (
if l3 ≤ 40 then (
bX11_rack_47 l1 l2 l3 s0)
else (
jRet (-4) s0))
def fX11_rack (l1 l2 l3 : Int) (s0 : jMem) : jO :=
jBd (fX11_isRack l1 s0) fun x2 s3 =>
if x2 = 0 then (
jRet (-1) s3)
else (
jBd (fX11_in l2 (-1) 2 s3) fun x5 s6 =>
if x5 = 0 then (
jRet (-1) s6)
else (
if l2 < 0 then (
bX11_rack_34 l1 l2 l3 s6)
else (
if 0 ≤ l3 then (
bX11_rack_34 l1 l2 l3 s6)
else (
jRet (-13) s6))))
def fX11_cut (l0 l1 : Int) (s0 : jMem) : jO :=
if l0 = 0 then (
jLet (ji2b l1) fun x8 =>
jRet x8 s0)
else (
if l0 = 1 then (
jLet (jand l1 65535) fun x6 =>
jRet x6 s0)
else (
jLet (ji2s l1) fun x4 =>
jRet x4 s0))
def fX11_place (l1 l2 l3 : Int) (s0 : jMem) : jO :=
jBd (fX11_isRack l1 s0) fun x2 s3 =>
if x2 = 0 then (
jRet (-100000) s3)
else (
jGd ((0 : Int) ≤ l1 ∧ l1 < jik 60) <| jLet (s3 60 l1) fun x6 =>
if 0 ≤ x6 then (
jGd ((0 : Int) ≤ l1 ∧ l1 < jik 61) <| jLet (s3 61 l1) fun x10 =>
jLet (j32 (x10 - 1)) fun x11 =>
jBd (fX11_in l2 0 x11 s3) fun x12 s13 =>
if x12 = 0 then (
jRet (-100012) s13)
else (
jLet (j32 (40 * l1)) fun x16 =>
jLet (j32 (x16 + l2)) fun x18 =>
jGd ((0 : Int) ≤ l1 ∧ l1 < jik 60) <| jLet (s13 60 l1) fun x21 =>
jBd (fX11_cut x21 l3 s13) fun x23 s24 =>
jGd ((0 : Int) ≤ x18 ∧ x18 < jik 62) <| jLet (jU s24 62 x18 x23) fun s25 =>
jLet (j32 (40 * l1)) fun x28 =>
jLet (j32 (x28 + l2)) fun x30 =>
jGd ((0 : Int) ≤ x30 ∧ x30 < jik 62) <| jLet (s25 62 x30) fun x31 =>
jRet x31 s25))
else (
jRet (-100011) s3))
def bX11_copy_110 (k144 : Int → Int → Int → jMem → jO) (rec : Int → Int → Int → Int → Int → Int → jMem → jO) (l1 l2 l3 l4 l5 l6 : Int) (s0 : jMem) : jO :=
if l5 ≤ l6 then (
k144 l3 l4 l5 s0)
else (
jLet (j32 (40 * l1)) fun x7 =>
jLet (j32 (x7 + l2)) fun x9 =>
jLet (j32 (x9 + l6)) fun x11 =>
jGd ((0 : Int) ≤ x11 ∧ x11 < jik 62) <| jLet (s0 62 x11) fun x12 =>
jGd ((0 : Int) ≤ l6 ∧ l6 < jik 66) <| jLet (jU s0 66 l6 x12) fun s13 =>
jLet (j32 (l6 + 1)) fun x14 =>
rec l1 l2 l3 l4 l5 x14 s13)
def bX11_copy_147 (rec : Int → Int → Int → Int → jMem → jO) (l3 l4 l5 l6 : Int) (s0 : jMem) : jO :=
if l5 ≤ l6 then (
jRet 0 s0)
else (
jLet (j32 (40 * l3)) fun x5 =>
jLet (j32 (x5 + l4)) fun x7 =>
jLet (j32 (x7 + l6)) fun x9 =>
jGd ((0 : Int) ≤ l6 ∧ l6 < jik 66) <| jLet (s0 66 l6) fun x12 =>
jGd ((0 : Int) ≤ x9 ∧ x9 < jik 62) <| jLet (jU s0 62 x9 x12) fun s13 =>
jLet (j32 (l6 + 1)) fun x14 =>
rec l3 l4 l5 x14 s13)
def bX11_copy_144 (l3 l4 l5 : Int) (s0 : jMem) : jO :=
jIt (fun _ _ _ _ _ => none) (bX11_copy_147) 1000 l3 l4 l5 0 s0
def fX11_copy (l1 l2 l3 l4 l5 : Int) (s0 : jMem) : jO :=
jBd (fX11_isRack l1 s0) fun x2 s3 =>
if x2 = 0 then (
jRet (-1) s3)
else (
jBd (fX11_isRack l3 s3) fun x5 s6 =>
if x5 = 0 then (
jRet (-1) s6)
else (
jGd ((0 : Int) ≤ l1 ∧ l1 < jik 60) <| jLet (s6 60 l1) fun x9 =>
if x9 < 0 then (
jRet (-11) s6)
else (
jGd ((0 : Int) ≤ l3 ∧ l3 < jik 60) <| jLet (s6 60 l3) fun x12 =>
if 0 ≤ x12 then (
jGd ((0 : Int) ≤ l1 ∧ l1 < jik 60) <| jLet (s6 60 l1) fun x15 =>
jGd ((0 : Int) ≤ l3 ∧ l3 < jik 60) <| jLet (s6 60 l3) fun x18 =>
if x15 = x18 then (
if l5 < 0 then (
jRet (-12) s6)
else (
if l2 < 0 then (
jRet (-12) s6)
else (
if l4 < 0 then (
jRet (-12) s6)
else (
jLet (j64 (l2 + l5)) fun x24 =>
jGd ((0 : Int) ≤ l1 ∧ l1 < jik 61) <| jLet (s6 61 l1) fun x27 =>
jLet (jcmp x24 x27) fun x28 =>
if 0 < x28 then (
jRet (-12) s6)
else (
jLet (j64 (l4 + l5)) fun x31 =>
jGd ((0 : Int) ≤ l3 ∧ l3 < jik 61) <| jLet (s6 61 l3) fun x34 =>
jLet (jcmp x31 x34) fun x35 =>
if x35 ≤ 0 then (
jIt (fun _ _ _ _ _ _ _ => none) (bX11_copy_110 bX11_copy_144) 1000 l1 l2 l3 l4 l5 0 s6)
else (
jRet (-12) s6))))))
else (
jRet (-14) s6))
else (
jRet (-11) s6))))
def fX11_told (l1 l2 : Int) (s0 : jMem) : jO :=
jBd (fX11_isRack l1 s0) fun x2 s3 =>
if x2 = 0 then (
jRet (-100000) s3)
else (
jGd ((0 : Int) ≤ l1 ∧ l1 < jik 60) <| jLet (s3 60 l1) fun x6 =>
if 0 ≤ x6 then (
jGd ((0 : Int) ≤ l1 ∧ l1 < jik 61) <| jLet (s3 61 l1) fun x10 =>
jLet (j32 (x10 - 1)) fun x11 =>
jBd (fX11_in l2 0 x11 s3) fun x12 s13 =>
if x12 = 0 then (
jRet (-100012) s13)
else (
jLet (j32 (40 * l1)) fun x16 =>
jLet (j32 (x16 + l2)) fun x18 =>
jGd ((0 : Int) ≤ x18 ∧ x18 < jik 62) <| jLet (s13 62 x18) fun x19 =>
jRet x19 s13))
else (
jRet (-100011) s3))
def bX11_heldMany_4 (rec : Int → Int → Int → jMem → jO) (l1 l2 l3 : Int) (s0 : jMem) : jO :=
if 34 ≤ l3 then (
jRet l2 s0)
else (
jLet (j32 (34 * l1)) fun x6 =>
jLet (j32 (x6 + l3)) fun x8 =>
jGd ((0 : Int) ≤ x8 ∧ x8 < jik 56) <| jLet (s0 56 x8) fun x9 =>
jLet (j32 (l2 + x9)) fun x10 =>
jLet (j32 (l3 + 1)) fun x11 =>
rec l1 x10 x11 s0)
def fX11_heldMany (l1 : Int) (s0 : jMem) : jO :=
jIt (fun _ _ _ _ => none) (bX11_heldMany_4) 1000 l1 0 0 s0
def fX11_sizeOf (l1 : Int) (s0 : jMem) : jO :=
jBd (fX11_heldMany l1 s0) fun x3 s4 =>
jGd ((0 : Int) ≤ l1 ∧ l1 < jik 58) <| jLet (s4 58 l1) fun x7 =>
jLet (j32 (3 * x7)) fun x8 =>
jLet (j32 (x3 + x8)) fun x9 =>
jRet x9 s4
def bX11_read_79 (k100 : Int → Int → Int → Int → jMem → jO) (rec : Int → Int → Int → Int → Int → jMem → jO) (l1 l2 l3 l4 l5 : Int) (s0 : jMem) : jO :=
if 34 ≤ l5 then (
k100 l1 l2 l3 l4 s0)
else (
jGd ((0 : Int) ≤ l5 ∧ l5 < jik 67) <| jLet (jU s0 67 l5 0) fun s4 =>
jLet (j32 (l5 + 1)) fun x5 =>
rec l1 l2 l3 l4 x5 s4)
def bX11_read_103 (k174 : Int → jMem → jO) (rec : Int → Int → Int → Int → Int → jMem → jO) (l1 l2 l3 l4 l5 : Int) (s0 : jMem) : jO :=
if l4 ≤ l5 then (
k174 l1 s0)
else (
jLet (j32 (40 * l2)) fun x5 =>
jLet (j32 (x5 + l3)) fun x7 =>
jLet (j32 (x7 + l5)) fun x9 =>
jGd ((0 : Int) ≤ x9 ∧ x9 < jik 62) <| jLet (s0 62 x9) fun x10 =>
jBd (fX11_isSort x10 s0) fun x12 s13 =>
if x12 = 0 then (
jRet (-15) s13)
else (
jGd ((0 : Int) ≤ x10 ∧ x10 < jik 67) <| jLet (s13 67 x10) fun x16 =>
jGd ((0 : Int) ≤ x10 ∧ x10 < jik 54) <| jLet (s13 54 x10) fun x19 =>
if x16 = x19 then (
jRet (-16) s13)
else (
jGd ((0 : Int) ≤ x10 ∧ x10 < jik 67) <| jLet (s13 67 x10) fun x22 =>
jLet (j32 (x22 + 1)) fun x23 =>
jGd ((0 : Int) ≤ x10 ∧ x10 < jik 67) <| jLet (jU s13 67 x10 x23) fun s24 =>
jLet (j32 (l5 + 1)) fun x25 =>
rec l1 l2 l3 l4 x25 s24)))
def bX11_read_177 (rec : Int → Int → jMem → jO) (l1 l5 : Int) (s0 : jMem) : jO :=
if 34 ≤ l5 then (
jBd (fX11_sizeOf l1 s0) fun x4 s5 =>
jRet x4 s5)
else (
jGd ((0 : Int) ≤ l5 ∧ l5 < jik 54) <| jLet (s0 54 l5) fun x8 =>
jGd ((0 : Int) ≤ l5 ∧ l5 < jik 67) <| jLet (s0 67 l5) fun x11 =>
jLet (j32 (x8 - x11)) fun x12 =>
jGd ((0 : Int) ≤ l5 ∧ l5 < jik 54) <| jLet (jU s0 54 l5 x12) fun s13 =>
jLet (j32 (34 * l1)) fun x16 =>
jLet (j32 (x16 + l5)) fun x18 =>
jGd ((0 : Int) ≤ x18 ∧ x18 < jik 56) <| jLet (s13 56 x18) fun x19 =>
jGd ((0 : Int) ≤ l5 ∧ l5 < jik 67) <| jLet (s13 67 l5) fun x22 =>
jLet (j32 (x19 + x22)) fun x23 =>
jGd ((0 : Int) ≤ x18 ∧ x18 < jik 56) <| jLet (jU s13 56 x18 x23) fun s24 =>
jLet (j32 (l5 + 1)) fun x25 =>
rec l1 x25 s24)
def bX11_read_174 (l1 : Int) (s0 : jMem) : jO :=
jIt (fun _ _ _ => none) (bX11_read_177) 1000 l1 0 s0
def bX11_read_100 (l1 l2 l3 l4 : Int) (s0 : jMem) : jO :=
jIt (fun _ _ _ _ _ _ => none) (bX11_read_103 bX11_read_174) 1000 l1 l2 l3 l4 0 s0
def fX11_read (l1 l2 l3 l4 : Int) (s0 : jMem) : jO :=
jBd (fX11_isHand l1 s0) fun x2 s3 =>
if x2 = 0 then (
jRet (-1) s3)
else (
jBd (fX11_isRack l2 s3) fun x5 s6 =>
if x5 = 0 then (
jRet (-1) s6)
else (
jGd ((0 : Int) ≤ l2 ∧ l2 < jik 60) <| jLet (s6 60 l2) fun x9 =>
if 0 ≤ x9 then (
if 0 ≤ l4 then (
if l3 < 0 then (
jRet (-12) s6)
else (
jLet (j64 (l3 + l4)) fun x14 =>
jGd ((0 : Int) ≤ l2 ∧ l2 < jik 61) <| jLet (s6 61 l2) fun x17 =>
jLet (jcmp x14 x17) fun x18 =>
if x18 ≤ 0 then (
jBd (fX11_sizeOf l1 s6) fun x21 s22 =>
jLet (j32 (x21 + l4)) fun x24 =>
if x24 ≤ 14 then (
jIt (fun _ _ _ _ _ _ => none) (bX11_read_79 bX11_read_100) 1000 l1 l2 l3 l4 0 s22)
else (
jRet (-17) s22))
else (
jRet (-12) s6)))
else (
jRet (-13) s6))
else (
jRet (-11) s6)))
def fX11_take (l1 l2 : Int) (s0 : jMem) : jO :=
jBd (fX11_isHand l1 s0) fun x2 s3 =>
if x2 = 0 then (
jRet (-1) s3)
else (
jBd (fX11_isSort l2 s3) fun x5 s6 =>
if x5 = 0 then (
jRet (-1) s6)
else (
jBd (fX11_sizeOf l1 s6) fun x9 s10 =>
if x9 = 14 then (
jRet (-2) s10)
else (
jGd ((0 : Int) ≤ l2 ∧ l2 < jik 54) <| jLet (s10 54 l2) fun x13 =>
if x13 = 0 then (
jRet (-16) s10)
else (
jGd ((0 : Int) ≤ l2 ∧ l2 < jik 54) <| jLet (s10 54 l2) fun x16 =>
jLet (j32 (x16 - 1)) fun x17 =>
jGd ((0 : Int) ≤ l2 ∧ l2 < jik 54) <| jLet (jU s10 54 l2 x17) fun s18 =>
jLet (j32 (34 * l1)) fun x21 =>
jLet (j32 (x21 + l2)) fun x23 =>
jGd ((0 : Int) ≤ x23 ∧ x23 < jik 56) <| jLet (s18 56 x23) fun x24 =>
jLet (j32 (x24 + 1)) fun x25 =>
jGd ((0 : Int) ≤ x23 ∧ x23 < jik 56) <| jLet (jU s18 56 x23 x25) fun s26 =>
jBd (fX11_sizeOf l1 s26) fun x29 s30 =>
jRet x29 s30))))
def fX11_seed (l1 : Int) (s0 : jMem) : jO :=
if 0 ≤ l1 then (
jLet (jU s0 53 6 l1) fun s4 =>
jRet 0 s4)
else (
jRet (-1) s0)
def bX11_wallMany_4 (rec : Int → Int → jMem → jO) (l1 l2 : Int) (s0 : jMem) : jO :=
if 34 ≤ l2 then (
jRet l1 s0)
else (
jGd ((0 : Int) ≤ l2 ∧ l2 < jik 54) <| jLet (s0 54 l2) fun x6 =>
jLet (j32 (l1 + x6)) fun x7 =>
jLet (j32 (l2 + 1)) fun x8 =>
rec x7 x8 s0)
def fX11_wallMany (s0 : jMem) : jO :=
jIt (fun _ _ _ => none) (bX11_wallMany_4) 1000 0 0 s0
def bX11_drawn_38 (k63 : Int → Int → jMem → jO) (rec : Int → Int → Int → jMem → jO) (l1 l2 l3 : Int) (s0 : jMem) : jO :=
jGd ((0 : Int) ≤ l3 ∧ l3 < jik 54) <| jLet (s0 54 l3) fun x4 =>
if l2 < x4 then (
k63 l1 l3 s0)
else (
jGd ((0 : Int) ≤ l3 ∧ l3 < jik 54) <| jLet (s0 54 l3) fun x8 =>
jLet (j32 (l2 - x8)) fun x9 =>
jLet (j32 (l3 + 1)) fun x10 =>
rec l1 x9 x10 s0)
def bX11_drawn_63 (l1 l3 : Int) (s0 : jMem) : jO :=
jGd ((0 : Int) ≤ l3 ∧ l3 < jik 54) <| jLet (s0 54 l3) fun x3 =>
jLet (j32 (x3 - 1)) fun x4 =>
jGd ((0 : Int) ≤ l3 ∧ l3 < jik 54) <| jLet (jU s0 54 l3 x4) fun s5 =>
jLet (j32 (34 * l1)) fun x8 =>
jLet (j32 (x8 + l3)) fun x10 =>
jGd ((0 : Int) ≤ x10 ∧ x10 < jik 56) <| jLet (s5 56 x10) fun x11 =>
jLet (j32 (x11 + 1)) fun x12 =>
jGd ((0 : Int) ≤ x10 ∧ x10 < jik 56) <| jLet (jU s5 56 x10 x12) fun s13 =>
jRet l3 s13
def fX11_drawn (l1 : Int) (s0 : jMem) : jO :=
jLet (s0 53 6) fun x3 =>
jLet (j64 (x3 * 48271)) fun x4 =>
jLet (j64 (x4 + 11)) fun x5 =>
jGd (¬ (2147483648 : Int) = 0) <| jLet (jreml x5 2147483648) fun x6 =>
jLet (jU s0 53 6 x6) fun s7 =>
jLet (s7 53 6) fun x9 =>
jGd (¬ (64 : Int) = 0) <| jLet (jdivl x9 64) fun x10 =>
jBd (fX11_wallMany s7) fun x12 s13 =>
jGd (¬ (x12 : Int) = 0) <| jLet (jreml x10 x12) fun x14 =>
jLet (j32 x14) fun x15 =>
jIt (fun _ _ _ _ => none) (bX11_drawn_38 bX11_drawn_63) 1000 l1 x15 0 s13
def fX11_draw (l1 : Int) (s0 : jMem) : jO :=
jBd (fX11_isHand l1 s0) fun x2 s3 =>
if x2 = 0 then (
jRet (-1) s3)
else (
jBd (fX11_sizeOf l1 s3) fun x6 s7 =>
if x6 = 14 then (
jRet (-2) s7)
else (
jBd (fX11_wallMany s7) fun x9 s10 =>
if x9 = 0 then (
jRet (-3) s10)
else (
jBd (fX11_drawn l1 s10) fun x13 s14 =>
jRet x13 s14)))
def bX11_gather_4 (rec : Int → Int → Int → jMem → jO) (l1 l2 l3 : Int) (s0 : jMem) : jO :=
if 34 ≤ l3 then (
jGd ((0 : Int) ≤ l1 ∧ l1 < jik 58) <| jLet (jU s0 58 l1 0) fun s4 =>
jRet l2 s4)
else (
jLet (j32 (34 * l1)) fun x8 =>
jLet (j32 (x8 + l3)) fun x10 =>
jGd ((0 : Int) ≤ x10 ∧ x10 < jik 56) <| jLet (s0 56 x10) fun x11 =>
jLet (j32 (34 * l1)) fun x14 =>
jLet (j32 (x14 + l3)) fun x16 =>
jGd ((0 : Int) ≤ x16 ∧ x16 < jik 57) <| jLet (s0 57 x16) fun x17 =>
jLet (j32 (x11 + x17)) fun x18 =>
jGd ((0 : Int) ≤ l3 ∧ l3 < jik 54) <| jLet (s0 54 l3) fun x21 =>
jLet (j32 (x21 + x18)) fun x23 =>
jGd ((0 : Int) ≤ l3 ∧ l3 < jik 54) <| jLet (jU s0 54 l3 x23) fun s24 =>
jLet (j32 (l2 + x18)) fun x27 =>
jLet (j32 (34 * l1)) fun x30 =>
jLet (j32 (x30 + l3)) fun x32 =>
jGd ((0 : Int) ≤ x32 ∧ x32 < jik 56) <| jLet (jU s24 56 x32 0) fun s33 =>
jLet (j32 (34 * l1)) fun x36 =>
jLet (j32 (x36 + l3)) fun x38 =>
jGd ((0 : Int) ≤ x38 ∧ x38 < jik 57) <| jLet (jU s33 57 x38 0) fun s39 =>
jLet (j32 (l3 + 1)) fun x40 =>
rec l1 x27 x40 s39)
def fX11_gather (l1 : Int) (s0 : jMem) : jO :=
jIt (fun _ _ _ _ => none) (bX11_gather_4) 1000 l1 0 0 s0
def bX11_deal_10 (k29 : Int → Int → jMem → jO) (rec : Int → Int → Int → jMem → jO) (l1 l2 l3 : Int) (s0 : jMem) : jO :=
if 4 ≤ l3 then (
k29 l1 l2 s0)
else (
jBd (fX11_gather l3 s0) fun x5 s6 =>
jLet (j32 (l2 + x5)) fun x7 =>
jLet (j32 (l3 + 1)) fun x8 =>
rec l1 x7 x8 s6)
def bX11_deal_31 (k65 : Int → Int → jMem → jO) (rec : Int → Int → Int → jMem → jO) (l1 l2 l3 : Int) (s0 : jMem) : jO :=
if 34 ≤ l3 then (
k65 l1 l2 s0)
else (
jGd ((0 : Int) ≤ l3 ∧ l3 < jik 54) <| jLet (s0 54 l3) fun x4 =>
jGd ((0 : Int) ≤ l3 ∧ l3 < jik 55) <| jLet (s0 55 l3) fun x7 =>
jLet (j32 (x4 + x7)) fun x8 =>
jGd ((0 : Int) ≤ l3 ∧ l3 < jik 54) <| jLet (jU s0 54 l3 x8) fun s9 =>
jGd ((0 : Int) ≤ l3 ∧ l3 < jik 55) <| jLet (jU s9 55 l3 0) fun s12 =>
jLet (j32 (l3 + 1)) fun x13 =>
rec l1 l2 x13 s12)
def bX11_deal_81 (k102 : Int → Int → jMem → jO) (rec : Int → Int → Int → jMem → jO) (l2 l3 l4 : Int) (s0 : jMem) : jO :=
if 13 ≤ l4 then (
k102 l2 l3 s0)
else (
jBd (fX11_drawn l3 s0) fun x5 s6 =>
jLet (j32 (l2 + x5)) fun x7 =>
jLet (j32 (l4 + 1)) fun x8 =>
rec x7 l3 x8 s6)
def bX11_deal_102 (k73 : Int → Int → jMem → jO) (l2 l3 : Int) (s0 : jMem) : jO :=
jLet (j32 (l3 + 1)) fun x1 =>
k73 l2 x1 s0
def bX11_deal_73 (rec : Int → Int → jMem → jO) (l2 l3 : Int) (s0 : jMem) : jO :=
if 4 ≤ l3 then (
jRet 0 s0)
else (
jIt (fun _ _ _ _ => none) (bX11_deal_81 (bX11_deal_102 rec)) 1000 l2 l3 0 s0)
def bX11_deal_65 (l1 l2 : Int) (s0 : jMem) : jO :=
jLet (jU s0 53 6 l1) fun s3 =>
jIt (fun _ _ _ => none) (bX11_deal_73) 1000 l2 0 s3
def bX11_deal_29 (l1 l2 : Int) (s0 : jMem) : jO :=
jIt (fun _ _ _ _ => none) (bX11_deal_31 bX11_deal_65) 1000 l1 l2 0 s0
def fX11_deal (l1 : Int) (s0 : jMem) : jO :=
if 0 ≤ l1 then (
jIt (fun _ _ _ _ => none) (bX11_deal_10 bX11_deal_29) 1000 l1 0 0 s0)
else (
jRet (-1) s0)
def fX11_discard (l1 l2 : Int) (s0 : jMem) : jO :=
jBd (fX11_isHand l1 s0) fun x2 s3 =>
if x2 = 0 then (
jRet (-1) s3)
else (
jBd (fX11_isSort l2 s3) fun x5 s6 =>
if x5 = 0 then (
jRet (-1) s6)
else (
jLet (j32 (34 * l1)) fun x9 =>
jLet (j32 (x9 + l2)) fun x11 =>
jGd ((0 : Int) ≤ x11 ∧ x11 < jik 56) <| jLet (s6 56 x11) fun x12 =>
if x12 = 0 then (
jRet (-2) s6)
else (
jLet (j32 (34 * l1)) fun x15 =>
jLet (j32 (x15 + l2)) fun x17 =>
jGd ((0 : Int) ≤ x17 ∧ x17 < jik 56) <| jLet (s6 56 x17) fun x18 =>
jLet (j32 (x18 - 1)) fun x19 =>
jGd ((0 : Int) ≤ x17 ∧ x17 < jik 56) <| jLet (jU s6 56 x17 x19) fun s20 =>
jGd ((0 : Int) ≤ l2 ∧ l2 < jik 55) <| jLet (s20 55 l2) fun x23 =>
jLet (j32 (x23 + 1)) fun x24 =>
jGd ((0 : Int) ≤ l2 ∧ l2 < jik 55) <| jLet (jU s20 55 l2 x24) fun s25 =>
jBd (fX11_sizeOf l1 s25) fun x28 s29 =>
jRet x28 s29)))
def fX11_begins (l0 : Int) (s0 : jMem) : jO :=
if 27 ≤ l0 then (
jRet 0 s0)
else (
jGd (¬ (9 : Int) = 0) <| jLet (jrem l0 9) fun x3 =>
if 7 ≤ x3 then (
jRet 0 s0)
else (
jRet 1 s0))
def fX11_within (l0 l1 : Int) (s0 : jMem) : jO :=
if l0 = 1 then (
jRet 1 s0)
else (
if l1 ≤ 0 then (
if l0 = 0 then (
jRet 2 s0)
else (
if l0 = 2 then (
jRet 3 s0)
else (
jRet 4 s0)))
else (
jRet 0 s0))
def bX11_open_97 (k98 : Int → Int → Int → Int → Int → Int → jMem → jO) (l1 l2 l3 l4 l6 : Int) (s0 : jMem) : jO :=
k98 l1 l2 l3 l4 l6 0 s0
def bX11_open_98 (k58 : Int → Int → Int → Int → Int → Int → jMem → jO) (l1 l2 l3 l4 l6 t0 : Int) (s0 : jMem) : jO :=
jLet (j32 (l6 + 1)) fun x1 =>
k58 l1 l2 l3 l4 t0 x1 s0
def bX11_open_58 (k106 : Int → Int → Int → Int → Int → jMem → jO) (rec : Int → Int → Int → Int → Int → Int → jMem → jO) (l1 l2 l3 l4 l5 l6 : Int) (s0 : jMem) : jO :=
if l4 ≤ l6 then (
k106 l1 l2 l3 l4 l5 s0)
else (
if l5 = 0 then (
bX11_open_97 (bX11_open_98 rec) l1 l2 l3 l4 l6 s0)
else (
jLet (j32 (34 * l1)) fun x6 =>
jLet (j32 (x6 + l3)) fun x8 =>
jLet (j32 (x8 + l6)) fun x10 =>
jGd ((0 : Int) ≤ x10 ∧ x10 < jik 56) <| jLet (s0 56 x10) fun x11 =>
jBd (fX11_within l2 l6 s0) fun x14 s15 =>
if x11 < x14 then (
bX11_open_97 (bX11_open_98 rec) l1 l2 l3 l4 l6 s15)
else (
bX11_open_98 rec l1 l2 l3 l4 l6 1 s15)))
def bX11_open_117 (k176 : Int → Int → Int → jMem → jO) (rec : Int → Int → Int → Int → Int → jMem → jO) (l1 l2 l3 l4 l6 : Int) (s0 : jMem) : jO :=
if l4 ≤ l6 then (
k176 l1 l2 l3 s0)
else (
jLet (j32 (34 * l1)) fun x5 =>
jLet (j32 (x5 + l3)) fun x7 =>
jLet (j32 (x7 + l6)) fun x9 =>
jGd ((0 : Int) ≤ x9 ∧ x9 < jik 56) <| jLet (s0 56 x9) fun x10 =>
jBd (fX11_within l2 l6 s0) fun x13 s14 =>
jLet (j32 (x10 - x13)) fun x15 =>
jGd ((0 : Int) ≤ x9 ∧ x9 < jik 56) <| jLet (jU s14 56 x9 x15) fun s16 =>
jLet (j32 (34 * l1)) fun x19 =>
jLet (j32 (x19 + l3)) fun x21 =>
jLet (j32 (x21 + l6)) fun x23 =>
jGd ((0 : Int) ≤ x23 ∧ x23 < jik 57) <| jLet (s16 57 x23) fun x24 =>
jBd (fX11_within l2 l6 s16) fun x27 s28 =>
jLet (j32 (x24 + x27)) fun x29 =>
jGd ((0 : Int) ≤ x23 ∧ x23 < jik 57) <| jLet (jU s28 57 x23 x29) fun s30 =>
jLet (j32 (l6 + 1)) fun x31 =>
rec l1 l2 l3 l4 x31 s30)
def bX11_open_176 (l1 l2 l3 : Int) (s0 : jMem) : jO :=
jLet (j32 (5 * l1)) fun x3 =>
jGd ((0 : Int) ≤ l1 ∧ l1 < jik 58) <| jLet (s0 58 l1) fun x6 =>
jLet (j32 (x3 + x6)) fun x7 =>
jLet (j32 (100 * l2)) fun x9 =>
jLet (j32 (x9 + l3)) fun x11 =>
jGd ((0 : Int) ≤ x7 ∧ x7 < jik 59) <| jLet (jU s0 59 x7 x11) fun s12 =>
jGd ((0 : Int) ≤ l1 ∧ l1 < jik 58) <| jLet (s12 58 l1) fun x15 =>
jLet (j32 (x15 + 1)) fun x16 =>
jGd ((0 : Int) ≤ l1 ∧ l1 < jik 58) <| jLet (jU s12 58 l1 x16) fun s17 =>
jGd ((0 : Int) ≤ l1 ∧ l1 < jik 58) <| jLet (s17 58 l1) fun x20 =>
jRet x20 s17
def bX11_open_106 (l1 l2 l3 l4 l5 : Int) (s0 : jMem) : jO :=
if l5 = 0 then (
jRet (-2) s0)
else (
jIt (fun _ _ _ _ _ _ => none) (bX11_open_117 bX11_open_176) 1000 l1 l2 l3 l4 0 s0)
def bX11_open_50 (l1 l2 l3 t0 : Int) (s0 : jMem) : jO :=
jIt (fun _ _ _ _ _ _ _ => none) (bX11_open_58 bX11_open_106) 1000 l1 l2 l3 t0 1 0 s0
def bX11_open_40 (l1 l2 l3 : Int) (s0 : jMem) : jO :=
if l2 = 1 then (
bX11_open_50 l1 l2 l3 3 s0)
else (
bX11_open_50 l1 l2 l3 1 s0)
def fX11_open (l1 l2 l3 : Int) (s0 : jMem) : jO :=
jBd (fX11_isHand l1 s0) fun x2 s3 =>
if x2 = 0 then (
jRet (-1) s3)
else (
jBd (fX11_in l2 1 3 s3) fun x5 s6 =>
if x5 = 0 then (
jRet (-1) s6)
else (
jBd (fX11_isSort l3 s6) fun x8 s9 =>
if x8 = 0 then (
jRet (-1) s9)
else (
if l2 = 1 then (
jBd (fX11_begins l3 s9) fun x12 s13 =>
if x12 = 0 then (
jRet (-1) s13)
else (
bX11_open_40 l1 l2 l3 s13))
else (
bX11_open_40 l1 l2 l3 s9))))
def fX11_clear (l1 : Int) (s0 : jMem) : jO :=
jBd (fX11_isHand l1 s0) fun x2 s3 =>
if x2 = 0 then (
jRet (-1) s3)
else (
jBd (fX11_gather l1 s3) fun x6 s7 =>
jRet x6 s7)
def fX11_tiles (l1 l2 : Int) (s0 : jMem) : jO :=
jBd (fX11_isSort l1 s0) fun x2 s3 =>
if x2 = 0 then (
jRet (-1) s3)
else (
jBd (fX11_in l2 0 9 s3) fun x5 s6 =>
if x5 = 0 then (
jRet (-1) s6)
else (
if l2 = 0 then (
jGd ((0 : Int) ≤ l1 ∧ l1 < jik 54) <| jLet (s6 54 l1) fun x29 =>
jRet x29 s6)
else (
if l2 = 1 then (
jGd ((0 : Int) ≤ l1 ∧ l1 < jik 55) <| jLet (s6 55 l1) fun x26 =>
jRet x26 s6)
else (
if 6 ≤ l2 then (
jLet (j32 (l2 - 6)) fun x12 =>
jLet (j32 (34 * x12)) fun x13 =>
jLet (j32 (x13 + l1)) fun x15 =>
jGd ((0 : Int) ≤ x15 ∧ x15 < jik 57) <| jLet (s6 57 x15) fun x16 =>
jRet x16 s6)
else (
jLet (j32 (l2 - 2)) fun x19 =>
jLet (j32 (34 * x19)) fun x20 =>
jLet (j32 (x20 + l1)) fun x22 =>
jGd ((0 : Int) ≤ x22 ∧ x22 < jik 56) <| jLet (s6 56 x22) fun x23 =>
jRet x23 s6)))))
def fX11_about (l1 l2 : Int) (s0 : jMem) : jO :=
jBd (fX11_isHand l1 s0) fun x2 s3 =>
if x2 = 0 then (
jRet (-1) s3)
else (
jBd (fX11_in l2 0 6 s3) fun x5 s6 =>
if x5 = 0 then (
jRet (-1) s6)
else (
if l2 = 0 then (
jBd (fX11_sizeOf l1 s6) fun x10 s11 =>
jRet x10 s11)
else if l2 = 1 then (
jBd (fX11_heldMany l1 s6) fun x15 s16 =>
jRet x15 s16)
else if l2 = 2 then (
jGd ((0 : Int) ≤ l1 ∧ l1 < jik 58) <| jLet (s6 58 l1) fun x20 =>
jRet x20 s6)
else (
jLet (j32 (l2 - 3)) fun x23 =>
jGd ((0 : Int) ≤ l1 ∧ l1 < jik 58) <| jLet (s6 58 l1) fun x26 =>
if x26 ≤ x23 then (
jRet (-3) s6)
else (
jLet (j32 (5 * l1)) fun x29 =>
jLet (j32 (x29 + l2)) fun x31 =>
jLet (j32 (x31 - 3)) fun x32 =>
jGd ((0 : Int) ≤ x32 ∧ x32 < jik 59) <| jLet (s6 59 x32) fun x33 =>
jRet x33 s6))))
def bX11_count_45 (l3 : Int) (s0 : jMem) : jO :=
if l3 = 0 then (
jRet 0 s0)
else (
jRet 1 s0)
def bX11_count_27 (l1 l2 t0 : Int) (s0 : jMem) : jO :=
if l1 = 0 then (
jGd (0 ≤ l2 ∧ l2 ≤ 1) <| jLet (jU s0 53 10 l2) fun s9 =>
bX11_count_45 t0 s9)
else (
jGd (0 ≤ l2 ∧ l2 ≤ 1) <| jLet (jU s0 53 11 l2) fun s5 =>
bX11_count_45 t0 s5)
def fX11_count (l1 l2 : Int) (s0 : jMem) : jO :=
jBd (fX11_in l1 0 1 s0) fun x2 s3 =>
if x2 = 0 then (
jRet (-1) s3)
else (
if l1 = 0 then (
jLet (s3 53 10) fun x8 =>
bX11_count_27 l1 l2 x8 s3)
else (
jLet (s3 53 11) fun x6 =>
bX11_count_27 l1 l2 x6 s3))
def bX11_look_2 (rec : Int → Int → jMem → jO) (l1 l2 : Int) (s0 : jMem) : jO :=
if 34 ≤ l2 then (
jGd ((0 : Int) ≤ l1 ∧ l1 < jik 58) <| jLet (s0 58 l1) fun x5 =>
jLet (jU s0 53 20 x5) fun s6 =>
jRet 0 s6)
else (
jLet (j32 (34 * l1)) fun x11 =>
jLet (j32 (x11 + l2)) fun x13 =>
jGd ((0 : Int) ≤ x13 ∧ x13 < jik 56) <| jLet (s0 56 x13) fun x14 =>
jGd ((0 : Int) ≤ l2 ∧ l2 < jik 68) <| jLet (jU s0 68 l2 x14) fun s15 =>
jLet (j32 (34 * l1)) fun x20 =>
jLet (j32 (x20 + l2)) fun x22 =>
jGd ((0 : Int) ≤ x22 ∧ x22 < jik 57) <| jLet (s15 57 x22) fun x23 =>
jGd ((0 : Int) ≤ l2 ∧ l2 < jik 69) <| jLet (jU s15 69 l2 x23) fun s24 =>
jLet (j32 (l2 + 1)) fun x25 =>
rec l1 x25 s24)
def fX11_look (l1 : Int) (s0 : jMem) : jO :=
jIt (fun _ _ _ => none) (bX11_look_2) 1000 l1 0 s0
def fX11_isOuter (l0 : Int) (s0 : jMem) : jO :=
if 26 < l0 then (
jRet 1 s0)
else (
jGd (¬ (9 : Int) = 0) <| jLet (jrem l0 9) fun x3 =>
if x3 = 0 then (
jRet 1 s0)
else (
jGd (¬ (9 : Int) = 0) <| jLet (jrem l0 9) fun x5 =>
if x5 = 8 then (
jRet 1 s0)
else (
jRet 0 s0)))
def bX11_isSeven_26 (k4 : Int → Int → jMem → jO) (l2 t0 t1 : Int) (s0 : jMem) : jO :=
jLet (j32 (t0 + t1)) fun x1 =>
jLet (j32 (l2 + 1)) fun x2 =>
k4 x1 x2 s0
def bX11_isSeven_4 (k34 : Int → jMem → jO) (rec : Int → Int → jMem → jO) (l1 l2 : Int) (s0 : jMem) : jO :=
if 34 ≤ l2 then (
k34 l1 s0)
else (
jGd ((0 : Int) ≤ l2 ∧ l2 < jik 68) <| jLet (s0 68 l2) fun x5 =>
if x5 = 2 then (
bX11_isSeven_26 rec l2 l1 1 s0)
else (
bX11_isSeven_26 rec l2 l1 0 s0))
def bX11_isSeven_34 (l1 : Int) (s0 : jMem) : jO :=
jLet (s0 53 20) fun x2 =>
if x2 = 0 then (
if l1 = 7 then (
jRet 1 s0)
else (
jRet 0 s0))
else (
jRet 0 s0)
def fX11_isSeven (s0 : jMem) : jO :=
jIt (fun _ _ _ => none) (bX11_isSeven_4 bX11_isSeven_34) 1000 0 0 s0
def bX11_isOuterHand_55 (k60 : Int → Int → Int → jMem → jO) (l1 l3 : Int) (s0 : jMem) : jO :=
k60 l1 l3 1 s0
def bX11_isOuterHand_59 (k60 : Int → Int → Int → jMem → jO) (l1 l3 : Int) (s0 : jMem) : jO :=
k60 l1 l3 0 s0
def bX11_isOuterHand_60 (k17 : Int → Int → Int → jMem → jO) (l1 l3 t0 : Int) (s0 : jMem) : jO :=
jGd ((0 : Int) ≤ l3 ∧ l3 < jik 68) <| jLet (s0 68 l3) fun x4 =>
jLet (j32 (l1 + x4)) fun x5 =>
jLet (j32 (l3 + 1)) fun x6 =>
k17 x5 t0 x6 s0
def bX11_isOuterHand_17 (k76 : Int → Int → jMem → jO) (rec : Int → Int → Int → jMem → jO) (l1 l2 l3 : Int) (s0 : jMem) : jO :=
if 34 ≤ l3 then (
k76 l1 l2 s0)
else (
if l2 = 0 then (
bX11_isOuterHand_59 (bX11_isOuterHand_60 rec) l1 l3 s0)
else (
jBd (fX11_isOuter l3 s0) fun x4 s5 =>
if x4 = 0 then (
jGd ((0 : Int) ≤ l3 ∧ l3 < jik 68) <| jLet (s5 68 l3) fun x8 =>
if x8 = 0 then (
bX11_isOuterHand_55 (bX11_isOuterHand_60 rec) l1 l3 s5)
else (
bX11_isOuterHand_59 (bX11_isOuterHand_60 rec) l1 l3 s5))
else (
jGd ((0 : Int) ≤ l3 ∧ l3 < jik 68) <| jLet (s5 68 l3) fun x11 =>
if x11 ≤ 0 then (
bX11_isOuterHand_59 (bX11_isOuterHand_60 rec) l1 l3 s5)
else (
bX11_isOuterHand_55 (bX11_isOuterHand_60 rec) l1 l3 s5))))
def bX11_isOuterHand_76 (l1 l2 : Int) (s0 : jMem) : jO :=
if l2 = 0 then (
jRet 0 s0)
else (
if l1 = 14 then (
jRet 1 s0)
else (
jRet 0 s0))
def bX11_isOuterHand_14 (l1 t0 : Int) (s0 : jMem) : jO :=
jIt (fun _ _ _ _ => none) (bX11_isOuterHand_17 bX11_isOuterHand_76) 1000 l1 t0 0 s0
def fX11_isOuterHand (s0 : jMem) : jO :=
jLet (s0 53 20) fun x2 =>
if x2 = 0 then (
bX11_isOuterHand_14 0 1 s0)
else (
bX11_isOuterHand_14 0 0 s0)
def bX11_isWay_14 (k38 : Int → Int → jMem → jO) (rec : Int → Int → Int → jMem → jO) (l1 l2 l3 : Int) (s0 : jMem) : jO :=
if 34 ≤ l3 then (
k38 l1 l2 s0)
else (
jGd ((0 : Int) ≤ l3 ∧ l3 < jik 68) <| jLet (s0 68 l3) fun x6 =>
jGd ((0 : Int) ≤ l3 ∧ l3 < jik 70) <| jLet (jU s0 70 l3 x6) fun s7 =>
jLet (j32 (l3 + 1)) fun x8 =>
rec l1 l2 x8 s7)
def bX11_isWay_74 (k97 : Int → Int → Int → Int → jMem → jO) (rec : Int → Int → Int → Int → jMem → jO) (l2 l3 l4 l5 : Int) (s0 : jMem) : jO :=
if 34 ≤ l4 then (
k97 l2 l3 l4 l5 s0)
else (
jGd ((0 : Int) ≤ l4 ∧ l4 < jik 70) <| jLet (s0 70 l4) fun x4 =>
if x4 = 0 then (
jLet (j32 (l4 + 1)) fun x5 =>
rec l2 l3 x5 l5 s0)
else (
k97 l2 l3 l4 l5 s0))
def bX11_isWay_278 (k68 : Int → Int → Int → Int → jMem → jO) (l2 l3 l4 l5 t1 t2 t3 : Int) (s0 : jMem) : jO :=
jLet (j32 (t2 * t3)) fun x1 =>
jLet (j32 (x1 + l4)) fun x3 =>
jGd ((0 : Int) ≤ t1 ∧ t1 < jik 71) <| jLet (jU s0 71 t1 x3) fun s4 =>
jLet (j32 (l5 + 1)) fun x5 =>
k68 l2 l3 l4 x5 s4
def bX11_isWay_258 (k68 : Int → Int → Int → Int → jMem → jO) (l2 l3 l4 l5 l6 : Int) (s0 : jMem) : jO :=
jLet (j32 (1 + l5)) fun x3 =>
if l6 = 0 then (
bX11_isWay_278 k68 l2 l3 l4 l5 x3 100 2 s0)
else (
bX11_isWay_278 k68 l2 l3 l4 l5 x3 100 1 s0)
def bX11_isWay_225 (k68 : Int → Int → Int → Int → jMem → jO) (l2 l3 l4 l5 l6 t1 t2 t3 : Int) (s0 : jMem) : jO :=
jLet (j32 (t2 - t3)) fun x1 =>
jGd ((0 : Int) ≤ t1 ∧ t1 < jik 70) <| jLet (jU s0 70 t1 x1) fun s2 =>
if l6 = 0 then (
bX11_isWay_258 k68 l2 l3 l4 l5 l6 s2)
else (
jLet (j32 (l4 + 1)) fun x6 =>
jGd ((0 : Int) ≤ x6 ∧ x6 < jik 70) <| jLet (s2 70 x6) fun x7 =>
jLet (j32 (x7 - 1)) fun x8 =>
jGd ((0 : Int) ≤ x6 ∧ x6 < jik 70) <| jLet (jU s2 70 x6 x8) fun s9 =>
jLet (j32 (l4 + 2)) fun x12 =>
jGd ((0 : Int) ≤ x12 ∧ x12 < jik 70) <| jLet (s9 70 x12) fun x13 =>
jLet (j32 (x13 - 1)) fun x14 =>
jGd ((0 : Int) ≤ x12 ∧ x12 < jik 70) <| jLet (jU s9 70 x12 x14) fun s15 =>
bX11_isWay_258 k68 l2 l3 l4 l5 l6 s15)
def bX11_isWay_207 (k68 : Int → Int → Int → Int → jMem → jO) (l2 l3 l4 l5 l6 : Int) (s0 : jMem) : jO :=
jGd ((0 : Int) ≤ l4 ∧ l4 < jik 70) <| jLet (s0 70 l4) fun x3 =>
if l6 = 0 then (
bX11_isWay_225 k68 l2 l3 l4 l5 l6 l4 x3 3 s0)
else (
bX11_isWay_225 k68 l2 l3 l4 l5 l6 l4 x3 1 s0)
def bX11_isWay_180 (k68 : Int → Int → Int → Int → jMem → jO) (l2 l3 l4 l5 l6 : Int) (s0 : jMem) : jO :=
if l6 = 0 then (
if l5 ≤ 0 then (
bX11_isWay_207 k68 l2 l3 l4 l5 l6 s0)
else (
jGd ((0 : Int) ≤ l5 ∧ l5 < jik 71) <| jLet (s0 71 l5) fun x5 =>
jLet (j32 (100 + l4)) fun x7 =>
if x5 = x7 then (
jRet 0 s0)
else (
bX11_isWay_207 k68 l2 l3 l4 l5 l6 s0)))
else (
bX11_isWay_207 k68 l2 l3 l4 l5 l6 s0)
def bX11_isWay_125 (k68 : Int → Int → Int → Int → jMem → jO) (l2 l3 l4 l5 t0 : Int) (s0 : jMem) : jO :=
if t0 = 0 then (
jGd ((0 : Int) ≤ l4 ∧ l4 < jik 70) <| jLet (s0 70 l4) fun x4 =>
if 3 ≤ x4 then (
bX11_isWay_180 k68 l2 l3 l4 l5 t0 s0)
else (
jRet 0 s0))
else (
jBd (fX11_begins l4 s0) fun x6 s7 =>
if x6 = 0 then (
jRet 0 s7)
else (
jLet (j32 (l4 + 1)) fun x10 =>
jGd ((0 : Int) ≤ x10 ∧ x10 < jik 70) <| jLet (s7 70 x10) fun x11 =>
if x11 = 0 then (
jRet 0 s7)
else (
jLet (j32 (l4 + 2)) fun x14 =>
jGd ((0 : Int) ≤ x14 ∧ x14 < jik 70) <| jLet (s7 70 x14) fun x15 =>
if x15 = 0 then (
jRet 0 s7)
else (
bX11_isWay_180 k68 l2 l3 l4 l5 t0 s7))))
def bX11_isWay_97 (k68 : Int → Int → Int → Int → jMem → jO) (l2 l3 l4 l5 : Int) (s0 : jMem) : jO :=
if l4 = 34 then (
jRet 0 s0)
else (
jLet (j32 (l3 - 1)) fun x4 =>
jLet (j32 (x4 - l5)) fun x6 =>
jLet (jshr l2 x6) fun x7 =>
jLet (jand x7 1) fun x8 =>
if x8 = 1 then (
bX11_isWay_125 k68 l2 l3 l4 l5 1 s0)
else (
bX11_isWay_125 k68 l2 l3 l4 l5 0 s0))
def bX11_isWay_68 (k289 : jMem → jO) (rec : Int → Int → Int → Int → jMem → jO) (l2 l3 l4 l5 : Int) (s0 : jMem) : jO :=
if l3 ≤ l5 then (
k289 s0)
else (
jIt (fun _ _ _ _ _ => none) (bX11_isWay_74 (bX11_isWay_97 rec)) 1000 l2 l3 l4 l5 s0)
def bX11_isWay_321 (k322 : Int → Int → jMem → jO) (l6 : Int) (s0 : jMem) : jO :=
k322 l6 0 s0
def bX11_isWay_322 (k295 : Int → Int → jMem → jO) (l6 t0 : Int) (s0 : jMem) : jO :=
jLet (j32 (l6 + 1)) fun x1 =>
k295 t0 x1 s0
def bX11_isWay_295 (rec : Int → Int → jMem → jO) (l5 l6 : Int) (s0 : jMem) : jO :=
if 34 ≤ l6 then (
jGd (0 ≤ l5 ∧ l5 ≤ 1) <| jRet l5 s0)
else (
if l5 = 0 then (
bX11_isWay_321 (bX11_isWay_322 rec) l6 s0)
else (
jGd ((0 : Int) ≤ l6 ∧ l6 < jik 70) <| jLet (s0 70 l6) fun x7 =>
if x7 = 0 then (
bX11_isWay_322 rec l6 1 s0)
else (
bX11_isWay_321 (bX11_isWay_322 rec) l6 s0)))
def bX11_isWay_289 (s0 : jMem) : jO :=
jIt (fun _ _ _ => none) (bX11_isWay_295) 1000 1 0 s0
def bX11_isWay_38 (l1 l2 : Int) (s0 : jMem) : jO :=
jGd ((0 : Int) ≤ l1 ∧ l1 < jik 70) <| jLet (s0 70 l1) fun x3 =>
jLet (j32 (x3 - 2)) fun x4 =>
jGd ((0 : Int) ≤ l1 ∧ l1 < jik 70) <| jLet (jU s0 70 l1 x4) fun s5 =>
jGd ((0 : Int) ≤ 0 ∧ 0 < jik 71) <| jLet (jU s5 71 0 l1) fun s8 =>
jLet (s8 53 20) fun x10 =>
jLet (j32 (4 - x10)) fun x11 =>
jIt (fun _ _ _ _ _ => none) (bX11_isWay_68 bX11_isWay_289) 1000 l2 x11 0 0 s8
def fX11_isWay (l1 l2 : Int) (s0 : jMem) : jO :=
jGd ((0 : Int) ≤ l1 ∧ l1 < jik 68) <| jLet (s0 68 l1) fun x3 =>
if 2 ≤ x3 then (
jIt (fun _ _ _ _ => none) (bX11_isWay_14 bX11_isWay_38) 1000 l1 l2 0 s0)
else (
jRet 0 s0)
def fX11_rowOf (l0 : Int) (s0 : jMem) : jO :=
jGd (¬ (9 : Int) = 0) <| jLet (jdiv l0 9) fun x2 =>
jRet x2 s0
def bX11_mayBe_45 (k82 : Int → Int → Int → Int → jMem → jO) (rec : Int → Int → Int → Int → Int → jMem → jO) (l1 l2 l3 l4 l5 : Int) (s0 : jMem) : jO :=
jLet (j32 (9 * l3)) fun x3 =>
jLet (j32 (x3 + 9)) fun x4 =>
if x4 ≤ l5 then (
k82 l1 l2 l3 l4 s0)
else (
if 34 ≤ l5 then (
k82 l1 l2 l3 l4 s0)
else (
jGd ((0 : Int) ≤ l5 ∧ l5 < jik 68) <| jLet (s0 68 l5) fun x9 =>
jLet (j32 (l4 + x9)) fun x10 =>
jLet (j32 (l5 + 1)) fun x11 =>
rec l1 l2 l3 x10 x11 s0))
def bX11_mayBe_97 (k98 : Int → Int → Int → jMem → jO) (l1 l3 : Int) (s0 : jMem) : jO :=
k98 l1 l3 0 s0
def bX11_mayBe_98 (k18 : Int → Int → Int → jMem → jO) (l1 l3 t0 : Int) (s0 : jMem) : jO :=
jLet (j32 (l3 + 1)) fun x1 =>
k18 l1 t0 x1 s0
def bX11_mayBe_82 (k18 : Int → Int → Int → jMem → jO) (l1 l2 l3 l4 : Int) (s0 : jMem) : jO :=
if l2 = 0 then (
bX11_mayBe_97 (bX11_mayBe_98 k18) l1 l3 s0)
else (
jGd (¬ (3 : Int) = 0) <| jLet (jrem l4 3) fun x3 =>
if x3 = 0 then (
bX11_mayBe_98 k18 l1 l3 1 s0)
else (
bX11_mayBe_97 (bX11_mayBe_98 k18) l1 l3 s0))
def bX11_mayBe_37 (k18 : Int → Int → Int → jMem → jO) (l1 l2 l3 t0 : Int) (s0 : jMem) : jO :=
jLet (j32 (9 * l3)) fun x2 =>
jIt (fun _ _ _ _ _ _ => none) (bX11_mayBe_45 (bX11_mayBe_82 k18)) 1000 l1 l2 l3 t0 x2 s0
def bX11_mayBe_18 (rec : Int → Int → Int → jMem → jO) (l1 l2 l3 : Int) (s0 : jMem) : jO :=
if 4 ≤ l3 then (
jGd (0 ≤ l2 ∧ l2 ≤ 1) <| jRet l2 s0)
else (
jBd (fX11_rowOf l1 s0) fun x5 s6 =>
if x5 = l3 then (
bX11_mayBe_37 rec l1 l2 l3 (-2) s6)
else (
bX11_mayBe_37 rec l1 l2 l3 0 s6))
def bX11_mayBe_15 (l1 t0 : Int) (s0 : jMem) : jO :=
jIt (fun _ _ _ _ => none) (bX11_mayBe_18) 1000 l1 t0 0 s0
def fX11_mayBe (l1 : Int) (s0 : jMem) : jO :=
jGd ((0 : Int) ≤ l1 ∧ l1 < jik 68) <| jLet (s0 68 l1) fun x3 =>
if x3 ≤ 1 then (
bX11_mayBe_15 l1 0 s0)
else (
bX11_mayBe_15 l1 1 s0)
def bX11_findWay_60 (k20 : Int → Int → Int → Int → Int → jMem → jO) (l1 l2 l3 l4 l5 : Int) (s0 : jMem) : jO :=
jLet (j32 (l5 + 1)) fun x1 =>
k20 l1 l2 l3 l4 x1 s0
def bX11_findWay_20 (k66 : Int → Int → Int → jMem → jO) (rec : Int → Int → Int → Int → Int → jMem → jO) (l1 l2 l3 l4 l5 : Int) (s0 : jMem) : jO :=
jLet (s0 53 20) fun x3 =>
jLet (j32 (4 - x3)) fun x4 =>
jLet (jshl 1 x4) fun x5 =>
if x5 ≤ l5 then (
k66 l1 l2 l3 s0)
else (
if l4 = 0 then (
k66 l1 l2 l3 s0)
else (
jBd (fX11_isWay l3 l5 s0) fun x10 s11 =>
if x10 = 0 then (
bX11_findWay_60 rec l1 l2 l3 l4 l5 s11)
else (
jLet (j32 (l2 + 1)) fun x12 =>
jLet (j32 (l1 + 1)) fun x15 =>
if x12 = x15 then (
jRet x12 s11)
else (
bX11_findWay_60 rec l1 x12 l3 l4 l5 s11))))
def bX11_findWay_66 (k4 : Int → Int → Int → jMem → jO) (l1 l2 l3 : Int) (s0 : jMem) : jO :=
jLet (j32 (l3 + 1)) fun x1 =>
k4 l1 l2 x1 s0
def bX11_findWay_4 (rec : Int → Int → Int → jMem → jO) (l1 l2 l3 : Int) (s0 : jMem) : jO :=
if 34 ≤ l3 then (
jRet l2 s0)
else (
jBd (fX11_mayBe l3 s0) fun x5 s6 =>
jIt (fun _ _ _ _ _ _ => none) (bX11_findWay_20 (bX11_findWay_66 rec)) 1000 l1 l2 l3 x5 0 s6)
def fX11_findWay (l1 : Int) (s0 : jMem) : jO :=
jIt (fun _ _ _ _ => none) (bX11_findWay_4) 1000 l1 0 0 s0
def fX11_isFull (l1 : Int) (s0 : jMem) : jO :=
jBd (fX11_sizeOf l1 s0) fun x3 s4 =>
if x3 = 14 then (
jRet 1 s4)
else (
jRet 0 s4)
def bX11_doneBy_30 (s0 : jMem) : jO :=
jLet (s0 53 11) fun x2 =>
if x2 = 0 then (
jRet 0 s0)
else (
jBd (fX11_isOuterHand s0) fun x4 s5 =>
if x4 = 0 then (
jRet 0 s5)
else (
jRet 3 s5))
def fX11_doneBy (s0 : jMem) : jO :=
jBd (fX11_findWay 0 s0) fun x2 s3 =>
if x2 ≤ 0 then (
jLet (s3 53 10) fun x5 =>
if x5 = 0 then (
bX11_doneBy_30 s3)
else (
jBd (fX11_isSeven s3) fun x7 s8 =>
if x7 = 0 then (
bX11_doneBy_30 s8)
else (
jRet 2 s8)))
else (
jRet 1 s3)
def fX11_done (l1 : Int) (s0 : jMem) : jO :=
jBd (fX11_isHand l1 s0) fun x2 s3 =>
if x2 = 0 then (
jRet (-1) s3)
else (
jBd (fX11_isFull l1 s3) fun x6 s7 =>
if x6 = 0 then (
jRet (-2) s7)
else (
jBd (fX11_look l1 s7) fun x10 s11 =>
jBd (fX11_doneBy s11) fun x13 s14 =>
jRet x13 s14))
def fX11_ways (l1 : Int) (s0 : jMem) : jO :=
jBd (fX11_isHand l1 s0) fun x2 s3 =>
if x2 = 0 then (
jRet (-1) s3)
else (
jBd (fX11_isFull l1 s3) fun x6 s7 =>
if x6 = 0 then (
jRet (-2) s7)
else (
jBd (fX11_look l1 s7) fun x10 s11 =>
jBd (fX11_findWay (-1) s11) fun x13 s14 =>
jRet x13 s14))
def bX11_addOpen_2 (rec : Int → Int → jMem → jO) (l1 l2 : Int) (s0 : jMem) : jO :=
jGd ((0 : Int) ≤ l1 ∧ l1 < jik 58) <| jLet (s0 58 l1) fun x4 =>
if x4 ≤ l2 then (
jRet 0 s0)
else (
jGd ((0 : Int) ≤ l1 ∧ l1 < jik 58) <| jLet (s0 58 l1) fun x8 =>
jLet (j32 (5 - x8)) fun x9 =>
jLet (j32 (x9 + l2)) fun x11 =>
jLet (j32 (5 * l1)) fun x14 =>
jLet (j32 (x14 + l2)) fun x16 =>
jGd ((0 : Int) ≤ x16 ∧ x16 < jik 59) <| jLet (s0 59 x16) fun x17 =>
jGd ((0 : Int) ≤ x11 ∧ x11 < jik 71) <| jLet (jU s0 71 x11 x17) fun s18 =>
jLet (j32 (l2 + 1)) fun x19 =>
rec l1 x19 s18)
def fX11_addOpen (l1 : Int) (s0 : jMem) : jO :=
jIt (fun _ _ _ => none) (bX11_addOpen_2) 1000 l1 0 s0
def fX11_way (l1 l2 l3 : Int) (s0 : jMem) : jO :=
jBd (fX11_isHand l1 s0) fun x2 s3 =>
if x2 = 0 then (
jRet (-1) s3)
else (
jBd (fX11_in l3 0 4 s3) fun x5 s6 =>
if x5 = 0 then (
jRet (-1) s6)
else (
jBd (fX11_isFull l1 s6) fun x9 s10 =>
if x9 = 0 then (
jRet (-2) s10)
else (
jBd (fX11_look l1 s10) fun x13 s14 =>
if l2 < 0 then (
jRet (-3) s14)
else (
jBd (fX11_findWay l2 s14) fun x18 s19 =>
jLet (j32 (l2 + 1)) fun x21 =>
if x18 = x21 then (
jBd (fX11_addOpen l1 s19) fun x24 s25 =>
jGd ((0 : Int) ≤ l3 ∧ l3 < jik 71) <| jLet (s25 71 l3) fun x28 =>
jRet x28 s25)
else (
jRet (-3) s19)))))
def fX11_better (l1 l2 : Int) (s0 : jMem) : jO :=
jGd ((0 : Int) ≤ l1 ∧ l1 < jik 73) <| jLet (s0 73 l1) fun x6 =>
if x6 ≤ l2 then (
jGd ((0 : Int) ≤ l1 ∧ l1 < jik 73) <| jLet (s0 73 l1) fun x9 =>
jGd ((0 : Int) ≤ l1 ∧ l1 < jik 73) <| jLet (jU s0 73 l1 x9) fun s10 =>
jRet 0 s10)
else (
jGd ((0 : Int) ≤ l1 ∧ l1 < jik 73) <| jLet (jU s0 73 l1 l2) fun s12 =>
jRet 0 s12)
def bX11_move_2 (rec : Int → jMem → jO) (l1 : Int) (s0 : jMem) : jO :=
if 250 ≤ l1 then (
jRet 0 s0)
else (
jGd ((0 : Int) ≤ l1 ∧ l1 < jik 73) <| jLet (s0 73 l1) fun x6 =>
jGd ((0 : Int) ≤ l1 ∧ l1 < jik 72) <| jLet (jU s0 72 l1 x6) fun s7 =>
jGd ((0 : Int) ≤ l1 ∧ l1 < jik 73) <| jLet (jU s7 73 l1 99) fun s10 =>
jLet (j32 (l1 + 1)) fun x11 =>
rec x11 s10)
def fX11_move (s0 : jMem) : jO :=
jIt (fun _ _ => none) (bX11_move_2) 1000 0 s0
def bX11_step_113 (k151 : Int → Int → Int → Int → Int → Int → Int → Int → Int → Int → jMem → jO) (l1 l2 l3 l4 l5 l6 l7 l8 l9 l10 t0 : Int) (s0 : jMem) : jO :=
jLet (j32 (50 * l8)) fun x3 =>
jLet (j32 (10 * l2)) fun x5 =>
jLet (j32 (x3 + x5)) fun x6 =>
jLet (j32 (l4 + l8)) fun x9 =>
jLet (j32 (x9 + l9)) fun x11 =>
jLet (j32 (2 * x11)) fun x12 =>
jLet (j32 (x6 + x12)) fun x13 =>
jLet (j32 (x13 + l5)) fun x15 =>
jLet (j32 (x15 + l10)) fun x17 =>
jLet (j32 (l7 + t0)) fun x20 =>
jBd (fX11_better x17 x20 s0) fun x21 s22 =>
k151 l1 l2 l3 l4 l5 l6 l7 l8 l9 l10 s22
def bX11_step_151 (k43 : Int → Int → Int → Int → Int → Int → Int → Int → Int → Int → jMem → jO) (l1 l2 l3 l4 l5 l6 l7 l8 l9 l10 : Int) (s0 : jMem) : jO :=
jLet (j32 (l10 + 1)) fun x1 =>
k43 l1 l2 l3 l4 l5 l6 l7 l8 l9 x1 s0
def bX11_step_43 (k157 : Int → Int → Int → Int → Int → Int → Int → Int → Int → jMem → jO) (rec : Int → Int → Int → Int → Int → Int → Int → Int → Int → Int → jMem → jO) (l1 l2 l3 l4 l5 l6 l7 l8 l9 l10 : Int) (s0 : jMem) : jO :=
if 2 ≤ l10 then (
k157 l1 l2 l3 l4 l5 l6 l7 l8 l9 s0)
else (
jLet (j32 (l5 + l10)) fun x4 =>
if 2 ≤ x4 then (
k157 l1 l2 l3 l4 l5 l6 l7 l8 l9 s0)
else (
jLet (j32 (l2 + l3)) fun x7 =>
jLet (j32 (x7 + l8)) fun x9 =>
jLet (j32 (3 * l9)) fun x11 =>
jLet (j32 (x9 + x11)) fun x12 =>
jLet (j32 (2 * l10)) fun x14 =>
jLet (j32 (x12 + x14)) fun x15 =>
jGd ((0 : Int) ≤ l1 ∧ l1 < jik 69) <| jLet (s0 69 l1) fun x19 =>
jLet (j32 (x15 + x19)) fun x20 =>
if 4 < x20 then (
bX11_step_151 rec l1 l2 l3 l4 l5 l6 l7 l8 l9 l10 s0)
else (
jGd ((0 : Int) ≤ l1 ∧ l1 < jik 68) <| jLet (s0 68 l1) fun x24 =>
if x15 ≤ x24 then (
bX11_step_113 (bX11_step_151 rec) l1 l2 l3 l4 l5 l6 l7 l8 l9 l10 0 s0)
else (
jGd ((0 : Int) ≤ l1 ∧ l1 < jik 68) <| jLet (s0 68 l1) fun x28 =>
jLet (j32 (x15 - x28)) fun x29 =>
bX11_step_113 (bX11_step_151 rec) l1 l2 l3 l4 l5 l6 l7 l8 l9 l10 x29 s0))))
def bX11_step_157 (k22 : Int → Int → Int → Int → Int → Int → Int → Int → Int → jMem → jO) (l1 l2 l3 l4 l5 l6 l7 l8 l9 : Int) (s0 : jMem) : jO :=
jLet (j32 (l9 + 1)) fun x1 =>
k22 l1 l2 l3 l4 l5 l6 l7 l8 x1 s0
def bX11_step_22 (k163 : Int → Int → Int → Int → Int → Int → Int → Int → jMem → jO) (rec : Int → Int → Int → Int → Int → Int → Int → Int → Int → jMem → jO) (l1 l2 l3 l4 l5 l6 l7 l8 l9 : Int) (s0 : jMem) : jO :=
if 2 ≤ l9 then (
k163 l1 l2 l3 l4 l5 l6 l7 l8 s0)
else (
jLet (j32 (l4 + l8)) fun x4 =>
jLet (j32 (x4 + l9)) fun x6 =>
if 5 ≤ x6 then (
k163 l1 l2 l3 l4 l5 l6 l7 l8 s0)
else (
jIt (fun _ _ _ _ _ _ _ _ _ _ _ => none) (bX11_step_43 (bX11_step_157 rec)) 1000 l1 l2 l3 l4 l5 l6 l7 l8 l9 0 s0))
def bX11_step_163 (k3 : Int → Int → Int → Int → Int → Int → Int → Int → jMem → jO) (l1 l2 l3 l4 l5 l6 l7 l8 : Int) (s0 : jMem) : jO :=
jLet (j32 (l8 + 1)) fun x1 =>
k3 l1 l2 l3 l4 l5 l6 l7 x1 s0
def bX11_step_3 (rec : Int → Int → Int → Int → Int → Int → Int → Int → jMem → jO) (l1 l2 l3 l4 l5 l6 l7 l8 : Int) (s0 : jMem) : jO :=
if l6 < l8 then (
jRet 0 s0)
else (
jLet (j32 (l4 + l8)) fun x5 =>
if 5 ≤ x5 then (
jRet 0 s0)
else (
jIt (fun _ _ _ _ _ _ _ _ _ _ => none) (bX11_step_22 (bX11_step_163 rec)) 1000 l1 l2 l3 l4 l5 l6 l7 l8 0 s0))
def fX11_step (l1 l2 l3 l4 l5 l6 l7 : Int) (s0 : jMem) : jO :=
jIt (fun _ _ _ _ _ _ _ _ _ => none) (bX11_step_3) 1000 l1 l2 l3 l4 l5 l6 l7 0 s0
def bX11_layLacks_2 (k23 : Int → jMem → jO) (rec : Int → Int → jMem → jO) (l1 l2 : Int) (s0 : jMem) : jO :=
if 250 ≤ l2 then (
k23 l1 s0)
else (
jGd ((0 : Int) ≤ l2 ∧ l2 < jik 73) <| jLet (jU s0 73 l2 99) fun s4 =>
jLet (j32 (l2 + 1)) fun x5 =>
rec l1 x5 s4)
def bX11_layLacks_69 (k70 : Int → Int → Int → Int → jMem → jO) (l1 l2 l3 : Int) (s0 : jMem) : jO :=
k70 l1 l2 l3 0 s0
def bX11_layLacks_136 (k75 : Int → Int → Int → Int → Int → jMem → jO) (l1 l2 l3 l4 l5 : Int) (s0 : jMem) : jO :=
jLet (j32 (l5 + 1)) fun x1 =>
k75 l1 l2 l3 l4 x1 s0
def bX11_layLacks_75 (k142 : Int → Int → Int → jMem → jO) (rec : Int → Int → Int → Int → Int → jMem → jO) (l1 l2 l3 l4 l5 : Int) (s0 : jMem) : jO :=
if 250 ≤ l5 then (
k142 l1 l2 l3 s0)
else (
jGd ((0 : Int) ≤ l5 ∧ l5 < jik 72) <| jLet (s0 72 l5) fun x4 =>
if 99 ≤ x4 then (
bX11_layLacks_136 rec l1 l2 l3 l4 l5 s0)
else (
jLet (j32 (9 * l1)) fun x7 =>
jLet (j32 (x7 + l3)) fun x9 =>
jGd (¬ (50 : Int) = 0) <| jLet (jdiv l5 50) fun x11 =>
jGd (¬ (10 : Int) = 0) <| jLet (jdiv l5 10) fun x13 =>
jGd (¬ (5 : Int) = 0) <| jLet (jrem x13 5) fun x14 =>
jGd (¬ (2 : Int) = 0) <| jLet (jdiv l5 2) fun x16 =>
jGd (¬ (5 : Int) = 0) <| jLet (jrem x16 5) fun x17 =>
jGd (¬ (2 : Int) = 0) <| jLet (jrem l5 2) fun x19 =>
jGd ((0 : Int) ≤ l5 ∧ l5 < jik 72) <| jLet (s0 72 l5) fun x23 =>
jBd (fX11_step x9 x11 x14 x17 x19 l4 x23 s0) fun x24 s25 =>
bX11_layLacks_136 rec l1 l2 l3 l4 l5 s25))
def bX11_layLacks_142 (k49 : Int → Int → Int → jMem → jO) (l1 l2 l3 : Int) (s0 : jMem) : jO :=
jBd (fX11_move s0) fun x2 s3 =>
jLet (j32 (l3 + 1)) fun x4 =>
k49 l1 l2 x4 s3
def bX11_layLacks_70 (k49 : Int → Int → Int → jMem → jO) (l1 l2 l3 t0 : Int) (s0 : jMem) : jO :=
jIt (fun _ _ _ _ _ _ => none) (bX11_layLacks_75 (bX11_layLacks_142 k49)) 1000 l1 l2 l3 t0 0 s0
def bX11_layLacks_49 (k152 : Int → jMem → jO) (rec : Int → Int → Int → jMem → jO) (l1 l2 l3 : Int) (s0 : jMem) : jO :=
if l2 ≤ l3 then (
k152 l1 s0)
else (
if 3 ≤ l1 then (
bX11_layLacks_69 (bX11_layLacks_70 rec) l1 l2 l3 s0)
else (
if 7 ≤ l3 then (
bX11_layLacks_69 (bX11_layLacks_70 rec) l1 l2 l3 s0)
else (
bX11_layLacks_70 rec l1 l2 l3 4 s0)))
def bX11_layLacks_162 (k201 : Int → Int → jMem → jO) (rec : Int → Int → Int → jMem → jO) (l1 l3 l4 : Int) (s0 : jMem) : jO :=
if 2 ≤ l4 then (
k201 l1 l3 s0)
else (
jLet (j32 (10 * l1)) fun x4 =>
jLet (j32 (2 * l3)) fun x6 =>
jLet (j32 (x4 + x6)) fun x7 =>
jLet (j32 (x7 + l4)) fun x9 =>
jLet (j32 (2 * l3)) fun x12 =>
jLet (j32 (x12 + l4)) fun x14 =>
jGd ((0 : Int) ≤ x14 ∧ x14 < jik 72) <| jLet (s0 72 x14) fun x15 =>
jGd ((0 : Int) ≤ x9 ∧ x9 < jik 74) <| jLet (jU s0 74 x9 x15) fun s16 =>
jLet (j32 (l4 + 1)) fun x17 =>
rec l1 l3 x17 s16)
def bX11_layLacks_201 (k154 : Int → Int → jMem → jO) (l1 l3 : Int) (s0 : jMem) : jO :=
jLet (j32 (l3 + 1)) fun x1 =>
k154 l1 x1 s0
def bX11_layLacks_154 (rec : Int → Int → jMem → jO) (l1 l3 : Int) (s0 : jMem) : jO :=
if 5 ≤ l3 then (
jRet 0 s0)
else (
jIt (fun _ _ _ _ => none) (bX11_layLacks_162 (bX11_layLacks_201 rec)) 1000 l1 l3 0 s0)
def bX11_layLacks_152 (l1 : Int) (s0 : jMem) : jO :=
jIt (fun _ _ _ => none) (bX11_layLacks_154) 1000 l1 0 s0
def bX11_layLacks_46 (l1 t0 : Int) (s0 : jMem) : jO :=
jIt (fun _ _ _ _ => none) (bX11_layLacks_49 bX11_layLacks_152) 1000 l1 t0 0 s0
def bX11_layLacks_23 (l1 : Int) (s0 : jMem) : jO :=
jGd ((0 : Int) ≤ 0 ∧ 0 < jik 73) <| jLet (jU s0 73 0 0) fun s2 =>
jBd (fX11_move s2) fun x4 s5 =>
if 3 ≤ l1 then (
bX11_layLacks_46 l1 7 s5)
else (
bX11_layLacks_46 l1 9 s5)
def fX11_layLacks (l1 : Int) (s0 : jMem) : jO :=
jIt (fun _ _ _ => none) (bX11_layLacks_2 bX11_layLacks_23) 1000 l1 0 s0
def bX11_layAll_2 (rec : Int → jMem → jO) (l1 : Int) (s0 : jMem) : jO :=
if 4 ≤ l1 then (
jRet 0 s0)
else (
jBd (fX11_layLacks l1 s0) fun x4 s5 =>
jLet (j32 (l1 + 1)) fun x6 =>
rec x6 s5)
def fX11_layAll (s0 : jMem) : jO :=
jIt (fun _ _ => none) (bX11_layAll_2) 1000 0 s0
def bX11_lackByWay_170 (k56 : Int → Int → Int → Int → Int → Int → Int → jMem → jO) (l2 l3 l4 l5 l6 l7 t0 : Int) (s0 : jMem) : jO :=
jLet (j32 (l7 + 1)) fun x1 =>
k56 t0 l2 l3 l4 l5 l6 x1 s0
def bX11_lackByWay_153 (k56 : Int → Int → Int → Int → Int → Int → Int → jMem → jO) (l1 l2 l3 l4 l5 l6 l7 t0 t2 t3 : Int) (s0 : jMem) : jO :=
jLet (j32 (t2 + t3)) fun x1 =>
jGd ((0 : Int) ≤ x1 ∧ x1 < jik 74) <| jLet (s0 74 x1) fun x2 =>
jLet (j32 (t0 + x2)) fun x3 =>
if l1 ≤ x3 then (
bX11_lackByWay_170 k56 l2 l3 l4 l5 l6 l7 l1 s0)
else (
bX11_lackByWay_170 k56 l2 l3 l4 l5 l6 l7 x3 s0)
def bX11_lackByWay_128 (k56 : Int → Int → Int → Int → Int → Int → Int → jMem → jO) (l1 l2 l3 l4 l5 l6 l7 t0 t2 t3 : Int) (s0 : jMem) : jO :=
jLet (j32 (t2 + t3)) fun x1 =>
jGd ((0 : Int) ≤ x1 ∧ x1 < jik 74) <| jLet (s0 74 x1) fun x2 =>
jLet (j32 (t0 + x2)) fun x3 =>
jLet (j32 (2 * l6)) fun x6 =>
jLet (j32 (30 + x6)) fun x7 =>
if l7 = 3 then (
bX11_lackByWay_153 k56 l1 l2 l3 l4 l5 l6 l7 x3 x7 1 s0)
else (
bX11_lackByWay_153 k56 l1 l2 l3 l4 l5 l6 l7 x3 x7 0 s0)
def bX11_lackByWay_103 (k56 : Int → Int → Int → Int → Int → Int → Int → jMem → jO) (l1 l2 l3 l4 l5 l6 l7 t0 t2 t3 : Int) (s0 : jMem) : jO :=
jLet (j32 (t2 + t3)) fun x1 =>
jGd ((0 : Int) ≤ x1 ∧ x1 < jik 74) <| jLet (s0 74 x1) fun x2 =>
jLet (j32 (t0 + x2)) fun x3 =>
jLet (j32 (2 * l5)) fun x6 =>
jLet (j32 (20 + x6)) fun x7 =>
if l7 = 2 then (
bX11_lackByWay_128 k56 l1 l2 l3 l4 l5 l6 l7 x3 x7 1 s0)
else (
bX11_lackByWay_128 k56 l1 l2 l3 l4 l5 l6 l7 x3 x7 0 s0)
def bX11_lackByWay_79 (k56 : Int → Int → Int → Int → Int → Int → Int → jMem → jO) (l1 l2 l3 l4 l5 l6 l7 t1 t2 : Int) (s0 : jMem) : jO :=
jLet (j32 (t1 + t2)) fun x1 =>
jGd ((0 : Int) ≤ x1 ∧ x1 < jik 74) <| jLet (s0 74 x1) fun x2 =>
jLet (j32 (2 * l4)) fun x5 =>
jLet (j32 (10 + x5)) fun x6 =>
if l7 = 1 then (
bX11_lackByWay_103 k56 l1 l2 l3 l4 l5 l6 l7 x2 x6 1 s0)
else (
bX11_lackByWay_103 k56 l1 l2 l3 l4 l5 l6 l7 x2 x6 0 s0)
def bX11_lackByWay_56 (k177 : Int → Int → Int → Int → Int → jMem → jO) (rec : Int → Int → Int → Int → Int → Int → Int → jMem → jO) (l1 l2 l3 l4 l5 l6 l7 : Int) (s0 : jMem) : jO :=
if 4 ≤ l7 then (
k177 l1 l2 l3 l4 l5 s0)
else (
jLet (j32 (2 * l3)) fun x4 =>
if l7 = 0 then (
bX11_lackByWay_79 rec l1 l2 l3 l4 l5 l6 l7 x4 1 s0)
else (
bX11_lackByWay_79 rec l1 l2 l3 l4 l5 l6 l7 x4 0 s0))
def bX11_lackByWay_177 (k31 : Int → Int → Int → Int → Int → jMem → jO) (l1 l2 l3 l4 l5 : Int) (s0 : jMem) : jO :=
jLet (j32 (l5 + 1)) fun x1 =>
k31 l1 l2 l3 l4 x1 s0
def bX11_lackByWay_31 (k183 : Int → Int → Int → Int → jMem → jO) (rec : Int → Int → Int → Int → Int → jMem → jO) (l1 l2 l3 l4 l5 : Int) (s0 : jMem) : jO :=
jLet (j32 (l3 + l4)) fun x3 =>
jLet (j32 (x3 + l5)) fun x5 =>
if l2 < x5 then (
k183 l1 l2 l3 l4 s0)
else (
jLet (j32 (l2 - l3)) fun x9 =>
jLet (j32 (x9 - l4)) fun x11 =>
jLet (j32 (x11 - l5)) fun x13 =>
jIt (fun _ _ _ _ _ _ _ _ => none) (bX11_lackByWay_56 (bX11_lackByWay_177 rec)) 1000 l1 l2 l3 l4 l5 x13 0 s0)
def bX11_lackByWay_183 (k20 : Int → Int → Int → Int → jMem → jO) (l1 l2 l3 l4 : Int) (s0 : jMem) : jO :=
jLet (j32 (l4 + 1)) fun x1 =>
k20 l1 l2 l3 x1 s0
def bX11_lackByWay_20 (k189 : Int → Int → Int → jMem → jO) (rec : Int → Int → Int → Int → jMem → jO) (l1 l2 l3 l4 : Int) (s0 : jMem) : jO :=
jLet (j32 (l3 + l4)) fun x3 =>
if l2 < x3 then (
k189 l1 l2 l3 s0)
else (
jIt (fun _ _ _ _ _ _ => none) (bX11_lackByWay_31 (bX11_lackByWay_183 rec)) 1000 l1 l2 l3 l4 0 s0)
def bX11_lackByWay_189 (k12 : Int → Int → Int → jMem → jO) (l1 l2 l3 : Int) (s0 : jMem) : jO :=
jLet (j32 (l3 + 1)) fun x1 =>
k12 l1 l2 x1 s0
def bX11_lackByWay_12 (rec : Int → Int → Int → jMem → jO) (l1 l2 l3 : Int) (s0 : jMem) : jO :=
if l2 < l3 then (
jRet l1 s0)
else (
jIt (fun _ _ _ _ _ => none) (bX11_lackByWay_20 (bX11_lackByWay_189 rec)) 1000 l1 l2 l3 0 s0)
def fX11_lackByWay (s0 : jMem) : jO :=
jLet (s0 53 20) fun x2 =>
jLet (j32 (4 - x2)) fun x3 =>
jIt (fun _ _ _ _ => none) (bX11_lackByWay_12) 1000 99 x3 0 s0
def bX11_lackOfSeven_46 (k6 : Int → Int → Int → jMem → jO) (l1 l3 t0 t1 : Int) (s0 : jMem) : jO :=
jLet (j32 (t0 + t1)) fun x1 =>
jLet (j32 (l3 + 1)) fun x2 =>
k6 l1 x1 x2 s0
def bX11_lackOfSeven_28 (k6 : Int → Int → Int → jMem → jO) (l2 l3 t0 t1 : Int) (s0 : jMem) : jO :=
jLet (j32 (t0 + t1)) fun x1 =>
jGd ((0 : Int) ≤ l3 ∧ l3 < jik 68) <| jLet (s0 68 l3) fun x5 =>
if x5 = 1 then (
bX11_lackOfSeven_46 k6 x1 l3 l2 1 s0)
else (
bX11_lackOfSeven_46 k6 x1 l3 l2 0 s0)
def bX11_lackOfSeven_6 (k54 : Int → Int → jMem → jO) (rec : Int → Int → Int → jMem → jO) (l1 l2 l3 : Int) (s0 : jMem) : jO :=
if 34 ≤ l3 then (
k54 l1 l2 s0)
else (
jGd ((0 : Int) ≤ l3 ∧ l3 < jik 68) <| jLet (s0 68 l3) fun x5 =>
if x5 ≤ 1 then (
bX11_lackOfSeven_28 rec l2 l3 l1 0 s0)
else (
bX11_lackOfSeven_28 rec l2 l3 l1 1 s0))
def bX11_lackOfSeven_68 (l2 t0 : Int) (s0 : jMem) : jO :=
if l2 ≤ t0 then (
jLet (j32 (2 * t0)) fun x4 =>
jLet (j32 (x4 - l2)) fun x6 =>
jRet x6 s0)
else (
jRet t0 s0)
def bX11_lackOfSeven_54 (l1 l2 : Int) (s0 : jMem) : jO :=
if l1 ≤ 7 then (
jLet (j32 (7 - l1)) fun x3 =>
bX11_lackOfSeven_68 l2 x3 s0)
else (
bX11_lackOfSeven_68 l2 0 s0)
def fX11_lackOfSeven (s0 : jMem) : jO :=
jIt (fun _ _ _ _ => none) (bX11_lackOfSeven_6 bX11_lackOfSeven_54) 1000 0 0 0 s0
def bX11_lackOfOuter_31 (k32 : Int → Int → Int → jMem → jO) (l2 t0 : Int) (s0 : jMem) : jO :=
k32 l2 t0 0 s0
def bX11_lackOfOuter_32 (k4 : Int → Int → jMem → jO) (l2 t0 t1 : Int) (s0 : jMem) : jO :=
jLet (j32 (t0 + t1)) fun x1 =>
jLet (j32 (l2 + 1)) fun x2 =>
k4 x1 x2 s0
def bX11_lackOfOuter_4 (k40 : Int → jMem → jO) (rec : Int → Int → jMem → jO) (l1 l2 : Int) (s0 : jMem) : jO :=
if 34 ≤ l2 then (
k40 l1 s0)
else (
jBd (fX11_isOuter l2 s0) fun x4 s5 =>
if x4 = 0 then (
bX11_lackOfOuter_31 (bX11_lackOfOuter_32 rec) l2 l1 s5)
else (
jGd ((0 : Int) ≤ l2 ∧ l2 < jik 68) <| jLet (s5 68 l2) fun x8 =>
if x8 = 0 then (
bX11_lackOfOuter_32 rec l2 l1 1 s5)
else (
bX11_lackOfOuter_31 (bX11_lackOfOuter_32 rec) l2 l1 s5)))
def bX11_lackOfOuter_71 (k76 : Int → Int → Int → jMem → jO) (l1 l3 : Int) (s0 : jMem) : jO :=
k76 l1 l3 1 s0
def bX11_lackOfOuter_75 (k76 : Int → Int → Int → jMem → jO) (l1 l3 : Int) (s0 : jMem) : jO :=
k76 l1 l3 0 s0
def bX11_lackOfOuter_76 (k44 : Int → Int → Int → jMem → jO) (l1 l3 t0 : Int) (s0 : jMem) : jO :=
jLet (j32 (l3 + 1)) fun x1 =>
k44 l1 t0 x1 s0
def bX11_lackOfOuter_44 (k83 : Int → Int → jMem → jO) (rec : Int → Int → Int → jMem → jO) (l1 l2 l3 : Int) (s0 : jMem) : jO :=
if 34 ≤ l3 then (
k83 l1 l2 s0)
else (
if l2 = 0 then (
jBd (fX11_isOuter l3 s0) fun x4 s5 =>
if x4 = 0 then (
bX11_lackOfOuter_75 (bX11_lackOfOuter_76 rec) l1 l3 s5)
else (
jGd ((0 : Int) ≤ l3 ∧ l3 < jik 68) <| jLet (s5 68 l3) fun x8 =>
if x8 ≤ 1 then (
bX11_lackOfOuter_75 (bX11_lackOfOuter_76 rec) l1 l3 s5)
else (
bX11_lackOfOuter_71 (bX11_lackOfOuter_76 rec) l1 l3 s5)))
else (
bX11_lackOfOuter_71 (bX11_lackOfOuter_76 rec) l1 l3 s0))
def bX11_lackOfOuter_83 (l1 l2 : Int) (s0 : jMem) : jO :=
if l2 = 0 then (
jRet l1 s0)
else (
jLet (j32 (l1 - 1)) fun x4 =>
jRet x4 s0)
def bX11_lackOfOuter_40 (l1 : Int) (s0 : jMem) : jO :=
jIt (fun _ _ _ _ => none) (bX11_lackOfOuter_44 bX11_lackOfOuter_83) 1000 l1 0 0 s0
def fX11_lackOfOuter (s0 : jMem) : jO :=
jIt (fun _ _ _ => none) (bX11_lackOfOuter_4 bX11_lackOfOuter_40) 1000 1 0 s0
def bX11_lackOf_32 (l1 : Int) (s0 : jMem) : jO :=
jLet (s0 53 20) fun x2 =>
if x2 = 0 then (
jLet (s0 53 11) fun x5 =>
if x5 = 0 then (
jRet l1 s0)
else (
jBd (fX11_lackOfOuter s0) fun x8 s9 =>
if l1 ≤ x8 then (
jRet l1 s9)
else (
jBd (fX11_lackOfOuter s9) fun x13 s14 =>
jRet x13 s14)))
else (
jRet l1 s0)
def fX11_lackOf (s0 : jMem) : jO :=
jBd (fX11_lackByWay s0) fun x2 s3 =>
jLet (s3 53 20) fun x5 =>
if x5 = 0 then (
jLet (s3 53 10) fun x7 =>
if x7 = 0 then (
bX11_lackOf_32 x2 s3)
else (
jBd (fX11_lackOfSeven s3) fun x9 s10 =>
if x2 ≤ x9 then (
bX11_lackOf_32 x2 s10)
else (
jBd (fX11_lackOfSeven s10) fun x13 s14 =>
bX11_lackOf_32 x13 s14)))
else (
bX11_lackOf_32 x2 s3)
def fX11_change (l1 l2 : Int) (s0 : jMem) : jO :=
jGd ((0 : Int) ≤ l1 ∧ l1 < jik 68) <| jLet (s0 68 l1) fun x3 =>
jLet (j32 (x3 + l2)) fun x5 =>
jGd ((0 : Int) ≤ l1 ∧ l1 < jik 68) <| jLet (jU s0 68 l1 x5) fun s6 =>
jBd (fX11_rowOf l1 s6) fun x9 s10 =>
jBd (fX11_layLacks x9 s10) fun x11 s12 =>
jRet 0 s12
def fX11_distanceOf (l0 : Int) (s0 : jMem) : jO :=
if 1 ≤ l0 then (
jLet (j32 (l0 - 1)) fun x3 =>
jRet x3 s0)
else (
jRet 0 s0)
def fX11_distance (l1 : Int) (s0 : jMem) : jO :=
jBd (fX11_isHand l1 s0) fun x2 s3 =>
if x2 = 0 then (
jRet (-1) s3)
else (
jBd (fX11_sizeOf l1 s3) fun x6 s7 =>
if 13 ≤ x6 then (
jBd (fX11_look l1 s7) fun x10 s11 =>
jBd (fX11_layAll s11) fun x13 s14 =>
jBd (fX11_lackOf s14) fun x16 s17 =>
jBd (fX11_distanceOf x16 s17) fun x18 s19 =>
jRet x18 s19)
else (
jRet (-2) s7))
def bX11_layHelps_69 (k76 : Int → jMem → jO) (l1 t1 t2 : Int) (s0 : jMem) : jO :=
jGd (0 ≤ t2 ∧ t2 ≤ 1) <| jGd ((0 : Int) ≤ t1 ∧ t1 < jzk 75) <| jLet (jU s0 75 t1 t2) fun s2 =>
jBd (fX11_change l1 (-1) s2) fun x5 s6 =>
k76 l1 s6
def bX11_layHelps_76 (k10 : Int → jMem → jO) (l1 : Int) (s0 : jMem) : jO :=
jLet (j32 (l1 + 1)) fun x1 =>
k10 x1 s0
def bX11_layHelps_10 (rec : Int → jMem → jO) (l1 : Int) (s0 : jMem) : jO :=
if 34 ≤ l1 then (
jRet 0 s0)
else (
jGd ((0 : Int) ≤ l1 ∧ l1 < jzk 75) <| jLet (jU s0 75 l1 0) fun s4 =>
jGd ((0 : Int) ≤ l1 ∧ l1 < jik 68) <| jLet (s4 68 l1) fun x7 =>
jGd ((0 : Int) ≤ l1 ∧ l1 < jik 69) <| jLet (s4 69 l1) fun x10 =>
jLet (j32 (x7 + x10)) fun x11 =>
if 4 ≤ x11 then (
bX11_layHelps_76 rec l1 s4)
else (
jBd (fX11_change l1 1 s4) fun x14 s15 =>
jBd (fX11_lackOf s15) fun x19 s20 =>
jLet (s20 53 27) fun x22 =>
jLet (j32 (x22 - 1)) fun x23 =>
if x19 = x23 then (
bX11_layHelps_69 (bX11_layHelps_76 rec) l1 l1 1 s20)
else (
bX11_layHelps_69 (bX11_layHelps_76 rec) l1 l1 0 s20)))
def fX11_layHelps (s0 : jMem) : jO :=
jBd (fX11_lackOf s0) fun x3 s4 =>
jLet (jU s4 53 27 x3) fun s5 =>
jIt (fun _ _ => none) (bX11_layHelps_10) 1000 0 s5
def bX11_helpAt_28 (k4 : Int → Int → jMem → jO) (l2 l3 : Int) (s0 : jMem) : jO :=
jLet (j32 (l3 + 1)) fun x1 =>
k4 l2 x1 s0
def bX11_helpAt_4 (rec : Int → Int → jMem → jO) (l2 l3 : Int) (s0 : jMem) : jO :=
if 34 ≤ l3 then (
jRet (-3) s0)
else (
jGd ((0 : Int) ≤ l3 ∧ l3 < jzk 75) <| jLet (s0 75 l3) fun x4 =>
if x4 = 0 then (
bX11_helpAt_28 rec l2 l3 s0)
else (
if l2 = 0 then (
jRet l3 s0)
else (
jLet (j32 (l2 + (-1))) fun x6 =>
bX11_helpAt_28 rec x6 l3 s0)))
def fX11_helpAt (l1 : Int) (s0 : jMem) : jO :=
jIt (fun _ _ _ => none) (bX11_helpAt_4) 1000 l1 0 s0
def fX11_helped (l1 l2 l3 : Int) (s0 : jMem) : jO :=
jBd (fX11_isHand l1 s0) fun x2 s3 =>
if x2 = 0 then (
jRet (-1) s3)
else (
if 0 ≤ l2 then (
jBd (fX11_sizeOf l1 s3) fun x7 s8 =>
if x7 = 13 then (
jBd (fX11_look l1 s8) fun x11 s12 =>
jBd (fX11_layAll s12) fun x14 s15 =>
jBd (fX11_layHelps s15) fun x17 s18 =>
if l3 = 0 then (
jBd (fX11_helpAt l2 s18) fun x22 s23 =>
jRet x22 s23)
else (
jLet (s18 53 27) fun x25 =>
if x25 = 1 then (
jBd (fX11_helpAt l2 s18) fun x28 s29 =>
jRet x28 s29)
else (
jRet (-3) s18)))
else (
jRet (-2) s8))
else (
jRet (-1) s3))
def fX11_waits (l1 l2 : Int) (s0 : jMem) : jO :=
jBd (fX11_helped l1 l2 1 s0) fun x4 s5 =>
jRet x4 s5
def fX11_helps (l1 l2 : Int) (s0 : jMem) : jO :=
jBd (fX11_helped l1 l2 0 s0) fun x4 s5 =>
jRet x4 s5
def bX11_layUnseen_39 (k72 : Int → Int → Int → jMem → jO) (rec : Int → Int → Int → Int → jMem → jO) (l1 l2 l3 l4 : Int) (s0 : jMem) : jO :=
if 4 ≤ l4 then (
k72 l1 l2 l3 s0)
else (
jGd ((0 : Int) ≤ l3 ∧ l3 < jik 76) <| jLet (s0 76 l3) fun x4 =>
jLet (j32 (34 * l4)) fun x7 =>
jLet (j32 (x7 + l3)) fun x9 =>
jGd ((0 : Int) ≤ x9 ∧ x9 < jik 57) <| jLet (s0 57 x9) fun x10 =>
jLet (j32 (x4 - x10)) fun x11 =>
jGd ((0 : Int) ≤ l3 ∧ l3 < jik 76) <| jLet (jU s0 76 l3 x11) fun s12 =>
jLet (j32 (l4 + 1)) fun x13 =>
rec l1 l2 l3 x13 s12)
def bX11_layUnseen_72 (k4 : Int → Int → Int → jMem → jO) (l1 l2 l3 : Int) (s0 : jMem) : jO :=
jGd ((0 : Int) ≤ l3 ∧ l3 < jik 76) <| jLet (s0 76 l3) fun x4 =>
jLet (j32 (l2 + x4)) fun x5 =>
jLet (j32 (l3 + 1)) fun x6 =>
k4 l1 x5 x6 s0
def bX11_layUnseen_4 (rec : Int → Int → Int → jMem → jO) (l1 l2 l3 : Int) (s0 : jMem) : jO :=
if 34 ≤ l3 then (
jRet l2 s0)
else (
jLet (j32 (34 * l1)) fun x7 =>
jLet (j32 (x7 + l3)) fun x9 =>
jGd ((0 : Int) ≤ x9 ∧ x9 < jik 56) <| jLet (s0 56 x9) fun x10 =>
jLet (j32 (4 - x10)) fun x11 =>
jGd ((0 : Int) ≤ l3 ∧ l3 < jik 55) <| jLet (s0 55 l3) fun x14 =>
jLet (j32 (x11 - x14)) fun x15 =>
jGd ((0 : Int) ≤ l3 ∧ l3 < jik 76) <| jLet (jU s0 76 l3 x15) fun s16 =>
jIt (fun _ _ _ _ _ => none) (bX11_layUnseen_39 (bX11_layUnseen_72 rec)) 1000 l1 l2 l3 0 s16)
def fX11_layUnseen (l1 : Int) (s0 : jMem) : jO :=
jIt (fun _ _ _ _ => none) (bX11_layUnseen_4) 1000 l1 0 0 s0
def fX11_against (l1 l2 : Int) (s0 : jMem) : jO :=
jBd (fX11_isHand l1 s0) fun x2 s3 =>
if x2 = 0 then (
jRet (-1) s3)
else (
jBd (fX11_isSort l2 s3) fun x5 s6 =>
if x5 = 0 then (
jRet (-1) s6)
else (
jBd (fX11_isFull l1 s6) fun x9 s10 =>
if x9 = 0 then (
jRet (-2) s10)
else (
jLet (j32 (34 * l1)) fun x13 =>
jLet (j32 (x13 + l2)) fun x15 =>
jGd ((0 : Int) ≤ x15 ∧ x15 < jik 56) <| jLet (s10 56 x15) fun x16 =>
if x16 = 0 then (
jRet (-2) s10)
else (
jRet 0 s10))))
def fX11_without (l1 l2 : Int) (s0 : jMem) : jO :=
jBd (fX11_against l1 l2 s0) fun x4 s5 =>
if x4 = 0 then (
jBd (fX11_look l1 s5) fun x9 s10 =>
jBd (fX11_layAll s10) fun x12 s13 =>
jBd (fX11_change l2 (-1) s13) fun x16 s17 =>
jBd (fX11_lackOf s17) fun x19 s20 =>
jBd (fX11_distanceOf x19 s20) fun x21 s22 =>
jRet x21 s22)
else (
jRet x4 s5)
def bX11_helping_34 (k8 : Int → Int → jMem → jO) (l2 t0 t1 : Int) (s0 : jMem) : jO :=
jLet (j32 (t0 + t1)) fun x1 =>
jLet (j32 (l2 + 1)) fun x2 =>
k8 x1 x2 s0
def bX11_helping_8 (rec : Int → Int → jMem → jO) (l1 l2 : Int) (s0 : jMem) : jO :=
if 34 ≤ l2 then (
jRet l1 s0)
else (
jGd ((0 : Int) ≤ l2 ∧ l2 < jzk 75) <| jLet (s0 75 l2) fun x6 =>
if x6 = 0 then (
bX11_helping_34 rec l2 l1 0 s0)
else (
jGd ((0 : Int) ≤ l2 ∧ l2 < jik 76) <| jLet (s0 76 l2) fun x9 =>
bX11_helping_34 rec l2 l1 x9 s0))
def fX11_helping (s0 : jMem) : jO :=
jBd (fX11_layHelps s0) fun x2 s3 =>
jIt (fun _ _ _ => none) (bX11_helping_8) 1000 0 0 s3
def fX11_more (l1 l2 : Int) (s0 : jMem) : jO :=
jBd (fX11_against l1 l2 s0) fun x4 s5 =>
if x4 = 0 then (
jBd (fX11_layUnseen l1 s5) fun x9 s10 =>
jBd (fX11_look l1 s10) fun x13 s14 =>
jBd (fX11_layAll s14) fun x16 s17 =>
jBd (fX11_change l2 (-1) s17) fun x20 s21 =>
jBd (fX11_helping s21) fun x23 s24 =>
jRet x23 s24)
else (
jRet x4 s5)
def bX11_best_108 (k115 : Int → Int → Int → Int → jMem → jO) (l6 l7 l8 : Int) (s0 : jMem) : jO :=
k115 l6 l8 l6 l7 s0
def bX11_best_115 (k119 : Int → Int → Int → Int → jMem → jO) (l3 l5 l6 l7 : Int) (s0 : jMem) : jO :=
k119 l3 l7 l5 l6 s0
def bX11_best_119 (k126 : Int → Int → Int → Int → jMem → jO) (l3 l4 l5 l6 : Int) (s0 : jMem) : jO :=
jBd (fX11_change l6 1 s0) fun x3 s4 =>
k126 l3 l4 l5 l6 s4
def bX11_best_126 (k48 : Int → Int → Int → Int → jMem → jO) (l3 l4 l5 l6 : Int) (s0 : jMem) : jO :=
jLet (j32 (l6 + 1)) fun x1 =>
k48 l3 l4 l5 x1 s0
def bX11_best_48 (rec : Int → Int → Int → Int → jMem → jO) (l3 l4 l5 l6 : Int) (s0 : jMem) : jO :=
if 34 ≤ l6 then (
jRet l3 s0)
else (
jGd ((0 : Int) ≤ l6 ∧ l6 < jik 68) <| jLet (s0 68 l6) fun x5 =>
if x5 = 0 then (
bX11_best_126 rec l3 l4 l5 l6 s0)
else (
jBd (fX11_change l6 (-1) s0) fun x8 s9 =>
jBd (fX11_lackOf s9) fun x11 s12 =>
if l4 < x11 then (
bX11_best_119 (bX11_best_126 rec) l3 l4 l5 l6 s12)
else (
jBd (fX11_helping s12) fun x16 s17 =>
if x11 < l4 then (
bX11_best_108 (bX11_best_115 (bX11_best_119 (bX11_best_126 rec))) l6 x11 x16 s17)
else (
if x16 ≤ l5 then (
bX11_best_115 (bX11_best_119 (bX11_best_126 rec)) l3 l5 l6 x11 s17)
else (
bX11_best_108 (bX11_best_115 (bX11_best_119 (bX11_best_126 rec))) l6 x11 x16 s17)))))
def fX11_best (l1 : Int) (s0 : jMem) : jO :=
jBd (fX11_isHand l1 s0) fun x2 s3 =>
if x2 = 0 then (
jRet (-1) s3)
else (
jBd (fX11_isFull l1 s3) fun x6 s7 =>
if x6 = 0 then (
jRet (-2) s7)
else (
jBd (fX11_layUnseen l1 s7) fun x10 s11 =>
jBd (fX11_look l1 s11) fun x14 s15 =>
jBd (fX11_layAll s15) fun x17 s18 =>
jIt (fun _ _ _ _ _ => none) (bX11_best_48) 1000 (-3) 99 (-1) 0 s18))
def fX11_lack (l1 l2 l3 l4 : Int) (s0 : jMem) : jO :=
jBd (fX11_isHand l1 s0) fun x2 s3 =>
if x2 = 0 then (
jRet (-1) s3)
else (
jBd (fX11_in l2 0 3 s3) fun x5 s6 =>
if x5 = 0 then (
jRet (-1) s6)
else (
jBd (fX11_in l3 0 4 s6) fun x8 s9 =>
if x8 = 0 then (
jRet (-1) s9)
else (
jBd (fX11_in l4 0 1 s9) fun x11 s12 =>
if x11 = 0 then (
jRet (-1) s12)
else (
jBd (fX11_look l1 s12) fun x15 s16 =>
jBd (fX11_layLacks l2 s16) fun x19 s20 =>
jLet (j32 (10 * l2)) fun x23 =>
jLet (j32 (2 * l3)) fun x25 =>
jLet (j32 (x23 + x25)) fun x26 =>
jLet (j32 (x26 + l4)) fun x28 =>
jGd ((0 : Int) ≤ x28 ∧ x28 < jik 74) <| jLet (s20 74 x28) fun x29 =>
if x29 = 99 then (
jRet (-3) s20)
else (
jRet x29 s20)))))
def bX11_making_47 (k59 : Int → Int → jMem → jO) (l2 t0 t1 : Int) (s0 : jMem) : jO :=
jLet (j32 (t0 + t1)) fun x1 =>
jGd ((0 : Int) ≤ l2 ∧ l2 < jik 68) <| jLet (s0 68 l2) fun x4 =>
jLet (j32 (x4 - 1)) fun x5 =>
jGd ((0 : Int) ≤ l2 ∧ l2 < jik 68) <| jLet (jU s0 68 l2 x5) fun s6 =>
k59 x1 l2 s6
def bX11_making_59 (k4 : Int → Int → jMem → jO) (l1 l2 : Int) (s0 : jMem) : jO :=
jLet (j32 (l2 + 1)) fun x1 =>
k4 l1 x1 s0
def bX11_making_4 (rec : Int → Int → jMem → jO) (l1 l2 : Int) (s0 : jMem) : jO :=
if 34 ≤ l2 then (
jRet l1 s0)
else (
jGd ((0 : Int) ≤ l2 ∧ l2 < jik 76) <| jLet (s0 76 l2) fun x5 =>
if x5 ≤ 0 then (
bX11_making_59 rec l1 l2 s0)
else (
jGd ((0 : Int) ≤ l2 ∧ l2 < jik 68) <| jLet (s0 68 l2) fun x8 =>
jLet (j32 (x8 + 1)) fun x9 =>
jGd ((0 : Int) ≤ l2 ∧ l2 < jik 68) <| jLet (jU s0 68 l2 x9) fun s10 =>
jBd (fX11_doneBy s10) fun x13 s14 =>
if x13 ≤ 0 then (
bX11_making_47 (bX11_making_59 rec) l2 l1 0 s14)
else (
jGd ((0 : Int) ≤ l2 ∧ l2 < jik 76) <| jLet (s14 76 l2) fun x17 =>
bX11_making_47 (bX11_making_59 rec) l2 l1 x17 s14)))
def fX11_making (s0 : jMem) : jO :=
jIt (fun _ _ _ => none) (bX11_making_4) 1000 0 0 s0
def bX11_makingBest_58 (k69 : Int → Int → jMem → jO) (l2 t0 : Int) (s0 : jMem) : jO :=
jGd ((0 : Int) ≤ l2 ∧ l2 < jik 68) <| jLet (s0 68 l2) fun x3 =>
jLet (j32 (x3 + 1)) fun x4 =>
jGd ((0 : Int) ≤ l2 ∧ l2 < jik 68) <| jLet (jU s0 68 l2 x4) fun s5 =>
k69 t0 l2 s5
def bX11_makingBest_69 (k18 : Int → Int → jMem → jO) (l1 l2 : Int) (s0 : jMem) : jO :=
jLet (j32 (l2 + 1)) fun x1 =>
k18 l1 x1 s0
def bX11_makingBest_18 (rec : Int → Int → jMem → jO) (l1 l2 : Int) (s0 : jMem) : jO :=
if 34 ≤ l2 then (
jRet l1 s0)
else (
jGd ((0 : Int) ≤ l2 ∧ l2 < jik 68) <| jLet (s0 68 l2) fun x5 =>
if x5 ≤ 0 then (
bX11_makingBest_69 rec l1 l2 s0)
else (
jGd ((0 : Int) ≤ l2 ∧ l2 < jik 68) <| jLet (s0 68 l2) fun x8 =>
jLet (j32 (x8 - 1)) fun x9 =>
jGd ((0 : Int) ≤ l2 ∧ l2 < jik 68) <| jLet (jU s0 68 l2 x9) fun s10 =>
jBd (fX11_making s10) fun x12 s13 =>
if x12 ≤ l1 then (
bX11_makingBest_58 (bX11_makingBest_69 rec) l2 l1 s13)
else (
bX11_makingBest_58 (bX11_makingBest_69 rec) l2 x12 s13)))
def fX11_makingBest (s0 : jMem) : jO :=
jBd (fX11_layAll s0) fun x2 s3 =>
jBd (fX11_lackOf s3) fun x5 s6 =>
if x5 ≤ 1 then (
jIt (fun _ _ _ => none) (bX11_makingBest_18) 1000 0 0 s6)
else (
jRet 0 s6)
def bX11_odds_156 (k167 : Int → Int → Int → jMem → jO) (l3 l4 l5 : Int) (s0 : jMem) : jO :=
jGd ((0 : Int) ≤ l5 ∧ l5 < jik 68) <| jLet (s0 68 l5) fun x3 =>
jLet (j32 (x3 - 1)) fun x4 =>
jGd ((0 : Int) ≤ l5 ∧ l5 < jik 68) <| jLet (jU s0 68 l5 x4) fun s5 =>
k167 l3 l4 l5 s5
def bX11_odds_167 (k61 : Int → Int → Int → jMem → jO) (l3 l4 l5 : Int) (s0 : jMem) : jO :=
jLet (j32 (l5 + 1)) fun x1 =>
k61 l3 l4 x1 s0
def bX11_odds_61 (rec : Int → Int → Int → jMem → jO) (l3 l4 l5 : Int) (s0 : jMem) : jO :=
if 34 ≤ l5 then (
jRet l4 s0)
else (
jGd ((0 : Int) ≤ l5 ∧ l5 < jik 76) <| jLet (s0 76 l5) fun x5 =>
if x5 = 0 then (
bX11_odds_167 rec l3 l4 l5 s0)
else (
jGd ((0 : Int) ≤ l5 ∧ l5 < jik 76) <| jLet (s0 76 l5) fun x8 =>
jGd ((0 : Int) ≤ l5 ∧ l5 < jik 68) <| jLet (s0 68 l5) fun x11 =>
jLet (j32 (x11 + 1)) fun x12 =>
jGd ((0 : Int) ≤ l5 ∧ l5 < jik 68) <| jLet (jU s0 68 l5 x12) fun s13 =>
jBd (fX11_doneBy s13) fun x15 s16 =>
if x15 ≤ 0 then (
jGd ((0 : Int) ≤ l5 ∧ l5 < jik 76) <| jLet (s16 76 l5) fun x19 =>
jLet (j32 (x19 - 1)) fun x20 =>
jGd ((0 : Int) ≤ l5 ∧ l5 < jik 76) <| jLet (jU s16 76 l5 x20) fun s21 =>
jBd (fX11_makingBest s21) fun x25 s26 =>
jLet (j32 (x8 * x25)) fun x27 =>
jLet (j32 (l4 + x27)) fun x28 =>
jGd ((0 : Int) ≤ l5 ∧ l5 < jik 76) <| jLet (s26 76 l5) fun x31 =>
jLet (j32 (x31 + 1)) fun x32 =>
jGd ((0 : Int) ≤ l5 ∧ l5 < jik 76) <| jLet (jU s26 76 l5 x32) fun s33 =>
bX11_odds_156 (bX11_odds_167 rec) l3 x28 l5 s33)
else (
jLet (j32 (l3 - 1)) fun x37 =>
jLet (j32 (x8 * x37)) fun x38 =>
jLet (j32 (l4 + x38)) fun x39 =>
bX11_odds_156 (bX11_odds_167 rec) l3 x39 l5 s16)))
def fX11_odds (l1 l2 : Int) (s0 : jMem) : jO :=
jBd (fX11_isHand l1 s0) fun x2 s3 =>
if x2 = 0 then (
jRet (-1) s3)
else (
jBd (fX11_in l2 1 2 s3) fun x5 s6 =>
if x5 = 0 then (
jRet (-1) s6)
else (
jBd (fX11_sizeOf l1 s6) fun x9 s10 =>
if x9 = 13 then (
jBd (fX11_layUnseen l1 s10) fun x13 s14 =>
jBd (fX11_look l1 s14) fun x17 s18 =>
if l2 = 1 then (
jBd (fX11_making s18) fun x21 s22 =>
jRet x21 s22)
else (
jIt (fun _ _ _ _ => none) (bX11_odds_61) 1000 x13 0 0 s18))
else (
jRet (-2) s10)))
def fX11_unseen (l1 : Int) (s0 : jMem) : jO :=
jBd (fX11_isHand l1 s0) fun x2 s3 =>
if x2 = 0 then (
jRet (-1) s3)
else (
jBd (fX11_layUnseen l1 s3) fun x6 s7 =>
jRet x6 s7)
def bX11_isRow_64 (k73 : Int → Int → Int → Int → Int → Int → jMem → jO) (k74 : Int → Int → Int → Int → Int → Int → Int → jMem → jO) (l1 l2 l3 l4 l5 l7 t0 t2 t3 : Int) (s0 : jMem) : jO :=
jLet (j32 (t2 + t3)) fun x1 =>
jGd ((0 : Int) ≤ x1 ∧ x1 < jik 56) <| jLet (s0 56 x1) fun x2 =>
if t0 = x2 then (
k74 l1 l2 l3 l4 l5 l7 1 s0)
else (
k73 l1 l2 l3 l4 l5 l7 s0)
def bX11_isRow_73 (k74 : Int → Int → Int → Int → Int → Int → Int → jMem → jO) (l1 l2 l3 l4 l5 l7 : Int) (s0 : jMem) : jO :=
k74 l1 l2 l3 l4 l5 l7 0 s0
def bX11_isRow_74 (k6 : Int → Int → Int → Int → Int → Int → Int → jMem → jO) (l1 l2 l3 l4 l5 l7 t0 : Int) (s0 : jMem) : jO :=
jLet (j32 (l7 + 1)) fun x1 =>
k6 l1 l2 l3 l4 l5 t0 x1 s0
def bX11_isRow_6 (rec : Int → Int → Int → Int → Int → Int → Int → jMem → jO) (l1 l2 l3 l4 l5 l6 l7 : Int) (s0 : jMem) : jO :=
if 9 ≤ l7 then (
jGd (0 ≤ l6 ∧ l6 ≤ 1) <| jRet l6 s0)
else (
if l6 = 0 then (
bX11_isRow_73 (bX11_isRow_74 rec) l1 l2 l3 l4 l5 l7 s0)
else (
jLet (j32 (34 * l1)) fun x7 =>
jLet (j32 (9 * l2)) fun x9 =>
jLet (j32 (x7 + x9)) fun x10 =>
jLet (j32 (x10 + l7)) fun x12 =>
jGd ((0 : Int) ≤ x12 ∧ x12 < jik 56) <| jLet (s0 56 x12) fun x13 =>
jLet (j32 (34 * l3)) fun x16 =>
jLet (j32 (9 * l4)) fun x18 =>
jLet (j32 (x16 + x18)) fun x19 =>
if l5 = 0 then (
bX11_isRow_64 (bX11_isRow_73 (bX11_isRow_74 rec)) (bX11_isRow_74 rec) l1 l2 l3 l4 l5 l7 x13 x19 l7 s0)
else (
jLet (j32 (8 - l7)) fun x23 =>
bX11_isRow_64 (bX11_isRow_73 (bX11_isRow_74 rec)) (bX11_isRow_74 rec) l1 l2 l3 l4 l5 l7 x13 x19 x23 s0)))
def fX11_isRow (l1 l2 l3 l4 l5 : Int) (s0 : jMem) : jO :=
jIt (fun _ _ _ _ _ _ _ _ => none) (bX11_isRow_6) 1000 l1 l2 l3 l4 l5 1 0 s0
def fX11_areRows (l1 l2 l3 l4 : Int) (s0 : jMem) : jO :=
jBd (fX11_isRow l1 l2 l3 l4 0 s0) fun x6 s7 =>
if x6 = 0 then (
jBd (fX11_isRow l1 l2 l3 l4 1 s7) fun x13 s14 =>
if x13 = 0 then (
jRet 0 s14)
else (
jRet 1 s14))
else (
jRet 1 s7)
def bX11_alike_95 (k37 : Int → Int → Int → Int → Int → Int → Int → jMem → jO) (l1 l2 l3 l4 l5 l7 t0 t1 : Int) (s0 : jMem) : jO :=
jLet (j32 (t0 + t1)) fun x1 =>
jLet (j32 (l7 + 1)) fun x2 =>
k37 l1 l2 l3 l4 l5 x1 x2 s0
def bX11_alike_68 (k37 : Int → Int → Int → Int → Int → Int → Int → jMem → jO) (l1 l2 l3 l4 l6 l7 t0 t1 : Int) (s0 : jMem) : jO :=
jLet (j32 (t0 + t1)) fun x1 =>
jLet (j32 (34 * l2)) fun x5 =>
jLet (j32 (x5 + l7)) fun x7 =>
jGd ((0 : Int) ≤ x7 ∧ x7 < jik 56) <| jLet (s0 56 x7) fun x8 =>
if x8 = l4 then (
bX11_alike_95 k37 l1 l2 l3 l4 x1 l7 l6 1 s0)
else (
bX11_alike_95 k37 l1 l2 l3 l4 x1 l7 l6 0 s0)
def bX11_alike_37 (k104 : Int → Int → Int → Int → Int → Int → jMem → jO) (rec : Int → Int → Int → Int → Int → Int → Int → jMem → jO) (l1 l2 l3 l4 l5 l6 l7 : Int) (s0 : jMem) : jO :=
if 34 ≤ l7 then (
k104 l1 l2 l3 l4 l5 l6 s0)
else (
jLet (j32 (34 * l1)) fun x5 =>
jLet (j32 (x5 + l7)) fun x7 =>
jGd ((0 : Int) ≤ x7 ∧ x7 < jik 56) <| jLet (s0 56 x7) fun x8 =>
if x8 = l4 then (
bX11_alike_68 rec l1 l2 l3 l4 l6 l7 l5 1 s0)
else (
bX11_alike_68 rec l1 l2 l3 l4 l6 l7 l5 0 s0))
def bX11_alike_119 (k120 : Int → Int → Int → Int → jMem → jO) (l1 l2 l4 : Int) (s0 : jMem) : jO :=
k120 l1 l2 l4 0 s0
def bX11_alike_120 (k21 : Int → Int → Int → Int → jMem → jO) (l1 l2 l4 t0 : Int) (s0 : jMem) : jO :=
jLet (j32 (l4 + 1)) fun x1 =>
k21 l1 l2 t0 x1 s0
def bX11_alike_104 (k21 : Int → Int → Int → Int → jMem → jO) (l1 l2 l3 l4 l5 l6 : Int) (s0 : jMem) : jO :=
if l3 = 0 then (
bX11_alike_119 (bX11_alike_120 k21) l1 l2 l4 s0)
else (
if l5 = l6 then (
bX11_alike_120 k21 l1 l2 l4 1 s0)
else (
bX11_alike_119 (bX11_alike_120 k21) l1 l2 l4 s0))
def bX11_alike_21 (k127 : Int → Int → Int → jMem → jO) (rec : Int → Int → Int → Int → jMem → jO) (l1 l2 l3 l4 : Int) (s0 : jMem) : jO :=
if 5 ≤ l4 then (
k127 l1 l2 l3 s0)
else (
jIt (fun _ _ _ _ _ _ _ _ => none) (bX11_alike_37 (bX11_alike_104 rec)) 1000 l1 l2 l3 l4 0 0 27 s0)
def bX11_alike_205 (k210 : Int → Int → Int → Int → Int → Int → jMem → jO) (l1 l2 l3 l5 l6 : Int) (s0 : jMem) : jO :=
k210 l1 l2 l3 l5 l6 1 s0
def bX11_alike_209 (k210 : Int → Int → Int → Int → Int → Int → jMem → jO) (l1 l2 l3 l5 l6 : Int) (s0 : jMem) : jO :=
k210 l1 l2 l3 l5 l6 0 s0
def bX11_alike_210 (k142 : Int → Int → Int → Int → Int → Int → jMem → jO) (l1 l2 l3 l5 l6 t0 : Int) (s0 : jMem) : jO :=
jLet (j32 (l6 + 1)) fun x1 =>
k142 l1 l2 l3 t0 l5 x1 s0
def bX11_alike_142 (k218 : Int → Int → Int → Int → Int → jMem → jO) (rec : Int → Int → Int → Int → Int → Int → jMem → jO) (l1 l2 l3 l4 l5 l6 : Int) (s0 : jMem) : jO :=
if 3 ≤ l6 then (
k218 l1 l2 l3 l4 l5 s0)
else (
jLet (j32 (3 - l5)) fun x3 =>
jLet (j32 (x3 - l6)) fun x5 =>
if l4 = 0 then (
if l5 = l6 then (
bX11_alike_209 (bX11_alike_210 rec) l1 l2 l3 l5 l6 s0)
else (
jBd (fX11_areRows l1 0 l2 l5 s0) fun x13 s14 =>
if x13 = 0 then (
bX11_alike_209 (bX11_alike_210 rec) l1 l2 l3 l5 l6 s14)
else (
jBd (fX11_areRows l1 1 l2 l6 s14) fun x19 s20 =>
if x19 = 0 then (
bX11_alike_209 (bX11_alike_210 rec) l1 l2 l3 l5 l6 s20)
else (
jBd (fX11_areRows l1 2 l2 x5 s20) fun x25 s26 =>
if x25 = 0 then (
bX11_alike_209 (bX11_alike_210 rec) l1 l2 l3 l5 l6 s26)
else (
bX11_alike_205 (bX11_alike_210 rec) l1 l2 l3 l5 l6 s26)))))
else (
bX11_alike_205 (bX11_alike_210 rec) l1 l2 l3 l5 l6 s0))
def bX11_alike_218 (k133 : Int → Int → Int → Int → Int → jMem → jO) (l1 l2 l3 l4 l5 : Int) (s0 : jMem) : jO :=
jLet (j32 (l5 + 1)) fun x1 =>
k133 l1 l2 l3 l4 x1 s0
def bX11_alike_133 (k224 : Int → Int → jMem → jO) (rec : Int → Int → Int → Int → Int → jMem → jO) (l1 l2 l3 l4 l5 : Int) (s0 : jMem) : jO :=
if 3 ≤ l5 then (
k224 l3 l4 s0)
else (
jIt (fun _ _ _ _ _ _ _ => none) (bX11_alike_142 (bX11_alike_218 rec)) 1000 l1 l2 l3 l4 l5 0 s0)
def bX11_alike_224 (l3 l4 : Int) (s0 : jMem) : jO :=
if l3 = 0 then (
jRet 0 s0)
else (
if l4 = 0 then (
jRet 0 s0)
else (
jRet 1 s0))
def bX11_alike_127 (l1 l2 l3 : Int) (s0 : jMem) : jO :=
jIt (fun _ _ _ _ _ _ => none) (bX11_alike_133 bX11_alike_224) 1000 l1 l2 l3 0 0 s0
def fX11_alike (l1 l2 : Int) (s0 : jMem) : jO :=
jBd (fX11_isHand l1 s0) fun x2 s3 =>
if x2 = 0 then (
jRet (-1) s3)
else (
jBd (fX11_isHand l2 s3) fun x5 s6 =>
if x5 = 0 then (
jRet (-1) s6)
else (
jIt (fun _ _ _ _ _ => none) (bX11_alike_21 bX11_alike_127) 1000 l1 l2 1 0 s6))
def fX11_rule (l1 l2 l3 : Int) (s0 : jMem) : jO :=
jBd (fX11_in l1 0 9 s0) fun x2 s3 =>
if x2 = 0 then (
jRet (-1) s3)
else (
jBd (fX11_in l2 0 1000 s3) fun x5 s6 =>
if x5 = 0 then (
jRet (-1) s6)
else (
jBd (fX11_in l3 (-1) 9 s6) fun x8 s9 =>
if x8 = 0 then (
jRet (-1) s9)
else (
jLet (s9 53 12) fun x11 =>
if x11 = 20 then (
jRet (-4) s9)
else (
jLet (s9 53 12) fun x14 =>
jGd ((0 : Int) ≤ x14 ∧ x14 < jik 63) <| jLet (jU s9 63 x14 l1) fun s16 =>
jLet (s16 53 12) fun x19 =>
jGd ((0 : Int) ≤ x19 ∧ x19 < jik 64) <| jLet (jU s16 64 x19 l2) fun s21 =>
jLet (s21 53 12) fun x24 =>
jGd ((0 : Int) ≤ x24 ∧ x24 < jik 65) <| jLet (jU s21 65 x24 l3) fun s26 =>
jLet (s26 53 12) fun x28 =>
jLet (j32 (x28 + 1)) fun x29 =>
jLet (jU s26 53 12 x29) fun s30 =>
jLet (s30 53 12) fun x32 =>
jLet (j32 (x32 - 1)) fun x33 =>
jRet x33 s30))))
def fX11_clearRules (s0 : jMem) : jO :=
jLet (s0 53 12) fun x2 =>
jLet (jU s0 53 12 0) fun s4 =>
jRet x2 s4
def fX11_hasOuter (l0 : Int) (s0 : jMem) : jO :=
jGd (¬ (100 : Int) = 0) <| jLet (jrem l0 100) fun x2 =>
jGd (¬ (100 : Int) = 0) <| jLet (jdiv l0 100) fun x4 =>
if x4 = 1 then (
jGd (¬ (9 : Int) = 0) <| jLet (jrem x2 9) fun x9 =>
if x9 = 0 then (
jRet 1 s0)
else (
jGd (¬ (9 : Int) = 0) <| jLet (jrem x2 9) fun x11 =>
if x11 = 6 then (
jRet 1 s0)
else (
jRet 0 s0)))
else (
jBd (fX11_isOuter x2 s0) fun x6 s7 =>
jRet x6 s7)
def bX11_isOneRow_37 (k4 : Int → Int → jMem → jO) (l2 t0 t1 : Int) (s0 : jMem) : jO :=
jLet (jor t0 t1) fun x1 =>
jLet (j32 (l2 + 1)) fun x2 =>
k4 x1 x2 s0
def bX11_isOneRow_4 (k45 : Int → jMem → jO) (rec : Int → Int → jMem → jO) (l1 l2 : Int) (s0 : jMem) : jO :=
if 34 ≤ l2 then (
k45 l1 s0)
else (
jGd ((0 : Int) ≤ l2 ∧ l2 < jik 68) <| jLet (s0 68 l2) fun x5 =>
jGd ((0 : Int) ≤ l2 ∧ l2 < jik 69) <| jLet (s0 69 l2) fun x8 =>
jLet (j32 (x5 + x8)) fun x9 =>
if x9 ≤ 0 then (
bX11_isOneRow_37 rec l2 l1 0 s0)
else (
jBd (fX11_rowOf l2 s0) fun x11 s12 =>
jLet (jshl 1 x11) fun x13 =>
bX11_isOneRow_37 rec l2 l1 x13 s12))
def bX11_isOneRow_45 (l1 : Int) (s0 : jMem) : jO :=
if l1 = 1 then (
jRet 1 s0)
else (
if l1 = 2 then (
jRet 1 s0)
else (
if l1 = 4 then (
jRet 1 s0)
else (
if l1 = 8 then (
jRet 1 s0)
else (
jRet 0 s0))))
def fX11_isOneRow (s0 : jMem) : jO :=
jIt (fun _ _ _ => none) (bX11_isOneRow_4 bX11_isOneRow_45) 1000 0 0 s0
def bX11_conditionsOfWay_40 (k41 : Int → Int → Int → Int → Int → jMem → jO) (l1 l2 l3 l5 : Int) (s0 : jMem) : jO :=
k41 l1 l2 l3 l5 0 s0
def bX11_conditionsOfWay_91 (k96 : Int → Int → Int → Int → Int → Int → jMem → jO) (l1 l2 l4 l5 l6 : Int) (s0 : jMem) : jO :=
k96 l1 l2 l4 l5 l6 1 s0
def bX11_conditionsOfWay_96 (k63 : Int → Int → Int → Int → Int → Int → jMem → jO) (l1 l2 l4 l5 l6 t0 : Int) (s0 : jMem) : jO :=
jLet (j32 (l6 + 1)) fun x1 =>
k63 l1 l2 t0 l4 l5 x1 s0
def bX11_conditionsOfWay_63 (k103 : Int → Int → Int → Int → Int → jMem → jO) (rec : Int → Int → Int → Int → Int → Int → jMem → jO) (l1 l2 l3 l4 l5 l6 : Int) (s0 : jMem) : jO :=
if l5 ≤ l6 then (
k103 l1 l2 l3 l4 l5 s0)
else (
if l3 = 0 then (
jGd ((0 : Int) ≤ l6 ∧ l6 < jik 71) <| jLet (s0 71 l6) fun x6 =>
jGd ((0 : Int) ≤ l5 ∧ l5 < jik 71) <| jLet (s0 71 l5) fun x9 =>
if x6 = x9 then (
bX11_conditionsOfWay_91 (bX11_conditionsOfWay_96 rec) l1 l2 l4 l5 l6 s0)
else (
bX11_conditionsOfWay_96 rec l1 l2 l4 l5 l6 0 s0))
else (
bX11_conditionsOfWay_91 (bX11_conditionsOfWay_96 rec) l1 l2 l4 l5 l6 s0))
def bX11_conditionsOfWay_133 (k134 : Int → Int → Int → Int → Int → Int → jMem → jO) (l1 l3 l4 l5 t0 : Int) (s0 : jMem) : jO :=
k134 l1 l3 l4 l5 t0 0 s0
def bX11_conditionsOfWay_134 (k12 : Int → Int → Int → Int → Int → jMem → jO) (l1 l3 l4 l5 t0 t1 : Int) (s0 : jMem) : jO :=
jLet (j32 (t0 + t1)) fun x1 =>
jLet (j32 (l5 + 1)) fun x2 =>
k12 l1 x1 l3 l4 x2 s0
def bX11_conditionsOfWay_103 (k12 : Int → Int → Int → Int → Int → jMem → jO) (l1 l2 l3 l4 l5 : Int) (s0 : jMem) : jO :=
jGd ((0 : Int) ≤ l5 ∧ l5 < jik 71) <| jLet (s0 71 l5) fun x4 =>
jGd (¬ (100 : Int) = 0) <| jLet (jdiv x4 100) fun x5 =>
if x5 = 2 then (
jLet (s0 53 20) fun x8 =>
jLet (j32 (5 - x8)) fun x9 =>
if x9 ≤ l5 then (
bX11_conditionsOfWay_133 (bX11_conditionsOfWay_134 k12) l1 l3 l4 l5 l2 s0)
else (
bX11_conditionsOfWay_134 k12 l1 l3 l4 l5 l2 1 s0))
else (
bX11_conditionsOfWay_133 (bX11_conditionsOfWay_134 k12) l1 l3 l4 l5 l2 s0)
def bX11_conditionsOfWay_41 (k12 : Int → Int → Int → Int → Int → jMem → jO) (l1 l2 l3 l5 t0 : Int) (s0 : jMem) : jO :=
jGd ((0 : Int) ≤ l5 ∧ l5 < jik 71) <| jLet (s0 71 l5) fun x3 =>
jGd (¬ (100 : Int) = 0) <| jLet (jdiv x3 100) fun x4 =>
if x4 = 1 then (
jLet (j32 (l1 + 1)) fun x5 =>
jIt (fun _ _ _ _ _ _ _ => none) (bX11_conditionsOfWay_63 (bX11_conditionsOfWay_103 k12)) 1000 x5 l2 l3 t0 l5 1 s0)
else (
bX11_conditionsOfWay_103 k12 l1 l2 l3 t0 l5 s0)
def bX11_conditionsOfWay_12 (k142 : Int → Int → Int → Int → jMem → jO) (rec : Int → Int → Int → Int → Int → jMem → jO) (l1 l2 l3 l4 l5 : Int) (s0 : jMem) : jO :=
if 5 ≤ l5 then (
k142 l1 l2 l3 l4 s0)
else (
if l4 = 0 then (
bX11_conditionsOfWay_40 (bX11_conditionsOfWay_41 rec) l1 l2 l3 l5 s0)
else (
jGd ((0 : Int) ≤ l5 ∧ l5 < jik 71) <| jLet (s0 71 l5) fun x5 =>
jBd (fX11_hasOuter x5 s0) fun x6 s7 =>
if x6 = 0 then (
bX11_conditionsOfWay_40 (bX11_conditionsOfWay_41 rec) l1 l2 l3 l5 s7)
else (
bX11_conditionsOfWay_41 rec l1 l2 l3 l5 1 s7)))
def bX11_conditionsOfWay_248 (l2 t0 t1 : Int) (s0 : jMem) : jO :=
jLet (jor t0 t1) fun x1 =>
if l2 < 3 then (
jLet (jor x1 0) fun x4 =>
jRet x4 s0)
else (
jLet (jor x1 128) fun x5 =>
jRet x5 s0)
def bX11_conditionsOfWay_233 (l2 l3 t0 t1 : Int) (s0 : jMem) : jO :=
jLet (jor t0 t1) fun x1 =>
if l3 = 0 then (
bX11_conditionsOfWay_248 l2 x1 0 s0)
else (
bX11_conditionsOfWay_248 l2 x1 64 s0)
def bX11_conditionsOfWay_215 (l2 l3 t0 t1 : Int) (s0 : jMem) : jO :=
jLet (jor t0 t1) fun x1 =>
jLet (s0 53 20) fun x4 =>
if x4 = 0 then (
bX11_conditionsOfWay_233 l2 l3 x1 32 s0)
else (
bX11_conditionsOfWay_233 l2 l3 x1 0 s0)
def bX11_conditionsOfWay_197 (l2 l3 t0 t1 : Int) (s0 : jMem) : jO :=
jLet (jor t0 t1) fun x1 =>
jBd (fX11_isOneRow s0) fun x4 s5 =>
if x4 = 0 then (
bX11_conditionsOfWay_215 l2 l3 x1 0 s5)
else (
bX11_conditionsOfWay_215 l2 l3 x1 16 s5)
def bX11_conditionsOfWay_181 (l2 l3 l4 t0 t1 : Int) (s0 : jMem) : jO :=
jLet (jor t0 t1) fun x1 =>
if l4 = 0 then (
bX11_conditionsOfWay_197 l2 l3 x1 0 s0)
else (
bX11_conditionsOfWay_197 l2 l3 x1 8 s0)
def bX11_conditionsOfWay_160 (l2 l3 l4 t0 : Int) (s0 : jMem) : jO :=
jGd ((0 : Int) ≤ 0 ∧ 0 < jik 71) <| jLet (s0 71 0) fun x3 =>
jBd (fX11_isOuter x3 s0) fun x4 s5 =>
if x4 = 0 then (
bX11_conditionsOfWay_181 l2 l3 l4 t0 0 s5)
else (
bX11_conditionsOfWay_181 l2 l3 l4 t0 4 s5)
def bX11_conditionsOfWay_142 (l1 l2 l3 l4 : Int) (s0 : jMem) : jO :=
if l1 = 4 then (
bX11_conditionsOfWay_160 l2 l3 l4 1 s0)
else (
if l1 = 0 then (
bX11_conditionsOfWay_160 l2 l3 l4 2 s0)
else (
bX11_conditionsOfWay_160 l2 l3 l4 0 s0))
def fX11_conditionsOfWay (s0 : jMem) : jO :=
jIt (fun _ _ _ _ _ _ => none) (bX11_conditionsOfWay_12 bX11_conditionsOfWay_142) 1000 0 0 0 1 0 s0
def bX11_conditionsOfSeven_30 (k35 : Int → Int → jMem → jO) (l2 : Int) (s0 : jMem) : jO :=
k35 l2 1 s0
def bX11_conditionsOfSeven_34 (k35 : Int → Int → jMem → jO) (l2 : Int) (s0 : jMem) : jO :=
k35 l2 0 s0
def bX11_conditionsOfSeven_35 (k4 : Int → Int → jMem → jO) (l2 t0 : Int) (s0 : jMem) : jO :=
jLet (j32 (l2 + 1)) fun x1 =>
k4 t0 x1 s0
def bX11_conditionsOfSeven_4 (k42 : Int → jMem → jO) (rec : Int → Int → jMem → jO) (l1 l2 : Int) (s0 : jMem) : jO :=
if 34 ≤ l2 then (
k42 l1 s0)
else (
if l1 = 0 then (
bX11_conditionsOfSeven_34 (bX11_conditionsOfSeven_35 rec) l2 s0)
else (
jGd ((0 : Int) ≤ l2 ∧ l2 < jik 68) <| jLet (s0 68 l2) fun x5 =>
if x5 = 0 then (
bX11_conditionsOfSeven_30 (bX11_conditionsOfSeven_35 rec) l2 s0)
else (
jBd (fX11_isOuter l2 s0) fun x7 s8 =>
if x7 = 0 then (
bX11_conditionsOfSeven_34 (bX11_conditionsOfSeven_35 rec) l2 s8)
else (
bX11_conditionsOfSeven_30 (bX11_conditionsOfSeven_35 rec) l2 s8))))
def bX11_conditionsOfSeven_65 (t0 t1 : Int) (s0 : jMem) : jO :=
jLet (jor t0 t1) fun x1 =>
jLet (jor x1 32) fun x2 =>
jLet (jor x2 256) fun x3 =>
jRet x3 s0
def bX11_conditionsOfSeven_52 (t0 : Int) (s0 : jMem) : jO :=
jBd (fX11_isOneRow s0) fun x2 s3 =>
if x2 = 0 then (
bX11_conditionsOfSeven_65 t0 0 s3)
else (
bX11_conditionsOfSeven_65 t0 16 s3)
def bX11_conditionsOfSeven_42 (l1 : Int) (s0 : jMem) : jO :=
if l1 = 0 then (
bX11_conditionsOfSeven_52 0 s0)
else (
bX11_conditionsOfSeven_52 12 s0)
def fX11_conditionsOfSeven (s0 : jMem) : jO :=
jIt (fun _ _ _ => none) (bX11_conditionsOfSeven_4 bX11_conditionsOfSeven_42) 1000 1 0 s0
def bX11_sumOf_87 (k92 : Int → Int → Int → Int → Int → jMem → jO) (l1 l2 l3 l5 : Int) (s0 : jMem) : jO :=
k92 l1 l2 l3 l5 1 s0
def bX11_sumOf_91 (k92 : Int → Int → Int → Int → Int → jMem → jO) (l1 l2 l3 l5 : Int) (s0 : jMem) : jO :=
k92 l1 l2 l3 l5 0 s0
def bX11_sumOf_92 (k36 : Int → Int → Int → Int → Int → jMem → jO) (l1 l2 l3 l5 t0 : Int) (s0 : jMem) : jO :=
jLet (j32 (l5 + 1)) fun x1 =>
k36 l1 l2 l3 t0 x1 s0
def bX11_sumOf_36 (k100 : Int → Int → Int → Int → jMem → jO) (rec : Int → Int → Int → Int → Int → jMem → jO) (l1 l2 l3 l4 l5 : Int) (s0 : jMem) : jO :=
jLet (s0 53 12) fun x3 =>
if x3 ≤ l5 then (
k100 l1 l2 l3 l4 s0)
else (
if l4 = 0 then (
bX11_sumOf_91 (bX11_sumOf_92 rec) l1 l2 l3 l5 s0)
else (
if l5 = l3 then (
bX11_sumOf_87 (bX11_sumOf_92 rec) l1 l2 l3 l5 s0)
else (
jGd ((0 : Int) ≤ l5 ∧ l5 < jik 65) <| jLet (s0 65 l5) fun x9 =>
jGd ((0 : Int) ≤ l3 ∧ l3 < jik 63) <| jLet (s0 63 l3) fun x12 =>
if x9 = x12 then (
jGd ((0 : Int) ≤ l5 ∧ l5 < jik 63) <| jLet (s0 63 l5) fun x16 =>
jLet (jshr l1 x16) fun x17 =>
jLet (jand x17 1) fun x18 =>
if x18 = 1 then (
bX11_sumOf_91 (bX11_sumOf_92 rec) l1 l2 l3 l5 s0)
else (
bX11_sumOf_87 (bX11_sumOf_92 rec) l1 l2 l3 l5 s0))
else (
bX11_sumOf_87 (bX11_sumOf_92 rec) l1 l2 l3 l5 s0))))
def bX11_sumOf_116 (k4 : Int → Int → Int → jMem → jO) (l1 l3 t0 t1 : Int) (s0 : jMem) : jO :=
jLet (j32 (t0 + t1)) fun x1 =>
jLet (j32 (l3 + 1)) fun x2 =>
k4 l1 x1 x2 s0
def bX11_sumOf_100 (k4 : Int → Int → Int → jMem → jO) (l1 l2 l3 l4 : Int) (s0 : jMem) : jO :=
if l4 = 0 then (
bX11_sumOf_116 k4 l1 l3 l2 0 s0)
else (
jGd ((0 : Int) ≤ l3 ∧ l3 < jik 64) <| jLet (s0 64 l3) fun x5 =>
bX11_sumOf_116 k4 l1 l3 l2 x5 s0)
def bX11_sumOf_31 (k4 : Int → Int → Int → jMem → jO) (l1 l2 l3 t0 : Int) (s0 : jMem) : jO :=
jIt (fun _ _ _ _ _ _ => none) (bX11_sumOf_36 (bX11_sumOf_100 k4)) 1000 l1 l2 l3 t0 0 s0
def bX11_sumOf_4 (rec : Int → Int → Int → jMem → jO) (l1 l2 l3 : Int) (s0 : jMem) : jO :=
jLet (s0 53 12) fun x3 =>
if x3 ≤ l3 then (
jRet l2 s0)
else (
jGd ((0 : Int) ≤ l3 ∧ l3 < jik 63) <| jLet (s0 63 l3) fun x8 =>
jLet (jshr l1 x8) fun x9 =>
jLet (jand x9 1) fun x10 =>
if x10 = 1 then (
bX11_sumOf_31 rec l1 l2 l3 1 s0)
else (
bX11_sumOf_31 rec l1 l2 l3 0 s0))
def fX11_sumOf (l1 : Int) (s0 : jMem) : jO :=
jIt (fun _ _ _ _ => none) (bX11_sumOf_4) 1000 l1 0 0 s0
def fX11_tries (l1 l2 l3 : Int) (s0 : jMem) : jO :=
jBd (fX11_sumOf l2 s0) fun x3 s4 =>
jLet (jU s4 53 31 l3) fun s7 =>
if x3 ≤ l3 then (
jRet 0 s7)
else (
jLet (jU s7 53 31 x3) fun s12 =>
jLet (jU s12 53 29 l1) fun s15 =>
jLet (jU s15 53 30 l2) fun s18 =>
jRet 0 s18)
def bX11_worthOf_36 (k77 : Int → jMem → jO) (rec : Int → Int → Int → Int → jMem → jO) (l1 l2 l3 l4 : Int) (s0 : jMem) : jO :=
if l3 ≤ l4 then (
k77 l2 s0)
else (
jBd (fX11_findWay l4 s0) fun x5 s6 =>
jBd (fX11_addOpen l1 s6) fun x9 s10 =>
jBd (fX11_conditionsOfWay s10) fun x14 s15 =>
jBd (fX11_tries l4 x14 l2 s15) fun x17 s18 =>
jLet (s18 53 31) fun x20 =>
jLet (j32 (l4 + 1)) fun x21 =>
rec l1 x20 l3 x21 s18)
def bX11_worthOf_138 (l2 : Int) (s0 : jMem) : jO :=
if 0 ≤ l2 then (
jRet l2 s0)
else (
jRet (-2) s0)
def bX11_worthOf_108 (l2 : Int) (s0 : jMem) : jO :=
jLet (s0 53 11) fun x2 =>
if x2 = 0 then (
bX11_worthOf_138 l2 s0)
else (
jBd (fX11_isOuterHand s0) fun x4 s5 =>
if x4 = 0 then (
bX11_worthOf_138 l2 s5)
else (
jBd (fX11_tries 1001 552 l2 s5) fun x8 s9 =>
jLet (s9 53 31) fun x11 =>
bX11_worthOf_138 x11 s9))
def bX11_worthOf_77 (l2 : Int) (s0 : jMem) : jO :=
jLet (s0 53 10) fun x2 =>
if x2 = 0 then (
bX11_worthOf_108 l2 s0)
else (
jBd (fX11_isSeven s0) fun x4 s5 =>
if x4 = 0 then (
bX11_worthOf_108 l2 s5)
else (
jBd (fX11_conditionsOfSeven s5) fun x8 s9 =>
jBd (fX11_tries 1000 x8 l2 s9) fun x11 s12 =>
jLet (s12 53 31) fun x14 =>
bX11_worthOf_108 x14 s12))
def fX11_worthOf (l1 : Int) (s0 : jMem) : jO :=
jBd (fX11_isHand l1 s0) fun x2 s3 =>
if x2 = 0 then (
jRet (-1) s3)
else (
jBd (fX11_isFull l1 s3) fun x6 s7 =>
if x6 = 0 then (
jRet (-2) s7)
else (
jBd (fX11_look l1 s7) fun x10 s11 =>
jBd (fX11_findWay (-1) s11) fun x13 s14 =>
jIt (fun _ _ _ _ _ => none) (bX11_worthOf_36 bX11_worthOf_77) 1000 l1 (-1) x13 0 s14))
def fX11_worth (l1 : Int) (s0 : jMem) : jO :=
jBd (fX11_worthOf l1 s0) fun x3 s4 =>
jRet x3 s4
def fX11_by (l1 : Int) (s0 : jMem) : jO :=
jBd (fX11_worthOf l1 s0) fun x3 s4 =>
if 0 ≤ x3 then (
jLet (s4 53 29) fun x7 =>
jRet x7 s4)
else (
jRet x3 s4)
def fX11_holds (l1 l2 : Int) (s0 : jMem) : jO :=
jBd (fX11_isHand l1 s0) fun x2 s3 =>
if x2 = 0 then (
jRet (-1) s3)
else (
jBd (fX11_in l2 0 9 s3) fun x5 s6 =>
if x5 = 0 then (
jRet (-1) s6)
else (
jBd (fX11_worthOf l1 s6) fun x9 s10 =>
if 0 ≤ x9 then (
jLet (s10 53 30) fun x13 =>
jLet (jshr x13 l2) fun x15 =>
jLet (jand x15 1) fun x16 =>
jRet x16 s10)
else (
jRet x9 s10)))

section
def fL_some (l0 l1 : Int) (s0 : jMem) : jO :=
jLet (jand l0 2147483647) fun x2 =>
jGd (¬ (l1 : Int) = 0) <| jLet (jrem x2 l1) fun x4 =>
jRet x4 s0
def gL_some (vs : List Int) (s : jMem) : jO := match vs with
  | [a0, a1] => fL_some a0 a1 s
  | _ => none
set_option maxRecDepth 100000 in
set_option maxHeartbeats 4000000 in
theorem oL_some : jOk ML_some [1, 1] 0 (jFn gL_some) := by
  refine jOk_fn (by decide +kernel) (Nat.le_of_ble_eq_true rfl) (by decide +kernel) (.inr (.inl rfl)) ?_
  intro E vs s0 Rr hF ha
  obtain ⟨l0, t0, rfl, r_l0, ha⟩ := jRa_ci ha
  obtain ⟨l1, t1, rfl, r_l1, ha⟩ := jRa_ci ha
  obtain rfl := jRa_ni ha
  replace hF : jHo Rr (fL_some l0 l1 s0) := hF
  refine jg_norm [1, 1] [l0, l1] rfl rfl ?_
  unfold fL_some at hF
  refine ji_iload_n (n := 0) (pc := 0) l0 rfl rfl rfl dL_some_0 (fun r1 => ?_)
  refine jg_ldc (n := 2147483647) (pc := 1) wnL_8 dL_some_1 ?_
  refine ji_iand (pc := 3)  hF dL_some_3 (fun x2 r_x2 hF => ?_)
  refine ji_iload_n (n := 1) (pc := 4) l1 rfl rfl rfl dL_some_4 (fun r3 => ?_)
  refine ji_irem (pc := 5) r3 hF dL_some_5 (fun x4 r_x4 hF => ?_)
  exact ji_reti (pc := 6) rfl r_x4 hF dL_some_6
def fL_act (l1 : Int) (s0 : jMem) : jO :=
jLet (jshr l1 3) fun x2 =>
jLet (jand x2 3) fun x3 =>
jLet (jshr l1 5) fun x5 =>
jBd (fL_some x5 34 s0) fun x6 s7 =>
jLet (jand l1 7) fun x9 =>
if x9 = 0 then (
jBd (fX10_draw x3 s7) fun x12 s13 =>
jRet x12 s13)
else if x9 = 1 then (
jBd (fX10_take x3 x6 s7) fun x18 s19 =>
jRet x18 s19)
else if x9 = 2 then (
jBd (fX10_discard x3 x6 s7) fun x24 s25 =>
jRet x24 s25)
else if x9 = 3 then (
jBd (fX10_discard x3 x6 s7) fun x30 s31 =>
jRet x30 s31)
else if x9 = 4 then (
jLet (jshr l1 12) fun x36 =>
jBd (fL_some x36 3 s7) fun x37 s38 =>
jLet (j32 (1 + x37)) fun x39 =>
jBd (fX10_open x3 x39 x6 s38) fun x41 s42 =>
jRet x41 s42)
else if x9 = 5 then (
jBd (fX10_best x3 s7) fun x46 s47 =>
if 0 ≤ x46 then (
jBd (fX10_best x3 s47) fun x52 s53 =>
jBd (fX10_discard x3 x52 s53) fun x54 s55 =>
jRet x54 s55)
else (
jBd (fX10_draw x3 s47) fun x58 s59 =>
jRet x58 s59))
else if x9 = 6 then (
jLet (jshr l1 20) fun x62 =>
jLet (jand x62 15) fun x63 =>
if x63 = 0 then (
jBd (fX10_clear x3 s7) fun x74 s75 =>
jRet x74 s75)
else (
jLet (jshr l1 12) fun x67 =>
jBd (fL_some x67 34 s7) fun x68 s69 =>
jBd (fX10_discard x3 x68 s69) fun x70 s71 =>
jRet x70 s71))
else (
jBd (fX10_distance x3 s7) fun x79 s80 =>
jRet x79 s80)
def gL_act (vs : List Int) (s : jMem) : jO := match vs with
  | [a0, a1] => jGd (a0 = 0) <| fL_act a1 s
  | _ => none
set_option maxRecDepth 100000 in
set_option maxHeartbeats 4000000 in
theorem oL_act : jOk ML_act [3, 1] 7 (jFn gL_act) := by
  refine jOk_fn (by decide +kernel) (Nat.le_of_ble_eq_true rfl) (by decide +kernel) (.inr (.inl rfl)) ?_
  intro E vs s0 Rr hF ha
  obtain ⟨l0, t0, rfl, r_l0, ha⟩ := jRa_ci ha
  obtain ⟨l1, t1, rfl, r_l1, ha⟩ := jRa_ci ha
  obtain rfl := jRa_ni ha
  replace hF : jHo Rr (jGd (l0 = 0) <| fL_act l1 s0) := hF
  have hG := jHo_as hF
  clear hF
  obtain ⟨rfl, hF⟩ := hG
  refine jg_norm [3, 1, 0, 0] [0, l1, 0, 0] rfl rfl ?_
  unfold fL_act at hF
  refine ji_iload_n (n := 1) (pc := 0) l1 rfl rfl rfl dL_act_0 (fun r1 => ?_)
  refine ji_iconst (pc := 1) dL_act_1 ?_
  refine ji_ishr (pc := 2)  hF dL_act_2 (fun x2 r_x2 hF => ?_)
  refine ji_iconst (pc := 3) dL_act_3 ?_
  refine ji_iand (pc := 4)  hF dL_act_4 (fun x3 r_x3 hF => ?_)
  refine ji_istore_n (n := 2) (pc := 5) [3, 1, 1, 0] [0, l1, x3, 0] rfl r_x3 (Nat.le_of_ble_eq_true rfl) rfl rfl dL_act_5 ?_
  refine ji_iload_n (n := 1) (pc := 6) l1 rfl rfl rfl dL_act_6 (fun r4 => ?_)
  refine ji_iconst (pc := 7) dL_act_7 ?_
  refine ji_ishr (pc := 8)  hF dL_act_8 (fun x5 r_x5 hF => ?_)
  refine jg_bipush (pc := 9) rfl dL_act_9 ?_
  refine ji_callSi (pc := 11) [x5, 34] ([]) oL_some wlL_9 wmL_some rfl rfl (Nat.le_of_ble_eq_true rfl) (jRaC r_x5 (jRaC (jRc rfl) jRa0)) rfl rfl (Nat.le_of_ble_eq_true rfl) hF dL_act_11 (fun x6 s7 r_x6 hF => ?_)
  refine ji_istore_n (n := 3) (pc := 14) [3, 1, 1, 1] [0, l1, x3, x6] rfl r_x6 (Nat.le_of_ble_eq_true rfl) rfl rfl dL_act_14 ?_
  refine ji_iload_n (n := 1) (pc := 15) l1 rfl rfl rfl dL_act_15 (fun r8 => ?_)
  refine jg_bipush (pc := 16) rfl dL_act_16 ?_
  refine ji_iand (pc := 18)  hF dL_act_18 (fun x9 r_x9 hF => ?_)
  refine jHo_if hF (fun h14 hF => ?_) (fun h14 hF => ?_)
  · refine jg_tswIn (pc := 19) 60 r_x9 (by omega) (by omega) (by rw [h14]; rfl) rfl dL_act_19 ?_
    refine ji_aload_n (n := 0) (pc := 60) 0 rfl rfl rfl dL_act_60 (fun r10 => ?_)
    refine ji_iload_n (n := 2) (pc := 61) x3 rfl rfl rfl dL_act_61 (fun r11 => ?_)
    refine ji_callVi (pc := 62) 0 [x3] ([]) oX10_draw wlL_15 wmX10_draw rfl rfl (Nat.le_of_ble_eq_true rfl) (jRaC (jRc3 rfl) (jRaC r11 jRa0)) rfl jcl_0 rfl (Nat.le_of_ble_eq_true rfl) hF dL_act_62 (fun x12 s13 r_x12 hF => ?_)
    exact ji_reti (pc := 65) rfl r_x12 hF dL_act_65
  refine jHo_if hF (fun h20 hF => ?_) (fun h20 hF => ?_)
  · refine jg_tswIn (pc := 19) 66 r_x9 (by omega) (by omega) (by rw [h20]; rfl) rfl dL_act_19 ?_
    refine ji_aload_n (n := 0) (pc := 66) 0 rfl rfl rfl dL_act_66 (fun r15 => ?_)
    refine ji_iload_n (n := 2) (pc := 67) x3 rfl rfl rfl dL_act_67 (fun r16 => ?_)
    refine ji_iload_n (n := 3) (pc := 68) x6 rfl rfl rfl dL_act_68 (fun r17 => ?_)
    refine ji_callVi (pc := 69) 0 [x3, x6] ([]) oX10_take wlL_21 wmX10_take rfl rfl (Nat.le_of_ble_eq_true rfl) (jRaC (jRc3 rfl) (jRaC r16 (jRaC r17 jRa0))) rfl jcl_0 rfl (Nat.le_of_ble_eq_true rfl) hF dL_act_69 (fun x18 s19 r_x18 hF => ?_)
    exact ji_reti (pc := 72) rfl r_x18 hF dL_act_72
  refine jHo_if hF (fun h26 hF => ?_) (fun h26 hF => ?_)
  · refine jg_tswIn (pc := 19) 73 r_x9 (by omega) (by omega) (by rw [h26]; rfl) rfl dL_act_19 ?_
    refine ji_aload_n (n := 0) (pc := 73) 0 rfl rfl rfl dL_act_73 (fun r21 => ?_)
    refine ji_iload_n (n := 2) (pc := 74) x3 rfl rfl rfl dL_act_74 (fun r22 => ?_)
    refine ji_iload_n (n := 3) (pc := 75) x6 rfl rfl rfl dL_act_75 (fun r23 => ?_)
    refine ji_callVi (pc := 76) 0 [x3, x6] ([]) oX10_discard wlL_24 wmX10_discard rfl rfl (Nat.le_of_ble_eq_true rfl) (jRaC (jRc3 rfl) (jRaC r22 (jRaC r23 jRa0))) rfl jcl_0 rfl (Nat.le_of_ble_eq_true rfl) hF dL_act_76 (fun x24 s25 r_x24 hF => ?_)
    exact ji_reti (pc := 79) rfl r_x24 hF dL_act_79
  refine jHo_if hF (fun h32 hF => ?_) (fun h32 hF => ?_)
  · refine jg_tswIn (pc := 19) 73 r_x9 (by omega) (by omega) (by rw [h32]; rfl) rfl dL_act_19 ?_
    refine ji_aload_n (n := 0) (pc := 73) 0 rfl rfl rfl dL_act_73 (fun r27 => ?_)
    refine ji_iload_n (n := 2) (pc := 74) x3 rfl rfl rfl dL_act_74 (fun r28 => ?_)
    refine ji_iload_n (n := 3) (pc := 75) x6 rfl rfl rfl dL_act_75 (fun r29 => ?_)
    refine ji_callVi (pc := 76) 0 [x3, x6] ([]) oX10_discard wlL_24 wmX10_discard rfl rfl (Nat.le_of_ble_eq_true rfl) (jRaC (jRc3 rfl) (jRaC r28 (jRaC r29 jRa0))) rfl jcl_0 rfl (Nat.le_of_ble_eq_true rfl) hF dL_act_76 (fun x30 s31 r_x30 hF => ?_)
    exact ji_reti (pc := 79) rfl r_x30 hF dL_act_79
  refine jHo_if hF (fun h43 hF => ?_) (fun h43 hF => ?_)
  · refine jg_tswIn (pc := 19) 80 r_x9 (by omega) (by omega) (by rw [h43]; rfl) rfl dL_act_19 ?_
    refine ji_aload_n (n := 0) (pc := 80) 0 rfl rfl rfl dL_act_80 (fun r33 => ?_)
    refine ji_iload_n (n := 2) (pc := 81) x3 rfl rfl rfl dL_act_81 (fun r34 => ?_)
    refine ji_iconst (pc := 82) dL_act_82 ?_
    refine ji_iload_n (n := 1) (pc := 83) l1 rfl rfl rfl dL_act_83 (fun r35 => ?_)
    refine jg_bipush (pc := 84) rfl dL_act_84 ?_
    refine ji_ishr (pc := 86)  hF dL_act_86 (fun x36 r_x36 hF => ?_)
    refine ji_iconst (pc := 87) dL_act_87 ?_
    refine ji_callSi (pc := 88) [x36, 3] (jV E 1 1 :: jV E 1 x3 :: jV E 3 0 :: []) oL_some wlL_9 wmL_some rfl rfl (Nat.le_of_ble_eq_true rfl) (jRaC r_x36 (jRaC (jRc rfl) jRa0)) rfl rfl (Nat.le_of_ble_eq_true rfl) hF dL_act_88 (fun x37 s38 r_x37 hF => ?_)
    refine ji_iadd (pc := 91)  hF dL_act_91 (fun x39 r_x39 hF => ?_)
    refine ji_iload_n (n := 3) (pc := 92) x6 rfl rfl rfl dL_act_92 (fun r40 => ?_)
    refine ji_callVi (pc := 93) 0 [x3, x39, x6] ([]) oX10_open wlL_27 wmX10_open rfl rfl (Nat.le_of_ble_eq_true rfl) (jRaC (jRc3 rfl) (jRaC r34 (jRaC r_x39 (jRaC r40 jRa0)))) rfl jcl_0 rfl (Nat.le_of_ble_eq_true rfl) hF dL_act_93 (fun x41 s42 r_x41 hF => ?_)
    exact ji_reti (pc := 96) rfl r_x41 hF dL_act_96
  refine jHo_if hF (fun h60 hF => ?_) (fun h60 hF => ?_)
  · refine jg_tswIn (pc := 19) 97 r_x9 (by omega) (by omega) (by rw [h60]; rfl) rfl dL_act_19 ?_
    refine ji_aload_n (n := 0) (pc := 97) 0 rfl rfl rfl dL_act_97 (fun r44 => ?_)
    refine ji_iload_n (n := 2) (pc := 98) x3 rfl rfl rfl dL_act_98 (fun r45 => ?_)
    refine ji_callVi (pc := 99) 0 [x3] ([]) oX10_best wlL_31 wmX10_best rfl rfl (Nat.le_of_ble_eq_true rfl) (jRaC (jRc3 rfl) (jRaC r45 jRa0)) rfl jcl_0 rfl (Nat.le_of_ble_eq_true rfl) hF dL_act_99 (fun x46 s47 r_x46 hF => ?_)
    refine ji_if_ge 113 (pc := 102) r_x46 hF dL_act_102 rfl (fun hF => ?_) (fun hF => ?_)
    · refine ji_aload_n (n := 0) (pc := 113) 0 rfl rfl rfl dL_act_113 (fun r48 => ?_)
      refine ji_iload_n (n := 2) (pc := 114) x3 rfl rfl rfl dL_act_114 (fun r49 => ?_)
      refine ji_aload_n (n := 0) (pc := 115) 0 rfl rfl rfl dL_act_115 (fun r50 => ?_)
      refine ji_iload_n (n := 2) (pc := 116) x3 rfl rfl rfl dL_act_116 (fun r51 => ?_)
      refine ji_callVi (pc := 117) 0 [x3] (jV E 1 x3 :: jV E 3 0 :: []) oX10_best wlL_31 wmX10_best rfl rfl (Nat.le_of_ble_eq_true rfl) (jRaC (jRc3 rfl) (jRaC r51 jRa0)) rfl jcl_0 rfl (Nat.le_of_ble_eq_true rfl) hF dL_act_117 (fun x52 s53 r_x52 hF => ?_)
      refine ji_callVi (pc := 120) 0 [x3, x52] ([]) oX10_discard wlL_24 wmX10_discard rfl rfl (Nat.le_of_ble_eq_true rfl) (jRaC (jRc3 rfl) (jRaC r49 (jRaC r_x52 jRa0))) rfl jcl_0 rfl (Nat.le_of_ble_eq_true rfl) hF dL_act_120 (fun x54 s55 r_x54 hF => ?_)
      exact ji_reti (pc := 123) rfl r_x54 hF dL_act_123
    · refine ji_aload_n (n := 0) (pc := 105) 0 rfl rfl rfl dL_act_105 (fun r56 => ?_)
      refine ji_iload_n (n := 2) (pc := 106) x3 rfl rfl rfl dL_act_106 (fun r57 => ?_)
      refine ji_callVi (pc := 107) 0 [x3] ([]) oX10_draw wlL_15 wmX10_draw rfl rfl (Nat.le_of_ble_eq_true rfl) (jRaC (jRc3 rfl) (jRaC r57 jRa0)) rfl jcl_0 rfl (Nat.le_of_ble_eq_true rfl) hF dL_act_107 (fun x58 s59 r_x58 hF => ?_)
      refine jg_goto (pc := 110) 123 dL_act_110 rfl ?_
      exact ji_reti (pc := 123) rfl r_x58 hF dL_act_123
  refine jHo_if hF (fun h76 hF => ?_) (fun h76 hF => ?_)
  · refine jg_tswIn (pc := 19) 124 r_x9 (by omega) (by omega) (by rw [h76]; rfl) rfl dL_act_19 ?_
    refine ji_iload_n (n := 1) (pc := 124) l1 rfl rfl rfl dL_act_124 (fun r61 => ?_)
    refine jg_bipush (pc := 125) rfl dL_act_125 ?_
    refine ji_ishr (pc := 127)  hF dL_act_127 (fun x62 r_x62 hF => ?_)
    refine jg_bipush (pc := 128) rfl dL_act_128 ?_
    refine ji_iand (pc := 130)  hF dL_act_130 (fun x63 r_x63 hF => ?_)
    refine ji_if_ne 142 (pc := 131) r_x63 hF dL_act_131 rfl (fun hF => ?_) (fun hF => ?_)
    · refine ji_aload_n (n := 0) (pc := 142) 0 rfl rfl rfl dL_act_142 (fun r64 => ?_)
      refine ji_iload_n (n := 2) (pc := 143) x3 rfl rfl rfl dL_act_143 (fun r65 => ?_)
      refine ji_iload_n (n := 1) (pc := 144) l1 rfl rfl rfl dL_act_144 (fun r66 => ?_)
      refine jg_bipush (pc := 145) rfl dL_act_145 ?_
      refine ji_ishr (pc := 147)  hF dL_act_147 (fun x67 r_x67 hF => ?_)
      refine jg_bipush (pc := 148) rfl dL_act_148 ?_
      refine ji_callSi (pc := 150) [x67, 34] (jV E 1 x3 :: jV E 3 0 :: []) oL_some wlL_9 wmL_some rfl rfl (Nat.le_of_ble_eq_true rfl) (jRaC r_x67 (jRaC (jRc rfl) jRa0)) rfl rfl (Nat.le_of_ble_eq_true rfl) hF dL_act_150 (fun x68 s69 r_x68 hF => ?_)
      refine ji_callVi (pc := 153) 0 [x3, x68] ([]) oX10_discard wlL_24 wmX10_discard rfl rfl (Nat.le_of_ble_eq_true rfl) (jRaC (jRc3 rfl) (jRaC r65 (jRaC r_x68 jRa0))) rfl jcl_0 rfl (Nat.le_of_ble_eq_true rfl) hF dL_act_153 (fun x70 s71 r_x70 hF => ?_)
      exact ji_reti (pc := 156) rfl r_x70 hF dL_act_156
    · refine ji_aload_n (n := 0) (pc := 134) 0 rfl rfl rfl dL_act_134 (fun r72 => ?_)
      refine ji_iload_n (n := 2) (pc := 135) x3 rfl rfl rfl dL_act_135 (fun r73 => ?_)
      refine ji_callVi (pc := 136) 0 [x3] ([]) oX10_clear wlL_34 wmX10_clear rfl rfl (Nat.le_of_ble_eq_true rfl) (jRaC (jRc3 rfl) (jRaC r73 jRa0)) rfl jcl_0 rfl (Nat.le_of_ble_eq_true rfl) hF dL_act_136 (fun x74 s75 r_x74 hF => ?_)
      refine jg_goto (pc := 139) 156 dL_act_139 rfl ?_
      exact ji_reti (pc := 156) rfl r_x74 hF dL_act_156
  refine jg_tswOut (pc := 19) 157 r_x9 (by omega) rfl dL_act_19 ?_
  refine ji_aload_n (n := 0) (pc := 157) 0 rfl rfl rfl dL_act_157 (fun r77 => ?_)
  refine ji_iload_n (n := 2) (pc := 158) x3 rfl rfl rfl dL_act_158 (fun r78 => ?_)
  refine ji_callVi (pc := 159) 0 [x3] ([]) oX10_distance wlL_37 wmX10_distance rfl rfl (Nat.le_of_ble_eq_true rfl) (jRaC (jRc3 rfl) (jRaC r78 jRa0)) rfl jcl_0 rfl (Nat.le_of_ble_eq_true rfl) hF dL_act_159 (fun x79 s80 r_x79 hF => ?_)
  exact ji_reti (pc := 162) rfl r_x79 hF dL_act_162
def bL_asked_68 (k156 : Int → Int → jMem → jO) (k157 : Int → Int → Int → jMem → jO) (l2 l4 t0 t1 : Int) (s0 : jMem) : jO :=
if t0 = t1 then (
jBd (fX10_tiles 34 0 s0) fun x2 s3 =>
if x2 = (-1) then (
jBd (fX10_take 4 0 s3) fun x5 s6 =>
if x5 = (-1) then (
jBd (fX10_discard 0 (-1) s6) fun x8 s9 =>
if x8 = (-1) then (
jBd (fX10_open 0 0 0 s9) fun x11 s12 =>
if x11 = (-1) then (
jBd (fX10_open 0 1 7 s12) fun x14 s15 =>
if x14 = (-1) then (
jBd (fX10_seed (-1) s15) fun x17 s18 =>
if x17 = (-1) then (
jBd (fX10_deal (-1) s18) fun x20 s21 =>
if x20 = (-1) then (
jBd (fX10_draw (-1) s21) fun x23 s24 =>
if x23 = (-1) then (
k157 l2 l4 1 s24)
else (
k156 l2 l4 s24))
else (
k156 l2 l4 s21))
else (
k156 l2 l4 s18))
else (
k156 l2 l4 s15))
else (
k156 l2 l4 s12))
else (
k156 l2 l4 s9))
else (
k156 l2 l4 s6))
else (
k156 l2 l4 s3))
else (
k156 l2 l4 s0)
def bL_asked_46 (k156 : Int → Int → jMem → jO) (k157 : Int → Int → Int → jMem → jO) (l2 l4 : Int) (s0 : jMem) : jO :=
jBd (fX10_done l2 s0) fun x3 s4 =>
if l4 = 14 then (
jBd (fX10_done l2 s4) fun x8 s9 =>
bL_asked_68 k156 k157 l2 l4 x3 x8 s9)
else (
bL_asked_68 k156 k157 l2 l4 x3 (-2) s4)
def bL_asked_156 (k157 : Int → Int → Int → jMem → jO) (l2 l4 : Int) (s0 : jMem) : jO :=
k157 l2 l4 0 s0
def bL_asked_213 (l2 : Int) (s0 : jMem) : jO :=
jBd (fX10_alike l2 l2 s0) fun x4 s5 =>
if x4 = 1 then (
jRet 1 s5)
else (
jRet 0 s5)
def bL_asked_187 (l2 l4 : Int) (s0 : jMem) : jO :=
if l4 = 13 then (
jBd (fX10_waits l2 0 s0) fun x4 s5 =>
if x4 = (-3) then (
bL_asked_213 l2 s5)
else (
jBd (fX10_distance l2 s5) fun x8 s9 =>
if x8 = 0 then (
bL_asked_213 l2 s9)
else (
jRet 0 s9)))
else (
bL_asked_213 l2 s0)
def bL_asked_157 (l2 l4 t0 : Int) (s0 : jMem) : jO :=
if t0 = 0 then (
jRet 0 s0)
else (
if l4 = 14 then (
jBd (fX10_done l2 s0) fun x5 s6 =>
if x5 = 0 then (
bL_asked_187 l2 l4 s6)
else (
jBd (fX10_distance l2 s6) fun x9 s10 =>
if x9 = 0 then (
bL_asked_187 l2 l4 s10)
else (
jRet 0 s10)))
else (
bL_asked_187 l2 l4 s0))
def bL_asked_32 (l2 l3 l4 t0 t1 : Int) (s0 : jMem) : jO :=
if t0 = t1 then (
if l4 < 13 then (
bL_asked_46 (bL_asked_156 bL_asked_157) bL_asked_157 l2 l4 s0)
else (
if l3 < 0 then (
bL_asked_156 bL_asked_157 l2 l4 s0)
else (
bL_asked_46 (bL_asked_156 bL_asked_157) bL_asked_157 l2 l4 s0)))
else (
bL_asked_156 bL_asked_157 l2 l4 s0)
def fL_asked (l1 : Int) (s0 : jMem) : jO :=
jLet (jand l1 3) fun x2 =>
jBd (fX10_distance x2 s0) fun x5 s6 =>
jBd (fX10_about x2 0 s6) fun x9 s10 =>
if 13 ≤ x9 then (
bL_asked_32 x2 x5 x9 x5 x5 s10)
else (
bL_asked_32 x2 x5 x9 x5 (-2) s10)
def gL_asked (vs : List Int) (s : jMem) : jO := match vs with
  | [a0, a1] => jGd (a0 = 0) <| fL_asked a1 s
  | _ => none
set_option maxRecDepth 100000 in
set_option maxHeartbeats 4000000 in
theorem obL_asked_68 {E : jEnv} {Rr : Int → jMem → Prop} {k156 : Int → Int → jMem → jO} {k157 : Int → Int → Int → jMem → jO} (hk156 : ∀ (l2 l4 : Int) (s : jMem), jHo Rr (k156 l2 l4 s) → jGo E ML_asked 12 Rr [3, 0, 1, 0, 1, 0] 156 [0, 0, l2, 0, l4, 0] ([]) s) (hk157 : ∀ (l2 l4 t0 : Int) (s : jMem), jR 1 t0 → jHo Rr (k157 l2 l4 t0 s) → jGo E ML_asked 12 Rr [3, 0, 1, 0, 1, 0] 157 [0, 0, l2, 0, l4, 0] (jV E 1 t0 :: []) s) : ∀ (l2 l4 t0 t1 : Int) (s : jMem), jR 1 t0 → jR 1 t1 → jHo Rr (bL_asked_68 k156 k157 l2 l4 t0 t1 s) → jGo E ML_asked 12 Rr [3, 0, 1, 0, 1, 0] 68 [0, 0, l2, 0, l4, 0] (jV E 1 t1 :: jV E 1 t0 :: []) s := by
  intro l2 l4 t0 t1 s0 r_t0 r_t1 hF
  unfold bL_asked_68 at hF
  refine ji_icmp_ne 156 (pc := 68) r_t0 r_t1 hF dL_asked_68 rfl (fun hF => ?_) (fun hF => ?_)
  · refine jg_norm [3, 0, 1, 0, 1, 0] [0, 0, l2, 0, l4, 0] rfl rfl ?_
    exact hk156 _ _ _ hF
  · refine ji_aload_n (n := 0) (pc := 71) 0 rfl rfl rfl dL_asked_71 (fun r1 => ?_)
    refine jg_bipush (pc := 72) rfl dL_asked_72 ?_
    refine ji_iconst (pc := 74) dL_asked_74 ?_
    refine ji_callVi (pc := 75) 0 [34, 0] ([]) oX10_tiles wlL_46 wmX10_tiles rfl rfl (Nat.le_of_ble_eq_true rfl) (jRaC (jRc3 rfl) (jRaC (jRc rfl) (jRaC (jRc rfl) jRa0))) rfl jcl_0 rfl (Nat.le_of_ble_eq_true rfl) hF dL_asked_75 (fun x2 s3 r_x2 hF => ?_)
    refine ji_iconst (pc := 78) dL_asked_78 ?_
    refine ji_icmp_ne 156 (pc := 79) r_x2 (jRc rfl) hF dL_asked_79 rfl (fun hF => ?_) (fun hF => ?_)
    · refine jg_norm [3, 0, 1, 0, 1, 0] [0, 0, l2, 0, l4, 0] rfl rfl ?_
      exact hk156 _ _ _ hF
    · refine ji_aload_n (n := 0) (pc := 82) 0 rfl rfl rfl dL_asked_82 (fun r4 => ?_)
      refine ji_iconst (pc := 83) dL_asked_83 ?_
      refine ji_iconst (pc := 84) dL_asked_84 ?_
      refine ji_callVi (pc := 85) 0 [4, 0] ([]) oX10_take wlL_21 wmX10_take rfl rfl (Nat.le_of_ble_eq_true rfl) (jRaC (jRc3 rfl) (jRaC (jRc rfl) (jRaC (jRc rfl) jRa0))) rfl jcl_0 rfl (Nat.le_of_ble_eq_true rfl) hF dL_asked_85 (fun x5 s6 r_x5 hF => ?_)
      refine ji_iconst (pc := 88) dL_asked_88 ?_
      refine ji_icmp_ne 156 (pc := 89) r_x5 (jRc rfl) hF dL_asked_89 rfl (fun hF => ?_) (fun hF => ?_)
      · refine jg_norm [3, 0, 1, 0, 1, 0] [0, 0, l2, 0, l4, 0] rfl rfl ?_
        exact hk156 _ _ _ hF
      · refine ji_aload_n (n := 0) (pc := 92) 0 rfl rfl rfl dL_asked_92 (fun r7 => ?_)
        refine ji_iconst (pc := 93) dL_asked_93 ?_
        refine ji_iconst (pc := 94) dL_asked_94 ?_
        refine ji_callVi (pc := 95) 0 [0, (-1)] ([]) oX10_discard wlL_24 wmX10_discard rfl rfl (Nat.le_of_ble_eq_true rfl) (jRaC (jRc3 rfl) (jRaC (jRc rfl) (jRaC (jRc rfl) jRa0))) rfl jcl_0 rfl (Nat.le_of_ble_eq_true rfl) hF dL_asked_95 (fun x8 s9 r_x8 hF => ?_)
        refine ji_iconst (pc := 98) dL_asked_98 ?_
        refine ji_icmp_ne 156 (pc := 99) r_x8 (jRc rfl) hF dL_asked_99 rfl (fun hF => ?_) (fun hF => ?_)
        · refine jg_norm [3, 0, 1, 0, 1, 0] [0, 0, l2, 0, l4, 0] rfl rfl ?_
          exact hk156 _ _ _ hF
        · refine ji_aload_n (n := 0) (pc := 102) 0 rfl rfl rfl dL_asked_102 (fun r10 => ?_)
          refine ji_iconst (pc := 103) dL_asked_103 ?_
          refine ji_iconst (pc := 104) dL_asked_104 ?_
          refine ji_iconst (pc := 105) dL_asked_105 ?_
          refine ji_callVi (pc := 106) 0 [0, 0, 0] ([]) oX10_open wlL_27 wmX10_open rfl rfl (Nat.le_of_ble_eq_true rfl) (jRaC (jRc3 rfl) (jRaC (jRc rfl) (jRaC (jRc rfl) (jRaC (jRc rfl) jRa0)))) rfl jcl_0 rfl (Nat.le_of_ble_eq_true rfl) hF dL_asked_106 (fun x11 s12 r_x11 hF => ?_)
          refine ji_iconst (pc := 109) dL_asked_109 ?_
          refine ji_icmp_ne 156 (pc := 110) r_x11 (jRc rfl) hF dL_asked_110 rfl (fun hF => ?_) (fun hF => ?_)
          · refine jg_norm [3, 0, 1, 0, 1, 0] [0, 0, l2, 0, l4, 0] rfl rfl ?_
            exact hk156 _ _ _ hF
          · refine ji_aload_n (n := 0) (pc := 113) 0 rfl rfl rfl dL_asked_113 (fun r13 => ?_)
            refine ji_iconst (pc := 114) dL_asked_114 ?_
            refine ji_iconst (pc := 115) dL_asked_115 ?_
            refine jg_bipush (pc := 116) rfl dL_asked_116 ?_
            refine ji_callVi (pc := 118) 0 [0, 1, 7] ([]) oX10_open wlL_27 wmX10_open rfl rfl (Nat.le_of_ble_eq_true rfl) (jRaC (jRc3 rfl) (jRaC (jRc rfl) (jRaC (jRc rfl) (jRaC (jRc rfl) jRa0)))) rfl jcl_0 rfl (Nat.le_of_ble_eq_true rfl) hF dL_asked_118 (fun x14 s15 r_x14 hF => ?_)
            refine ji_iconst (pc := 121) dL_asked_121 ?_
            refine ji_icmp_ne 156 (pc := 122) r_x14 (jRc rfl) hF dL_asked_122 rfl (fun hF => ?_) (fun hF => ?_)
            · refine jg_norm [3, 0, 1, 0, 1, 0] [0, 0, l2, 0, l4, 0] rfl rfl ?_
              exact hk156 _ _ _ hF
            · refine ji_aload_n (n := 0) (pc := 125) 0 rfl rfl rfl dL_asked_125 (fun r16 => ?_)
              refine ji_iconst (pc := 126) dL_asked_126 ?_
              refine ji_callVi (pc := 127) 0 [(-1)] ([]) oX10_seed wlL_49 wmX10_seed rfl rfl (Nat.le_of_ble_eq_true rfl) (jRaC (jRc3 rfl) (jRaC (jRc rfl) jRa0)) rfl jcl_0 rfl (Nat.le_of_ble_eq_true rfl) hF dL_asked_127 (fun x17 s18 r_x17 hF => ?_)
              refine ji_iconst (pc := 130) dL_asked_130 ?_
              refine ji_icmp_ne 156 (pc := 131) r_x17 (jRc rfl) hF dL_asked_131 rfl (fun hF => ?_) (fun hF => ?_)
              · refine jg_norm [3, 0, 1, 0, 1, 0] [0, 0, l2, 0, l4, 0] rfl rfl ?_
                exact hk156 _ _ _ hF
              · refine ji_aload_n (n := 0) (pc := 134) 0 rfl rfl rfl dL_asked_134 (fun r19 => ?_)
                refine ji_iconst (pc := 135) dL_asked_135 ?_
                refine ji_callVi (pc := 136) 0 [(-1)] ([]) oX10_deal wlL_52 wmX10_deal rfl rfl (Nat.le_of_ble_eq_true rfl) (jRaC (jRc3 rfl) (jRaC (jRc rfl) jRa0)) rfl jcl_0 rfl (Nat.le_of_ble_eq_true rfl) hF dL_asked_136 (fun x20 s21 r_x20 hF => ?_)
                refine ji_iconst (pc := 139) dL_asked_139 ?_
                refine ji_icmp_ne 156 (pc := 140) r_x20 (jRc rfl) hF dL_asked_140 rfl (fun hF => ?_) (fun hF => ?_)
                · refine jg_norm [3, 0, 1, 0, 1, 0] [0, 0, l2, 0, l4, 0] rfl rfl ?_
                  exact hk156 _ _ _ hF
                · refine ji_aload_n (n := 0) (pc := 143) 0 rfl rfl rfl dL_asked_143 (fun r22 => ?_)
                  refine ji_iconst (pc := 144) dL_asked_144 ?_
                  refine ji_callVi (pc := 145) 0 [(-1)] ([]) oX10_draw wlL_15 wmX10_draw rfl rfl (Nat.le_of_ble_eq_true rfl) (jRaC (jRc3 rfl) (jRaC (jRc rfl) jRa0)) rfl jcl_0 rfl (Nat.le_of_ble_eq_true rfl) hF dL_asked_145 (fun x23 s24 r_x23 hF => ?_)
                  refine ji_iconst (pc := 148) dL_asked_148 ?_
                  refine ji_icmp_ne 156 (pc := 149) r_x23 (jRc rfl) hF dL_asked_149 rfl (fun hF => ?_) (fun hF => ?_)
                  · refine jg_norm [3, 0, 1, 0, 1, 0] [0, 0, l2, 0, l4, 0] rfl rfl ?_
                    exact hk156 _ _ _ hF
                  · refine ji_iconst (pc := 152) dL_asked_152 ?_
                    refine jg_goto (pc := 153) 157 dL_asked_153 rfl ?_
                    refine jg_norm [3, 0, 1, 0, 1, 0] [0, 0, l2, 0, l4, 0] rfl rfl ?_
                    exact hk157 _ _ _ _ (jRc rfl) hF
set_option maxRecDepth 100000 in
set_option maxHeartbeats 4000000 in
theorem obL_asked_46 {E : jEnv} {Rr : Int → jMem → Prop} {k156 : Int → Int → jMem → jO} {k157 : Int → Int → Int → jMem → jO} (hk156 : ∀ (l2 l4 : Int) (s : jMem), jHo Rr (k156 l2 l4 s) → jGo E ML_asked 12 Rr [3, 0, 1, 0, 1, 0] 156 [0, 0, l2, 0, l4, 0] ([]) s) (hk157 : ∀ (l2 l4 t0 : Int) (s : jMem), jR 1 t0 → jHo Rr (k157 l2 l4 t0 s) → jGo E ML_asked 12 Rr [3, 0, 1, 0, 1, 0] 157 [0, 0, l2, 0, l4, 0] (jV E 1 t0 :: []) s) : ∀ (l2 l4 : Int) (s : jMem), jHo Rr (bL_asked_46 k156 k157 l2 l4 s) → jGo E ML_asked 12 Rr [3, 0, 1, 0, 1, 0] 46 [0, 0, l2, 0, l4, 0] ([]) s := by
  intro l2 l4 s0 hF
  unfold bL_asked_46 at hF
  refine ji_aload_n (n := 0) (pc := 46) 0 rfl rfl rfl dL_asked_46 (fun r1 => ?_)
  refine ji_iload_n (n := 2) (pc := 47) l2 rfl rfl rfl dL_asked_47 (fun r2 => ?_)
  refine ji_callVi (pc := 48) 0 [l2] ([]) oX10_done wlL_43 wmX10_done rfl rfl (Nat.le_of_ble_eq_true rfl) (jRaC (jRc3 rfl) (jRaC r2 jRa0)) rfl jcl_0 rfl (Nat.le_of_ble_eq_true rfl) hF dL_asked_48 (fun x3 s4 r_x3 hF => ?_)
  refine ji_iload (pc := 51) l4 rfl rfl dL_asked_51 (fun r5 => ?_)
  refine jg_bipush (pc := 53) rfl dL_asked_53 ?_
  refine ji_icmp_ne 66 (pc := 55) r5 (jRc rfl) hF dL_asked_55 rfl (fun hF => ?_) (fun hF => ?_)
  · refine jg_bipush (pc := 66) rfl dL_asked_66 ?_
    refine jg_norm [3, 0, 1, 0, 1, 0] [0, 0, l2, 0, l4, 0] rfl rfl ?_
    exact obL_asked_68 hk156 hk157 _ _ _ _ _ r_x3 (jRc rfl) hF
  · refine ji_aload_n (n := 0) (pc := 58) 0 rfl rfl rfl dL_asked_58 (fun r6 => ?_)
    refine ji_iload_n (n := 2) (pc := 59) l2 rfl rfl rfl dL_asked_59 (fun r7 => ?_)
    refine ji_callVi (pc := 60) 0 [l2] (jV E 1 x3 :: []) oX10_done wlL_43 wmX10_done rfl rfl (Nat.le_of_ble_eq_true rfl) (jRaC (jRc3 rfl) (jRaC r7 jRa0)) rfl jcl_0 rfl (Nat.le_of_ble_eq_true rfl) hF dL_asked_60 (fun x8 s9 r_x8 hF => ?_)
    refine jg_goto (pc := 63) 68 dL_asked_63 rfl ?_
    refine jg_norm [3, 0, 1, 0, 1, 0] [0, 0, l2, 0, l4, 0] rfl rfl ?_
    exact obL_asked_68 hk156 hk157 _ _ _ _ _ r_x3 r_x8 hF
set_option maxRecDepth 100000 in
set_option maxHeartbeats 4000000 in
theorem obL_asked_156 {E : jEnv} {Rr : Int → jMem → Prop} {k157 : Int → Int → Int → jMem → jO} (hk157 : ∀ (l2 l4 t0 : Int) (s : jMem), jR 1 t0 → jHo Rr (k157 l2 l4 t0 s) → jGo E ML_asked 12 Rr [3, 0, 1, 0, 1, 0] 157 [0, 0, l2, 0, l4, 0] (jV E 1 t0 :: []) s) : ∀ (l2 l4 : Int) (s : jMem), jHo Rr (bL_asked_156 k157 l2 l4 s) → jGo E ML_asked 12 Rr [3, 0, 1, 0, 1, 0] 156 [0, 0, l2, 0, l4, 0] ([]) s := by
  intro l2 l4 s0 hF
  unfold bL_asked_156 at hF
  refine ji_iconst (pc := 156) dL_asked_156 ?_
  refine jg_norm [3, 0, 1, 0, 1, 0] [0, 0, l2, 0, l4, 0] rfl rfl ?_
  exact hk157 _ _ _ _ (jRc rfl) hF
set_option maxRecDepth 100000 in
set_option maxHeartbeats 4000000 in
theorem obL_asked_213 {E : jEnv} {Rr : Int → jMem → Prop} : ∀ (l2 : Int) (s : jMem), jHo Rr (bL_asked_213 l2 s) → jGo E ML_asked 12 Rr [3, 0, 1, 0, 0, 0] 213 [0, 0, l2, 0, 0, 0] ([]) s := by
  intro l2 s0 hF
  unfold bL_asked_213 at hF
  refine ji_aload_n (n := 0) (pc := 213) 0 rfl rfl rfl dL_asked_213 (fun r1 => ?_)
  refine ji_iload_n (n := 2) (pc := 214) l2 rfl rfl rfl dL_asked_214 (fun r2 => ?_)
  refine ji_iload_n (n := 2) (pc := 215) l2 rfl rfl rfl dL_asked_215 (fun r3 => ?_)
  refine ji_callVi (pc := 216) 0 [l2, l2] ([]) oX10_alike wlL_58 wmX10_alike rfl rfl (Nat.le_of_ble_eq_true rfl) (jRaC (jRc3 rfl) (jRaC r2 (jRaC r3 jRa0))) rfl jcl_0 rfl (Nat.le_of_ble_eq_true rfl) hF dL_asked_216 (fun x4 s5 r_x4 hF => ?_)
  refine ji_iconst (pc := 219) dL_asked_219 ?_
  refine ji_icmp_ne 227 (pc := 220) r_x4 (jRc rfl) hF dL_asked_220 rfl (fun hF => ?_) (fun hF => ?_)
  · refine ji_iconst (pc := 227) dL_asked_227 ?_
    exact ji_retz (pc := 228) rfl (jRc5 rfl) hF dL_asked_228
  · refine ji_iconst (pc := 223) dL_asked_223 ?_
    refine jg_goto (pc := 224) 228 dL_asked_224 rfl ?_
    exact ji_retz (pc := 228) rfl (jRc5 rfl) hF dL_asked_228
set_option maxRecDepth 100000 in
set_option maxHeartbeats 4000000 in
theorem obL_asked_187 {E : jEnv} {Rr : Int → jMem → Prop} : ∀ (l2 l4 : Int) (s : jMem), jHo Rr (bL_asked_187 l2 l4 s) → jGo E ML_asked 12 Rr [3, 0, 1, 0, 1, 0] 187 [0, 0, l2, 0, l4, 0] ([]) s := by
  intro l2 l4 s0 hF
  unfold bL_asked_187 at hF
  refine ji_iload (pc := 187) l4 rfl rfl dL_asked_187 (fun r1 => ?_)
  refine jg_bipush (pc := 189) rfl dL_asked_189 ?_
  refine ji_icmp_ne 213 (pc := 191) r1 (jRc rfl) hF dL_asked_191 rfl (fun hF => ?_) (fun hF => ?_)
  · refine jg_norm [3, 0, 1, 0, 0, 0] [0, 0, l2, 0, 0, 0] rfl rfl ?_
    exact obL_asked_213 _ _ hF
  · refine ji_aload_n (n := 0) (pc := 194) 0 rfl rfl rfl dL_asked_194 (fun r2 => ?_)
    refine ji_iload_n (n := 2) (pc := 195) l2 rfl rfl rfl dL_asked_195 (fun r3 => ?_)
    refine ji_iconst (pc := 196) dL_asked_196 ?_
    refine ji_callVi (pc := 197) 0 [l2, 0] ([]) oX10_waits wlL_55 wmX10_waits rfl rfl (Nat.le_of_ble_eq_true rfl) (jRaC (jRc3 rfl) (jRaC r3 (jRaC (jRc rfl) jRa0))) rfl jcl_0 rfl (Nat.le_of_ble_eq_true rfl) hF dL_asked_197 (fun x4 s5 r_x4 hF => ?_)
    refine jg_bipush (pc := 200) rfl dL_asked_200 ?_
    refine ji_icmp_eq 213 (pc := 202) r_x4 (jRc rfl) hF dL_asked_202 rfl (fun hF => ?_) (fun hF => ?_)
    · refine jg_norm [3, 0, 1, 0, 0, 0] [0, 0, l2, 0, 0, 0] rfl rfl ?_
      exact obL_asked_213 _ _ hF
    · refine ji_aload_n (n := 0) (pc := 205) 0 rfl rfl rfl dL_asked_205 (fun r6 => ?_)
      refine ji_iload_n (n := 2) (pc := 206) l2 rfl rfl rfl dL_asked_206 (fun r7 => ?_)
      refine ji_callVi (pc := 207) 0 [l2] ([]) oX10_distance wlL_37 wmX10_distance rfl rfl (Nat.le_of_ble_eq_true rfl) (jRaC (jRc3 rfl) (jRaC r7 jRa0)) rfl jcl_0 rfl (Nat.le_of_ble_eq_true rfl) hF dL_asked_207 (fun x8 s9 r_x8 hF => ?_)
      refine ji_if_ne 227 (pc := 210) r_x8 hF dL_asked_210 rfl (fun hF => ?_) (fun hF => ?_)
      · refine ji_iconst (pc := 227) dL_asked_227 ?_
        exact ji_retz (pc := 228) rfl (jRc5 rfl) hF dL_asked_228
      · refine jg_norm [3, 0, 1, 0, 0, 0] [0, 0, l2, 0, 0, 0] rfl rfl ?_
        exact obL_asked_213 _ _ hF
set_option maxRecDepth 100000 in
set_option maxHeartbeats 4000000 in
theorem obL_asked_157 {E : jEnv} {Rr : Int → jMem → Prop} : ∀ (l2 l4 t0 : Int) (s : jMem), jR 1 t0 → jHo Rr (bL_asked_157 l2 l4 t0 s) → jGo E ML_asked 12 Rr [3, 0, 1, 0, 1, 0] 157 [0, 0, l2, 0, l4, 0] (jV E 1 t0 :: []) s := by
  intro l2 l4 t0 s0 r_t0 hF
  unfold bL_asked_157 at hF
  refine ji_istore (n := 5) (pc := 157) [3, 0, 1, 0, 1, 1] [0, 0, l2, 0, l4, t0] r_t0 (Nat.le_of_ble_eq_true rfl) rfl rfl dL_asked_157 ?_
  refine ji_iload (pc := 159) t0 rfl rfl dL_asked_159 (fun r1 => ?_)
  refine ji_if_eq 227 (pc := 161) r1 hF dL_asked_161 rfl (fun hF => ?_) (fun hF => ?_)
  · refine ji_iconst (pc := 227) dL_asked_227 ?_
    exact ji_retz (pc := 228) rfl (jRc5 rfl) hF dL_asked_228
  · refine ji_iload (pc := 164) l4 rfl rfl dL_asked_164 (fun r2 => ?_)
    refine jg_bipush (pc := 166) rfl dL_asked_166 ?_
    refine ji_icmp_ne 187 (pc := 168) r2 (jRc rfl) hF dL_asked_168 rfl (fun hF => ?_) (fun hF => ?_)
    · refine jg_norm [3, 0, 1, 0, 1, 0] [0, 0, l2, 0, l4, 0] rfl rfl ?_
      exact obL_asked_187 _ _ _ hF
    · refine ji_aload_n (n := 0) (pc := 171) 0 rfl rfl rfl dL_asked_171 (fun r3 => ?_)
      refine ji_iload_n (n := 2) (pc := 172) l2 rfl rfl rfl dL_asked_172 (fun r4 => ?_)
      refine ji_callVi (pc := 173) 0 [l2] ([]) oX10_done wlL_43 wmX10_done rfl rfl (Nat.le_of_ble_eq_true rfl) (jRaC (jRc3 rfl) (jRaC r4 jRa0)) rfl jcl_0 rfl (Nat.le_of_ble_eq_true rfl) hF dL_asked_173 (fun x5 s6 r_x5 hF => ?_)
      refine ji_if_eq 187 (pc := 176) r_x5 hF dL_asked_176 rfl (fun hF => ?_) (fun hF => ?_)
      · refine jg_norm [3, 0, 1, 0, 1, 0] [0, 0, l2, 0, l4, 0] rfl rfl ?_
        exact obL_asked_187 _ _ _ hF
      · refine ji_aload_n (n := 0) (pc := 179) 0 rfl rfl rfl dL_asked_179 (fun r7 => ?_)
        refine ji_iload_n (n := 2) (pc := 180) l2 rfl rfl rfl dL_asked_180 (fun r8 => ?_)
        refine ji_callVi (pc := 181) 0 [l2] ([]) oX10_distance wlL_37 wmX10_distance rfl rfl (Nat.le_of_ble_eq_true rfl) (jRaC (jRc3 rfl) (jRaC r8 jRa0)) rfl jcl_0 rfl (Nat.le_of_ble_eq_true rfl) hF dL_asked_181 (fun x9 s10 r_x9 hF => ?_)
        refine ji_if_ne 227 (pc := 184) r_x9 hF dL_asked_184 rfl (fun hF => ?_) (fun hF => ?_)
        · refine ji_iconst (pc := 227) dL_asked_227 ?_
          exact ji_retz (pc := 228) rfl (jRc5 rfl) hF dL_asked_228
        · refine jg_norm [3, 0, 1, 0, 1, 0] [0, 0, l2, 0, l4, 0] rfl rfl ?_
          exact obL_asked_187 _ _ _ hF
set_option maxRecDepth 100000 in
set_option maxHeartbeats 4000000 in
theorem obL_asked_32 {E : jEnv} {Rr : Int → jMem → Prop} : ∀ (l2 l3 l4 t0 t1 : Int) (s : jMem), jR 1 t0 → jR 1 t1 → jHo Rr (bL_asked_32 l2 l3 l4 t0 t1 s) → jGo E ML_asked 12 Rr [3, 0, 1, 1, 1, 0] 32 [0, 0, l2, l3, l4, 0] (jV E 1 t1 :: jV E 1 t0 :: []) s := by
  intro l2 l3 l4 t0 t1 s0 r_t0 r_t1 hF
  unfold bL_asked_32 at hF
  refine ji_icmp_ne 156 (pc := 32) r_t0 r_t1 hF dL_asked_32 rfl (fun hF => ?_) (fun hF => ?_)
  · refine jg_norm [3, 0, 1, 0, 1, 0] [0, 0, l2, 0, l4, 0] rfl rfl ?_
    exact obL_asked_156 obL_asked_157 _ _ _ hF
  · refine ji_iload (pc := 35) l4 rfl rfl dL_asked_35 (fun r1 => ?_)
    refine jg_bipush (pc := 37) rfl dL_asked_37 ?_
    refine ji_icmp_lt 46 (pc := 39) r1 (jRc rfl) hF dL_asked_39 rfl (fun hF => ?_) (fun hF => ?_)
    · refine jg_norm [3, 0, 1, 0, 1, 0] [0, 0, l2, 0, l4, 0] rfl rfl ?_
      exact obL_asked_46 (obL_asked_156 obL_asked_157) obL_asked_157 _ _ _ hF
    · refine ji_iload_n (n := 3) (pc := 42) l3 rfl rfl rfl dL_asked_42 (fun r2 => ?_)
      refine ji_if_lt 156 (pc := 43) r2 hF dL_asked_43 rfl (fun hF => ?_) (fun hF => ?_)
      · refine jg_norm [3, 0, 1, 0, 1, 0] [0, 0, l2, 0, l4, 0] rfl rfl ?_
        exact obL_asked_156 obL_asked_157 _ _ _ hF
      · refine jg_norm [3, 0, 1, 0, 1, 0] [0, 0, l2, 0, l4, 0] rfl rfl ?_
        exact obL_asked_46 (obL_asked_156 obL_asked_157) obL_asked_157 _ _ _ hF
set_option maxRecDepth 100000 in
set_option maxHeartbeats 4000000 in
theorem oL_asked : jOk ML_asked [3, 1] 12 (jFn gL_asked) := by
  refine jOk_fn (by decide +kernel) (Nat.le_of_ble_eq_true rfl) (by decide +kernel) (.inr (.inr (.inr rfl))) ?_
  intro E vs s0 Rr hF ha
  obtain ⟨l0, t0, rfl, r_l0, ha⟩ := jRa_ci ha
  obtain ⟨l1, t1, rfl, r_l1, ha⟩ := jRa_ci ha
  obtain rfl := jRa_ni ha
  replace hF : jHo Rr (jGd (l0 = 0) <| fL_asked l1 s0) := hF
  have hG := jHo_as hF
  clear hF
  obtain ⟨rfl, hF⟩ := hG
  refine jg_norm [3, 1, 0, 0, 0, 0] [0, l1, 0, 0, 0, 0] rfl rfl ?_
  unfold fL_asked at hF
  refine ji_iload_n (n := 1) (pc := 0) l1 rfl rfl rfl dL_asked_0 (fun r1 => ?_)
  refine ji_iconst (pc := 1) dL_asked_1 ?_
  refine ji_iand (pc := 2)  hF dL_asked_2 (fun x2 r_x2 hF => ?_)
  refine ji_istore_n (n := 2) (pc := 3) [3, 1, 1, 0, 0, 0] [0, l1, x2, 0, 0, 0] rfl r_x2 (Nat.le_of_ble_eq_true rfl) rfl rfl dL_asked_3 ?_
  refine ji_aload_n (n := 0) (pc := 4) 0 rfl rfl rfl dL_asked_4 (fun r3 => ?_)
  refine ji_iload_n (n := 2) (pc := 5) x2 rfl rfl rfl dL_asked_5 (fun r4 => ?_)
  refine ji_callVi (pc := 6) 0 [x2] ([]) oX10_distance wlL_37 wmX10_distance rfl rfl (Nat.le_of_ble_eq_true rfl) (jRaC (jRc3 rfl) (jRaC r4 jRa0)) rfl jcl_0 rfl (Nat.le_of_ble_eq_true rfl) hF dL_asked_6 (fun x5 s6 r_x5 hF => ?_)
  refine ji_istore_n (n := 3) (pc := 9) [3, 1, 1, 1, 0, 0] [0, l1, x2, x5, 0, 0] rfl r_x5 (Nat.le_of_ble_eq_true rfl) rfl rfl dL_asked_9 ?_
  refine ji_aload_n (n := 0) (pc := 10) 0 rfl rfl rfl dL_asked_10 (fun r7 => ?_)
  refine ji_iload_n (n := 2) (pc := 11) x2 rfl rfl rfl dL_asked_11 (fun r8 => ?_)
  refine ji_iconst (pc := 12) dL_asked_12 ?_
  refine ji_callVi (pc := 13) 0 [x2, 0] ([]) oX10_about wlL_40 wmX10_about rfl rfl (Nat.le_of_ble_eq_true rfl) (jRaC (jRc3 rfl) (jRaC r8 (jRaC (jRc rfl) jRa0))) rfl jcl_0 rfl (Nat.le_of_ble_eq_true rfl) hF dL_asked_13 (fun x9 s10 r_x9 hF => ?_)
  refine ji_istore (n := 4) (pc := 16) [3, 1, 1, 1, 1, 0] [0, l1, x2, x5, x9, 0] r_x9 (Nat.le_of_ble_eq_true rfl) rfl rfl dL_asked_16 ?_
  refine ji_iload_n (n := 3) (pc := 18) x5 rfl rfl rfl dL_asked_18 (fun r11 => ?_)
  refine ji_iload (pc := 19) x9 rfl rfl dL_asked_19 (fun r12 => ?_)
  refine jg_bipush (pc := 21) rfl dL_asked_21 ?_
  refine ji_icmp_ge 31 (pc := 23) r12 (jRc rfl) hF dL_asked_23 rfl (fun hF => ?_) (fun hF => ?_)
  · refine ji_iload_n (n := 3) (pc := 31) x5 rfl rfl rfl dL_asked_31 (fun r13 => ?_)
    refine jg_norm [3, 0, 1, 1, 1, 0] [0, 0, x2, x5, x9, 0] rfl rfl ?_
    exact obL_asked_32 _ _ _ _ _ _ r11 r13 hF
  · refine jg_bipush (pc := 26) rfl dL_asked_26 ?_
    refine jg_goto (pc := 28) 32 dL_asked_28 rfl ?_
    refine jg_norm [3, 0, 1, 1, 1, 0] [0, 0, x2, x5, x9, 0] rfl rfl ?_
    exact obL_asked_32 _ _ _ _ _ _ r11 (jRc rfl) hF
end

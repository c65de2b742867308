section
def fX11_holds (l1 l2 : Int) (s0 : jMem) : jO :=
jBd (fX11_isHand l1 s0) fun x2 s3 =>
if x2 = 0 then (
jRet (-1) s3)
else (
jBd (fX11_in l2 0 9 s3) fun x5 s6 =>
if x5 = 0 then (
jRet (-1) s6)
else (
jBd (fX11_worthOf l1 s6) fun x9 s10 =>
if 0 ≤ x9 then (
jLet (s10 53 30) fun x13 =>
jLet (jshr x13 l2) fun x15 =>
jLet (jand x15 1) fun x16 =>
jRet x16 s10)
else (
jRet x9 s10)))
def gX11_holds (vs : List Int) (s : jMem) : jO := match vs with
  | [a0, a1, a2] => jGd (a0 = 53) <| fX11_holds a1 a2 s
  | _ => none
set_option maxRecDepth 100000 in
set_option maxHeartbeats 4000000 in
theorem oX11_holds : jOk MX11_holds [3, 1, 1] 4 (jFn gX11_holds) := by
  refine jOk_fn (by decide +kernel) (Nat.le_of_ble_eq_true rfl) (by decide +kernel) (.inr (.inl rfl)) ?_
  intro E vs s0 Rr hF ha
  obtain ⟨l0, t0, rfl, r_l0, ha⟩ := jRa_ci ha
  obtain ⟨l1, t1, rfl, r_l1, ha⟩ := jRa_ci ha
  obtain ⟨l2, t2, rfl, r_l2, ha⟩ := jRa_ci ha
  obtain rfl := jRa_ni ha
  replace hF : jHo Rr (jGd (l0 = 53) <| fX11_holds l1 l2 s0) := hF
  have hG := jHo_as hF
  clear hF
  obtain ⟨rfl, hF⟩ := hG
  refine jg_norm [3, 1, 1, 0] [53, l1, l2, 0] rfl rfl ?_
  unfold fX11_holds at hF
  refine ji_iload_n (n := 1) (pc := 0) l1 rfl rfl rfl dX11_holds_0 (fun r1 => ?_)
  refine ji_callSz (pc := 1) [l1] ([]) oX11_isHand wlX11_114 wmX11_isHand rfl rfl (Nat.le_of_ble_eq_true rfl) (jRaC r1 jRa0) rfl rfl (Nat.le_of_ble_eq_true rfl) hF dX11_holds_1 (fun x2 s3 r_x2 hF => ?_)
  refine ji_if_eq 19 (pc := 4) (jR51 r_x2) hF dX11_holds_4 rfl (fun hF => ?_) (fun hF => ?_)
  · refine ji_iconst (pc := 19) dX11_holds_19 ?_
    exact ji_reti (pc := 20) rfl (jRc rfl) hF dX11_holds_20
  · refine ji_iload_n (n := 2) (pc := 7) l2 rfl rfl rfl dX11_holds_7 (fun r4 => ?_)
    refine jg_i2l (pc := 8) r4 dX11_holds_8 ?_
    refine jg_lconst (n := 0) (pc := 9) rfl dX11_holds_9 ?_
    refine jg_ldc2 (n := 9) (pc := 10) wnX11_147 dX11_holds_10 ?_
    refine ji_callSz (pc := 13) [l2, 0, 9] ([]) oX11_in wlX11_86 wmX11_in rfl rfl (Nat.le_of_ble_eq_true rfl) (jRaC (jR12 r4) (jRaC (jRc2 rfl) (jRaC (jRc2 rfl) jRa0))) rfl rfl (Nat.le_of_ble_eq_true rfl) hF dX11_holds_13 (fun x5 s6 r_x5 hF => ?_)
    refine ji_if_ne 21 (pc := 16) (jR51 r_x5) hF dX11_holds_16 rfl (fun hF => ?_) (fun hF => ?_)
    · refine ji_aload_n (n := 0) (pc := 21) 53 rfl rfl rfl dX11_holds_21 (fun r7 => ?_)
      refine ji_iload_n (n := 1) (pc := 22) l1 rfl rfl rfl dX11_holds_22 (fun r8 => ?_)
      refine ji_callVi (pc := 23) 53 [l1] ([]) oX11_worthOf wlX11_304 wmX11_worthOf rfl rfl (Nat.le_of_ble_eq_true rfl) (jRaC (jRc3 rfl) (jRaC r8 jRa0)) rfl jcl_53 rfl (Nat.le_of_ble_eq_true rfl) hF dX11_holds_23 (fun x9 s10 r_x9 hF => ?_)
      refine ji_istore_n (n := 3) (pc := 26) [3, 1, 1, 1] [53, l1, l2, x9] rfl r_x9 (Nat.le_of_ble_eq_true rfl) rfl rfl dX11_holds_26 ?_
      refine ji_iload_n (n := 3) (pc := 27) x9 rfl rfl rfl dX11_holds_27 (fun r11 => ?_)
      refine ji_if_ge 35 (pc := 28) r11 hF dX11_holds_28 rfl (fun hF => ?_) (fun hF => ?_)
      · refine ji_aload_n (n := 0) (pc := 35) 53 rfl rfl rfl dX11_holds_35 (fun r12 => ?_)
        refine ji_getfi (pc := 36) wfX11_301 (jRc3 rfl) jcl_53 hF dX11_holds_36 (fun x13 r_x13 hF => ?_)
        refine ji_iload_n (n := 2) (pc := 39) l2 rfl rfl rfl dX11_holds_39 (fun r14 => ?_)
        refine ji_ishr (pc := 40)  hF dX11_holds_40 (fun x15 r_x15 hF => ?_)
        refine ji_iconst (pc := 41) dX11_holds_41 ?_
        refine ji_iand (pc := 42)  hF dX11_holds_42 (fun x16 r_x16 hF => ?_)
        exact ji_reti (pc := 43) rfl r_x16 hF dX11_holds_43
      · refine ji_iload_n (n := 3) (pc := 31) x9 rfl rfl rfl dX11_holds_31 (fun r17 => ?_)
        refine jg_goto (pc := 32) 43 dX11_holds_32 rfl ?_
        exact ji_reti (pc := 43) rfl r17 hF dX11_holds_43
    · refine ji_iconst (pc := 19) dX11_holds_19 ?_
      exact ji_reti (pc := 20) rfl (jRc rfl) hF dX11_holds_20
end

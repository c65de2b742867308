section
def jxs (E : jEnv) (x : Int) : Int := (E.2.2.2.2.2 x.toNat).toInt
def jxl (E : jEnv) : Int := (E.2.2.2.2.1 : Int)
section
variable {E : jEnv} {M : jM} {d : Nat} {Rr : Int → jMem → Prop} {Γ : List Nat} {pc : Nat} {ls : List Int} {st : List Value} {σ : jMem}
theorem ji_sld {x : Int} {K : Int → jO} (hM : M.1.cls = "TileDeskLaw") (hx : jR 1 x) (hF : jHo Rr (jGd (0 ≤ x ∧ x < jxl E) (jLet (jxs E x) K))) (hd : decode M.2.1 pc = .ok (.iaload, 1)) (k : ∀ w, jR 1 w → jHo Rr (K w) → jGo E M d Rr Γ (pc + 1) ls (jV E 1 w :: st) σ) : jGo E M d Rr Γ pc ls (jV E 1 x :: jV E 4 0 :: st) σ := jg_sld hM hx (jHo_as hF).1.1 (jHo_as hF).1.2 hd (k _ (jR32 _) (jHo_as hF).2)
theorem ji_slen {K : Int → jO} (hL : jR 1 (jxl E)) (hM : M.1.cls = "TileDeskLaw") (hF : jHo Rr (jLet (jxl E) K)) (hd : decode M.2.1 pc = .ok (.arraylength, 1)) (k : ∀ w, jR 1 w → jHo Rr (K w) → jGo E M d Rr Γ (pc + 1) ls (jV E 1 w :: st) σ) : jGo E M d Rr Γ pc ls (jV E 4 0 :: st) σ := jg_slen hM hd (k _ hL hF)
end
abbrev ML_law : jM := (yL_law, cL_law, 4, some .boolean)
set_option maxRecDepth 100000 in
theorem wlL_13 : Cond.methodLink RL 13 yX10_rack ∈ jgw := jgw_in 328 rfl rfl
set_option maxRecDepth 100000 in
theorem wlL_17 : Cond.methodLink RL 17 yX11_rack ∈ jgw := jgw_in 902 rfl rfl
set_option maxRecDepth 100000 in
theorem wlL_18 : Cond.methodLink RL 18 yX10_place ∈ jgw := jgw_in 340 rfl rfl
set_option maxRecDepth 100000 in
theorem wlL_21 : Cond.methodLink RL 21 yX11_place ∈ jgw := jgw_in 915 rfl rfl
set_option maxRecDepth 100000 in
theorem wlL_22 : Cond.methodLink RL 22 yX10_copy ∈ jgw := jgw_in 359 rfl rfl
set_option maxRecDepth 100000 in
theorem wlL_26 : Cond.methodLink RL 26 yX11_copy ∈ jgw := jgw_in 926 rfl rfl
set_option maxRecDepth 100000 in
theorem wlL_27 : Cond.methodLink RL 27 yX10_told ∈ jgw := jgw_in 370 rfl rfl
set_option maxRecDepth 100000 in
theorem wlL_31 : Cond.methodLink RL 31 yX11_told ∈ jgw := jgw_in 930 rfl rfl
set_option maxRecDepth 100000 in
theorem wlL_32 : Cond.methodLink RL 32 yX10_read ∈ jgw := jgw_in 374 rfl rfl
set_option maxRecDepth 100000 in
theorem wlL_36 : Cond.methodLink RL 36 yX11_read ∈ jgw := jgw_in 934 rfl rfl
set_option maxRecDepth 100000 in
theorem wlL_37 : Cond.methodLink RL 37 yX10_take ∈ jgw := jgw_in 404 rfl rfl
set_option maxRecDepth 100000 in
theorem wlL_40 : Cond.methodLink RL 40 yX11_take ∈ jgw := jgw_in 954 rfl rfl
set_option maxRecDepth 100000 in
theorem wlL_41 : Cond.methodLink RL 41 yX10_seed ∈ jgw := jgw_in 413 rfl rfl
set_option maxRecDepth 100000 in
theorem wlL_45 : Cond.methodLink RL 45 yX11_seed ∈ jgw := jgw_in 958 rfl rfl
set_option maxRecDepth 100000 in
theorem wlL_46 : Cond.methodLink RL 46 yX10_draw ∈ jgw := jgw_in 417 rfl rfl
set_option maxRecDepth 100000 in
theorem wlL_49 : Cond.methodLink RL 49 yX11_draw ∈ jgw := jgw_in 962 rfl rfl
set_option maxRecDepth 100000 in
theorem wlL_50 : Cond.methodLink RL 50 yX10_deal ∈ jgw := jgw_in 431 rfl rfl
set_option maxRecDepth 100000 in
theorem wlL_53 : Cond.methodLink RL 53 yX11_deal ∈ jgw := jgw_in 978 rfl rfl
set_option maxRecDepth 100000 in
theorem wlL_54 : Cond.methodLink RL 54 yX10_discard ∈ jgw := jgw_in 441 rfl rfl
set_option maxRecDepth 100000 in
theorem wlL_57 : Cond.methodLink RL 57 yX11_discard ∈ jgw := jgw_in 986 rfl rfl
set_option maxRecDepth 100000 in
theorem wlL_58 : Cond.methodLink RL 58 yX10_open ∈ jgw := jgw_in 445 rfl rfl
set_option maxRecDepth 100000 in
theorem wlL_61 : Cond.methodLink RL 61 yX11_open ∈ jgw := jgw_in 990 rfl rfl
set_option maxRecDepth 100000 in
theorem wlL_62 : Cond.methodLink RL 62 yX10_clear ∈ jgw := jgw_in 467 rfl rfl
set_option maxRecDepth 100000 in
theorem wlL_65 : Cond.methodLink RL 65 yX11_clear ∈ jgw := jgw_in 1000 rfl rfl
set_option maxRecDepth 100000 in
theorem wlL_66 : Cond.methodLink RL 66 yX10_tiles ∈ jgw := jgw_in 471 rfl rfl
set_option maxRecDepth 100000 in
theorem wlL_69 : Cond.methodLink RL 69 yX11_tiles ∈ jgw := jgw_in 1004 rfl rfl
set_option maxRecDepth 100000 in
theorem wlL_70 : Cond.methodLink RL 70 yX10_about ∈ jgw := jgw_in 475 rfl rfl
set_option maxRecDepth 100000 in
theorem wlL_73 : Cond.methodLink RL 73 yX11_about ∈ jgw := jgw_in 1009 rfl rfl
set_option maxRecDepth 100000 in
theorem wlL_74 : Cond.methodLink RL 74 yX10_count ∈ jgw := jgw_in 479 rfl rfl
set_option maxRecDepth 100000 in
theorem wlL_78 : Cond.methodLink RL 78 yX11_count ∈ jgw := jgw_in 1014 rfl rfl
set_option maxRecDepth 100000 in
theorem wlL_79 : Cond.methodLink RL 79 yX10_done ∈ jgw := jgw_in 483 rfl rfl
set_option maxRecDepth 100000 in
theorem wlL_82 : Cond.methodLink RL 82 yX11_done ∈ jgw := jgw_in 1018 rfl rfl
set_option maxRecDepth 100000 in
theorem wlL_83 : Cond.methodLink RL 83 yX10_ways ∈ jgw := jgw_in 533 rfl rfl
set_option maxRecDepth 100000 in
theorem wlL_86 : Cond.methodLink RL 86 yX11_ways ∈ jgw := jgw_in 1060 rfl rfl
set_option maxRecDepth 100000 in
theorem wlL_87 : Cond.methodLink RL 87 yX10_way ∈ jgw := jgw_in 538 rfl rfl
set_option maxRecDepth 100000 in
theorem wlL_90 : Cond.methodLink RL 90 yX11_way ∈ jgw := jgw_in 1064 rfl rfl
set_option maxRecDepth 100000 in
theorem wlL_91 : Cond.methodLink RL 91 yX10_distance ∈ jgw := jgw_in 546 rfl rfl
set_option maxRecDepth 100000 in
theorem wlL_94 : Cond.methodLink RL 94 yX11_distance ∈ jgw := jgw_in 1073 rfl rfl
set_option maxRecDepth 100000 in
theorem wlL_95 : Cond.methodLink RL 95 yX10_waits ∈ jgw := jgw_in 627 rfl rfl
set_option maxRecDepth 100000 in
theorem wlL_98 : Cond.methodLink RL 98 yX11_waits ∈ jgw := jgw_in 1116 rfl rfl
set_option maxRecDepth 100000 in
theorem wlL_99 : Cond.methodLink RL 99 yX10_helps ∈ jgw := jgw_in 639 rfl rfl
set_option maxRecDepth 100000 in
theorem wlL_102 : Cond.methodLink RL 102 yX11_helps ∈ jgw := jgw_in 1136 rfl rfl
set_option maxRecDepth 100000 in
theorem wlL_103 : Cond.methodLink RL 103 yX10_without ∈ jgw := jgw_in 643 rfl rfl
set_option maxRecDepth 100000 in
theorem wlL_106 : Cond.methodLink RL 106 yX11_without ∈ jgw := jgw_in 1140 rfl rfl
set_option maxRecDepth 100000 in
theorem wlL_107 : Cond.methodLink RL 107 yX10_more ∈ jgw := jgw_in 663 rfl rfl
set_option maxRecDepth 100000 in
theorem wlL_110 : Cond.methodLink RL 110 yX11_more ∈ jgw := jgw_in 1148 rfl rfl
set_option maxRecDepth 100000 in
theorem wlL_111 : Cond.methodLink RL 111 yX10_best ∈ jgw := jgw_in 675 rfl rfl
set_option maxRecDepth 100000 in
theorem wlL_114 : Cond.methodLink RL 114 yX11_best ∈ jgw := jgw_in 1160 rfl rfl
set_option maxRecDepth 100000 in
theorem wlL_115 : Cond.methodLink RL 115 yX10_lack ∈ jgw := jgw_in 683 rfl rfl
set_option maxRecDepth 100000 in
theorem wlL_118 : Cond.methodLink RL 118 yX11_lack ∈ jgw := jgw_in 1164 rfl rfl
set_option maxRecDepth 100000 in
theorem wlL_119 : Cond.methodLink RL 119 yX10_odds ∈ jgw := jgw_in 691 rfl rfl
set_option maxRecDepth 100000 in
theorem wlL_122 : Cond.methodLink RL 122 yX11_odds ∈ jgw := jgw_in 1168 rfl rfl
set_option maxRecDepth 100000 in
theorem wlL_123 : Cond.methodLink RL 123 yX10_unseen ∈ jgw := jgw_in 699 rfl rfl
set_option maxRecDepth 100000 in
theorem wlL_126 : Cond.methodLink RL 126 yX11_unseen ∈ jgw := jgw_in 1180 rfl rfl
set_option maxRecDepth 100000 in
theorem wlL_127 : Cond.methodLink RL 127 yX10_alike ∈ jgw := jgw_in 703 rfl rfl
set_option maxRecDepth 100000 in
theorem wlL_130 : Cond.methodLink RL 130 yX11_alike ∈ jgw := jgw_in 1184 rfl rfl
set_option maxRecDepth 100000 in
theorem wlL_131 : Cond.methodLink RL 131 yX10_rule ∈ jgw := jgw_in 718 rfl rfl
set_option maxRecDepth 100000 in
theorem wlL_134 : Cond.methodLink RL 134 yX11_rule ∈ jgw := jgw_in 1196 rfl rfl
set_option maxRecDepth 100000 in
theorem wlL_135 : Cond.methodLink RL 135 yX10_clearRules ∈ jgw := jgw_in 729 rfl rfl
set_option maxRecDepth 100000 in
theorem wlL_139 : Cond.methodLink RL 139 yX11_clearRules ∈ jgw := jgw_in 1201 rfl rfl
set_option maxRecDepth 100000 in
theorem wlL_140 : Cond.methodLink RL 140 yX10_worth ∈ jgw := jgw_in 733 rfl rfl
set_option maxRecDepth 100000 in
theorem wlL_143 : Cond.methodLink RL 143 yX11_worth ∈ jgw := jgw_in 1205 rfl rfl
set_option maxRecDepth 100000 in
theorem wlL_144 : Cond.methodLink RL 144 yX10_by ∈ jgw := jgw_in 789 rfl rfl
set_option maxRecDepth 100000 in
theorem wlL_147 : Cond.methodLink RL 147 yX11_by ∈ jgw := jgw_in 1236 rfl rfl
set_option maxRecDepth 100000 in
theorem wlL_148 : Cond.methodLink RL 148 yX10_holds ∈ jgw := jgw_in 793 rfl rfl
set_option maxRecDepth 100000 in
theorem wlL_151 : Cond.methodLink RL 151 yX11_holds ∈ jgw := jgw_in 1240 rfl rfl
set_option maxRecDepth 100000 in
theorem wmX10_about : jmV MX10_about 2 7 := ⟨⟨jgw_in 68 rfl rfl, jgw_in 478 rfl rfl, by decide, by decide +kernel, by decide +kernel, by decide +kernel⟩, jgw_in 476 rfl rfl, jgw_in 477 rfl rfl, RX10, TX10, 9, wcX10, rfl, by decide⟩
set_option maxRecDepth 100000 in
theorem wmX10_alike : jmV MX10_alike 2 7 := ⟨⟨jgw_in 68 rfl rfl, jgw_in 706 rfl rfl, by decide, by decide +kernel, by decide +kernel, by decide +kernel⟩, jgw_in 704 rfl rfl, jgw_in 705 rfl rfl, RX10, TX10, 9, wcX10, rfl, by decide⟩
set_option maxRecDepth 100000 in
theorem wmX10_best : jmV MX10_best 1 7 := ⟨⟨jgw_in 68 rfl rfl, jgw_in 678 rfl rfl, by decide, by decide +kernel, by decide +kernel, by decide +kernel⟩, jgw_in 676 rfl rfl, jgw_in 677 rfl rfl, RX10, TX10, 9, wcX10, rfl, by decide⟩
set_option maxRecDepth 100000 in
theorem wmX10_by : jmV MX10_by 1 7 := ⟨⟨jgw_in 68 rfl rfl, jgw_in 792 rfl rfl, by decide, by decide +kernel, by decide +kernel, by decide +kernel⟩, jgw_in 790 rfl rfl, jgw_in 791 rfl rfl, RX10, TX10, 9, wcX10, rfl, by decide⟩
set_option maxRecDepth 100000 in
theorem wmX10_clear : jmV MX10_clear 1 7 := ⟨⟨jgw_in 68 rfl rfl, jgw_in 470 rfl rfl, by decide, by decide +kernel, by decide +kernel, by decide +kernel⟩, jgw_in 468 rfl rfl, jgw_in 469 rfl rfl, RX10, TX10, 9, wcX10, rfl, by decide⟩
set_option maxRecDepth 100000 in
theorem wmX10_clearRules : jmV MX10_clearRules 0 7 := ⟨⟨jgw_in 68 rfl rfl, jgw_in 732 rfl rfl, by decide, by decide +kernel, by decide +kernel, by decide +kernel⟩, jgw_in 730 rfl rfl, jgw_in 731 rfl rfl, RX10, TX10, 9, wcX10, rfl, by decide⟩
set_option maxRecDepth 100000 in
theorem wmX10_copy : jmV MX10_copy 5 7 := ⟨⟨jgw_in 68 rfl rfl, jgw_in 362 rfl rfl, by decide, by decide +kernel, by decide +kernel, by decide +kernel⟩, jgw_in 360 rfl rfl, jgw_in 361 rfl rfl, RX10, TX10, 9, wcX10, rfl, by decide⟩
set_option maxRecDepth 100000 in
theorem wmX10_count : jmV MX10_count 2 7 := ⟨⟨jgw_in 68 rfl rfl, jgw_in 482 rfl rfl, by decide, by decide +kernel, by decide +kernel, by decide +kernel⟩, jgw_in 480 rfl rfl, jgw_in 481 rfl rfl, RX10, TX10, 9, wcX10, rfl, by decide⟩
set_option maxRecDepth 100000 in
theorem wmX10_deal : jmV MX10_deal 1 7 := ⟨⟨jgw_in 68 rfl rfl, jgw_in 434 rfl rfl, by decide, by decide +kernel, by decide +kernel, by decide +kernel⟩, jgw_in 432 rfl rfl, jgw_in 433 rfl rfl, RX10, TX10, 9, wcX10, rfl, by decide⟩
set_option maxRecDepth 100000 in
theorem wmX10_discard : jmV MX10_discard 2 7 := ⟨⟨jgw_in 68 rfl rfl, jgw_in 444 rfl rfl, by decide, by decide +kernel, by decide +kernel, by decide +kernel⟩, jgw_in 442 rfl rfl, jgw_in 443 rfl rfl, RX10, TX10, 9, wcX10, rfl, by decide⟩
set_option maxRecDepth 100000 in
theorem wmX10_distance : jmV MX10_distance 1 7 := ⟨⟨jgw_in 68 rfl rfl, jgw_in 549 rfl rfl, by decide, by decide +kernel, by decide +kernel, by decide +kernel⟩, jgw_in 547 rfl rfl, jgw_in 548 rfl rfl, RX10, TX10, 9, wcX10, rfl, by decide⟩
set_option maxRecDepth 100000 in
theorem wmX10_done : jmV MX10_done 1 7 := ⟨⟨jgw_in 68 rfl rfl, jgw_in 486 rfl rfl, by decide, by decide +kernel, by decide +kernel, by decide +kernel⟩, jgw_in 484 rfl rfl, jgw_in 485 rfl rfl, RX10, TX10, 9, wcX10, rfl, by decide⟩
set_option maxRecDepth 100000 in
theorem wmX10_draw : jmV MX10_draw 1 7 := ⟨⟨jgw_in 68 rfl rfl, jgw_in 420 rfl rfl, by decide, by decide +kernel, by decide +kernel, by decide +kernel⟩, jgw_in 418 rfl rfl, jgw_in 419 rfl rfl, RX10, TX10, 9, wcX10, rfl, by decide⟩
set_option maxRecDepth 100000 in
theorem wmX10_helps : jmV MX10_helps 2 7 := ⟨⟨jgw_in 68 rfl rfl, jgw_in 642 rfl rfl, by decide, by decide +kernel, by decide +kernel, by decide +kernel⟩, jgw_in 640 rfl rfl, jgw_in 641 rfl rfl, RX10, TX10, 9, wcX10, rfl, by decide⟩
set_option maxRecDepth 100000 in
theorem wmX10_holds : jmV MX10_holds 2 7 := ⟨⟨jgw_in 68 rfl rfl, jgw_in 796 rfl rfl, by decide, by decide +kernel, by decide +kernel, by decide +kernel⟩, jgw_in 794 rfl rfl, jgw_in 795 rfl rfl, RX10, TX10, 9, wcX10, rfl, by decide⟩
set_option maxRecDepth 100000 in
theorem wmX10_lack : jmV MX10_lack 4 7 := ⟨⟨jgw_in 68 rfl rfl, jgw_in 686 rfl rfl, by decide, by decide +kernel, by decide +kernel, by decide +kernel⟩, jgw_in 684 rfl rfl, jgw_in 685 rfl rfl, RX10, TX10, 9, wcX10, rfl, by decide⟩
set_option maxRecDepth 100000 in
theorem wmX10_more : jmV MX10_more 2 7 := ⟨⟨jgw_in 68 rfl rfl, jgw_in 666 rfl rfl, by decide, by decide +kernel, by decide +kernel, by decide +kernel⟩, jgw_in 664 rfl rfl, jgw_in 665 rfl rfl, RX10, TX10, 9, wcX10, rfl, by decide⟩
set_option maxRecDepth 100000 in
theorem wmX10_odds : jmV MX10_odds 2 7 := ⟨⟨jgw_in 68 rfl rfl, jgw_in 694 rfl rfl, by decide, by decide +kernel, by decide +kernel, by decide +kernel⟩, jgw_in 692 rfl rfl, jgw_in 693 rfl rfl, RX10, TX10, 9, wcX10, rfl, by decide⟩
set_option maxRecDepth 100000 in
theorem wmX10_open : jmV MX10_open 3 7 := ⟨⟨jgw_in 68 rfl rfl, jgw_in 448 rfl rfl, by decide, by decide +kernel, by decide +kernel, by decide +kernel⟩, jgw_in 446 rfl rfl, jgw_in 447 rfl rfl, RX10, TX10, 9, wcX10, rfl, by decide⟩
set_option maxRecDepth 100000 in
theorem wmX10_place : jmV MX10_place 3 7 := ⟨⟨jgw_in 68 rfl rfl, jgw_in 343 rfl rfl, by decide, by decide +kernel, by decide +kernel, by decide +kernel⟩, jgw_in 341 rfl rfl, jgw_in 342 rfl rfl, RX10, TX10, 9, wcX10, rfl, by decide⟩
set_option maxRecDepth 100000 in
theorem wmX10_rack : jmV MX10_rack 3 7 := ⟨⟨jgw_in 68 rfl rfl, jgw_in 331 rfl rfl, by decide, by decide +kernel, by decide +kernel, by decide +kernel⟩, jgw_in 329 rfl rfl, jgw_in 330 rfl rfl, RX10, TX10, 9, wcX10, rfl, by decide⟩
set_option maxRecDepth 100000 in
theorem wmX10_read : jmV MX10_read 4 7 := ⟨⟨jgw_in 68 rfl rfl, jgw_in 377 rfl rfl, by decide, by decide +kernel, by decide +kernel, by decide +kernel⟩, jgw_in 375 rfl rfl, jgw_in 376 rfl rfl, RX10, TX10, 9, wcX10, rfl, by decide⟩
set_option maxRecDepth 100000 in
theorem wmX10_rule : jmV MX10_rule 3 7 := ⟨⟨jgw_in 68 rfl rfl, jgw_in 721 rfl rfl, by decide, by decide +kernel, by decide +kernel, by decide +kernel⟩, jgw_in 719 rfl rfl, jgw_in 720 rfl rfl, RX10, TX10, 9, wcX10, rfl, by decide⟩
set_option maxRecDepth 100000 in
theorem wmX10_seed : jmV MX10_seed 1 7 := ⟨⟨jgw_in 68 rfl rfl, jgw_in 416 rfl rfl, by decide, by decide +kernel, by decide +kernel, by decide +kernel⟩, jgw_in 414 rfl rfl, jgw_in 415 rfl rfl, RX10, TX10, 9, wcX10, rfl, by decide⟩
set_option maxRecDepth 100000 in
theorem wmX10_take : jmV MX10_take 2 7 := ⟨⟨jgw_in 68 rfl rfl, jgw_in 407 rfl rfl, by decide, by decide +kernel, by decide +kernel, by decide +kernel⟩, jgw_in 405 rfl rfl, jgw_in 406 rfl rfl, RX10, TX10, 9, wcX10, rfl, by decide⟩
set_option maxRecDepth 100000 in
theorem wmX10_tiles : jmV MX10_tiles 2 7 := ⟨⟨jgw_in 68 rfl rfl, jgw_in 474 rfl rfl, by decide, by decide +kernel, by decide +kernel, by decide +kernel⟩, jgw_in 472 rfl rfl, jgw_in 473 rfl rfl, RX10, TX10, 9, wcX10, rfl, by decide⟩
set_option maxRecDepth 100000 in
theorem wmX10_told : jmV MX10_told 2 7 := ⟨⟨jgw_in 68 rfl rfl, jgw_in 373 rfl rfl, by decide, by decide +kernel, by decide +kernel, by decide +kernel⟩, jgw_in 371 rfl rfl, jgw_in 372 rfl rfl, RX10, TX10, 9, wcX10, rfl, by decide⟩
set_option maxRecDepth 100000 in
theorem wmX10_unseen : jmV MX10_unseen 1 7 := ⟨⟨jgw_in 68 rfl rfl, jgw_in 702 rfl rfl, by decide, by decide +kernel, by decide +kernel, by decide +kernel⟩, jgw_in 700 rfl rfl, jgw_in 701 rfl rfl, RX10, TX10, 9, wcX10, rfl, by decide⟩
set_option maxRecDepth 100000 in
theorem wmX10_waits : jmV MX10_waits 2 7 := ⟨⟨jgw_in 68 rfl rfl, jgw_in 630 rfl rfl, by decide, by decide +kernel, by decide +kernel, by decide +kernel⟩, jgw_in 628 rfl rfl, jgw_in 629 rfl rfl, RX10, TX10, 9, wcX10, rfl, by decide⟩
set_option maxRecDepth 100000 in
theorem wmX10_way : jmV MX10_way 3 7 := ⟨⟨jgw_in 68 rfl rfl, jgw_in 541 rfl rfl, by decide, by decide +kernel, by decide +kernel, by decide +kernel⟩, jgw_in 539 rfl rfl, jgw_in 540 rfl rfl, RX10, TX10, 9, wcX10, rfl, by decide⟩
set_option maxRecDepth 100000 in
theorem wmX10_ways : jmV MX10_ways 1 7 := ⟨⟨jgw_in 68 rfl rfl, jgw_in 536 rfl rfl, by decide, by decide +kernel, by decide +kernel, by decide +kernel⟩, jgw_in 534 rfl rfl, jgw_in 535 rfl rfl, RX10, TX10, 9, wcX10, rfl, by decide⟩
set_option maxRecDepth 100000 in
theorem wmX10_without : jmV MX10_without 2 7 := ⟨⟨jgw_in 68 rfl rfl, jgw_in 646 rfl rfl, by decide, by decide +kernel, by decide +kernel, by decide +kernel⟩, jgw_in 644 rfl rfl, jgw_in 645 rfl rfl, RX10, TX10, 9, wcX10, rfl, by decide⟩
set_option maxRecDepth 100000 in
theorem wmX10_worth : jmV MX10_worth 1 7 := ⟨⟨jgw_in 68 rfl rfl, jgw_in 736 rfl rfl, by decide, by decide +kernel, by decide +kernel, by decide +kernel⟩, jgw_in 734 rfl rfl, jgw_in 735 rfl rfl, RX10, TX10, 9, wcX10, rfl, by decide⟩
set_option maxRecDepth 100000 in
theorem wmX11_about : jmV MX11_about 2 8 := ⟨⟨jgw_in 77 rfl rfl, jgw_in 1012 rfl rfl, by decide, by decide +kernel, by decide +kernel, by decide +kernel⟩, jgw_in 1010 rfl rfl, jgw_in 1011 rfl rfl, RX11, TX11, 32, wcX11, rfl, by decide⟩
set_option maxRecDepth 100000 in
theorem wmX11_alike : jmV MX11_alike 2 8 := ⟨⟨jgw_in 77 rfl rfl, jgw_in 1187 rfl rfl, by decide, by decide +kernel, by decide +kernel, by decide +kernel⟩, jgw_in 1185 rfl rfl, jgw_in 1186 rfl rfl, RX11, TX11, 32, wcX11, rfl, by decide⟩
set_option maxRecDepth 100000 in
theorem wmX11_best : jmV MX11_best 1 8 := ⟨⟨jgw_in 77 rfl rfl, jgw_in 1163 rfl rfl, by decide, by decide +kernel, by decide +kernel, by decide +kernel⟩, jgw_in 1161 rfl rfl, jgw_in 1162 rfl rfl, RX11, TX11, 32, wcX11, rfl, by decide⟩
set_option maxRecDepth 100000 in
theorem wmX11_by : jmV MX11_by 1 8 := ⟨⟨jgw_in 77 rfl rfl, jgw_in 1239 rfl rfl, by decide, by decide +kernel, by decide +kernel, by decide +kernel⟩, jgw_in 1237 rfl rfl, jgw_in 1238 rfl rfl, RX11, TX11, 32, wcX11, rfl, by decide⟩
set_option maxRecDepth 100000 in
theorem wmX11_clear : jmV MX11_clear 1 8 := ⟨⟨jgw_in 77 rfl rfl, jgw_in 1003 rfl rfl, by decide, by decide +kernel, by decide +kernel, by decide +kernel⟩, jgw_in 1001 rfl rfl, jgw_in 1002 rfl rfl, RX11, TX11, 32, wcX11, rfl, by decide⟩
set_option maxRecDepth 100000 in
theorem wmX11_clearRules : jmV MX11_clearRules 0 8 := ⟨⟨jgw_in 77 rfl rfl, jgw_in 1204 rfl rfl, by decide, by decide +kernel, by decide +kernel, by decide +kernel⟩, jgw_in 1202 rfl rfl, jgw_in 1203 rfl rfl, RX11, TX11, 32, wcX11, rfl, by decide⟩
set_option maxRecDepth 100000 in
theorem wmX11_copy : jmV MX11_copy 5 8 := ⟨⟨jgw_in 77 rfl rfl, jgw_in 929 rfl rfl, by decide, by decide +kernel, by decide +kernel, by decide +kernel⟩, jgw_in 927 rfl rfl, jgw_in 928 rfl rfl, RX11, TX11, 32, wcX11, rfl, by decide⟩
set_option maxRecDepth 100000 in
theorem wmX11_count : jmV MX11_count 2 8 := ⟨⟨jgw_in 77 rfl rfl, jgw_in 1017 rfl rfl, by decide, by decide +kernel, by decide +kernel, by decide +kernel⟩, jgw_in 1015 rfl rfl, jgw_in 1016 rfl rfl, RX11, TX11, 32, wcX11, rfl, by decide⟩
set_option maxRecDepth 100000 in
theorem wmX11_deal : jmV MX11_deal 1 8 := ⟨⟨jgw_in 77 rfl rfl, jgw_in 981 rfl rfl, by decide, by decide +kernel, by decide +kernel, by decide +kernel⟩, jgw_in 979 rfl rfl, jgw_in 980 rfl rfl, RX11, TX11, 32, wcX11, rfl, by decide⟩
set_option maxRecDepth 100000 in
theorem wmX11_discard : jmV MX11_discard 2 8 := ⟨⟨jgw_in 77 rfl rfl, jgw_in 989 rfl rfl, by decide, by decide +kernel, by decide +kernel, by decide +kernel⟩, jgw_in 987 rfl rfl, jgw_in 988 rfl rfl, RX11, TX11, 32, wcX11, rfl, by decide⟩
set_option maxRecDepth 100000 in
theorem wmX11_distance : jmV MX11_distance 1 8 := ⟨⟨jgw_in 77 rfl rfl, jgw_in 1076 rfl rfl, by decide, by decide +kernel, by decide +kernel, by decide +kernel⟩, jgw_in 1074 rfl rfl, jgw_in 1075 rfl rfl, RX11, TX11, 32, wcX11, rfl, by decide⟩
set_option maxRecDepth 100000 in
theorem wmX11_done : jmV MX11_done 1 8 := ⟨⟨jgw_in 77 rfl rfl, jgw_in 1021 rfl rfl, by decide, by decide +kernel, by decide +kernel, by decide +kernel⟩, jgw_in 1019 rfl rfl, jgw_in 1020 rfl rfl, RX11, TX11, 32, wcX11, rfl, by decide⟩
set_option maxRecDepth 100000 in
theorem wmX11_draw : jmV MX11_draw 1 8 := ⟨⟨jgw_in 77 rfl rfl, jgw_in 965 rfl rfl, by decide, by decide +kernel, by decide +kernel, by decide +kernel⟩, jgw_in 963 rfl rfl, jgw_in 964 rfl rfl, RX11, TX11, 32, wcX11, rfl, by decide⟩
set_option maxRecDepth 100000 in
theorem wmX11_helps : jmV MX11_helps 2 8 := ⟨⟨jgw_in 77 rfl rfl, jgw_in 1139 rfl rfl, by decide, by decide +kernel, by decide +kernel, by decide +kernel⟩, jgw_in 1137 rfl rfl, jgw_in 1138 rfl rfl, RX11, TX11, 32, wcX11, rfl, by decide⟩
set_option maxRecDepth 100000 in
theorem wmX11_holds : jmV MX11_holds 2 8 := ⟨⟨jgw_in 77 rfl rfl, jgw_in 1243 rfl rfl, by decide, by decide +kernel, by decide +kernel, by decide +kernel⟩, jgw_in 1241 rfl rfl, jgw_in 1242 rfl rfl, RX11, TX11, 32, wcX11, rfl, by decide⟩
set_option maxRecDepth 100000 in
theorem wmX11_lack : jmV MX11_lack 4 8 := ⟨⟨jgw_in 77 rfl rfl, jgw_in 1167 rfl rfl, by decide, by decide +kernel, by decide +kernel, by decide +kernel⟩, jgw_in 1165 rfl rfl, jgw_in 1166 rfl rfl, RX11, TX11, 32, wcX11, rfl, by decide⟩
set_option maxRecDepth 100000 in
theorem wmX11_more : jmV MX11_more 2 8 := ⟨⟨jgw_in 77 rfl rfl, jgw_in 1151 rfl rfl, by decide, by decide +kernel, by decide +kernel, by decide +kernel⟩, jgw_in 1149 rfl rfl, jgw_in 1150 rfl rfl, RX11, TX11, 32, wcX11, rfl, by decide⟩
set_option maxRecDepth 100000 in
theorem wmX11_odds : jmV MX11_odds 2 8 := ⟨⟨jgw_in 77 rfl rfl, jgw_in 1171 rfl rfl, by decide, by decide +kernel, by decide +kernel, by decide +kernel⟩, jgw_in 1169 rfl rfl, jgw_in 1170 rfl rfl, RX11, TX11, 32, wcX11, rfl, by decide⟩
set_option maxRecDepth 100000 in
theorem wmX11_open : jmV MX11_open 3 8 := ⟨⟨jgw_in 77 rfl rfl, jgw_in 993 rfl rfl, by decide, by decide +kernel, by decide +kernel, by decide +kernel⟩, jgw_in 991 rfl rfl, jgw_in 992 rfl rfl, RX11, TX11, 32, wcX11, rfl, by decide⟩
set_option maxRecDepth 100000 in
theorem wmX11_place : jmV MX11_place 3 8 := ⟨⟨jgw_in 77 rfl rfl, jgw_in 918 rfl rfl, by decide, by decide +kernel, by decide +kernel, by decide +kernel⟩, jgw_in 916 rfl rfl, jgw_in 917 rfl rfl, RX11, TX11, 32, wcX11, rfl, by decide⟩
set_option maxRecDepth 100000 in
theorem wmX11_rack : jmV MX11_rack 3 8 := ⟨⟨jgw_in 77 rfl rfl, jgw_in 905 rfl rfl, by decide, by decide +kernel, by decide +kernel, by decide +kernel⟩, jgw_in 903 rfl rfl, jgw_in 904 rfl rfl, RX11, TX11, 32, wcX11, rfl, by decide⟩
set_option maxRecDepth 100000 in
theorem wmX11_read : jmV MX11_read 4 8 := ⟨⟨jgw_in 77 rfl rfl, jgw_in 937 rfl rfl, by decide, by decide +kernel, by decide +kernel, by decide +kernel⟩, jgw_in 935 rfl rfl, jgw_in 936 rfl rfl, RX11, TX11, 32, wcX11, rfl, by decide⟩
set_option maxRecDepth 100000 in
theorem wmX11_rule : jmV MX11_rule 3 8 := ⟨⟨jgw_in 77 rfl rfl, jgw_in 1199 rfl rfl, by decide, by decide +kernel, by decide +kernel, by decide +kernel⟩, jgw_in 1197 rfl rfl, jgw_in 1198 rfl rfl, RX11, TX11, 32, wcX11, rfl, by decide⟩
set_option maxRecDepth 100000 in
theorem wmX11_seed : jmV MX11_seed 1 8 := ⟨⟨jgw_in 77 rfl rfl, jgw_in 961 rfl rfl, by decide, by decide +kernel, by decide +kernel, by decide +kernel⟩, jgw_in 959 rfl rfl, jgw_in 960 rfl rfl, RX11, TX11, 32, wcX11, rfl, by decide⟩
set_option maxRecDepth 100000 in
theorem wmX11_take : jmV MX11_take 2 8 := ⟨⟨jgw_in 77 rfl rfl, jgw_in 957 rfl rfl, by decide, by decide +kernel, by decide +kernel, by decide +kernel⟩, jgw_in 955 rfl rfl, jgw_in 956 rfl rfl, RX11, TX11, 32, wcX11, rfl, by decide⟩
set_option maxRecDepth 100000 in
theorem wmX11_tiles : jmV MX11_tiles 2 8 := ⟨⟨jgw_in 77 rfl rfl, jgw_in 1007 rfl rfl, by decide, by decide +kernel, by decide +kernel, by decide +kernel⟩, jgw_in 1005 rfl rfl, jgw_in 1006 rfl rfl, RX11, TX11, 32, wcX11, rfl, by decide⟩
set_option maxRecDepth 100000 in
theorem wmX11_told : jmV MX11_told 2 8 := ⟨⟨jgw_in 77 rfl rfl, jgw_in 933 rfl rfl, by decide, by decide +kernel, by decide +kernel, by decide +kernel⟩, jgw_in 931 rfl rfl, jgw_in 932 rfl rfl, RX11, TX11, 32, wcX11, rfl, by decide⟩
set_option maxRecDepth 100000 in
theorem wmX11_unseen : jmV MX11_unseen 1 8 := ⟨⟨jgw_in 77 rfl rfl, jgw_in 1183 rfl rfl, by decide, by decide +kernel, by decide +kernel, by decide +kernel⟩, jgw_in 1181 rfl rfl, jgw_in 1182 rfl rfl, RX11, TX11, 32, wcX11, rfl, by decide⟩
set_option maxRecDepth 100000 in
theorem wmX11_waits : jmV MX11_waits 2 8 := ⟨⟨jgw_in 77 rfl rfl, jgw_in 1119 rfl rfl, by decide, by decide +kernel, by decide +kernel, by decide +kernel⟩, jgw_in 1117 rfl rfl, jgw_in 1118 rfl rfl, RX11, TX11, 32, wcX11, rfl, by decide⟩
set_option maxRecDepth 100000 in
theorem wmX11_way : jmV MX11_way 3 8 := ⟨⟨jgw_in 77 rfl rfl, jgw_in 1067 rfl rfl, by decide, by decide +kernel, by decide +kernel, by decide +kernel⟩, jgw_in 1065 rfl rfl, jgw_in 1066 rfl rfl, RX11, TX11, 32, wcX11, rfl, by decide⟩
set_option maxRecDepth 100000 in
theorem wmX11_ways : jmV MX11_ways 1 8 := ⟨⟨jgw_in 77 rfl rfl, jgw_in 1063 rfl rfl, by decide, by decide +kernel, by decide +kernel, by decide +kernel⟩, jgw_in 1061 rfl rfl, jgw_in 1062 rfl rfl, RX11, TX11, 32, wcX11, rfl, by decide⟩
set_option maxRecDepth 100000 in
theorem wmX11_without : jmV MX11_without 2 8 := ⟨⟨jgw_in 77 rfl rfl, jgw_in 1143 rfl rfl, by decide, by decide +kernel, by decide +kernel, by decide +kernel⟩, jgw_in 1141 rfl rfl, jgw_in 1142 rfl rfl, RX11, TX11, 32, wcX11, rfl, by decide⟩
set_option maxRecDepth 100000 in
theorem wmX11_worth : jmV MX11_worth 1 8 := ⟨⟨jgw_in 77 rfl rfl, jgw_in 1208 rfl rfl, by decide, by decide +kernel, by decide +kernel, by decide +kernel⟩, jgw_in 1206 rfl rfl, jgw_in 1207 rfl rfl, RX11, TX11, 32, wcX11, rfl, by decide⟩
def bL_law_723 (xs : Int → Int) (L : Int) (k1275 : Int → jMem → jO) (l3 t0 t2 t3 : Int) (s0 : jMem) : jO :=
jBd (fX11_count t2 t3 s0) fun x1 s2 =>
if t0 = x1 then (
k1275 l3 s2)
else (
jRet 0 s2)
def bL_law_701 (xs : Int → Int) (L : Int) (k1275 : Int → jMem → jO) (l3 t1 t2 : Int) (s0 : jMem) : jO :=
jBd (fX10_count t1 t2 s0) fun x1 s2 =>
jLet (j32 (l3 + 1)) fun x5 =>
jGd ((0 : Int) ≤ x5 ∧ x5 < L) <| jLet (xs x5) fun x6 =>
jLet (j32 (l3 + 2)) fun x8 =>
jGd ((0 : Int) ≤ x8 ∧ x8 < L) <| jLet (xs x8) fun x9 =>
if x9 = 0 then (
bL_law_723 xs L k1275 l3 x1 x6 0 s2)
else (
bL_law_723 xs L k1275 l3 x1 x6 1 s2)
def bL_law_1275 (xs : Int → Int) (L : Int) (k18 : Int → jMem → jO) (l3 : Int) (s0 : jMem) : jO :=
jLet (j32 (l3 + 6)) fun x1 =>
k18 x1 s0
def bL_law_18 (xs : Int → Int) (L : Int) (rec : Int → jMem → jO) (l3 : Int) (s0 : jMem) : jO :=
jLet (L) fun x2 =>
jLet (j32 (x2 - 6)) fun x3 =>
if x3 < l3 then (
jRet 1 s0)
else (
jGd ((0 : Int) ≤ l3 ∧ l3 < L) <| jLet (xs l3) fun x5 =>
jLet (jand x5 63) fun x6 =>
if x6 = 0 then (
jLet (j32 (l3 + 1)) fun x9 =>
jGd ((0 : Int) ≤ x9 ∧ x9 < L) <| jLet (xs x9) fun x10 =>
jLet (j32 (l3 + 2)) fun x12 =>
jGd ((0 : Int) ≤ x12 ∧ x12 < L) <| jLet (xs x12) fun x13 =>
jLet (j32 (l3 + 3)) fun x15 =>
jGd ((0 : Int) ≤ x15 ∧ x15 < L) <| jLet (xs x15) fun x16 =>
jBd (fX10_rack x10 x13 x16 s0) fun x17 s18 =>
jLet (j32 (l3 + 1)) fun x21 =>
jGd ((0 : Int) ≤ x21 ∧ x21 < L) <| jLet (xs x21) fun x22 =>
jLet (j32 (l3 + 2)) fun x24 =>
jGd ((0 : Int) ≤ x24 ∧ x24 < L) <| jLet (xs x24) fun x25 =>
jLet (j32 (l3 + 3)) fun x27 =>
jGd ((0 : Int) ≤ x27 ∧ x27 < L) <| jLet (xs x27) fun x28 =>
jBd (fX11_rack x22 x25 x28 s18) fun x29 s30 =>
if x17 = x29 then (
bL_law_1275 xs L rec l3 s30)
else (
jRet 0 s30))
else if x6 = 1 then (
jLet (j32 (l3 + 1)) fun x34 =>
jGd ((0 : Int) ≤ x34 ∧ x34 < L) <| jLet (xs x34) fun x35 =>
jLet (j32 (l3 + 2)) fun x37 =>
jGd ((0 : Int) ≤ x37 ∧ x37 < L) <| jLet (xs x37) fun x38 =>
jLet (j32 (l3 + 3)) fun x40 =>
jGd ((0 : Int) ≤ x40 ∧ x40 < L) <| jLet (xs x40) fun x41 =>
jBd (fX10_place x35 x38 x41 s0) fun x42 s43 =>
jLet (j32 (l3 + 1)) fun x46 =>
jGd ((0 : Int) ≤ x46 ∧ x46 < L) <| jLet (xs x46) fun x47 =>
jLet (j32 (l3 + 2)) fun x49 =>
jGd ((0 : Int) ≤ x49 ∧ x49 < L) <| jLet (xs x49) fun x50 =>
jLet (j32 (l3 + 3)) fun x52 =>
jGd ((0 : Int) ≤ x52 ∧ x52 < L) <| jLet (xs x52) fun x53 =>
jBd (fX11_place x47 x50 x53 s43) fun x54 s55 =>
if x42 = x54 then (
bL_law_1275 xs L rec l3 s55)
else (
jRet 0 s55))
else if x6 = 2 then (
jLet (j32 (l3 + 1)) fun x59 =>
jGd ((0 : Int) ≤ x59 ∧ x59 < L) <| jLet (xs x59) fun x60 =>
jLet (j32 (l3 + 2)) fun x62 =>
jGd ((0 : Int) ≤ x62 ∧ x62 < L) <| jLet (xs x62) fun x63 =>
jLet (j32 (l3 + 3)) fun x65 =>
jGd ((0 : Int) ≤ x65 ∧ x65 < L) <| jLet (xs x65) fun x66 =>
jLet (j32 (l3 + 4)) fun x68 =>
jGd ((0 : Int) ≤ x68 ∧ x68 < L) <| jLet (xs x68) fun x69 =>
jLet (j32 (l3 + 5)) fun x71 =>
jGd ((0 : Int) ≤ x71 ∧ x71 < L) <| jLet (xs x71) fun x72 =>
jBd (fX10_copy x60 x63 x66 x69 x72 s0) fun x73 s74 =>
jLet (j32 (l3 + 1)) fun x77 =>
jGd ((0 : Int) ≤ x77 ∧ x77 < L) <| jLet (xs x77) fun x78 =>
jLet (j32 (l3 + 2)) fun x80 =>
jGd ((0 : Int) ≤ x80 ∧ x80 < L) <| jLet (xs x80) fun x81 =>
jLet (j32 (l3 + 3)) fun x83 =>
jGd ((0 : Int) ≤ x83 ∧ x83 < L) <| jLet (xs x83) fun x84 =>
jLet (j32 (l3 + 4)) fun x86 =>
jGd ((0 : Int) ≤ x86 ∧ x86 < L) <| jLet (xs x86) fun x87 =>
jLet (j32 (l3 + 5)) fun x89 =>
jGd ((0 : Int) ≤ x89 ∧ x89 < L) <| jLet (xs x89) fun x90 =>
jBd (fX11_copy x78 x81 x84 x87 x90 s74) fun x91 s92 =>
if x73 = x91 then (
bL_law_1275 xs L rec l3 s92)
else (
jRet 0 s92))
else if x6 = 3 then (
jLet (j32 (l3 + 1)) fun x96 =>
jGd ((0 : Int) ≤ x96 ∧ x96 < L) <| jLet (xs x96) fun x97 =>
jLet (j32 (l3 + 2)) fun x99 =>
jGd ((0 : Int) ≤ x99 ∧ x99 < L) <| jLet (xs x99) fun x100 =>
jBd (fX10_told x97 x100 s0) fun x101 s102 =>
jLet (j32 (l3 + 1)) fun x105 =>
jGd ((0 : Int) ≤ x105 ∧ x105 < L) <| jLet (xs x105) fun x106 =>
jLet (j32 (l3 + 2)) fun x108 =>
jGd ((0 : Int) ≤ x108 ∧ x108 < L) <| jLet (xs x108) fun x109 =>
jBd (fX11_told x106 x109 s102) fun x110 s111 =>
if x101 = x110 then (
bL_law_1275 xs L rec l3 s111)
else (
jRet 0 s111))
else if x6 = 4 then (
jLet (j32 (l3 + 1)) fun x115 =>
jGd ((0 : Int) ≤ x115 ∧ x115 < L) <| jLet (xs x115) fun x116 =>
jLet (j32 (l3 + 2)) fun x118 =>
jGd ((0 : Int) ≤ x118 ∧ x118 < L) <| jLet (xs x118) fun x119 =>
jLet (j32 (l3 + 3)) fun x121 =>
jGd ((0 : Int) ≤ x121 ∧ x121 < L) <| jLet (xs x121) fun x122 =>
jLet (j32 (l3 + 4)) fun x124 =>
jGd ((0 : Int) ≤ x124 ∧ x124 < L) <| jLet (xs x124) fun x125 =>
jBd (fX10_read x116 x119 x122 x125 s0) fun x126 s127 =>
jLet (j32 (l3 + 1)) fun x130 =>
jGd ((0 : Int) ≤ x130 ∧ x130 < L) <| jLet (xs x130) fun x131 =>
jLet (j32 (l3 + 2)) fun x133 =>
jGd ((0 : Int) ≤ x133 ∧ x133 < L) <| jLet (xs x133) fun x134 =>
jLet (j32 (l3 + 3)) fun x136 =>
jGd ((0 : Int) ≤ x136 ∧ x136 < L) <| jLet (xs x136) fun x137 =>
jLet (j32 (l3 + 4)) fun x139 =>
jGd ((0 : Int) ≤ x139 ∧ x139 < L) <| jLet (xs x139) fun x140 =>
jBd (fX11_read x131 x134 x137 x140 s127) fun x141 s142 =>
if x126 = x141 then (
bL_law_1275 xs L rec l3 s142)
else (
jRet 0 s142))
else if x6 = 5 then (
jLet (j32 (l3 + 1)) fun x146 =>
jGd ((0 : Int) ≤ x146 ∧ x146 < L) <| jLet (xs x146) fun x147 =>
jLet (j32 (l3 + 2)) fun x149 =>
jGd ((0 : Int) ≤ x149 ∧ x149 < L) <| jLet (xs x149) fun x150 =>
jBd (fX10_take x147 x150 s0) fun x151 s152 =>
jLet (j32 (l3 + 1)) fun x155 =>
jGd ((0 : Int) ≤ x155 ∧ x155 < L) <| jLet (xs x155) fun x156 =>
jLet (j32 (l3 + 2)) fun x158 =>
jGd ((0 : Int) ≤ x158 ∧ x158 < L) <| jLet (xs x158) fun x159 =>
jBd (fX11_take x156 x159 s152) fun x160 s161 =>
if x151 = x160 then (
bL_law_1275 xs L rec l3 s161)
else (
jRet 0 s161))
else if x6 = 6 then (
jLet (j32 (l3 + 1)) fun x165 =>
jGd ((0 : Int) ≤ x165 ∧ x165 < L) <| jLet (xs x165) fun x166 =>
jBd (fX10_seed x166 s0) fun x167 s168 =>
jLet (j32 (l3 + 1)) fun x171 =>
jGd ((0 : Int) ≤ x171 ∧ x171 < L) <| jLet (xs x171) fun x172 =>
jBd (fX11_seed x172 s168) fun x173 s174 =>
if x167 = x173 then (
bL_law_1275 xs L rec l3 s174)
else (
jRet 0 s174))
else if x6 = 7 then (
jLet (j32 (l3 + 1)) fun x178 =>
jGd ((0 : Int) ≤ x178 ∧ x178 < L) <| jLet (xs x178) fun x179 =>
jBd (fX10_draw x179 s0) fun x180 s181 =>
jLet (j32 (l3 + 1)) fun x184 =>
jGd ((0 : Int) ≤ x184 ∧ x184 < L) <| jLet (xs x184) fun x185 =>
jBd (fX11_draw x185 s181) fun x186 s187 =>
if x180 = x186 then (
bL_law_1275 xs L rec l3 s187)
else (
jRet 0 s187))
else if x6 = 8 then (
jLet (j32 (l3 + 1)) fun x191 =>
jGd ((0 : Int) ≤ x191 ∧ x191 < L) <| jLet (xs x191) fun x192 =>
jBd (fX10_deal x192 s0) fun x193 s194 =>
jLet (j32 (l3 + 1)) fun x197 =>
jGd ((0 : Int) ≤ x197 ∧ x197 < L) <| jLet (xs x197) fun x198 =>
jBd (fX11_deal x198 s194) fun x199 s200 =>
if x193 = x199 then (
bL_law_1275 xs L rec l3 s200)
else (
jRet 0 s200))
else if x6 = 9 then (
jLet (j32 (l3 + 1)) fun x204 =>
jGd ((0 : Int) ≤ x204 ∧ x204 < L) <| jLet (xs x204) fun x205 =>
jLet (j32 (l3 + 2)) fun x207 =>
jGd ((0 : Int) ≤ x207 ∧ x207 < L) <| jLet (xs x207) fun x208 =>
jBd (fX10_discard x205 x208 s0) fun x209 s210 =>
jLet (j32 (l3 + 1)) fun x213 =>
jGd ((0 : Int) ≤ x213 ∧ x213 < L) <| jLet (xs x213) fun x214 =>
jLet (j32 (l3 + 2)) fun x216 =>
jGd ((0 : Int) ≤ x216 ∧ x216 < L) <| jLet (xs x216) fun x217 =>
jBd (fX11_discard x214 x217 s210) fun x218 s219 =>
if x209 = x218 then (
bL_law_1275 xs L rec l3 s219)
else (
jRet 0 s219))
else if x6 = 10 then (
jLet (j32 (l3 + 1)) fun x223 =>
jGd ((0 : Int) ≤ x223 ∧ x223 < L) <| jLet (xs x223) fun x224 =>
jLet (j32 (l3 + 2)) fun x226 =>
jGd ((0 : Int) ≤ x226 ∧ x226 < L) <| jLet (xs x226) fun x227 =>
jLet (j32 (l3 + 3)) fun x229 =>
jGd ((0 : Int) ≤ x229 ∧ x229 < L) <| jLet (xs x229) fun x230 =>
jBd (fX10_open x224 x227 x230 s0) fun x231 s232 =>
jLet (j32 (l3 + 1)) fun x235 =>
jGd ((0 : Int) ≤ x235 ∧ x235 < L) <| jLet (xs x235) fun x236 =>
jLet (j32 (l3 + 2)) fun x238 =>
jGd ((0 : Int) ≤ x238 ∧ x238 < L) <| jLet (xs x238) fun x239 =>
jLet (j32 (l3 + 3)) fun x241 =>
jGd ((0 : Int) ≤ x241 ∧ x241 < L) <| jLet (xs x241) fun x242 =>
jBd (fX11_open x236 x239 x242 s232) fun x243 s244 =>
if x231 = x243 then (
bL_law_1275 xs L rec l3 s244)
else (
jRet 0 s244))
else if x6 = 11 then (
jLet (j32 (l3 + 1)) fun x248 =>
jGd ((0 : Int) ≤ x248 ∧ x248 < L) <| jLet (xs x248) fun x249 =>
jBd (fX10_clear x249 s0) fun x250 s251 =>
jLet (j32 (l3 + 1)) fun x254 =>
jGd ((0 : Int) ≤ x254 ∧ x254 < L) <| jLet (xs x254) fun x255 =>
jBd (fX11_clear x255 s251) fun x256 s257 =>
if x250 = x256 then (
bL_law_1275 xs L rec l3 s257)
else (
jRet 0 s257))
else if x6 = 12 then (
jLet (j32 (l3 + 1)) fun x261 =>
jGd ((0 : Int) ≤ x261 ∧ x261 < L) <| jLet (xs x261) fun x262 =>
jLet (j32 (l3 + 2)) fun x264 =>
jGd ((0 : Int) ≤ x264 ∧ x264 < L) <| jLet (xs x264) fun x265 =>
jBd (fX10_tiles x262 x265 s0) fun x266 s267 =>
jLet (j32 (l3 + 1)) fun x270 =>
jGd ((0 : Int) ≤ x270 ∧ x270 < L) <| jLet (xs x270) fun x271 =>
jLet (j32 (l3 + 2)) fun x273 =>
jGd ((0 : Int) ≤ x273 ∧ x273 < L) <| jLet (xs x273) fun x274 =>
jBd (fX11_tiles x271 x274 s267) fun x275 s276 =>
if x266 = x275 then (
bL_law_1275 xs L rec l3 s276)
else (
jRet 0 s276))
else if x6 = 13 then (
jLet (j32 (l3 + 1)) fun x280 =>
jGd ((0 : Int) ≤ x280 ∧ x280 < L) <| jLet (xs x280) fun x281 =>
jLet (j32 (l3 + 2)) fun x283 =>
jGd ((0 : Int) ≤ x283 ∧ x283 < L) <| jLet (xs x283) fun x284 =>
jBd (fX10_about x281 x284 s0) fun x285 s286 =>
jLet (j32 (l3 + 1)) fun x289 =>
jGd ((0 : Int) ≤ x289 ∧ x289 < L) <| jLet (xs x289) fun x290 =>
jLet (j32 (l3 + 2)) fun x292 =>
jGd ((0 : Int) ≤ x292 ∧ x292 < L) <| jLet (xs x292) fun x293 =>
jBd (fX11_about x290 x293 s286) fun x294 s295 =>
if x285 = x294 then (
bL_law_1275 xs L rec l3 s295)
else (
jRet 0 s295))
else if x6 = 14 then (
jLet (j32 (l3 + 1)) fun x299 =>
jGd ((0 : Int) ≤ x299 ∧ x299 < L) <| jLet (xs x299) fun x300 =>
jLet (j32 (l3 + 2)) fun x302 =>
jGd ((0 : Int) ≤ x302 ∧ x302 < L) <| jLet (xs x302) fun x303 =>
if x303 = 0 then (
bL_law_701 xs L (bL_law_1275 xs L rec) l3 x300 0 s0)
else (
bL_law_701 xs L (bL_law_1275 xs L rec) l3 x300 1 s0))
else if x6 = 15 then (
jLet (j32 (l3 + 1)) fun x307 =>
jGd ((0 : Int) ≤ x307 ∧ x307 < L) <| jLet (xs x307) fun x308 =>
jBd (fX10_done x308 s0) fun x309 s310 =>
jLet (j32 (l3 + 1)) fun x313 =>
jGd ((0 : Int) ≤ x313 ∧ x313 < L) <| jLet (xs x313) fun x314 =>
jBd (fX11_done x314 s310) fun x315 s316 =>
if x309 = x315 then (
bL_law_1275 xs L rec l3 s316)
else (
jRet 0 s316))
else if x6 = 16 then (
jLet (j32 (l3 + 1)) fun x320 =>
jGd ((0 : Int) ≤ x320 ∧ x320 < L) <| jLet (xs x320) fun x321 =>
jBd (fX10_ways x321 s0) fun x322 s323 =>
jLet (j32 (l3 + 1)) fun x326 =>
jGd ((0 : Int) ≤ x326 ∧ x326 < L) <| jLet (xs x326) fun x327 =>
jBd (fX11_ways x327 s323) fun x328 s329 =>
if x322 = x328 then (
bL_law_1275 xs L rec l3 s329)
else (
jRet 0 s329))
else if x6 = 17 then (
jLet (j32 (l3 + 1)) fun x333 =>
jGd ((0 : Int) ≤ x333 ∧ x333 < L) <| jLet (xs x333) fun x334 =>
jLet (j32 (l3 + 2)) fun x336 =>
jGd ((0 : Int) ≤ x336 ∧ x336 < L) <| jLet (xs x336) fun x337 =>
jLet (j32 (l3 + 3)) fun x339 =>
jGd ((0 : Int) ≤ x339 ∧ x339 < L) <| jLet (xs x339) fun x340 =>
jBd (fX10_way x334 x337 x340 s0) fun x341 s342 =>
jLet (j32 (l3 + 1)) fun x345 =>
jGd ((0 : Int) ≤ x345 ∧ x345 < L) <| jLet (xs x345) fun x346 =>
jLet (j32 (l3 + 2)) fun x348 =>
jGd ((0 : Int) ≤ x348 ∧ x348 < L) <| jLet (xs x348) fun x349 =>
jLet (j32 (l3 + 3)) fun x351 =>
jGd ((0 : Int) ≤ x351 ∧ x351 < L) <| jLet (xs x351) fun x352 =>
jBd (fX11_way x346 x349 x352 s342) fun x353 s354 =>
if x341 = x353 then (
bL_law_1275 xs L rec l3 s354)
else (
jRet 0 s354))
else if x6 = 18 then (
jLet (j32 (l3 + 1)) fun x358 =>
jGd ((0 : Int) ≤ x358 ∧ x358 < L) <| jLet (xs x358) fun x359 =>
jBd (fX10_distance x359 s0) fun x360 s361 =>
jLet (j32 (l3 + 1)) fun x364 =>
jGd ((0 : Int) ≤ x364 ∧ x364 < L) <| jLet (xs x364) fun x365 =>
jBd (fX11_distance x365 s361) fun x366 s367 =>
if x360 = x366 then (
bL_law_1275 xs L rec l3 s367)
else (
jRet 0 s367))
else if x6 = 19 then (
jLet (j32 (l3 + 1)) fun x371 =>
jGd ((0 : Int) ≤ x371 ∧ x371 < L) <| jLet (xs x371) fun x372 =>
jLet (j32 (l3 + 2)) fun x374 =>
jGd ((0 : Int) ≤ x374 ∧ x374 < L) <| jLet (xs x374) fun x375 =>
jBd (fX10_waits x372 x375 s0) fun x376 s377 =>
jLet (j32 (l3 + 1)) fun x380 =>
jGd ((0 : Int) ≤ x380 ∧ x380 < L) <| jLet (xs x380) fun x381 =>
jLet (j32 (l3 + 2)) fun x383 =>
jGd ((0 : Int) ≤ x383 ∧ x383 < L) <| jLet (xs x383) fun x384 =>
jBd (fX11_waits x381 x384 s377) fun x385 s386 =>
if x376 = x385 then (
bL_law_1275 xs L rec l3 s386)
else (
jRet 0 s386))
else if x6 = 20 then (
jLet (j32 (l3 + 1)) fun x390 =>
jGd ((0 : Int) ≤ x390 ∧ x390 < L) <| jLet (xs x390) fun x391 =>
jLet (j32 (l3 + 2)) fun x393 =>
jGd ((0 : Int) ≤ x393 ∧ x393 < L) <| jLet (xs x393) fun x394 =>
jBd (fX10_helps x391 x394 s0) fun x395 s396 =>
jLet (j32 (l3 + 1)) fun x399 =>
jGd ((0 : Int) ≤ x399 ∧ x399 < L) <| jLet (xs x399) fun x400 =>
jLet (j32 (l3 + 2)) fun x402 =>
jGd ((0 : Int) ≤ x402 ∧ x402 < L) <| jLet (xs x402) fun x403 =>
jBd (fX11_helps x400 x403 s396) fun x404 s405 =>
if x395 = x404 then (
bL_law_1275 xs L rec l3 s405)
else (
jRet 0 s405))
else if x6 = 21 then (
jLet (j32 (l3 + 1)) fun x409 =>
jGd ((0 : Int) ≤ x409 ∧ x409 < L) <| jLet (xs x409) fun x410 =>
jLet (j32 (l3 + 2)) fun x412 =>
jGd ((0 : Int) ≤ x412 ∧ x412 < L) <| jLet (xs x412) fun x413 =>
jBd (fX10_without x410 x413 s0) fun x414 s415 =>
jLet (j32 (l3 + 1)) fun x418 =>
jGd ((0 : Int) ≤ x418 ∧ x418 < L) <| jLet (xs x418) fun x419 =>
jLet (j32 (l3 + 2)) fun x421 =>
jGd ((0 : Int) ≤ x421 ∧ x421 < L) <| jLet (xs x421) fun x422 =>
jBd (fX11_without x419 x422 s415) fun x423 s424 =>
if x414 = x423 then (
bL_law_1275 xs L rec l3 s424)
else (
jRet 0 s424))
else if x6 = 22 then (
jLet (j32 (l3 + 1)) fun x428 =>
jGd ((0 : Int) ≤ x428 ∧ x428 < L) <| jLet (xs x428) fun x429 =>
jLet (j32 (l3 + 2)) fun x431 =>
jGd ((0 : Int) ≤ x431 ∧ x431 < L) <| jLet (xs x431) fun x432 =>
jBd (fX10_more x429 x432 s0) fun x433 s434 =>
jLet (j32 (l3 + 1)) fun x437 =>
jGd ((0 : Int) ≤ x437 ∧ x437 < L) <| jLet (xs x437) fun x438 =>
jLet (j32 (l3 + 2)) fun x440 =>
jGd ((0 : Int) ≤ x440 ∧ x440 < L) <| jLet (xs x440) fun x441 =>
jBd (fX11_more x438 x441 s434) fun x442 s443 =>
if x433 = x442 then (
bL_law_1275 xs L rec l3 s443)
else (
jRet 0 s443))
else if x6 = 23 then (
jLet (j32 (l3 + 1)) fun x447 =>
jGd ((0 : Int) ≤ x447 ∧ x447 < L) <| jLet (xs x447) fun x448 =>
jBd (fX10_best x448 s0) fun x449 s450 =>
jLet (j32 (l3 + 1)) fun x453 =>
jGd ((0 : Int) ≤ x453 ∧ x453 < L) <| jLet (xs x453) fun x454 =>
jBd (fX11_best x454 s450) fun x455 s456 =>
if x449 = x455 then (
bL_law_1275 xs L rec l3 s456)
else (
jRet 0 s456))
else if x6 = 24 then (
jLet (j32 (l3 + 1)) fun x460 =>
jGd ((0 : Int) ≤ x460 ∧ x460 < L) <| jLet (xs x460) fun x461 =>
jLet (j32 (l3 + 2)) fun x463 =>
jGd ((0 : Int) ≤ x463 ∧ x463 < L) <| jLet (xs x463) fun x464 =>
jLet (j32 (l3 + 3)) fun x466 =>
jGd ((0 : Int) ≤ x466 ∧ x466 < L) <| jLet (xs x466) fun x467 =>
jLet (j32 (l3 + 4)) fun x469 =>
jGd ((0 : Int) ≤ x469 ∧ x469 < L) <| jLet (xs x469) fun x470 =>
jBd (fX10_lack x461 x464 x467 x470 s0) fun x471 s472 =>
jLet (j32 (l3 + 1)) fun x475 =>
jGd ((0 : Int) ≤ x475 ∧ x475 < L) <| jLet (xs x475) fun x476 =>
jLet (j32 (l3 + 2)) fun x478 =>
jGd ((0 : Int) ≤ x478 ∧ x478 < L) <| jLet (xs x478) fun x479 =>
jLet (j32 (l3 + 3)) fun x481 =>
jGd ((0 : Int) ≤ x481 ∧ x481 < L) <| jLet (xs x481) fun x482 =>
jLet (j32 (l3 + 4)) fun x484 =>
jGd ((0 : Int) ≤ x484 ∧ x484 < L) <| jLet (xs x484) fun x485 =>
jBd (fX11_lack x476 x479 x482 x485 s472) fun x486 s487 =>
if x471 = x486 then (
bL_law_1275 xs L rec l3 s487)
else (
jRet 0 s487))
else if x6 = 25 then (
jLet (j32 (l3 + 1)) fun x491 =>
jGd ((0 : Int) ≤ x491 ∧ x491 < L) <| jLet (xs x491) fun x492 =>
jLet (j32 (l3 + 2)) fun x494 =>
jGd ((0 : Int) ≤ x494 ∧ x494 < L) <| jLet (xs x494) fun x495 =>
jBd (fX10_odds x492 x495 s0) fun x496 s497 =>
jLet (j32 (l3 + 1)) fun x500 =>
jGd ((0 : Int) ≤ x500 ∧ x500 < L) <| jLet (xs x500) fun x501 =>
jLet (j32 (l3 + 2)) fun x503 =>
jGd ((0 : Int) ≤ x503 ∧ x503 < L) <| jLet (xs x503) fun x504 =>
jBd (fX11_odds x501 x504 s497) fun x505 s506 =>
if x496 = x505 then (
bL_law_1275 xs L rec l3 s506)
else (
jRet 0 s506))
else if x6 = 26 then (
jLet (j32 (l3 + 1)) fun x510 =>
jGd ((0 : Int) ≤ x510 ∧ x510 < L) <| jLet (xs x510) fun x511 =>
jBd (fX10_unseen x511 s0) fun x512 s513 =>
jLet (j32 (l3 + 1)) fun x516 =>
jGd ((0 : Int) ≤ x516 ∧ x516 < L) <| jLet (xs x516) fun x517 =>
jBd (fX11_unseen x517 s513) fun x518 s519 =>
if x512 = x518 then (
bL_law_1275 xs L rec l3 s519)
else (
jRet 0 s519))
else if x6 = 27 then (
jLet (j32 (l3 + 1)) fun x523 =>
jGd ((0 : Int) ≤ x523 ∧ x523 < L) <| jLet (xs x523) fun x524 =>
jLet (j32 (l3 + 2)) fun x526 =>
jGd ((0 : Int) ≤ x526 ∧ x526 < L) <| jLet (xs x526) fun x527 =>
jBd (fX10_alike x524 x527 s0) fun x528 s529 =>
jLet (j32 (l3 + 1)) fun x532 =>
jGd ((0 : Int) ≤ x532 ∧ x532 < L) <| jLet (xs x532) fun x533 =>
jLet (j32 (l3 + 2)) fun x535 =>
jGd ((0 : Int) ≤ x535 ∧ x535 < L) <| jLet (xs x535) fun x536 =>
jBd (fX11_alike x533 x536 s529) fun x537 s538 =>
if x528 = x537 then (
bL_law_1275 xs L rec l3 s538)
else (
jRet 0 s538))
else if x6 = 28 then (
jLet (j32 (l3 + 1)) fun x542 =>
jGd ((0 : Int) ≤ x542 ∧ x542 < L) <| jLet (xs x542) fun x543 =>
jLet (j32 (l3 + 2)) fun x545 =>
jGd ((0 : Int) ≤ x545 ∧ x545 < L) <| jLet (xs x545) fun x546 =>
jLet (j32 (l3 + 3)) fun x548 =>
jGd ((0 : Int) ≤ x548 ∧ x548 < L) <| jLet (xs x548) fun x549 =>
jBd (fX10_rule x543 x546 x549 s0) fun x550 s551 =>
jLet (j32 (l3 + 1)) fun x554 =>
jGd ((0 : Int) ≤ x554 ∧ x554 < L) <| jLet (xs x554) fun x555 =>
jLet (j32 (l3 + 2)) fun x557 =>
jGd ((0 : Int) ≤ x557 ∧ x557 < L) <| jLet (xs x557) fun x558 =>
jLet (j32 (l3 + 3)) fun x560 =>
jGd ((0 : Int) ≤ x560 ∧ x560 < L) <| jLet (xs x560) fun x561 =>
jBd (fX11_rule x555 x558 x561 s551) fun x562 s563 =>
if x550 = x562 then (
bL_law_1275 xs L rec l3 s563)
else (
jRet 0 s563))
else if x6 = 29 then (
jBd (fX10_clearRules s0) fun x566 s567 =>
jBd (fX11_clearRules s567) fun x569 s570 =>
if x566 = x569 then (
bL_law_1275 xs L rec l3 s570)
else (
jRet 0 s570))
else if x6 = 30 then (
jLet (j32 (l3 + 1)) fun x574 =>
jGd ((0 : Int) ≤ x574 ∧ x574 < L) <| jLet (xs x574) fun x575 =>
jBd (fX10_worth x575 s0) fun x576 s577 =>
jLet (j32 (l3 + 1)) fun x580 =>
jGd ((0 : Int) ≤ x580 ∧ x580 < L) <| jLet (xs x580) fun x581 =>
jBd (fX11_worth x581 s577) fun x582 s583 =>
if x576 = x582 then (
bL_law_1275 xs L rec l3 s583)
else (
jRet 0 s583))
else if x6 = 31 then (
jLet (j32 (l3 + 1)) fun x587 =>
jGd ((0 : Int) ≤ x587 ∧ x587 < L) <| jLet (xs x587) fun x588 =>
jBd (fX10_by x588 s0) fun x589 s590 =>
jLet (j32 (l3 + 1)) fun x593 =>
jGd ((0 : Int) ≤ x593 ∧ x593 < L) <| jLet (xs x593) fun x594 =>
jBd (fX11_by x594 s590) fun x595 s596 =>
if x589 = x595 then (
bL_law_1275 xs L rec l3 s596)
else (
jRet 0 s596))
else if x6 = 32 then (
jLet (j32 (l3 + 1)) fun x600 =>
jGd ((0 : Int) ≤ x600 ∧ x600 < L) <| jLet (xs x600) fun x601 =>
jLet (j32 (l3 + 2)) fun x603 =>
jGd ((0 : Int) ≤ x603 ∧ x603 < L) <| jLet (xs x603) fun x604 =>
jBd (fX10_holds x601 x604 s0) fun x605 s606 =>
jLet (j32 (l3 + 1)) fun x609 =>
jGd ((0 : Int) ≤ x609 ∧ x609 < L) <| jLet (xs x609) fun x610 =>
jLet (j32 (l3 + 2)) fun x612 =>
jGd ((0 : Int) ≤ x612 ∧ x612 < L) <| jLet (xs x612) fun x613 =>
jBd (fX11_holds x610 x613 s606) fun x614 s615 =>
if x605 = x614 then (
bL_law_1275 xs L rec l3 s615)
else (
jRet 0 s615))
else (
bL_law_1275 xs L rec l3 s0))
set_option maxRecDepth 100000 in
set_option maxHeartbeats 4000000 in
theorem obL_law_723 {E : jEnv} {Rr : Int → jMem → Prop} {k1275 : Int → jMem → jO} (hk1275 : ∀ (l3 : Int) (s : jMem), jHo Rr (k1275 l3 s) → jGo E ML_law 14 Rr [4, 3, 3, 1] 1275 [0, 0, 53, l3] ([]) s) : ∀ (l3 t0 t2 t3 : Int) (s : jMem), jR 1 t0 → jR 1 t2 → jR 1 t3 → jHo Rr (bL_law_723 (jxs E) (jxl E) k1275 l3 t0 t2 t3 s) → jGo E ML_law 14 Rr [4, 3, 3, 1] 723 [0, 0, 53, l3] (jV E 1 t3 :: jV E 1 t2 :: jV E 3 53 :: jV E 1 t0 :: []) s := by
  intro l3 t0 t2 t3 s0 r_t0 r_t2 r_t3 hF
  unfold bL_law_723 at hF
  refine ji_callVi (pc := 723) 53 [t2, t3] (jV E 1 t0 :: []) oX11_count wlL_78 wmX11_count rfl rfl (Nat.le_of_ble_eq_true rfl) (jRaC (jRc3 rfl) (jRaC r_t2 (jRaC r_t3 jRa0))) rfl jcl_53 rfl (Nat.le_of_ble_eq_true rfl) hF dL_law_723 (fun x1 s2 r_x1 hF => ?_)
  refine ji_icmp_eq 1275 (pc := 726) r_t0 r_x1 hF dL_law_726 rfl (fun hF => ?_) (fun hF => ?_)
  · refine jg_norm [4, 3, 3, 1] [0, 0, 53, l3] rfl rfl ?_
    exact hk1275 _ _ hF
  · refine ji_iconst (pc := 729) dL_law_729 ?_
    exact ji_retz (pc := 730) rfl (jRc5 rfl) hF dL_law_730
set_option maxRecDepth 100000 in
set_option maxHeartbeats 4000000 in
theorem obL_law_701 {E : jEnv} {Rr : Int → jMem → Prop} {k1275 : Int → jMem → jO} (hk1275 : ∀ (l3 : Int) (s : jMem), jHo Rr (k1275 l3 s) → jGo E ML_law 14 Rr [4, 3, 3, 1] 1275 [0, 0, 53, l3] ([]) s) : ∀ (l3 t1 t2 : Int) (s : jMem), jR 1 t1 → jR 1 t2 → jHo Rr (bL_law_701 (jxs E) (jxl E) k1275 l3 t1 t2 s) → jGo E ML_law 14 Rr [4, 3, 3, 1] 701 [0, 0, 53, l3] (jV E 1 t2 :: jV E 1 t1 :: jV E 3 0 :: []) s := by
  intro l3 t1 t2 s0 r_t1 r_t2 hF
  unfold bL_law_701 at hF
  refine ji_callVi (pc := 701) 0 [t1, t2] ([]) oX10_count wlL_74 wmX10_count rfl rfl (Nat.le_of_ble_eq_true rfl) (jRaC (jRc3 rfl) (jRaC r_t1 (jRaC r_t2 jRa0))) rfl jcl_0 rfl (Nat.le_of_ble_eq_true rfl) hF dL_law_701 (fun x1 s2 r_x1 hF => ?_)
  refine ji_aload_n (n := 2) (pc := 704) 53 rfl rfl rfl dL_law_704 (fun r3 => ?_)
  refine jg_sload (n := 0) (pc := 705) rfl rfl dL_law_705 ?_
  refine ji_iload_n (n := 3) (pc := 706) l3 rfl rfl rfl dL_law_706 (fun r4 => ?_)
  refine ji_iconst (pc := 707) dL_law_707 ?_
  refine ji_iadd (pc := 708)  hF dL_law_708 (fun x5 r_x5 hF => ?_)
  refine ji_sld (pc := 709) rfl r_x5 hF dL_law_709 (fun x6 r_x6 hF => ?_)
  refine jg_sload (n := 0) (pc := 710) rfl rfl dL_law_710 ?_
  refine ji_iload_n (n := 3) (pc := 711) l3 rfl rfl rfl dL_law_711 (fun r7 => ?_)
  refine ji_iconst (pc := 712) dL_law_712 ?_
  refine ji_iadd (pc := 713)  hF dL_law_713 (fun x8 r_x8 hF => ?_)
  refine ji_sld (pc := 714) rfl r_x8 hF dL_law_714 (fun x9 r_x9 hF => ?_)
  refine ji_if_eq 722 (pc := 715) r_x9 hF dL_law_715 rfl (fun hF => ?_) (fun hF => ?_)
  · refine ji_iconst (pc := 722) dL_law_722 ?_
    refine jg_norm [4, 3, 3, 1] [0, 0, 53, l3] rfl rfl ?_
    exact obL_law_723 hk1275 _ _ _ _ _ r_x1 r_x6 (jRc rfl) hF
  · refine ji_iconst (pc := 718) dL_law_718 ?_
    refine jg_goto (pc := 719) 723 dL_law_719 rfl ?_
    refine jg_norm [4, 3, 3, 1] [0, 0, 53, l3] rfl rfl ?_
    exact obL_law_723 hk1275 _ _ _ _ _ r_x1 r_x6 (jRc rfl) hF
set_option maxRecDepth 100000 in
set_option maxHeartbeats 4000000 in
theorem obL_law_1275 {E : jEnv} {Rr : Int → jMem → Prop} {k18 : Int → jMem → jO} (hk18 : ∀ (l3 : Int) (s : jMem), jHo Rr (k18 l3 s) → jGo E ML_law 14 Rr [4, 3, 3, 1] 18 [0, 0, 53, l3] ([]) s) : ∀ (l3 : Int) (s : jMem), jHo Rr (bL_law_1275 (jxs E) (jxl E) k18 l3 s) → jGo E ML_law 14 Rr [4, 3, 3, 1] 1275 [0, 0, 53, l3] ([]) s := by
  intro l3 s0 hF
  unfold bL_law_1275 at hF
  refine ji_iinc (pc := 1275) l3 (fun w => [0, 0, 53, w]) rfl rfl rfl (fun _ => rfl) hF dL_law_1275 (fun x1 r_x1 hF => ?_)
  refine jg_goto (pc := 1278) 18 dL_law_1278 rfl ?_
  refine jg_norm [4, 3, 3, 1] [0, 0, 53, x1] rfl rfl ?_
  exact hk18 _ _ hF
set_option maxRecDepth 100000 in
set_option maxHeartbeats 4000000 in
theorem obL_law_18 {E : jEnv} (hL : jR 1 (jxl E)) {Rr : Int → jMem → Prop} {rec : Int → jMem → jO} (hrec : ∀ (l3 : Int) (s : jMem), jHo Rr (rec l3 s) → jGo E ML_law 14 Rr [4, 3, 3, 1] 18 [0, 0, 53, l3] ([]) s) : ∀ (l3 : Int) (s : jMem), jHo Rr (bL_law_18 (jxs E) (jxl E) rec l3 s) → jGo E ML_law 14 Rr [4, 3, 3, 1] 18 [0, 0, 53, l3] ([]) s := by
  intro l3 s0 hF
  unfold bL_law_18 at hF
  refine ji_iload_n (n := 3) (pc := 18) l3 rfl rfl rfl dL_law_18 (fun r1 => ?_)
  refine jg_sload (n := 0) (pc := 19) rfl rfl dL_law_19 ?_
  refine ji_slen (pc := 20) hL rfl hF dL_law_20 (fun x2 r_x2 hF => ?_)
  refine jg_bipush (pc := 21) rfl dL_law_21 ?_
  refine ji_isub (pc := 23)  hF dL_law_23 (fun x3 r_x3 hF => ?_)
  refine ji_icmp_gt 1281 (pc := 24) r1 r_x3 hF dL_law_24 rfl (fun hF => ?_) (fun hF => ?_)
  · refine ji_iconst (pc := 1281) dL_law_1281 ?_
    exact ji_retz (pc := 1282) rfl (jRc5 rfl) hF dL_law_1282
  · refine jg_sload (n := 0) (pc := 27) rfl rfl dL_law_27 ?_
    refine ji_iload_n (n := 3) (pc := 28) l3 rfl rfl rfl dL_law_28 (fun r4 => ?_)
    refine ji_sld (pc := 29) rfl r4 hF dL_law_29 (fun x5 r_x5 hF => ?_)
    refine jg_bipush (pc := 30) rfl dL_law_30 ?_
    refine ji_iand (pc := 32)  hF dL_law_32 (fun x6 r_x6 hF => ?_)
    refine jHo_if hF (fun h31 hF => ?_) (fun h31 hF => ?_)
    · refine jg_tswIn (pc := 33) 180 r_x6 (by omega) (by omega) (by rw [h31]; rfl) rfl dL_law_33 ?_
      refine ji_aload_n (n := 1) (pc := 180) 0 rfl rfl rfl dL_law_180 (fun r7 => ?_)
      refine jg_sload (n := 0) (pc := 181) rfl rfl dL_law_181 ?_
      refine ji_iload_n (n := 3) (pc := 182) l3 rfl rfl rfl dL_law_182 (fun r8 => ?_)
      refine ji_iconst (pc := 183) dL_law_183 ?_
      refine ji_iadd (pc := 184)  hF dL_law_184 (fun x9 r_x9 hF => ?_)
      refine ji_sld (pc := 185) rfl r_x9 hF dL_law_185 (fun x10 r_x10 hF => ?_)
      refine jg_sload (n := 0) (pc := 186) rfl rfl dL_law_186 ?_
      refine ji_iload_n (n := 3) (pc := 187) l3 rfl rfl rfl dL_law_187 (fun r11 => ?_)
      refine ji_iconst (pc := 188) dL_law_188 ?_
      refine ji_iadd (pc := 189)  hF dL_law_189 (fun x12 r_x12 hF => ?_)
      refine ji_sld (pc := 190) rfl r_x12 hF dL_law_190 (fun x13 r_x13 hF => ?_)
      refine jg_sload (n := 0) (pc := 191) rfl rfl dL_law_191 ?_
      refine ji_iload_n (n := 3) (pc := 192) l3 rfl rfl rfl dL_law_192 (fun r14 => ?_)
      refine ji_iconst (pc := 193) dL_law_193 ?_
      refine ji_iadd (pc := 194)  hF dL_law_194 (fun x15 r_x15 hF => ?_)
      refine ji_sld (pc := 195) rfl r_x15 hF dL_law_195 (fun x16 r_x16 hF => ?_)
      refine ji_callVi (pc := 196) 0 [x10, x13, x16] ([]) oX10_rack wlL_13 wmX10_rack rfl rfl (Nat.le_of_ble_eq_true rfl) (jRaC (jRc3 rfl) (jRaC r_x10 (jRaC r_x13 (jRaC r_x16 jRa0)))) rfl jcl_0 rfl (Nat.le_of_ble_eq_true rfl) hF dL_law_196 (fun x17 s18 r_x17 hF => ?_)
      refine ji_aload_n (n := 2) (pc := 199) 53 rfl rfl rfl dL_law_199 (fun r19 => ?_)
      refine jg_sload (n := 0) (pc := 200) rfl rfl dL_law_200 ?_
      refine ji_iload_n (n := 3) (pc := 201) l3 rfl rfl rfl dL_law_201 (fun r20 => ?_)
      refine ji_iconst (pc := 202) dL_law_202 ?_
      refine ji_iadd (pc := 203)  hF dL_law_203 (fun x21 r_x21 hF => ?_)
      refine ji_sld (pc := 204) rfl r_x21 hF dL_law_204 (fun x22 r_x22 hF => ?_)
      refine jg_sload (n := 0) (pc := 205) rfl rfl dL_law_205 ?_
      refine ji_iload_n (n := 3) (pc := 206) l3 rfl rfl rfl dL_law_206 (fun r23 => ?_)
      refine ji_iconst (pc := 207) dL_law_207 ?_
      refine ji_iadd (pc := 208)  hF dL_law_208 (fun x24 r_x24 hF => ?_)
      refine ji_sld (pc := 209) rfl r_x24 hF dL_law_209 (fun x25 r_x25 hF => ?_)
      refine jg_sload (n := 0) (pc := 210) rfl rfl dL_law_210 ?_
      refine ji_iload_n (n := 3) (pc := 211) l3 rfl rfl rfl dL_law_211 (fun r26 => ?_)
      refine ji_iconst (pc := 212) dL_law_212 ?_
      refine ji_iadd (pc := 213)  hF dL_law_213 (fun x27 r_x27 hF => ?_)
      refine ji_sld (pc := 214) rfl r_x27 hF dL_law_214 (fun x28 r_x28 hF => ?_)
      refine ji_callVi (pc := 215) 53 [x22, x25, x28] (jV E 1 x17 :: []) oX11_rack wlL_17 wmX11_rack rfl rfl (Nat.le_of_ble_eq_true rfl) (jRaC (jRc3 rfl) (jRaC r_x22 (jRaC r_x25 (jRaC r_x28 jRa0)))) rfl jcl_53 rfl (Nat.le_of_ble_eq_true rfl) hF dL_law_215 (fun x29 s30 r_x29 hF => ?_)
      refine ji_icmp_eq 1275 (pc := 218) r_x17 r_x29 hF dL_law_218 rfl (fun hF => ?_) (fun hF => ?_)
      · refine jg_norm [4, 3, 3, 1] [0, 0, 53, l3] rfl rfl ?_
        exact obL_law_1275 hrec _ _ hF
      · refine ji_iconst (pc := 221) dL_law_221 ?_
        exact ji_retz (pc := 222) rfl (jRc5 rfl) hF dL_law_222
    refine jHo_if hF (fun h56 hF => ?_) (fun h56 hF => ?_)
    · refine jg_tswIn (pc := 33) 223 r_x6 (by omega) (by omega) (by rw [h56]; rfl) rfl dL_law_33 ?_
      refine ji_aload_n (n := 1) (pc := 223) 0 rfl rfl rfl dL_law_223 (fun r32 => ?_)
      refine jg_sload (n := 0) (pc := 224) rfl rfl dL_law_224 ?_
      refine ji_iload_n (n := 3) (pc := 225) l3 rfl rfl rfl dL_law_225 (fun r33 => ?_)
      refine ji_iconst (pc := 226) dL_law_226 ?_
      refine ji_iadd (pc := 227)  hF dL_law_227 (fun x34 r_x34 hF => ?_)
      refine ji_sld (pc := 228) rfl r_x34 hF dL_law_228 (fun x35 r_x35 hF => ?_)
      refine jg_sload (n := 0) (pc := 229) rfl rfl dL_law_229 ?_
      refine ji_iload_n (n := 3) (pc := 230) l3 rfl rfl rfl dL_law_230 (fun r36 => ?_)
      refine ji_iconst (pc := 231) dL_law_231 ?_
      refine ji_iadd (pc := 232)  hF dL_law_232 (fun x37 r_x37 hF => ?_)
      refine ji_sld (pc := 233) rfl r_x37 hF dL_law_233 (fun x38 r_x38 hF => ?_)
      refine jg_sload (n := 0) (pc := 234) rfl rfl dL_law_234 ?_
      refine ji_iload_n (n := 3) (pc := 235) l3 rfl rfl rfl dL_law_235 (fun r39 => ?_)
      refine ji_iconst (pc := 236) dL_law_236 ?_
      refine ji_iadd (pc := 237)  hF dL_law_237 (fun x40 r_x40 hF => ?_)
      refine ji_sld (pc := 238) rfl r_x40 hF dL_law_238 (fun x41 r_x41 hF => ?_)
      refine ji_callVi (pc := 239) 0 [x35, x38, x41] ([]) oX10_place wlL_18 wmX10_place rfl rfl (Nat.le_of_ble_eq_true rfl) (jRaC (jRc3 rfl) (jRaC r_x35 (jRaC r_x38 (jRaC r_x41 jRa0)))) rfl jcl_0 rfl (Nat.le_of_ble_eq_true rfl) hF dL_law_239 (fun x42 s43 r_x42 hF => ?_)
      refine ji_aload_n (n := 2) (pc := 242) 53 rfl rfl rfl dL_law_242 (fun r44 => ?_)
      refine jg_sload (n := 0) (pc := 243) rfl rfl dL_law_243 ?_
      refine ji_iload_n (n := 3) (pc := 244) l3 rfl rfl rfl dL_law_244 (fun r45 => ?_)
      refine ji_iconst (pc := 245) dL_law_245 ?_
      refine ji_iadd (pc := 246)  hF dL_law_246 (fun x46 r_x46 hF => ?_)
      refine ji_sld (pc := 247) rfl r_x46 hF dL_law_247 (fun x47 r_x47 hF => ?_)
      refine jg_sload (n := 0) (pc := 248) rfl rfl dL_law_248 ?_
      refine ji_iload_n (n := 3) (pc := 249) l3 rfl rfl rfl dL_law_249 (fun r48 => ?_)
      refine ji_iconst (pc := 250) dL_law_250 ?_
      refine ji_iadd (pc := 251)  hF dL_law_251 (fun x49 r_x49 hF => ?_)
      refine ji_sld (pc := 252) rfl r_x49 hF dL_law_252 (fun x50 r_x50 hF => ?_)
      refine jg_sload (n := 0) (pc := 253) rfl rfl dL_law_253 ?_
      refine ji_iload_n (n := 3) (pc := 254) l3 rfl rfl rfl dL_law_254 (fun r51 => ?_)
      refine ji_iconst (pc := 255) dL_law_255 ?_
      refine ji_iadd (pc := 256)  hF dL_law_256 (fun x52 r_x52 hF => ?_)
      refine ji_sld (pc := 257) rfl r_x52 hF dL_law_257 (fun x53 r_x53 hF => ?_)
      refine ji_callVi (pc := 258) 53 [x47, x50, x53] (jV E 1 x42 :: []) oX11_place wlL_21 wmX11_place rfl rfl (Nat.le_of_ble_eq_true rfl) (jRaC (jRc3 rfl) (jRaC r_x47 (jRaC r_x50 (jRaC r_x53 jRa0)))) rfl jcl_53 rfl (Nat.le_of_ble_eq_true rfl) hF dL_law_258 (fun x54 s55 r_x54 hF => ?_)
      refine ji_icmp_eq 1275 (pc := 261) r_x42 r_x54 hF dL_law_261 rfl (fun hF => ?_) (fun hF => ?_)
      · refine jg_norm [4, 3, 3, 1] [0, 0, 53, l3] rfl rfl ?_
        exact obL_law_1275 hrec _ _ hF
      · refine ji_iconst (pc := 264) dL_law_264 ?_
        exact ji_retz (pc := 265) rfl (jRc5 rfl) hF dL_law_265
    refine jHo_if hF (fun h93 hF => ?_) (fun h93 hF => ?_)
    · refine jg_tswIn (pc := 33) 266 r_x6 (by omega) (by omega) (by rw [h93]; rfl) rfl dL_law_33 ?_
      refine ji_aload_n (n := 1) (pc := 266) 0 rfl rfl rfl dL_law_266 (fun r57 => ?_)
      refine jg_sload (n := 0) (pc := 267) rfl rfl dL_law_267 ?_
      refine ji_iload_n (n := 3) (pc := 268) l3 rfl rfl rfl dL_law_268 (fun r58 => ?_)
      refine ji_iconst (pc := 269) dL_law_269 ?_
      refine ji_iadd (pc := 270)  hF dL_law_270 (fun x59 r_x59 hF => ?_)
      refine ji_sld (pc := 271) rfl r_x59 hF dL_law_271 (fun x60 r_x60 hF => ?_)
      refine jg_sload (n := 0) (pc := 272) rfl rfl dL_law_272 ?_
      refine ji_iload_n (n := 3) (pc := 273) l3 rfl rfl rfl dL_law_273 (fun r61 => ?_)
      refine ji_iconst (pc := 274) dL_law_274 ?_
      refine ji_iadd (pc := 275)  hF dL_law_275 (fun x62 r_x62 hF => ?_)
      refine ji_sld (pc := 276) rfl r_x62 hF dL_law_276 (fun x63 r_x63 hF => ?_)
      refine jg_sload (n := 0) (pc := 277) rfl rfl dL_law_277 ?_
      refine ji_iload_n (n := 3) (pc := 278) l3 rfl rfl rfl dL_law_278 (fun r64 => ?_)
      refine ji_iconst (pc := 279) dL_law_279 ?_
      refine ji_iadd (pc := 280)  hF dL_law_280 (fun x65 r_x65 hF => ?_)
      refine ji_sld (pc := 281) rfl r_x65 hF dL_law_281 (fun x66 r_x66 hF => ?_)
      refine jg_sload (n := 0) (pc := 282) rfl rfl dL_law_282 ?_
      refine ji_iload_n (n := 3) (pc := 283) l3 rfl rfl rfl dL_law_283 (fun r67 => ?_)
      refine ji_iconst (pc := 284) dL_law_284 ?_
      refine ji_iadd (pc := 285)  hF dL_law_285 (fun x68 r_x68 hF => ?_)
      refine ji_sld (pc := 286) rfl r_x68 hF dL_law_286 (fun x69 r_x69 hF => ?_)
      refine jg_sload (n := 0) (pc := 287) rfl rfl dL_law_287 ?_
      refine ji_iload_n (n := 3) (pc := 288) l3 rfl rfl rfl dL_law_288 (fun r70 => ?_)
      refine ji_iconst (pc := 289) dL_law_289 ?_
      refine ji_iadd (pc := 290)  hF dL_law_290 (fun x71 r_x71 hF => ?_)
      refine ji_sld (pc := 291) rfl r_x71 hF dL_law_291 (fun x72 r_x72 hF => ?_)
      refine ji_callVi (pc := 292) 0 [x60, x63, x66, x69, x72] ([]) oX10_copy wlL_22 wmX10_copy rfl rfl (Nat.le_of_ble_eq_true rfl) (jRaC (jRc3 rfl) (jRaC r_x60 (jRaC r_x63 (jRaC r_x66 (jRaC r_x69 (jRaC r_x72 jRa0)))))) rfl jcl_0 rfl (Nat.le_of_ble_eq_true rfl) hF dL_law_292 (fun x73 s74 r_x73 hF => ?_)
      refine ji_aload_n (n := 2) (pc := 295) 53 rfl rfl rfl dL_law_295 (fun r75 => ?_)
      refine jg_sload (n := 0) (pc := 296) rfl rfl dL_law_296 ?_
      refine ji_iload_n (n := 3) (pc := 297) l3 rfl rfl rfl dL_law_297 (fun r76 => ?_)
      refine ji_iconst (pc := 298) dL_law_298 ?_
      refine ji_iadd (pc := 299)  hF dL_law_299 (fun x77 r_x77 hF => ?_)
      refine ji_sld (pc := 300) rfl r_x77 hF dL_law_300 (fun x78 r_x78 hF => ?_)
      refine jg_sload (n := 0) (pc := 301) rfl rfl dL_law_301 ?_
      refine ji_iload_n (n := 3) (pc := 302) l3 rfl rfl rfl dL_law_302 (fun r79 => ?_)
      refine ji_iconst (pc := 303) dL_law_303 ?_
      refine ji_iadd (pc := 304)  hF dL_law_304 (fun x80 r_x80 hF => ?_)
      refine ji_sld (pc := 305) rfl r_x80 hF dL_law_305 (fun x81 r_x81 hF => ?_)
      refine jg_sload (n := 0) (pc := 306) rfl rfl dL_law_306 ?_
      refine ji_iload_n (n := 3) (pc := 307) l3 rfl rfl rfl dL_law_307 (fun r82 => ?_)
      refine ji_iconst (pc := 308) dL_law_308 ?_
      refine ji_iadd (pc := 309)  hF dL_law_309 (fun x83 r_x83 hF => ?_)
      refine ji_sld (pc := 310) rfl r_x83 hF dL_law_310 (fun x84 r_x84 hF => ?_)
      refine jg_sload (n := 0) (pc := 311) rfl rfl dL_law_311 ?_
      refine ji_iload_n (n := 3) (pc := 312) l3 rfl rfl rfl dL_law_312 (fun r85 => ?_)
      refine ji_iconst (pc := 313) dL_law_313 ?_
      refine ji_iadd (pc := 314)  hF dL_law_314 (fun x86 r_x86 hF => ?_)
      refine ji_sld (pc := 315) rfl r_x86 hF dL_law_315 (fun x87 r_x87 hF => ?_)
      refine jg_sload (n := 0) (pc := 316) rfl rfl dL_law_316 ?_
      refine ji_iload_n (n := 3) (pc := 317) l3 rfl rfl rfl dL_law_317 (fun r88 => ?_)
      refine ji_iconst (pc := 318) dL_law_318 ?_
      refine ji_iadd (pc := 319)  hF dL_law_319 (fun x89 r_x89 hF => ?_)
      refine ji_sld (pc := 320) rfl r_x89 hF dL_law_320 (fun x90 r_x90 hF => ?_)
      refine ji_callVi (pc := 321) 53 [x78, x81, x84, x87, x90] (jV E 1 x73 :: []) oX11_copy wlL_26 wmX11_copy rfl rfl (Nat.le_of_ble_eq_true rfl) (jRaC (jRc3 rfl) (jRaC r_x78 (jRaC r_x81 (jRaC r_x84 (jRaC r_x87 (jRaC r_x90 jRa0)))))) rfl jcl_53 rfl (Nat.le_of_ble_eq_true rfl) hF dL_law_321 (fun x91 s92 r_x91 hF => ?_)
      refine ji_icmp_eq 1275 (pc := 324) r_x73 r_x91 hF dL_law_324 rfl (fun hF => ?_) (fun hF => ?_)
      · refine jg_norm [4, 3, 3, 1] [0, 0, 53, l3] rfl rfl ?_
        exact obL_law_1275 hrec _ _ hF
      · refine ji_iconst (pc := 327) dL_law_327 ?_
        exact ji_retz (pc := 328) rfl (jRc5 rfl) hF dL_law_328
    refine jHo_if hF (fun h112 hF => ?_) (fun h112 hF => ?_)
    · refine jg_tswIn (pc := 33) 329 r_x6 (by omega) (by omega) (by rw [h112]; rfl) rfl dL_law_33 ?_
      refine ji_aload_n (n := 1) (pc := 329) 0 rfl rfl rfl dL_law_329 (fun r94 => ?_)
      refine jg_sload (n := 0) (pc := 330) rfl rfl dL_law_330 ?_
      refine ji_iload_n (n := 3) (pc := 331) l3 rfl rfl rfl dL_law_331 (fun r95 => ?_)
      refine ji_iconst (pc := 332) dL_law_332 ?_
      refine ji_iadd (pc := 333)  hF dL_law_333 (fun x96 r_x96 hF => ?_)
      refine ji_sld (pc := 334) rfl r_x96 hF dL_law_334 (fun x97 r_x97 hF => ?_)
      refine jg_sload (n := 0) (pc := 335) rfl rfl dL_law_335 ?_
      refine ji_iload_n (n := 3) (pc := 336) l3 rfl rfl rfl dL_law_336 (fun r98 => ?_)
      refine ji_iconst (pc := 337) dL_law_337 ?_
      refine ji_iadd (pc := 338)  hF dL_law_338 (fun x99 r_x99 hF => ?_)
      refine ji_sld (pc := 339) rfl r_x99 hF dL_law_339 (fun x100 r_x100 hF => ?_)
      refine ji_callVi (pc := 340) 0 [x97, x100] ([]) oX10_told wlL_27 wmX10_told rfl rfl (Nat.le_of_ble_eq_true rfl) (jRaC (jRc3 rfl) (jRaC r_x97 (jRaC r_x100 jRa0))) rfl jcl_0 rfl (Nat.le_of_ble_eq_true rfl) hF dL_law_340 (fun x101 s102 r_x101 hF => ?_)
      refine ji_aload_n (n := 2) (pc := 343) 53 rfl rfl rfl dL_law_343 (fun r103 => ?_)
      refine jg_sload (n := 0) (pc := 344) rfl rfl dL_law_344 ?_
      refine ji_iload_n (n := 3) (pc := 345) l3 rfl rfl rfl dL_law_345 (fun r104 => ?_)
      refine ji_iconst (pc := 346) dL_law_346 ?_
      refine ji_iadd (pc := 347)  hF dL_law_347 (fun x105 r_x105 hF => ?_)
      refine ji_sld (pc := 348) rfl r_x105 hF dL_law_348 (fun x106 r_x106 hF => ?_)
      refine jg_sload (n := 0) (pc := 349) rfl rfl dL_law_349 ?_
      refine ji_iload_n (n := 3) (pc := 350) l3 rfl rfl rfl dL_law_350 (fun r107 => ?_)
      refine ji_iconst (pc := 351) dL_law_351 ?_
      refine ji_iadd (pc := 352)  hF dL_law_352 (fun x108 r_x108 hF => ?_)
      refine ji_sld (pc := 353) rfl r_x108 hF dL_law_353 (fun x109 r_x109 hF => ?_)
      refine ji_callVi (pc := 354) 53 [x106, x109] (jV E 1 x101 :: []) oX11_told wlL_31 wmX11_told rfl rfl (Nat.le_of_ble_eq_true rfl) (jRaC (jRc3 rfl) (jRaC r_x106 (jRaC r_x109 jRa0))) rfl jcl_53 rfl (Nat.le_of_ble_eq_true rfl) hF dL_law_354 (fun x110 s111 r_x110 hF => ?_)
      refine ji_icmp_eq 1275 (pc := 357) r_x101 r_x110 hF dL_law_357 rfl (fun hF => ?_) (fun hF => ?_)
      · refine jg_norm [4, 3, 3, 1] [0, 0, 53, l3] rfl rfl ?_
        exact obL_law_1275 hrec _ _ hF
      · refine ji_iconst (pc := 360) dL_law_360 ?_
        exact ji_retz (pc := 361) rfl (jRc5 rfl) hF dL_law_361
    refine jHo_if hF (fun h143 hF => ?_) (fun h143 hF => ?_)
    · refine jg_tswIn (pc := 33) 362 r_x6 (by omega) (by omega) (by rw [h143]; rfl) rfl dL_law_33 ?_
      refine ji_aload_n (n := 1) (pc := 362) 0 rfl rfl rfl dL_law_362 (fun r113 => ?_)
      refine jg_sload (n := 0) (pc := 363) rfl rfl dL_law_363 ?_
      refine ji_iload_n (n := 3) (pc := 364) l3 rfl rfl rfl dL_law_364 (fun r114 => ?_)
      refine ji_iconst (pc := 365) dL_law_365 ?_
      refine ji_iadd (pc := 366)  hF dL_law_366 (fun x115 r_x115 hF => ?_)
      refine ji_sld (pc := 367) rfl r_x115 hF dL_law_367 (fun x116 r_x116 hF => ?_)
      refine jg_sload (n := 0) (pc := 368) rfl rfl dL_law_368 ?_
      refine ji_iload_n (n := 3) (pc := 369) l3 rfl rfl rfl dL_law_369 (fun r117 => ?_)
      refine ji_iconst (pc := 370) dL_law_370 ?_
      refine ji_iadd (pc := 371)  hF dL_law_371 (fun x118 r_x118 hF => ?_)
      refine ji_sld (pc := 372) rfl r_x118 hF dL_law_372 (fun x119 r_x119 hF => ?_)
      refine jg_sload (n := 0) (pc := 373) rfl rfl dL_law_373 ?_
      refine ji_iload_n (n := 3) (pc := 374) l3 rfl rfl rfl dL_law_374 (fun r120 => ?_)
      refine ji_iconst (pc := 375) dL_law_375 ?_
      refine ji_iadd (pc := 376)  hF dL_law_376 (fun x121 r_x121 hF => ?_)
      refine ji_sld (pc := 377) rfl r_x121 hF dL_law_377 (fun x122 r_x122 hF => ?_)
      refine jg_sload (n := 0) (pc := 378) rfl rfl dL_law_378 ?_
      refine ji_iload_n (n := 3) (pc := 379) l3 rfl rfl rfl dL_law_379 (fun r123 => ?_)
      refine ji_iconst (pc := 380) dL_law_380 ?_
      refine ji_iadd (pc := 381)  hF dL_law_381 (fun x124 r_x124 hF => ?_)
      refine ji_sld (pc := 382) rfl r_x124 hF dL_law_382 (fun x125 r_x125 hF => ?_)
      refine ji_callVi (pc := 383) 0 [x116, x119, x122, x125] ([]) oX10_read wlL_32 wmX10_read rfl rfl (Nat.le_of_ble_eq_true rfl) (jRaC (jRc3 rfl) (jRaC r_x116 (jRaC r_x119 (jRaC r_x122 (jRaC r_x125 jRa0))))) rfl jcl_0 rfl (Nat.le_of_ble_eq_true rfl) hF dL_law_383 (fun x126 s127 r_x126 hF => ?_)
      refine ji_aload_n (n := 2) (pc := 386) 53 rfl rfl rfl dL_law_386 (fun r128 => ?_)
      refine jg_sload (n := 0) (pc := 387) rfl rfl dL_law_387 ?_
      refine ji_iload_n (n := 3) (pc := 388) l3 rfl rfl rfl dL_law_388 (fun r129 => ?_)
      refine ji_iconst (pc := 389) dL_law_389 ?_
      refine ji_iadd (pc := 390)  hF dL_law_390 (fun x130 r_x130 hF => ?_)
      refine ji_sld (pc := 391) rfl r_x130 hF dL_law_391 (fun x131 r_x131 hF => ?_)
      refine jg_sload (n := 0) (pc := 392) rfl rfl dL_law_392 ?_
      refine ji_iload_n (n := 3) (pc := 393) l3 rfl rfl rfl dL_law_393 (fun r132 => ?_)
      refine ji_iconst (pc := 394) dL_law_394 ?_
      refine ji_iadd (pc := 395)  hF dL_law_395 (fun x133 r_x133 hF => ?_)
      refine ji_sld (pc := 396) rfl r_x133 hF dL_law_396 (fun x134 r_x134 hF => ?_)
      refine jg_sload (n := 0) (pc := 397) rfl rfl dL_law_397 ?_
      refine ji_iload_n (n := 3) (pc := 398) l3 rfl rfl rfl dL_law_398 (fun r135 => ?_)
      refine ji_iconst (pc := 399) dL_law_399 ?_
      refine ji_iadd (pc := 400)  hF dL_law_400 (fun x136 r_x136 hF => ?_)
      refine ji_sld (pc := 401) rfl r_x136 hF dL_law_401 (fun x137 r_x137 hF => ?_)
      refine jg_sload (n := 0) (pc := 402) rfl rfl dL_law_402 ?_
      refine ji_iload_n (n := 3) (pc := 403) l3 rfl rfl rfl dL_law_403 (fun r138 => ?_)
      refine ji_iconst (pc := 404) dL_law_404 ?_
      refine ji_iadd (pc := 405)  hF dL_law_405 (fun x139 r_x139 hF => ?_)
      refine ji_sld (pc := 406) rfl r_x139 hF dL_law_406 (fun x140 r_x140 hF => ?_)
      refine ji_callVi (pc := 407) 53 [x131, x134, x137, x140] (jV E 1 x126 :: []) oX11_read wlL_36 wmX11_read rfl rfl (Nat.le_of_ble_eq_true rfl) (jRaC (jRc3 rfl) (jRaC r_x131 (jRaC r_x134 (jRaC r_x137 (jRaC r_x140 jRa0))))) rfl jcl_53 rfl (Nat.le_of_ble_eq_true rfl) hF dL_law_407 (fun x141 s142 r_x141 hF => ?_)
      refine ji_icmp_eq 1275 (pc := 410) r_x126 r_x141 hF dL_law_410 rfl (fun hF => ?_) (fun hF => ?_)
      · refine jg_norm [4, 3, 3, 1] [0, 0, 53, l3] rfl rfl ?_
        exact obL_law_1275 hrec _ _ hF
      · refine ji_iconst (pc := 413) dL_law_413 ?_
        exact ji_retz (pc := 414) rfl (jRc5 rfl) hF dL_law_414
    refine jHo_if hF (fun h162 hF => ?_) (fun h162 hF => ?_)
    · refine jg_tswIn (pc := 33) 415 r_x6 (by omega) (by omega) (by rw [h162]; rfl) rfl dL_law_33 ?_
      refine ji_aload_n (n := 1) (pc := 415) 0 rfl rfl rfl dL_law_415 (fun r144 => ?_)
      refine jg_sload (n := 0) (pc := 416) rfl rfl dL_law_416 ?_
      refine ji_iload_n (n := 3) (pc := 417) l3 rfl rfl rfl dL_law_417 (fun r145 => ?_)
      refine ji_iconst (pc := 418) dL_law_418 ?_
      refine ji_iadd (pc := 419)  hF dL_law_419 (fun x146 r_x146 hF => ?_)
      refine ji_sld (pc := 420) rfl r_x146 hF dL_law_420 (fun x147 r_x147 hF => ?_)
      refine jg_sload (n := 0) (pc := 421) rfl rfl dL_law_421 ?_
      refine ji_iload_n (n := 3) (pc := 422) l3 rfl rfl rfl dL_law_422 (fun r148 => ?_)
      refine ji_iconst (pc := 423) dL_law_423 ?_
      refine ji_iadd (pc := 424)  hF dL_law_424 (fun x149 r_x149 hF => ?_)
      refine ji_sld (pc := 425) rfl r_x149 hF dL_law_425 (fun x150 r_x150 hF => ?_)
      refine ji_callVi (pc := 426) 0 [x147, x150] ([]) oX10_take wlL_37 wmX10_take rfl rfl (Nat.le_of_ble_eq_true rfl) (jRaC (jRc3 rfl) (jRaC r_x147 (jRaC r_x150 jRa0))) rfl jcl_0 rfl (Nat.le_of_ble_eq_true rfl) hF dL_law_426 (fun x151 s152 r_x151 hF => ?_)
      refine ji_aload_n (n := 2) (pc := 429) 53 rfl rfl rfl dL_law_429 (fun r153 => ?_)
      refine jg_sload (n := 0) (pc := 430) rfl rfl dL_law_430 ?_
      refine ji_iload_n (n := 3) (pc := 431) l3 rfl rfl rfl dL_law_431 (fun r154 => ?_)
      refine ji_iconst (pc := 432) dL_law_432 ?_
      refine ji_iadd (pc := 433)  hF dL_law_433 (fun x155 r_x155 hF => ?_)
      refine ji_sld (pc := 434) rfl r_x155 hF dL_law_434 (fun x156 r_x156 hF => ?_)
      refine jg_sload (n := 0) (pc := 435) rfl rfl dL_law_435 ?_
      refine ji_iload_n (n := 3) (pc := 436) l3 rfl rfl rfl dL_law_436 (fun r157 => ?_)
      refine ji_iconst (pc := 437) dL_law_437 ?_
      refine ji_iadd (pc := 438)  hF dL_law_438 (fun x158 r_x158 hF => ?_)
      refine ji_sld (pc := 439) rfl r_x158 hF dL_law_439 (fun x159 r_x159 hF => ?_)
      refine ji_callVi (pc := 440) 53 [x156, x159] (jV E 1 x151 :: []) oX11_take wlL_40 wmX11_take rfl rfl (Nat.le_of_ble_eq_true rfl) (jRaC (jRc3 rfl) (jRaC r_x156 (jRaC r_x159 jRa0))) rfl jcl_53 rfl (Nat.le_of_ble_eq_true rfl) hF dL_law_440 (fun x160 s161 r_x160 hF => ?_)
      refine ji_icmp_eq 1275 (pc := 443) r_x151 r_x160 hF dL_law_443 rfl (fun hF => ?_) (fun hF => ?_)
      · refine jg_norm [4, 3, 3, 1] [0, 0, 53, l3] rfl rfl ?_
        exact obL_law_1275 hrec _ _ hF
      · refine ji_iconst (pc := 446) dL_law_446 ?_
        exact ji_retz (pc := 447) rfl (jRc5 rfl) hF dL_law_447
    refine jHo_if hF (fun h175 hF => ?_) (fun h175 hF => ?_)
    · refine jg_tswIn (pc := 33) 448 r_x6 (by omega) (by omega) (by rw [h175]; rfl) rfl dL_law_33 ?_
      refine ji_aload_n (n := 1) (pc := 448) 0 rfl rfl rfl dL_law_448 (fun r163 => ?_)
      refine jg_sload (n := 0) (pc := 449) rfl rfl dL_law_449 ?_
      refine ji_iload_n (n := 3) (pc := 450) l3 rfl rfl rfl dL_law_450 (fun r164 => ?_)
      refine ji_iconst (pc := 451) dL_law_451 ?_
      refine ji_iadd (pc := 452)  hF dL_law_452 (fun x165 r_x165 hF => ?_)
      refine ji_sld (pc := 453) rfl r_x165 hF dL_law_453 (fun x166 r_x166 hF => ?_)
      refine ji_callVi (pc := 454) 0 [x166] ([]) oX10_seed wlL_41 wmX10_seed rfl rfl (Nat.le_of_ble_eq_true rfl) (jRaC (jRc3 rfl) (jRaC r_x166 jRa0)) rfl jcl_0 rfl (Nat.le_of_ble_eq_true rfl) hF dL_law_454 (fun x167 s168 r_x167 hF => ?_)
      refine ji_aload_n (n := 2) (pc := 457) 53 rfl rfl rfl dL_law_457 (fun r169 => ?_)
      refine jg_sload (n := 0) (pc := 458) rfl rfl dL_law_458 ?_
      refine ji_iload_n (n := 3) (pc := 459) l3 rfl rfl rfl dL_law_459 (fun r170 => ?_)
      refine ji_iconst (pc := 460) dL_law_460 ?_
      refine ji_iadd (pc := 461)  hF dL_law_461 (fun x171 r_x171 hF => ?_)
      refine ji_sld (pc := 462) rfl r_x171 hF dL_law_462 (fun x172 r_x172 hF => ?_)
      refine ji_callVi (pc := 463) 53 [x172] (jV E 1 x167 :: []) oX11_seed wlL_45 wmX11_seed rfl rfl (Nat.le_of_ble_eq_true rfl) (jRaC (jRc3 rfl) (jRaC r_x172 jRa0)) rfl jcl_53 rfl (Nat.le_of_ble_eq_true rfl) hF dL_law_463 (fun x173 s174 r_x173 hF => ?_)
      refine ji_icmp_eq 1275 (pc := 466) r_x167 r_x173 hF dL_law_466 rfl (fun hF => ?_) (fun hF => ?_)
      · refine jg_norm [4, 3, 3, 1] [0, 0, 53, l3] rfl rfl ?_
        exact obL_law_1275 hrec _ _ hF
      · refine ji_iconst (pc := 469) dL_law_469 ?_
        exact ji_retz (pc := 470) rfl (jRc5 rfl) hF dL_law_470
    refine jHo_if hF (fun h188 hF => ?_) (fun h188 hF => ?_)
    · refine jg_tswIn (pc := 33) 471 r_x6 (by omega) (by omega) (by rw [h188]; rfl) rfl dL_law_33 ?_
      refine ji_aload_n (n := 1) (pc := 471) 0 rfl rfl rfl dL_law_471 (fun r176 => ?_)
      refine jg_sload (n := 0) (pc := 472) rfl rfl dL_law_472 ?_
      refine ji_iload_n (n := 3) (pc := 473) l3 rfl rfl rfl dL_law_473 (fun r177 => ?_)
      refine ji_iconst (pc := 474) dL_law_474 ?_
      refine ji_iadd (pc := 475)  hF dL_law_475 (fun x178 r_x178 hF => ?_)
      refine ji_sld (pc := 476) rfl r_x178 hF dL_law_476 (fun x179 r_x179 hF => ?_)
      refine ji_callVi (pc := 477) 0 [x179] ([]) oX10_draw wlL_46 wmX10_draw rfl rfl (Nat.le_of_ble_eq_true rfl) (jRaC (jRc3 rfl) (jRaC r_x179 jRa0)) rfl jcl_0 rfl (Nat.le_of_ble_eq_true rfl) hF dL_law_477 (fun x180 s181 r_x180 hF => ?_)
      refine ji_aload_n (n := 2) (pc := 480) 53 rfl rfl rfl dL_law_480 (fun r182 => ?_)
      refine jg_sload (n := 0) (pc := 481) rfl rfl dL_law_481 ?_
      refine ji_iload_n (n := 3) (pc := 482) l3 rfl rfl rfl dL_law_482 (fun r183 => ?_)
      refine ji_iconst (pc := 483) dL_law_483 ?_
      refine ji_iadd (pc := 484)  hF dL_law_484 (fun x184 r_x184 hF => ?_)
      refine ji_sld (pc := 485) rfl r_x184 hF dL_law_485 (fun x185 r_x185 hF => ?_)
      refine ji_callVi (pc := 486) 53 [x185] (jV E 1 x180 :: []) oX11_draw wlL_49 wmX11_draw rfl rfl (Nat.le_of_ble_eq_true rfl) (jRaC (jRc3 rfl) (jRaC r_x185 jRa0)) rfl jcl_53 rfl (Nat.le_of_ble_eq_true rfl) hF dL_law_486 (fun x186 s187 r_x186 hF => ?_)
      refine ji_icmp_eq 1275 (pc := 489) r_x180 r_x186 hF dL_law_489 rfl (fun hF => ?_) (fun hF => ?_)
      · refine jg_norm [4, 3, 3, 1] [0, 0, 53, l3] rfl rfl ?_
        exact obL_law_1275 hrec _ _ hF
      · refine ji_iconst (pc := 492) dL_law_492 ?_
        exact ji_retz (pc := 493) rfl (jRc5 rfl) hF dL_law_493
    refine jHo_if hF (fun h201 hF => ?_) (fun h201 hF => ?_)
    · refine jg_tswIn (pc := 33) 494 r_x6 (by omega) (by omega) (by rw [h201]; rfl) rfl dL_law_33 ?_
      refine ji_aload_n (n := 1) (pc := 494) 0 rfl rfl rfl dL_law_494 (fun r189 => ?_)
      refine jg_sload (n := 0) (pc := 495) rfl rfl dL_law_495 ?_
      refine ji_iload_n (n := 3) (pc := 496) l3 rfl rfl rfl dL_law_496 (fun r190 => ?_)
      refine ji_iconst (pc := 497) dL_law_497 ?_
      refine ji_iadd (pc := 498)  hF dL_law_498 (fun x191 r_x191 hF => ?_)
      refine ji_sld (pc := 499) rfl r_x191 hF dL_law_499 (fun x192 r_x192 hF => ?_)
      refine ji_callVi (pc := 500) 0 [x192] ([]) oX10_deal wlL_50 wmX10_deal rfl rfl (Nat.le_of_ble_eq_true rfl) (jRaC (jRc3 rfl) (jRaC r_x192 jRa0)) rfl jcl_0 rfl (Nat.le_of_ble_eq_true rfl) hF dL_law_500 (fun x193 s194 r_x193 hF => ?_)
      refine ji_aload_n (n := 2) (pc := 503) 53 rfl rfl rfl dL_law_503 (fun r195 => ?_)
      refine jg_sload (n := 0) (pc := 504) rfl rfl dL_law_504 ?_
      refine ji_iload_n (n := 3) (pc := 505) l3 rfl rfl rfl dL_law_505 (fun r196 => ?_)
      refine ji_iconst (pc := 506) dL_law_506 ?_
      refine ji_iadd (pc := 507)  hF dL_law_507 (fun x197 r_x197 hF => ?_)
      refine ji_sld (pc := 508) rfl r_x197 hF dL_law_508 (fun x198 r_x198 hF => ?_)
      refine ji_callVi (pc := 509) 53 [x198] (jV E 1 x193 :: []) oX11_deal wlL_53 wmX11_deal rfl rfl (Nat.le_of_ble_eq_true rfl) (jRaC (jRc3 rfl) (jRaC r_x198 jRa0)) rfl jcl_53 rfl (Nat.le_of_ble_eq_true rfl) hF dL_law_509 (fun x199 s200 r_x199 hF => ?_)
      refine ji_icmp_eq 1275 (pc := 512) r_x193 r_x199 hF dL_law_512 rfl (fun hF => ?_) (fun hF => ?_)
      · refine jg_norm [4, 3, 3, 1] [0, 0, 53, l3] rfl rfl ?_
        exact obL_law_1275 hrec _ _ hF
      · refine ji_iconst (pc := 515) dL_law_515 ?_
        exact ji_retz (pc := 516) rfl (jRc5 rfl) hF dL_law_516
    refine jHo_if hF (fun h220 hF => ?_) (fun h220 hF => ?_)
    · refine jg_tswIn (pc := 33) 517 r_x6 (by omega) (by omega) (by rw [h220]; rfl) rfl dL_law_33 ?_
      refine ji_aload_n (n := 1) (pc := 517) 0 rfl rfl rfl dL_law_517 (fun r202 => ?_)
      refine jg_sload (n := 0) (pc := 518) rfl rfl dL_law_518 ?_
      refine ji_iload_n (n := 3) (pc := 519) l3 rfl rfl rfl dL_law_519 (fun r203 => ?_)
      refine ji_iconst (pc := 520) dL_law_520 ?_
      refine ji_iadd (pc := 521)  hF dL_law_521 (fun x204 r_x204 hF => ?_)
      refine ji_sld (pc := 522) rfl r_x204 hF dL_law_522 (fun x205 r_x205 hF => ?_)
      refine jg_sload (n := 0) (pc := 523) rfl rfl dL_law_523 ?_
      refine ji_iload_n (n := 3) (pc := 524) l3 rfl rfl rfl dL_law_524 (fun r206 => ?_)
      refine ji_iconst (pc := 525) dL_law_525 ?_
      refine ji_iadd (pc := 526)  hF dL_law_526 (fun x207 r_x207 hF => ?_)
      refine ji_sld (pc := 527) rfl r_x207 hF dL_law_527 (fun x208 r_x208 hF => ?_)
      refine ji_callVi (pc := 528) 0 [x205, x208] ([]) oX10_discard wlL_54 wmX10_discard rfl rfl (Nat.le_of_ble_eq_true rfl) (jRaC (jRc3 rfl) (jRaC r_x205 (jRaC r_x208 jRa0))) rfl jcl_0 rfl (Nat.le_of_ble_eq_true rfl) hF dL_law_528 (fun x209 s210 r_x209 hF => ?_)
      refine ji_aload_n (n := 2) (pc := 531) 53 rfl rfl rfl dL_law_531 (fun r211 => ?_)
      refine jg_sload (n := 0) (pc := 532) rfl rfl dL_law_532 ?_
      refine ji_iload_n (n := 3) (pc := 533) l3 rfl rfl rfl dL_law_533 (fun r212 => ?_)
      refine ji_iconst (pc := 534) dL_law_534 ?_
      refine ji_iadd (pc := 535)  hF dL_law_535 (fun x213 r_x213 hF => ?_)
      refine ji_sld (pc := 536) rfl r_x213 hF dL_law_536 (fun x214 r_x214 hF => ?_)
      refine jg_sload (n := 0) (pc := 537) rfl rfl dL_law_537 ?_
      refine ji_iload_n (n := 3) (pc := 538) l3 rfl rfl rfl dL_law_538 (fun r215 => ?_)
      refine ji_iconst (pc := 539) dL_law_539 ?_
      refine ji_iadd (pc := 540)  hF dL_law_540 (fun x216 r_x216 hF => ?_)
      refine ji_sld (pc := 541) rfl r_x216 hF dL_law_541 (fun x217 r_x217 hF => ?_)
      refine ji_callVi (pc := 542) 53 [x214, x217] (jV E 1 x209 :: []) oX11_discard wlL_57 wmX11_discard rfl rfl (Nat.le_of_ble_eq_true rfl) (jRaC (jRc3 rfl) (jRaC r_x214 (jRaC r_x217 jRa0))) rfl jcl_53 rfl (Nat.le_of_ble_eq_true rfl) hF dL_law_542 (fun x218 s219 r_x218 hF => ?_)
      refine ji_icmp_eq 1275 (pc := 545) r_x209 r_x218 hF dL_law_545 rfl (fun hF => ?_) (fun hF => ?_)
      · refine jg_norm [4, 3, 3, 1] [0, 0, 53, l3] rfl rfl ?_
        exact obL_law_1275 hrec _ _ hF
      · refine ji_iconst (pc := 548) dL_law_548 ?_
        exact ji_retz (pc := 549) rfl (jRc5 rfl) hF dL_law_549
    refine jHo_if hF (fun h245 hF => ?_) (fun h245 hF => ?_)
    · refine jg_tswIn (pc := 33) 550 r_x6 (by omega) (by omega) (by rw [h245]; rfl) rfl dL_law_33 ?_
      refine ji_aload_n (n := 1) (pc := 550) 0 rfl rfl rfl dL_law_550 (fun r221 => ?_)
      refine jg_sload (n := 0) (pc := 551) rfl rfl dL_law_551 ?_
      refine ji_iload_n (n := 3) (pc := 552) l3 rfl rfl rfl dL_law_552 (fun r222 => ?_)
      refine ji_iconst (pc := 553) dL_law_553 ?_
      refine ji_iadd (pc := 554)  hF dL_law_554 (fun x223 r_x223 hF => ?_)
      refine ji_sld (pc := 555) rfl r_x223 hF dL_law_555 (fun x224 r_x224 hF => ?_)
      refine jg_sload (n := 0) (pc := 556) rfl rfl dL_law_556 ?_
      refine ji_iload_n (n := 3) (pc := 557) l3 rfl rfl rfl dL_law_557 (fun r225 => ?_)
      refine ji_iconst (pc := 558) dL_law_558 ?_
      refine ji_iadd (pc := 559)  hF dL_law_559 (fun x226 r_x226 hF => ?_)
      refine ji_sld (pc := 560) rfl r_x226 hF dL_law_560 (fun x227 r_x227 hF => ?_)
      refine jg_sload (n := 0) (pc := 561) rfl rfl dL_law_561 ?_
      refine ji_iload_n (n := 3) (pc := 562) l3 rfl rfl rfl dL_law_562 (fun r228 => ?_)
      refine ji_iconst (pc := 563) dL_law_563 ?_
      refine ji_iadd (pc := 564)  hF dL_law_564 (fun x229 r_x229 hF => ?_)
      refine ji_sld (pc := 565) rfl r_x229 hF dL_law_565 (fun x230 r_x230 hF => ?_)
      refine ji_callVi (pc := 566) 0 [x224, x227, x230] ([]) oX10_open wlL_58 wmX10_open rfl rfl (Nat.le_of_ble_eq_true rfl) (jRaC (jRc3 rfl) (jRaC r_x224 (jRaC r_x227 (jRaC r_x230 jRa0)))) rfl jcl_0 rfl (Nat.le_of_ble_eq_true rfl) hF dL_law_566 (fun x231 s232 r_x231 hF => ?_)
      refine ji_aload_n (n := 2) (pc := 569) 53 rfl rfl rfl dL_law_569 (fun r233 => ?_)
      refine jg_sload (n := 0) (pc := 570) rfl rfl dL_law_570 ?_
      refine ji_iload_n (n := 3) (pc := 571) l3 rfl rfl rfl dL_law_571 (fun r234 => ?_)
      refine ji_iconst (pc := 572) dL_law_572 ?_
      refine ji_iadd (pc := 573)  hF dL_law_573 (fun x235 r_x235 hF => ?_)
      refine ji_sld (pc := 574) rfl r_x235 hF dL_law_574 (fun x236 r_x236 hF => ?_)
      refine jg_sload (n := 0) (pc := 575) rfl rfl dL_law_575 ?_
      refine ji_iload_n (n := 3) (pc := 576) l3 rfl rfl rfl dL_law_576 (fun r237 => ?_)
      refine ji_iconst (pc := 577) dL_law_577 ?_
      refine ji_iadd (pc := 578)  hF dL_law_578 (fun x238 r_x238 hF => ?_)
      refine ji_sld (pc := 579) rfl r_x238 hF dL_law_579 (fun x239 r_x239 hF => ?_)
      refine jg_sload (n := 0) (pc := 580) rfl rfl dL_law_580 ?_
      refine ji_iload_n (n := 3) (pc := 581) l3 rfl rfl rfl dL_law_581 (fun r240 => ?_)
      refine ji_iconst (pc := 582) dL_law_582 ?_
      refine ji_iadd (pc := 583)  hF dL_law_583 (fun x241 r_x241 hF => ?_)
      refine ji_sld (pc := 584) rfl r_x241 hF dL_law_584 (fun x242 r_x242 hF => ?_)
      refine ji_callVi (pc := 585) 53 [x236, x239, x242] (jV E 1 x231 :: []) oX11_open wlL_61 wmX11_open rfl rfl (Nat.le_of_ble_eq_true rfl) (jRaC (jRc3 rfl) (jRaC r_x236 (jRaC r_x239 (jRaC r_x242 jRa0)))) rfl jcl_53 rfl (Nat.le_of_ble_eq_true rfl) hF dL_law_585 (fun x243 s244 r_x243 hF => ?_)
      refine ji_icmp_eq 1275 (pc := 588) r_x231 r_x243 hF dL_law_588 rfl (fun hF => ?_) (fun hF => ?_)
      · refine jg_norm [4, 3, 3, 1] [0, 0, 53, l3] rfl rfl ?_
        exact obL_law_1275 hrec _ _ hF
      · refine ji_iconst (pc := 591) dL_law_591 ?_
        exact ji_retz (pc := 592) rfl (jRc5 rfl) hF dL_law_592
    refine jHo_if hF (fun h258 hF => ?_) (fun h258 hF => ?_)
    · refine jg_tswIn (pc := 33) 593 r_x6 (by omega) (by omega) (by rw [h258]; rfl) rfl dL_law_33 ?_
      refine ji_aload_n (n := 1) (pc := 593) 0 rfl rfl rfl dL_law_593 (fun r246 => ?_)
      refine jg_sload (n := 0) (pc := 594) rfl rfl dL_law_594 ?_
      refine ji_iload_n (n := 3) (pc := 595) l3 rfl rfl rfl dL_law_595 (fun r247 => ?_)
      refine ji_iconst (pc := 596) dL_law_596 ?_
      refine ji_iadd (pc := 597)  hF dL_law_597 (fun x248 r_x248 hF => ?_)
      refine ji_sld (pc := 598) rfl r_x248 hF dL_law_598 (fun x249 r_x249 hF => ?_)
      refine ji_callVi (pc := 599) 0 [x249] ([]) oX10_clear wlL_62 wmX10_clear rfl rfl (Nat.le_of_ble_eq_true rfl) (jRaC (jRc3 rfl) (jRaC r_x249 jRa0)) rfl jcl_0 rfl (Nat.le_of_ble_eq_true rfl) hF dL_law_599 (fun x250 s251 r_x250 hF => ?_)
      refine ji_aload_n (n := 2) (pc := 602) 53 rfl rfl rfl dL_law_602 (fun r252 => ?_)
      refine jg_sload (n := 0) (pc := 603) rfl rfl dL_law_603 ?_
      refine ji_iload_n (n := 3) (pc := 604) l3 rfl rfl rfl dL_law_604 (fun r253 => ?_)
      refine ji_iconst (pc := 605) dL_law_605 ?_
      refine ji_iadd (pc := 606)  hF dL_law_606 (fun x254 r_x254 hF => ?_)
      refine ji_sld (pc := 607) rfl r_x254 hF dL_law_607 (fun x255 r_x255 hF => ?_)
      refine ji_callVi (pc := 608) 53 [x255] (jV E 1 x250 :: []) oX11_clear wlL_65 wmX11_clear rfl rfl (Nat.le_of_ble_eq_true rfl) (jRaC (jRc3 rfl) (jRaC r_x255 jRa0)) rfl jcl_53 rfl (Nat.le_of_ble_eq_true rfl) hF dL_law_608 (fun x256 s257 r_x256 hF => ?_)
      refine ji_icmp_eq 1275 (pc := 611) r_x250 r_x256 hF dL_law_611 rfl (fun hF => ?_) (fun hF => ?_)
      · refine jg_norm [4, 3, 3, 1] [0, 0, 53, l3] rfl rfl ?_
        exact obL_law_1275 hrec _ _ hF
      · refine ji_iconst (pc := 614) dL_law_614 ?_
        exact ji_retz (pc := 615) rfl (jRc5 rfl) hF dL_law_615
    refine jHo_if hF (fun h277 hF => ?_) (fun h277 hF => ?_)
    · refine jg_tswIn (pc := 33) 616 r_x6 (by omega) (by omega) (by rw [h277]; rfl) rfl dL_law_33 ?_
      refine ji_aload_n (n := 1) (pc := 616) 0 rfl rfl rfl dL_law_616 (fun r259 => ?_)
      refine jg_sload (n := 0) (pc := 617) rfl rfl dL_law_617 ?_
      refine ji_iload_n (n := 3) (pc := 618) l3 rfl rfl rfl dL_law_618 (fun r260 => ?_)
      refine ji_iconst (pc := 619) dL_law_619 ?_
      refine ji_iadd (pc := 620)  hF dL_law_620 (fun x261 r_x261 hF => ?_)
      refine ji_sld (pc := 621) rfl r_x261 hF dL_law_621 (fun x262 r_x262 hF => ?_)
      refine jg_sload (n := 0) (pc := 622) rfl rfl dL_law_622 ?_
      refine ji_iload_n (n := 3) (pc := 623) l3 rfl rfl rfl dL_law_623 (fun r263 => ?_)
      refine ji_iconst (pc := 624) dL_law_624 ?_
      refine ji_iadd (pc := 625)  hF dL_law_625 (fun x264 r_x264 hF => ?_)
      refine ji_sld (pc := 626) rfl r_x264 hF dL_law_626 (fun x265 r_x265 hF => ?_)
      refine ji_callVi (pc := 627) 0 [x262, x265] ([]) oX10_tiles wlL_66 wmX10_tiles rfl rfl (Nat.le_of_ble_eq_true rfl) (jRaC (jRc3 rfl) (jRaC r_x262 (jRaC r_x265 jRa0))) rfl jcl_0 rfl (Nat.le_of_ble_eq_true rfl) hF dL_law_627 (fun x266 s267 r_x266 hF => ?_)
      refine ji_aload_n (n := 2) (pc := 630) 53 rfl rfl rfl dL_law_630 (fun r268 => ?_)
      refine jg_sload (n := 0) (pc := 631) rfl rfl dL_law_631 ?_
      refine ji_iload_n (n := 3) (pc := 632) l3 rfl rfl rfl dL_law_632 (fun r269 => ?_)
      refine ji_iconst (pc := 633) dL_law_633 ?_
      refine ji_iadd (pc := 634)  hF dL_law_634 (fun x270 r_x270 hF => ?_)
      refine ji_sld (pc := 635) rfl r_x270 hF dL_law_635 (fun x271 r_x271 hF => ?_)
      refine jg_sload (n := 0) (pc := 636) rfl rfl dL_law_636 ?_
      refine ji_iload_n (n := 3) (pc := 637) l3 rfl rfl rfl dL_law_637 (fun r272 => ?_)
      refine ji_iconst (pc := 638) dL_law_638 ?_
      refine ji_iadd (pc := 639)  hF dL_law_639 (fun x273 r_x273 hF => ?_)
      refine ji_sld (pc := 640) rfl r_x273 hF dL_law_640 (fun x274 r_x274 hF => ?_)
      refine ji_callVi (pc := 641) 53 [x271, x274] (jV E 1 x266 :: []) oX11_tiles wlL_69 wmX11_tiles rfl rfl (Nat.le_of_ble_eq_true rfl) (jRaC (jRc3 rfl) (jRaC r_x271 (jRaC r_x274 jRa0))) rfl jcl_53 rfl (Nat.le_of_ble_eq_true rfl) hF dL_law_641 (fun x275 s276 r_x275 hF => ?_)
      refine ji_icmp_eq 1275 (pc := 644) r_x266 r_x275 hF dL_law_644 rfl (fun hF => ?_) (fun hF => ?_)
      · refine jg_norm [4, 3, 3, 1] [0, 0, 53, l3] rfl rfl ?_
        exact obL_law_1275 hrec _ _ hF
      · refine ji_iconst (pc := 647) dL_law_647 ?_
        exact ji_retz (pc := 648) rfl (jRc5 rfl) hF dL_law_648
    refine jHo_if hF (fun h296 hF => ?_) (fun h296 hF => ?_)
    · refine jg_tswIn (pc := 33) 649 r_x6 (by omega) (by omega) (by rw [h296]; rfl) rfl dL_law_33 ?_
      refine ji_aload_n (n := 1) (pc := 649) 0 rfl rfl rfl dL_law_649 (fun r278 => ?_)
      refine jg_sload (n := 0) (pc := 650) rfl rfl dL_law_650 ?_
      refine ji_iload_n (n := 3) (pc := 651) l3 rfl rfl rfl dL_law_651 (fun r279 => ?_)
      refine ji_iconst (pc := 652) dL_law_652 ?_
      refine ji_iadd (pc := 653)  hF dL_law_653 (fun x280 r_x280 hF => ?_)
      refine ji_sld (pc := 654) rfl r_x280 hF dL_law_654 (fun x281 r_x281 hF => ?_)
      refine jg_sload (n := 0) (pc := 655) rfl rfl dL_law_655 ?_
      refine ji_iload_n (n := 3) (pc := 656) l3 rfl rfl rfl dL_law_656 (fun r282 => ?_)
      refine ji_iconst (pc := 657) dL_law_657 ?_
      refine ji_iadd (pc := 658)  hF dL_law_658 (fun x283 r_x283 hF => ?_)
      refine ji_sld (pc := 659) rfl r_x283 hF dL_law_659 (fun x284 r_x284 hF => ?_)
      refine ji_callVi (pc := 660) 0 [x281, x284] ([]) oX10_about wlL_70 wmX10_about rfl rfl (Nat.le_of_ble_eq_true rfl) (jRaC (jRc3 rfl) (jRaC r_x281 (jRaC r_x284 jRa0))) rfl jcl_0 rfl (Nat.le_of_ble_eq_true rfl) hF dL_law_660 (fun x285 s286 r_x285 hF => ?_)
      refine ji_aload_n (n := 2) (pc := 663) 53 rfl rfl rfl dL_law_663 (fun r287 => ?_)
      refine jg_sload (n := 0) (pc := 664) rfl rfl dL_law_664 ?_
      refine ji_iload_n (n := 3) (pc := 665) l3 rfl rfl rfl dL_law_665 (fun r288 => ?_)
      refine ji_iconst (pc := 666) dL_law_666 ?_
      refine ji_iadd (pc := 667)  hF dL_law_667 (fun x289 r_x289 hF => ?_)
      refine ji_sld (pc := 668) rfl r_x289 hF dL_law_668 (fun x290 r_x290 hF => ?_)
      refine jg_sload (n := 0) (pc := 669) rfl rfl dL_law_669 ?_
      refine ji_iload_n (n := 3) (pc := 670) l3 rfl rfl rfl dL_law_670 (fun r291 => ?_)
      refine ji_iconst (pc := 671) dL_law_671 ?_
      refine ji_iadd (pc := 672)  hF dL_law_672 (fun x292 r_x292 hF => ?_)
      refine ji_sld (pc := 673) rfl r_x292 hF dL_law_673 (fun x293 r_x293 hF => ?_)
      refine ji_callVi (pc := 674) 53 [x290, x293] (jV E 1 x285 :: []) oX11_about wlL_73 wmX11_about rfl rfl (Nat.le_of_ble_eq_true rfl) (jRaC (jRc3 rfl) (jRaC r_x290 (jRaC r_x293 jRa0))) rfl jcl_53 rfl (Nat.le_of_ble_eq_true rfl) hF dL_law_674 (fun x294 s295 r_x294 hF => ?_)
      refine ji_icmp_eq 1275 (pc := 677) r_x285 r_x294 hF dL_law_677 rfl (fun hF => ?_) (fun hF => ?_)
      · refine jg_norm [4, 3, 3, 1] [0, 0, 53, l3] rfl rfl ?_
        exact obL_law_1275 hrec _ _ hF
      · refine ji_iconst (pc := 680) dL_law_680 ?_
        exact ji_retz (pc := 681) rfl (jRc5 rfl) hF dL_law_681
    refine jHo_if hF (fun h304 hF => ?_) (fun h304 hF => ?_)
    · refine jg_tswIn (pc := 33) 682 r_x6 (by omega) (by omega) (by rw [h304]; rfl) rfl dL_law_33 ?_
      refine ji_aload_n (n := 1) (pc := 682) 0 rfl rfl rfl dL_law_682 (fun r297 => ?_)
      refine jg_sload (n := 0) (pc := 683) rfl rfl dL_law_683 ?_
      refine ji_iload_n (n := 3) (pc := 684) l3 rfl rfl rfl dL_law_684 (fun r298 => ?_)
      refine ji_iconst (pc := 685) dL_law_685 ?_
      refine ji_iadd (pc := 686)  hF dL_law_686 (fun x299 r_x299 hF => ?_)
      refine ji_sld (pc := 687) rfl r_x299 hF dL_law_687 (fun x300 r_x300 hF => ?_)
      refine jg_sload (n := 0) (pc := 688) rfl rfl dL_law_688 ?_
      refine ji_iload_n (n := 3) (pc := 689) l3 rfl rfl rfl dL_law_689 (fun r301 => ?_)
      refine ji_iconst (pc := 690) dL_law_690 ?_
      refine ji_iadd (pc := 691)  hF dL_law_691 (fun x302 r_x302 hF => ?_)
      refine ji_sld (pc := 692) rfl r_x302 hF dL_law_692 (fun x303 r_x303 hF => ?_)
      refine ji_if_eq 700 (pc := 693) r_x303 hF dL_law_693 rfl (fun hF => ?_) (fun hF => ?_)
      · refine ji_iconst (pc := 700) dL_law_700 ?_
        refine jg_norm [4, 3, 3, 1] [0, 0, 53, l3] rfl rfl ?_
        exact obL_law_701 (obL_law_1275 hrec) _ _ _ _ r_x300 (jRc rfl) hF
      · refine ji_iconst (pc := 696) dL_law_696 ?_
        refine jg_goto (pc := 697) 701 dL_law_697 rfl ?_
        refine jg_norm [4, 3, 3, 1] [0, 0, 53, l3] rfl rfl ?_
        exact obL_law_701 (obL_law_1275 hrec) _ _ _ _ r_x300 (jRc rfl) hF
    refine jHo_if hF (fun h317 hF => ?_) (fun h317 hF => ?_)
    · refine jg_tswIn (pc := 33) 731 r_x6 (by omega) (by omega) (by rw [h317]; rfl) rfl dL_law_33 ?_
      refine ji_aload_n (n := 1) (pc := 731) 0 rfl rfl rfl dL_law_731 (fun r305 => ?_)
      refine jg_sload (n := 0) (pc := 732) rfl rfl dL_law_732 ?_
      refine ji_iload_n (n := 3) (pc := 733) l3 rfl rfl rfl dL_law_733 (fun r306 => ?_)
      refine ji_iconst (pc := 734) dL_law_734 ?_
      refine ji_iadd (pc := 735)  hF dL_law_735 (fun x307 r_x307 hF => ?_)
      refine ji_sld (pc := 736) rfl r_x307 hF dL_law_736 (fun x308 r_x308 hF => ?_)
      refine ji_callVi (pc := 737) 0 [x308] ([]) oX10_done wlL_79 wmX10_done rfl rfl (Nat.le_of_ble_eq_true rfl) (jRaC (jRc3 rfl) (jRaC r_x308 jRa0)) rfl jcl_0 rfl (Nat.le_of_ble_eq_true rfl) hF dL_law_737 (fun x309 s310 r_x309 hF => ?_)
      refine ji_aload_n (n := 2) (pc := 740) 53 rfl rfl rfl dL_law_740 (fun r311 => ?_)
      refine jg_sload (n := 0) (pc := 741) rfl rfl dL_law_741 ?_
      refine ji_iload_n (n := 3) (pc := 742) l3 rfl rfl rfl dL_law_742 (fun r312 => ?_)
      refine ji_iconst (pc := 743) dL_law_743 ?_
      refine ji_iadd (pc := 744)  hF dL_law_744 (fun x313 r_x313 hF => ?_)
      refine ji_sld (pc := 745) rfl r_x313 hF dL_law_745 (fun x314 r_x314 hF => ?_)
      refine ji_callVi (pc := 746) 53 [x314] (jV E 1 x309 :: []) oX11_done wlL_82 wmX11_done rfl rfl (Nat.le_of_ble_eq_true rfl) (jRaC (jRc3 rfl) (jRaC r_x314 jRa0)) rfl jcl_53 rfl (Nat.le_of_ble_eq_true rfl) hF dL_law_746 (fun x315 s316 r_x315 hF => ?_)
      refine ji_icmp_eq 1275 (pc := 749) r_x309 r_x315 hF dL_law_749 rfl (fun hF => ?_) (fun hF => ?_)
      · refine jg_norm [4, 3, 3, 1] [0, 0, 53, l3] rfl rfl ?_
        exact obL_law_1275 hrec _ _ hF
      · refine ji_iconst (pc := 752) dL_law_752 ?_
        exact ji_retz (pc := 753) rfl (jRc5 rfl) hF dL_law_753
    refine jHo_if hF (fun h330 hF => ?_) (fun h330 hF => ?_)
    · refine jg_tswIn (pc := 33) 754 r_x6 (by omega) (by omega) (by rw [h330]; rfl) rfl dL_law_33 ?_
      refine ji_aload_n (n := 1) (pc := 754) 0 rfl rfl rfl dL_law_754 (fun r318 => ?_)
      refine jg_sload (n := 0) (pc := 755) rfl rfl dL_law_755 ?_
      refine ji_iload_n (n := 3) (pc := 756) l3 rfl rfl rfl dL_law_756 (fun r319 => ?_)
      refine ji_iconst (pc := 757) dL_law_757 ?_
      refine ji_iadd (pc := 758)  hF dL_law_758 (fun x320 r_x320 hF => ?_)
      refine ji_sld (pc := 759) rfl r_x320 hF dL_law_759 (fun x321 r_x321 hF => ?_)
      refine ji_callVi (pc := 760) 0 [x321] ([]) oX10_ways wlL_83 wmX10_ways rfl rfl (Nat.le_of_ble_eq_true rfl) (jRaC (jRc3 rfl) (jRaC r_x321 jRa0)) rfl jcl_0 rfl (Nat.le_of_ble_eq_true rfl) hF dL_law_760 (fun x322 s323 r_x322 hF => ?_)
      refine ji_aload_n (n := 2) (pc := 763) 53 rfl rfl rfl dL_law_763 (fun r324 => ?_)
      refine jg_sload (n := 0) (pc := 764) rfl rfl dL_law_764 ?_
      refine ji_iload_n (n := 3) (pc := 765) l3 rfl rfl rfl dL_law_765 (fun r325 => ?_)
      refine ji_iconst (pc := 766) dL_law_766 ?_
      refine ji_iadd (pc := 767)  hF dL_law_767 (fun x326 r_x326 hF => ?_)
      refine ji_sld (pc := 768) rfl r_x326 hF dL_law_768 (fun x327 r_x327 hF => ?_)
      refine ji_callVi (pc := 769) 53 [x327] (jV E 1 x322 :: []) oX11_ways wlL_86 wmX11_ways rfl rfl (Nat.le_of_ble_eq_true rfl) (jRaC (jRc3 rfl) (jRaC r_x327 jRa0)) rfl jcl_53 rfl (Nat.le_of_ble_eq_true rfl) hF dL_law_769 (fun x328 s329 r_x328 hF => ?_)
      refine ji_icmp_eq 1275 (pc := 772) r_x322 r_x328 hF dL_law_772 rfl (fun hF => ?_) (fun hF => ?_)
      · refine jg_norm [4, 3, 3, 1] [0, 0, 53, l3] rfl rfl ?_
        exact obL_law_1275 hrec _ _ hF
      · refine ji_iconst (pc := 775) dL_law_775 ?_
        exact ji_retz (pc := 776) rfl (jRc5 rfl) hF dL_law_776
    refine jHo_if hF (fun h355 hF => ?_) (fun h355 hF => ?_)
    · refine jg_tswIn (pc := 33) 777 r_x6 (by omega) (by omega) (by rw [h355]; rfl) rfl dL_law_33 ?_
      refine ji_aload_n (n := 1) (pc := 777) 0 rfl rfl rfl dL_law_777 (fun r331 => ?_)
      refine jg_sload (n := 0) (pc := 778) rfl rfl dL_law_778 ?_
      refine ji_iload_n (n := 3) (pc := 779) l3 rfl rfl rfl dL_law_779 (fun r332 => ?_)
      refine ji_iconst (pc := 780) dL_law_780 ?_
      refine ji_iadd (pc := 781)  hF dL_law_781 (fun x333 r_x333 hF => ?_)
      refine ji_sld (pc := 782) rfl r_x333 hF dL_law_782 (fun x334 r_x334 hF => ?_)
      refine jg_sload (n := 0) (pc := 783) rfl rfl dL_law_783 ?_
      refine ji_iload_n (n := 3) (pc := 784) l3 rfl rfl rfl dL_law_784 (fun r335 => ?_)
      refine ji_iconst (pc := 785) dL_law_785 ?_
      refine ji_iadd (pc := 786)  hF dL_law_786 (fun x336 r_x336 hF => ?_)
      refine ji_sld (pc := 787) rfl r_x336 hF dL_law_787 (fun x337 r_x337 hF => ?_)
      refine jg_sload (n := 0) (pc := 788) rfl rfl dL_law_788 ?_
      refine ji_iload_n (n := 3) (pc := 789) l3 rfl rfl rfl dL_law_789 (fun r338 => ?_)
      refine ji_iconst (pc := 790) dL_law_790 ?_
      refine ji_iadd (pc := 791)  hF dL_law_791 (fun x339 r_x339 hF => ?_)
      refine ji_sld (pc := 792) rfl r_x339 hF dL_law_792 (fun x340 r_x340 hF => ?_)
      refine ji_callVi (pc := 793) 0 [x334, x337, x340] ([]) oX10_way wlL_87 wmX10_way rfl rfl (Nat.le_of_ble_eq_true rfl) (jRaC (jRc3 rfl) (jRaC r_x334 (jRaC r_x337 (jRaC r_x340 jRa0)))) rfl jcl_0 rfl (Nat.le_of_ble_eq_true rfl) hF dL_law_793 (fun x341 s342 r_x341 hF => ?_)
      refine ji_aload_n (n := 2) (pc := 796) 53 rfl rfl rfl dL_law_796 (fun r343 => ?_)
      refine jg_sload (n := 0) (pc := 797) rfl rfl dL_law_797 ?_
      refine ji_iload_n (n := 3) (pc := 798) l3 rfl rfl rfl dL_law_798 (fun r344 => ?_)
      refine ji_iconst (pc := 799) dL_law_799 ?_
      refine ji_iadd (pc := 800)  hF dL_law_800 (fun x345 r_x345 hF => ?_)
      refine ji_sld (pc := 801) rfl r_x345 hF dL_law_801 (fun x346 r_x346 hF => ?_)
      refine jg_sload (n := 0) (pc := 802) rfl rfl dL_law_802 ?_
      refine ji_iload_n (n := 3) (pc := 803) l3 rfl rfl rfl dL_law_803 (fun r347 => ?_)
      refine ji_iconst (pc := 804) dL_law_804 ?_
      refine ji_iadd (pc := 805)  hF dL_law_805 (fun x348 r_x348 hF => ?_)
      refine ji_sld (pc := 806) rfl r_x348 hF dL_law_806 (fun x349 r_x349 hF => ?_)
      refine jg_sload (n := 0) (pc := 807) rfl rfl dL_law_807 ?_
      refine ji_iload_n (n := 3) (pc := 808) l3 rfl rfl rfl dL_law_808 (fun r350 => ?_)
      refine ji_iconst (pc := 809) dL_law_809 ?_
      refine ji_iadd (pc := 810)  hF dL_law_810 (fun x351 r_x351 hF => ?_)
      refine ji_sld (pc := 811) rfl r_x351 hF dL_law_811 (fun x352 r_x352 hF => ?_)
      refine ji_callVi (pc := 812) 53 [x346, x349, x352] (jV E 1 x341 :: []) oX11_way wlL_90 wmX11_way rfl rfl (Nat.le_of_ble_eq_true rfl) (jRaC (jRc3 rfl) (jRaC r_x346 (jRaC r_x349 (jRaC r_x352 jRa0)))) rfl jcl_53 rfl (Nat.le_of_ble_eq_true rfl) hF dL_law_812 (fun x353 s354 r_x353 hF => ?_)
      refine ji_icmp_eq 1275 (pc := 815) r_x341 r_x353 hF dL_law_815 rfl (fun hF => ?_) (fun hF => ?_)
      · refine jg_norm [4, 3, 3, 1] [0, 0, 53, l3] rfl rfl ?_
        exact obL_law_1275 hrec _ _ hF
      · refine ji_iconst (pc := 818) dL_law_818 ?_
        exact ji_retz (pc := 819) rfl (jRc5 rfl) hF dL_law_819
    refine jHo_if hF (fun h368 hF => ?_) (fun h368 hF => ?_)
    · refine jg_tswIn (pc := 33) 820 r_x6 (by omega) (by omega) (by rw [h368]; rfl) rfl dL_law_33 ?_
      refine ji_aload_n (n := 1) (pc := 820) 0 rfl rfl rfl dL_law_820 (fun r356 => ?_)
      refine jg_sload (n := 0) (pc := 821) rfl rfl dL_law_821 ?_
      refine ji_iload_n (n := 3) (pc := 822) l3 rfl rfl rfl dL_law_822 (fun r357 => ?_)
      refine ji_iconst (pc := 823) dL_law_823 ?_
      refine ji_iadd (pc := 824)  hF dL_law_824 (fun x358 r_x358 hF => ?_)
      refine ji_sld (pc := 825) rfl r_x358 hF dL_law_825 (fun x359 r_x359 hF => ?_)
      refine ji_callVi (pc := 826) 0 [x359] ([]) oX10_distance wlL_91 wmX10_distance rfl rfl (Nat.le_of_ble_eq_true rfl) (jRaC (jRc3 rfl) (jRaC r_x359 jRa0)) rfl jcl_0 rfl (Nat.le_of_ble_eq_true rfl) hF dL_law_826 (fun x360 s361 r_x360 hF => ?_)
      refine ji_aload_n (n := 2) (pc := 829) 53 rfl rfl rfl dL_law_829 (fun r362 => ?_)
      refine jg_sload (n := 0) (pc := 830) rfl rfl dL_law_830 ?_
      refine ji_iload_n (n := 3) (pc := 831) l3 rfl rfl rfl dL_law_831 (fun r363 => ?_)
      refine ji_iconst (pc := 832) dL_law_832 ?_
      refine ji_iadd (pc := 833)  hF dL_law_833 (fun x364 r_x364 hF => ?_)
      refine ji_sld (pc := 834) rfl r_x364 hF dL_law_834 (fun x365 r_x365 hF => ?_)
      refine ji_callVi (pc := 835) 53 [x365] (jV E 1 x360 :: []) oX11_distance wlL_94 wmX11_distance rfl rfl (Nat.le_of_ble_eq_true rfl) (jRaC (jRc3 rfl) (jRaC r_x365 jRa0)) rfl jcl_53 rfl (Nat.le_of_ble_eq_true rfl) hF dL_law_835 (fun x366 s367 r_x366 hF => ?_)
      refine ji_icmp_eq 1275 (pc := 838) r_x360 r_x366 hF dL_law_838 rfl (fun hF => ?_) (fun hF => ?_)
      · refine jg_norm [4, 3, 3, 1] [0, 0, 53, l3] rfl rfl ?_
        exact obL_law_1275 hrec _ _ hF
      · refine ji_iconst (pc := 841) dL_law_841 ?_
        exact ji_retz (pc := 842) rfl (jRc5 rfl) hF dL_law_842
    refine jHo_if hF (fun h387 hF => ?_) (fun h387 hF => ?_)
    · refine jg_tswIn (pc := 33) 843 r_x6 (by omega) (by omega) (by rw [h387]; rfl) rfl dL_law_33 ?_
      refine ji_aload_n (n := 1) (pc := 843) 0 rfl rfl rfl dL_law_843 (fun r369 => ?_)
      refine jg_sload (n := 0) (pc := 844) rfl rfl dL_law_844 ?_
      refine ji_iload_n (n := 3) (pc := 845) l3 rfl rfl rfl dL_law_845 (fun r370 => ?_)
      refine ji_iconst (pc := 846) dL_law_846 ?_
      refine ji_iadd (pc := 847)  hF dL_law_847 (fun x371 r_x371 hF => ?_)
      refine ji_sld (pc := 848) rfl r_x371 hF dL_law_848 (fun x372 r_x372 hF => ?_)
      refine jg_sload (n := 0) (pc := 849) rfl rfl dL_law_849 ?_
      refine ji_iload_n (n := 3) (pc := 850) l3 rfl rfl rfl dL_law_850 (fun r373 => ?_)
      refine ji_iconst (pc := 851) dL_law_851 ?_
      refine ji_iadd (pc := 852)  hF dL_law_852 (fun x374 r_x374 hF => ?_)
      refine ji_sld (pc := 853) rfl r_x374 hF dL_law_853 (fun x375 r_x375 hF => ?_)
      refine ji_callVi (pc := 854) 0 [x372, x375] ([]) oX10_waits wlL_95 wmX10_waits rfl rfl (Nat.le_of_ble_eq_true rfl) (jRaC (jRc3 rfl) (jRaC r_x372 (jRaC r_x375 jRa0))) rfl jcl_0 rfl (Nat.le_of_ble_eq_true rfl) hF dL_law_854 (fun x376 s377 r_x376 hF => ?_)
      refine ji_aload_n (n := 2) (pc := 857) 53 rfl rfl rfl dL_law_857 (fun r378 => ?_)
      refine jg_sload (n := 0) (pc := 858) rfl rfl dL_law_858 ?_
      refine ji_iload_n (n := 3) (pc := 859) l3 rfl rfl rfl dL_law_859 (fun r379 => ?_)
      refine ji_iconst (pc := 860) dL_law_860 ?_
      refine ji_iadd (pc := 861)  hF dL_law_861 (fun x380 r_x380 hF => ?_)
      refine ji_sld (pc := 862) rfl r_x380 hF dL_law_862 (fun x381 r_x381 hF => ?_)
      refine jg_sload (n := 0) (pc := 863) rfl rfl dL_law_863 ?_
      refine ji_iload_n (n := 3) (pc := 864) l3 rfl rfl rfl dL_law_864 (fun r382 => ?_)
      refine ji_iconst (pc := 865) dL_law_865 ?_
      refine ji_iadd (pc := 866)  hF dL_law_866 (fun x383 r_x383 hF => ?_)
      refine ji_sld (pc := 867) rfl r_x383 hF dL_law_867 (fun x384 r_x384 hF => ?_)
      refine ji_callVi (pc := 868) 53 [x381, x384] (jV E 1 x376 :: []) oX11_waits wlL_98 wmX11_waits rfl rfl (Nat.le_of_ble_eq_true rfl) (jRaC (jRc3 rfl) (jRaC r_x381 (jRaC r_x384 jRa0))) rfl jcl_53 rfl (Nat.le_of_ble_eq_true rfl) hF dL_law_868 (fun x385 s386 r_x385 hF => ?_)
      refine ji_icmp_eq 1275 (pc := 871) r_x376 r_x385 hF dL_law_871 rfl (fun hF => ?_) (fun hF => ?_)
      · refine jg_norm [4, 3, 3, 1] [0, 0, 53, l3] rfl rfl ?_
        exact obL_law_1275 hrec _ _ hF
      · refine ji_iconst (pc := 874) dL_law_874 ?_
        exact ji_retz (pc := 875) rfl (jRc5 rfl) hF dL_law_875
    refine jHo_if hF (fun h406 hF => ?_) (fun h406 hF => ?_)
    · refine jg_tswIn (pc := 33) 876 r_x6 (by omega) (by omega) (by rw [h406]; rfl) rfl dL_law_33 ?_
      refine ji_aload_n (n := 1) (pc := 876) 0 rfl rfl rfl dL_law_876 (fun r388 => ?_)
      refine jg_sload (n := 0) (pc := 877) rfl rfl dL_law_877 ?_
      refine ji_iload_n (n := 3) (pc := 878) l3 rfl rfl rfl dL_law_878 (fun r389 => ?_)
      refine ji_iconst (pc := 879) dL_law_879 ?_
      refine ji_iadd (pc := 880)  hF dL_law_880 (fun x390 r_x390 hF => ?_)
      refine ji_sld (pc := 881) rfl r_x390 hF dL_law_881 (fun x391 r_x391 hF => ?_)
      refine jg_sload (n := 0) (pc := 882) rfl rfl dL_law_882 ?_
      refine ji_iload_n (n := 3) (pc := 883) l3 rfl rfl rfl dL_law_883 (fun r392 => ?_)
      refine ji_iconst (pc := 884) dL_law_884 ?_
      refine ji_iadd (pc := 885)  hF dL_law_885 (fun x393 r_x393 hF => ?_)
      refine ji_sld (pc := 886) rfl r_x393 hF dL_law_886 (fun x394 r_x394 hF => ?_)
      refine ji_callVi (pc := 887) 0 [x391, x394] ([]) oX10_helps wlL_99 wmX10_helps rfl rfl (Nat.le_of_ble_eq_true rfl) (jRaC (jRc3 rfl) (jRaC r_x391 (jRaC r_x394 jRa0))) rfl jcl_0 rfl (Nat.le_of_ble_eq_true rfl) hF dL_law_887 (fun x395 s396 r_x395 hF => ?_)
      refine ji_aload_n (n := 2) (pc := 890) 53 rfl rfl rfl dL_law_890 (fun r397 => ?_)
      refine jg_sload (n := 0) (pc := 891) rfl rfl dL_law_891 ?_
      refine ji_iload_n (n := 3) (pc := 892) l3 rfl rfl rfl dL_law_892 (fun r398 => ?_)
      refine ji_iconst (pc := 893) dL_law_893 ?_
      refine ji_iadd (pc := 894)  hF dL_law_894 (fun x399 r_x399 hF => ?_)
      refine ji_sld (pc := 895) rfl r_x399 hF dL_law_895 (fun x400 r_x400 hF => ?_)
      refine jg_sload (n := 0) (pc := 896) rfl rfl dL_law_896 ?_
      refine ji_iload_n (n := 3) (pc := 897) l3 rfl rfl rfl dL_law_897 (fun r401 => ?_)
      refine ji_iconst (pc := 898) dL_law_898 ?_
      refine ji_iadd (pc := 899)  hF dL_law_899 (fun x402 r_x402 hF => ?_)
      refine ji_sld (pc := 900) rfl r_x402 hF dL_law_900 (fun x403 r_x403 hF => ?_)
      refine ji_callVi (pc := 901) 53 [x400, x403] (jV E 1 x395 :: []) oX11_helps wlL_102 wmX11_helps rfl rfl (Nat.le_of_ble_eq_true rfl) (jRaC (jRc3 rfl) (jRaC r_x400 (jRaC r_x403 jRa0))) rfl jcl_53 rfl (Nat.le_of_ble_eq_true rfl) hF dL_law_901 (fun x404 s405 r_x404 hF => ?_)
      refine ji_icmp_eq 1275 (pc := 904) r_x395 r_x404 hF dL_law_904 rfl (fun hF => ?_) (fun hF => ?_)
      · refine jg_norm [4, 3, 3, 1] [0, 0, 53, l3] rfl rfl ?_
        exact obL_law_1275 hrec _ _ hF
      · refine ji_iconst (pc := 907) dL_law_907 ?_
        exact ji_retz (pc := 908) rfl (jRc5 rfl) hF dL_law_908
    refine jHo_if hF (fun h425 hF => ?_) (fun h425 hF => ?_)
    · refine jg_tswIn (pc := 33) 909 r_x6 (by omega) (by omega) (by rw [h425]; rfl) rfl dL_law_33 ?_
      refine ji_aload_n (n := 1) (pc := 909) 0 rfl rfl rfl dL_law_909 (fun r407 => ?_)
      refine jg_sload (n := 0) (pc := 910) rfl rfl dL_law_910 ?_
      refine ji_iload_n (n := 3) (pc := 911) l3 rfl rfl rfl dL_law_911 (fun r408 => ?_)
      refine ji_iconst (pc := 912) dL_law_912 ?_
      refine ji_iadd (pc := 913)  hF dL_law_913 (fun x409 r_x409 hF => ?_)
      refine ji_sld (pc := 914) rfl r_x409 hF dL_law_914 (fun x410 r_x410 hF => ?_)
      refine jg_sload (n := 0) (pc := 915) rfl rfl dL_law_915 ?_
      refine ji_iload_n (n := 3) (pc := 916) l3 rfl rfl rfl dL_law_916 (fun r411 => ?_)
      refine ji_iconst (pc := 917) dL_law_917 ?_
      refine ji_iadd (pc := 918)  hF dL_law_918 (fun x412 r_x412 hF => ?_)
      refine ji_sld (pc := 919) rfl r_x412 hF dL_law_919 (fun x413 r_x413 hF => ?_)
      refine ji_callVi (pc := 920) 0 [x410, x413] ([]) oX10_without wlL_103 wmX10_without rfl rfl (Nat.le_of_ble_eq_true rfl) (jRaC (jRc3 rfl) (jRaC r_x410 (jRaC r_x413 jRa0))) rfl jcl_0 rfl (Nat.le_of_ble_eq_true rfl) hF dL_law_920 (fun x414 s415 r_x414 hF => ?_)
      refine ji_aload_n (n := 2) (pc := 923) 53 rfl rfl rfl dL_law_923 (fun r416 => ?_)
      refine jg_sload (n := 0) (pc := 924) rfl rfl dL_law_924 ?_
      refine ji_iload_n (n := 3) (pc := 925) l3 rfl rfl rfl dL_law_925 (fun r417 => ?_)
      refine ji_iconst (pc := 926) dL_law_926 ?_
      refine ji_iadd (pc := 927)  hF dL_law_927 (fun x418 r_x418 hF => ?_)
      refine ji_sld (pc := 928) rfl r_x418 hF dL_law_928 (fun x419 r_x419 hF => ?_)
      refine jg_sload (n := 0) (pc := 929) rfl rfl dL_law_929 ?_
      refine ji_iload_n (n := 3) (pc := 930) l3 rfl rfl rfl dL_law_930 (fun r420 => ?_)
      refine ji_iconst (pc := 931) dL_law_931 ?_
      refine ji_iadd (pc := 932)  hF dL_law_932 (fun x421 r_x421 hF => ?_)
      refine ji_sld (pc := 933) rfl r_x421 hF dL_law_933 (fun x422 r_x422 hF => ?_)
      refine ji_callVi (pc := 934) 53 [x419, x422] (jV E 1 x414 :: []) oX11_without wlL_106 wmX11_without rfl rfl (Nat.le_of_ble_eq_true rfl) (jRaC (jRc3 rfl) (jRaC r_x419 (jRaC r_x422 jRa0))) rfl jcl_53 rfl (Nat.le_of_ble_eq_true rfl) hF dL_law_934 (fun x423 s424 r_x423 hF => ?_)
      refine ji_icmp_eq 1275 (pc := 937) r_x414 r_x423 hF dL_law_937 rfl (fun hF => ?_) (fun hF => ?_)
      · refine jg_norm [4, 3, 3, 1] [0, 0, 53, l3] rfl rfl ?_
        exact obL_law_1275 hrec _ _ hF
      · refine ji_iconst (pc := 940) dL_law_940 ?_
        exact ji_retz (pc := 941) rfl (jRc5 rfl) hF dL_law_941
    refine jHo_if hF (fun h444 hF => ?_) (fun h444 hF => ?_)
    · refine jg_tswIn (pc := 33) 942 r_x6 (by omega) (by omega) (by rw [h444]; rfl) rfl dL_law_33 ?_
      refine ji_aload_n (n := 1) (pc := 942) 0 rfl rfl rfl dL_law_942 (fun r426 => ?_)
      refine jg_sload (n := 0) (pc := 943) rfl rfl dL_law_943 ?_
      refine ji_iload_n (n := 3) (pc := 944) l3 rfl rfl rfl dL_law_944 (fun r427 => ?_)
      refine ji_iconst (pc := 945) dL_law_945 ?_
      refine ji_iadd (pc := 946)  hF dL_law_946 (fun x428 r_x428 hF => ?_)
      refine ji_sld (pc := 947) rfl r_x428 hF dL_law_947 (fun x429 r_x429 hF => ?_)
      refine jg_sload (n := 0) (pc := 948) rfl rfl dL_law_948 ?_
      refine ji_iload_n (n := 3) (pc := 949) l3 rfl rfl rfl dL_law_949 (fun r430 => ?_)
      refine ji_iconst (pc := 950) dL_law_950 ?_
      refine ji_iadd (pc := 951)  hF dL_law_951 (fun x431 r_x431 hF => ?_)
      refine ji_sld (pc := 952) rfl r_x431 hF dL_law_952 (fun x432 r_x432 hF => ?_)
      refine ji_callVi (pc := 953) 0 [x429, x432] ([]) oX10_more wlL_107 wmX10_more rfl rfl (Nat.le_of_ble_eq_true rfl) (jRaC (jRc3 rfl) (jRaC r_x429 (jRaC r_x432 jRa0))) rfl jcl_0 rfl (Nat.le_of_ble_eq_true rfl) hF dL_law_953 (fun x433 s434 r_x433 hF => ?_)
      refine ji_aload_n (n := 2) (pc := 956) 53 rfl rfl rfl dL_law_956 (fun r435 => ?_)
      refine jg_sload (n := 0) (pc := 957) rfl rfl dL_law_957 ?_
      refine ji_iload_n (n := 3) (pc := 958) l3 rfl rfl rfl dL_law_958 (fun r436 => ?_)
      refine ji_iconst (pc := 959) dL_law_959 ?_
      refine ji_iadd (pc := 960)  hF dL_law_960 (fun x437 r_x437 hF => ?_)
      refine ji_sld (pc := 961) rfl r_x437 hF dL_law_961 (fun x438 r_x438 hF => ?_)
      refine jg_sload (n := 0) (pc := 962) rfl rfl dL_law_962 ?_
      refine ji_iload_n (n := 3) (pc := 963) l3 rfl rfl rfl dL_law_963 (fun r439 => ?_)
      refine ji_iconst (pc := 964) dL_law_964 ?_
      refine ji_iadd (pc := 965)  hF dL_law_965 (fun x440 r_x440 hF => ?_)
      refine ji_sld (pc := 966) rfl r_x440 hF dL_law_966 (fun x441 r_x441 hF => ?_)
      refine ji_callVi (pc := 967) 53 [x438, x441] (jV E 1 x433 :: []) oX11_more wlL_110 wmX11_more rfl rfl (Nat.le_of_ble_eq_true rfl) (jRaC (jRc3 rfl) (jRaC r_x438 (jRaC r_x441 jRa0))) rfl jcl_53 rfl (Nat.le_of_ble_eq_true rfl) hF dL_law_967 (fun x442 s443 r_x442 hF => ?_)
      refine ji_icmp_eq 1275 (pc := 970) r_x433 r_x442 hF dL_law_970 rfl (fun hF => ?_) (fun hF => ?_)
      · refine jg_norm [4, 3, 3, 1] [0, 0, 53, l3] rfl rfl ?_
        exact obL_law_1275 hrec _ _ hF
      · refine ji_iconst (pc := 973) dL_law_973 ?_
        exact ji_retz (pc := 974) rfl (jRc5 rfl) hF dL_law_974
    refine jHo_if hF (fun h457 hF => ?_) (fun h457 hF => ?_)
    · refine jg_tswIn (pc := 33) 975 r_x6 (by omega) (by omega) (by rw [h457]; rfl) rfl dL_law_33 ?_
      refine ji_aload_n (n := 1) (pc := 975) 0 rfl rfl rfl dL_law_975 (fun r445 => ?_)
      refine jg_sload (n := 0) (pc := 976) rfl rfl dL_law_976 ?_
      refine ji_iload_n (n := 3) (pc := 977) l3 rfl rfl rfl dL_law_977 (fun r446 => ?_)
      refine ji_iconst (pc := 978) dL_law_978 ?_
      refine ji_iadd (pc := 979)  hF dL_law_979 (fun x447 r_x447 hF => ?_)
      refine ji_sld (pc := 980) rfl r_x447 hF dL_law_980 (fun x448 r_x448 hF => ?_)
      refine ji_callVi (pc := 981) 0 [x448] ([]) oX10_best wlL_111 wmX10_best rfl rfl (Nat.le_of_ble_eq_true rfl) (jRaC (jRc3 rfl) (jRaC r_x448 jRa0)) rfl jcl_0 rfl (Nat.le_of_ble_eq_true rfl) hF dL_law_981 (fun x449 s450 r_x449 hF => ?_)
      refine ji_aload_n (n := 2) (pc := 984) 53 rfl rfl rfl dL_law_984 (fun r451 => ?_)
      refine jg_sload (n := 0) (pc := 985) rfl rfl dL_law_985 ?_
      refine ji_iload_n (n := 3) (pc := 986) l3 rfl rfl rfl dL_law_986 (fun r452 => ?_)
      refine ji_iconst (pc := 987) dL_law_987 ?_
      refine ji_iadd (pc := 988)  hF dL_law_988 (fun x453 r_x453 hF => ?_)
      refine ji_sld (pc := 989) rfl r_x453 hF dL_law_989 (fun x454 r_x454 hF => ?_)
      refine ji_callVi (pc := 990) 53 [x454] (jV E 1 x449 :: []) oX11_best wlL_114 wmX11_best rfl rfl (Nat.le_of_ble_eq_true rfl) (jRaC (jRc3 rfl) (jRaC r_x454 jRa0)) rfl jcl_53 rfl (Nat.le_of_ble_eq_true rfl) hF dL_law_990 (fun x455 s456 r_x455 hF => ?_)
      refine ji_icmp_eq 1275 (pc := 993) r_x449 r_x455 hF dL_law_993 rfl (fun hF => ?_) (fun hF => ?_)
      · refine jg_norm [4, 3, 3, 1] [0, 0, 53, l3] rfl rfl ?_
        exact obL_law_1275 hrec _ _ hF
      · refine ji_iconst (pc := 996) dL_law_996 ?_
        exact ji_retz (pc := 997) rfl (jRc5 rfl) hF dL_law_997
    refine jHo_if hF (fun h488 hF => ?_) (fun h488 hF => ?_)
    · refine jg_tswIn (pc := 33) 998 r_x6 (by omega) (by omega) (by rw [h488]; rfl) rfl dL_law_33 ?_
      refine ji_aload_n (n := 1) (pc := 998) 0 rfl rfl rfl dL_law_998 (fun r458 => ?_)
      refine jg_sload (n := 0) (pc := 999) rfl rfl dL_law_999 ?_
      refine ji_iload_n (n := 3) (pc := 1000) l3 rfl rfl rfl dL_law_1000 (fun r459 => ?_)
      refine ji_iconst (pc := 1001) dL_law_1001 ?_
      refine ji_iadd (pc := 1002)  hF dL_law_1002 (fun x460 r_x460 hF => ?_)
      refine ji_sld (pc := 1003) rfl r_x460 hF dL_law_1003 (fun x461 r_x461 hF => ?_)
      refine jg_sload (n := 0) (pc := 1004) rfl rfl dL_law_1004 ?_
      refine ji_iload_n (n := 3) (pc := 1005) l3 rfl rfl rfl dL_law_1005 (fun r462 => ?_)
      refine ji_iconst (pc := 1006) dL_law_1006 ?_
      refine ji_iadd (pc := 1007)  hF dL_law_1007 (fun x463 r_x463 hF => ?_)
      refine ji_sld (pc := 1008) rfl r_x463 hF dL_law_1008 (fun x464 r_x464 hF => ?_)
      refine jg_sload (n := 0) (pc := 1009) rfl rfl dL_law_1009 ?_
      refine ji_iload_n (n := 3) (pc := 1010) l3 rfl rfl rfl dL_law_1010 (fun r465 => ?_)
      refine ji_iconst (pc := 1011) dL_law_1011 ?_
      refine ji_iadd (pc := 1012)  hF dL_law_1012 (fun x466 r_x466 hF => ?_)
      refine ji_sld (pc := 1013) rfl r_x466 hF dL_law_1013 (fun x467 r_x467 hF => ?_)
      refine jg_sload (n := 0) (pc := 1014) rfl rfl dL_law_1014 ?_
      refine ji_iload_n (n := 3) (pc := 1015) l3 rfl rfl rfl dL_law_1015 (fun r468 => ?_)
      refine ji_iconst (pc := 1016) dL_law_1016 ?_
      refine ji_iadd (pc := 1017)  hF dL_law_1017 (fun x469 r_x469 hF => ?_)
      refine ji_sld (pc := 1018) rfl r_x469 hF dL_law_1018 (fun x470 r_x470 hF => ?_)
      refine ji_callVi (pc := 1019) 0 [x461, x464, x467, x470] ([]) oX10_lack wlL_115 wmX10_lack rfl rfl (Nat.le_of_ble_eq_true rfl) (jRaC (jRc3 rfl) (jRaC r_x461 (jRaC r_x464 (jRaC r_x467 (jRaC r_x470 jRa0))))) rfl jcl_0 rfl (Nat.le_of_ble_eq_true rfl) hF dL_law_1019 (fun x471 s472 r_x471 hF => ?_)
      refine ji_aload_n (n := 2) (pc := 1022) 53 rfl rfl rfl dL_law_1022 (fun r473 => ?_)
      refine jg_sload (n := 0) (pc := 1023) rfl rfl dL_law_1023 ?_
      refine ji_iload_n (n := 3) (pc := 1024) l3 rfl rfl rfl dL_law_1024 (fun r474 => ?_)
      refine ji_iconst (pc := 1025) dL_law_1025 ?_
      refine ji_iadd (pc := 1026)  hF dL_law_1026 (fun x475 r_x475 hF => ?_)
      refine ji_sld (pc := 1027) rfl r_x475 hF dL_law_1027 (fun x476 r_x476 hF => ?_)
      refine jg_sload (n := 0) (pc := 1028) rfl rfl dL_law_1028 ?_
      refine ji_iload_n (n := 3) (pc := 1029) l3 rfl rfl rfl dL_law_1029 (fun r477 => ?_)
      refine ji_iconst (pc := 1030) dL_law_1030 ?_
      refine ji_iadd (pc := 1031)  hF dL_law_1031 (fun x478 r_x478 hF => ?_)
      refine ji_sld (pc := 1032) rfl r_x478 hF dL_law_1032 (fun x479 r_x479 hF => ?_)
      refine jg_sload (n := 0) (pc := 1033) rfl rfl dL_law_1033 ?_
      refine ji_iload_n (n := 3) (pc := 1034) l3 rfl rfl rfl dL_law_1034 (fun r480 => ?_)
      refine ji_iconst (pc := 1035) dL_law_1035 ?_
      refine ji_iadd (pc := 1036)  hF dL_law_1036 (fun x481 r_x481 hF => ?_)
      refine ji_sld (pc := 1037) rfl r_x481 hF dL_law_1037 (fun x482 r_x482 hF => ?_)
      refine jg_sload (n := 0) (pc := 1038) rfl rfl dL_law_1038 ?_
      refine ji_iload_n (n := 3) (pc := 1039) l3 rfl rfl rfl dL_law_1039 (fun r483 => ?_)
      refine ji_iconst (pc := 1040) dL_law_1040 ?_
      refine ji_iadd (pc := 1041)  hF dL_law_1041 (fun x484 r_x484 hF => ?_)
      refine ji_sld (pc := 1042) rfl r_x484 hF dL_law_1042 (fun x485 r_x485 hF => ?_)
      refine ji_callVi (pc := 1043) 53 [x476, x479, x482, x485] (jV E 1 x471 :: []) oX11_lack wlL_118 wmX11_lack rfl rfl (Nat.le_of_ble_eq_true rfl) (jRaC (jRc3 rfl) (jRaC r_x476 (jRaC r_x479 (jRaC r_x482 (jRaC r_x485 jRa0))))) rfl jcl_53 rfl (Nat.le_of_ble_eq_true rfl) hF dL_law_1043 (fun x486 s487 r_x486 hF => ?_)
      refine ji_icmp_eq 1275 (pc := 1046) r_x471 r_x486 hF dL_law_1046 rfl (fun hF => ?_) (fun hF => ?_)
      · refine jg_norm [4, 3, 3, 1] [0, 0, 53, l3] rfl rfl ?_
        exact obL_law_1275 hrec _ _ hF
      · refine ji_iconst (pc := 1049) dL_law_1049 ?_
        exact ji_retz (pc := 1050) rfl (jRc5 rfl) hF dL_law_1050
    refine jHo_if hF (fun h507 hF => ?_) (fun h507 hF => ?_)
    · refine jg_tswIn (pc := 33) 1051 r_x6 (by omega) (by omega) (by rw [h507]; rfl) rfl dL_law_33 ?_
      refine ji_aload_n (n := 1) (pc := 1051) 0 rfl rfl rfl dL_law_1051 (fun r489 => ?_)
      refine jg_sload (n := 0) (pc := 1052) rfl rfl dL_law_1052 ?_
      refine ji_iload_n (n := 3) (pc := 1053) l3 rfl rfl rfl dL_law_1053 (fun r490 => ?_)
      refine ji_iconst (pc := 1054) dL_law_1054 ?_
      refine ji_iadd (pc := 1055)  hF dL_law_1055 (fun x491 r_x491 hF => ?_)
      refine ji_sld (pc := 1056) rfl r_x491 hF dL_law_1056 (fun x492 r_x492 hF => ?_)
      refine jg_sload (n := 0) (pc := 1057) rfl rfl dL_law_1057 ?_
      refine ji_iload_n (n := 3) (pc := 1058) l3 rfl rfl rfl dL_law_1058 (fun r493 => ?_)
      refine ji_iconst (pc := 1059) dL_law_1059 ?_
      refine ji_iadd (pc := 1060)  hF dL_law_1060 (fun x494 r_x494 hF => ?_)
      refine ji_sld (pc := 1061) rfl r_x494 hF dL_law_1061 (fun x495 r_x495 hF => ?_)
      refine ji_callVi (pc := 1062) 0 [x492, x495] ([]) oX10_odds wlL_119 wmX10_odds rfl rfl (Nat.le_of_ble_eq_true rfl) (jRaC (jRc3 rfl) (jRaC r_x492 (jRaC r_x495 jRa0))) rfl jcl_0 rfl (Nat.le_of_ble_eq_true rfl) hF dL_law_1062 (fun x496 s497 r_x496 hF => ?_)
      refine ji_aload_n (n := 2) (pc := 1065) 53 rfl rfl rfl dL_law_1065 (fun r498 => ?_)
      refine jg_sload (n := 0) (pc := 1066) rfl rfl dL_law_1066 ?_
      refine ji_iload_n (n := 3) (pc := 1067) l3 rfl rfl rfl dL_law_1067 (fun r499 => ?_)
      refine ji_iconst (pc := 1068) dL_law_1068 ?_
      refine ji_iadd (pc := 1069)  hF dL_law_1069 (fun x500 r_x500 hF => ?_)
      refine ji_sld (pc := 1070) rfl r_x500 hF dL_law_1070 (fun x501 r_x501 hF => ?_)
      refine jg_sload (n := 0) (pc := 1071) rfl rfl dL_law_1071 ?_
      refine ji_iload_n (n := 3) (pc := 1072) l3 rfl rfl rfl dL_law_1072 (fun r502 => ?_)
      refine ji_iconst (pc := 1073) dL_law_1073 ?_
      refine ji_iadd (pc := 1074)  hF dL_law_1074 (fun x503 r_x503 hF => ?_)
      refine ji_sld (pc := 1075) rfl r_x503 hF dL_law_1075 (fun x504 r_x504 hF => ?_)
      refine ji_callVi (pc := 1076) 53 [x501, x504] (jV E 1 x496 :: []) oX11_odds wlL_122 wmX11_odds rfl rfl (Nat.le_of_ble_eq_true rfl) (jRaC (jRc3 rfl) (jRaC r_x501 (jRaC r_x504 jRa0))) rfl jcl_53 rfl (Nat.le_of_ble_eq_true rfl) hF dL_law_1076 (fun x505 s506 r_x505 hF => ?_)
      refine ji_icmp_eq 1275 (pc := 1079) r_x496 r_x505 hF dL_law_1079 rfl (fun hF => ?_) (fun hF => ?_)
      · refine jg_norm [4, 3, 3, 1] [0, 0, 53, l3] rfl rfl ?_
        exact obL_law_1275 hrec _ _ hF
      · refine ji_iconst (pc := 1082) dL_law_1082 ?_
        exact ji_retz (pc := 1083) rfl (jRc5 rfl) hF dL_law_1083
    refine jHo_if hF (fun h520 hF => ?_) (fun h520 hF => ?_)
    · refine jg_tswIn (pc := 33) 1084 r_x6 (by omega) (by omega) (by rw [h520]; rfl) rfl dL_law_33 ?_
      refine ji_aload_n (n := 1) (pc := 1084) 0 rfl rfl rfl dL_law_1084 (fun r508 => ?_)
      refine jg_sload (n := 0) (pc := 1085) rfl rfl dL_law_1085 ?_
      refine ji_iload_n (n := 3) (pc := 1086) l3 rfl rfl rfl dL_law_1086 (fun r509 => ?_)
      refine ji_iconst (pc := 1087) dL_law_1087 ?_
      refine ji_iadd (pc := 1088)  hF dL_law_1088 (fun x510 r_x510 hF => ?_)
      refine ji_sld (pc := 1089) rfl r_x510 hF dL_law_1089 (fun x511 r_x511 hF => ?_)
      refine ji_callVi (pc := 1090) 0 [x511] ([]) oX10_unseen wlL_123 wmX10_unseen rfl rfl (Nat.le_of_ble_eq_true rfl) (jRaC (jRc3 rfl) (jRaC r_x511 jRa0)) rfl jcl_0 rfl (Nat.le_of_ble_eq_true rfl) hF dL_law_1090 (fun x512 s513 r_x512 hF => ?_)
      refine ji_aload_n (n := 2) (pc := 1093) 53 rfl rfl rfl dL_law_1093 (fun r514 => ?_)
      refine jg_sload (n := 0) (pc := 1094) rfl rfl dL_law_1094 ?_
      refine ji_iload_n (n := 3) (pc := 1095) l3 rfl rfl rfl dL_law_1095 (fun r515 => ?_)
      refine ji_iconst (pc := 1096) dL_law_1096 ?_
      refine ji_iadd (pc := 1097)  hF dL_law_1097 (fun x516 r_x516 hF => ?_)
      refine ji_sld (pc := 1098) rfl r_x516 hF dL_law_1098 (fun x517 r_x517 hF => ?_)
      refine ji_callVi (pc := 1099) 53 [x517] (jV E 1 x512 :: []) oX11_unseen wlL_126 wmX11_unseen rfl rfl (Nat.le_of_ble_eq_true rfl) (jRaC (jRc3 rfl) (jRaC r_x517 jRa0)) rfl jcl_53 rfl (Nat.le_of_ble_eq_true rfl) hF dL_law_1099 (fun x518 s519 r_x518 hF => ?_)
      refine ji_icmp_eq 1275 (pc := 1102) r_x512 r_x518 hF dL_law_1102 rfl (fun hF => ?_) (fun hF => ?_)
      · refine jg_norm [4, 3, 3, 1] [0, 0, 53, l3] rfl rfl ?_
        exact obL_law_1275 hrec _ _ hF
      · refine ji_iconst (pc := 1105) dL_law_1105 ?_
        exact ji_retz (pc := 1106) rfl (jRc5 rfl) hF dL_law_1106
    refine jHo_if hF (fun h539 hF => ?_) (fun h539 hF => ?_)
    · refine jg_tswIn (pc := 33) 1107 r_x6 (by omega) (by omega) (by rw [h539]; rfl) rfl dL_law_33 ?_
      refine ji_aload_n (n := 1) (pc := 1107) 0 rfl rfl rfl dL_law_1107 (fun r521 => ?_)
      refine jg_sload (n := 0) (pc := 1108) rfl rfl dL_law_1108 ?_
      refine ji_iload_n (n := 3) (pc := 1109) l3 rfl rfl rfl dL_law_1109 (fun r522 => ?_)
      refine ji_iconst (pc := 1110) dL_law_1110 ?_
      refine ji_iadd (pc := 1111)  hF dL_law_1111 (fun x523 r_x523 hF => ?_)
      refine ji_sld (pc := 1112) rfl r_x523 hF dL_law_1112 (fun x524 r_x524 hF => ?_)
      refine jg_sload (n := 0) (pc := 1113) rfl rfl dL_law_1113 ?_
      refine ji_iload_n (n := 3) (pc := 1114) l3 rfl rfl rfl dL_law_1114 (fun r525 => ?_)
      refine ji_iconst (pc := 1115) dL_law_1115 ?_
      refine ji_iadd (pc := 1116)  hF dL_law_1116 (fun x526 r_x526 hF => ?_)
      refine ji_sld (pc := 1117) rfl r_x526 hF dL_law_1117 (fun x527 r_x527 hF => ?_)
      refine ji_callVi (pc := 1118) 0 [x524, x527] ([]) oX10_alike wlL_127 wmX10_alike rfl rfl (Nat.le_of_ble_eq_true rfl) (jRaC (jRc3 rfl) (jRaC r_x524 (jRaC r_x527 jRa0))) rfl jcl_0 rfl (Nat.le_of_ble_eq_true rfl) hF dL_law_1118 (fun x528 s529 r_x528 hF => ?_)
      refine ji_aload_n (n := 2) (pc := 1121) 53 rfl rfl rfl dL_law_1121 (fun r530 => ?_)
      refine jg_sload (n := 0) (pc := 1122) rfl rfl dL_law_1122 ?_
      refine ji_iload_n (n := 3) (pc := 1123) l3 rfl rfl rfl dL_law_1123 (fun r531 => ?_)
      refine ji_iconst (pc := 1124) dL_law_1124 ?_
      refine ji_iadd (pc := 1125)  hF dL_law_1125 (fun x532 r_x532 hF => ?_)
      refine ji_sld (pc := 1126) rfl r_x532 hF dL_law_1126 (fun x533 r_x533 hF => ?_)
      refine jg_sload (n := 0) (pc := 1127) rfl rfl dL_law_1127 ?_
      refine ji_iload_n (n := 3) (pc := 1128) l3 rfl rfl rfl dL_law_1128 (fun r534 => ?_)
      refine ji_iconst (pc := 1129) dL_law_1129 ?_
      refine ji_iadd (pc := 1130)  hF dL_law_1130 (fun x535 r_x535 hF => ?_)
      refine ji_sld (pc := 1131) rfl r_x535 hF dL_law_1131 (fun x536 r_x536 hF => ?_)
      refine ji_callVi (pc := 1132) 53 [x533, x536] (jV E 1 x528 :: []) oX11_alike wlL_130 wmX11_alike rfl rfl (Nat.le_of_ble_eq_true rfl) (jRaC (jRc3 rfl) (jRaC r_x533 (jRaC r_x536 jRa0))) rfl jcl_53 rfl (Nat.le_of_ble_eq_true rfl) hF dL_law_1132 (fun x537 s538 r_x537 hF => ?_)
      refine ji_icmp_eq 1275 (pc := 1135) r_x528 r_x537 hF dL_law_1135 rfl (fun hF => ?_) (fun hF => ?_)
      · refine jg_norm [4, 3, 3, 1] [0, 0, 53, l3] rfl rfl ?_
        exact obL_law_1275 hrec _ _ hF
      · refine ji_iconst (pc := 1138) dL_law_1138 ?_
        exact ji_retz (pc := 1139) rfl (jRc5 rfl) hF dL_law_1139
    refine jHo_if hF (fun h564 hF => ?_) (fun h564 hF => ?_)
    · refine jg_tswIn (pc := 33) 1140 r_x6 (by omega) (by omega) (by rw [h564]; rfl) rfl dL_law_33 ?_
      refine ji_aload_n (n := 1) (pc := 1140) 0 rfl rfl rfl dL_law_1140 (fun r540 => ?_)
      refine jg_sload (n := 0) (pc := 1141) rfl rfl dL_law_1141 ?_
      refine ji_iload_n (n := 3) (pc := 1142) l3 rfl rfl rfl dL_law_1142 (fun r541 => ?_)
      refine ji_iconst (pc := 1143) dL_law_1143 ?_
      refine ji_iadd (pc := 1144)  hF dL_law_1144 (fun x542 r_x542 hF => ?_)
      refine ji_sld (pc := 1145) rfl r_x542 hF dL_law_1145 (fun x543 r_x543 hF => ?_)
      refine jg_sload (n := 0) (pc := 1146) rfl rfl dL_law_1146 ?_
      refine ji_iload_n (n := 3) (pc := 1147) l3 rfl rfl rfl dL_law_1147 (fun r544 => ?_)
      refine ji_iconst (pc := 1148) dL_law_1148 ?_
      refine ji_iadd (pc := 1149)  hF dL_law_1149 (fun x545 r_x545 hF => ?_)
      refine ji_sld (pc := 1150) rfl r_x545 hF dL_law_1150 (fun x546 r_x546 hF => ?_)
      refine jg_sload (n := 0) (pc := 1151) rfl rfl dL_law_1151 ?_
      refine ji_iload_n (n := 3) (pc := 1152) l3 rfl rfl rfl dL_law_1152 (fun r547 => ?_)
      refine ji_iconst (pc := 1153) dL_law_1153 ?_
      refine ji_iadd (pc := 1154)  hF dL_law_1154 (fun x548 r_x548 hF => ?_)
      refine ji_sld (pc := 1155) rfl r_x548 hF dL_law_1155 (fun x549 r_x549 hF => ?_)
      refine ji_callVi (pc := 1156) 0 [x543, x546, x549] ([]) oX10_rule wlL_131 wmX10_rule rfl rfl (Nat.le_of_ble_eq_true rfl) (jRaC (jRc3 rfl) (jRaC r_x543 (jRaC r_x546 (jRaC r_x549 jRa0)))) rfl jcl_0 rfl (Nat.le_of_ble_eq_true rfl) hF dL_law_1156 (fun x550 s551 r_x550 hF => ?_)
      refine ji_aload_n (n := 2) (pc := 1159) 53 rfl rfl rfl dL_law_1159 (fun r552 => ?_)
      refine jg_sload (n := 0) (pc := 1160) rfl rfl dL_law_1160 ?_
      refine ji_iload_n (n := 3) (pc := 1161) l3 rfl rfl rfl dL_law_1161 (fun r553 => ?_)
      refine ji_iconst (pc := 1162) dL_law_1162 ?_
      refine ji_iadd (pc := 1163)  hF dL_law_1163 (fun x554 r_x554 hF => ?_)
      refine ji_sld (pc := 1164) rfl r_x554 hF dL_law_1164 (fun x555 r_x555 hF => ?_)
      refine jg_sload (n := 0) (pc := 1165) rfl rfl dL_law_1165 ?_
      refine ji_iload_n (n := 3) (pc := 1166) l3 rfl rfl rfl dL_law_1166 (fun r556 => ?_)
      refine ji_iconst (pc := 1167) dL_law_1167 ?_
      refine ji_iadd (pc := 1168)  hF dL_law_1168 (fun x557 r_x557 hF => ?_)
      refine ji_sld (pc := 1169) rfl r_x557 hF dL_law_1169 (fun x558 r_x558 hF => ?_)
      refine jg_sload (n := 0) (pc := 1170) rfl rfl dL_law_1170 ?_
      refine ji_iload_n (n := 3) (pc := 1171) l3 rfl rfl rfl dL_law_1171 (fun r559 => ?_)
      refine ji_iconst (pc := 1172) dL_law_1172 ?_
      refine ji_iadd (pc := 1173)  hF dL_law_1173 (fun x560 r_x560 hF => ?_)
      refine ji_sld (pc := 1174) rfl r_x560 hF dL_law_1174 (fun x561 r_x561 hF => ?_)
      refine ji_callVi (pc := 1175) 53 [x555, x558, x561] (jV E 1 x550 :: []) oX11_rule wlL_134 wmX11_rule rfl rfl (Nat.le_of_ble_eq_true rfl) (jRaC (jRc3 rfl) (jRaC r_x555 (jRaC r_x558 (jRaC r_x561 jRa0)))) rfl jcl_53 rfl (Nat.le_of_ble_eq_true rfl) hF dL_law_1175 (fun x562 s563 r_x562 hF => ?_)
      refine ji_icmp_eq 1275 (pc := 1178) r_x550 r_x562 hF dL_law_1178 rfl (fun hF => ?_) (fun hF => ?_)
      · refine jg_norm [4, 3, 3, 1] [0, 0, 53, l3] rfl rfl ?_
        exact obL_law_1275 hrec _ _ hF
      · refine ji_iconst (pc := 1181) dL_law_1181 ?_
        exact ji_retz (pc := 1182) rfl (jRc5 rfl) hF dL_law_1182
    refine jHo_if hF (fun h571 hF => ?_) (fun h571 hF => ?_)
    · refine jg_tswIn (pc := 33) 1183 r_x6 (by omega) (by omega) (by rw [h571]; rfl) rfl dL_law_33 ?_
      refine ji_aload_n (n := 1) (pc := 1183) 0 rfl rfl rfl dL_law_1183 (fun r565 => ?_)
      refine ji_callVi (pc := 1184) 0 [] ([]) oX10_clearRules wlL_135 wmX10_clearRules rfl rfl (Nat.le_of_ble_eq_true rfl) (jRaC (jRc3 rfl) jRa0) rfl jcl_0 rfl (Nat.le_of_ble_eq_true rfl) hF dL_law_1184 (fun x566 s567 r_x566 hF => ?_)
      refine ji_aload_n (n := 2) (pc := 1187) 53 rfl rfl rfl dL_law_1187 (fun r568 => ?_)
      refine ji_callVi (pc := 1188) 53 [] (jV E 1 x566 :: []) oX11_clearRules wlL_139 wmX11_clearRules rfl rfl (Nat.le_of_ble_eq_true rfl) (jRaC (jRc3 rfl) jRa0) rfl jcl_53 rfl (Nat.le_of_ble_eq_true rfl) hF dL_law_1188 (fun x569 s570 r_x569 hF => ?_)
      refine ji_icmp_eq 1275 (pc := 1191) r_x566 r_x569 hF dL_law_1191 rfl (fun hF => ?_) (fun hF => ?_)
      · refine jg_norm [4, 3, 3, 1] [0, 0, 53, l3] rfl rfl ?_
        exact obL_law_1275 hrec _ _ hF
      · refine ji_iconst (pc := 1194) dL_law_1194 ?_
        exact ji_retz (pc := 1195) rfl (jRc5 rfl) hF dL_law_1195
    refine jHo_if hF (fun h584 hF => ?_) (fun h584 hF => ?_)
    · refine jg_tswIn (pc := 33) 1196 r_x6 (by omega) (by omega) (by rw [h584]; rfl) rfl dL_law_33 ?_
      refine ji_aload_n (n := 1) (pc := 1196) 0 rfl rfl rfl dL_law_1196 (fun r572 => ?_)
      refine jg_sload (n := 0) (pc := 1197) rfl rfl dL_law_1197 ?_
      refine ji_iload_n (n := 3) (pc := 1198) l3 rfl rfl rfl dL_law_1198 (fun r573 => ?_)
      refine ji_iconst (pc := 1199) dL_law_1199 ?_
      refine ji_iadd (pc := 1200)  hF dL_law_1200 (fun x574 r_x574 hF => ?_)
      refine ji_sld (pc := 1201) rfl r_x574 hF dL_law_1201 (fun x575 r_x575 hF => ?_)
      refine ji_callVi (pc := 1202) 0 [x575] ([]) oX10_worth wlL_140 wmX10_worth rfl rfl (Nat.le_of_ble_eq_true rfl) (jRaC (jRc3 rfl) (jRaC r_x575 jRa0)) rfl jcl_0 rfl (Nat.le_of_ble_eq_true rfl) hF dL_law_1202 (fun x576 s577 r_x576 hF => ?_)
      refine ji_aload_n (n := 2) (pc := 1205) 53 rfl rfl rfl dL_law_1205 (fun r578 => ?_)
      refine jg_sload (n := 0) (pc := 1206) rfl rfl dL_law_1206 ?_
      refine ji_iload_n (n := 3) (pc := 1207) l3 rfl rfl rfl dL_law_1207 (fun r579 => ?_)
      refine ji_iconst (pc := 1208) dL_law_1208 ?_
      refine ji_iadd (pc := 1209)  hF dL_law_1209 (fun x580 r_x580 hF => ?_)
      refine ji_sld (pc := 1210) rfl r_x580 hF dL_law_1210 (fun x581 r_x581 hF => ?_)
      refine ji_callVi (pc := 1211) 53 [x581] (jV E 1 x576 :: []) oX11_worth wlL_143 wmX11_worth rfl rfl (Nat.le_of_ble_eq_true rfl) (jRaC (jRc3 rfl) (jRaC r_x581 jRa0)) rfl jcl_53 rfl (Nat.le_of_ble_eq_true rfl) hF dL_law_1211 (fun x582 s583 r_x582 hF => ?_)
      refine ji_icmp_eq 1275 (pc := 1214) r_x576 r_x582 hF dL_law_1214 rfl (fun hF => ?_) (fun hF => ?_)
      · refine jg_norm [4, 3, 3, 1] [0, 0, 53, l3] rfl rfl ?_
        exact obL_law_1275 hrec _ _ hF
      · refine ji_iconst (pc := 1217) dL_law_1217 ?_
        exact ji_retz (pc := 1218) rfl (jRc5 rfl) hF dL_law_1218
    refine jHo_if hF (fun h597 hF => ?_) (fun h597 hF => ?_)
    · refine jg_tswIn (pc := 33) 1219 r_x6 (by omega) (by omega) (by rw [h597]; rfl) rfl dL_law_33 ?_
      refine ji_aload_n (n := 1) (pc := 1219) 0 rfl rfl rfl dL_law_1219 (fun r585 => ?_)
      refine jg_sload (n := 0) (pc := 1220) rfl rfl dL_law_1220 ?_
      refine ji_iload_n (n := 3) (pc := 1221) l3 rfl rfl rfl dL_law_1221 (fun r586 => ?_)
      refine ji_iconst (pc := 1222) dL_law_1222 ?_
      refine ji_iadd (pc := 1223)  hF dL_law_1223 (fun x587 r_x587 hF => ?_)
      refine ji_sld (pc := 1224) rfl r_x587 hF dL_law_1224 (fun x588 r_x588 hF => ?_)
      refine ji_callVi (pc := 1225) 0 [x588] ([]) oX10_by wlL_144 wmX10_by rfl rfl (Nat.le_of_ble_eq_true rfl) (jRaC (jRc3 rfl) (jRaC r_x588 jRa0)) rfl jcl_0 rfl (Nat.le_of_ble_eq_true rfl) hF dL_law_1225 (fun x589 s590 r_x589 hF => ?_)
      refine ji_aload_n (n := 2) (pc := 1228) 53 rfl rfl rfl dL_law_1228 (fun r591 => ?_)
      refine jg_sload (n := 0) (pc := 1229) rfl rfl dL_law_1229 ?_
      refine ji_iload_n (n := 3) (pc := 1230) l3 rfl rfl rfl dL_law_1230 (fun r592 => ?_)
      refine ji_iconst (pc := 1231) dL_law_1231 ?_
      refine ji_iadd (pc := 1232)  hF dL_law_1232 (fun x593 r_x593 hF => ?_)
      refine ji_sld (pc := 1233) rfl r_x593 hF dL_law_1233 (fun x594 r_x594 hF => ?_)
      refine ji_callVi (pc := 1234) 53 [x594] (jV E 1 x589 :: []) oX11_by wlL_147 wmX11_by rfl rfl (Nat.le_of_ble_eq_true rfl) (jRaC (jRc3 rfl) (jRaC r_x594 jRa0)) rfl jcl_53 rfl (Nat.le_of_ble_eq_true rfl) hF dL_law_1234 (fun x595 s596 r_x595 hF => ?_)
      refine ji_icmp_eq 1275 (pc := 1237) r_x589 r_x595 hF dL_law_1237 rfl (fun hF => ?_) (fun hF => ?_)
      · refine jg_norm [4, 3, 3, 1] [0, 0, 53, l3] rfl rfl ?_
        exact obL_law_1275 hrec _ _ hF
      · refine ji_iconst (pc := 1240) dL_law_1240 ?_
        exact ji_retz (pc := 1241) rfl (jRc5 rfl) hF dL_law_1241
    refine jHo_if hF (fun h616 hF => ?_) (fun h616 hF => ?_)
    · refine jg_tswIn (pc := 33) 1242 r_x6 (by omega) (by omega) (by rw [h616]; rfl) rfl dL_law_33 ?_
      refine ji_aload_n (n := 1) (pc := 1242) 0 rfl rfl rfl dL_law_1242 (fun r598 => ?_)
      refine jg_sload (n := 0) (pc := 1243) rfl rfl dL_law_1243 ?_
      refine ji_iload_n (n := 3) (pc := 1244) l3 rfl rfl rfl dL_law_1244 (fun r599 => ?_)
      refine ji_iconst (pc := 1245) dL_law_1245 ?_
      refine ji_iadd (pc := 1246)  hF dL_law_1246 (fun x600 r_x600 hF => ?_)
      refine ji_sld (pc := 1247) rfl r_x600 hF dL_law_1247 (fun x601 r_x601 hF => ?_)
      refine jg_sload (n := 0) (pc := 1248) rfl rfl dL_law_1248 ?_
      refine ji_iload_n (n := 3) (pc := 1249) l3 rfl rfl rfl dL_law_1249 (fun r602 => ?_)
      refine ji_iconst (pc := 1250) dL_law_1250 ?_
      refine ji_iadd (pc := 1251)  hF dL_law_1251 (fun x603 r_x603 hF => ?_)
      refine ji_sld (pc := 1252) rfl r_x603 hF dL_law_1252 (fun x604 r_x604 hF => ?_)
      refine ji_callVi (pc := 1253) 0 [x601, x604] ([]) oX10_holds wlL_148 wmX10_holds rfl rfl (Nat.le_of_ble_eq_true rfl) (jRaC (jRc3 rfl) (jRaC r_x601 (jRaC r_x604 jRa0))) rfl jcl_0 rfl (Nat.le_of_ble_eq_true rfl) hF dL_law_1253 (fun x605 s606 r_x605 hF => ?_)
      refine ji_aload_n (n := 2) (pc := 1256) 53 rfl rfl rfl dL_law_1256 (fun r607 => ?_)
      refine jg_sload (n := 0) (pc := 1257) rfl rfl dL_law_1257 ?_
      refine ji_iload_n (n := 3) (pc := 1258) l3 rfl rfl rfl dL_law_1258 (fun r608 => ?_)
      refine ji_iconst (pc := 1259) dL_law_1259 ?_
      refine ji_iadd (pc := 1260)  hF dL_law_1260 (fun x609 r_x609 hF => ?_)
      refine ji_sld (pc := 1261) rfl r_x609 hF dL_law_1261 (fun x610 r_x610 hF => ?_)
      refine jg_sload (n := 0) (pc := 1262) rfl rfl dL_law_1262 ?_
      refine ji_iload_n (n := 3) (pc := 1263) l3 rfl rfl rfl dL_law_1263 (fun r611 => ?_)
      refine ji_iconst (pc := 1264) dL_law_1264 ?_
      refine ji_iadd (pc := 1265)  hF dL_law_1265 (fun x612 r_x612 hF => ?_)
      refine ji_sld (pc := 1266) rfl r_x612 hF dL_law_1266 (fun x613 r_x613 hF => ?_)
      refine ji_callVi (pc := 1267) 53 [x610, x613] (jV E 1 x605 :: []) oX11_holds wlL_151 wmX11_holds rfl rfl (Nat.le_of_ble_eq_true rfl) (jRaC (jRc3 rfl) (jRaC r_x610 (jRaC r_x613 jRa0))) rfl jcl_53 rfl (Nat.le_of_ble_eq_true rfl) hF dL_law_1267 (fun x614 s615 r_x614 hF => ?_)
      refine ji_icmp_eq 1275 (pc := 1270) r_x605 r_x614 hF dL_law_1270 rfl (fun hF => ?_) (fun hF => ?_)
      · refine jg_norm [4, 3, 3, 1] [0, 0, 53, l3] rfl rfl ?_
        exact obL_law_1275 hrec _ _ hF
      · refine ji_iconst (pc := 1273) dL_law_1273 ?_
        exact ji_retz (pc := 1274) rfl (jRc5 rfl) hF dL_law_1274
    refine jg_tswOut (pc := 33) 1275 r_x6 (by omega) rfl dL_law_33 ?_
    refine jg_norm [4, 3, 3, 1] [0, 0, 53, l3] rfl rfl ?_
    exact obL_law_1275 hrec _ _ hF
theorem obL_law_18W {E : jEnv} (hL : jR 1 (jxl E)) {Rr : Int → jMem → Prop} : ∀ n : Nat, ∀ (l3 : Int) (s : jMem), jHo Rr (jIt (fun _ _ => none) (bL_law_18 (jxs E) (jxl E)) n l3 s) → jGo E ML_law 14 Rr [4, 3, 3, 1] 18 [0, 0, 53, l3] ([]) s := by
  intro n
  induction n with
  | zero => intro l3 s hF; exact jHo_none hF
  | succ n ih => exact obL_law_18 hL ih

end

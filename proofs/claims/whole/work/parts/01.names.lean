-- ===== PART A: goes FIRST, ahead of the names: the tables' words, and 'selects' of the private methods out of them =====
/-- a private method of a class that the tables say can be made, by its rows of tables_1 -/
def lw_okq (q : MethodName × Nat) : Prop := (q.1.cls ≠ "java/lang/invoke/MethodHandle" ∧ q.1.cls ≠ "java/lang/invoke/VarHandle") ∧ Cond.instantiable q.1.cls q.2 ∈ tables_1 ∧ Cond.privateMethod q.1 ∈ tables_1 ∧ Cond.instanceMethod q.1 ∈ tables_1
theorem lw_p0 : lw_okq (⟨"TileDesk", "refusalOfPlace", "(II)I"⟩, 9) := ⟨⟨by decide +kernel, by decide +kernel⟩, List.mem_of_getElem? (i := 17) (by decide +kernel), List.mem_of_getElem? (i := 278) (by decide +kernel), List.mem_of_getElem? (i := 279) (by decide +kernel)⟩
theorem lw_p1 : lw_okq (⟨"TileDesk", "readAll", "(LTileDesk$Hand;LTileDesk$Rack;II)I"⟩, 9) := ⟨⟨by decide +kernel, by decide +kernel⟩, List.mem_of_getElem? (i := 17) (by decide +kernel), List.mem_of_getElem? (i := 319) (by decide +kernel), List.mem_of_getElem? (i := 320) (by decide +kernel)⟩
theorem lw_p2 : lw_okq (⟨"TileDesk", "unread", "(LTileDesk$Hand;LTileDesk$Rack;II)V"⟩, 9) := ⟨⟨by decide +kernel, by decide +kernel⟩, List.mem_of_getElem? (i := 17) (by decide +kernel), List.mem_of_getElem? (i := 326) (by decide +kernel), List.mem_of_getElem? (i := 327) (by decide +kernel)⟩
theorem lw_p3 : lw_okq (⟨"TileDesk", "drawNext", "(LTileDesk$Hand;)I"⟩, 9) := ⟨⟨by decide +kernel, by decide +kernel⟩, List.mem_of_getElem? (i := 17) (by decide +kernel), List.mem_of_getElem? (i := 355) (by decide +kernel), List.mem_of_getElem? (i := 356) (by decide +kernel)⟩
theorem lw_p4 : lw_okq (⟨"TileDesk$Ways", "keepPath", "()V"⟩, 5) := ⟨⟨by decide +kernel, by decide +kernel⟩, List.mem_of_getElem? (i := 111) (by decide +kernel), List.mem_of_getElem? (i := 435) (by decide +kernel), List.mem_of_getElem? (i := 436) (by decide +kernel)⟩
theorem lw_p5 : lw_okq (⟨"TileDesk$Ways", "shiftRun", "(II)V"⟩, 5) := ⟨⟨by decide +kernel, by decide +kernel⟩, List.mem_of_getElem? (i := 111) (by decide +kernel), List.mem_of_getElem? (i := 440) (by decide +kernel), List.mem_of_getElem? (i := 441) (by decide +kernel)⟩
theorem lw_p6 : lw_okq (⟨"TileDesk$Judge", "isSeven", "(LTileDesk$Hand;)Z"⟩, 6) := ⟨⟨by decide +kernel, by decide +kernel⟩, List.mem_of_getElem? (i := 105) (by decide +kernel), List.mem_of_getElem? (i := 444) (by decide +kernel), List.mem_of_getElem? (i := 445) (by decide +kernel)⟩
theorem lw_p7 : lw_okq (⟨"TileDesk$Judge", "isOuterOnes", "(LTileDesk$Hand;)Z"⟩, 6) := ⟨⟨by decide +kernel, by decide +kernel⟩, List.mem_of_getElem? (i := 105) (by decide +kernel), List.mem_of_getElem? (i := 454) (by decide +kernel), List.mem_of_getElem? (i := 455) (by decide +kernel)⟩
theorem lw_p8 : lw_okq (⟨"TileDesk$Lacks", "look", "(LTileDesk$Hand;I)V"⟩, 14) := ⟨⟨by decide +kernel, by decide +kernel⟩, List.mem_of_getElem? (i := 49) (by decide +kernel), List.mem_of_getElem? (i := 492) (by decide +kernel), List.mem_of_getElem? (i := 493) (by decide +kernel)⟩
theorem lw_p9 : lw_okq (⟨"TileDesk$Lacks", "workOut", "(I)V"⟩, 14) := ⟨⟨by decide +kernel, by decide +kernel⟩, List.mem_of_getElem? (i := 49) (by decide +kernel), List.mem_of_getElem? (i := 497) (by decide +kernel), List.mem_of_getElem? (i := 498) (by decide +kernel)⟩
theorem lw_p10 : lw_okq (⟨"TileDesk$Lacks", "keyOf", "(I)J"⟩, 14) := ⟨⟨by decide +kernel, by decide +kernel⟩, List.mem_of_getElem? (i := 49) (by decide +kernel), List.mem_of_getElem? (i := 501) (by decide +kernel), List.mem_of_getElem? (i := 502) (by decide +kernel)⟩
theorem lw_p11 : lw_okq (⟨"TileDesk$Lacks", "goThrough", "(I)V"⟩, 14) := ⟨⟨by decide +kernel, by decide +kernel⟩, List.mem_of_getElem? (i := 49) (by decide +kernel), List.mem_of_getElem? (i := 510) (by decide +kernel), List.mem_of_getElem? (i := 511) (by decide +kernel)⟩
theorem lw_p12 : lw_okq (⟨"TileDesk$Lacks", "spread", "(IIJI)V"⟩, 14) := ⟨⟨by decide +kernel, by decide +kernel⟩, List.mem_of_getElem? (i := 49) (by decide +kernel), List.mem_of_getElem? (i := 515) (by decide +kernel), List.mem_of_getElem? (i := 516) (by decide +kernel)⟩
theorem lw_p13 : lw_okq (⟨"TileDesk$Lacks", "less", "(JJ)J"⟩, 14) := ⟨⟨by decide +kernel, by decide +kernel⟩, List.mem_of_getElem? (i := 49) (by decide +kernel), List.mem_of_getElem? (i := 523) (by decide +kernel), List.mem_of_getElem? (i := 524) (by decide +kernel)⟩
theorem lw_p14 : lw_okq (⟨"TileDesk$Lacks", "addAllBut", "(I)V"⟩, 14) := ⟨⟨by decide +kernel, by decide +kernel⟩, List.mem_of_getElem? (i := 49) (by decide +kernel), List.mem_of_getElem? (i := 527) (by decide +kernel), List.mem_of_getElem? (i := 528) (by decide +kernel)⟩
theorem lw_p15 : lw_okq (⟨"TileDesk$Lacks", "addRow", "(I)V"⟩, 14) := ⟨⟨by decide +kernel, by decide +kernel⟩, List.mem_of_getElem? (i := 49) (by decide +kernel), List.mem_of_getElem? (i := 531) (by decide +kernel), List.mem_of_getElem? (i := 532) (by decide +kernel)⟩
def lw_privs_1 : List (MethodName × Nat) := [(⟨"TileDesk", "refusalOfPlace", "(II)I"⟩, 9), (⟨"TileDesk", "readAll", "(LTileDesk$Hand;LTileDesk$Rack;II)I"⟩, 9), (⟨"TileDesk", "unread", "(LTileDesk$Hand;LTileDesk$Rack;II)V"⟩, 9), (⟨"TileDesk", "drawNext", "(LTileDesk$Hand;)I"⟩, 9), (⟨"TileDesk$Ways", "keepPath", "()V"⟩, 5), (⟨"TileDesk$Ways", "shiftRun", "(II)V"⟩, 5), (⟨"TileDesk$Judge", "isSeven", "(LTileDesk$Hand;)Z"⟩, 6), (⟨"TileDesk$Judge", "isOuterOnes", "(LTileDesk$Hand;)Z"⟩, 6), (⟨"TileDesk$Lacks", "look", "(LTileDesk$Hand;I)V"⟩, 14), (⟨"TileDesk$Lacks", "workOut", "(I)V"⟩, 14), (⟨"TileDesk$Lacks", "keyOf", "(I)J"⟩, 14), (⟨"TileDesk$Lacks", "goThrough", "(I)V"⟩, 14), (⟨"TileDesk$Lacks", "spread", "(IIJI)V"⟩, 14), (⟨"TileDesk$Lacks", "less", "(JJ)J"⟩, 14), (⟨"TileDesk$Lacks", "addAllBut", "(I)V"⟩, 14), (⟨"TileDesk$Lacks", "addRow", "(I)V"⟩, 14)]
theorem lw_r1 : ∀ q ∈ lw_privs_1, lw_okq q := List.forall_mem_cons.mpr ⟨lw_p0, List.forall_mem_cons.mpr ⟨lw_p1, List.forall_mem_cons.mpr ⟨lw_p2, List.forall_mem_cons.mpr ⟨lw_p3, List.forall_mem_cons.mpr ⟨lw_p4, List.forall_mem_cons.mpr ⟨lw_p5, List.forall_mem_cons.mpr ⟨lw_p6, List.forall_mem_cons.mpr ⟨lw_p7, List.forall_mem_cons.mpr ⟨lw_p8, List.forall_mem_cons.mpr ⟨lw_p9, List.forall_mem_cons.mpr ⟨lw_p10, List.forall_mem_cons.mpr ⟨lw_p11, List.forall_mem_cons.mpr ⟨lw_p12, List.forall_mem_cons.mpr ⟨lw_p13, List.forall_mem_cons.mpr ⟨lw_p14, List.forall_mem_cons.mpr ⟨lw_p15, fun _ h => absurd h List.not_mem_nil⟩⟩⟩⟩⟩⟩⟩⟩⟩⟩⟩⟩⟩⟩⟩⟩
theorem lw_p16 : lw_okq (⟨"TileDesk$Lacks", "leastWith", "(II)J"⟩, 14) := ⟨⟨by decide +kernel, by decide +kernel⟩, List.mem_of_getElem? (i := 49) (by decide +kernel), List.mem_of_getElem? (i := 535) (by decide +kernel), List.mem_of_getElem? (i := 536) (by decide +kernel)⟩
theorem lw_p17 : lw_okq (⟨"TileDesk$Lacks", "offer", "(IJ)V"⟩, 14) := ⟨⟨by decide +kernel, by decide +kernel⟩, List.mem_of_getElem? (i := 49) (by decide +kernel), List.mem_of_getElem? (i := 548) (by decide +kernel), List.mem_of_getElem? (i := 549) (by decide +kernel)⟩
theorem lw_p18 : lw_okq (⟨"TileDesk$Lacks", "isHelper", "(I)Z"⟩, 14) := ⟨⟨by decide +kernel, by decide +kernel⟩, List.mem_of_getElem? (i := 49) (by decide +kernel), List.mem_of_getElem? (i := 569) (by decide +kernel), List.mem_of_getElem? (i := 570) (by decide +kernel)⟩
theorem lw_p19 : lw_okq (⟨"TileDesk", "refusalOfThrow", "(II)I"⟩, 9) := ⟨⟨by decide +kernel, by decide +kernel⟩, List.mem_of_getElem? (i := 17) (by decide +kernel), List.mem_of_getElem? (i := 581) (by decide +kernel), List.mem_of_getElem? (i := 582) (by decide +kernel)⟩
theorem lw_p20 : lw_okq (⟨"TileDesk", "reckonWithout", "(LTileDesk$Hand;I)V"⟩, 9) := ⟨⟨by decide +kernel, by decide +kernel⟩, List.mem_of_getElem? (i := 17) (by decide +kernel), List.mem_of_getElem? (i := 585) (by decide +kernel), List.mem_of_getElem? (i := 586) (by decide +kernel)⟩
theorem lw_p21 : lw_okq (⟨"TileDesk", "countHidden", "(LTileDesk$Hand;)I"⟩, 9) := ⟨⟨by decide +kernel, by decide +kernel⟩, List.mem_of_getElem? (i := 17) (by decide +kernel), List.mem_of_getElem? (i := 601) (by decide +kernel), List.mem_of_getElem? (i := 602) (by decide +kernel)⟩
theorem lw_p22 : lw_okq (⟨"TileDesk", "bestThrow", "(LTileDesk$Hand;)I"⟩, 9) := ⟨⟨by decide +kernel, by decide +kernel⟩, List.mem_of_getElem? (i := 17) (by decide +kernel), List.mem_of_getElem? (i := 613) (by decide +kernel), List.mem_of_getElem? (i := 614) (by decide +kernel)⟩
theorem lw_p23 : lw_okq (⟨"TileDesk", "secondTiles", "(I)I"⟩, 9) := ⟨⟨by decide +kernel, by decide +kernel⟩, List.mem_of_getElem? (i := 17) (by decide +kernel), List.mem_of_getElem? (i := 629) (by decide +kernel), List.mem_of_getElem? (i := 630) (by decide +kernel)⟩
theorem lw_p24 : lw_okq (⟨"TileDesk$Ways", "stoodAhead", "(II)Z"⟩, 5) := ⟨⟨by decide +kernel, by decide +kernel⟩, List.mem_of_getElem? (i := 111) (by decide +kernel), List.mem_of_getElem? (i := 687) (by decide +kernel), List.mem_of_getElem? (i := 688) (by decide +kernel)⟩
theorem lw_p25 : lw_okq (⟨"TileDesk$Judge", "consider", "(II)V"⟩, 6) := ⟨⟨by decide +kernel, by decide +kernel⟩, List.mem_of_getElem? (i := 105) (by decide +kernel), List.mem_of_getElem? (i := 702) (by decide +kernel), List.mem_of_getElem? (i := 703) (by decide +kernel)⟩
theorem lw_p26 : lw_okq (⟨"TileDesk$Rules", "isPutOut", "(II)Z"⟩, 4) := ⟨⟨by decide +kernel, by decide +kernel⟩, List.mem_of_getElem? (i := 135) (by decide +kernel), List.mem_of_getElem? (i := 713) (by decide +kernel), List.mem_of_getElem? (i := 714) (by decide +kernel)⟩
theorem lw_p27 : lw_okq (⟨"TileDeskModel", "sizeOf", "(I)I"⟩, 32) := ⟨⟨by decide +kernel, by decide +kernel⟩, List.mem_of_getElem? (i := 732) (by decide +kernel), List.mem_of_getElem? (i := 876) (by decide +kernel), List.mem_of_getElem? (i := 877) (by decide +kernel)⟩
theorem lw_p28 : lw_okq (⟨"TileDeskModel", "heldMany", "(I)I"⟩, 32) := ⟨⟨by decide +kernel, by decide +kernel⟩, List.mem_of_getElem? (i := 732) (by decide +kernel), List.mem_of_getElem? (i := 880) (by decide +kernel), List.mem_of_getElem? (i := 881) (by decide +kernel)⟩
theorem lw_p29 : lw_okq (⟨"TileDeskModel", "wallMany", "()I"⟩, 32) := ⟨⟨by decide +kernel, by decide +kernel⟩, List.mem_of_getElem? (i := 732) (by decide +kernel), List.mem_of_getElem? (i := 900) (by decide +kernel), List.mem_of_getElem? (i := 901) (by decide +kernel)⟩
theorem lw_p30 : lw_okq (⟨"TileDeskModel", "drawn", "(I)I"⟩, 32) := ⟨⟨by decide +kernel, by decide +kernel⟩, List.mem_of_getElem? (i := 732) (by decide +kernel), List.mem_of_getElem? (i := 904) (by decide +kernel), List.mem_of_getElem? (i := 905) (by decide +kernel)⟩
theorem lw_p31 : lw_okq (⟨"TileDeskModel", "gather", "(I)I"⟩, 32) := ⟨⟨by decide +kernel, by decide +kernel⟩, List.mem_of_getElem? (i := 732) (by decide +kernel), List.mem_of_getElem? (i := 916) (by decide +kernel), List.mem_of_getElem? (i := 917) (by decide +kernel)⟩
def lw_privs_2 : List (MethodName × Nat) := [(⟨"TileDesk$Lacks", "leastWith", "(II)J"⟩, 14), (⟨"TileDesk$Lacks", "offer", "(IJ)V"⟩, 14), (⟨"TileDesk$Lacks", "isHelper", "(I)Z"⟩, 14), (⟨"TileDesk", "refusalOfThrow", "(II)I"⟩, 9), (⟨"TileDesk", "reckonWithout", "(LTileDesk$Hand;I)V"⟩, 9), (⟨"TileDesk", "countHidden", "(LTileDesk$Hand;)I"⟩, 9), (⟨"TileDesk", "bestThrow", "(LTileDesk$Hand;)I"⟩, 9), (⟨"TileDesk", "secondTiles", "(I)I"⟩, 9), (⟨"TileDesk$Ways", "stoodAhead", "(II)Z"⟩, 5), (⟨"TileDesk$Judge", "consider", "(II)V"⟩, 6), (⟨"TileDesk$Rules", "isPutOut", "(II)Z"⟩, 4), (⟨"TileDeskModel", "sizeOf", "(I)I"⟩, 32), (⟨"TileDeskModel", "heldMany", "(I)I"⟩, 32), (⟨"TileDeskModel", "wallMany", "()I"⟩, 32), (⟨"TileDeskModel", "drawn", "(I)I"⟩, 32), (⟨"TileDeskModel", "gather", "(I)I"⟩, 32)]
theorem lw_r2 : ∀ q ∈ lw_privs_2, lw_okq q := List.forall_mem_cons.mpr ⟨lw_p16, List.forall_mem_cons.mpr ⟨lw_p17, List.forall_mem_cons.mpr ⟨lw_p18, List.forall_mem_cons.mpr ⟨lw_p19, List.forall_mem_cons.mpr ⟨lw_p20, List.forall_mem_cons.mpr ⟨lw_p21, List.forall_mem_cons.mpr ⟨lw_p22, List.forall_mem_cons.mpr ⟨lw_p23, List.forall_mem_cons.mpr ⟨lw_p24, List.forall_mem_cons.mpr ⟨lw_p25, List.forall_mem_cons.mpr ⟨lw_p26, List.forall_mem_cons.mpr ⟨lw_p27, List.forall_mem_cons.mpr ⟨lw_p28, List.forall_mem_cons.mpr ⟨lw_p29, List.forall_mem_cons.mpr ⟨lw_p30, List.forall_mem_cons.mpr ⟨lw_p31, fun _ h => absurd h List.not_mem_nil⟩⟩⟩⟩⟩⟩⟩⟩⟩⟩⟩⟩⟩⟩⟩⟩
theorem lw_p32 : lw_okq (⟨"TileDeskModel", "isFull", "(I)Z"⟩, 32) := ⟨⟨by decide +kernel, by decide +kernel⟩, List.mem_of_getElem? (i := 732) (by decide +kernel), List.mem_of_getElem? (i := 956) (by decide +kernel), List.mem_of_getElem? (i := 957) (by decide +kernel)⟩
theorem lw_p33 : lw_okq (⟨"TileDeskModel", "look", "(I)V"⟩, 32) := ⟨⟨by decide +kernel, by decide +kernel⟩, List.mem_of_getElem? (i := 732) (by decide +kernel), List.mem_of_getElem? (i := 960) (by decide +kernel), List.mem_of_getElem? (i := 961) (by decide +kernel)⟩
theorem lw_p34 : lw_okq (⟨"TileDeskModel", "doneBy", "()I"⟩, 32) := ⟨⟨by decide +kernel, by decide +kernel⟩, List.mem_of_getElem? (i := 732) (by decide +kernel), List.mem_of_getElem? (i := 964) (by decide +kernel), List.mem_of_getElem? (i := 965) (by decide +kernel)⟩
theorem lw_p35 : lw_okq (⟨"TileDeskModel", "findWay", "(I)I"⟩, 32) := ⟨⟨by decide +kernel, by decide +kernel⟩, List.mem_of_getElem? (i := 732) (by decide +kernel), List.mem_of_getElem? (i := 968) (by decide +kernel), List.mem_of_getElem? (i := 969) (by decide +kernel)⟩
theorem lw_p36 : lw_okq (⟨"TileDeskModel", "mayBe", "(I)Z"⟩, 32) := ⟨⟨by decide +kernel, by decide +kernel⟩, List.mem_of_getElem? (i := 732) (by decide +kernel), List.mem_of_getElem? (i := 972) (by decide +kernel), List.mem_of_getElem? (i := 973) (by decide +kernel)⟩
theorem lw_p37 : lw_okq (⟨"TileDeskModel", "isWay", "(II)Z"⟩, 32) := ⟨⟨by decide +kernel, by decide +kernel⟩, List.mem_of_getElem? (i := 732) (by decide +kernel), List.mem_of_getElem? (i := 979) (by decide +kernel), List.mem_of_getElem? (i := 980) (by decide +kernel)⟩
theorem lw_p38 : lw_okq (⟨"TileDeskModel", "isSeven", "()Z"⟩, 32) := ⟨⟨by decide +kernel, by decide +kernel⟩, List.mem_of_getElem? (i := 732) (by decide +kernel), List.mem_of_getElem? (i := 983) (by decide +kernel), List.mem_of_getElem? (i := 984) (by decide +kernel)⟩
theorem lw_p39 : lw_okq (⟨"TileDeskModel", "isOuterHand", "()Z"⟩, 32) := ⟨⟨by decide +kernel, by decide +kernel⟩, List.mem_of_getElem? (i := 732) (by decide +kernel), List.mem_of_getElem? (i := 987) (by decide +kernel), List.mem_of_getElem? (i := 988) (by decide +kernel)⟩
theorem lw_p40 : lw_okq (⟨"TileDeskModel", "addOpen", "(I)V"⟩, 32) := ⟨⟨by decide +kernel, by decide +kernel⟩, List.mem_of_getElem? (i := 732) (by decide +kernel), List.mem_of_getElem? (i := 1003) (by decide +kernel), List.mem_of_getElem? (i := 1004) (by decide +kernel)⟩
theorem lw_p41 : lw_okq (⟨"TileDeskModel", "layAll", "()V"⟩, 32) := ⟨⟨by decide +kernel, by decide +kernel⟩, List.mem_of_getElem? (i := 732) (by decide +kernel), List.mem_of_getElem? (i := 1011) (by decide +kernel), List.mem_of_getElem? (i := 1012) (by decide +kernel)⟩
theorem lw_p42 : lw_okq (⟨"TileDeskModel", "layLacks", "(I)V"⟩, 32) := ⟨⟨by decide +kernel, by decide +kernel⟩, List.mem_of_getElem? (i := 732) (by decide +kernel), List.mem_of_getElem? (i := 1015) (by decide +kernel), List.mem_of_getElem? (i := 1016) (by decide +kernel)⟩
theorem lw_p43 : lw_okq (⟨"TileDeskModel", "move", "()V"⟩, 32) := ⟨⟨by decide +kernel, by decide +kernel⟩, List.mem_of_getElem? (i := 732) (by decide +kernel), List.mem_of_getElem? (i := 1019) (by decide +kernel), List.mem_of_getElem? (i := 1020) (by decide +kernel)⟩
theorem lw_p44 : lw_okq (⟨"TileDeskModel", "step", "(IIIIIII)V"⟩, 32) := ⟨⟨by decide +kernel, by decide +kernel⟩, List.mem_of_getElem? (i := 732) (by decide +kernel), List.mem_of_getElem? (i := 1023) (by decide +kernel), List.mem_of_getElem? (i := 1024) (by decide +kernel)⟩
theorem lw_p45 : lw_okq (⟨"TileDeskModel", "better", "(II)V"⟩, 32) := ⟨⟨by decide +kernel, by decide +kernel⟩, List.mem_of_getElem? (i := 732) (by decide +kernel), List.mem_of_getElem? (i := 1027) (by decide +kernel), List.mem_of_getElem? (i := 1028) (by decide +kernel)⟩
theorem lw_p46 : lw_okq (⟨"TileDeskModel", "lackOf", "()I"⟩, 32) := ⟨⟨by decide +kernel, by decide +kernel⟩, List.mem_of_getElem? (i := 732) (by decide +kernel), List.mem_of_getElem? (i := 1031) (by decide +kernel), List.mem_of_getElem? (i := 1032) (by decide +kernel)⟩
theorem lw_p47 : lw_okq (⟨"TileDeskModel", "lackByWay", "()I"⟩, 32) := ⟨⟨by decide +kernel, by decide +kernel⟩, List.mem_of_getElem? (i := 732) (by decide +kernel), List.mem_of_getElem? (i := 1035) (by decide +kernel), List.mem_of_getElem? (i := 1036) (by decide +kernel)⟩
def lw_privs_3 : List (MethodName × Nat) := [(⟨"TileDeskModel", "isFull", "(I)Z"⟩, 32), (⟨"TileDeskModel", "look", "(I)V"⟩, 32), (⟨"TileDeskModel", "doneBy", "()I"⟩, 32), (⟨"TileDeskModel", "findWay", "(I)I"⟩, 32), (⟨"TileDeskModel", "mayBe", "(I)Z"⟩, 32), (⟨"TileDeskModel", "isWay", "(II)Z"⟩, 32), (⟨"TileDeskModel", "isSeven", "()Z"⟩, 32), (⟨"TileDeskModel", "isOuterHand", "()Z"⟩, 32), (⟨"TileDeskModel", "addOpen", "(I)V"⟩, 32), (⟨"TileDeskModel", "layAll", "()V"⟩, 32), (⟨"TileDeskModel", "layLacks", "(I)V"⟩, 32), (⟨"TileDeskModel", "move", "()V"⟩, 32), (⟨"TileDeskModel", "step", "(IIIIIII)V"⟩, 32), (⟨"TileDeskModel", "better", "(II)V"⟩, 32), (⟨"TileDeskModel", "lackOf", "()I"⟩, 32), (⟨"TileDeskModel", "lackByWay", "()I"⟩, 32)]
theorem lw_r3 : ∀ q ∈ lw_privs_3, lw_okq q := List.forall_mem_cons.mpr ⟨lw_p32, List.forall_mem_cons.mpr ⟨lw_p33, List.forall_mem_cons.mpr ⟨lw_p34, List.forall_mem_cons.mpr ⟨lw_p35, List.forall_mem_cons.mpr ⟨lw_p36, List.forall_mem_cons.mpr ⟨lw_p37, List.forall_mem_cons.mpr ⟨lw_p38, List.forall_mem_cons.mpr ⟨lw_p39, List.forall_mem_cons.mpr ⟨lw_p40, List.forall_mem_cons.mpr ⟨lw_p41, List.forall_mem_cons.mpr ⟨lw_p42, List.forall_mem_cons.mpr ⟨lw_p43, List.forall_mem_cons.mpr ⟨lw_p44, List.forall_mem_cons.mpr ⟨lw_p45, List.forall_mem_cons.mpr ⟨lw_p46, List.forall_mem_cons.mpr ⟨lw_p47, fun _ h => absurd h List.not_mem_nil⟩⟩⟩⟩⟩⟩⟩⟩⟩⟩⟩⟩⟩⟩⟩⟩
theorem lw_p48 : lw_okq (⟨"TileDeskModel", "lackOfSeven", "()I"⟩, 32) := ⟨⟨by decide +kernel, by decide +kernel⟩, List.mem_of_getElem? (i := 732) (by decide +kernel), List.mem_of_getElem? (i := 1039) (by decide +kernel), List.mem_of_getElem? (i := 1040) (by decide +kernel)⟩
theorem lw_p49 : lw_okq (⟨"TileDeskModel", "lackOfOuter", "()I"⟩, 32) := ⟨⟨by decide +kernel, by decide +kernel⟩, List.mem_of_getElem? (i := 732) (by decide +kernel), List.mem_of_getElem? (i := 1043) (by decide +kernel), List.mem_of_getElem? (i := 1044) (by decide +kernel)⟩
theorem lw_p50 : lw_okq (⟨"TileDeskModel", "helped", "(IIZ)I"⟩, 32) := ⟨⟨by decide +kernel, by decide +kernel⟩, List.mem_of_getElem? (i := 732) (by decide +kernel), List.mem_of_getElem? (i := 1054) (by decide +kernel), List.mem_of_getElem? (i := 1055) (by decide +kernel)⟩
theorem lw_p51 : lw_okq (⟨"TileDeskModel", "layHelps", "()V"⟩, 32) := ⟨⟨by decide +kernel, by decide +kernel⟩, List.mem_of_getElem? (i := 732) (by decide +kernel), List.mem_of_getElem? (i := 1058) (by decide +kernel), List.mem_of_getElem? (i := 1059) (by decide +kernel)⟩
theorem lw_p52 : lw_okq (⟨"TileDeskModel", "change", "(II)V"⟩, 32) := ⟨⟨by decide +kernel, by decide +kernel⟩, List.mem_of_getElem? (i := 732) (by decide +kernel), List.mem_of_getElem? (i := 1062) (by decide +kernel), List.mem_of_getElem? (i := 1063) (by decide +kernel)⟩
theorem lw_p53 : lw_okq (⟨"TileDeskModel", "helpAt", "(I)I"⟩, 32) := ⟨⟨by decide +kernel, by decide +kernel⟩, List.mem_of_getElem? (i := 732) (by decide +kernel), List.mem_of_getElem? (i := 1066) (by decide +kernel), List.mem_of_getElem? (i := 1067) (by decide +kernel)⟩
theorem lw_p54 : lw_okq (⟨"TileDeskModel", "against", "(II)I"⟩, 32) := ⟨⟨by decide +kernel, by decide +kernel⟩, List.mem_of_getElem? (i := 732) (by decide +kernel), List.mem_of_getElem? (i := 1078) (by decide +kernel), List.mem_of_getElem? (i := 1079) (by decide +kernel)⟩
theorem lw_p55 : lw_okq (⟨"TileDeskModel", "layUnseen", "(I)I"⟩, 32) := ⟨⟨by decide +kernel, by decide +kernel⟩, List.mem_of_getElem? (i := 732) (by decide +kernel), List.mem_of_getElem? (i := 1086) (by decide +kernel), List.mem_of_getElem? (i := 1087) (by decide +kernel)⟩
theorem lw_p56 : lw_okq (⟨"TileDeskModel", "helping", "()I"⟩, 32) := ⟨⟨by decide +kernel, by decide +kernel⟩, List.mem_of_getElem? (i := 732) (by decide +kernel), List.mem_of_getElem? (i := 1090) (by decide +kernel), List.mem_of_getElem? (i := 1091) (by decide +kernel)⟩
theorem lw_p57 : lw_okq (⟨"TileDeskModel", "making", "()I"⟩, 32) := ⟨⟨by decide +kernel, by decide +kernel⟩, List.mem_of_getElem? (i := 732) (by decide +kernel), List.mem_of_getElem? (i := 1106) (by decide +kernel), List.mem_of_getElem? (i := 1107) (by decide +kernel)⟩
theorem lw_p58 : lw_okq (⟨"TileDeskModel", "makingBest", "()I"⟩, 32) := ⟨⟨by decide +kernel, by decide +kernel⟩, List.mem_of_getElem? (i := 732) (by decide +kernel), List.mem_of_getElem? (i := 1110) (by decide +kernel), List.mem_of_getElem? (i := 1111) (by decide +kernel)⟩
theorem lw_p59 : lw_okq (⟨"TileDeskModel", "areRows", "(IIII)Z"⟩, 32) := ⟨⟨by decide +kernel, by decide +kernel⟩, List.mem_of_getElem? (i := 732) (by decide +kernel), List.mem_of_getElem? (i := 1122) (by decide +kernel), List.mem_of_getElem? (i := 1123) (by decide +kernel)⟩
theorem lw_p60 : lw_okq (⟨"TileDeskModel", "isRow", "(IIIIZ)Z"⟩, 32) := ⟨⟨by decide +kernel, by decide +kernel⟩, List.mem_of_getElem? (i := 732) (by decide +kernel), List.mem_of_getElem? (i := 1126) (by decide +kernel), List.mem_of_getElem? (i := 1127) (by decide +kernel)⟩
theorem lw_p61 : lw_okq (⟨"TileDeskModel", "worthOf", "(I)I"⟩, 32) := ⟨⟨by decide +kernel, by decide +kernel⟩, List.mem_of_getElem? (i := 732) (by decide +kernel), List.mem_of_getElem? (i := 1143) (by decide +kernel), List.mem_of_getElem? (i := 1144) (by decide +kernel)⟩
theorem lw_p62 : lw_okq (⟨"TileDeskModel", "conditionsOfWay", "()I"⟩, 32) := ⟨⟨by decide +kernel, by decide +kernel⟩, List.mem_of_getElem? (i := 732) (by decide +kernel), List.mem_of_getElem? (i := 1147) (by decide +kernel), List.mem_of_getElem? (i := 1148) (by decide +kernel)⟩
theorem lw_p63 : lw_okq (⟨"TileDeskModel", "isOneRow", "()Z"⟩, 32) := ⟨⟨by decide +kernel, by decide +kernel⟩, List.mem_of_getElem? (i := 732) (by decide +kernel), List.mem_of_getElem? (i := 1154) (by decide +kernel), List.mem_of_getElem? (i := 1155) (by decide +kernel)⟩
def lw_privs_4 : List (MethodName × Nat) := [(⟨"TileDeskModel", "lackOfSeven", "()I"⟩, 32), (⟨"TileDeskModel", "lackOfOuter", "()I"⟩, 32), (⟨"TileDeskModel", "helped", "(IIZ)I"⟩, 32), (⟨"TileDeskModel", "layHelps", "()V"⟩, 32), (⟨"TileDeskModel", "change", "(II)V"⟩, 32), (⟨"TileDeskModel", "helpAt", "(I)I"⟩, 32), (⟨"TileDeskModel", "against", "(II)I"⟩, 32), (⟨"TileDeskModel", "layUnseen", "(I)I"⟩, 32), (⟨"TileDeskModel", "helping", "()I"⟩, 32), (⟨"TileDeskModel", "making", "()I"⟩, 32), (⟨"TileDeskModel", "makingBest", "()I"⟩, 32), (⟨"TileDeskModel", "areRows", "(IIII)Z"⟩, 32), (⟨"TileDeskModel", "isRow", "(IIIIZ)Z"⟩, 32), (⟨"TileDeskModel", "worthOf", "(I)I"⟩, 32), (⟨"TileDeskModel", "conditionsOfWay", "()I"⟩, 32), (⟨"TileDeskModel", "isOneRow", "()Z"⟩, 32)]
theorem lw_r4 : ∀ q ∈ lw_privs_4, lw_okq q := List.forall_mem_cons.mpr ⟨lw_p48, List.forall_mem_cons.mpr ⟨lw_p49, List.forall_mem_cons.mpr ⟨lw_p50, List.forall_mem_cons.mpr ⟨lw_p51, List.forall_mem_cons.mpr ⟨lw_p52, List.forall_mem_cons.mpr ⟨lw_p53, List.forall_mem_cons.mpr ⟨lw_p54, List.forall_mem_cons.mpr ⟨lw_p55, List.forall_mem_cons.mpr ⟨lw_p56, List.forall_mem_cons.mpr ⟨lw_p57, List.forall_mem_cons.mpr ⟨lw_p58, List.forall_mem_cons.mpr ⟨lw_p59, List.forall_mem_cons.mpr ⟨lw_p60, List.forall_mem_cons.mpr ⟨lw_p61, List.forall_mem_cons.mpr ⟨lw_p62, List.forall_mem_cons.mpr ⟨lw_p63, fun _ h => absurd h List.not_mem_nil⟩⟩⟩⟩⟩⟩⟩⟩⟩⟩⟩⟩⟩⟩⟩⟩
theorem lw_p64 : lw_okq (⟨"TileDeskModel", "tries", "(III)V"⟩, 32) := ⟨⟨by decide +kernel, by decide +kernel⟩, List.mem_of_getElem? (i := 732) (by decide +kernel), List.mem_of_getElem? (i := 1158) (by decide +kernel), List.mem_of_getElem? (i := 1159) (by decide +kernel)⟩
theorem lw_p65 : lw_okq (⟨"TileDeskModel", "sumOf", "(I)I"⟩, 32) := ⟨⟨by decide +kernel, by decide +kernel⟩, List.mem_of_getElem? (i := 732) (by decide +kernel), List.mem_of_getElem? (i := 1162) (by decide +kernel), List.mem_of_getElem? (i := 1163) (by decide +kernel)⟩
theorem lw_p66 : lw_okq (⟨"TileDeskModel", "conditionsOfSeven", "()I"⟩, 32) := ⟨⟨by decide +kernel, by decide +kernel⟩, List.mem_of_getElem? (i := 732) (by decide +kernel), List.mem_of_getElem? (i := 1166) (by decide +kernel), List.mem_of_getElem? (i := 1167) (by decide +kernel)⟩
def lw_privs_5 : List (MethodName × Nat) := [(⟨"TileDeskModel", "tries", "(III)V"⟩, 32), (⟨"TileDeskModel", "sumOf", "(I)I"⟩, 32), (⟨"TileDeskModel", "conditionsOfSeven", "()I"⟩, 32)]
theorem lw_r5 : ∀ q ∈ lw_privs_5, lw_okq q := List.forall_mem_cons.mpr ⟨lw_p64, List.forall_mem_cons.mpr ⟨lw_p65, List.forall_mem_cons.mpr ⟨lw_p66, fun _ h => absurd h List.not_mem_nil⟩⟩⟩
def lw_privs : List (MethodName × Nat) := lw_privs_1 ++ (lw_privs_2 ++ (lw_privs_3 ++ (lw_privs_4 ++ (lw_privs_5))))
def lw_tbl : List Cond := k2_sels lw_privs ++ tables_1
theorem lw_privs_ok : ∀ q ∈ lw_privs, lw_okq q := by
  show ∀ q ∈ lw_privs_1 ++ (lw_privs_2 ++ (lw_privs_3 ++ (lw_privs_4 ++ (lw_privs_5)))), lw_okq q
  exact List.forall_mem_append.mpr ⟨lw_r1, List.forall_mem_append.mpr ⟨lw_r2, List.forall_mem_append.mpr ⟨lw_r3, List.forall_mem_append.mpr ⟨lw_r4, lw_r5⟩⟩⟩⟩
-- ===== end of PART A; then your names; then what follows =====
/-! ===== BEGIN words of one list among another's, by their places ===== -/
theorem goodIn_r {big : List Cond} (ws : List Cond) (ps : List Nat) (hp : ws = ps.filterMap (fun i => big[i]?)) (h : ws.all goodWord = true) : GoodIn big ws := by
  intro w hw
  have h1 := List.all_eq_true.mp h w hw
  rw [hp] at hw
  obtain ⟨i, -, hi⟩ := List.mem_filterMap.mp hw
  have hm : w ∈ big := by first | exact List.mem_of_getElem? hi | exact List.getElem?_mem hi
  exact ⟨hm, good_of_word h1⟩
theorem goodIn_app {big a b : List Cond} (ha : GoodIn big a) (hb : GoodIn big b) : GoodIn big (a ++ b) := fun w h => (List.mem_append.mp h).elim (ha w) (hb w)
theorem goodIn_ca {big a b : List Cond} {c : Cond} (ha : GoodIn big (c :: a)) (hb : GoodIn big b) : GoodIn big (c :: (a ++ b)) := fun w h => (List.mem_cons.mp h).elim (fun e => ha w (List.mem_cons.mpr (Or.inl e))) (fun h => (List.mem_append.mp h).elim (fun h => ha w (List.mem_cons.mpr (Or.inr h))) (hb w))
theorem goodIn_sub {big ws : List Cond} (hm : ∀ w ∈ ws, w ∈ big) (h : ws.all goodWord = true) : GoodIn big ws := fun w hw => ⟨hm w hw, good_of_word (List.all_eq_true.mp h w hw)⟩
/-! ===== END ===== -/

/-! ===== BEGIN printed: names, fields, word lists, decode rows ===== -/
def RX0 : String := "TileDesk$Groups"
def TX0 : u_T := fun k => match k with
  | _ => ("", "", "", false)
def tyX0 : Nat → FieldType := fun k => match k with
  | _ => .int
abbrev wsX00 : List Cond := u_ws RX0 TX0 0
theorem nmX0 : ∀ a, a < 0 → ∀ b, b < 0 → a ≠ b → (TX0 a).2.1 ≠ (TX0 b).2.1 := by decide +kernel
theorem tyX0_ok : ∀ k, k < 0 → parseFieldDescriptor (TX0 k).2.2.1 = some (tyX0 k) := by decide +kernel
abbrev cX0_code : ByteArray := prog_2_method_2_code
def yX0_code : MethodName := ⟨RX0, "code", "(II)I"⟩
abbrev cX0_kindOf : ByteArray := prog_2_method_3_code
def yX0_kindOf : MethodName := ⟨RX0, "kindOf", "(I)I"⟩
abbrev cX0_sortOf : ByteArray := prog_2_method_4_code
def yX0_sortOf : MethodName := ⟨RX0, "sortOf", "(I)I"⟩
abbrev cX0_tilesAlike : ByteArray := prog_2_method_5_code
def yX0_tilesAlike : MethodName := ⟨RX0, "tilesAlike", "(I)I"⟩
abbrev cX0_hasOuter : ByteArray := prog_2_method_6_code
def yX0_hasOuter : MethodName := ⟨RX0, "hasOuter", "(I)Z"⟩
def RX1 : String := "TileDesk$Hand"
def TX1 : u_T := fun k => match k with
  | 0 => ("TileDesk$Hand", "held", "[I", true)
  | 1 => ("TileDesk$Hand", "laid", "[I", true)
  | 2 => ("TileDesk$Hand", "codes", "[I", true)
  | 3 => ("TileDesk$Hand", "tilesHeld", "I", false)
  | _ => ("TileDesk$Hand", "groups", "I", false)
def tyX1 : Nat → FieldType := fun k => match k with
  | 0 => .array .int
  | 1 => .array .int
  | 2 => .array .int
  | 3 => .int
  | _ => .int
abbrev wsX10 : List Cond := u_ws RX1 TX1 5
theorem nmX1 : ∀ a, a < 5 → ∀ b, b < 5 → a ≠ b → (TX1 a).2.1 ≠ (TX1 b).2.1 := by decide +kernel
theorem tyX1_ok : ∀ k, k < 5 → parseFieldDescriptor (TX1 k).2.2.1 = some (tyX1 k) := by decide +kernel
abbrev cX1_init : ByteArray := prog_3_method_1_code
def yX1_init : MethodName := ⟨RX1, "<init>", "()V"⟩
abbrev cX1_size : ByteArray := prog_3_method_2_code
def yX1_size : MethodName := ⟨RX1, "size", "()I"⟩
abbrev cX1_isFull : ByteArray := prog_3_method_3_code
def yX1_isFull : MethodName := ⟨RX1, "isFull", "()Z"⟩
abbrev cX1_rests : ByteArray := prog_3_method_4_code
def yX1_rests : MethodName := ⟨RX1, "rests", "()Z"⟩
abbrev cX1_gain : ByteArray := prog_3_method_5_code
def yX1_gain : MethodName := ⟨RX1, "gain", "(I)V"⟩
abbrev cX1_lose : ByteArray := prog_3_method_6_code
def yX1_lose : MethodName := ⟨RX1, "lose", "(I)V"⟩
abbrev cX1_canLay : ByteArray := prog_3_method_7_code
def yX1_canLay : MethodName := ⟨RX1, "canLay", "(II)Z"⟩
abbrev cX1_lay : ByteArray := prog_3_method_8_code
def yX1_lay : MethodName := ⟨RX1, "lay", "(II)V"⟩
abbrev cX1_giveBack : ByteArray := prog_3_method_9_code
def yX1_giveBack : MethodName := ⟨RX1, "giveBack", "([I)I"⟩
def RX2 : String := "TileDesk$Judge"
def TX2 : u_T := fun k => match k with
  | 0 => ("TileDesk$Judge", "ways", "LTileDesk$Ways;", true)
  | 1 => ("TileDesk$Judge", "rules", "LTileDesk$Rules;", true)
  | 2 => ("TileDesk$Judge", "others", "LTileDesk$Others;", true)
  | 3 => ("TileDesk$Judge", "sum", "I", false)
  | 4 => ("TileDesk$Judge", "source", "I", false)
  | _ => ("TileDesk$Judge", "conditions", "I", false)
def tyX2 : Nat → FieldType := fun k => match k with
  | 0 => .object "TileDesk$Ways"
  | 1 => .object "TileDesk$Rules"
  | 2 => .object "TileDesk$Others"
  | 3 => .int
  | 4 => .int
  | _ => .int
abbrev wsX20 : List Cond := u_ws RX2 TX2 6
theorem nmX2 : ∀ a, a < 6 → ∀ b, b < 6 → a ≠ b → (TX2 a).2.1 ≠ (TX2 b).2.1 := by decide +kernel
theorem tyX2_ok : ∀ k, k < 6 → parseFieldDescriptor (TX2 k).2.2.1 = some (tyX2 k) := by decide +kernel
abbrev cX2_init : ByteArray := prog_4_method_1_code
def yX2_init : MethodName := ⟨RX2, "<init>", "(LTileDesk$Others;)V"⟩
abbrev cX2_howDone : ByteArray := prog_4_method_2_code
def yX2_howDone : MethodName := ⟨RX2, "howDone", "(LTileDesk$Hand;)I"⟩
abbrev cX2_weigh : ByteArray := prog_4_method_3_code
def yX2_weigh : MethodName := ⟨RX2, "weigh", "(LTileDesk$Hand;)Z"⟩
abbrev cX2_consider : ByteArray := prog_4_method_4_code
def yX2_consider : MethodName := ⟨RX2, "consider", "(II)V"⟩
abbrev cX2_isSeven : ByteArray := prog_4_method_5_code
def yX2_isSeven : MethodName := ⟨RX2, "isSeven", "(LTileDesk$Hand;)Z"⟩
abbrev cX2_isOuterOnes : ByteArray := prog_4_method_6_code
def yX2_isOuterOnes : MethodName := ⟨RX2, "isOuterOnes", "(LTileDesk$Hand;)Z"⟩
abbrev cX2_conditionsOfSeven : ByteArray := prog_4_method_7_code
def yX2_conditionsOfSeven : MethodName := ⟨RX2, "conditionsOfSeven", "([I)I"⟩
def RX3 : String := "TileDesk$Lacks"
def TX3 : u_T := fun k => match k with
  | 0 => ("TileDesk$Lacks", "others", "LTileDesk$Others;", true)
  | 1 => ("TileDesk$Lacks", "held", "[I", true)
  | 2 => ("TileDesk$Lacks", "laid", "[I", true)
  | 3 => ("TileDesk$Lacks", "lanes", "[J", true)
  | 4 => ("TileDesk$Lacks", "now", "[J", true)
  | 5 => ("TileDesk$Lacks", "next", "[J", true)
  | 6 => ("TileDesk$Lacks", "sums", "[J", true)
  | 7 => ("TileDesk$Lacks", "keptKeys", "[J", true)
  | 8 => ("TileDesk$Lacks", "keptLanes", "[J", true)
  | 9 => ("TileDesk$Lacks", "limit", "I", false)
  | 10 => ("TileDesk$Lacks", "wanted", "I", false)
  | 11 => ("TileDesk$Lacks", "changing", "I", false)
  | 12 => ("TileDesk$Lacks", "lack", "I", false)
  | _ => ("TileDesk$Lacks", "helpers", "J", false)
def tyX3 : Nat → FieldType := fun k => match k with
  | 0 => .object "TileDesk$Others"
  | 1 => .array .int
  | 2 => .array .int
  | 3 => .array .long
  | 4 => .array .long
  | 5 => .array .long
  | 6 => .array .long
  | 7 => .array .long
  | 8 => .array .long
  | 9 => .int
  | 10 => .int
  | 11 => .int
  | 12 => .int
  | _ => .long
abbrev wsX30 : List Cond := u_ws RX3 TX3 14
theorem nmX3 : ∀ a, a < 14 → ∀ b, b < 14 → a ≠ b → (TX3 a).2.1 ≠ (TX3 b).2.1 := by decide +kernel
theorem tyX3_ok : ∀ k, k < 14 → parseFieldDescriptor (TX3 k).2.2.1 = some (tyX3 k) := by decide +kernel
abbrev cX3_init : ByteArray := prog_5_method_1_code
def yX3_init : MethodName := ⟨RX3, "<init>", "(LTileDesk$Others;)V"⟩
abbrev cX3_reckon : ByteArray := prog_5_method_2_code
def yX3_reckon : MethodName := ⟨RX3, "reckon", "(LTileDesk$Hand;I)V"⟩
abbrev cX3_change : ByteArray := prog_5_method_3_code
def yX3_change : MethodName := ⟨RX3, "change", "(II)V"⟩
abbrev cX3_ofRow : ByteArray := prog_5_method_4_code
def yX3_ofRow : MethodName := ⟨RX3, "ofRow", "(LTileDesk$Hand;III)I"⟩
abbrev cX3_look : ByteArray := prog_5_method_5_code
def yX3_look : MethodName := ⟨RX3, "look", "(LTileDesk$Hand;I)V"⟩
abbrev cX3_total : ByteArray := prog_5_method_6_code
def yX3_total : MethodName := ⟨RX3, "total", "()V"⟩
abbrev cX3_helper : ByteArray := prog_5_method_7_code
def yX3_helper : MethodName := ⟨RX3, "helper", "(I)I"⟩
abbrev cX3_helpingOf : ByteArray := prog_5_method_8_code
def yX3_helpingOf : MethodName := ⟨RX3, "helpingOf", "([I)I"⟩
abbrev cX3_isHelper : ByteArray := prog_5_method_9_code
def yX3_isHelper : MethodName := ⟨RX3, "isHelper", "(I)Z"⟩
abbrev cX3_offer : ByteArray := prog_5_method_10_code
def yX3_offer : MethodName := ⟨RX3, "offer", "(IJ)V"⟩
abbrev cX3_tilesOf : ByteArray := prog_5_method_11_code
def yX3_tilesOf : MethodName := ⟨RX3, "tilesOf", "(J)I"⟩
abbrev cX3_less : ByteArray := prog_5_method_12_code
def yX3_less : MethodName := ⟨RX3, "less", "(JJ)J"⟩
abbrev cX3_addAllBut : ByteArray := prog_5_method_13_code
def yX3_addAllBut : MethodName := ⟨RX3, "addAllBut", "(I)V"⟩
abbrev cX3_addRow : ByteArray := prog_5_method_14_code
def yX3_addRow : MethodName := ⟨RX3, "addRow", "(I)V"⟩
abbrev cX3_leastWith : ByteArray := prog_5_method_15_code
def yX3_leastWith : MethodName := ⟨RX3, "leastWith", "(II)J"⟩
abbrev cX3_workOut : ByteArray := prog_5_method_16_code
def yX3_workOut : MethodName := ⟨RX3, "workOut", "(I)V"⟩
abbrev cX3_keyOf : ByteArray := prog_5_method_17_code
def yX3_keyOf : MethodName := ⟨RX3, "keyOf", "(I)J"⟩
abbrev cX3_goThrough : ByteArray := prog_5_method_18_code
def yX3_goThrough : MethodName := ⟨RX3, "goThrough", "(I)V"⟩
abbrev cX3_spread : ByteArray := prog_5_method_19_code
def yX3_spread : MethodName := ⟨RX3, "spread", "(IIJI)V"⟩
def RX4 : String := "TileDesk$Others"
def TX4 : u_T := fun k => match k with
  | 0 => ("TileDesk$Others", "sevenCounts", "Z", false)
  | _ => ("TileDesk$Others", "outerCounts", "Z", false)
def tyX4 : Nat → FieldType := fun k => match k with
  | 0 => .boolean
  | _ => .boolean
abbrev wsX40 : List Cond := u_ws RX4 TX4 2
theorem nmX4 : ∀ a, a < 2 → ∀ b, b < 2 → a ≠ b → (TX4 a).2.1 ≠ (TX4 b).2.1 := by decide +kernel
theorem tyX4_ok : ∀ k, k < 2 → parseFieldDescriptor (TX4 k).2.2.1 = some (tyX4 k) := by decide +kernel
abbrev cX4_init : ByteArray := prog_6_method_1_code
def yX4_init : MethodName := ⟨RX4, "<init>", "()V"⟩
abbrev cX4_lackOfSeven : ByteArray := prog_6_method_2_code
def yX4_lackOfSeven : MethodName := ⟨RX4, "lackOfSeven", "([I)I"⟩
abbrev cX4_helpersOfSeven : ByteArray := prog_6_method_3_code
def yX4_helpersOfSeven : MethodName := ⟨RX4, "helpersOfSeven", "([I)J"⟩
abbrev cX4_lackOfOuter : ByteArray := prog_6_method_4_code
def yX4_lackOfOuter : MethodName := ⟨RX4, "lackOfOuter", "([I)I"⟩
abbrev cX4_helpersOfOuter : ByteArray := prog_6_method_5_code
def yX4_helpersOfOuter : MethodName := ⟨RX4, "helpersOfOuter", "([I)J"⟩
abbrev cX4_hasOuterPair : ByteArray := prog_6_method_6_code
def yX4_hasOuterPair : MethodName := ⟨RX4, "hasOuterPair", "([I)Z"⟩
def RX5 : String := "TileDesk$Rack"
def TX5 : u_T := fun k => match k with
  | 0 => ("TileDesk$Rack", "cells", "[I", true)
  | 1 => ("TileDesk$Rack", "kind", "I", false)
  | _ => ("TileDesk$Rack", "length", "I", false)
def tyX5 : Nat → FieldType := fun k => match k with
  | 0 => .array .int
  | 1 => .int
  | _ => .int
abbrev wsX50 : List Cond := u_ws RX5 TX5 3
theorem nmX5 : ∀ a, a < 3 → ∀ b, b < 3 → a ≠ b → (TX5 a).2.1 ≠ (TX5 b).2.1 := by decide +kernel
theorem tyX5_ok : ∀ k, k < 3 → parseFieldDescriptor (TX5 k).2.2.1 = some (tyX5 k) := by decide +kernel
abbrev cX5_init : ByteArray := prog_7_method_1_code
def yX5_init : MethodName := ⟨RX5, "<init>", "()V"⟩
abbrev cX5_become : ByteArray := prog_7_method_2_code
def yX5_become : MethodName := ⟨RX5, "become", "(II)V"⟩
abbrev cX5_isMissing : ByteArray := prog_7_method_3_code
def yX5_isMissing : MethodName := ⟨RX5, "isMissing", "()Z"⟩
abbrev cX5_reaches : ByteArray := prog_7_method_4_code
def yX5_reaches : MethodName := ⟨RX5, "reaches", "(II)Z"⟩
abbrev cX5_keep : ByteArray := prog_7_method_5_code
def yX5_keep : MethodName := ⟨RX5, "keep", "(II)I"⟩
def RX6 : String := "TileDesk$Rules"
def TX6 : u_T := fun k => match k with
  | 0 => ("TileDesk$Rules", "conditions", "[I", true)
  | 1 => ("TileDesk$Rules", "points", "[I", true)
  | 2 => ("TileDesk$Rules", "outs", "[I", true)
  | _ => ("TileDesk$Rules", "size", "I", false)
def tyX6 : Nat → FieldType := fun k => match k with
  | 0 => .array .int
  | 1 => .array .int
  | 2 => .array .int
  | _ => .int
abbrev wsX60 : List Cond := u_ws RX6 TX6 4
theorem nmX6 : ∀ a, a < 4 → ∀ b, b < 4 → a ≠ b → (TX6 a).2.1 ≠ (TX6 b).2.1 := by decide +kernel
theorem tyX6_ok : ∀ k, k < 4 → parseFieldDescriptor (TX6 k).2.2.1 = some (tyX6 k) := by decide +kernel
abbrev cX6_init : ByteArray := prog_8_method_1_code
def yX6_init : MethodName := ⟨RX6, "<init>", "()V"⟩
abbrev cX6_isCondition : ByteArray := prog_8_method_2_code
def yX6_isCondition : MethodName := ⟨RX6, "isCondition", "(I)Z"⟩
abbrev cX6_bit : ByteArray := prog_8_method_3_code
def yX6_bit : MethodName := ⟨RX6, "bit", "(IZ)I"⟩
abbrev cX6_isIn : ByteArray := prog_8_method_4_code
def yX6_isIn : MethodName := ⟨RX6, "isIn", "(II)Z"⟩
abbrev cX6_add : ByteArray := prog_8_method_5_code
def yX6_add : MethodName := ⟨RX6, "add", "(III)I"⟩
abbrev cX6_sumOf : ByteArray := prog_8_method_6_code
def yX6_sumOf : MethodName := ⟨RX6, "sumOf", "(I)I"⟩
abbrev cX6_isPutOut : ByteArray := prog_8_method_7_code
def yX6_isPutOut : MethodName := ⟨RX6, "isPutOut", "(II)Z"⟩
def RX7 : String := "TileDesk$Shapes"
def TX7 : u_T := fun k => match k with
  | _ => ("", "", "", false)
def tyX7 : Nat → FieldType := fun k => match k with
  | _ => .int
abbrev wsX70 : List Cond := u_ws RX7 TX7 0
theorem nmX7 : ∀ a, a < 0 → ∀ b, b < 0 → a ≠ b → (TX7 a).2.1 ≠ (TX7 b).2.1 := by decide +kernel
theorem tyX7_ok : ∀ k, k < 0 → parseFieldDescriptor (TX7 k).2.2.1 = some (tyX7 k) := by decide +kernel
abbrev cX7_same : ByteArray := prog_9_method_2_code
def yX7_same : MethodName := ⟨RX7, "same", "([I[I)Z"⟩
abbrev cX7_rowKey : ByteArray := prog_9_method_3_code
def yX7_rowKey : MethodName := ⟨RX7, "rowKey", "([II)I"⟩
abbrev cX7_lastRowKey : ByteArray := prog_9_method_4_code
def yX7_lastRowKey : MethodName := ⟨RX7, "lastRowKey", "([I)I"⟩
def RX8 : String := "TileDesk$Sorts"
def TX8 : u_T := fun k => match k with
  | _ => ("", "", "", false)
def tyX8 : Nat → FieldType := fun k => match k with
  | _ => .int
abbrev wsX80 : List Cond := u_ws RX8 TX8 0
theorem nmX8 : ∀ a, a < 0 → ∀ b, b < 0 → a ≠ b → (TX8 a).2.1 ≠ (TX8 b).2.1 := by decide +kernel
theorem tyX8_ok : ∀ k, k < 0 → parseFieldDescriptor (TX8 k).2.2.1 = some (tyX8 k) := by decide +kernel
abbrev cX8_isSort : ByteArray := prog_10_method_2_code
def yX8_isSort : MethodName := ⟨RX8, "isSort", "(I)Z"⟩
abbrev cX8_rowOf : ByteArray := prog_10_method_3_code
def yX8_rowOf : MethodName := ⟨RX8, "rowOf", "(I)I"⟩
abbrev cX8_lengthOf : ByteArray := prog_10_method_4_code
def yX8_lengthOf : MethodName := ⟨RX8, "lengthOf", "(I)I"⟩
abbrev cX8_startsRun : ByteArray := prog_10_method_5_code
def yX8_startsRun : MethodName := ⟨RX8, "startsRun", "(I)Z"⟩
abbrev cX8_isOuter : ByteArray := prog_10_method_6_code
def yX8_isOuter : MethodName := ⟨RX8, "isOuter", "(I)Z"⟩
abbrev cX8_sum : ByteArray := prog_10_method_7_code
def yX8_sum : MethodName := ⟨RX8, "sum", "([I)I"⟩
def RX9 : String := "TileDesk$Ways"
def TX9 : u_T := fun k => match k with
  | 0 => ("TileDesk$Ways", "left", "[I", true)
  | 1 => ("TileDesk$Ways", "path", "[I", true)
  | 2 => ("TileDesk$Ways", "codes", "[I", true)
  | 3 => ("TileDesk$Ways", "wanted", "I", false)
  | _ => ("TileDesk$Ways", "size", "I", false)
def tyX9 : Nat → FieldType := fun k => match k with
  | 0 => .array .int
  | 1 => .array .int
  | 2 => .array .int
  | 3 => .int
  | _ => .int
abbrev wsX90 : List Cond := u_ws RX9 TX9 5
theorem nmX9 : ∀ a, a < 5 → ∀ b, b < 5 → a ≠ b → (TX9 a).2.1 ≠ (TX9 b).2.1 := by decide +kernel
theorem tyX9_ok : ∀ k, k < 5 → parseFieldDescriptor (TX9 k).2.2.1 = some (tyX9 k) := by decide +kernel
abbrev cX9_init : ByteArray := prog_11_method_1_code
def yX9_init : MethodName := ⟨RX9, "<init>", "()V"⟩
abbrev cX9_find : ByteArray := prog_11_method_2_code
def yX9_find : MethodName := ⟨RX9, "find", "(LTileDesk$Hand;)V"⟩
abbrev cX9_seek : ByteArray := prog_11_method_3_code
def yX9_seek : MethodName := ⟨RX9, "seek", "(LTileDesk$Ways;III)V"⟩
abbrev cX9_shiftRun : ByteArray := prog_11_method_4_code
def yX9_shiftRun : MethodName := ⟨RX9, "shiftRun", "(II)V"⟩
abbrev cX9_keepPath : ByteArray := prog_11_method_5_code
def yX9_keepPath : MethodName := ⟨RX9, "keepPath", "()V"⟩
abbrev cX9_codeAt : ByteArray := prog_11_method_6_code
def yX9_codeAt : MethodName := ⟨RX9, "codeAt", "(II)I"⟩
abbrev cX9_conditionsOf : ByteArray := prog_11_method_7_code
def yX9_conditionsOf : MethodName := ⟨RX9, "conditionsOf", "(I)I"⟩
abbrev cX9_stoodAhead : ByteArray := prog_11_method_8_code
def yX9_stoodAhead : MethodName := ⟨RX9, "stoodAhead", "(II)Z"⟩
def RX10 : String := "TileDesk"
def TX10 : u_T := fun k => match k with
  | 0 => ("TileDesk", "racks", "[LTileDesk$Rack;", true)
  | 1 => ("TileDesk", "hands", "[LTileDesk$Hand;", true)
  | 2 => ("TileDesk", "wall", "[I", true)
  | 3 => ("TileDesk", "thrown", "[I", true)
  | 4 => ("TileDesk", "hidden", "[I", true)
  | 5 => ("TileDesk", "others", "LTileDesk$Others;", true)
  | 6 => ("TileDesk", "lacks", "LTileDesk$Lacks;", true)
  | 7 => ("TileDesk", "judge", "LTileDesk$Judge;", true)
  | _ => ("TileDesk", "seedNow", "I", false)
def tyX10 : Nat → FieldType := fun k => match k with
  | 0 => .array (.object "TileDesk$Rack")
  | 1 => .array (.object "TileDesk$Hand")
  | 2 => .array .int
  | 3 => .array .int
  | 4 => .array .int
  | 5 => .object "TileDesk$Others"
  | 6 => .object "TileDesk$Lacks"
  | 7 => .object "TileDesk$Judge"
  | _ => .int
abbrev wsX100 : List Cond := u_ws RX10 TX10 9
theorem nmX10 : ∀ a, a < 9 → ∀ b, b < 9 → a ≠ b → (TX10 a).2.1 ≠ (TX10 b).2.1 := by decide +kernel
theorem tyX10_ok : ∀ k, k < 9 → parseFieldDescriptor (TX10 k).2.2.1 = some (tyX10 k) := by decide +kernel
abbrev cX10_init : ByteArray := prog_1_method_1_code
def yX10_init : MethodName := ⟨RX10, "<init>", "()V"⟩
abbrev cX10_rack : ByteArray := prog_1_method_2_code
def yX10_rack : MethodName := ⟨RX10, "rack", "(III)I"⟩
abbrev cX10_place : ByteArray := prog_1_method_3_code
def yX10_place : MethodName := ⟨RX10, "place", "(III)I"⟩
abbrev cX10_copy : ByteArray := prog_1_method_4_code
def yX10_copy : MethodName := ⟨RX10, "copy", "(IIIII)I"⟩
abbrev cX10_told : ByteArray := prog_1_method_5_code
def yX10_told : MethodName := ⟨RX10, "told", "(II)I"⟩
abbrev cX10_read : ByteArray := prog_1_method_6_code
def yX10_read : MethodName := ⟨RX10, "read", "(IIII)I"⟩
abbrev cX10_take : ByteArray := prog_1_method_7_code
def yX10_take : MethodName := ⟨RX10, "take", "(II)I"⟩
abbrev cX10_seed : ByteArray := prog_1_method_8_code
def yX10_seed : MethodName := ⟨RX10, "seed", "(I)I"⟩
abbrev cX10_draw : ByteArray := prog_1_method_9_code
def yX10_draw : MethodName := ⟨RX10, "draw", "(I)I"⟩
abbrev cX10_deal : ByteArray := prog_1_method_10_code
def yX10_deal : MethodName := ⟨RX10, "deal", "(I)I"⟩
abbrev cX10_discard : ByteArray := prog_1_method_11_code
def yX10_discard : MethodName := ⟨RX10, "discard", "(II)I"⟩
abbrev cX10_open : ByteArray := prog_1_method_12_code
def yX10_open : MethodName := ⟨RX10, "open", "(III)I"⟩
abbrev cX10_clear : ByteArray := prog_1_method_13_code
def yX10_clear : MethodName := ⟨RX10, "clear", "(I)I"⟩
abbrev cX10_tiles : ByteArray := prog_1_method_14_code
def yX10_tiles : MethodName := ⟨RX10, "tiles", "(II)I"⟩
abbrev cX10_about : ByteArray := prog_1_method_15_code
def yX10_about : MethodName := ⟨RX10, "about", "(II)I"⟩
abbrev cX10_count : ByteArray := prog_1_method_16_code
def yX10_count : MethodName := ⟨RX10, "count", "(IZ)I"⟩
abbrev cX10_done : ByteArray := prog_1_method_17_code
def yX10_done : MethodName := ⟨RX10, "done", "(I)I"⟩
abbrev cX10_ways : ByteArray := prog_1_method_18_code
def yX10_ways : MethodName := ⟨RX10, "ways", "(I)I"⟩
abbrev cX10_way : ByteArray := prog_1_method_19_code
def yX10_way : MethodName := ⟨RX10, "way", "(III)I"⟩
abbrev cX10_distance : ByteArray := prog_1_method_20_code
def yX10_distance : MethodName := ⟨RX10, "distance", "(I)I"⟩
abbrev cX10_waits : ByteArray := prog_1_method_21_code
def yX10_waits : MethodName := ⟨RX10, "waits", "(II)I"⟩
abbrev cX10_helps : ByteArray := prog_1_method_22_code
def yX10_helps : MethodName := ⟨RX10, "helps", "(II)I"⟩
abbrev cX10_without : ByteArray := prog_1_method_23_code
def yX10_without : MethodName := ⟨RX10, "without", "(II)I"⟩
abbrev cX10_more : ByteArray := prog_1_method_24_code
def yX10_more : MethodName := ⟨RX10, "more", "(II)I"⟩
abbrev cX10_best : ByteArray := prog_1_method_25_code
def yX10_best : MethodName := ⟨RX10, "best", "(I)I"⟩
abbrev cX10_lack : ByteArray := prog_1_method_26_code
def yX10_lack : MethodName := ⟨RX10, "lack", "(IIII)I"⟩
abbrev cX10_odds : ByteArray := prog_1_method_27_code
def yX10_odds : MethodName := ⟨RX10, "odds", "(II)I"⟩
abbrev cX10_unseen : ByteArray := prog_1_method_28_code
def yX10_unseen : MethodName := ⟨RX10, "unseen", "(I)I"⟩
abbrev cX10_alike : ByteArray := prog_1_method_29_code
def yX10_alike : MethodName := ⟨RX10, "alike", "(II)I"⟩
abbrev cX10_rule : ByteArray := prog_1_method_30_code
def yX10_rule : MethodName := ⟨RX10, "rule", "(III)I"⟩
abbrev cX10_clearRules : ByteArray := prog_1_method_31_code
def yX10_clearRules : MethodName := ⟨RX10, "clearRules", "()I"⟩
abbrev cX10_worth : ByteArray := prog_1_method_32_code
def yX10_worth : MethodName := ⟨RX10, "worth", "(I)I"⟩
abbrev cX10_by : ByteArray := prog_1_method_33_code
def yX10_by : MethodName := ⟨RX10, "by", "(I)I"⟩
abbrev cX10_holds : ByteArray := prog_1_method_34_code
def yX10_holds : MethodName := ⟨RX10, "holds", "(II)I"⟩
abbrev cX10_isRack : ByteArray := prog_1_method_35_code
def yX10_isRack : MethodName := ⟨RX10, "isRack", "(I)Z"⟩
abbrev cX10_isHand : ByteArray := prog_1_method_36_code
def yX10_isHand : MethodName := ⟨RX10, "isHand", "(I)Z"⟩
abbrev cX10_refusalOfPlace : ByteArray := prog_1_method_37_code
def yX10_refusalOfPlace : MethodName := ⟨RX10, "refusalOfPlace", "(II)I"⟩
abbrev cX10_refusalOfThrow : ByteArray := prog_1_method_38_code
def yX10_refusalOfThrow : MethodName := ⟨RX10, "refusalOfThrow", "(II)I"⟩
abbrev cX10_readAll : ByteArray := prog_1_method_39_code
def yX10_readAll : MethodName := ⟨RX10, "readAll", "(LTileDesk$Hand;LTileDesk$Rack;II)I"⟩
abbrev cX10_unread : ByteArray := prog_1_method_40_code
def yX10_unread : MethodName := ⟨RX10, "unread", "(LTileDesk$Hand;LTileDesk$Rack;II)V"⟩
abbrev cX10_drawNext : ByteArray := prog_1_method_41_code
def yX10_drawNext : MethodName := ⟨RX10, "drawNext", "(LTileDesk$Hand;)I"⟩
abbrev cX10_countHidden : ByteArray := prog_1_method_42_code
def yX10_countHidden : MethodName := ⟨RX10, "countHidden", "(LTileDesk$Hand;)I"⟩
abbrev cX10_reckonWithout : ByteArray := prog_1_method_43_code
def yX10_reckonWithout : MethodName := ⟨RX10, "reckonWithout", "(LTileDesk$Hand;I)V"⟩
abbrev cX10_bestThrow : ByteArray := prog_1_method_44_code
def yX10_bestThrow : MethodName := ⟨RX10, "bestThrow", "(LTileDesk$Hand;)I"⟩
abbrev cX10_secondTiles : ByteArray := prog_1_method_45_code
def yX10_secondTiles : MethodName := ⟨RX10, "secondTiles", "(I)I"⟩
def RX11 : String := "TileDeskModel"
def TX11 : u_T := fun k => match k with
  | 0 => ("TileDeskModel", "wall", "[I", true)
  | 1 => ("TileDeskModel", "thrown", "[I", true)
  | 2 => ("TileDeskModel", "held", "[I", true)
  | 3 => ("TileDeskModel", "laid", "[I", true)
  | 4 => ("TileDeskModel", "groupMany", "[I", true)
  | 5 => ("TileDeskModel", "groupCode", "[I", true)
  | 6 => ("TileDeskModel", "seed", "J", false)
  | 7 => ("TileDeskModel", "rackKind", "[I", true)
  | 8 => ("TileDeskModel", "rackSize", "[I", true)
  | 9 => ("TileDeskModel", "racks", "[I", true)
  | 10 => ("TileDeskModel", "seven", "Z", false)
  | 11 => ("TileDeskModel", "outer", "Z", false)
  | 12 => ("TileDeskModel", "rules", "I", false)
  | 13 => ("TileDeskModel", "ruleOf", "[I", true)
  | 14 => ("TileDeskModel", "rulePoints", "[I", true)
  | 15 => ("TileDeskModel", "ruleOut", "[I", true)
  | 16 => ("TileDeskModel", "middle", "[I", true)
  | 17 => ("TileDeskModel", "wanted", "[I", true)
  | 18 => ("TileDeskModel", "hand", "[I", true)
  | 19 => ("TileDeskModel", "beside", "[I", true)
  | 20 => ("TileDeskModel", "opens", "I", false)
  | 21 => ("TileDeskModel", "left", "[I", true)
  | 22 => ("TileDeskModel", "codes", "[I", true)
  | 23 => ("TileDeskModel", "now", "[I", true)
  | 24 => ("TileDeskModel", "then", "[I", true)
  | 25 => ("TileDeskModel", "lacks", "[I", true)
  | 26 => ("TileDeskModel", "isHelp", "[Z", true)
  | 27 => ("TileDeskModel", "lackNow", "I", false)
  | 28 => ("TileDeskModel", "unseen", "[I", true)
  | 29 => ("TileDeskModel", "worthBy", "I", false)
  | 30 => ("TileDeskModel", "worthBits", "I", false)
  | _ => ("TileDeskModel", "worthMost", "I", false)
def tyX11 : Nat → FieldType := fun k => match k with
  | 0 => .array .int
  | 1 => .array .int
  | 2 => .array .int
  | 3 => .array .int
  | 4 => .array .int
  | 5 => .array .int
  | 6 => .long
  | 7 => .array .int
  | 8 => .array .int
  | 9 => .array .int
  | 10 => .boolean
  | 11 => .boolean
  | 12 => .int
  | 13 => .array .int
  | 14 => .array .int
  | 15 => .array .int
  | 16 => .array .int
  | 17 => .array .int
  | 18 => .array .int
  | 19 => .array .int
  | 20 => .int
  | 21 => .array .int
  | 22 => .array .int
  | 23 => .array .int
  | 24 => .array .int
  | 25 => .array .int
  | 26 => .array .boolean
  | 27 => .int
  | 28 => .array .int
  | 29 => .int
  | 30 => .int
  | _ => .int
abbrev wsX110 : List Cond := u_ws RX11 TX11 32
theorem nmX11 : ∀ a, a < 32 → ∀ b, b < 32 → a ≠ b → (TX11 a).2.1 ≠ (TX11 b).2.1 := by decide +kernel
theorem tyX11_ok : ∀ k, k < 32 → parseFieldDescriptor (TX11 k).2.2.1 = some (tyX11 k) := by decide +kernel
abbrev cX11_init : ByteArray := prog_13_method_1_code
def yX11_init : MethodName := ⟨RX11, "<init>", "()V"⟩
abbrev cX11_in : ByteArray := prog_13_method_2_code
def yX11_in : MethodName := ⟨RX11, "in", "(JJJ)Z"⟩
abbrev cX11_isHand : ByteArray := prog_13_method_3_code
def yX11_isHand : MethodName := ⟨RX11, "isHand", "(I)Z"⟩
abbrev cX11_isSort : ByteArray := prog_13_method_4_code
def yX11_isSort : MethodName := ⟨RX11, "isSort", "(I)Z"⟩
abbrev cX11_isRack : ByteArray := prog_13_method_5_code
def yX11_isRack : MethodName := ⟨RX11, "isRack", "(I)Z"⟩
abbrev cX11_rack : ByteArray := prog_13_method_6_code
def yX11_rack : MethodName := ⟨RX11, "rack", "(III)I"⟩
abbrev cX11_cut : ByteArray := prog_13_method_7_code
def yX11_cut : MethodName := ⟨RX11, "cut", "(II)I"⟩
abbrev cX11_place : ByteArray := prog_13_method_8_code
def yX11_place : MethodName := ⟨RX11, "place", "(III)I"⟩
abbrev cX11_copy : ByteArray := prog_13_method_9_code
def yX11_copy : MethodName := ⟨RX11, "copy", "(IIIII)I"⟩
abbrev cX11_told : ByteArray := prog_13_method_10_code
def yX11_told : MethodName := ⟨RX11, "told", "(II)I"⟩
abbrev cX11_heldMany : ByteArray := prog_13_method_11_code
def yX11_heldMany : MethodName := ⟨RX11, "heldMany", "(I)I"⟩
abbrev cX11_sizeOf : ByteArray := prog_13_method_12_code
def yX11_sizeOf : MethodName := ⟨RX11, "sizeOf", "(I)I"⟩
abbrev cX11_read : ByteArray := prog_13_method_13_code
def yX11_read : MethodName := ⟨RX11, "read", "(IIII)I"⟩
abbrev cX11_take : ByteArray := prog_13_method_14_code
def yX11_take : MethodName := ⟨RX11, "take", "(II)I"⟩
abbrev cX11_seed : ByteArray := prog_13_method_15_code
def yX11_seed : MethodName := ⟨RX11, "seed", "(I)I"⟩
abbrev cX11_wallMany : ByteArray := prog_13_method_16_code
def yX11_wallMany : MethodName := ⟨RX11, "wallMany", "()I"⟩
abbrev cX11_drawn : ByteArray := prog_13_method_17_code
def yX11_drawn : MethodName := ⟨RX11, "drawn", "(I)I"⟩
abbrev cX11_draw : ByteArray := prog_13_method_18_code
def yX11_draw : MethodName := ⟨RX11, "draw", "(I)I"⟩
abbrev cX11_gather : ByteArray := prog_13_method_19_code
def yX11_gather : MethodName := ⟨RX11, "gather", "(I)I"⟩
abbrev cX11_deal : ByteArray := prog_13_method_20_code
def yX11_deal : MethodName := ⟨RX11, "deal", "(I)I"⟩
abbrev cX11_discard : ByteArray := prog_13_method_21_code
def yX11_discard : MethodName := ⟨RX11, "discard", "(II)I"⟩
abbrev cX11_begins : ByteArray := prog_13_method_22_code
def yX11_begins : MethodName := ⟨RX11, "begins", "(I)Z"⟩
abbrev cX11_within : ByteArray := prog_13_method_23_code
def yX11_within : MethodName := ⟨RX11, "within", "(II)I"⟩
abbrev cX11_open : ByteArray := prog_13_method_24_code
def yX11_open : MethodName := ⟨RX11, "open", "(III)I"⟩
abbrev cX11_clear : ByteArray := prog_13_method_25_code
def yX11_clear : MethodName := ⟨RX11, "clear", "(I)I"⟩
abbrev cX11_tiles : ByteArray := prog_13_method_26_code
def yX11_tiles : MethodName := ⟨RX11, "tiles", "(II)I"⟩
abbrev cX11_about : ByteArray := prog_13_method_27_code
def yX11_about : MethodName := ⟨RX11, "about", "(II)I"⟩
abbrev cX11_count : ByteArray := prog_13_method_28_code
def yX11_count : MethodName := ⟨RX11, "count", "(IZ)I"⟩
abbrev cX11_look : ByteArray := prog_13_method_29_code
def yX11_look : MethodName := ⟨RX11, "look", "(I)V"⟩
abbrev cX11_isOuter : ByteArray := prog_13_method_30_code
def yX11_isOuter : MethodName := ⟨RX11, "isOuter", "(I)Z"⟩
abbrev cX11_isSeven : ByteArray := prog_13_method_31_code
def yX11_isSeven : MethodName := ⟨RX11, "isSeven", "()Z"⟩
abbrev cX11_isOuterHand : ByteArray := prog_13_method_32_code
def yX11_isOuterHand : MethodName := ⟨RX11, "isOuterHand", "()Z"⟩
abbrev cX11_isWay : ByteArray := prog_13_method_33_code
def yX11_isWay : MethodName := ⟨RX11, "isWay", "(II)Z"⟩
abbrev cX11_mayBe : ByteArray := prog_13_method_34_code
def yX11_mayBe : MethodName := ⟨RX11, "mayBe", "(I)Z"⟩
abbrev cX11_findWay : ByteArray := prog_13_method_35_code
def yX11_findWay : MethodName := ⟨RX11, "findWay", "(I)I"⟩
abbrev cX11_isFull : ByteArray := prog_13_method_36_code
def yX11_isFull : MethodName := ⟨RX11, "isFull", "(I)Z"⟩
abbrev cX11_doneBy : ByteArray := prog_13_method_37_code
def yX11_doneBy : MethodName := ⟨RX11, "doneBy", "()I"⟩
abbrev cX11_done : ByteArray := prog_13_method_38_code
def yX11_done : MethodName := ⟨RX11, "done", "(I)I"⟩
abbrev cX11_ways : ByteArray := prog_13_method_39_code
def yX11_ways : MethodName := ⟨RX11, "ways", "(I)I"⟩
abbrev cX11_addOpen : ByteArray := prog_13_method_40_code
def yX11_addOpen : MethodName := ⟨RX11, "addOpen", "(I)V"⟩
abbrev cX11_way : ByteArray := prog_13_method_41_code
def yX11_way : MethodName := ⟨RX11, "way", "(III)I"⟩
abbrev cX11_better : ByteArray := prog_13_method_42_code
def yX11_better : MethodName := ⟨RX11, "better", "(II)V"⟩
abbrev cX11_move : ByteArray := prog_13_method_43_code
def yX11_move : MethodName := ⟨RX11, "move", "()V"⟩
abbrev cX11_step : ByteArray := prog_13_method_44_code
def yX11_step : MethodName := ⟨RX11, "step", "(IIIIIII)V"⟩
abbrev cX11_layLacks : ByteArray := prog_13_method_45_code
def yX11_layLacks : MethodName := ⟨RX11, "layLacks", "(I)V"⟩
abbrev cX11_layAll : ByteArray := prog_13_method_46_code
def yX11_layAll : MethodName := ⟨RX11, "layAll", "()V"⟩
abbrev cX11_lackByWay : ByteArray := prog_13_method_47_code
def yX11_lackByWay : MethodName := ⟨RX11, "lackByWay", "()I"⟩
abbrev cX11_lackOfSeven : ByteArray := prog_13_method_48_code
def yX11_lackOfSeven : MethodName := ⟨RX11, "lackOfSeven", "()I"⟩
abbrev cX11_lackOfOuter : ByteArray := prog_13_method_49_code
def yX11_lackOfOuter : MethodName := ⟨RX11, "lackOfOuter", "()I"⟩
abbrev cX11_lackOf : ByteArray := prog_13_method_50_code
def yX11_lackOf : MethodName := ⟨RX11, "lackOf", "()I"⟩
abbrev cX11_rowOf : ByteArray := prog_13_method_51_code
def yX11_rowOf : MethodName := ⟨RX11, "rowOf", "(I)I"⟩
abbrev cX11_change : ByteArray := prog_13_method_52_code
def yX11_change : MethodName := ⟨RX11, "change", "(II)V"⟩
abbrev cX11_distanceOf : ByteArray := prog_13_method_53_code
def yX11_distanceOf : MethodName := ⟨RX11, "distanceOf", "(I)I"⟩
abbrev cX11_distance : ByteArray := prog_13_method_54_code
def yX11_distance : MethodName := ⟨RX11, "distance", "(I)I"⟩
abbrev cX11_layHelps : ByteArray := prog_13_method_55_code
def yX11_layHelps : MethodName := ⟨RX11, "layHelps", "()V"⟩
abbrev cX11_helpAt : ByteArray := prog_13_method_56_code
def yX11_helpAt : MethodName := ⟨RX11, "helpAt", "(I)I"⟩
abbrev cX11_helped : ByteArray := prog_13_method_57_code
def yX11_helped : MethodName := ⟨RX11, "helped", "(IIZ)I"⟩
abbrev cX11_waits : ByteArray := prog_13_method_58_code
def yX11_waits : MethodName := ⟨RX11, "waits", "(II)I"⟩
abbrev cX11_helps : ByteArray := prog_13_method_59_code
def yX11_helps : MethodName := ⟨RX11, "helps", "(II)I"⟩
abbrev cX11_layUnseen : ByteArray := prog_13_method_60_code
def yX11_layUnseen : MethodName := ⟨RX11, "layUnseen", "(I)I"⟩
abbrev cX11_against : ByteArray := prog_13_method_61_code
def yX11_against : MethodName := ⟨RX11, "against", "(II)I"⟩
abbrev cX11_without : ByteArray := prog_13_method_62_code
def yX11_without : MethodName := ⟨RX11, "without", "(II)I"⟩
abbrev cX11_helping : ByteArray := prog_13_method_63_code
def yX11_helping : MethodName := ⟨RX11, "helping", "()I"⟩
abbrev cX11_more : ByteArray := prog_13_method_64_code
def yX11_more : MethodName := ⟨RX11, "more", "(II)I"⟩
abbrev cX11_best : ByteArray := prog_13_method_65_code
def yX11_best : MethodName := ⟨RX11, "best", "(I)I"⟩
abbrev cX11_lack : ByteArray := prog_13_method_66_code
def yX11_lack : MethodName := ⟨RX11, "lack", "(IIII)I"⟩
abbrev cX11_making : ByteArray := prog_13_method_67_code
def yX11_making : MethodName := ⟨RX11, "making", "()I"⟩
abbrev cX11_makingBest : ByteArray := prog_13_method_68_code
def yX11_makingBest : MethodName := ⟨RX11, "makingBest", "()I"⟩
abbrev cX11_odds : ByteArray := prog_13_method_69_code
def yX11_odds : MethodName := ⟨RX11, "odds", "(II)I"⟩
abbrev cX11_unseen : ByteArray := prog_13_method_70_code
def yX11_unseen : MethodName := ⟨RX11, "unseen", "(I)I"⟩
abbrev cX11_isRow : ByteArray := prog_13_method_71_code
def yX11_isRow : MethodName := ⟨RX11, "isRow", "(IIIIZ)Z"⟩
abbrev cX11_areRows : ByteArray := prog_13_method_72_code
def yX11_areRows : MethodName := ⟨RX11, "areRows", "(IIII)Z"⟩
abbrev cX11_alike : ByteArray := prog_13_method_73_code
def yX11_alike : MethodName := ⟨RX11, "alike", "(II)I"⟩
abbrev cX11_rule : ByteArray := prog_13_method_74_code
def yX11_rule : MethodName := ⟨RX11, "rule", "(III)I"⟩
abbrev cX11_clearRules : ByteArray := prog_13_method_75_code
def yX11_clearRules : MethodName := ⟨RX11, "clearRules", "()I"⟩
abbrev cX11_hasOuter : ByteArray := prog_13_method_76_code
def yX11_hasOuter : MethodName := ⟨RX11, "hasOuter", "(I)Z"⟩
abbrev cX11_isOneRow : ByteArray := prog_13_method_77_code
def yX11_isOneRow : MethodName := ⟨RX11, "isOneRow", "()Z"⟩
abbrev cX11_conditionsOfWay : ByteArray := prog_13_method_78_code
def yX11_conditionsOfWay : MethodName := ⟨RX11, "conditionsOfWay", "()I"⟩
abbrev cX11_conditionsOfSeven : ByteArray := prog_13_method_79_code
def yX11_conditionsOfSeven : MethodName := ⟨RX11, "conditionsOfSeven", "()I"⟩
abbrev cX11_sumOf : ByteArray := prog_13_method_80_code
def yX11_sumOf : MethodName := ⟨RX11, "sumOf", "(I)I"⟩
abbrev cX11_worthOf : ByteArray := prog_13_method_81_code
def yX11_worthOf : MethodName := ⟨RX11, "worthOf", "(I)I"⟩
abbrev cX11_tries : ByteArray := prog_13_method_82_code
def yX11_tries : MethodName := ⟨RX11, "tries", "(III)V"⟩
abbrev cX11_worth : ByteArray := prog_13_method_83_code
def yX11_worth : MethodName := ⟨RX11, "worth", "(I)I"⟩
abbrev cX11_by : ByteArray := prog_13_method_84_code
def yX11_by : MethodName := ⟨RX11, "by", "(I)I"⟩
abbrev cX11_holds : ByteArray := prog_13_method_85_code
def yX11_holds : MethodName := ⟨RX11, "holds", "(II)I"⟩
def RJ9 : String := "java/lang/Math"
def TJ9 : u_T := fun k => match k with
  | _ => ("", "", "", false)
def tyJ9 : Nat → FieldType := fun k => match k with
  | _ => .int
abbrev wsJ90 : List Cond := u_ws RJ9 TJ9 0
theorem nmJ9 : ∀ a, a < 0 → ∀ b, b < 0 → a ≠ b → (TJ9 a).2.1 ≠ (TJ9 b).2.1 := by decide +kernel
theorem tyJ9_ok : ∀ k, k < 0 → parseFieldDescriptor (TJ9 k).2.2.1 = some (tyJ9 k) := by decide +kernel
abbrev cJ9_max_7cf53 : ByteArray := prog_14_method_65_code
def yJ9_max_7cf53 : MethodName := ⟨RJ9, "max", "(II)I"⟩
abbrev cJ9_min_7cf53 : ByteArray := prog_14_method_69_code
def yJ9_min_7cf53 : MethodName := ⟨RJ9, "min", "(II)I"⟩
def RJ10 : String := "java/lang/System"
def TJ10 : u_T := fun k => match k with
  | _ => ("", "", "", false)
def tyJ10 : Nat → FieldType := fun k => match k with
  | _ => .int
abbrev wsJ100 : List Cond := u_ws RJ10 TJ10 0
theorem nmJ10 : ∀ a, a < 0 → ∀ b, b < 0 → a ≠ b → (TJ10 a).2.1 ≠ (TJ10 b).2.1 := by decide +kernel
theorem tyJ10_ok : ∀ k, k < 0 → parseFieldDescriptor (TJ10 k).2.2.1 = some (tyJ10 k) := by decide +kernel
def RJ7 : String := "java/util/Arrays"
def TJ7 : u_T := fun k => match k with
  | _ => ("", "", "", false)
def tyJ7 : Nat → FieldType := fun k => match k with
  | _ => .int
abbrev wsJ70 : List Cond := u_ws RJ7 TJ7 0
theorem nmJ7 : ∀ a, a < 0 → ∀ b, b < 0 → a ≠ b → (TJ7 a).2.1 ≠ (TJ7 b).2.1 := by decide +kernel
theorem tyJ7_ok : ∀ k, k < 0 → parseFieldDescriptor (TJ7 k).2.2.1 = some (tyJ7 k) := by decide +kernel
abbrev cJ7_fill_d0a16 : ByteArray := prog_16_method_101_code
def yJ7_fill_d0a16 : MethodName := ⟨RJ7, "fill", "([JJ)V"⟩
abbrev cJ7_fill_53178 : ByteArray := prog_16_method_103_code
def yJ7_fill_53178 : MethodName := ⟨RJ7, "fill", "([II)V"⟩
def RL : String := "TileDeskLaw"
abbrev cL_law : ByteArray := code
def yL_law : MethodName := ⟨RL, "law", "([I)Z"⟩

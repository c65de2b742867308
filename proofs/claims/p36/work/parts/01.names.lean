-- ===== PART A: goes FIRST, ahead of the names: the tables' words, and 'selects' of the private methods out of them =====
/-- a private method of a class that the tables say can be made, by its rows of tables_1 -/
def lw_okq (q : MethodName × Nat) : Prop := (q.1.cls ≠ "java/lang/invoke/MethodHandle" ∧ q.1.cls ≠ "java/lang/invoke/VarHandle") ∧ Cond.instantiable q.1.cls q.2 ∈ tables_1 ∧ Cond.privateMethod q.1 ∈ tables_1 ∧ Cond.instanceMethod q.1 ∈ tables_1
theorem lw_p0 : lw_okq (⟨"TileDesk", "drawNext", "(LTileDesk$Hand;)I"⟩, 9) := ⟨⟨by decide +kernel, by decide +kernel⟩, List.mem_of_getElem? (i := 16) (by decide +kernel), List.mem_of_getElem? (i := 260) (by decide +kernel), List.mem_of_getElem? (i := 261) (by decide +kernel)⟩
theorem lw_p1 : lw_okq (⟨"TileDesk", "countHidden", "(LTileDesk$Hand;)I"⟩, 9) := ⟨⟨by decide +kernel, by decide +kernel⟩, List.mem_of_getElem? (i := 16) (by decide +kernel), List.mem_of_getElem? (i := 294) (by decide +kernel), List.mem_of_getElem? (i := 295) (by decide +kernel)⟩
theorem lw_p2 : lw_okq (⟨"TileDesk", "bestThrow", "(LTileDesk$Hand;)I"⟩, 9) := ⟨⟨by decide +kernel, by decide +kernel⟩, List.mem_of_getElem? (i := 16) (by decide +kernel), List.mem_of_getElem? (i := 356) (by decide +kernel), List.mem_of_getElem? (i := 357) (by decide +kernel)⟩
theorem lw_p3 : lw_okq (⟨"TileDesk$Lacks", "look", "(LTileDesk$Hand;I)V"⟩, 14) := ⟨⟨by decide +kernel, by decide +kernel⟩, List.mem_of_getElem? (i := 46) (by decide +kernel), List.mem_of_getElem? (i := 364) (by decide +kernel), List.mem_of_getElem? (i := 365) (by decide +kernel)⟩
theorem lw_p4 : lw_okq (⟨"TileDesk$Lacks", "workOut", "(I)V"⟩, 14) := ⟨⟨by decide +kernel, by decide +kernel⟩, List.mem_of_getElem? (i := 46) (by decide +kernel), List.mem_of_getElem? (i := 371) (by decide +kernel), List.mem_of_getElem? (i := 372) (by decide +kernel)⟩
theorem lw_p5 : lw_okq (⟨"TileDesk$Lacks", "keyOf", "(I)J"⟩, 14) := ⟨⟨by decide +kernel, by decide +kernel⟩, List.mem_of_getElem? (i := 46) (by decide +kernel), List.mem_of_getElem? (i := 375) (by decide +kernel), List.mem_of_getElem? (i := 376) (by decide +kernel)⟩
theorem lw_p6 : lw_okq (⟨"TileDesk$Lacks", "goThrough", "(I)V"⟩, 14) := ⟨⟨by decide +kernel, by decide +kernel⟩, List.mem_of_getElem? (i := 46) (by decide +kernel), List.mem_of_getElem? (i := 384) (by decide +kernel), List.mem_of_getElem? (i := 385) (by decide +kernel)⟩
theorem lw_p7 : lw_okq (⟨"TileDesk$Lacks", "spread", "(IIJI)V"⟩, 14) := ⟨⟨by decide +kernel, by decide +kernel⟩, List.mem_of_getElem? (i := 46) (by decide +kernel), List.mem_of_getElem? (i := 389) (by decide +kernel), List.mem_of_getElem? (i := 390) (by decide +kernel)⟩
theorem lw_p8 : lw_okq (⟨"TileDesk$Lacks", "less", "(JJ)J"⟩, 14) := ⟨⟨by decide +kernel, by decide +kernel⟩, List.mem_of_getElem? (i := 46) (by decide +kernel), List.mem_of_getElem? (i := 397) (by decide +kernel), List.mem_of_getElem? (i := 398) (by decide +kernel)⟩
theorem lw_p9 : lw_okq (⟨"TileDesk$Lacks", "addAllBut", "(I)V"⟩, 14) := ⟨⟨by decide +kernel, by decide +kernel⟩, List.mem_of_getElem? (i := 46) (by decide +kernel), List.mem_of_getElem? (i := 401) (by decide +kernel), List.mem_of_getElem? (i := 402) (by decide +kernel)⟩
theorem lw_p10 : lw_okq (⟨"TileDesk$Lacks", "addRow", "(I)V"⟩, 14) := ⟨⟨by decide +kernel, by decide +kernel⟩, List.mem_of_getElem? (i := 46) (by decide +kernel), List.mem_of_getElem? (i := 405) (by decide +kernel), List.mem_of_getElem? (i := 406) (by decide +kernel)⟩
theorem lw_p11 : lw_okq (⟨"TileDesk$Lacks", "leastWith", "(II)J"⟩, 14) := ⟨⟨by decide +kernel, by decide +kernel⟩, List.mem_of_getElem? (i := 46) (by decide +kernel), List.mem_of_getElem? (i := 409) (by decide +kernel), List.mem_of_getElem? (i := 410) (by decide +kernel)⟩
theorem lw_p12 : lw_okq (⟨"TileDesk$Lacks", "offer", "(IJ)V"⟩, 14) := ⟨⟨by decide +kernel, by decide +kernel⟩, List.mem_of_getElem? (i := 46) (by decide +kernel), List.mem_of_getElem? (i := 422) (by decide +kernel), List.mem_of_getElem? (i := 423) (by decide +kernel)⟩
theorem lw_p13 : lw_okq (⟨"TileDesk$Lacks", "isHelper", "(I)Z"⟩, 14) := ⟨⟨by decide +kernel, by decide +kernel⟩, List.mem_of_getElem? (i := 46) (by decide +kernel), List.mem_of_getElem? (i := 460) (by decide +kernel), List.mem_of_getElem? (i := 461) (by decide +kernel)⟩
theorem lw_p14 : lw_okq (⟨"TileDesk$Ways", "keepPath", "()V"⟩, 5) := ⟨⟨by decide +kernel, by decide +kernel⟩, List.mem_of_getElem? (i := 107) (by decide +kernel), List.mem_of_getElem? (i := 497) (by decide +kernel), List.mem_of_getElem? (i := 498) (by decide +kernel)⟩
theorem lw_p15 : lw_okq (⟨"TileDesk$Ways", "shiftRun", "(II)V"⟩, 5) := ⟨⟨by decide +kernel, by decide +kernel⟩, List.mem_of_getElem? (i := 107) (by decide +kernel), List.mem_of_getElem? (i := 502) (by decide +kernel), List.mem_of_getElem? (i := 503) (by decide +kernel)⟩
def lw_privs_1 : List (MethodName × Nat) := [(⟨"TileDesk", "drawNext", "(LTileDesk$Hand;)I"⟩, 9), (⟨"TileDesk", "countHidden", "(LTileDesk$Hand;)I"⟩, 9), (⟨"TileDesk", "bestThrow", "(LTileDesk$Hand;)I"⟩, 9), (⟨"TileDesk$Lacks", "look", "(LTileDesk$Hand;I)V"⟩, 14), (⟨"TileDesk$Lacks", "workOut", "(I)V"⟩, 14), (⟨"TileDesk$Lacks", "keyOf", "(I)J"⟩, 14), (⟨"TileDesk$Lacks", "goThrough", "(I)V"⟩, 14), (⟨"TileDesk$Lacks", "spread", "(IIJI)V"⟩, 14), (⟨"TileDesk$Lacks", "less", "(JJ)J"⟩, 14), (⟨"TileDesk$Lacks", "addAllBut", "(I)V"⟩, 14), (⟨"TileDesk$Lacks", "addRow", "(I)V"⟩, 14), (⟨"TileDesk$Lacks", "leastWith", "(II)J"⟩, 14), (⟨"TileDesk$Lacks", "offer", "(IJ)V"⟩, 14), (⟨"TileDesk$Lacks", "isHelper", "(I)Z"⟩, 14), (⟨"TileDesk$Ways", "keepPath", "()V"⟩, 5), (⟨"TileDesk$Ways", "shiftRun", "(II)V"⟩, 5)]
theorem lw_r1 : ∀ q ∈ lw_privs_1, lw_okq q := List.forall_mem_cons.mpr ⟨lw_p0, List.forall_mem_cons.mpr ⟨lw_p1, List.forall_mem_cons.mpr ⟨lw_p2, List.forall_mem_cons.mpr ⟨lw_p3, List.forall_mem_cons.mpr ⟨lw_p4, List.forall_mem_cons.mpr ⟨lw_p5, List.forall_mem_cons.mpr ⟨lw_p6, List.forall_mem_cons.mpr ⟨lw_p7, List.forall_mem_cons.mpr ⟨lw_p8, List.forall_mem_cons.mpr ⟨lw_p9, List.forall_mem_cons.mpr ⟨lw_p10, List.forall_mem_cons.mpr ⟨lw_p11, List.forall_mem_cons.mpr ⟨lw_p12, List.forall_mem_cons.mpr ⟨lw_p13, List.forall_mem_cons.mpr ⟨lw_p14, List.forall_mem_cons.mpr ⟨lw_p15, fun _ h => absurd h List.not_mem_nil⟩⟩⟩⟩⟩⟩⟩⟩⟩⟩⟩⟩⟩⟩⟩⟩
theorem lw_p16 : lw_okq (⟨"TileDesk$Judge", "isSeven", "(LTileDesk$Hand;)Z"⟩, 6) := ⟨⟨by decide +kernel, by decide +kernel⟩, List.mem_of_getElem? (i := 101) (by decide +kernel), List.mem_of_getElem? (i := 506) (by decide +kernel), List.mem_of_getElem? (i := 507) (by decide +kernel)⟩
theorem lw_p17 : lw_okq (⟨"TileDesk$Judge", "isOuterOnes", "(LTileDesk$Hand;)Z"⟩, 6) := ⟨⟨by decide +kernel, by decide +kernel⟩, List.mem_of_getElem? (i := 101) (by decide +kernel), List.mem_of_getElem? (i := 511) (by decide +kernel), List.mem_of_getElem? (i := 512) (by decide +kernel)⟩
def lw_privs_2 : List (MethodName × Nat) := [(⟨"TileDesk$Judge", "isSeven", "(LTileDesk$Hand;)Z"⟩, 6), (⟨"TileDesk$Judge", "isOuterOnes", "(LTileDesk$Hand;)Z"⟩, 6)]
theorem lw_r2 : ∀ q ∈ lw_privs_2, lw_okq q := List.forall_mem_cons.mpr ⟨lw_p16, List.forall_mem_cons.mpr ⟨lw_p17, fun _ h => absurd h List.not_mem_nil⟩⟩
def lw_privs : List (MethodName × Nat) := lw_privs_1 ++ (lw_privs_2)
def lw_tbl : List Cond := k2_sels lw_privs ++ tables_1
theorem lw_privs_ok : ∀ q ∈ lw_privs, lw_okq q := by
  show ∀ q ∈ lw_privs_1 ++ (lw_privs_2), lw_okq q
  exact List.forall_mem_append.mpr ⟨lw_r1, lw_r2⟩
-- ===== end of PART A; then your names; then what follows =====
/-! ===== BEGIN words of one list among another's, by their places ===== -/
theorem goodIn_r {big : List Cond} (ws : List Cond) (ps : List Nat) (hp : ws = ps.filterMap (fun i => big[i]?)) (h : ws.all goodWord = true) : GoodIn big ws := by
  intro w hw
  have h1 := List.all_eq_true.mp h w hw
  rw [hp] at hw
  obtain ⟨i, -, hi⟩ := List.mem_filterMap.mp hw
  have hm : w ∈ big := by first | exact List.mem_of_getElem? hi | exact List.getElem?_mem hi
  exact ⟨hm, good_of_word h1⟩
theorem goodIn_app {big a b : List Cond} (ha : GoodIn big a) (hb : GoodIn big b) : GoodIn big (a ++ b) := fun w h => (List.mem_append.mp h).elim (ha w) (hb w)
theorem goodIn_ca {big a b : List Cond} {c : Cond} (ha : GoodIn big (c :: a)) (hb : GoodIn big b) : GoodIn big (c :: (a ++ b)) := fun w h => (List.mem_cons.mp h).elim (fun e => ha w (List.mem_cons.mpr (Or.inl e))) (fun h => (List.mem_append.mp h).elim (fun h => ha w (List.mem_cons.mpr (Or.inr h))) (hb w))
theorem goodIn_sub {big ws : List Cond} (hm : ∀ w ∈ ws, w ∈ big) (h : ws.all goodWord = true) : GoodIn big ws := fun w hw => ⟨hm w hw, good_of_word (List.all_eq_true.mp h w hw)⟩
/-! ===== END ===== -/

/-! ===== BEGIN printed: names, fields, word lists, decode rows ===== -/
def RX0 : String := "TileDesk$Groups"
def TX0 : u_T := fun k => match k with
  | _ => ("", "", "", false)
def tyX0 : Nat → FieldType := fun k => match k with
  | _ => .int
abbrev wsX00 : List Cond := u_ws RX0 TX0 0
theorem nmX0 : ∀ a, a < 0 → ∀ b, b < 0 → a ≠ b → (TX0 a).2.1 ≠ (TX0 b).2.1 := by decide +kernel
theorem tyX0_ok : ∀ k, k < 0 → parseFieldDescriptor (TX0 k).2.2.1 = some (tyX0 k) := by decide +kernel
abbrev cX0_code : ByteArray := prog_2_method_2_code
def yX0_code : MethodName := ⟨RX0, "code", "(II)I"⟩
abbrev cX0_tilesAlike : ByteArray := prog_2_method_5_code
def yX0_tilesAlike : MethodName := ⟨RX0, "tilesAlike", "(I)I"⟩
def RX1 : String := "TileDesk$Hand"
def TX1 : u_T := fun k => match k with
  | 0 => ("TileDesk$Hand", "held", "[I", true)
  | 1 => ("TileDesk$Hand", "laid", "[I", true)
  | 2 => ("TileDesk$Hand", "codes", "[I", true)
  | 3 => ("TileDesk$Hand", "tilesHeld", "I", false)
  | _ => ("TileDesk$Hand", "groups", "I", false)
def tyX1 : Nat → FieldType := fun k => match k with
  | 0 => .array .int
  | 1 => .array .int
  | 2 => .array .int
  | 3 => .int
  | _ => .int
abbrev wsX10 : List Cond := u_ws RX1 TX1 5
theorem nmX1 : ∀ a, a < 5 → ∀ b, b < 5 → a ≠ b → (TX1 a).2.1 ≠ (TX1 b).2.1 := by decide +kernel
theorem tyX1_ok : ∀ k, k < 5 → parseFieldDescriptor (TX1 k).2.2.1 = some (tyX1 k) := by decide +kernel
abbrev cX1_init : ByteArray := prog_3_method_1_code
def yX1_init : MethodName := ⟨RX1, "<init>", "()V"⟩
abbrev cX1_size : ByteArray := prog_3_method_2_code
def yX1_size : MethodName := ⟨RX1, "size", "()I"⟩
abbrev cX1_isFull : ByteArray := prog_3_method_3_code
def yX1_isFull : MethodName := ⟨RX1, "isFull", "()Z"⟩
abbrev cX1_rests : ByteArray := prog_3_method_4_code
def yX1_rests : MethodName := ⟨RX1, "rests", "()Z"⟩
abbrev cX1_gain : ByteArray := prog_3_method_5_code
def yX1_gain : MethodName := ⟨RX1, "gain", "(I)V"⟩
abbrev cX1_lose : ByteArray := prog_3_method_6_code
def yX1_lose : MethodName := ⟨RX1, "lose", "(I)V"⟩
abbrev cX1_canLay : ByteArray := prog_3_method_7_code
def yX1_canLay : MethodName := ⟨RX1, "canLay", "(II)Z"⟩
abbrev cX1_lay : ByteArray := prog_3_method_8_code
def yX1_lay : MethodName := ⟨RX1, "lay", "(II)V"⟩
abbrev cX1_giveBack : ByteArray := prog_3_method_9_code
def yX1_giveBack : MethodName := ⟨RX1, "giveBack", "([I)I"⟩
def RX2 : String := "TileDesk$Judge"
def TX2 : u_T := fun k => match k with
  | 0 => ("TileDesk$Judge", "ways", "LTileDesk$Ways;", true)
  | 1 => ("TileDesk$Judge", "rules", "LTileDesk$Rules;", true)
  | 2 => ("TileDesk$Judge", "others", "LTileDesk$Others;", true)
  | 3 => ("TileDesk$Judge", "sum", "I", false)
  | 4 => ("TileDesk$Judge", "source", "I", false)
  | _ => ("TileDesk$Judge", "conditions", "I", false)
def tyX2 : Nat → FieldType := fun k => match k with
  | 0 => .object "TileDesk$Ways"
  | 1 => .object "TileDesk$Rules"
  | 2 => .object "TileDesk$Others"
  | 3 => .int
  | 4 => .int
  | _ => .int
abbrev wsX20 : List Cond := u_ws RX2 TX2 6
theorem nmX2 : ∀ a, a < 6 → ∀ b, b < 6 → a ≠ b → (TX2 a).2.1 ≠ (TX2 b).2.1 := by decide +kernel
theorem tyX2_ok : ∀ k, k < 6 → parseFieldDescriptor (TX2 k).2.2.1 = some (tyX2 k) := by decide +kernel
abbrev cX2_init : ByteArray := prog_4_method_1_code
def yX2_init : MethodName := ⟨RX2, "<init>", "(LTileDesk$Others;)V"⟩
abbrev cX2_howDone : ByteArray := prog_4_method_2_code
def yX2_howDone : MethodName := ⟨RX2, "howDone", "(LTileDesk$Hand;)I"⟩
abbrev cX2_isSeven : ByteArray := prog_4_method_5_code
def yX2_isSeven : MethodName := ⟨RX2, "isSeven", "(LTileDesk$Hand;)Z"⟩
abbrev cX2_isOuterOnes : ByteArray := prog_4_method_6_code
def yX2_isOuterOnes : MethodName := ⟨RX2, "isOuterOnes", "(LTileDesk$Hand;)Z"⟩
def RX3 : String := "TileDesk$Lacks"
def TX3 : u_T := fun k => match k with
  | 0 => ("TileDesk$Lacks", "others", "LTileDesk$Others;", true)
  | 1 => ("TileDesk$Lacks", "held", "[I", true)
  | 2 => ("TileDesk$Lacks", "laid", "[I", true)
  | 3 => ("TileDesk$Lacks", "lanes", "[J", true)
  | 4 => ("TileDesk$Lacks", "now", "[J", true)
  | 5 => ("TileDesk$Lacks", "next", "[J", true)
  | 6 => ("TileDesk$Lacks", "sums", "[J", true)
  | 7 => ("TileDesk$Lacks", "keptKeys", "[J", true)
  | 8 => ("TileDesk$Lacks", "keptLanes", "[J", true)
  | 9 => ("TileDesk$Lacks", "limit", "I", false)
  | 10 => ("TileDesk$Lacks", "wanted", "I", false)
  | 11 => ("TileDesk$Lacks", "changing", "I", false)
  | 12 => ("TileDesk$Lacks", "lack", "I", false)
  | _ => ("TileDesk$Lacks", "helpers", "J", false)
def tyX3 : Nat → FieldType := fun k => match k with
  | 0 => .object "TileDesk$Others"
  | 1 => .array .int
  | 2 => .array .int
  | 3 => .array .long
  | 4 => .array .long
  | 5 => .array .long
  | 6 => .array .long
  | 7 => .array .long
  | 8 => .array .long
  | 9 => .int
  | 10 => .int
  | 11 => .int
  | 12 => .int
  | _ => .long
abbrev wsX30 : List Cond := u_ws RX3 TX3 14
theorem nmX3 : ∀ a, a < 14 → ∀ b, b < 14 → a ≠ b → (TX3 a).2.1 ≠ (TX3 b).2.1 := by decide +kernel
theorem tyX3_ok : ∀ k, k < 14 → parseFieldDescriptor (TX3 k).2.2.1 = some (tyX3 k) := by decide +kernel
abbrev cX3_init : ByteArray := prog_5_method_1_code
def yX3_init : MethodName := ⟨RX3, "<init>", "(LTileDesk$Others;)V"⟩
abbrev cX3_reckon : ByteArray := prog_5_method_2_code
def yX3_reckon : MethodName := ⟨RX3, "reckon", "(LTileDesk$Hand;I)V"⟩
abbrev cX3_change : ByteArray := prog_5_method_3_code
def yX3_change : MethodName := ⟨RX3, "change", "(II)V"⟩
abbrev cX3_look : ByteArray := prog_5_method_5_code
def yX3_look : MethodName := ⟨RX3, "look", "(LTileDesk$Hand;I)V"⟩
abbrev cX3_total : ByteArray := prog_5_method_6_code
def yX3_total : MethodName := ⟨RX3, "total", "()V"⟩
abbrev cX3_helper : ByteArray := prog_5_method_7_code
def yX3_helper : MethodName := ⟨RX3, "helper", "(I)I"⟩
abbrev cX3_helpingOf : ByteArray := prog_5_method_8_code
def yX3_helpingOf : MethodName := ⟨RX3, "helpingOf", "([I)I"⟩
abbrev cX3_isHelper : ByteArray := prog_5_method_9_code
def yX3_isHelper : MethodName := ⟨RX3, "isHelper", "(I)Z"⟩
abbrev cX3_offer : ByteArray := prog_5_method_10_code
def yX3_offer : MethodName := ⟨RX3, "offer", "(IJ)V"⟩
abbrev cX3_tilesOf : ByteArray := prog_5_method_11_code
def yX3_tilesOf : MethodName := ⟨RX3, "tilesOf", "(J)I"⟩
abbrev cX3_less : ByteArray := prog_5_method_12_code
def yX3_less : MethodName := ⟨RX3, "less", "(JJ)J"⟩
abbrev cX3_addAllBut : ByteArray := prog_5_method_13_code
def yX3_addAllBut : MethodName := ⟨RX3, "addAllBut", "(I)V"⟩
abbrev cX3_addRow : ByteArray := prog_5_method_14_code
def yX3_addRow : MethodName := ⟨RX3, "addRow", "(I)V"⟩
abbrev cX3_leastWith : ByteArray := prog_5_method_15_code
def yX3_leastWith : MethodName := ⟨RX3, "leastWith", "(II)J"⟩
abbrev cX3_workOut : ByteArray := prog_5_method_16_code
def yX3_workOut : MethodName := ⟨RX3, "workOut", "(I)V"⟩
abbrev cX3_keyOf : ByteArray := prog_5_method_17_code
def yX3_keyOf : MethodName := ⟨RX3, "keyOf", "(I)J"⟩
abbrev cX3_goThrough : ByteArray := prog_5_method_18_code
def yX3_goThrough : MethodName := ⟨RX3, "goThrough", "(I)V"⟩
abbrev cX3_spread : ByteArray := prog_5_method_19_code
def yX3_spread : MethodName := ⟨RX3, "spread", "(IIJI)V"⟩
def RX4 : String := "TileDesk$Others"
def TX4 : u_T := fun k => match k with
  | 0 => ("TileDesk$Others", "sevenCounts", "Z", false)
  | _ => ("TileDesk$Others", "outerCounts", "Z", false)
def tyX4 : Nat → FieldType := fun k => match k with
  | 0 => .boolean
  | _ => .boolean
abbrev wsX40 : List Cond := u_ws RX4 TX4 2
theorem nmX4 : ∀ a, a < 2 → ∀ b, b < 2 → a ≠ b → (TX4 a).2.1 ≠ (TX4 b).2.1 := by decide +kernel
theorem tyX4_ok : ∀ k, k < 2 → parseFieldDescriptor (TX4 k).2.2.1 = some (tyX4 k) := by decide +kernel
abbrev cX4_init : ByteArray := prog_6_method_1_code
def yX4_init : MethodName := ⟨RX4, "<init>", "()V"⟩
abbrev cX4_lackOfSeven : ByteArray := prog_6_method_2_code
def yX4_lackOfSeven : MethodName := ⟨RX4, "lackOfSeven", "([I)I"⟩
abbrev cX4_helpersOfSeven : ByteArray := prog_6_method_3_code
def yX4_helpersOfSeven : MethodName := ⟨RX4, "helpersOfSeven", "([I)J"⟩
abbrev cX4_lackOfOuter : ByteArray := prog_6_method_4_code
def yX4_lackOfOuter : MethodName := ⟨RX4, "lackOfOuter", "([I)I"⟩
abbrev cX4_helpersOfOuter : ByteArray := prog_6_method_5_code
def yX4_helpersOfOuter : MethodName := ⟨RX4, "helpersOfOuter", "([I)J"⟩
abbrev cX4_hasOuterPair : ByteArray := prog_6_method_6_code
def yX4_hasOuterPair : MethodName := ⟨RX4, "hasOuterPair", "([I)Z"⟩
def RX5 : String := "TileDesk$Rack"
def TX5 : u_T := fun k => match k with
  | 0 => ("TileDesk$Rack", "cells", "[I", true)
  | 1 => ("TileDesk$Rack", "kind", "I", false)
  | _ => ("TileDesk$Rack", "length", "I", false)
def tyX5 : Nat → FieldType := fun k => match k with
  | 0 => .array .int
  | 1 => .int
  | _ => .int
abbrev wsX50 : List Cond := u_ws RX5 TX5 3
theorem nmX5 : ∀ a, a < 3 → ∀ b, b < 3 → a ≠ b → (TX5 a).2.1 ≠ (TX5 b).2.1 := by decide +kernel
theorem tyX5_ok : ∀ k, k < 3 → parseFieldDescriptor (TX5 k).2.2.1 = some (tyX5 k) := by decide +kernel
abbrev cX5_init : ByteArray := prog_7_method_1_code
def yX5_init : MethodName := ⟨RX5, "<init>", "()V"⟩
def RX6 : String := "TileDesk$Rules"
def TX6 : u_T := fun k => match k with
  | 0 => ("TileDesk$Rules", "conditions", "[I", true)
  | 1 => ("TileDesk$Rules", "points", "[I", true)
  | 2 => ("TileDesk$Rules", "outs", "[I", true)
  | _ => ("TileDesk$Rules", "size", "I", false)
def tyX6 : Nat → FieldType := fun k => match k with
  | 0 => .array .int
  | 1 => .array .int
  | 2 => .array .int
  | _ => .int
abbrev wsX60 : List Cond := u_ws RX6 TX6 4
theorem nmX6 : ∀ a, a < 4 → ∀ b, b < 4 → a ≠ b → (TX6 a).2.1 ≠ (TX6 b).2.1 := by decide +kernel
theorem tyX6_ok : ∀ k, k < 4 → parseFieldDescriptor (TX6 k).2.2.1 = some (tyX6 k) := by decide +kernel
abbrev cX6_init : ByteArray := prog_8_method_1_code
def yX6_init : MethodName := ⟨RX6, "<init>", "()V"⟩
def RX7 : String := "TileDesk$Shapes"
def TX7 : u_T := fun k => match k with
  | _ => ("", "", "", false)
def tyX7 : Nat → FieldType := fun k => match k with
  | _ => .int
abbrev wsX70 : List Cond := u_ws RX7 TX7 0
theorem nmX7 : ∀ a, a < 0 → ∀ b, b < 0 → a ≠ b → (TX7 a).2.1 ≠ (TX7 b).2.1 := by decide +kernel
theorem tyX7_ok : ∀ k, k < 0 → parseFieldDescriptor (TX7 k).2.2.1 = some (tyX7 k) := by decide +kernel
abbrev cX7_same : ByteArray := prog_9_method_2_code
def yX7_same : MethodName := ⟨RX7, "same", "([I[I)Z"⟩
abbrev cX7_rowKey : ByteArray := prog_9_method_3_code
def yX7_rowKey : MethodName := ⟨RX7, "rowKey", "([II)I"⟩
abbrev cX7_lastRowKey : ByteArray := prog_9_method_4_code
def yX7_lastRowKey : MethodName := ⟨RX7, "lastRowKey", "([I)I"⟩
def RX8 : String := "TileDesk$Sorts"
def TX8 : u_T := fun k => match k with
  | _ => ("", "", "", false)
def tyX8 : Nat → FieldType := fun k => match k with
  | _ => .int
abbrev wsX80 : List Cond := u_ws RX8 TX8 0
theorem nmX8 : ∀ a, a < 0 → ∀ b, b < 0 → a ≠ b → (TX8 a).2.1 ≠ (TX8 b).2.1 := by decide +kernel
theorem tyX8_ok : ∀ k, k < 0 → parseFieldDescriptor (TX8 k).2.2.1 = some (tyX8 k) := by decide +kernel
abbrev cX8_isSort : ByteArray := prog_10_method_2_code
def yX8_isSort : MethodName := ⟨RX8, "isSort", "(I)Z"⟩
abbrev cX8_rowOf : ByteArray := prog_10_method_3_code
def yX8_rowOf : MethodName := ⟨RX8, "rowOf", "(I)I"⟩
abbrev cX8_lengthOf : ByteArray := prog_10_method_4_code
def yX8_lengthOf : MethodName := ⟨RX8, "lengthOf", "(I)I"⟩
abbrev cX8_startsRun : ByteArray := prog_10_method_5_code
def yX8_startsRun : MethodName := ⟨RX8, "startsRun", "(I)Z"⟩
abbrev cX8_isOuter : ByteArray := prog_10_method_6_code
def yX8_isOuter : MethodName := ⟨RX8, "isOuter", "(I)Z"⟩
abbrev cX8_sum : ByteArray := prog_10_method_7_code
def yX8_sum : MethodName := ⟨RX8, "sum", "([I)I"⟩
def RX9 : String := "TileDesk$Ways"
def TX9 : u_T := fun k => match k with
  | 0 => ("TileDesk$Ways", "left", "[I", true)
  | 1 => ("TileDesk$Ways", "path", "[I", true)
  | 2 => ("TileDesk$Ways", "codes", "[I", true)
  | 3 => ("TileDesk$Ways", "wanted", "I", false)
  | _ => ("TileDesk$Ways", "size", "I", false)
def tyX9 : Nat → FieldType := fun k => match k with
  | 0 => .array .int
  | 1 => .array .int
  | 2 => .array .int
  | 3 => .int
  | _ => .int
abbrev wsX90 : List Cond := u_ws RX9 TX9 5
theorem nmX9 : ∀ a, a < 5 → ∀ b, b < 5 → a ≠ b → (TX9 a).2.1 ≠ (TX9 b).2.1 := by decide +kernel
theorem tyX9_ok : ∀ k, k < 5 → parseFieldDescriptor (TX9 k).2.2.1 = some (tyX9 k) := by decide +kernel
abbrev cX9_init : ByteArray := prog_11_method_1_code
def yX9_init : MethodName := ⟨RX9, "<init>", "()V"⟩
abbrev cX9_find : ByteArray := prog_11_method_2_code
def yX9_find : MethodName := ⟨RX9, "find", "(LTileDesk$Hand;)V"⟩
abbrev cX9_seek : ByteArray := prog_11_method_3_code
def yX9_seek : MethodName := ⟨RX9, "seek", "(LTileDesk$Ways;III)V"⟩
abbrev cX9_shiftRun : ByteArray := prog_11_method_4_code
def yX9_shiftRun : MethodName := ⟨RX9, "shiftRun", "(II)V"⟩
abbrev cX9_keepPath : ByteArray := prog_11_method_5_code
def yX9_keepPath : MethodName := ⟨RX9, "keepPath", "()V"⟩
def RX10 : String := "TileDesk"
def TX10 : u_T := fun k => match k with
  | 0 => ("TileDesk", "racks", "[LTileDesk$Rack;", true)
  | 1 => ("TileDesk", "hands", "[LTileDesk$Hand;", true)
  | 2 => ("TileDesk", "wall", "[I", true)
  | 3 => ("TileDesk", "thrown", "[I", true)
  | 4 => ("TileDesk", "hidden", "[I", true)
  | 5 => ("TileDesk", "others", "LTileDesk$Others;", true)
  | 6 => ("TileDesk", "lacks", "LTileDesk$Lacks;", true)
  | 7 => ("TileDesk", "judge", "LTileDesk$Judge;", true)
  | _ => ("TileDesk", "seedNow", "I", false)
def tyX10 : Nat → FieldType := fun k => match k with
  | 0 => .array (.object "TileDesk$Rack")
  | 1 => .array (.object "TileDesk$Hand")
  | 2 => .array .int
  | 3 => .array .int
  | 4 => .array .int
  | 5 => .object "TileDesk$Others"
  | 6 => .object "TileDesk$Lacks"
  | 7 => .object "TileDesk$Judge"
  | _ => .int
abbrev wsX100 : List Cond := u_ws RX10 TX10 9
theorem nmX10 : ∀ a, a < 9 → ∀ b, b < 9 → a ≠ b → (TX10 a).2.1 ≠ (TX10 b).2.1 := by decide +kernel
theorem tyX10_ok : ∀ k, k < 9 → parseFieldDescriptor (TX10 k).2.2.1 = some (tyX10 k) := by decide +kernel
abbrev cX10_init : ByteArray := prog_1_method_1_code
def yX10_init : MethodName := ⟨RX10, "<init>", "()V"⟩
abbrev cX10_take : ByteArray := prog_1_method_7_code
def yX10_take : MethodName := ⟨RX10, "take", "(II)I"⟩
abbrev cX10_seed : ByteArray := prog_1_method_8_code
def yX10_seed : MethodName := ⟨RX10, "seed", "(I)I"⟩
abbrev cX10_draw : ByteArray := prog_1_method_9_code
def yX10_draw : MethodName := ⟨RX10, "draw", "(I)I"⟩
abbrev cX10_deal : ByteArray := prog_1_method_10_code
def yX10_deal : MethodName := ⟨RX10, "deal", "(I)I"⟩
abbrev cX10_discard : ByteArray := prog_1_method_11_code
def yX10_discard : MethodName := ⟨RX10, "discard", "(II)I"⟩
abbrev cX10_open : ByteArray := prog_1_method_12_code
def yX10_open : MethodName := ⟨RX10, "open", "(III)I"⟩
abbrev cX10_clear : ByteArray := prog_1_method_13_code
def yX10_clear : MethodName := ⟨RX10, "clear", "(I)I"⟩
abbrev cX10_tiles : ByteArray := prog_1_method_14_code
def yX10_tiles : MethodName := ⟨RX10, "tiles", "(II)I"⟩
abbrev cX10_about : ByteArray := prog_1_method_15_code
def yX10_about : MethodName := ⟨RX10, "about", "(II)I"⟩
abbrev cX10_done : ByteArray := prog_1_method_17_code
def yX10_done : MethodName := ⟨RX10, "done", "(I)I"⟩
abbrev cX10_distance : ByteArray := prog_1_method_20_code
def yX10_distance : MethodName := ⟨RX10, "distance", "(I)I"⟩
abbrev cX10_waits : ByteArray := prog_1_method_21_code
def yX10_waits : MethodName := ⟨RX10, "waits", "(II)I"⟩
abbrev cX10_best : ByteArray := prog_1_method_25_code
def yX10_best : MethodName := ⟨RX10, "best", "(I)I"⟩
abbrev cX10_unseen : ByteArray := prog_1_method_28_code
def yX10_unseen : MethodName := ⟨RX10, "unseen", "(I)I"⟩
abbrev cX10_alike : ByteArray := prog_1_method_29_code
def yX10_alike : MethodName := ⟨RX10, "alike", "(II)I"⟩
abbrev cX10_isHand : ByteArray := prog_1_method_36_code
def yX10_isHand : MethodName := ⟨RX10, "isHand", "(I)Z"⟩
abbrev cX10_drawNext : ByteArray := prog_1_method_41_code
def yX10_drawNext : MethodName := ⟨RX10, "drawNext", "(LTileDesk$Hand;)I"⟩
abbrev cX10_countHidden : ByteArray := prog_1_method_42_code
def yX10_countHidden : MethodName := ⟨RX10, "countHidden", "(LTileDesk$Hand;)I"⟩
abbrev cX10_bestThrow : ByteArray := prog_1_method_44_code
def yX10_bestThrow : MethodName := ⟨RX10, "bestThrow", "(LTileDesk$Hand;)I"⟩
def RX11 : String := "TileDeskModel"
def TX11 : u_T := fun k => match k with
  | _ => ("", "", "", false)
def tyX11 : Nat → FieldType := fun k => match k with
  | _ => .int
abbrev wsX110 : List Cond := u_ws RX11 TX11 0
theorem nmX11 : ∀ a, a < 0 → ∀ b, b < 0 → a ≠ b → (TX11 a).2.1 ≠ (TX11 b).2.1 := by decide +kernel
theorem tyX11_ok : ∀ k, k < 0 → parseFieldDescriptor (TX11 k).2.2.1 = some (tyX11 k) := by decide +kernel
def RJ9 : String := "java/lang/Math"
def TJ9 : u_T := fun k => match k with
  | _ => ("", "", "", false)
def tyJ9 : Nat → FieldType := fun k => match k with
  | _ => .int
abbrev wsJ90 : List Cond := u_ws RJ9 TJ9 0
theorem nmJ9 : ∀ a, a < 0 → ∀ b, b < 0 → a ≠ b → (TJ9 a).2.1 ≠ (TJ9 b).2.1 := by decide +kernel
theorem tyJ9_ok : ∀ k, k < 0 → parseFieldDescriptor (TJ9 k).2.2.1 = some (tyJ9 k) := by decide +kernel
abbrev cJ9_max_7cf53 : ByteArray := prog_14_method_65_code
def yJ9_max_7cf53 : MethodName := ⟨RJ9, "max", "(II)I"⟩
abbrev cJ9_min_7cf53 : ByteArray := prog_14_method_69_code
def yJ9_min_7cf53 : MethodName := ⟨RJ9, "min", "(II)I"⟩
def RJ10 : String := "java/lang/System"
def TJ10 : u_T := fun k => match k with
  | _ => ("", "", "", false)
def tyJ10 : Nat → FieldType := fun k => match k with
  | _ => .int
abbrev wsJ100 : List Cond := u_ws RJ10 TJ10 0
theorem nmJ10 : ∀ a, a < 0 → ∀ b, b < 0 → a ≠ b → (TJ10 a).2.1 ≠ (TJ10 b).2.1 := by decide +kernel
theorem tyJ10_ok : ∀ k, k < 0 → parseFieldDescriptor (TJ10 k).2.2.1 = some (tyJ10 k) := by decide +kernel
def RJ7 : String := "java/util/Arrays"
def TJ7 : u_T := fun k => match k with
  | _ => ("", "", "", false)
def tyJ7 : Nat → FieldType := fun k => match k with
  | _ => .int
abbrev wsJ70 : List Cond := u_ws RJ7 TJ7 0
theorem nmJ7 : ∀ a, a < 0 → ∀ b, b < 0 → a ≠ b → (TJ7 a).2.1 ≠ (TJ7 b).2.1 := by decide +kernel
theorem tyJ7_ok : ∀ k, k < 0 → parseFieldDescriptor (TJ7 k).2.2.1 = some (tyJ7 k) := by decide +kernel
abbrev cJ7_fill_d0a16 : ByteArray := prog_16_method_101_code
def yJ7_fill_d0a16 : MethodName := ⟨RJ7, "fill", "([JJ)V"⟩
abbrev cJ7_fill_53178 : ByteArray := prog_16_method_103_code
def yJ7_fill_53178 : MethodName := ⟨RJ7, "fill", "([II)V"⟩
def RL : String := "TileDeskLaw"
abbrev cL_cell : ByteArray := method_2_code
def yL_cell : MethodName := ⟨RL, "cell", "([II)I"⟩
abbrev cL_some : ByteArray := method_3_code
def yL_some : MethodName := ⟨RL, "some", "(II)I"⟩
abbrev cL_act : ByteArray := method_4_code
def yL_act : MethodName := ⟨RL, "act", "(LTileDesk;I)I"⟩
abbrev cL_asked : ByteArray := method_5_code
def yL_asked : MethodName := ⟨RL, "asked", "(LTileDesk;I)Z"⟩
abbrev cL_law : ByteArray := code
def yL_law : MethodName := ⟨RL, "law", "([I)Z"⟩

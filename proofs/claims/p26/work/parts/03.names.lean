def RX0 : String := "SeenPages$Askers"
def TX0 : u_T := fun k => match k with
  | 0 => ("SeenPages$Askers", "snapshots", "[I", true)
  | _ => ("SeenPages$Askers", "asked", "[I", true)
def tyX0 : Nat → FieldType := fun k => match k with
  | 0 => .array .int
  | _ => .array .int
abbrev wsX00 : List Cond := u_ws RX0 TX0 2
theorem nmX0 : ∀ a, a < 2 → ∀ b, b < 2 → a ≠ b → (TX0 a).2.1 ≠ (TX0 b).2.1 := by decide +kernel
theorem tyX0_ok : ∀ k, k < 2 → parseFieldDescriptor (TX0 k).2.2.1 = some (tyX0 k) := by decide +kernel
abbrev cX0_init : ByteArray := prog_2_method_1_code
def yX0_init : MethodName := ⟨RX0, "<init>", "()V"⟩
abbrev cX0_copyFrom : ByteArray := prog_2_method_2_code
def yX0_copyFrom : MethodName := ⟨RX0, "copyFrom", "(LSeenPages$Askers;)V"⟩
abbrev cX0_horizonWithout : ByteArray := prog_2_method_3_code
def yX0_horizonWithout : MethodName := ⟨RX0, "horizonWithout", "(II)I"⟩
def RX1 : String := "SeenPages$History"
def TX1 : u_T := fun k => match k with
  | 0 => ("SeenPages$History", "rows", "[LSeenPages$State;", true)
  | 1 => ("SeenPages$History", "next", "I", false)
  | _ => ("SeenPages$History", "size", "I", false)
def tyX1 : Nat → FieldType := fun k => match k with
  | 0 => .array (.object "SeenPages$State")
  | 1 => .int
  | _ => .int
abbrev wsX10 : List Cond := u_ws RX1 TX1 3
theorem nmX1 : ∀ a, a < 3 → ∀ b, b < 3 → a ≠ b → (TX1 a).2.1 ≠ (TX1 b).2.1 := by decide +kernel
theorem tyX1_ok : ∀ k, k < 3 → parseFieldDescriptor (TX1 k).2.2.1 = some (tyX1 k) := by decide +kernel
abbrev cX1_init : ByteArray := prog_3_method_1_code
def yX1_init : MethodName := ⟨RX1, "<init>", "()V"⟩
abbrev cX1_save : ByteArray := prog_3_method_2_code
def yX1_save : MethodName := ⟨RX1, "save", "(LSeenPages$State;)V"⟩
abbrev cX1_restore : ByteArray := prog_3_method_3_code
def yX1_restore : MethodName := ⟨RX1, "restore", "(LSeenPages$State;)V"⟩
def RX2 : String := "SeenPages$State"
def TX2 : u_T := fun k => match k with
  | 0 => ("SeenPages$State", "table", "LSeenPages$Table;", true)
  | 1 => ("SeenPages$State", "askers", "LSeenPages$Askers;", true)
  | _ => ("SeenPages$State", "tally", "LSeenPages$Tally;", true)
def tyX2 : Nat → FieldType := fun k => match k with
  | 0 => .object "SeenPages$Table"
  | 1 => .object "SeenPages$Askers"
  | _ => .object "SeenPages$Tally"
abbrev wsX20 : List Cond := u_ws RX2 TX2 3
theorem nmX2 : ∀ a, a < 3 → ∀ b, b < 3 → a ≠ b → (TX2 a).2.1 ≠ (TX2 b).2.1 := by decide +kernel
theorem tyX2_ok : ∀ k, k < 3 → parseFieldDescriptor (TX2 k).2.2.1 = some (tyX2 k) := by decide +kernel
abbrev cX2_init : ByteArray := prog_4_method_1_code
def yX2_init : MethodName := ⟨RX2, "<init>", "()V"⟩
abbrev cX2_copyFrom : ByteArray := prog_4_method_2_code
def yX2_copyFrom : MethodName := ⟨RX2, "copyFrom", "(LSeenPages$State;)V"⟩
abbrev cX2_horizon : ByteArray := prog_4_method_3_code
def yX2_horizon : MethodName := ⟨RX2, "horizon", "()I"⟩
def RX3 : String := "SeenPages$Table"
def TX3 : u_T := fun k => match k with
  | 0 => ("SeenPages$Table", "values", "[I", true)
  | 1 => ("SeenPages$Table", "cameBy", "[I", true)
  | 2 => ("SeenPages$Table", "wentBy", "[I", true)
  | 3 => ("SeenPages$Table", "markedBy", "[I", true)
  | 4 => ("SeenPages$Table", "clock", "I", false)
  | _ => ("SeenPages$Table", "takenOut", "I", false)
def tyX3 : Nat → FieldType := fun k => match k with
  | 0 => .array .int
  | 1 => .array .int
  | 2 => .array .int
  | 3 => .array .int
  | 4 => .int
  | _ => .int
abbrev wsX30 : List Cond := u_ws RX3 TX3 6
theorem nmX3 : ∀ a, a < 6 → ∀ b, b < 6 → a ≠ b → (TX3 a).2.1 ≠ (TX3 b).2.1 := by decide +kernel
theorem tyX3_ok : ∀ k, k < 6 → parseFieldDescriptor (TX3 k).2.2.1 = some (tyX3 k) := by decide +kernel
abbrev cX3_init : ByteArray := prog_5_method_1_code
def yX3_init : MethodName := ⟨RX3, "<init>", "()V"⟩
abbrev cX3_copyFrom : ByteArray := prog_5_method_2_code
def yX3_copyFrom : MethodName := ⟨RX3, "copyFrom", "(LSeenPages$Table;)V"⟩
abbrev cX3_isSeen : ByteArray := prog_5_method_3_code
def yX3_isSeen : MethodName := ⟨RX3, "isSeen", "(II)Z"⟩
abbrev cX3_isSeenNow : ByteArray := prog_5_method_4_code
def yX3_isSeenNow : MethodName := ⟨RX3, "isSeenNow", "(I)Z"⟩
abbrev cX3_isMarked : ByteArray := prog_5_method_5_code
def yX3_isMarked : MethodName := ⟨RX3, "isMarked", "(I)Z"⟩
abbrev cX3_lowestEmptySlot : ByteArray := prog_5_method_6_code
def yX3_lowestEmptySlot : MethodName := ⟨RX3, "lowestEmptySlot", "()I"⟩
abbrev cX3_hasEmptySlot : ByteArray := prog_5_method_7_code
def yX3_hasEmptySlot : MethodName := ⟨RX3, "hasEmptySlot", "()Z"⟩
abbrev cX3_putValue : ByteArray := prog_5_method_8_code
def yX3_putValue : MethodName := ⟨RX3, "putValue", "(I)I"⟩
abbrev cX3_takeAway : ByteArray := prog_5_method_9_code
def yX3_takeAway : MethodName := ⟨RX3, "takeAway", "(I)Z"⟩
abbrev cX3_changeTo : ByteArray := prog_5_method_10_code
def yX3_changeTo : MethodName := ⟨RX3, "changeTo", "(II)I"⟩
abbrev cX3_come : ByteArray := prog_5_method_11_code
def yX3_come : MethodName := ⟨RX3, "come", "(II)V"⟩
abbrev cX3_go : ByteArray := prog_5_method_12_code
def yX3_go : MethodName := ⟨RX3, "go", "(I)V"⟩
abbrev cX3_isToTakeOut : ByteArray := prog_5_method_13_code
def yX3_isToTakeOut : MethodName := ⟨RX3, "isToTakeOut", "(II)Z"⟩
abbrev cX3_isSeenByAll : ByteArray := prog_5_method_14_code
def yX3_isSeenByAll : MethodName := ⟨RX3, "isSeenByAll", "(II)Z"⟩
abbrev cX3_empty : ByteArray := prog_5_method_15_code
def yX3_empty : MethodName := ⟨RX3, "empty", "(I)V"⟩
abbrev cX3_sweepPage : ByteArray := prog_5_method_16_code
def yX3_sweepPage : MethodName := ⟨RX3, "sweepPage", "(II)I"⟩
abbrev cX3_versions : ByteArray := prog_5_method_17_code
def yX3_versions : MethodName := ⟨RX3, "versions", "(II)I"⟩
abbrev cX3_versionsSeen : ByteArray := prog_5_method_18_code
def yX3_versionsSeen : MethodName := ⟨RX3, "versionsSeen", "(III)I"⟩
abbrev cX3_versionsToTakeOut : ByteArray := prog_5_method_19_code
def yX3_versionsToTakeOut : MethodName := ⟨RX3, "versionsToTakeOut", "(III)I"⟩
abbrev cX3_markedPages : ByteArray := prog_5_method_20_code
def yX3_markedPages : MethodName := ⟨RX3, "markedPages", "()I"⟩
abbrev cX3_mayTrustMarks : ByteArray := prog_5_method_21_code
def yX3_mayTrustMarks : MethodName := ⟨RX3, "mayTrustMarks", "(I)Z"⟩
abbrev cX3_answer : ByteArray := prog_5_method_22_code
def yX3_answer : MethodName := ⟨RX3, "answer", "(III)I"⟩
abbrev cX3_cost : ByteArray := prog_5_method_23_code
def yX3_cost : MethodName := ⟨RX3, "cost", "(III)I"⟩
abbrev cX3_indexHas : ByteArray := prog_5_method_24_code
def yX3_indexHas : MethodName := ⟨RX3, "indexHas", "(II)Z"⟩
def RX4 : String := "SeenPages$Tally"
def TX4 : u_T := fun k => match k with
  | 0 => ("SeenPages$Tally", "asked", "[I", true)
  | 1 => ("SeenPages$Tally", "marksNotTrusted", "I", false)
  | _ => ("SeenPages$Tally", "costs", "I", false)
def tyX4 : Nat → FieldType := fun k => match k with
  | 0 => .array .int
  | 1 => .int
  | _ => .int
abbrev wsX40 : List Cond := u_ws RX4 TX4 3
theorem nmX4 : ∀ a, a < 3 → ∀ b, b < 3 → a ≠ b → (TX4 a).2.1 ≠ (TX4 b).2.1 := by decide +kernel
theorem tyX4_ok : ∀ k, k < 3 → parseFieldDescriptor (TX4 k).2.2.1 = some (tyX4 k) := by decide +kernel
abbrev cX4_init : ByteArray := prog_6_method_1_code
def yX4_init : MethodName := ⟨RX4, "<init>", "()V"⟩
abbrev cX4_copyFrom : ByteArray := prog_6_method_2_code
def yX4_copyFrom : MethodName := ⟨RX4, "copyFrom", "(LSeenPages$Tally;)V"⟩
abbrev cX4_add : ByteArray := prog_6_method_3_code
def yX4_add : MethodName := ⟨RX4, "add", "(IIZ)V"⟩
def RX5 : String := "SeenPages$Text"
def TX5 : u_T := fun k => match k with
  | 0 => ("SeenPages$Text", "signs", "[C", true)
  | 1 => ("SeenPages$Text", "length", "I", false)
  | 2 => ("SeenPages$Text", "at", "I", false)
  | 3 => ("SeenPages$Text", "kind", "C", false)
  | 4 => ("SeenPages$Text", "place", "I", false)
  | _ => ("SeenPages$Text", "digit", "I", false)
def tyX5 : Nat → FieldType := fun k => match k with
  | 0 => .array .char
  | 1 => .int
  | 2 => .int
  | 3 => .char
  | 4 => .int
  | _ => .int
abbrev wsX50 : List Cond := u_ws RX5 TX5 6
theorem nmX5 : ∀ a, a < 6 → ∀ b, b < 6 → a ≠ b → (TX5 a).2.1 ≠ (TX5 b).2.1 := by decide +kernel
theorem tyX5_ok : ∀ k, k < 6 → parseFieldDescriptor (TX5 k).2.2.1 = some (tyX5 k) := by decide +kernel
abbrev cX5_init : ByteArray := prog_7_method_1_code
def yX5_init : MethodName := ⟨RX5, "<init>", "()V"⟩
def RX6 : String := "SeenPages"
def TX6 : u_T := fun k => match k with
  | 0 => ("SeenPages", "state", "LSeenPages$State;", true)
  | 1 => ("SeenPages", "history", "LSeenPages$History;", true)
  | _ => ("SeenPages", "text", "LSeenPages$Text;", true)
def tyX6 : Nat → FieldType := fun k => match k with
  | 0 => .object "SeenPages$State"
  | 1 => .object "SeenPages$History"
  | _ => .object "SeenPages$Text"
abbrev wsX60 : List Cond := u_ws RX6 TX6 3
theorem nmX6 : ∀ a, a < 3 → ∀ b, b < 3 → a ≠ b → (TX6 a).2.1 ≠ (TX6 b).2.1 := by decide +kernel
theorem tyX6_ok : ∀ k, k < 3 → parseFieldDescriptor (TX6 k).2.2.1 = some (tyX6 k) := by decide +kernel
abbrev cX6_init : ByteArray := prog_1_method_1_code
def yX6_init : MethodName := ⟨RX6, "<init>", "()V"⟩
abbrev cX6_put : ByteArray := prog_1_method_2_code
def yX6_put : MethodName := ⟨RX6, "put", "(I)I"⟩
abbrev cX6_take : ByteArray := prog_1_method_3_code
def yX6_take : MethodName := ⟨RX6, "take", "(I)I"⟩
abbrev cX6_change : ByteArray := prog_1_method_4_code
def yX6_change : MethodName := ⟨RX6, "change", "(II)I"⟩
abbrev cX6_open : ByteArray := prog_1_method_5_code
def yX6_open : MethodName := ⟨RX6, "open", "(I)I"⟩
abbrev cX6_close : ByteArray := prog_1_method_6_code
def yX6_close : MethodName := ⟨RX6, "close", "(I)I"⟩
abbrev cX6_sweep : ByteArray := prog_1_method_7_code
def yX6_sweep : MethodName := ⟨RX6, "sweep", "(I)I"⟩
abbrev cX6_sweepAll : ByteArray := prog_1_method_8_code
def yX6_sweepAll : MethodName := ⟨RX6, "sweepAll", "()I"⟩
abbrev cX6_ask : ByteArray := prog_1_method_9_code
def yX6_ask : MethodName := ⟨RX6, "ask", "(III)I"⟩
abbrev cX6_undo : ByteArray := prog_1_method_14_code
def yX6_undo : MethodName := ⟨RX6, "undo", "()I"⟩
abbrev cX6_slot : ByteArray := prog_1_method_15_code
def yX6_slot : MethodName := ⟨RX6, "slot", "(II)I"⟩
abbrev cX6_page : ByteArray := prog_1_method_16_code
def yX6_page : MethodName := ⟨RX6, "page", "(II)I"⟩
abbrev cX6_asker : ByteArray := prog_1_method_17_code
def yX6_asker : MethodName := ⟨RX6, "asker", "(II)I"⟩
abbrev cX6_count : ByteArray := prog_1_method_18_code
def yX6_count : MethodName := ⟨RX6, "count", "(I)I"⟩
abbrev cX6_ifAsked : ByteArray := prog_1_method_19_code
def yX6_ifAsked : MethodName := ⟨RX6, "ifAsked", "(IIII)I"⟩
abbrev cX6_marked : ByteArray := prog_1_method_23_code
def yX6_marked : MethodName := ⟨RX6, "marked", "()D"⟩
abbrev cX6_isOutside : ByteArray := prog_1_method_25_code
def yX6_isOutside : MethodName := ⟨RX6, "isOutside", "(II)Z"⟩
abbrev cX6_slotNumber : ByteArray := prog_1_method_26_code
def yX6_slotNumber : MethodName := ⟨RX6, "slotNumber", "(II)I"⟩
abbrev cX6_pageNumber : ByteArray := prog_1_method_27_code
def yX6_pageNumber : MethodName := ⟨RX6, "pageNumber", "(II)I"⟩
abbrev cX6_askerNumber : ByteArray := prog_1_method_28_code
def yX6_askerNumber : MethodName := ⟨RX6, "askerNumber", "(II)I"⟩
abbrev cX6_countNumber : ByteArray := prog_1_method_29_code
def yX6_countNumber : MethodName := ⟨RX6, "countNumber", "(I)I"⟩
abbrev cX6_markedShare : ByteArray := prog_1_method_31_code
def yX6_markedShare : MethodName := ⟨RX6, "markedShare", "()D"⟩
def RX7 : String := "SeenPagesModel"
def TX7 : u_T := fun k => match k with
  | _ => ("", "", "", false)
def tyX7 : Nat → FieldType := fun k => match k with
  | _ => .int
abbrev wsX70 : List Cond := u_ws RX7 TX7 0
theorem nmX7 : ∀ a, a < 0 → ∀ b, b < 0 → a ≠ b → (TX7 a).2.1 ≠ (TX7 b).2.1 := by decide +kernel
theorem tyX7_ok : ∀ k, k < 0 → parseFieldDescriptor (TX7 k).2.2.1 = some (tyX7 k) := by decide +kernel
def RJx145de : String := "java/io/Serializable"
def TJx145de : u_T := fun k => match k with
  | _ => ("", "", "", false)
def tyJx145de : Nat → FieldType := fun k => match k with
  | _ => .int
abbrev wsJx145de0 : List Cond := u_ws RJx145de TJx145de 0
theorem nmJx145de : ∀ a, a < 0 → ∀ b, b < 0 → a ≠ b → (TJx145de a).2.1 ≠ (TJx145de b).2.1 := by decide +kernel
theorem tyJx145de_ok : ∀ k, k < 0 → parseFieldDescriptor (TJx145de k).2.2.1 = some (tyJx145de k) := by decide +kernel
def RJ0 : String := "java/lang/String"
def TJ0 : u_T := fun k => match k with
  | _ => ("", "", "", false)
def tyJ0 : Nat → FieldType := fun k => match k with
  | _ => .int
abbrev wsJ00 : List Cond := u_ws RJ0 TJ0 0
theorem nmJ0 : ∀ a, a < 0 → ∀ b, b < 0 → a ≠ b → (TJ0 a).2.1 ≠ (TJ0 b).2.1 := by decide +kernel
theorem tyJ0_ok : ∀ k, k < 0 → parseFieldDescriptor (TJ0 k).2.2.1 = some (tyJ0 k) := by decide +kernel
def RJ10 : String := "java/lang/System"
def TJ10 : u_T := fun k => match k with
  | _ => ("", "", "", false)
def tyJ10 : Nat → FieldType := fun k => match k with
  | _ => .int
abbrev wsJ100 : List Cond := u_ws RJ10 TJ10 0
theorem nmJ10 : ∀ a, a < 0 → ∀ b, b < 0 → a ≠ b → (TJ10 a).2.1 ≠ (TJ10 b).2.1 := by decide +kernel
theorem tyJ10_ok : ∀ k, k < 0 → parseFieldDescriptor (TJ10 k).2.2.1 = some (tyJ10 k) := by decide +kernel
def RJ7 : String := "java/util/Arrays"
def TJ7 : u_T := fun k => match k with
  | _ => ("", "", "", false)
def tyJ7 : Nat → FieldType := fun k => match k with
  | _ => .int
abbrev wsJ70 : List Cond := u_ws RJ7 TJ7 0
theorem nmJ7 : ∀ a, a < 0 → ∀ b, b < 0 → a ≠ b → (TJ7 a).2.1 ≠ (TJ7 b).2.1 := by decide +kernel
theorem tyJ7_ok : ∀ k, k < 0 → parseFieldDescriptor (TJ7 k).2.2.1 = some (tyJ7 k) := by decide +kernel
abbrev cJ7_fill_53178 : ByteArray := prog_18_method_103_code
def yJ7_fill_53178 : MethodName := ⟨RJ7, "fill", "([II)V"⟩
def RL : String := "SeenPagesLaw"
abbrev cL_cell : ByteArray := method_2_code
def yL_cell : MethodName := ⟨RL, "cell", "([II)I"⟩
abbrev cL_low : ByteArray := method_3_code
def yL_low : MethodName := ⟨RL, "low", "(II)I"⟩
abbrev cL_told : ByteArray := method_4_code
def yL_told : MethodName := ⟨RL, "told", "(LSeenPages;)J"⟩
abbrev cL_act : ByteArray := method_5_code
def yL_act : MethodName := ⟨RL, "act", "(LSeenPages;II)I"⟩
abbrev cL_holds : ByteArray := method_6_code
def yL_holds : MethodName := ⟨RL, "holds", "(LSeenPages;I)Z"⟩
abbrev cL_law : ByteArray := code
def yL_law : MethodName := ⟨RL, "law", "([I)Z"⟩
theorem inJx145de : ∀ w ∈ wsJx145de0, w ∈ lw_tbl := by decide +kernel
theorem inJ0 : ∀ w ∈ wsJ00, w ∈ lw_tbl := by decide +kernel
theorem inJ10 : ∀ w ∈ wsJ100, w ∈ lw_tbl := by decide +kernel
theorem inJ7 : ∀ w ∈ wsJ70, w ∈ lw_tbl := by decide +kernel
abbrev vwCl : List vw_C := [(RX0, TX0, 2), (RX1, TX1, 3), (RX2, TX2, 3), (RX3, TX3, 6), (RX4, TX4, 3), (RX5, TX5, 6), (RX6, TX6, 3)]
/-- the words that every method of ours stands on: those of the tables that a call may take along -/
def wAll : List Cond := lw_tbl.filter goodWord
theorem wAll_tbl : ∀ w ∈ wAll, w ∈ lw_tbl := fun _ h => (List.mem_filter.mp h).1
theorem wAll_good (c0 : Cond) : GoodIn (c0 :: wAll) wAll := fun _ h => ⟨List.mem_cons_of_mem _ h, good_of_word (List.mem_filter.mp h).2⟩
theorem wAll_goodA : GoodIn wAll wAll := fun _ h => ⟨h, good_of_word (List.mem_filter.mp h).2⟩
theorem tb_1 {w : Cond} (h : w ∈ tables_1_1) (g : goodWord w = true) : w ∈ wAll := List.mem_filter.mpr ⟨List.mem_append_right _ (List.mem_append_left _ h), g⟩
theorem tb_2 {w : Cond} (h : w ∈ tables_1_2) (g : goodWord w = true) : w ∈ wAll := List.mem_filter.mpr ⟨List.mem_append_right _ (List.mem_append_right _ (List.mem_append_left _ h)), g⟩
theorem tb_3 {w : Cond} (h : w ∈ tables_1_3) (g : goodWord w = true) : w ∈ wAll := List.mem_filter.mpr ⟨List.mem_append_right _ (List.mem_append_right _ (List.mem_append_right _ h)), g⟩
theorem tb_0 {q : MethodName × Nat} (h : q ∈ lw_privs) : Cond.selects q.1.cls q.1 q.1 ∈ wAll := List.mem_filter.mpr ⟨List.mem_append_left _ (List.mem_map.mpr ⟨q, h, rfl⟩), rfl⟩
theorem in_L : Cond.initialized RL ∈ wAll := tb_1 (List.mem_of_getElem? (i := 0) rfl) rfl
theorem in_X6 : Cond.initialized RX6 ∈ wAll := tb_1 (List.mem_of_getElem? (i := 1) rfl) rfl
theorem in_X2 : Cond.initialized RX2 ∈ wAll := tb_1 (List.mem_of_getElem? (i := 2) rfl) rfl
theorem in_X3 : Cond.initialized RX3 ∈ wAll := tb_1 (List.mem_of_getElem? (i := 3) rfl) rfl
theorem in_J7 : Cond.initialized RJ7 ∈ wAll := tb_1 (List.mem_of_getElem? (i := 4) rfl) rfl
theorem in_X0 : Cond.initialized RX0 ∈ wAll := tb_1 (List.mem_of_getElem? (i := 5) rfl) rfl
theorem in_X4 : Cond.initialized RX4 ∈ wAll := tb_1 (List.mem_of_getElem? (i := 6) rfl) rfl
theorem in_X1 : Cond.initialized RX1 ∈ wAll := tb_1 (List.mem_of_getElem? (i := 7) rfl) rfl
theorem in_X5 : Cond.initialized RX5 ∈ wAll := tb_1 (List.mem_of_getElem? (i := 8) rfl) rfl
theorem in_javalangThrowable : Cond.initialized "java/lang/Throwable" ∈ wAll := tb_1 (List.mem_of_getElem? (i := 9) rfl) rfl
theorem in_javalangException : Cond.initialized "java/lang/Exception" ∈ wAll := tb_1 (List.mem_of_getElem? (i := 10) rfl) rfl
theorem in_javalangRuntimeException : Cond.initialized "java/lang/RuntimeException" ∈ wAll := tb_1 (List.mem_of_getElem? (i := 11) rfl) rfl
theorem in_javalangIllegalArgumentException : Cond.initialized "java/lang/IllegalArgumentException" ∈ wAll := tb_1 (List.mem_of_getElem? (i := 12) rfl) rfl
theorem in_javalangIllegalStateException : Cond.initialized "java/lang/IllegalStateException" ∈ wAll := tb_1 (List.mem_of_getElem? (i := 13) rfl) rfl
theorem in_J10 : Cond.initialized RJ10 ∈ wAll := tb_1 (List.mem_of_getElem? (i := 14) rfl) rfl
theorem in_javalangIndexOutOfBoundsException : Cond.initialized "java/lang/IndexOutOfBoundsException" ∈ wAll := tb_1 (List.mem_of_getElem? (i := 15) rfl) rfl
theorem cl_L_13 : Cond.classLink RL 13 RX6 ∈ wAll := tb_1 (List.mem_of_getElem? (i := 16) rfl) rfl
theorem it_X6 : Cond.instantiable RX6 3 ∈ wAll := tb_1 (List.mem_of_getElem? (i := 17) rfl) rfl
theorem ml_L_69 : Cond.methodLink RL 69 yX6_init ∈ wAll := tb_1 (List.mem_of_getElem? (i := 18) rfl) rfl
theorem im_X6_init : Cond.instanceMethod yX6_init ∈ wAll := tb_1 (List.mem_of_getElem? (i := 19) rfl) rfl
theorem co_X6_init : Cond.code yX6_init cX6_init 1 none ∈ wAll := tb_1 (List.mem_of_getElem? (i := 20) rfl) rfl
theorem ml_X6_3 : Cond.methodLink RX6 3 objectInit ∈ wAll := tb_1 (List.mem_of_getElem? (i := 21) rfl) rfl
theorem im_objectInit : Cond.instanceMethod objectInit ∈ wAll := tb_1 (List.mem_of_getElem? (i := 22) rfl) rfl
theorem co_objectInit : Cond.code objectInit ⟨#[0xb1]⟩ 1 none ∈ wAll := tb_1 (List.mem_of_getElem? (i := 23) rfl) rfl
theorem cl_X6_9 : Cond.classLink RX6 9 RX2 ∈ wAll := tb_1 (List.mem_of_getElem? (i := 24) rfl) rfl
theorem it_X2 : Cond.instantiable RX2 3 ∈ wAll := tb_1 (List.mem_of_getElem? (i := 25) rfl) rfl
theorem im_X2_init : Cond.instanceMethod yX2_init ∈ wAll := tb_1 (List.mem_of_getElem? (i := 27) rfl) rfl
theorem co_X2_init : Cond.code yX2_init cX2_init 1 none ∈ wAll := tb_1 (List.mem_of_getElem? (i := 28) rfl) rfl
theorem ml_X2_3 : Cond.methodLink RX2 3 objectInit ∈ wAll := tb_1 (List.mem_of_getElem? (i := 29) rfl) rfl
theorem cl_X2_9 : Cond.classLink RX2 9 RX3 ∈ wAll := tb_1 (List.mem_of_getElem? (i := 30) rfl) rfl
theorem it_X3 : Cond.instantiable RX3 6 ∈ wAll := tb_1 (List.mem_of_getElem? (i := 31) rfl) rfl
theorem ml_X2_11 : Cond.methodLink RX2 11 yX3_init ∈ wAll := tb_1 (List.mem_of_getElem? (i := 32) rfl) rfl
theorem im_X3_init : Cond.instanceMethod yX3_init ∈ wAll := tb_1 (List.mem_of_getElem? (i := 33) rfl) rfl
theorem co_X3_init : Cond.code yX3_init cX3_init 1 none ∈ wAll := tb_1 (List.mem_of_getElem? (i := 34) rfl) rfl
theorem ml_X3_3 : Cond.methodLink RX3 3 objectInit ∈ wAll := tb_1 (List.mem_of_getElem? (i := 35) rfl) rfl
theorem ml_X3_24 : Cond.methodLink RX3 24 yJ7_fill_53178 ∈ wAll := tb_1 (List.mem_of_getElem? (i := 36) rfl) rfl
theorem st_J7_fill_53178 : Cond.static yJ7_fill_53178 ∈ wAll := tb_1 (List.mem_of_getElem? (i := 37) rfl) rfl
theorem co_J7_fill_53178 : Cond.code yJ7_fill_53178 cJ7_fill_53178 4 none ∈ wAll := tb_1 (List.mem_of_getElem? (i := 38) rfl) rfl
theorem fl_X3_9 : Cond.fieldLink RX3 9 "SeenPages$Table" "values" "[I" ∈ wAll := tb_1 (List.mem_of_getElem? (i := 39) rfl) rfl
theorem fl_X6_78 : Cond.fieldLink RX6 78 "SeenPages$Table" "values" "[I" ∈ wAll := tb_1 (List.mem_of_getElem? (i := 40) rfl) rfl
theorem fl_X3_15 : Cond.fieldLink RX3 15 "SeenPages$Table" "cameBy" "[I" ∈ wAll := tb_1 (List.mem_of_getElem? (i := 41) rfl) rfl
theorem fl_X6_233 : Cond.fieldLink RX6 233 "SeenPages$Table" "cameBy" "[I" ∈ wAll := tb_1 (List.mem_of_getElem? (i := 42) rfl) rfl
theorem fl_X3_18 : Cond.fieldLink RX3 18 "SeenPages$Table" "wentBy" "[I" ∈ wAll := tb_1 (List.mem_of_getElem? (i := 43) rfl) rfl
theorem fl_X6_236 : Cond.fieldLink RX6 236 "SeenPages$Table" "wentBy" "[I" ∈ wAll := tb_1 (List.mem_of_getElem? (i := 44) rfl) rfl
theorem fl_X3_21 : Cond.fieldLink RX3 21 "SeenPages$Table" "markedBy" "[I" ∈ wAll := tb_1 (List.mem_of_getElem? (i := 45) rfl) rfl
theorem fl_X6_251 : Cond.fieldLink RX6 251 "SeenPages$Table" "markedBy" "[I" ∈ wAll := tb_1 (List.mem_of_getElem? (i := 46) rfl) rfl
theorem fl_X3_36 : Cond.fieldLink RX3 36 "SeenPages$Table" "clock" "I" ∈ wAll := tb_1 (List.mem_of_getElem? (i := 47) rfl) rfl
theorem fl_X2_42 : Cond.fieldLink RX2 42 "SeenPages$Table" "clock" "I" ∈ wAll := tb_1 (List.mem_of_getElem? (i := 48) rfl) rfl
theorem fl_X6_99 : Cond.fieldLink RX6 99 "SeenPages$Table" "clock" "I" ∈ wAll := tb_1 (List.mem_of_getElem? (i := 49) rfl) rfl
theorem fl_X3_40 : Cond.fieldLink RX3 40 "SeenPages$Table" "takenOut" "I" ∈ wAll := tb_1 (List.mem_of_getElem? (i := 50) rfl) rfl
theorem fl_X6_261 : Cond.fieldLink RX6 261 "SeenPages$Table" "takenOut" "I" ∈ wAll := tb_1 (List.mem_of_getElem? (i := 51) rfl) rfl
theorem ac_int : Cond.arrayClass .int ∈ wAll := tb_1 (List.mem_of_getElem? (i := 65) rfl) rfl
theorem cl_X2_18 : Cond.classLink RX2 18 RX0 ∈ wAll := tb_1 (List.mem_of_getElem? (i := 66) rfl) rfl
theorem it_X0 : Cond.instantiable RX0 2 ∈ wAll := tb_1 (List.mem_of_getElem? (i := 67) rfl) rfl
theorem ml_X2_20 : Cond.methodLink RX2 20 yX0_init ∈ wAll := tb_1 (List.mem_of_getElem? (i := 68) rfl) rfl
theorem im_X0_init : Cond.instanceMethod yX0_init ∈ wAll := tb_1 (List.mem_of_getElem? (i := 69) rfl) rfl
theorem co_X0_init : Cond.code yX0_init cX0_init 1 none ∈ wAll := tb_1 (List.mem_of_getElem? (i := 70) rfl) rfl
theorem ml_X0_3 : Cond.methodLink RX0 3 objectInit ∈ wAll := tb_1 (List.mem_of_getElem? (i := 71) rfl) rfl
theorem ml_X0_18 : Cond.methodLink RX0 18 yJ7_fill_53178 ∈ wAll := tb_1 (List.mem_of_getElem? (i := 72) rfl) rfl
theorem fl_X0_9 : Cond.fieldLink RX0 9 "SeenPages$Askers" "snapshots" "[I" ∈ wAll := tb_1 (List.mem_of_getElem? (i := 73) rfl) rfl
theorem fl_X6_94 : Cond.fieldLink RX6 94 "SeenPages$Askers" "snapshots" "[I" ∈ wAll := tb_1 (List.mem_of_getElem? (i := 74) rfl) rfl
theorem fl_X0_15 : Cond.fieldLink RX0 15 "SeenPages$Askers" "asked" "[I" ∈ wAll := tb_1 (List.mem_of_getElem? (i := 75) rfl) rfl
theorem fl_X6_119 : Cond.fieldLink RX6 119 "SeenPages$Askers" "asked" "[I" ∈ wAll := tb_1 (List.mem_of_getElem? (i := 76) rfl) rfl
theorem cl_X2_25 : Cond.classLink RX2 25 RX4 ∈ wAll := tb_1 (List.mem_of_getElem? (i := 82) rfl) rfl
theorem it_X4 : Cond.instantiable RX4 3 ∈ wAll := tb_1 (List.mem_of_getElem? (i := 83) rfl) rfl
theorem im_X4_init : Cond.instanceMethod yX4_init ∈ wAll := tb_1 (List.mem_of_getElem? (i := 85) rfl) rfl
theorem co_X4_init : Cond.code yX4_init cX4_init 1 none ∈ wAll := tb_1 (List.mem_of_getElem? (i := 86) rfl) rfl
theorem ml_X4_3 : Cond.methodLink RX4 3 objectInit ∈ wAll := tb_1 (List.mem_of_getElem? (i := 87) rfl) rfl
theorem fl_X4_9 : Cond.fieldLink RX4 9 "SeenPages$Tally" "asked" "[I" ∈ wAll := tb_1 (List.mem_of_getElem? (i := 88) rfl) rfl
theorem fl_X6_254 : Cond.fieldLink RX6 254 "SeenPages$Tally" "asked" "[I" ∈ wAll := tb_1 (List.mem_of_getElem? (i := 89) rfl) rfl
theorem fl_X4_21 : Cond.fieldLink RX4 21 "SeenPages$Tally" "marksNotTrusted" "I" ∈ wAll := tb_1 (List.mem_of_getElem? (i := 90) rfl) rfl
theorem fl_X6_255 : Cond.fieldLink RX6 255 "SeenPages$Tally" "marksNotTrusted" "I" ∈ wAll := tb_1 (List.mem_of_getElem? (i := 91) rfl) rfl
theorem fl_X4_25 : Cond.fieldLink RX4 25 "SeenPages$Tally" "costs" "I" ∈ wAll := tb_1 (List.mem_of_getElem? (i := 92) rfl) rfl
theorem fl_X6_258 : Cond.fieldLink RX6 258 "SeenPages$Tally" "costs" "I" ∈ wAll := tb_1 (List.mem_of_getElem? (i := 93) rfl) rfl
theorem fl_X2_12 : Cond.fieldLink RX2 12 "SeenPages$State" "table" "LSeenPages$Table;" ∈ wAll := tb_1 (List.mem_of_getElem? (i := 101) rfl) rfl
theorem fl_X6_41 : Cond.fieldLink RX6 41 "SeenPages$State" "table" "LSeenPages$Table;" ∈ wAll := tb_1 (List.mem_of_getElem? (i := 102) rfl) rfl
theorem fl_X2_21 : Cond.fieldLink RX2 21 "SeenPages$State" "askers" "LSeenPages$Askers;" ∈ wAll := tb_1 (List.mem_of_getElem? (i := 103) rfl) rfl
theorem fl_X6_90 : Cond.fieldLink RX6 90 "SeenPages$State" "askers" "LSeenPages$Askers;" ∈ wAll := tb_1 (List.mem_of_getElem? (i := 104) rfl) rfl
theorem fl_X2_28 : Cond.fieldLink RX2 28 "SeenPages$State" "tally" "LSeenPages$Tally;" ∈ wAll := tb_1 (List.mem_of_getElem? (i := 105) rfl) rfl
theorem fl_X6_122 : Cond.fieldLink RX6 122 "SeenPages$State" "tally" "LSeenPages$Tally;" ∈ wAll := tb_1 (List.mem_of_getElem? (i := 106) rfl) rfl
theorem cl_X6_16 : Cond.classLink RX6 16 RX1 ∈ wAll := tb_1 (List.mem_of_getElem? (i := 114) rfl) rfl
theorem it_X1 : Cond.instantiable RX1 3 ∈ wAll := tb_1 (List.mem_of_getElem? (i := 115) rfl) rfl
theorem ml_X6_18 : Cond.methodLink RX6 18 yX1_init ∈ wAll := tb_1 (List.mem_of_getElem? (i := 116) rfl) rfl
theorem im_X1_init : Cond.instanceMethod yX1_init ∈ wAll := tb_1 (List.mem_of_getElem? (i := 117) rfl) rfl
theorem co_X1_init : Cond.code yX1_init cX1_init 2 none ∈ wAll := tb_1 (List.mem_of_getElem? (i := 118) rfl) rfl
theorem ml_X1_3 : Cond.methodLink RX1 3 objectInit ∈ wAll := tb_1 (List.mem_of_getElem? (i := 119) rfl) rfl
theorem cl_X1_9 : Cond.classLink RX1 9 RX2 ∈ wAll := tb_1 (List.mem_of_getElem? (i := 120) rfl) rfl
theorem fl_X1_11 : Cond.fieldLink RX1 11 "SeenPages$History" "rows" "[LSeenPages$State;" ∈ wAll := tb_1 (List.mem_of_getElem? (i := 123) rfl) rfl
theorem fl_X1_18 : Cond.fieldLink RX1 18 "SeenPages$History" "next" "I" ∈ wAll := tb_1 (List.mem_of_getElem? (i := 124) rfl) rfl
theorem fl_X1_26 : Cond.fieldLink RX1 26 "SeenPages$History" "size" "I" ∈ wAll := tb_1 (List.mem_of_getElem? (i := 125) rfl) rfl
theorem fl_X6_166 : Cond.fieldLink RX6 166 "SeenPages$History" "size" "I" ∈ wAll := tb_1 (List.mem_of_getElem? (i := 126) rfl) rfl
theorem cl_X6_23 : Cond.classLink RX6 23 RX5 ∈ wAll := tb_1 (List.mem_of_getElem? (i := 134) rfl) rfl
theorem it_X5 : Cond.instantiable RX5 6 ∈ wAll := tb_1 (List.mem_of_getElem? (i := 135) rfl) rfl
theorem im_X5_init : Cond.instanceMethod yX5_init ∈ wAll := tb_1 (List.mem_of_getElem? (i := 137) rfl) rfl
theorem co_X5_init : Cond.code yX5_init cX5_init 1 none ∈ wAll := tb_1 (List.mem_of_getElem? (i := 138) rfl) rfl
theorem ml_X5_3 : Cond.methodLink RX5 3 objectInit ∈ wAll := tb_1 (List.mem_of_getElem? (i := 139) rfl) rfl
theorem fl_X5_9 : Cond.fieldLink RX5 9 "SeenPages$Text" "signs" "[C" ∈ wAll := tb_1 (List.mem_of_getElem? (i := 140) rfl) rfl
theorem ac_char : Cond.arrayClass .char ∈ wAll := tb_1 (List.mem_of_getElem? (i := 154) rfl) rfl
theorem fl_X6_12 : Cond.fieldLink RX6 12 "SeenPages" "state" "LSeenPages$State;" ∈ wAll := tb_1 (List.mem_of_getElem? (i := 155) rfl) rfl
theorem fl_X6_19 : Cond.fieldLink RX6 19 "SeenPages" "history" "LSeenPages$History;" ∈ wAll := tb_1 (List.mem_of_getElem? (i := 156) rfl) rfl
theorem fl_X6_26 : Cond.fieldLink RX6 26 "SeenPages" "text" "LSeenPages$Text;" ∈ wAll := tb_1 (List.mem_of_getElem? (i := 157) rfl) rfl
theorem ml_L_74 : Cond.methodLink RL 74 yX6_undo ∈ wAll := tb_1 (List.mem_of_getElem? (i := 165) rfl) rfl
theorem im_X6_undo : Cond.instanceMethod yX6_undo ∈ wAll := tb_1 (List.mem_of_getElem? (i := 166) rfl) rfl
theorem se_X6_undo : Cond.selects RX6 yX6_undo yX6_undo ∈ wAll := tb_1 (List.mem_of_getElem? (i := 167) rfl) rfl
theorem co_X6_undo : Cond.code yX6_undo cX6_undo 1 (some .int) ∈ wAll := tb_1 (List.mem_of_getElem? (i := 168) rfl) rfl
theorem cl_X6_51 : Cond.classLink RX6 51 "java/lang/IllegalStateException" ∈ wAll := tb_1 (List.mem_of_getElem? (i := 169) rfl) rfl
theorem it_javalangIllegalStateException : Cond.instantiable "java/lang/IllegalStateException" 6 ∈ wAll := tb_1 (List.mem_of_getElem? (i := 170) rfl) rfl
theorem it_javalangThrowable : Cond.instantiable "java/lang/Throwable" 6 ∈ wAll := tb_1 (List.mem_of_getElem? (i := 208) rfl) rfl
theorem ac_byte : Cond.arrayClass .byte ∈ wAll := tb_1 (List.mem_of_getElem? (i := 236) rfl) rfl
theorem ml_X6_171 : Cond.methodLink RX6 171 yX1_restore ∈ wAll := tb_1 (List.mem_of_getElem? (i := 237) rfl) rfl
theorem im_X1_restore : Cond.instanceMethod yX1_restore ∈ wAll := tb_1 (List.mem_of_getElem? (i := 238) rfl) rfl
theorem se_X1_restore : Cond.selects RX1 yX1_restore yX1_restore ∈ wAll := tb_1 (List.mem_of_getElem? (i := 239) rfl) rfl
theorem co_X1_restore : Cond.code yX1_restore cX1_restore 2 none ∈ wAll := tb_2 (List.mem_of_getElem? (i := 0) rfl) rfl
theorem ml_X1_22 : Cond.methodLink RX1 22 yX2_copyFrom ∈ wAll := tb_2 (List.mem_of_getElem? (i := 1) rfl) rfl
theorem im_X2_copyFrom : Cond.instanceMethod yX2_copyFrom ∈ wAll := tb_2 (List.mem_of_getElem? (i := 2) rfl) rfl
theorem se_X2_copyFrom : Cond.selects RX2 yX2_copyFrom yX2_copyFrom ∈ wAll := tb_2 (List.mem_of_getElem? (i := 3) rfl) rfl
theorem co_X2_copyFrom : Cond.code yX2_copyFrom cX2_copyFrom 2 none ∈ wAll := tb_2 (List.mem_of_getElem? (i := 4) rfl) rfl
theorem ml_X2_32 : Cond.methodLink RX2 32 yX3_copyFrom ∈ wAll := tb_2 (List.mem_of_getElem? (i := 5) rfl) rfl
theorem im_X3_copyFrom : Cond.instanceMethod yX3_copyFrom ∈ wAll := tb_2 (List.mem_of_getElem? (i := 6) rfl) rfl
theorem se_X3_copyFrom : Cond.selects RX3 yX3_copyFrom yX3_copyFrom ∈ wAll := tb_2 (List.mem_of_getElem? (i := 7) rfl) rfl
theorem co_X3_copyFrom : Cond.code yX3_copyFrom cX3_copyFrom 2 none ∈ wAll := tb_2 (List.mem_of_getElem? (i := 8) rfl) rfl
theorem ml_X3_30 : Cond.methodLink RX3 30 arraycopyName ∈ wAll := tb_2 (List.mem_of_getElem? (i := 9) rfl) rfl
theorem st_arraycopy : Cond.static arraycopyName ∈ wAll := tb_2 (List.mem_of_getElem? (i := 10) rfl) rfl
theorem na_arraycopy : Cond.native arraycopyName ∈ wAll := tb_2 (List.mem_of_getElem? (i := 11) rfl) rfl
theorem ml_X2_36 : Cond.methodLink RX2 36 yX0_copyFrom ∈ wAll := tb_2 (List.mem_of_getElem? (i := 12) rfl) rfl
theorem im_X0_copyFrom : Cond.instanceMethod yX0_copyFrom ∈ wAll := tb_2 (List.mem_of_getElem? (i := 13) rfl) rfl
theorem se_X0_copyFrom : Cond.selects RX0 yX0_copyFrom yX0_copyFrom ∈ wAll := tb_2 (List.mem_of_getElem? (i := 14) rfl) rfl
theorem co_X0_copyFrom : Cond.code yX0_copyFrom cX0_copyFrom 2 none ∈ wAll := tb_2 (List.mem_of_getElem? (i := 15) rfl) rfl
theorem ml_X0_24 : Cond.methodLink RX0 24 arraycopyName ∈ wAll := tb_2 (List.mem_of_getElem? (i := 16) rfl) rfl
theorem ml_X2_39 : Cond.methodLink RX2 39 yX4_copyFrom ∈ wAll := tb_2 (List.mem_of_getElem? (i := 17) rfl) rfl
theorem im_X4_copyFrom : Cond.instanceMethod yX4_copyFrom ∈ wAll := tb_2 (List.mem_of_getElem? (i := 18) rfl) rfl
theorem se_X4_copyFrom : Cond.selects RX4 yX4_copyFrom yX4_copyFrom ∈ wAll := tb_2 (List.mem_of_getElem? (i := 19) rfl) rfl
theorem co_X4_copyFrom : Cond.code yX4_copyFrom cX4_copyFrom 2 none ∈ wAll := tb_2 (List.mem_of_getElem? (i := 20) rfl) rfl
theorem ml_X4_15 : Cond.methodLink RX4 15 arraycopyName ∈ wAll := tb_2 (List.mem_of_getElem? (i := 21) rfl) rfl
theorem ml_L_12 : Cond.methodLink RL 12 yX6_count ∈ wAll := tb_2 (List.mem_of_getElem? (i := 22) rfl) rfl
theorem im_X6_count : Cond.instanceMethod yX6_count ∈ wAll := tb_2 (List.mem_of_getElem? (i := 23) rfl) rfl
theorem se_X6_count : Cond.selects RX6 yX6_count yX6_count ∈ wAll := tb_2 (List.mem_of_getElem? (i := 24) rfl) rfl
theorem co_X6_count : Cond.code yX6_count cX6_count 2 (some .int) ∈ wAll := tb_2 (List.mem_of_getElem? (i := 25) rfl) rfl
theorem ml_X6_30 : Cond.methodLink RX6 30 yX6_isOutside ∈ wAll := tb_2 (List.mem_of_getElem? (i := 26) rfl) rfl
theorem st_X6_isOutside : Cond.static yX6_isOutside ∈ wAll := tb_2 (List.mem_of_getElem? (i := 27) rfl) rfl
theorem co_X6_isOutside : Cond.code yX6_isOutside cX6_isOutside 2 (some .boolean) ∈ wAll := tb_2 (List.mem_of_getElem? (i := 28) rfl) rfl
theorem cl_X6_34 : Cond.classLink RX6 34 "java/lang/IllegalArgumentException" ∈ wAll := tb_2 (List.mem_of_getElem? (i := 29) rfl) rfl
theorem it_javalangIllegalArgumentException : Cond.instantiable "java/lang/IllegalArgumentException" 6 ∈ wAll := tb_2 (List.mem_of_getElem? (i := 30) rfl) rfl
theorem ml_X6_191 : Cond.methodLink RX6 191 yX6_countNumber ∈ wAll := tb_2 (List.mem_of_getElem? (i := 45) rfl) rfl
theorem im_X6_countNumber : Cond.instanceMethod yX6_countNumber ∈ wAll := tb_2 (List.mem_of_getElem? (i := 47) rfl) rfl
theorem co_X6_countNumber : Cond.code yX6_countNumber cX6_countNumber 3 (some .int) ∈ wAll := tb_2 (List.mem_of_getElem? (i := 48) rfl) rfl
theorem ml_X6_107 : Cond.methodLink RX6 107 yX2_horizon ∈ wAll := tb_2 (List.mem_of_getElem? (i := 49) rfl) rfl
theorem im_X2_horizon : Cond.instanceMethod yX2_horizon ∈ wAll := tb_2 (List.mem_of_getElem? (i := 50) rfl) rfl
theorem se_X2_horizon : Cond.selects RX2 yX2_horizon yX2_horizon ∈ wAll := tb_2 (List.mem_of_getElem? (i := 51) rfl) rfl
theorem co_X2_horizon : Cond.code yX2_horizon cX2_horizon 1 (some .int) ∈ wAll := tb_2 (List.mem_of_getElem? (i := 52) rfl) rfl
theorem ml_X2_46 : Cond.methodLink RX2 46 yX0_horizonWithout ∈ wAll := tb_2 (List.mem_of_getElem? (i := 53) rfl) rfl
theorem im_X0_horizonWithout : Cond.instanceMethod yX0_horizonWithout ∈ wAll := tb_2 (List.mem_of_getElem? (i := 54) rfl) rfl
theorem se_X0_horizonWithout : Cond.selects RX0 yX0_horizonWithout yX0_horizonWithout ∈ wAll := tb_2 (List.mem_of_getElem? (i := 55) rfl) rfl
theorem co_X0_horizonWithout : Cond.code yX0_horizonWithout cX0_horizonWithout 5 (some .int) ∈ wAll := tb_2 (List.mem_of_getElem? (i := 56) rfl) rfl
theorem ml_X6_242 : Cond.methodLink RX6 242 yX3_versions ∈ wAll := tb_2 (List.mem_of_getElem? (i := 57) rfl) rfl
theorem im_X3_versions : Cond.instanceMethod yX3_versions ∈ wAll := tb_2 (List.mem_of_getElem? (i := 58) rfl) rfl
theorem se_X3_versions : Cond.selects RX3 yX3_versions yX3_versions ∈ wAll := tb_2 (List.mem_of_getElem? (i := 59) rfl) rfl
theorem co_X3_versions : Cond.code yX3_versions cX3_versions 5 (some .int) ∈ wAll := tb_2 (List.mem_of_getElem? (i := 60) rfl) rfl
theorem ml_X6_245 : Cond.methodLink RX6 245 yX3_versionsSeen ∈ wAll := tb_2 (List.mem_of_getElem? (i := 61) rfl) rfl
theorem im_X3_versionsSeen : Cond.instanceMethod yX3_versionsSeen ∈ wAll := tb_2 (List.mem_of_getElem? (i := 62) rfl) rfl
theorem se_X3_versionsSeen : Cond.selects RX3 yX3_versionsSeen yX3_versionsSeen ∈ wAll := tb_2 (List.mem_of_getElem? (i := 63) rfl) rfl
theorem co_X3_versionsSeen : Cond.code yX3_versionsSeen cX3_versionsSeen 6 (some .int) ∈ wAll := tb_2 (List.mem_of_getElem? (i := 64) rfl) rfl
theorem ml_X3_43 : Cond.methodLink RX3 43 yX3_isSeen ∈ wAll := tb_2 (List.mem_of_getElem? (i := 65) rfl) rfl
theorem im_X3_isSeen : Cond.instanceMethod yX3_isSeen ∈ wAll := tb_2 (List.mem_of_getElem? (i := 66) rfl) rfl
theorem se_X3_isSeen : Cond.selects RX3 yX3_isSeen yX3_isSeen ∈ wAll := tb_2 (List.mem_of_getElem? (i := 67) rfl) rfl
theorem co_X3_isSeen : Cond.code yX3_isSeen cX3_isSeen 3 (some .boolean) ∈ wAll := tb_2 (List.mem_of_getElem? (i := 68) rfl) rfl
theorem ml_X6_114 : Cond.methodLink RX6 114 yX3_markedPages ∈ wAll := tb_2 (List.mem_of_getElem? (i := 69) rfl) rfl
theorem im_X3_markedPages : Cond.instanceMethod yX3_markedPages ∈ wAll := tb_2 (List.mem_of_getElem? (i := 70) rfl) rfl
theorem se_X3_markedPages : Cond.selects RX3 yX3_markedPages yX3_markedPages ∈ wAll := tb_2 (List.mem_of_getElem? (i := 71) rfl) rfl
theorem co_X3_markedPages : Cond.code yX3_markedPages cX3_markedPages 3 (some .int) ∈ wAll := tb_2 (List.mem_of_getElem? (i := 72) rfl) rfl
theorem ml_X3_72 : Cond.methodLink RX3 72 yX3_isMarked ∈ wAll := tb_2 (List.mem_of_getElem? (i := 73) rfl) rfl
theorem im_X3_isMarked : Cond.instanceMethod yX3_isMarked ∈ wAll := tb_2 (List.mem_of_getElem? (i := 74) rfl) rfl
theorem se_X3_isMarked : Cond.selects RX3 yX3_isMarked yX3_isMarked ∈ wAll := tb_2 (List.mem_of_getElem? (i := 75) rfl) rfl
theorem co_X3_isMarked : Cond.code yX3_isMarked cX3_isMarked 2 (some .boolean) ∈ wAll := tb_2 (List.mem_of_getElem? (i := 76) rfl) rfl
theorem ml_L_70 : Cond.methodLink RL 70 yL_cell ∈ wAll := tb_2 (List.mem_of_getElem? (i := 77) rfl) rfl
theorem st_L_cell : Cond.static yL_cell ∈ wAll := tb_2 (List.mem_of_getElem? (i := 78) rfl) rfl
theorem co_L_cell : Cond.code yL_cell cL_cell 2 (some .int) ∈ wAll := tb_2 (List.mem_of_getElem? (i := 79) rfl) rfl
theorem ml_L_77 : Cond.methodLink RL 77 yL_told ∈ wAll := tb_2 (List.mem_of_getElem? (i := 80) rfl) rfl
theorem st_L_told : Cond.static yL_told ∈ wAll := tb_2 (List.mem_of_getElem? (i := 81) rfl) rfl
theorem co_L_told : Cond.code yL_told cL_told 5 (some .long) ∈ wAll := tb_2 (List.mem_of_getElem? (i := 82) rfl) rfl
theorem kc_L_8 : Cond.constantLong RL 8 (3) ∈ wAll := tb_2 (List.mem_of_getElem? (i := 83) rfl) rfl
theorem kc_L_10 : Cond.constantLong RL 10 (31) ∈ wAll := tb_2 (List.mem_of_getElem? (i := 84) rfl) rfl
theorem ml_L_18 : Cond.methodLink RL 18 yX6_slot ∈ wAll := tb_2 (List.mem_of_getElem? (i := 85) rfl) rfl
theorem im_X6_slot : Cond.instanceMethod yX6_slot ∈ wAll := tb_2 (List.mem_of_getElem? (i := 86) rfl) rfl
theorem se_X6_slot : Cond.selects RX6 yX6_slot yX6_slot ∈ wAll := tb_2 (List.mem_of_getElem? (i := 87) rfl) rfl
theorem co_X6_slot : Cond.code yX6_slot cX6_slot 3 (some .int) ∈ wAll := tb_2 (List.mem_of_getElem? (i := 88) rfl) rfl
theorem cl_X6_64 : Cond.classLink RX6 64 "java/lang/IndexOutOfBoundsException" ∈ wAll := tb_2 (List.mem_of_getElem? (i := 89) rfl) rfl
theorem it_javalangIndexOutOfBoundsException : Cond.instantiable "java/lang/IndexOutOfBoundsException" 6 ∈ wAll := tb_2 (List.mem_of_getElem? (i := 90) rfl) rfl
theorem ml_X6_176 : Cond.methodLink RX6 176 yX6_slotNumber ∈ wAll := tb_2 (List.mem_of_getElem? (i := 106) rfl) rfl
theorem im_X6_slotNumber : Cond.instanceMethod yX6_slotNumber ∈ wAll := tb_2 (List.mem_of_getElem? (i := 108) rfl) rfl
theorem co_X6_slotNumber : Cond.code yX6_slotNumber cX6_slotNumber 4 (some .int) ∈ wAll := tb_2 (List.mem_of_getElem? (i := 109) rfl) rfl
theorem ml_X6_69 : Cond.methodLink RX6 69 yX3_isSeenNow ∈ wAll := tb_2 (List.mem_of_getElem? (i := 110) rfl) rfl
theorem im_X3_isSeenNow : Cond.instanceMethod yX3_isSeenNow ∈ wAll := tb_2 (List.mem_of_getElem? (i := 111) rfl) rfl
theorem se_X3_isSeenNow : Cond.selects RX3 yX3_isSeenNow yX3_isSeenNow ∈ wAll := tb_2 (List.mem_of_getElem? (i := 112) rfl) rfl
theorem co_X3_isSeenNow : Cond.code yX3_isSeenNow cX3_isSeenNow 2 (some .boolean) ∈ wAll := tb_2 (List.mem_of_getElem? (i := 113) rfl) rfl
theorem ml_L_22 : Cond.methodLink RL 22 yX6_page ∈ wAll := tb_2 (List.mem_of_getElem? (i := 114) rfl) rfl
theorem im_X6_page : Cond.instanceMethod yX6_page ∈ wAll := tb_2 (List.mem_of_getElem? (i := 115) rfl) rfl
theorem se_X6_page : Cond.selects RX6 yX6_page yX6_page ∈ wAll := tb_2 (List.mem_of_getElem? (i := 116) rfl) rfl
theorem co_X6_page : Cond.code yX6_page cX6_page 3 (some .int) ∈ wAll := tb_2 (List.mem_of_getElem? (i := 117) rfl) rfl
theorem ml_X6_181 : Cond.methodLink RX6 181 yX6_pageNumber ∈ wAll := tb_2 (List.mem_of_getElem? (i := 120) rfl) rfl
theorem im_X6_pageNumber : Cond.instanceMethod yX6_pageNumber ∈ wAll := tb_2 (List.mem_of_getElem? (i := 122) rfl) rfl
theorem co_X6_pageNumber : Cond.code yX6_pageNumber cX6_pageNumber 6 (some .int) ∈ wAll := tb_2 (List.mem_of_getElem? (i := 123) rfl) rfl
theorem ml_X6_239 : Cond.methodLink RX6 239 yX3_isMarked ∈ wAll := tb_2 (List.mem_of_getElem? (i := 124) rfl) rfl
theorem ml_X6_248 : Cond.methodLink RX6 248 yX3_versionsToTakeOut ∈ wAll := tb_2 (List.mem_of_getElem? (i := 125) rfl) rfl
theorem im_X3_versionsToTakeOut : Cond.instanceMethod yX3_versionsToTakeOut ∈ wAll := tb_2 (List.mem_of_getElem? (i := 126) rfl) rfl
theorem se_X3_versionsToTakeOut : Cond.selects RX3 yX3_versionsToTakeOut yX3_versionsToTakeOut ∈ wAll := tb_2 (List.mem_of_getElem? (i := 127) rfl) rfl
theorem co_X3_versionsToTakeOut : Cond.code yX3_versionsToTakeOut cX3_versionsToTakeOut 6 (some .int) ∈ wAll := tb_2 (List.mem_of_getElem? (i := 128) rfl) rfl
theorem ml_X3_63 : Cond.methodLink RX3 63 yX3_isToTakeOut ∈ wAll := tb_2 (List.mem_of_getElem? (i := 129) rfl) rfl
theorem im_X3_isToTakeOut : Cond.instanceMethod yX3_isToTakeOut ∈ wAll := tb_2 (List.mem_of_getElem? (i := 131) rfl) rfl
theorem co_X3_isToTakeOut : Cond.code yX3_isToTakeOut cX3_isToTakeOut 3 (some .boolean) ∈ wAll := tb_2 (List.mem_of_getElem? (i := 132) rfl) rfl
theorem ml_L_25 : Cond.methodLink RL 25 yX6_asker ∈ wAll := tb_2 (List.mem_of_getElem? (i := 133) rfl) rfl
theorem im_X6_asker : Cond.instanceMethod yX6_asker ∈ wAll := tb_2 (List.mem_of_getElem? (i := 134) rfl) rfl
theorem se_X6_asker : Cond.selects RX6 yX6_asker yX6_asker ∈ wAll := tb_2 (List.mem_of_getElem? (i := 135) rfl) rfl
theorem co_X6_asker : Cond.code yX6_asker cX6_asker 3 (some .int) ∈ wAll := tb_2 (List.mem_of_getElem? (i := 136) rfl) rfl
theorem ml_X6_186 : Cond.methodLink RX6 186 yX6_askerNumber ∈ wAll := tb_2 (List.mem_of_getElem? (i := 139) rfl) rfl
theorem im_X6_askerNumber : Cond.instanceMethod yX6_askerNumber ∈ wAll := tb_2 (List.mem_of_getElem? (i := 141) rfl) rfl
theorem co_X6_askerNumber : Cond.code yX6_askerNumber cX6_askerNumber 4 (some .int) ∈ wAll := tb_2 (List.mem_of_getElem? (i := 142) rfl) rfl
theorem ml_L_81 : Cond.methodLink RL 81 yL_act ∈ wAll := tb_2 (List.mem_of_getElem? (i := 143) rfl) rfl
theorem st_L_act : Cond.static yL_act ∈ wAll := tb_2 (List.mem_of_getElem? (i := 144) rfl) rfl
theorem co_L_act : Cond.code yL_act cL_act 5 (some .int) ∈ wAll := tb_2 (List.mem_of_getElem? (i := 145) rfl) rfl
theorem ml_L_28 : Cond.methodLink RL 28 yL_low ∈ wAll := tb_2 (List.mem_of_getElem? (i := 146) rfl) rfl
theorem st_L_low : Cond.static yL_low ∈ wAll := tb_2 (List.mem_of_getElem? (i := 147) rfl) rfl
theorem co_L_low : Cond.code yL_low cL_low 2 (some .int) ∈ wAll := tb_2 (List.mem_of_getElem? (i := 148) rfl) rfl
theorem kc_L_7 : Cond.constant RL 7 (2147483647) ∈ wAll := tb_2 (List.mem_of_getElem? (i := 149) rfl) rfl
theorem ml_L_33 : Cond.methodLink RL 33 yX6_open ∈ wAll := tb_2 (List.mem_of_getElem? (i := 150) rfl) rfl
theorem im_X6_open : Cond.instanceMethod yX6_open ∈ wAll := tb_2 (List.mem_of_getElem? (i := 151) rfl) rfl
theorem se_X6_open : Cond.selects RX6 yX6_open yX6_open ∈ wAll := tb_2 (List.mem_of_getElem? (i := 152) rfl) rfl
theorem co_X6_open : Cond.code yX6_open cX6_open 2 (some .int) ∈ wAll := tb_2 (List.mem_of_getElem? (i := 153) rfl) rfl
theorem ml_X6_56 : Cond.methodLink RX6 56 yX1_save ∈ wAll := tb_2 (List.mem_of_getElem? (i := 154) rfl) rfl
theorem im_X1_save : Cond.instanceMethod yX1_save ∈ wAll := tb_2 (List.mem_of_getElem? (i := 155) rfl) rfl
theorem se_X1_save : Cond.selects RX1 yX1_save yX1_save ∈ wAll := tb_2 (List.mem_of_getElem? (i := 156) rfl) rfl
theorem co_X1_save : Cond.code yX1_save cX1_save 2 none ∈ wAll := tb_2 (List.mem_of_getElem? (i := 157) rfl) rfl
theorem ml_L_36 : Cond.methodLink RL 36 yX6_close ∈ wAll := tb_2 (List.mem_of_getElem? (i := 158) rfl) rfl
theorem im_X6_close : Cond.instanceMethod yX6_close ∈ wAll := tb_2 (List.mem_of_getElem? (i := 159) rfl) rfl
theorem se_X6_close : Cond.selects RX6 yX6_close yX6_close ∈ wAll := tb_2 (List.mem_of_getElem? (i := 160) rfl) rfl
theorem co_X6_close : Cond.code yX6_close cX6_close 3 (some .int) ∈ wAll := tb_2 (List.mem_of_getElem? (i := 161) rfl) rfl
theorem ml_L_39 : Cond.methodLink RL 39 yX6_sweep ∈ wAll := tb_2 (List.mem_of_getElem? (i := 163) rfl) rfl
theorem im_X6_sweep : Cond.instanceMethod yX6_sweep ∈ wAll := tb_2 (List.mem_of_getElem? (i := 164) rfl) rfl
theorem se_X6_sweep : Cond.selects RX6 yX6_sweep yX6_sweep ∈ wAll := tb_2 (List.mem_of_getElem? (i := 165) rfl) rfl
theorem co_X6_sweep : Cond.code yX6_sweep cX6_sweep 2 (some .int) ∈ wAll := tb_2 (List.mem_of_getElem? (i := 166) rfl) rfl
theorem ml_X6_111 : Cond.methodLink RX6 111 yX3_sweepPage ∈ wAll := tb_2 (List.mem_of_getElem? (i := 167) rfl) rfl
theorem im_X3_sweepPage : Cond.instanceMethod yX3_sweepPage ∈ wAll := tb_2 (List.mem_of_getElem? (i := 168) rfl) rfl
theorem se_X3_sweepPage : Cond.selects RX3 yX3_sweepPage yX3_sweepPage ∈ wAll := tb_2 (List.mem_of_getElem? (i := 169) rfl) rfl
theorem co_X3_sweepPage : Cond.code yX3_sweepPage cX3_sweepPage 7 (some .int) ∈ wAll := tb_2 (List.mem_of_getElem? (i := 170) rfl) rfl
theorem ml_X3_66 : Cond.methodLink RX3 66 yX3_empty ∈ wAll := tb_2 (List.mem_of_getElem? (i := 171) rfl) rfl
theorem im_X3_empty : Cond.instanceMethod yX3_empty ∈ wAll := tb_2 (List.mem_of_getElem? (i := 173) rfl) rfl
theorem co_X3_empty : Cond.code yX3_empty cX3_empty 2 none ∈ wAll := tb_2 (List.mem_of_getElem? (i := 174) rfl) rfl
theorem ml_X3_69 : Cond.methodLink RX3 69 yX3_isSeenByAll ∈ wAll := tb_2 (List.mem_of_getElem? (i := 175) rfl) rfl
theorem im_X3_isSeenByAll : Cond.instanceMethod yX3_isSeenByAll ∈ wAll := tb_2 (List.mem_of_getElem? (i := 177) rfl) rfl
theorem co_X3_isSeenByAll : Cond.code yX3_isSeenByAll cX3_isSeenByAll 3 (some .boolean) ∈ wAll := tb_2 (List.mem_of_getElem? (i := 178) rfl) rfl
theorem ml_L_42 : Cond.methodLink RL 42 yX6_sweepAll ∈ wAll := tb_2 (List.mem_of_getElem? (i := 179) rfl) rfl
theorem im_X6_sweepAll : Cond.instanceMethod yX6_sweepAll ∈ wAll := tb_2 (List.mem_of_getElem? (i := 180) rfl) rfl
theorem se_X6_sweepAll : Cond.selects RX6 yX6_sweepAll yX6_sweepAll ∈ wAll := tb_2 (List.mem_of_getElem? (i := 181) rfl) rfl
theorem co_X6_sweepAll : Cond.code yX6_sweepAll cX6_sweepAll 3 (some .int) ∈ wAll := tb_2 (List.mem_of_getElem? (i := 182) rfl) rfl
theorem ml_L_46 : Cond.methodLink RL 46 yX6_ask ∈ wAll := tb_2 (List.mem_of_getElem? (i := 183) rfl) rfl
theorem im_X6_ask : Cond.instanceMethod yX6_ask ∈ wAll := tb_2 (List.mem_of_getElem? (i := 184) rfl) rfl
theorem se_X6_ask : Cond.selects RX6 yX6_ask yX6_ask ∈ wAll := tb_2 (List.mem_of_getElem? (i := 185) rfl) rfl
theorem co_X6_ask : Cond.code yX6_ask cX6_ask 5 (some .int) ∈ wAll := tb_2 (List.mem_of_getElem? (i := 186) rfl) rfl
theorem ml_X6_126 : Cond.methodLink RX6 126 yX3_cost ∈ wAll := tb_2 (List.mem_of_getElem? (i := 188) rfl) rfl
theorem im_X3_cost : Cond.instanceMethod yX3_cost ∈ wAll := tb_2 (List.mem_of_getElem? (i := 189) rfl) rfl
theorem se_X3_cost : Cond.selects RX3 yX3_cost yX3_cost ∈ wAll := tb_2 (List.mem_of_getElem? (i := 190) rfl) rfl
theorem co_X3_cost : Cond.code yX3_cost cX3_cost 7 (some .int) ∈ wAll := tb_2 (List.mem_of_getElem? (i := 191) rfl) rfl
theorem ml_X3_75 : Cond.methodLink RX3 75 yX3_mayTrustMarks ∈ wAll := tb_2 (List.mem_of_getElem? (i := 192) rfl) rfl
theorem im_X3_mayTrustMarks : Cond.instanceMethod yX3_mayTrustMarks ∈ wAll := tb_2 (List.mem_of_getElem? (i := 193) rfl) rfl
theorem se_X3_mayTrustMarks : Cond.selects RX3 yX3_mayTrustMarks yX3_mayTrustMarks ∈ wAll := tb_2 (List.mem_of_getElem? (i := 194) rfl) rfl
theorem co_X3_mayTrustMarks : Cond.code yX3_mayTrustMarks cX3_mayTrustMarks 3 (some .boolean) ∈ wAll := tb_2 (List.mem_of_getElem? (i := 195) rfl) rfl
theorem ml_X3_78 : Cond.methodLink RX3 78 yX3_indexHas ∈ wAll := tb_2 (List.mem_of_getElem? (i := 196) rfl) rfl
theorem im_X3_indexHas : Cond.instanceMethod yX3_indexHas ∈ wAll := tb_2 (List.mem_of_getElem? (i := 198) rfl) rfl
theorem co_X3_indexHas : Cond.code yX3_indexHas cX3_indexHas 5 (some .boolean) ∈ wAll := tb_2 (List.mem_of_getElem? (i := 199) rfl) rfl
theorem ml_X6_130 : Cond.methodLink RX6 130 yX3_mayTrustMarks ∈ wAll := tb_2 (List.mem_of_getElem? (i := 200) rfl) rfl
theorem ml_X6_133 : Cond.methodLink RX6 133 yX4_add ∈ wAll := tb_2 (List.mem_of_getElem? (i := 201) rfl) rfl
theorem im_X4_add : Cond.instanceMethod yX4_add ∈ wAll := tb_2 (List.mem_of_getElem? (i := 202) rfl) rfl
theorem se_X4_add : Cond.selects RX4 yX4_add yX4_add ∈ wAll := tb_2 (List.mem_of_getElem? (i := 203) rfl) rfl
theorem co_X4_add : Cond.code yX4_add cX4_add 4 none ∈ wAll := tb_2 (List.mem_of_getElem? (i := 204) rfl) rfl
theorem ml_X6_139 : Cond.methodLink RX6 139 yX3_answer ∈ wAll := tb_2 (List.mem_of_getElem? (i := 205) rfl) rfl
theorem im_X3_answer : Cond.instanceMethod yX3_answer ∈ wAll := tb_2 (List.mem_of_getElem? (i := 206) rfl) rfl
theorem se_X3_answer : Cond.selects RX3 yX3_answer yX3_answer ∈ wAll := tb_2 (List.mem_of_getElem? (i := 207) rfl) rfl
theorem co_X3_answer : Cond.code yX3_answer cX3_answer 7 (some .int) ∈ wAll := tb_2 (List.mem_of_getElem? (i := 208) rfl) rfl
theorem ml_L_50 : Cond.methodLink RL 50 yX6_take ∈ wAll := tb_2 (List.mem_of_getElem? (i := 209) rfl) rfl
theorem im_X6_take : Cond.instanceMethod yX6_take ∈ wAll := tb_2 (List.mem_of_getElem? (i := 210) rfl) rfl
theorem se_X6_take : Cond.selects RX6 yX6_take yX6_take ∈ wAll := tb_2 (List.mem_of_getElem? (i := 211) rfl) rfl
theorem co_X6_take : Cond.code yX6_take cX6_take 2 (some .int) ∈ wAll := tb_2 (List.mem_of_getElem? (i := 212) rfl) rfl
theorem ml_X6_75 : Cond.methodLink RX6 75 yX3_takeAway ∈ wAll := tb_2 (List.mem_of_getElem? (i := 214) rfl) rfl
theorem im_X3_takeAway : Cond.instanceMethod yX3_takeAway ∈ wAll := tb_2 (List.mem_of_getElem? (i := 215) rfl) rfl
theorem se_X3_takeAway : Cond.selects RX3 yX3_takeAway yX3_takeAway ∈ wAll := tb_2 (List.mem_of_getElem? (i := 216) rfl) rfl
theorem co_X3_takeAway : Cond.code yX3_takeAway cX3_takeAway 2 (some .boolean) ∈ wAll := tb_2 (List.mem_of_getElem? (i := 217) rfl) rfl
theorem ml_X3_55 : Cond.methodLink RX3 55 yX3_isSeenNow ∈ wAll := tb_2 (List.mem_of_getElem? (i := 218) rfl) rfl
theorem ml_X3_59 : Cond.methodLink RX3 59 yX3_go ∈ wAll := tb_2 (List.mem_of_getElem? (i := 219) rfl) rfl
theorem im_X3_go : Cond.instanceMethod yX3_go ∈ wAll := tb_2 (List.mem_of_getElem? (i := 221) rfl) rfl
theorem co_X3_go : Cond.code yX3_go cX3_go 2 none ∈ wAll := tb_2 (List.mem_of_getElem? (i := 222) rfl) rfl
theorem ml_L_53 : Cond.methodLink RL 53 yX6_change ∈ wAll := tb_2 (List.mem_of_getElem? (i := 223) rfl) rfl
theorem im_X6_change : Cond.instanceMethod yX6_change ∈ wAll := tb_2 (List.mem_of_getElem? (i := 224) rfl) rfl
theorem se_X6_change : Cond.selects RX6 yX6_change yX6_change ∈ wAll := tb_2 (List.mem_of_getElem? (i := 225) rfl) rfl
theorem co_X6_change : Cond.code yX6_change cX6_change 3 (some .int) ∈ wAll := tb_2 (List.mem_of_getElem? (i := 226) rfl) rfl
theorem ml_X6_45 : Cond.methodLink RX6 45 yX3_hasEmptySlot ∈ wAll := tb_2 (List.mem_of_getElem? (i := 228) rfl) rfl
theorem im_X3_hasEmptySlot : Cond.instanceMethod yX3_hasEmptySlot ∈ wAll := tb_2 (List.mem_of_getElem? (i := 229) rfl) rfl
theorem se_X3_hasEmptySlot : Cond.selects RX3 yX3_hasEmptySlot yX3_hasEmptySlot ∈ wAll := tb_2 (List.mem_of_getElem? (i := 230) rfl) rfl
theorem co_X3_hasEmptySlot : Cond.code yX3_hasEmptySlot cX3_hasEmptySlot 1 (some .boolean) ∈ wAll := tb_2 (List.mem_of_getElem? (i := 231) rfl) rfl
theorem ml_X3_47 : Cond.methodLink RX3 47 yX3_lowestEmptySlot ∈ wAll := tb_2 (List.mem_of_getElem? (i := 232) rfl) rfl
theorem im_X3_lowestEmptySlot : Cond.instanceMethod yX3_lowestEmptySlot ∈ wAll := tb_2 (List.mem_of_getElem? (i := 233) rfl) rfl
theorem se_X3_lowestEmptySlot : Cond.selects RX3 yX3_lowestEmptySlot yX3_lowestEmptySlot ∈ wAll := tb_2 (List.mem_of_getElem? (i := 234) rfl) rfl
theorem co_X3_lowestEmptySlot : Cond.code yX3_lowestEmptySlot cX3_lowestEmptySlot 2 (some .int) ∈ wAll := tb_2 (List.mem_of_getElem? (i := 235) rfl) rfl
theorem ml_X6_84 : Cond.methodLink RX6 84 yX3_changeTo ∈ wAll := tb_2 (List.mem_of_getElem? (i := 237) rfl) rfl
theorem im_X3_changeTo : Cond.instanceMethod yX3_changeTo ∈ wAll := tb_2 (List.mem_of_getElem? (i := 238) rfl) rfl
theorem se_X3_changeTo : Cond.selects RX3 yX3_changeTo yX3_changeTo ∈ wAll := tb_2 (List.mem_of_getElem? (i := 239) rfl) rfl
theorem co_X3_changeTo : Cond.code yX3_changeTo cX3_changeTo 4 (some .int) ∈ wAll := tb_3 (List.mem_of_getElem? (i := 0) rfl) rfl
theorem ml_X3_51 : Cond.methodLink RX3 51 yX3_come ∈ wAll := tb_3 (List.mem_of_getElem? (i := 1) rfl) rfl
theorem im_X3_come : Cond.instanceMethod yX3_come ∈ wAll := tb_3 (List.mem_of_getElem? (i := 3) rfl) rfl
theorem co_X3_come : Cond.code yX3_come cX3_come 3 none ∈ wAll := tb_3 (List.mem_of_getElem? (i := 4) rfl) rfl
theorem ml_L_56 : Cond.methodLink RL 56 yX6_put ∈ wAll := tb_3 (List.mem_of_getElem? (i := 5) rfl) rfl
theorem im_X6_put : Cond.instanceMethod yX6_put ∈ wAll := tb_3 (List.mem_of_getElem? (i := 6) rfl) rfl
theorem se_X6_put : Cond.selects RX6 yX6_put yX6_put ∈ wAll := tb_3 (List.mem_of_getElem? (i := 7) rfl) rfl
theorem co_X6_put : Cond.code yX6_put cX6_put 2 (some .int) ∈ wAll := tb_3 (List.mem_of_getElem? (i := 8) rfl) rfl
theorem ml_X6_60 : Cond.methodLink RX6 60 yX3_putValue ∈ wAll := tb_3 (List.mem_of_getElem? (i := 10) rfl) rfl
theorem im_X3_putValue : Cond.instanceMethod yX3_putValue ∈ wAll := tb_3 (List.mem_of_getElem? (i := 11) rfl) rfl
theorem se_X3_putValue : Cond.selects RX3 yX3_putValue yX3_putValue ∈ wAll := tb_3 (List.mem_of_getElem? (i := 12) rfl) rfl
theorem co_X3_putValue : Cond.code yX3_putValue cX3_putValue 3 (some .int) ∈ wAll := tb_3 (List.mem_of_getElem? (i := 13) rfl) rfl
theorem ml_L_85 : Cond.methodLink RL 85 yL_holds ∈ wAll := tb_3 (List.mem_of_getElem? (i := 14) rfl) rfl
theorem st_L_holds : Cond.static yL_holds ∈ wAll := tb_3 (List.mem_of_getElem? (i := 15) rfl) rfl
theorem co_L_holds : Cond.code yL_holds cL_holds 9 (some .boolean) ∈ wAll := tb_3 (List.mem_of_getElem? (i := 16) rfl) rfl
theorem ml_L_59 : Cond.methodLink RL 59 yX6_ifAsked ∈ wAll := tb_3 (List.mem_of_getElem? (i := 17) rfl) rfl
theorem im_X6_ifAsked : Cond.instanceMethod yX6_ifAsked ∈ wAll := tb_3 (List.mem_of_getElem? (i := 18) rfl) rfl
theorem se_X6_ifAsked : Cond.selects RX6 yX6_ifAsked yX6_ifAsked ∈ wAll := tb_3 (List.mem_of_getElem? (i := 19) rfl) rfl
theorem co_X6_ifAsked : Cond.code yX6_ifAsked cX6_ifAsked 5 (some .int) ∈ wAll := tb_3 (List.mem_of_getElem? (i := 20) rfl) rfl
theorem ml_L_63 : Cond.methodLink RL 63 yX6_marked ∈ wAll := tb_3 (List.mem_of_getElem? (i := 23) rfl) rfl
theorem im_X6_marked : Cond.instanceMethod yX6_marked ∈ wAll := tb_3 (List.mem_of_getElem? (i := 24) rfl) rfl
theorem se_X6_marked : Cond.selects RX6 yX6_marked yX6_marked ∈ wAll := tb_3 (List.mem_of_getElem? (i := 25) rfl) rfl
theorem co_X6_marked : Cond.code yX6_marked cX6_marked 1 (some .double) ∈ wAll := tb_3 (List.mem_of_getElem? (i := 26) rfl) rfl
theorem ml_X6_207 : Cond.methodLink RX6 207 yX6_markedShare ∈ wAll := tb_3 (List.mem_of_getElem? (i := 27) rfl) rfl
theorem im_X6_markedShare : Cond.instanceMethod yX6_markedShare ∈ wAll := tb_3 (List.mem_of_getElem? (i := 29) rfl) rfl
theorem co_X6_markedShare : Cond.code yX6_markedShare cX6_markedShare 1 (some .double) ∈ wAll := tb_3 (List.mem_of_getElem? (i := 30) rfl) rfl
theorem kc_X6_267 : Cond.constantDouble RX6 267 (4618441417868443648) ∈ wAll := tb_3 (List.mem_of_getElem? (i := 31) rfl) rfl
theorem kc_L_67 : Cond.constantDouble RL 67 (4618441417868443648) ∈ wAll := tb_3 (List.mem_of_getElem? (i := 32) rfl) rfl
theorem se_X6_countNumber : Cond.selects RX6 yX6_countNumber yX6_countNumber ∈ wAll := tb_0 (q := (yX6_countNumber, 3)) (List.mem_of_getElem? (i := 1) rfl)
theorem se_X6_slotNumber : Cond.selects RX6 yX6_slotNumber yX6_slotNumber ∈ wAll := tb_0 (q := (yX6_slotNumber, 3)) (List.mem_of_getElem? (i := 2) rfl)
theorem se_X6_pageNumber : Cond.selects RX6 yX6_pageNumber yX6_pageNumber ∈ wAll := tb_0 (q := (yX6_pageNumber, 3)) (List.mem_of_getElem? (i := 3) rfl)
theorem se_X3_isToTakeOut : Cond.selects RX3 yX3_isToTakeOut yX3_isToTakeOut ∈ wAll := tb_0 (q := (yX3_isToTakeOut, 6)) (List.mem_of_getElem? (i := 4) rfl)
theorem se_X6_askerNumber : Cond.selects RX6 yX6_askerNumber yX6_askerNumber ∈ wAll := tb_0 (q := (yX6_askerNumber, 3)) (List.mem_of_getElem? (i := 5) rfl)
theorem se_X3_empty : Cond.selects RX3 yX3_empty yX3_empty ∈ wAll := tb_0 (q := (yX3_empty, 6)) (List.mem_of_getElem? (i := 6) rfl)
theorem se_X3_isSeenByAll : Cond.selects RX3 yX3_isSeenByAll yX3_isSeenByAll ∈ wAll := tb_0 (q := (yX3_isSeenByAll, 6)) (List.mem_of_getElem? (i := 7) rfl)
theorem se_X3_indexHas : Cond.selects RX3 yX3_indexHas yX3_indexHas ∈ wAll := tb_0 (q := (yX3_indexHas, 6)) (List.mem_of_getElem? (i := 8) rfl)
theorem se_X3_go : Cond.selects RX3 yX3_go yX3_go ∈ wAll := tb_0 (q := (yX3_go, 6)) (List.mem_of_getElem? (i := 9) rfl)
theorem se_X3_come : Cond.selects RX3 yX3_come yX3_come ∈ wAll := tb_0 (q := (yX3_come, 6)) (List.mem_of_getElem? (i := 10) rfl)
theorem se_X6_markedShare : Cond.selects RX6 yX6_markedShare yX6_markedShare ∈ wAll := tb_0 (q := (yX6_markedShare, 3)) (List.mem_of_getElem? (i := 11) rfl)
theorem lay_X0_0 : u_lay RX0 TX0 0 ∈ wAll := tb_1 (List.mem_of_getElem? (i := 77) rfl) rfl
theorem lay_X0_1 : u_lay RX0 TX0 1 ∈ wAll := tb_1 (List.mem_of_getElem? (i := 79) rfl) rfl
theorem in_lay_X0 : ∀ w ∈ u_ws RX0 TX0 2, w ∈ wAll := by
  show ∀ w ∈ [u_lay RX0 TX0 0, u_lay RX0 TX0 1], w ∈ wAll
  exact List.forall_mem_cons.mpr ⟨lay_X0_0, List.forall_mem_cons.mpr ⟨lay_X0_1, fun _ h => absurd h List.not_mem_nil⟩⟩
theorem lay_X1_0 : u_lay RX1 TX1 0 ∈ wAll := tb_1 (List.mem_of_getElem? (i := 127) rfl) rfl
theorem lay_X1_1 : u_lay RX1 TX1 1 ∈ wAll := tb_1 (List.mem_of_getElem? (i := 129) rfl) rfl
theorem lay_X1_2 : u_lay RX1 TX1 2 ∈ wAll := tb_1 (List.mem_of_getElem? (i := 131) rfl) rfl
theorem in_lay_X1 : ∀ w ∈ u_ws RX1 TX1 3, w ∈ wAll := by
  show ∀ w ∈ [u_lay RX1 TX1 0, u_lay RX1 TX1 1, u_lay RX1 TX1 2], w ∈ wAll
  exact List.forall_mem_cons.mpr ⟨lay_X1_0, List.forall_mem_cons.mpr ⟨lay_X1_1, List.forall_mem_cons.mpr ⟨lay_X1_2, fun _ h => absurd h List.not_mem_nil⟩⟩⟩
theorem lay_X2_0 : u_lay RX2 TX2 0 ∈ wAll := tb_1 (List.mem_of_getElem? (i := 107) rfl) rfl
theorem lay_X2_1 : u_lay RX2 TX2 1 ∈ wAll := tb_1 (List.mem_of_getElem? (i := 109) rfl) rfl
theorem lay_X2_2 : u_lay RX2 TX2 2 ∈ wAll := tb_1 (List.mem_of_getElem? (i := 111) rfl) rfl
theorem in_lay_X2 : ∀ w ∈ u_ws RX2 TX2 3, w ∈ wAll := by
  show ∀ w ∈ [u_lay RX2 TX2 0, u_lay RX2 TX2 1, u_lay RX2 TX2 2], w ∈ wAll
  exact List.forall_mem_cons.mpr ⟨lay_X2_0, List.forall_mem_cons.mpr ⟨lay_X2_1, List.forall_mem_cons.mpr ⟨lay_X2_2, fun _ h => absurd h List.not_mem_nil⟩⟩⟩
theorem lay_X3_0 : u_lay RX3 TX3 0 ∈ wAll := tb_1 (List.mem_of_getElem? (i := 52) rfl) rfl
theorem lay_X3_1 : u_lay RX3 TX3 1 ∈ wAll := tb_1 (List.mem_of_getElem? (i := 54) rfl) rfl
theorem lay_X3_2 : u_lay RX3 TX3 2 ∈ wAll := tb_1 (List.mem_of_getElem? (i := 56) rfl) rfl
theorem lay_X3_3 : u_lay RX3 TX3 3 ∈ wAll := tb_1 (List.mem_of_getElem? (i := 58) rfl) rfl
theorem lay_X3_4 : u_lay RX3 TX3 4 ∈ wAll := tb_1 (List.mem_of_getElem? (i := 60) rfl) rfl
theorem lay_X3_5 : u_lay RX3 TX3 5 ∈ wAll := tb_1 (List.mem_of_getElem? (i := 62) rfl) rfl
theorem in_lay_X3 : ∀ w ∈ u_ws RX3 TX3 6, w ∈ wAll := by
  show ∀ w ∈ [u_lay RX3 TX3 0, u_lay RX3 TX3 1, u_lay RX3 TX3 2, u_lay RX3 TX3 3, u_lay RX3 TX3 4, u_lay RX3 TX3 5], w ∈ wAll
  exact List.forall_mem_cons.mpr ⟨lay_X3_0, List.forall_mem_cons.mpr ⟨lay_X3_1, List.forall_mem_cons.mpr ⟨lay_X3_2, List.forall_mem_cons.mpr ⟨lay_X3_3, List.forall_mem_cons.mpr ⟨lay_X3_4, List.forall_mem_cons.mpr ⟨lay_X3_5, fun _ h => absurd h List.not_mem_nil⟩⟩⟩⟩⟩⟩
theorem lay_X4_0 : u_lay RX4 TX4 0 ∈ wAll := tb_1 (List.mem_of_getElem? (i := 94) rfl) rfl
theorem lay_X4_1 : u_lay RX4 TX4 1 ∈ wAll := tb_1 (List.mem_of_getElem? (i := 96) rfl) rfl
theorem lay_X4_2 : u_lay RX4 TX4 2 ∈ wAll := tb_1 (List.mem_of_getElem? (i := 98) rfl) rfl
theorem in_lay_X4 : ∀ w ∈ u_ws RX4 TX4 3, w ∈ wAll := by
  show ∀ w ∈ [u_lay RX4 TX4 0, u_lay RX4 TX4 1, u_lay RX4 TX4 2], w ∈ wAll
  exact List.forall_mem_cons.mpr ⟨lay_X4_0, List.forall_mem_cons.mpr ⟨lay_X4_1, List.forall_mem_cons.mpr ⟨lay_X4_2, fun _ h => absurd h List.not_mem_nil⟩⟩⟩
theorem lay_X5_0 : u_lay RX5 TX5 0 ∈ wAll := tb_1 (List.mem_of_getElem? (i := 141) rfl) rfl
theorem lay_X5_1 : u_lay RX5 TX5 1 ∈ wAll := tb_1 (List.mem_of_getElem? (i := 143) rfl) rfl
theorem lay_X5_2 : u_lay RX5 TX5 2 ∈ wAll := tb_1 (List.mem_of_getElem? (i := 145) rfl) rfl
theorem lay_X5_3 : u_lay RX5 TX5 3 ∈ wAll := tb_1 (List.mem_of_getElem? (i := 147) rfl) rfl
theorem lay_X5_4 : u_lay RX5 TX5 4 ∈ wAll := tb_1 (List.mem_of_getElem? (i := 149) rfl) rfl
theorem lay_X5_5 : u_lay RX5 TX5 5 ∈ wAll := tb_1 (List.mem_of_getElem? (i := 151) rfl) rfl
theorem in_lay_X5 : ∀ w ∈ u_ws RX5 TX5 6, w ∈ wAll := by
  show ∀ w ∈ [u_lay RX5 TX5 0, u_lay RX5 TX5 1, u_lay RX5 TX5 2, u_lay RX5 TX5 3, u_lay RX5 TX5 4, u_lay RX5 TX5 5], w ∈ wAll
  exact List.forall_mem_cons.mpr ⟨lay_X5_0, List.forall_mem_cons.mpr ⟨lay_X5_1, List.forall_mem_cons.mpr ⟨lay_X5_2, List.forall_mem_cons.mpr ⟨lay_X5_3, List.forall_mem_cons.mpr ⟨lay_X5_4, List.forall_mem_cons.mpr ⟨lay_X5_5, fun _ h => absurd h List.not_mem_nil⟩⟩⟩⟩⟩⟩
theorem lay_X6_0 : u_lay RX6 TX6 0 ∈ wAll := tb_1 (List.mem_of_getElem? (i := 158) rfl) rfl
theorem lay_X6_1 : u_lay RX6 TX6 1 ∈ wAll := tb_1 (List.mem_of_getElem? (i := 160) rfl) rfl
theorem lay_X6_2 : u_lay RX6 TX6 2 ∈ wAll := tb_1 (List.mem_of_getElem? (i := 162) rfl) rfl
theorem in_lay_X6 : ∀ w ∈ u_ws RX6 TX6 3, w ∈ wAll := by
  show ∀ w ∈ [u_lay RX6 TX6 0, u_lay RX6 TX6 1, u_lay RX6 TX6 2], w ∈ wAll
  exact List.forall_mem_cons.mpr ⟨lay_X6_0, List.forall_mem_cons.mpr ⟨lay_X6_1, List.forall_mem_cons.mpr ⟨lay_X6_2, fun _ h => absurd h List.not_mem_nil⟩⟩⟩

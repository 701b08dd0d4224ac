/-- those of the words that a callee may be given -/
def lw_big : List Cond := lw_tbl.filter goodWord
def RX0 : String := "PastTree$Node"
def TX0 : u_T := fun k => match k with
  | 0 => ("PastTree$Node", "spot", "LPastTree$Spot;", false)
  | 1 => ("PastTree$Node", "version", "LPastTree$Version;", false)
  | 2 => ("PastTree$Node", "durableSpot", "LPastTree$Spot;", false)
  | _ => ("PastTree$Node", "durableVersion", "LPastTree$Version;", false)
def tyX0 : Nat → FieldType := fun k => match k with
  | 0 => .object "PastTree$Spot"
  | 1 => .object "PastTree$Version"
  | 2 => .object "PastTree$Spot"
  | _ => .object "PastTree$Version"
theorem nmX0 : ∀ a, a < 4 → ∀ b, b < 4 → a ≠ b → (TX0 a).2.1 ≠ (TX0 b).2.1 := by decide +kernel
theorem tyX0_ok : ∀ k, k < 4 → parseFieldDescriptor (TX0 k).2.2.1 = some (tyX0 k) := by decide +kernel
theorem inX0 : ∀ w ∈ u_ws RX0 TX0 4, w ∈ lw_big := by decide +kernel
def RX1 : String := "PastTree$Spot"
def TX1 : u_T := fun k => match k with
  | 0 => ("PastTree$Spot", "time", "I", true)
  | 1 => ("PastTree$Spot", "place", "I", true)
  | _ => ("PastTree$Spot", "before", "LPastTree$Spot;", true)
def tyX1 : Nat → FieldType := fun k => match k with
  | 0 => .int
  | 1 => .int
  | _ => .object "PastTree$Spot"
theorem nmX1 : ∀ a, a < 3 → ∀ b, b < 3 → a ≠ b → (TX1 a).2.1 ≠ (TX1 b).2.1 := by decide +kernel
theorem tyX1_ok : ∀ k, k < 3 → parseFieldDescriptor (TX1 k).2.2.1 = some (tyX1 k) := by decide +kernel
theorem inX1 : ∀ w ∈ u_ws RX1 TX1 3, w ∈ lw_big := by decide +kernel
def RX2 : String := "PastTree$Version"
def TX2 : u_T := fun k => match k with
  | 0 => ("PastTree$Version", "time", "I", true)
  | 1 => ("PastTree$Version", "index", "I", true)
  | 2 => ("PastTree$Version", "cells", "[I", true)
  | 3 => ("PastTree$Version", "before", "LPastTree$Version;", true)
  | _ => ("PastTree$Version", "gone", "Z", false)
def tyX2 : Nat → FieldType := fun k => match k with
  | 0 => .int
  | 1 => .int
  | 2 => .array .int
  | 3 => .object "PastTree$Version"
  | _ => .boolean
theorem nmX2 : ∀ a, a < 5 → ∀ b, b < 5 → a ≠ b → (TX2 a).2.1 ≠ (TX2 b).2.1 := by decide +kernel
theorem tyX2_ok : ∀ k, k < 5 → parseFieldDescriptor (TX2 k).2.2.1 = some (tyX2 k) := by decide +kernel
theorem inX2 : ∀ w ∈ u_ws RX2 TX2 5, w ∈ lw_big := by decide +kernel
def RX3 : String := "PastTree"
def TX3 : u_T := fun k => match k with
  | 0 => ("PastTree", "window", "I", true)
  | 1 => ("PastTree", "gap", "I", true)
  | 2 => ("PastTree", "nodes", "[LPastTree$Node;", true)
  | 3 => ("PastTree", "places", "[I", true)
  | 4 => ("PastTree", "clock", "I", false)
  | 5 => ("PastTree", "made", "I", false)
  | 6 => ("PastTree", "changes", "I", false)
  | 7 => ("PastTree", "durableClock", "I", false)
  | 8 => ("PastTree", "durableMade", "I", false)
  | 9 => ("PastTree", "durableChanges", "I", false)
  | _ => ("PastTree", "changesEver", "I", false)
def tyX3 : Nat → FieldType := fun k => match k with
  | 0 => .int
  | 1 => .int
  | 2 => .array (.object "PastTree$Node")
  | 3 => .array .int
  | 4 => .int
  | 5 => .int
  | 6 => .int
  | 7 => .int
  | 8 => .int
  | 9 => .int
  | _ => .int
theorem nmX3 : ∀ a, a < 11 → ∀ b, b < 11 → a ≠ b → (TX3 a).2.1 ≠ (TX3 b).2.1 := by decide +kernel
theorem tyX3_ok : ∀ k, k < 11 → parseFieldDescriptor (TX3 k).2.2.1 = some (tyX3 k) := by decide +kernel
theorem inX3 : ∀ w ∈ u_ws RX3 TX3 11, w ∈ lw_big := by decide +kernel
def RX4 : String := "PastTreeModel"
def TX4 : u_T := fun k => match k with
  | 0 => ("PastTreeModel", "window", "I", true)
  | 1 => ("PastTreeModel", "gap", "I", true)
  | 2 => ("PastTreeModel", "when", "[I", true)
  | 3 => ("PastTreeModel", "set", "[I", true)
  | 4 => ("PastTreeModel", "node", "[I", true)
  | 5 => ("PastTreeModel", "unset", "[I", true)
  | 6 => ("PastTreeModel", "file", "[I", true)
  | 7 => ("PastTreeModel", "made", "[I", true)
  | 8 => ("PastTreeModel", "cell", "[I", true)
  | 9 => ("PastTreeModel", "changes", "I", false)
  | 10 => ("PastTreeModel", "durable", "I", false)
  | 11 => ("PastTreeModel", "clock", "I", false)
  | 12 => ("PastTreeModel", "durableClock", "I", false)
  | 13 => ("PastTreeModel", "goneFile", "[I", true)
  | 14 => ("PastTreeModel", "goneTime", "[I", true)
  | 15 => ("PastTreeModel", "gone", "I", false)
  | 16 => ("PastTreeModel", "entry", "[I", true)
  | _ => ("PastTreeModel", "reached", "[Z", true)
def tyX4 : Nat → FieldType := fun k => match k with
  | 0 => .int
  | 1 => .int
  | 2 => .array .int
  | 3 => .array .int
  | 4 => .array .int
  | 5 => .array .int
  | 6 => .array .int
  | 7 => .array .int
  | 8 => .array .int
  | 9 => .int
  | 10 => .int
  | 11 => .int
  | 12 => .int
  | 13 => .array .int
  | 14 => .array .int
  | 15 => .int
  | 16 => .array .int
  | _ => .array .boolean
theorem nmX4 : ∀ a, a < 18 → ∀ b, b < 18 → a ≠ b → (TX4 a).2.1 ≠ (TX4 b).2.1 := by decide +kernel
theorem tyX4_ok : ∀ k, k < 18 → parseFieldDescriptor (TX4 k).2.2.1 = some (tyX4 k) := by decide +kernel
theorem inX4 : ∀ w ∈ u_ws RX4 TX4 18, w ∈ lw_big := by decide +kernel
def RL : String := "PastTreeLaw"
abbrev vwCl : List vw_C := [(RX0, TX0, 4), (RX1, TX1, 3), (RX2, TX2, 5), (RX3, TX3, 11), (RX4, TX4, 18)]
abbrev c_P_init : ByteArray := prog_1_method_1_code
def y_P_init : MethodName := ⟨RX3, "<init>", "(II)V"⟩
abbrev k_P_init : Cond := .code y_P_init c_P_init 4 none
abbrev w_P_init : List Cond := k_P_init :: lw_big
abbrev c_P_tick : ByteArray := prog_1_method_2_code
def y_P_tick : MethodName := ⟨RX3, "tick", "(I)I"⟩
abbrev k_P_tick : Cond := .code y_P_tick c_P_tick 2 (some (.int))
abbrev w_P_tick : List Cond := k_P_tick :: lw_big
abbrev c_P_make : ByteArray := prog_1_method_3_code
def y_P_make : MethodName := ⟨RX3, "make", "(IIZ)I"⟩
abbrev k_P_make : Cond := .code y_P_make c_P_make 5 (some (.int))
abbrev w_P_make : List Cond := k_P_make :: lw_big
abbrev c_P_remove : ByteArray := prog_1_method_4_code
def y_P_remove : MethodName := ⟨RX3, "remove", "(II)I"⟩
abbrev k_P_remove : Cond := .code y_P_remove c_P_remove 4 (some (.int))
abbrev w_P_remove : List Cond := k_P_remove :: lw_big
abbrev c_P_move : ByteArray := prog_1_method_5_code
def y_P_move : MethodName := ⟨RX3, "move", "(IIII)I"⟩
abbrev k_P_move : Cond := .code y_P_move c_P_move 6 (some (.int))
abbrev w_P_move : List Cond := k_P_move :: lw_big
abbrev c_P_write : ByteArray := prog_1_method_6_code
def y_P_write : MethodName := ⟨RX3, "write", "(III)I"⟩
abbrev k_P_write : Cond := .code y_P_write c_P_write 6 (some (.int))
abbrev w_P_write : List Cond := k_P_write :: lw_big
abbrev c_P_turnBack : ByteArray := prog_1_method_7_code
def y_P_turnBack : MethodName := ⟨RX3, "turnBack", "(II)I"⟩
abbrev k_P_turnBack : Cond := .code y_P_turnBack c_P_turnBack 5 (some (.int))
abbrev w_P_turnBack : List Cond := k_P_turnBack :: lw_big
abbrev c_P_putBack : ByteArray := prog_1_method_8_code
def y_P_putBack : MethodName := ⟨RX3, "putBack", "(III)I"⟩
abbrev k_P_putBack : Cond := .code y_P_putBack c_P_putBack 5 (some (.int))
abbrev w_P_putBack : List Cond := k_P_putBack :: lw_big
abbrev c_P_look : ByteArray := prog_1_method_9_code
def y_P_look : MethodName := ⟨RX3, "look", "(III)I"⟩
abbrev k_P_look : Cond := .code y_P_look c_P_look 4 (some (.int))
abbrev w_P_look : List Cond := k_P_look :: lw_big
abbrev c_P_next : ByteArray := prog_1_method_10_code
def y_P_next : MethodName := ⟨RX3, "next", "(III)I"⟩
abbrev k_P_next : Cond := .code y_P_next c_P_next 4 (some (.int))
abbrev w_P_next : List Cond := k_P_next :: lw_big
abbrev c_P_read : ByteArray := prog_1_method_11_code
def y_P_read : MethodName := ⟨RX3, "read", "(III)J"⟩
abbrev k_P_read : Cond := .code y_P_read c_P_read 6 (some (.long))
abbrev w_P_read : List Cond := k_P_read :: lw_big
abbrev c_P_below : ByteArray := prog_1_method_12_code
def y_P_below : MethodName := ⟨RX3, "below", "(II)I"⟩
abbrev k_P_below : Cond := .code y_P_below c_P_below 5 (some (.int))
abbrev w_P_below : List Cond := k_P_below :: lw_big
abbrev c_P_thin : ByteArray := prog_1_method_13_code
def y_P_thin : MethodName := ⟨RX3, "thin", "(I)I"⟩
abbrev k_P_thin : Cond := .code y_P_thin c_P_thin 3 (some (.int))
abbrev w_P_thin : List Cond := k_P_thin :: lw_big
abbrev c_P_sync : ByteArray := prog_1_method_14_code
def y_P_sync : MethodName := ⟨RX3, "sync", "()I"⟩
abbrev k_P_sync : Cond := .code y_P_sync c_P_sync 1 (some (.int))
abbrev w_P_sync : List Cond := k_P_sync :: lw_big
abbrev c_P_crash : ByteArray := prog_1_method_15_code
def y_P_crash : MethodName := ⟨RX3, "crash", "()I"⟩
abbrev k_P_crash : Cond := .code y_P_crash c_P_crash 3 (some (.int))
abbrev w_P_crash : List Cond := k_P_crash :: lw_big
abbrev c_P_node : ByteArray := prog_1_method_16_code
def y_P_node : MethodName := ⟨RX3, "node", "(II)I"⟩
abbrev k_P_node : Cond := .code y_P_node c_P_node 4 (some (.int))
abbrev w_P_node : List Cond := k_P_node :: lw_big
abbrev c_P_versionTime : ByteArray := prog_1_method_17_code
def y_P_versionTime : MethodName := ⟨RX3, "versionTime", "(II)I"⟩
abbrev k_P_versionTime : Cond := .code y_P_versionTime c_P_versionTime 4 (some (.int))
abbrev w_P_versionTime : List Cond := k_P_versionTime :: lw_big
abbrev c_P_count : ByteArray := prog_1_method_18_code
def y_P_count : MethodName := ⟨RX3, "count", "(I)I"⟩
abbrev k_P_count : Cond := .code y_P_count c_P_count 2 (some (.int))
abbrev w_P_count : List Cond := k_P_count :: lw_big
abbrev c_P_clamp : ByteArray := prog_1_method_19_code
def y_P_clamp : MethodName := ⟨RX3, "clamp", "(I)I"⟩
abbrev k_P_clamp : Cond := .code y_P_clamp c_P_clamp 1 (some (.int))
abbrev w_P_clamp : List Cond := k_P_clamp :: lw_big
abbrev c_P_isName : ByteArray := prog_1_method_20_code
def y_P_isName : MethodName := ⟨RX3, "isName", "(I)Z"⟩
abbrev k_P_isName : Cond := .code y_P_isName c_P_isName 1 (some (.boolean))
abbrev w_P_isName : List Cond := k_P_isName :: lw_big
abbrev c_P_isCell : ByteArray := prog_1_method_21_code
def y_P_isCell : MethodName := ⟨RX3, "isCell", "(I)Z"⟩
abbrev k_P_isCell : Cond := .code y_P_isCell c_P_isCell 1 (some (.boolean))
abbrev w_P_isCell : List Cond := k_P_isCell :: lw_big
abbrev c_P_placeOf : ByteArray := prog_1_method_22_code
def y_P_placeOf : MethodName := ⟨RX3, "placeOf", "(II)I"⟩
abbrev k_P_placeOf : Cond := .code y_P_placeOf c_P_placeOf 2 (some (.int))
abbrev w_P_placeOf : List Cond := k_P_placeOf :: lw_big
abbrev c_P_isMade : ByteArray := prog_1_method_23_code
def y_P_isMade : MethodName := ⟨RX3, "isMade", "(I)Z"⟩
abbrev k_P_isMade : Cond := .code y_P_isMade c_P_isMade 2 (some (.boolean))
abbrev w_P_isMade : List Cond := k_P_isMade :: lw_big
abbrev c_P_isMadeFolder : ByteArray := prog_1_method_24_code
def y_P_isMadeFolder : MethodName := ⟨RX3, "isMadeFolder", "(I)Z"⟩
abbrev k_P_isMadeFolder : Cond := .code y_P_isMadeFolder c_P_isMadeFolder 2 (some (.boolean))
abbrev w_P_isMadeFolder : List Cond := k_P_isMadeFolder :: lw_big
abbrev c_P_latestVersion : ByteArray := prog_1_method_25_code
def y_P_latestVersion : MethodName := ⟨RX3, "latestVersion", "(I)LPastTree$Version;"⟩
abbrev k_P_latestVersion : Cond := .code y_P_latestVersion c_P_latestVersion 2 (some (.object "PastTree$Version"))
abbrev w_P_latestVersion : List Cond := k_P_latestVersion :: lw_big
abbrev c_P_kindOf : ByteArray := prog_1_method_26_code
def y_P_kindOf : MethodName := ⟨RX3, "kindOf", "(I)I"⟩
abbrev k_P_kindOf : Cond := .code y_P_kindOf c_P_kindOf 2 (some (.int))
abbrev w_P_kindOf : List Cond := k_P_kindOf :: lw_big
abbrev c_P_isUsedUp : ByteArray := prog_1_method_27_code
def y_P_isUsedUp : MethodName := ⟨RX3, "isUsedUp", "()Z"⟩
abbrev k_P_isUsedUp : Cond := .code y_P_isUsedUp c_P_isUsedUp 1 (some (.boolean))
abbrev w_P_isUsedUp : List Cond := k_P_isUsedUp :: lw_big
abbrev c_P_noteChange : ByteArray := prog_1_method_28_code
def y_P_noteChange : MethodName := ⟨RX3, "noteChange", "()V"⟩
abbrev k_P_noteChange : Cond := .code y_P_noteChange c_P_noteChange 1 none
abbrev w_P_noteChange : List Cond := k_P_noteChange :: lw_big
abbrev c_P_place : ByteArray := prog_1_method_29_code
def y_P_place : MethodName := ⟨RX3, "place", "(II)V"⟩
abbrev k_P_place : Cond := .code y_P_place c_P_place 3 none
abbrev w_P_place : List Cond := k_P_place :: lw_big
abbrev c_P_addVersion : ByteArray := prog_1_method_30_code
def y_P_addVersion : MethodName := ⟨RX3, "addVersion", "(ILPastTree$Version;[I)I"⟩
abbrev k_P_addVersion : Cond := .code y_P_addVersion c_P_addVersion 6 (some (.int))
abbrev w_P_addVersion : List Cond := k_P_addVersion :: lw_big
abbrev c_P_findPlaces : ByteArray := prog_1_method_31_code
def y_P_findPlaces : MethodName := ⟨RX3, "findPlaces", "(I)V"⟩
abbrev k_P_findPlaces : Cond := .code y_P_findPlaces c_P_findPlaces 3 none
abbrev w_P_findPlaces : List Cond := k_P_findPlaces :: lw_big
abbrev c_P_entryAt : ByteArray := prog_1_method_32_code
def y_P_entryAt : MethodName := ⟨RX3, "entryAt", "(II)I"⟩
abbrev k_P_entryAt : Cond := .code y_P_entryAt c_P_entryAt 5 (some (.int))
abbrev w_P_entryAt : List Cond := k_P_entryAt :: lw_big
abbrev c_P_firstName : ByteArray := prog_1_method_33_code
def y_P_firstName : MethodName := ⟨RX3, "firstName", "(II)I"⟩
abbrev k_P_firstName : Cond := .code y_P_firstName c_P_firstName 4 (some (.int))
abbrev w_P_firstName : List Cond := k_P_firstName :: lw_big
abbrev c_P_hasRoomFor : ByteArray := prog_1_method_34_code
def y_P_hasRoomFor : MethodName := ⟨RX3, "hasRoomFor", "(II)Z"⟩
abbrev k_P_hasRoomFor : Cond := .code y_P_hasRoomFor c_P_hasRoomFor 4 (some (.boolean))
abbrev w_P_hasRoomFor : List Cond := k_P_hasRoomFor :: lw_big
abbrev c_P_isWithin : ByteArray := prog_1_method_35_code
def y_P_isWithin : MethodName := ⟨RX3, "isWithin", "(II)Z"⟩
abbrev k_P_isWithin : Cond := .code y_P_isWithin c_P_isWithin 5 (some (.boolean))
abbrev w_P_isWithin : List Cond := k_P_isWithin :: lw_big
abbrev c_P_makeDurable : ByteArray := prog_1_method_36_code
def y_P_makeDurable : MethodName := ⟨RX3, "makeDurable", "()V"⟩
abbrev k_P_makeDurable : Cond := .code y_P_makeDurable c_P_makeDurable 2 none
abbrev w_P_makeDurable : List Cond := k_P_makeDurable :: lw_big
abbrev c_P_dropThinned : ByteArray := prog_1_method_37_code
def y_P_dropThinned : MethodName := ⟨RX3, "dropThinned", "(LPastTree$Version;)I"⟩
abbrev k_P_dropThinned : Cond := .code y_P_dropThinned c_P_dropThinned 7 (some (.int))
abbrev w_P_dropThinned : List Cond := k_P_dropThinned :: lw_big
abbrev c_P_versionAsOf : ByteArray := prog_1_method_38_code
def y_P_versionAsOf : MethodName := ⟨RX3, "versionAsOf", "(LPastTree$Version;I)LPastTree$Version;"⟩
abbrev k_P_versionAsOf : Cond := .code y_P_versionAsOf c_P_versionAsOf 3 (some (.object "PastTree$Version"))
abbrev w_P_versionAsOf : List Cond := k_P_versionAsOf :: lw_big
abbrev c_P_countGone : ByteArray := prog_1_method_39_code
def y_P_countGone : MethodName := ⟨RX3, "countGone", "(LPastTree$Version;)I"⟩
abbrev k_P_countGone : Cond := .code y_P_countGone c_P_countGone 3 (some (.int))
abbrev w_P_countGone : List Cond := k_P_countGone :: lw_big
abbrev c_T_init : ByteArray := prog_6_method_1_code
def y_T_init : MethodName := ⟨RX4, "<init>", "(II)V"⟩
abbrev k_T_init : Cond := .code y_T_init c_T_init 3 none
abbrev w_T_init : List Cond := k_T_init :: lw_big
abbrev c_T_isin : ByteArray := prog_6_method_2_code
def y_T_isin : MethodName := ⟨RX4, "in", "(II)Z"⟩
abbrev k_T_isin : Cond := .code y_T_isin c_T_isin 2 (some (.boolean))
abbrev w_T_isin : List Cond := k_T_isin :: lw_big
abbrev c_T_nodes : ByteArray := prog_6_method_3_code
def y_T_nodes : MethodName := ⟨RX4, "nodes", "()I"⟩
abbrev k_T_nodes : Cond := .code y_T_nodes c_T_nodes 3 (some (.int))
abbrev w_T_nodes : List Cond := k_T_nodes :: lw_big
abbrev c_T_kind : ByteArray := prog_6_method_4_code
def y_T_kind : MethodName := ⟨RX4, "kind", "(I)I"⟩
abbrev k_T_kind : Cond := .code y_T_kind c_T_kind 3 (some (.int))
abbrev w_T_kind : List Cond := k_T_kind :: lw_big
abbrev c_T_asOf : ByteArray := prog_6_method_5_code
def y_T_asOf : MethodName := ⟨RX4, "asOf", "(I)V"⟩
abbrev k_T_asOf : Cond := .code y_T_asOf c_T_asOf 3 none
abbrev w_T_asOf : List Cond := k_T_asOf :: lw_big
abbrev c_T_placed : ByteArray := prog_6_method_6_code
def y_T_placed : MethodName := ⟨RX4, "placed", "(I)Z"⟩
abbrev k_T_placed : Cond := .code y_T_placed c_T_placed 3 (some (.boolean))
abbrev w_T_placed : List Cond := k_T_placed :: lw_big
abbrev c_T_opn : ByteArray := prog_6_method_7_code
def y_T_opn : MethodName := ⟨RX4, "open", "(I)Z"⟩
abbrev k_T_opn : Cond := .code y_T_opn c_T_opn 2 (some (.boolean))
abbrev w_T_opn : List Cond := k_T_opn :: lw_big
abbrev c_T_reach : ByteArray := prog_6_method_8_code
def y_T_reach : MethodName := ⟨RX4, "reach", "(I)V"⟩
abbrev k_T_reach : Cond := .code y_T_reach c_T_reach 4 none
abbrev w_T_reach : List Cond := k_T_reach :: lw_big
abbrev c_T_hasEntries : ByteArray := prog_6_method_9_code
def y_T_hasEntries : MethodName := ⟨RX4, "hasEntries", "(I)Z"⟩
abbrev k_T_hasEntries : Cond := .code y_T_hasEntries c_T_hasEntries 3 (some (.boolean))
abbrev w_T_hasEntries : List Cond := k_T_hasEntries :: lw_big
abbrev c_T_change : ByteArray := prog_6_method_10_code
def y_T_change : MethodName := ⟨RX4, "change", "(IIIII)I"⟩
abbrev k_T_change : Cond := .code y_T_change c_T_change 7 (some (.int))
abbrev w_T_change : List Cond := k_T_change :: lw_big
abbrev c_T_version : ByteArray := prog_6_method_11_code
def y_T_version : MethodName := ⟨RX4, "version", "(II)I"⟩
abbrev k_T_version : Cond := .code y_T_version c_T_version 4 (some (.int))
abbrev w_T_version : List Cond := k_T_version :: lw_big
abbrev c_T_isGone : ByteArray := prog_6_method_12_code
def y_T_isGone : MethodName := ⟨RX4, "isGone", "(II)Z"⟩
abbrev k_T_isGone : Cond := .code y_T_isGone c_T_isGone 4 (some (.boolean))
abbrev w_T_isGone : List Cond := k_T_isGone :: lw_big
abbrev c_T_timeOf : ByteArray := prog_6_method_13_code
def y_T_timeOf : MethodName := ⟨RX4, "timeOf", "(II)I"⟩
abbrev k_T_timeOf : Cond := .code y_T_timeOf c_T_timeOf 6 (some (.int))
abbrev w_T_timeOf : List Cond := k_T_timeOf :: lw_big
abbrev c_T_versions : ByteArray := prog_6_method_14_code
def y_T_versions : MethodName := ⟨RX4, "versions", "(I)I"⟩
abbrev k_T_versions : Cond := .code y_T_versions c_T_versions 3 (some (.int))
abbrev w_T_versions : List Cond := k_T_versions :: lw_big
abbrev c_T_copyCells : ByteArray := prog_6_method_15_code
def y_T_copyCells : MethodName := ⟨RX4, "copyCells", "(II)V"⟩
abbrev k_T_copyCells : Cond := .code y_T_copyCells c_T_copyCells 4 none
abbrev w_T_copyCells : List Cond := k_T_copyCells :: lw_big
abbrev c_T_tick : ByteArray := prog_6_method_16_code
def y_T_tick : MethodName := ⟨RX4, "tick", "(I)I"⟩
abbrev k_T_tick : Cond := .code y_T_tick c_T_tick 2 (some (.int))
abbrev w_T_tick : List Cond := k_T_tick :: lw_big
abbrev c_T_make : ByteArray := prog_6_method_17_code
def y_T_make : MethodName := ⟨RX4, "make", "(IIZ)I"⟩
abbrev k_T_make : Cond := .code y_T_make c_T_make 6 (some (.int))
abbrev w_T_make : List Cond := k_T_make :: lw_big
abbrev c_T_remove : ByteArray := prog_6_method_18_code
def y_T_remove : MethodName := ⟨RX4, "remove", "(II)I"⟩
abbrev k_T_remove : Cond := .code y_T_remove c_T_remove 5 (some (.int))
abbrev w_T_remove : List Cond := k_T_remove :: lw_big
abbrev c_T_move : ByteArray := prog_6_method_19_code
def y_T_move : MethodName := ⟨RX4, "move", "(IIII)I"⟩
abbrev k_T_move : Cond := .code y_T_move c_T_move 7 (some (.int))
abbrev w_T_move : List Cond := k_T_move :: lw_big
abbrev c_T_write : ByteArray := prog_6_method_20_code
def y_T_write : MethodName := ⟨RX4, "write", "(III)I"⟩
abbrev k_T_write : Cond := .code y_T_write c_T_write 6 (some (.int))
abbrev w_T_write : List Cond := k_T_write :: lw_big
abbrev c_T_turnBack : ByteArray := prog_6_method_21_code
def y_T_turnBack : MethodName := ⟨RX4, "turnBack", "(II)I"⟩
abbrev k_T_turnBack : Cond := .code y_T_turnBack c_T_turnBack 5 (some (.int))
abbrev w_T_turnBack : List Cond := k_T_turnBack :: lw_big
abbrev c_T_asked : ByteArray := prog_6_method_22_code
def y_T_asked : MethodName := ⟨RX4, "asked", "(III)Z"⟩
abbrev k_T_asked : Cond := .code y_T_asked c_T_asked 4 (some (.boolean))
abbrev w_T_asked : List Cond := k_T_asked :: lw_big
abbrev c_T_putBack : ByteArray := prog_6_method_23_code
def y_T_putBack : MethodName := ⟨RX4, "putBack", "(III)I"⟩
abbrev k_T_putBack : Cond := .code y_T_putBack c_T_putBack 6 (some (.int))
abbrev w_T_putBack : List Cond := k_T_putBack :: lw_big
abbrev c_T_look : ByteArray := prog_6_method_24_code
def y_T_look : MethodName := ⟨RX4, "look", "(III)I"⟩
abbrev k_T_look : Cond := .code y_T_look c_T_look 4 (some (.int))
abbrev w_T_look : List Cond := k_T_look :: lw_big
abbrev c_T_next : ByteArray := prog_6_method_25_code
def y_T_next : MethodName := ⟨RX4, "next", "(III)I"⟩
abbrev k_T_next : Cond := .code y_T_next c_T_next 5 (some (.int))
abbrev w_T_next : List Cond := k_T_next :: lw_big
abbrev c_T_read : ByteArray := prog_6_method_26_code
def y_T_read : MethodName := ⟨RX4, "read", "(III)J"⟩
abbrev k_T_read : Cond := .code y_T_read c_T_read 5 (some (.long))
abbrev w_T_read : List Cond := k_T_read :: lw_big
abbrev c_T_below : ByteArray := prog_6_method_27_code
def y_T_below : MethodName := ⟨RX4, "below", "(II)I"⟩
abbrev k_T_below : Cond := .code y_T_below c_T_below 5 (some (.int))
abbrev w_T_below : List Cond := k_T_below :: lw_big
abbrev c_T_thin : ByteArray := prog_6_method_28_code
def y_T_thin : MethodName := ⟨RX4, "thin", "(I)I"⟩
abbrev k_T_thin : Cond := .code y_T_thin c_T_thin 8 (some (.int))
abbrev w_T_thin : List Cond := k_T_thin :: lw_big
abbrev c_T_sync : ByteArray := prog_6_method_29_code
def y_T_sync : MethodName := ⟨RX4, "sync", "()I"⟩
abbrev k_T_sync : Cond := .code y_T_sync c_T_sync 1 (some (.int))
abbrev w_T_sync : List Cond := k_T_sync :: lw_big
abbrev c_T_crash : ByteArray := prog_6_method_30_code
def y_T_crash : MethodName := ⟨RX4, "crash", "()I"⟩
abbrev k_T_crash : Cond := .code y_T_crash c_T_crash 2 (some (.int))
abbrev w_T_crash : List Cond := k_T_crash :: lw_big
abbrev c_T_node : ByteArray := prog_6_method_31_code
def y_T_node : MethodName := ⟨RX4, "node", "(II)I"⟩
abbrev k_T_node : Cond := .code y_T_node c_T_node 7 (some (.int))
abbrev w_T_node : List Cond := k_T_node :: lw_big
abbrev c_T_versionTime : ByteArray := prog_6_method_32_code
def y_T_versionTime : MethodName := ⟨RX4, "versionTime", "(II)I"⟩
abbrev k_T_versionTime : Cond := .code y_T_versionTime c_T_versionTime 3 (some (.int))
abbrev w_T_versionTime : List Cond := k_T_versionTime :: lw_big
abbrev c_T_count : ByteArray := prog_6_method_33_code
def y_T_count : MethodName := ⟨RX4, "count", "(I)I"⟩
abbrev k_T_count : Cond := .code y_T_count c_T_count 2 (some (.int))
abbrev w_T_count : List Cond := k_T_count :: lw_big
abbrev c_N_init : ByteArray := prog_2_method_1_code
def y_N_init : MethodName := ⟨RX0, "<init>", "()V"⟩
abbrev k_N_init : Cond := .code y_N_init c_N_init 1 none
abbrev w_N_init : List Cond := k_N_init :: lw_big
abbrev c_N_keep : ByteArray := prog_2_method_2_code
def y_N_keep : MethodName := ⟨RX0, "keep", "()V"⟩
abbrev k_N_keep : Cond := .code y_N_keep c_N_keep 1 none
abbrev w_N_keep : List Cond := k_N_keep :: lw_big
abbrev c_N_goBack : ByteArray := prog_2_method_3_code
def y_N_goBack : MethodName := ⟨RX0, "goBack", "()V"⟩
abbrev k_N_goBack : Cond := .code y_N_goBack c_N_goBack 1 none
abbrev w_N_goBack : List Cond := k_N_goBack :: lw_big
abbrev c_N_placeAsOf : ByteArray := prog_2_method_4_code
def y_N_placeAsOf : MethodName := ⟨RX0, "placeAsOf", "(I)I"⟩
abbrev k_N_placeAsOf : Cond := .code y_N_placeAsOf c_N_placeAsOf 3 (some (.int))
abbrev w_N_placeAsOf : List Cond := k_N_placeAsOf :: lw_big
abbrev c_S_init : ByteArray := prog_3_method_1_code
def y_S_init : MethodName := ⟨RX1, "<init>", "(IILPastTree$Spot;)V"⟩
abbrev k_S_init : Cond := .code y_S_init c_S_init 4 none
abbrev w_S_init : List Cond := k_S_init :: lw_big
abbrev c_V_init : ByteArray := prog_4_method_1_code
def y_V_init : MethodName := ⟨RX2, "<init>", "(II[ILPastTree$Version;)V"⟩
abbrev k_V_init : Cond := .code y_V_init c_V_init 5 none
abbrev w_V_init : List Cond := k_V_init :: lw_big
abbrev c_L_cell : ByteArray := method_2_code
def y_L_cell : MethodName := ⟨RL, "cell", "([II)I"⟩
abbrev k_L_cell : Cond := .code y_L_cell c_L_cell 2 (some (.int))
abbrev w_L_cell : List Cond := k_L_cell :: lw_big
abbrev c_L_law : ByteArray := code
def y_L_law : MethodName := ⟨RL, "law", "([I)Z"⟩
set_option maxRecDepth 20000 in
theorem wd_0 : Cond.selects RX3 y_P_isMadeFolder y_P_isMadeFolder ∈ lw_big := List.mem_filter.mpr ⟨List.mem_of_getElem? (i := 0) (by decide +kernel), by decide +kernel⟩
set_option maxRecDepth 20000 in
theorem wd_1 : Cond.selects RX3 y_P_isMade y_P_isMade ∈ lw_big := List.mem_filter.mpr ⟨List.mem_of_getElem? (i := 1) (by decide +kernel), by decide +kernel⟩
set_option maxRecDepth 20000 in
theorem wd_2 : Cond.selects RX3 y_P_findPlaces y_P_findPlaces ∈ lw_big := List.mem_filter.mpr ⟨List.mem_of_getElem? (i := 2) (by decide +kernel), by decide +kernel⟩
set_option maxRecDepth 20000 in
theorem wd_3 : Cond.selects RX3 y_P_hasRoomFor y_P_hasRoomFor ∈ lw_big := List.mem_filter.mpr ⟨List.mem_of_getElem? (i := 3) (by decide +kernel), by decide +kernel⟩
set_option maxRecDepth 20000 in
theorem wd_4 : Cond.selects RX3 y_P_entryAt y_P_entryAt ∈ lw_big := List.mem_filter.mpr ⟨List.mem_of_getElem? (i := 4) (by decide +kernel), by decide +kernel⟩
set_option maxRecDepth 20000 in
theorem wd_5 : Cond.selects RX3 y_P_isUsedUp y_P_isUsedUp ∈ lw_big := List.mem_filter.mpr ⟨List.mem_of_getElem? (i := 5) (by decide +kernel), by decide +kernel⟩
set_option maxRecDepth 20000 in
theorem wd_6 : Cond.selects RX3 y_P_place y_P_place ∈ lw_big := List.mem_filter.mpr ⟨List.mem_of_getElem? (i := 6) (by decide +kernel), by decide +kernel⟩
set_option maxRecDepth 20000 in
theorem wd_7 : Cond.selects RX3 y_P_noteChange y_P_noteChange ∈ lw_big := List.mem_filter.mpr ⟨List.mem_of_getElem? (i := 7) (by decide +kernel), by decide +kernel⟩
set_option maxRecDepth 20000 in
theorem wd_8 : Cond.selects RX3 y_P_firstName y_P_firstName ∈ lw_big := List.mem_filter.mpr ⟨List.mem_of_getElem? (i := 8) (by decide +kernel), by decide +kernel⟩
set_option maxRecDepth 20000 in
theorem wd_9 : Cond.selects RX3 y_P_isWithin y_P_isWithin ∈ lw_big := List.mem_filter.mpr ⟨List.mem_of_getElem? (i := 9) (by decide +kernel), by decide +kernel⟩
set_option maxRecDepth 20000 in
theorem wd_10 : Cond.selects RX3 y_P_latestVersion y_P_latestVersion ∈ lw_big := List.mem_filter.mpr ⟨List.mem_of_getElem? (i := 10) (by decide +kernel), by decide +kernel⟩
set_option maxRecDepth 20000 in
theorem wd_11 : Cond.selects RX3 y_P_addVersion y_P_addVersion ∈ lw_big := List.mem_filter.mpr ⟨List.mem_of_getElem? (i := 11) (by decide +kernel), by decide +kernel⟩
set_option maxRecDepth 20000 in
theorem wd_12 : Cond.selects RX3 y_P_makeDurable y_P_makeDurable ∈ lw_big := List.mem_filter.mpr ⟨List.mem_of_getElem? (i := 12) (by decide +kernel), by decide +kernel⟩
set_option maxRecDepth 20000 in
theorem wd_13 : Cond.selects RX3 y_P_dropThinned y_P_dropThinned ∈ lw_big := List.mem_filter.mpr ⟨List.mem_of_getElem? (i := 13) (by decide +kernel), by decide +kernel⟩
set_option maxRecDepth 20000 in
theorem wd_14 : Cond.selects RX3 y_P_kindOf y_P_kindOf ∈ lw_big := List.mem_filter.mpr ⟨List.mem_of_getElem? (i := 14) (by decide +kernel), by decide +kernel⟩
set_option maxRecDepth 20000 in
theorem wd_15 : Cond.selects RX4 y_T_asOf y_T_asOf ∈ lw_big := List.mem_filter.mpr ⟨List.mem_of_getElem? (i := 15) (by decide +kernel), by decide +kernel⟩
set_option maxRecDepth 20000 in
theorem wd_16 : Cond.selects RX4 y_T_kind y_T_kind ∈ lw_big := List.mem_filter.mpr ⟨List.mem_of_getElem? (i := 16) (by decide +kernel), by decide +kernel⟩
set_option maxRecDepth 20000 in
theorem wd_17 : Cond.selects RX4 y_T_opn y_T_opn ∈ lw_big := List.mem_filter.mpr ⟨List.mem_of_getElem? (i := 17) (by decide +kernel), by decide +kernel⟩
set_option maxRecDepth 20000 in
theorem wd_18 : Cond.selects RX4 y_T_placed y_T_placed ∈ lw_big := List.mem_filter.mpr ⟨List.mem_of_getElem? (i := 18) (by decide +kernel), by decide +kernel⟩
set_option maxRecDepth 20000 in
theorem wd_19 : Cond.selects RX4 y_T_nodes y_T_nodes ∈ lw_big := List.mem_filter.mpr ⟨List.mem_of_getElem? (i := 19) (by decide +kernel), by decide +kernel⟩
set_option maxRecDepth 20000 in
theorem wd_20 : Cond.selects RX4 y_T_change y_T_change ∈ lw_big := List.mem_filter.mpr ⟨List.mem_of_getElem? (i := 20) (by decide +kernel), by decide +kernel⟩
set_option maxRecDepth 20000 in
theorem wd_21 : Cond.selects RX4 y_T_copyCells y_T_copyCells ∈ lw_big := List.mem_filter.mpr ⟨List.mem_of_getElem? (i := 21) (by decide +kernel), by decide +kernel⟩
set_option maxRecDepth 20000 in
theorem wd_22 : Cond.selects RX4 y_T_hasEntries y_T_hasEntries ∈ lw_big := List.mem_filter.mpr ⟨List.mem_of_getElem? (i := 22) (by decide +kernel), by decide +kernel⟩
set_option maxRecDepth 20000 in
theorem wd_23 : Cond.selects RX4 y_T_reach y_T_reach ∈ lw_big := List.mem_filter.mpr ⟨List.mem_of_getElem? (i := 23) (by decide +kernel), by decide +kernel⟩
set_option maxRecDepth 20000 in
theorem wd_24 : Cond.selects RX4 y_T_version y_T_version ∈ lw_big := List.mem_filter.mpr ⟨List.mem_of_getElem? (i := 24) (by decide +kernel), by decide +kernel⟩
set_option maxRecDepth 20000 in
theorem wd_25 : Cond.selects RX4 y_T_versions y_T_versions ∈ lw_big := List.mem_filter.mpr ⟨List.mem_of_getElem? (i := 25) (by decide +kernel), by decide +kernel⟩
set_option maxRecDepth 20000 in
theorem wd_26 : Cond.selects RX4 y_T_timeOf y_T_timeOf ∈ lw_big := List.mem_filter.mpr ⟨List.mem_of_getElem? (i := 26) (by decide +kernel), by decide +kernel⟩
set_option maxRecDepth 20000 in
theorem wd_27 : Cond.selects RX4 y_T_isGone y_T_isGone ∈ lw_big := List.mem_filter.mpr ⟨List.mem_of_getElem? (i := 27) (by decide +kernel), by decide +kernel⟩
set_option maxRecDepth 20000 in
theorem wd_28 : Cond.selects RX4 y_T_asked y_T_asked ∈ lw_big := List.mem_filter.mpr ⟨List.mem_of_getElem? (i := 28) (by decide +kernel), by decide +kernel⟩
set_option maxRecDepth 20000 in
theorem wd_29 : Cond.initialized RL ∈ lw_big := List.mem_filter.mpr ⟨List.mem_of_getElem? (i := 29) (by decide +kernel), by decide +kernel⟩
set_option maxRecDepth 20000 in
theorem wd_30 : Cond.initialized RX3 ∈ lw_big := List.mem_filter.mpr ⟨List.mem_of_getElem? (i := 30) (by decide +kernel), by decide +kernel⟩
set_option maxRecDepth 20000 in
theorem wd_31 : Cond.initialized "java/lang/Math" ∈ lw_big := List.mem_filter.mpr ⟨List.mem_of_getElem? (i := 31) (by decide +kernel), by decide +kernel⟩
set_option maxRecDepth 20000 in
theorem wd_32 : Cond.initialized RX0 ∈ lw_big := List.mem_filter.mpr ⟨List.mem_of_getElem? (i := 32) (by decide +kernel), by decide +kernel⟩
set_option maxRecDepth 20000 in
theorem wd_33 : Cond.initialized RX4 ∈ lw_big := List.mem_filter.mpr ⟨List.mem_of_getElem? (i := 33) (by decide +kernel), by decide +kernel⟩
set_option maxRecDepth 20000 in
theorem wd_34 : Cond.initialized RX2 ∈ lw_big := List.mem_filter.mpr ⟨List.mem_of_getElem? (i := 34) (by decide +kernel), by decide +kernel⟩
set_option maxRecDepth 20000 in
theorem wd_35 : Cond.initialized RX1 ∈ lw_big := List.mem_filter.mpr ⟨List.mem_of_getElem? (i := 35) (by decide +kernel), by decide +kernel⟩
set_option maxRecDepth 20000 in
theorem wd_36 : Cond.classLink RL 7 RX3 ∈ lw_big := List.mem_filter.mpr ⟨List.mem_of_getElem? (i := 36) (by decide +kernel), by decide +kernel⟩
set_option maxRecDepth 20000 in
theorem wd_37 : Cond.instantiable RX3 11 ∈ lw_big := List.mem_filter.mpr ⟨List.mem_of_getElem? (i := 37) (by decide +kernel), by decide +kernel⟩
set_option maxRecDepth 20000 in
theorem wd_38 : Cond.methodLink RL 15 y_P_init ∈ lw_big := List.mem_filter.mpr ⟨List.mem_of_getElem? (i := 38) (by decide +kernel), by decide +kernel⟩
set_option maxRecDepth 20000 in
theorem wd_39 : Cond.instanceMethod y_P_init ∈ lw_big := List.mem_filter.mpr ⟨List.mem_of_getElem? (i := 39) (by decide +kernel), by decide +kernel⟩
set_option maxRecDepth 20000 in
theorem wd_40 : k_P_init ∈ lw_big := List.mem_filter.mpr ⟨List.mem_of_getElem? (i := 40) rfl, by decide +kernel⟩
set_option maxRecDepth 20000 in
theorem wd_41 : Cond.methodLink RX3 1 objectInit ∈ lw_big := List.mem_filter.mpr ⟨List.mem_of_getElem? (i := 41) (by decide +kernel), by decide +kernel⟩
set_option maxRecDepth 20000 in
theorem wd_42 : Cond.instanceMethod objectInit ∈ lw_big := List.mem_filter.mpr ⟨List.mem_of_getElem? (i := 42) (by decide +kernel), by decide +kernel⟩
set_option maxRecDepth 20000 in
theorem wd_43 : Cond.code objectInit ⟨#[0xb1]⟩ 1 none ∈ lw_big := List.mem_filter.mpr ⟨List.mem_of_getElem? (i := 43) rfl, by decide +kernel⟩
set_option maxRecDepth 20000 in
theorem wd_44 : Cond.classLink RX3 9 RX0 ∈ lw_big := List.mem_filter.mpr ⟨List.mem_of_getElem? (i := 44) (by decide +kernel), by decide +kernel⟩
set_option maxRecDepth 20000 in
theorem wd_46 : Cond.methodLink RX3 41 y_P_clamp ∈ lw_big := List.mem_filter.mpr ⟨List.mem_of_getElem? (i := 46) (by decide +kernel), by decide +kernel⟩
set_option maxRecDepth 20000 in
theorem wd_47 : Cond.static y_P_clamp ∈ lw_big := List.mem_filter.mpr ⟨List.mem_of_getElem? (i := 47) (by decide +kernel), by decide +kernel⟩
set_option maxRecDepth 20000 in
theorem wd_48 : k_P_clamp ∈ lw_big := List.mem_filter.mpr ⟨List.mem_of_getElem? (i := 48) rfl, by decide +kernel⟩
set_option maxRecDepth 20000 in
theorem wd_49 : Cond.methodLink RX3 156 Lib.Math.min.name ∈ lw_big := List.mem_filter.mpr ⟨List.mem_of_getElem? (i := 49) (by decide +kernel), by decide +kernel⟩
set_option maxRecDepth 20000 in
theorem wd_50 : Cond.static Lib.Math.min.name ∈ lw_big := List.mem_filter.mpr ⟨List.mem_of_getElem? (i := 50) (by decide +kernel), by decide +kernel⟩
set_option maxRecDepth 20000 in
theorem wd_51 : Cond.code Lib.Math.min.name Lib.Math.min.code 2 (some .int) ∈ lw_big := List.mem_filter.mpr ⟨List.mem_of_getElem? (i := 51) rfl, by decide +kernel⟩
set_option maxRecDepth 20000 in
theorem wd_52 : Cond.methodLink RX3 161 Lib.Math.max.name ∈ lw_big := List.mem_filter.mpr ⟨List.mem_of_getElem? (i := 52) (by decide +kernel), by decide +kernel⟩
set_option maxRecDepth 20000 in
theorem wd_53 : Cond.static Lib.Math.max.name ∈ lw_big := List.mem_filter.mpr ⟨List.mem_of_getElem? (i := 53) (by decide +kernel), by decide +kernel⟩
set_option maxRecDepth 20000 in
theorem wd_54 : Cond.code Lib.Math.max.name Lib.Math.max.code 2 (some .int) ∈ lw_big := List.mem_filter.mpr ⟨List.mem_of_getElem? (i := 54) rfl, by decide +kernel⟩
set_option maxRecDepth 20000 in
theorem wd_55 : Cond.instantiable RX0 4 ∈ lw_big := List.mem_filter.mpr ⟨List.mem_of_getElem? (i := 55) (by decide +kernel), by decide +kernel⟩
set_option maxRecDepth 20000 in
theorem wd_57 : Cond.instanceMethod y_N_init ∈ lw_big := List.mem_filter.mpr ⟨List.mem_of_getElem? (i := 57) (by decide +kernel), by decide +kernel⟩
set_option maxRecDepth 20000 in
theorem wd_58 : k_N_init ∈ lw_big := List.mem_filter.mpr ⟨List.mem_of_getElem? (i := 58) rfl, by decide +kernel⟩
set_option maxRecDepth 20000 in
theorem wd_59 : Cond.methodLink RX0 3 objectInit ∈ lw_big := List.mem_filter.mpr ⟨List.mem_of_getElem? (i := 59) (by decide +kernel), by decide +kernel⟩
set_option maxRecDepth 20000 in
theorem wd_60 : Cond.fieldLink RX0 9 "PastTree$Node" "spot" "LPastTree$Spot;" ∈ lw_big := List.mem_filter.mpr ⟨List.mem_of_getElem? (i := 60) (by decide +kernel), by decide +kernel⟩
set_option maxRecDepth 20000 in
theorem wd_61 : Cond.fieldLink RX3 169 "PastTree$Node" "spot" "LPastTree$Spot;" ∈ lw_big := List.mem_filter.mpr ⟨List.mem_of_getElem? (i := 61) (by decide +kernel), by decide +kernel⟩
set_option maxRecDepth 20000 in
theorem wd_62 : Cond.fieldLink RX0 15 "PastTree$Node" "version" "LPastTree$Version;" ∈ lw_big := List.mem_filter.mpr ⟨List.mem_of_getElem? (i := 62) (by decide +kernel), by decide +kernel⟩
set_option maxRecDepth 20000 in
theorem wd_63 : Cond.fieldLink RX3 76 "PastTree$Node" "version" "LPastTree$Version;" ∈ lw_big := List.mem_filter.mpr ⟨List.mem_of_getElem? (i := 63) (by decide +kernel), by decide +kernel⟩
set_option maxRecDepth 20000 in
theorem wd_64 : Cond.fieldLink RX0 19 "PastTree$Node" "durableSpot" "LPastTree$Spot;" ∈ lw_big := List.mem_filter.mpr ⟨List.mem_of_getElem? (i := 64) (by decide +kernel), by decide +kernel⟩
set_option maxRecDepth 20000 in
theorem wd_65 : Cond.fieldLink RX0 22 "PastTree$Node" "durableVersion" "LPastTree$Version;" ∈ lw_big := List.mem_filter.mpr ⟨List.mem_of_getElem? (i := 65) (by decide +kernel), by decide +kernel⟩
set_option maxRecDepth 20000 in
theorem wd_75 : Cond.arrayClass .int ∈ lw_big := List.mem_filter.mpr ⟨List.mem_of_getElem? (i := 75) (by decide +kernel), by decide +kernel⟩
set_option maxRecDepth 20000 in
theorem wd_76 : Cond.fieldLink RX3 45 "PastTree" "window" "I" ∈ lw_big := List.mem_filter.mpr ⟨List.mem_of_getElem? (i := 76) (by decide +kernel), by decide +kernel⟩
set_option maxRecDepth 20000 in
theorem wd_77 : Cond.fieldLink RX3 48 "PastTree" "gap" "I" ∈ lw_big := List.mem_filter.mpr ⟨List.mem_of_getElem? (i := 77) (by decide +kernel), by decide +kernel⟩
set_option maxRecDepth 20000 in
theorem wd_78 : Cond.fieldLink RX3 11 "PastTree" "nodes" "[LPastTree$Node;" ∈ lw_big := List.mem_filter.mpr ⟨List.mem_of_getElem? (i := 78) (by decide +kernel), by decide +kernel⟩
set_option maxRecDepth 20000 in
theorem wd_79 : Cond.fieldLink RX3 15 "PastTree" "places" "[I" ∈ lw_big := List.mem_filter.mpr ⟨List.mem_of_getElem? (i := 79) (by decide +kernel), by decide +kernel⟩
set_option maxRecDepth 20000 in
theorem wd_80 : Cond.fieldLink RX3 19 "PastTree" "clock" "I" ∈ lw_big := List.mem_filter.mpr ⟨List.mem_of_getElem? (i := 80) (by decide +kernel), by decide +kernel⟩
set_option maxRecDepth 20000 in
theorem wd_81 : Cond.fieldLink RX3 23 "PastTree" "made" "I" ∈ lw_big := List.mem_filter.mpr ⟨List.mem_of_getElem? (i := 81) (by decide +kernel), by decide +kernel⟩
set_option maxRecDepth 20000 in
theorem wd_82 : Cond.fieldLink RX3 26 "PastTree" "changes" "I" ∈ lw_big := List.mem_filter.mpr ⟨List.mem_of_getElem? (i := 82) (by decide +kernel), by decide +kernel⟩
set_option maxRecDepth 20000 in
theorem wd_83 : Cond.fieldLink RX3 29 "PastTree" "durableClock" "I" ∈ lw_big := List.mem_filter.mpr ⟨List.mem_of_getElem? (i := 83) (by decide +kernel), by decide +kernel⟩
set_option maxRecDepth 20000 in
theorem wd_84 : Cond.fieldLink RX3 32 "PastTree" "durableMade" "I" ∈ lw_big := List.mem_filter.mpr ⟨List.mem_of_getElem? (i := 84) (by decide +kernel), by decide +kernel⟩
set_option maxRecDepth 20000 in
theorem wd_85 : Cond.fieldLink RX3 35 "PastTree" "durableChanges" "I" ∈ lw_big := List.mem_filter.mpr ⟨List.mem_of_getElem? (i := 85) (by decide +kernel), by decide +kernel⟩
set_option maxRecDepth 20000 in
theorem wd_86 : Cond.fieldLink RX3 38 "PastTree" "changesEver" "I" ∈ lw_big := List.mem_filter.mpr ⟨List.mem_of_getElem? (i := 86) (by decide +kernel), by decide +kernel⟩
set_option maxRecDepth 20000 in
theorem wd_110 : Cond.methodLink RL 21 y_P_tick ∈ lw_big := List.mem_filter.mpr ⟨List.mem_of_getElem? (i := 110) (by decide +kernel), by decide +kernel⟩
set_option maxRecDepth 20000 in
theorem wd_111 : Cond.instanceMethod y_P_tick ∈ lw_big := List.mem_filter.mpr ⟨List.mem_of_getElem? (i := 111) (by decide +kernel), by decide +kernel⟩
set_option maxRecDepth 20000 in
theorem wd_112 : Cond.selects RX3 y_P_tick y_P_tick ∈ lw_big := List.mem_filter.mpr ⟨List.mem_of_getElem? (i := 112) (by decide +kernel), by decide +kernel⟩
set_option maxRecDepth 20000 in
theorem wd_113 : k_P_tick ∈ lw_big := List.mem_filter.mpr ⟨List.mem_of_getElem? (i := 113) rfl, by decide +kernel⟩
set_option maxRecDepth 20000 in
theorem wd_114 : Cond.methodLink RL 26 y_P_make ∈ lw_big := List.mem_filter.mpr ⟨List.mem_of_getElem? (i := 114) (by decide +kernel), by decide +kernel⟩
set_option maxRecDepth 20000 in
theorem wd_115 : Cond.instanceMethod y_P_make ∈ lw_big := List.mem_filter.mpr ⟨List.mem_of_getElem? (i := 115) (by decide +kernel), by decide +kernel⟩
set_option maxRecDepth 20000 in
theorem wd_116 : Cond.selects RX3 y_P_make y_P_make ∈ lw_big := List.mem_filter.mpr ⟨List.mem_of_getElem? (i := 116) (by decide +kernel), by decide +kernel⟩
set_option maxRecDepth 20000 in
theorem wd_117 : k_P_make ∈ lw_big := List.mem_filter.mpr ⟨List.mem_of_getElem? (i := 117) rfl, by decide +kernel⟩
set_option maxRecDepth 20000 in
theorem wd_118 : Cond.methodLink RX3 52 y_P_isMadeFolder ∈ lw_big := List.mem_filter.mpr ⟨List.mem_of_getElem? (i := 118) (by decide +kernel), by decide +kernel⟩
set_option maxRecDepth 20000 in
theorem wd_120 : Cond.instanceMethod y_P_isMadeFolder ∈ lw_big := List.mem_filter.mpr ⟨List.mem_of_getElem? (i := 120) (by decide +kernel), by decide +kernel⟩
set_option maxRecDepth 20000 in
theorem wd_121 : k_P_isMadeFolder ∈ lw_big := List.mem_filter.mpr ⟨List.mem_of_getElem? (i := 121) rfl, by decide +kernel⟩
set_option maxRecDepth 20000 in
theorem wd_122 : Cond.methodLink RX3 164 y_P_isMade ∈ lw_big := List.mem_filter.mpr ⟨List.mem_of_getElem? (i := 122) (by decide +kernel), by decide +kernel⟩
set_option maxRecDepth 20000 in
theorem wd_124 : Cond.instanceMethod y_P_isMade ∈ lw_big := List.mem_filter.mpr ⟨List.mem_of_getElem? (i := 124) (by decide +kernel), by decide +kernel⟩
set_option maxRecDepth 20000 in
theorem wd_125 : k_P_isMade ∈ lw_big := List.mem_filter.mpr ⟨List.mem_of_getElem? (i := 125) rfl, by decide +kernel⟩
set_option maxRecDepth 20000 in
theorem wd_126 : Cond.methodLink RX3 56 y_P_isName ∈ lw_big := List.mem_filter.mpr ⟨List.mem_of_getElem? (i := 126) (by decide +kernel), by decide +kernel⟩
set_option maxRecDepth 20000 in
theorem wd_127 : Cond.static y_P_isName ∈ lw_big := List.mem_filter.mpr ⟨List.mem_of_getElem? (i := 127) (by decide +kernel), by decide +kernel⟩
set_option maxRecDepth 20000 in
theorem wd_128 : k_P_isName ∈ lw_big := List.mem_filter.mpr ⟨List.mem_of_getElem? (i := 128) rfl, by decide +kernel⟩
set_option maxRecDepth 20000 in
theorem wd_129 : Cond.methodLink RX3 59 y_P_findPlaces ∈ lw_big := List.mem_filter.mpr ⟨List.mem_of_getElem? (i := 129) (by decide +kernel), by decide +kernel⟩
set_option maxRecDepth 20000 in
theorem wd_131 : Cond.instanceMethod y_P_findPlaces ∈ lw_big := List.mem_filter.mpr ⟨List.mem_of_getElem? (i := 131) (by decide +kernel), by decide +kernel⟩
set_option maxRecDepth 20000 in
theorem wd_132 : k_P_findPlaces ∈ lw_big := List.mem_filter.mpr ⟨List.mem_of_getElem? (i := 132) rfl, by decide +kernel⟩
set_option maxRecDepth 20000 in
theorem wd_133 : Cond.methodLink RX3 141 y_N_placeAsOf ∈ lw_big := List.mem_filter.mpr ⟨List.mem_of_getElem? (i := 133) (by decide +kernel), by decide +kernel⟩
set_option maxRecDepth 20000 in
theorem wd_134 : Cond.instanceMethod y_N_placeAsOf ∈ lw_big := List.mem_filter.mpr ⟨List.mem_of_getElem? (i := 134) (by decide +kernel), by decide +kernel⟩
set_option maxRecDepth 20000 in
theorem wd_135 : Cond.selects RX0 y_N_placeAsOf y_N_placeAsOf ∈ lw_big := List.mem_filter.mpr ⟨List.mem_of_getElem? (i := 135) (by decide +kernel), by decide +kernel⟩
set_option maxRecDepth 20000 in
theorem wd_136 : k_N_placeAsOf ∈ lw_big := List.mem_filter.mpr ⟨List.mem_of_getElem? (i := 136) rfl, by decide +kernel⟩
set_option maxRecDepth 20000 in
theorem wd_137 : Cond.methodLink RX3 63 y_P_hasRoomFor ∈ lw_big := List.mem_filter.mpr ⟨List.mem_of_getElem? (i := 137) (by decide +kernel), by decide +kernel⟩
set_option maxRecDepth 20000 in
theorem wd_139 : Cond.instanceMethod y_P_hasRoomFor ∈ lw_big := List.mem_filter.mpr ⟨List.mem_of_getElem? (i := 139) (by decide +kernel), by decide +kernel⟩
set_option maxRecDepth 20000 in
theorem wd_140 : k_P_hasRoomFor ∈ lw_big := List.mem_filter.mpr ⟨List.mem_of_getElem? (i := 140) rfl, by decide +kernel⟩
set_option maxRecDepth 20000 in
theorem wd_141 : Cond.methodLink RX3 88 y_P_entryAt ∈ lw_big := List.mem_filter.mpr ⟨List.mem_of_getElem? (i := 141) (by decide +kernel), by decide +kernel⟩
set_option maxRecDepth 20000 in
theorem wd_143 : Cond.instanceMethod y_P_entryAt ∈ lw_big := List.mem_filter.mpr ⟨List.mem_of_getElem? (i := 143) (by decide +kernel), by decide +kernel⟩
set_option maxRecDepth 20000 in
theorem wd_144 : k_P_entryAt ∈ lw_big := List.mem_filter.mpr ⟨List.mem_of_getElem? (i := 144) rfl, by decide +kernel⟩
set_option maxRecDepth 20000 in
theorem wd_145 : Cond.methodLink RX3 80 y_P_placeOf ∈ lw_big := List.mem_filter.mpr ⟨List.mem_of_getElem? (i := 145) (by decide +kernel), by decide +kernel⟩
set_option maxRecDepth 20000 in
theorem wd_146 : Cond.static y_P_placeOf ∈ lw_big := List.mem_filter.mpr ⟨List.mem_of_getElem? (i := 146) (by decide +kernel), by decide +kernel⟩
set_option maxRecDepth 20000 in
theorem wd_147 : k_P_placeOf ∈ lw_big := List.mem_filter.mpr ⟨List.mem_of_getElem? (i := 147) rfl, by decide +kernel⟩
set_option maxRecDepth 20000 in
theorem wd_148 : Cond.methodLink RX3 67 y_P_isUsedUp ∈ lw_big := List.mem_filter.mpr ⟨List.mem_of_getElem? (i := 148) (by decide +kernel), by decide +kernel⟩
set_option maxRecDepth 20000 in
theorem wd_150 : Cond.instanceMethod y_P_isUsedUp ∈ lw_big := List.mem_filter.mpr ⟨List.mem_of_getElem? (i := 150) (by decide +kernel), by decide +kernel⟩
set_option maxRecDepth 20000 in
theorem wd_151 : k_P_isUsedUp ∈ lw_big := List.mem_filter.mpr ⟨List.mem_of_getElem? (i := 151) rfl, by decide +kernel⟩
set_option maxRecDepth 20000 in
theorem wd_152 : Cond.classLink RX3 71 RX2 ∈ lw_big := List.mem_filter.mpr ⟨List.mem_of_getElem? (i := 152) (by decide +kernel), by decide +kernel⟩
set_option maxRecDepth 20000 in
theorem wd_153 : Cond.instantiable RX2 5 ∈ lw_big := List.mem_filter.mpr ⟨List.mem_of_getElem? (i := 153) (by decide +kernel), by decide +kernel⟩
set_option maxRecDepth 20000 in
theorem wd_154 : Cond.methodLink RX3 73 y_V_init ∈ lw_big := List.mem_filter.mpr ⟨List.mem_of_getElem? (i := 154) (by decide +kernel), by decide +kernel⟩
set_option maxRecDepth 20000 in
theorem wd_155 : Cond.instanceMethod y_V_init ∈ lw_big := List.mem_filter.mpr ⟨List.mem_of_getElem? (i := 155) (by decide +kernel), by decide +kernel⟩
set_option maxRecDepth 20000 in
theorem wd_156 : k_V_init ∈ lw_big := List.mem_filter.mpr ⟨List.mem_of_getElem? (i := 156) rfl, by decide +kernel⟩
set_option maxRecDepth 20000 in
theorem wd_157 : Cond.methodLink RX2 1 objectInit ∈ lw_big := List.mem_filter.mpr ⟨List.mem_of_getElem? (i := 157) (by decide +kernel), by decide +kernel⟩
set_option maxRecDepth 20000 in
theorem wd_158 : Cond.fieldLink RX2 13 "PastTree$Version" "time" "I" ∈ lw_big := List.mem_filter.mpr ⟨List.mem_of_getElem? (i := 158) (by decide +kernel), by decide +kernel⟩
set_option maxRecDepth 20000 in
theorem wd_159 : Cond.fieldLink RX3 150 "PastTree$Version" "time" "I" ∈ lw_big := List.mem_filter.mpr ⟨List.mem_of_getElem? (i := 159) (by decide +kernel), by decide +kernel⟩
set_option maxRecDepth 20000 in
theorem wd_160 : Cond.fieldLink RX2 17 "PastTree$Version" "index" "I" ∈ lw_big := List.mem_filter.mpr ⟨List.mem_of_getElem? (i := 160) (by decide +kernel), by decide +kernel⟩
set_option maxRecDepth 20000 in
theorem wd_161 : Cond.fieldLink RX3 144 "PastTree$Version" "index" "I" ∈ lw_big := List.mem_filter.mpr ⟨List.mem_of_getElem? (i := 161) (by decide +kernel), by decide +kernel⟩
set_option maxRecDepth 20000 in
theorem wd_162 : Cond.fieldLink RX2 20 "PastTree$Version" "cells" "[I" ∈ lw_big := List.mem_filter.mpr ⟨List.mem_of_getElem? (i := 162) (by decide +kernel), by decide +kernel⟩
set_option maxRecDepth 20000 in
theorem wd_163 : Cond.fieldLink RX3 104 "PastTree$Version" "cells" "[I" ∈ lw_big := List.mem_filter.mpr ⟨List.mem_of_getElem? (i := 163) (by decide +kernel), by decide +kernel⟩
set_option maxRecDepth 20000 in
theorem wd_164 : Cond.fieldLink RX2 24 "PastTree$Version" "before" "LPastTree$Version;" ∈ lw_big := List.mem_filter.mpr ⟨List.mem_of_getElem? (i := 164) (by decide +kernel), by decide +kernel⟩
set_option maxRecDepth 20000 in
theorem wd_165 : Cond.fieldLink RX3 153 "PastTree$Version" "before" "LPastTree$Version;" ∈ lw_big := List.mem_filter.mpr ⟨List.mem_of_getElem? (i := 165) (by decide +kernel), by decide +kernel⟩
set_option maxRecDepth 20000 in
theorem wd_166 : Cond.fieldLink RX2 7 "PastTree$Version" "gone" "Z" ∈ lw_big := List.mem_filter.mpr ⟨List.mem_of_getElem? (i := 166) (by decide +kernel), by decide +kernel⟩
set_option maxRecDepth 20000 in
theorem wd_167 : Cond.fieldLink RX3 120 "PastTree$Version" "gone" "Z" ∈ lw_big := List.mem_filter.mpr ⟨List.mem_of_getElem? (i := 167) (by decide +kernel), by decide +kernel⟩
set_option maxRecDepth 20000 in
theorem wd_179 : Cond.methodLink RX3 84 y_P_place ∈ lw_big := List.mem_filter.mpr ⟨List.mem_of_getElem? (i := 179) (by decide +kernel), by decide +kernel⟩
set_option maxRecDepth 20000 in
theorem wd_181 : Cond.instanceMethod y_P_place ∈ lw_big := List.mem_filter.mpr ⟨List.mem_of_getElem? (i := 181) (by decide +kernel), by decide +kernel⟩
set_option maxRecDepth 20000 in
theorem wd_182 : k_P_place ∈ lw_big := List.mem_filter.mpr ⟨List.mem_of_getElem? (i := 182) rfl, by decide +kernel⟩
set_option maxRecDepth 20000 in
theorem wd_183 : Cond.classLink RX3 167 RX1 ∈ lw_big := List.mem_filter.mpr ⟨List.mem_of_getElem? (i := 183) (by decide +kernel), by decide +kernel⟩
set_option maxRecDepth 20000 in
theorem wd_184 : Cond.instantiable RX1 3 ∈ lw_big := List.mem_filter.mpr ⟨List.mem_of_getElem? (i := 184) (by decide +kernel), by decide +kernel⟩
set_option maxRecDepth 20000 in
theorem wd_185 : Cond.methodLink RX3 173 y_S_init ∈ lw_big := List.mem_filter.mpr ⟨List.mem_of_getElem? (i := 185) (by decide +kernel), by decide +kernel⟩
set_option maxRecDepth 20000 in
theorem wd_186 : Cond.instanceMethod y_S_init ∈ lw_big := List.mem_filter.mpr ⟨List.mem_of_getElem? (i := 186) (by decide +kernel), by decide +kernel⟩
set_option maxRecDepth 20000 in
theorem wd_187 : k_S_init ∈ lw_big := List.mem_filter.mpr ⟨List.mem_of_getElem? (i := 187) rfl, by decide +kernel⟩
set_option maxRecDepth 20000 in
theorem wd_188 : Cond.methodLink RX1 1 objectInit ∈ lw_big := List.mem_filter.mpr ⟨List.mem_of_getElem? (i := 188) (by decide +kernel), by decide +kernel⟩
set_option maxRecDepth 20000 in
theorem wd_189 : Cond.fieldLink RX1 7 "PastTree$Spot" "time" "I" ∈ lw_big := List.mem_filter.mpr ⟨List.mem_of_getElem? (i := 189) (by decide +kernel), by decide +kernel⟩
set_option maxRecDepth 20000 in
theorem wd_190 : Cond.fieldLink RX0 25 "PastTree$Spot" "time" "I" ∈ lw_big := List.mem_filter.mpr ⟨List.mem_of_getElem? (i := 190) (by decide +kernel), by decide +kernel⟩
set_option maxRecDepth 20000 in
theorem wd_191 : Cond.fieldLink RX1 13 "PastTree$Spot" "place" "I" ∈ lw_big := List.mem_filter.mpr ⟨List.mem_of_getElem? (i := 191) (by decide +kernel), by decide +kernel⟩
set_option maxRecDepth 20000 in
theorem wd_192 : Cond.fieldLink RX0 34 "PastTree$Spot" "place" "I" ∈ lw_big := List.mem_filter.mpr ⟨List.mem_of_getElem? (i := 192) (by decide +kernel), by decide +kernel⟩
set_option maxRecDepth 20000 in
theorem wd_193 : Cond.fieldLink RX1 16 "PastTree$Spot" "before" "LPastTree$Spot;" ∈ lw_big := List.mem_filter.mpr ⟨List.mem_of_getElem? (i := 193) (by decide +kernel), by decide +kernel⟩
set_option maxRecDepth 20000 in
theorem wd_194 : Cond.fieldLink RX0 31 "PastTree$Spot" "before" "LPastTree$Spot;" ∈ lw_big := List.mem_filter.mpr ⟨List.mem_of_getElem? (i := 194) (by decide +kernel), by decide +kernel⟩
set_option maxRecDepth 20000 in
theorem wd_202 : Cond.methodLink RX3 176 y_P_noteChange ∈ lw_big := List.mem_filter.mpr ⟨List.mem_of_getElem? (i := 202) (by decide +kernel), by decide +kernel⟩
set_option maxRecDepth 20000 in
theorem wd_204 : Cond.instanceMethod y_P_noteChange ∈ lw_big := List.mem_filter.mpr ⟨List.mem_of_getElem? (i := 204) (by decide +kernel), by decide +kernel⟩
set_option maxRecDepth 20000 in
theorem wd_205 : k_P_noteChange ∈ lw_big := List.mem_filter.mpr ⟨List.mem_of_getElem? (i := 205) rfl, by decide +kernel⟩
set_option maxRecDepth 20000 in
theorem wd_206 : Cond.methodLink RL 31 y_P_remove ∈ lw_big := List.mem_filter.mpr ⟨List.mem_of_getElem? (i := 206) (by decide +kernel), by decide +kernel⟩
set_option maxRecDepth 20000 in
theorem wd_207 : Cond.instanceMethod y_P_remove ∈ lw_big := List.mem_filter.mpr ⟨List.mem_of_getElem? (i := 207) (by decide +kernel), by decide +kernel⟩
set_option maxRecDepth 20000 in
theorem wd_208 : Cond.selects RX3 y_P_remove y_P_remove ∈ lw_big := List.mem_filter.mpr ⟨List.mem_of_getElem? (i := 208) (by decide +kernel), by decide +kernel⟩
set_option maxRecDepth 20000 in
theorem wd_209 : k_P_remove ∈ lw_big := List.mem_filter.mpr ⟨List.mem_of_getElem? (i := 209) rfl, by decide +kernel⟩
set_option maxRecDepth 20000 in
theorem wd_210 : Cond.methodLink RX3 91 y_P_firstName ∈ lw_big := List.mem_filter.mpr ⟨List.mem_of_getElem? (i := 210) (by decide +kernel), by decide +kernel⟩
set_option maxRecDepth 20000 in
theorem wd_212 : Cond.instanceMethod y_P_firstName ∈ lw_big := List.mem_filter.mpr ⟨List.mem_of_getElem? (i := 212) (by decide +kernel), by decide +kernel⟩
set_option maxRecDepth 20000 in
theorem wd_213 : k_P_firstName ∈ lw_big := List.mem_filter.mpr ⟨List.mem_of_getElem? (i := 213) rfl, by decide +kernel⟩
set_option maxRecDepth 20000 in
theorem wd_214 : Cond.methodLink RL 36 y_P_move ∈ lw_big := List.mem_filter.mpr ⟨List.mem_of_getElem? (i := 214) (by decide +kernel), by decide +kernel⟩
set_option maxRecDepth 20000 in
theorem wd_215 : Cond.instanceMethod y_P_move ∈ lw_big := List.mem_filter.mpr ⟨List.mem_of_getElem? (i := 215) (by decide +kernel), by decide +kernel⟩
set_option maxRecDepth 20000 in
theorem wd_216 : Cond.selects RX3 y_P_move y_P_move ∈ lw_big := List.mem_filter.mpr ⟨List.mem_of_getElem? (i := 216) (by decide +kernel), by decide +kernel⟩
set_option maxRecDepth 20000 in
theorem wd_217 : k_P_move ∈ lw_big := List.mem_filter.mpr ⟨List.mem_of_getElem? (i := 217) rfl, by decide +kernel⟩
set_option maxRecDepth 20000 in
theorem wd_218 : Cond.methodLink RX3 94 y_P_isWithin ∈ lw_big := List.mem_filter.mpr ⟨List.mem_of_getElem? (i := 218) (by decide +kernel), by decide +kernel⟩
set_option maxRecDepth 20000 in
theorem wd_220 : Cond.instanceMethod y_P_isWithin ∈ lw_big := List.mem_filter.mpr ⟨List.mem_of_getElem? (i := 220) (by decide +kernel), by decide +kernel⟩
set_option maxRecDepth 20000 in
theorem wd_221 : k_P_isWithin ∈ lw_big := List.mem_filter.mpr ⟨List.mem_of_getElem? (i := 221) rfl, by decide +kernel⟩
set_option maxRecDepth 20000 in
theorem wd_222 : Cond.methodLink RL 41 y_P_write ∈ lw_big := List.mem_filter.mpr ⟨List.mem_of_getElem? (i := 222) (by decide +kernel), by decide +kernel⟩
set_option maxRecDepth 20000 in
theorem wd_223 : Cond.instanceMethod y_P_write ∈ lw_big := List.mem_filter.mpr ⟨List.mem_of_getElem? (i := 223) (by decide +kernel), by decide +kernel⟩
set_option maxRecDepth 20000 in
theorem wd_224 : Cond.selects RX3 y_P_write y_P_write ∈ lw_big := List.mem_filter.mpr ⟨List.mem_of_getElem? (i := 224) (by decide +kernel), by decide +kernel⟩
set_option maxRecDepth 20000 in
theorem wd_225 : k_P_write ∈ lw_big := List.mem_filter.mpr ⟨List.mem_of_getElem? (i := 225) rfl, by decide +kernel⟩
set_option maxRecDepth 20000 in
theorem wd_226 : Cond.methodLink RX3 97 y_P_latestVersion ∈ lw_big := List.mem_filter.mpr ⟨List.mem_of_getElem? (i := 226) (by decide +kernel), by decide +kernel⟩
set_option maxRecDepth 20000 in
theorem wd_228 : Cond.instanceMethod y_P_latestVersion ∈ lw_big := List.mem_filter.mpr ⟨List.mem_of_getElem? (i := 228) (by decide +kernel), by decide +kernel⟩
set_option maxRecDepth 20000 in
theorem wd_229 : k_P_latestVersion ∈ lw_big := List.mem_filter.mpr ⟨List.mem_of_getElem? (i := 229) rfl, by decide +kernel⟩
set_option maxRecDepth 20000 in
theorem wd_230 : Cond.methodLink RX3 101 y_P_isCell ∈ lw_big := List.mem_filter.mpr ⟨List.mem_of_getElem? (i := 230) (by decide +kernel), by decide +kernel⟩
set_option maxRecDepth 20000 in
theorem wd_231 : Cond.static y_P_isCell ∈ lw_big := List.mem_filter.mpr ⟨List.mem_of_getElem? (i := 231) (by decide +kernel), by decide +kernel⟩
set_option maxRecDepth 20000 in
theorem wd_232 : k_P_isCell ∈ lw_big := List.mem_filter.mpr ⟨List.mem_of_getElem? (i := 232) rfl, by decide +kernel⟩
set_option maxRecDepth 20000 in
theorem wd_233 : Cond.methodLink RX3 107 ⟨"[I", "clone", "()Ljava/lang/Object;"⟩ ∈ lw_big := List.mem_filter.mpr ⟨List.mem_of_getElem? (i := 233) (by decide +kernel), by decide +kernel⟩
set_option maxRecDepth 20000 in
theorem wd_234 : Cond.sameMethod "[I" "java/lang/Object" "clone" "()Ljava/lang/Object;" ∈ lw_big := List.mem_filter.mpr ⟨List.mem_of_getElem? (i := 234) (by decide +kernel), by decide +kernel⟩
set_option maxRecDepth 20000 in
theorem wd_235 : Cond.native ⟨"java/lang/Object", "clone", "()Ljava/lang/Object;"⟩ ∈ lw_big := List.mem_filter.mpr ⟨List.mem_of_getElem? (i := 235) (by decide +kernel), by decide +kernel⟩
set_option maxRecDepth 20000 in
theorem wd_236 : Cond.instanceMethod ⟨"java/lang/Object", "clone", "()Ljava/lang/Object;"⟩ ∈ lw_big := List.mem_filter.mpr ⟨List.mem_of_getElem? (i := 236) (by decide +kernel), by decide +kernel⟩
set_option maxRecDepth 20000 in
theorem wd_237 : Cond.selects "[I" ⟨"[I", "clone", "()Ljava/lang/Object;"⟩ ⟨"java/lang/Object", "clone", "()Ljava/lang/Object;"⟩ ∈ lw_big := List.mem_filter.mpr ⟨List.mem_of_getElem? (i := 237) (by decide +kernel), by decide +kernel⟩
set_option maxRecDepth 20000 in
theorem wd_239 : Cond.classLink RX3 108 "[I" ∈ lw_big := List.mem_filter.mpr ⟨List.mem_of_getElem? (i := 239) (by decide +kernel), by decide +kernel⟩
set_option maxRecDepth 20000 in
theorem wd_240 : Cond.methodLink RX3 112 y_P_addVersion ∈ lw_big := List.mem_filter.mpr ⟨List.mem_of_getElem? (i := 240) (by decide +kernel), by decide +kernel⟩
set_option maxRecDepth 20000 in
theorem wd_242 : Cond.instanceMethod y_P_addVersion ∈ lw_big := List.mem_filter.mpr ⟨List.mem_of_getElem? (i := 242) (by decide +kernel), by decide +kernel⟩
set_option maxRecDepth 20000 in
theorem wd_243 : k_P_addVersion ∈ lw_big := List.mem_filter.mpr ⟨List.mem_of_getElem? (i := 243) rfl, by decide +kernel⟩
set_option maxRecDepth 20000 in
theorem wd_244 : Cond.methodLink RL 46 y_P_turnBack ∈ lw_big := List.mem_filter.mpr ⟨List.mem_of_getElem? (i := 244) (by decide +kernel), by decide +kernel⟩
set_option maxRecDepth 20000 in
theorem wd_245 : Cond.instanceMethod y_P_turnBack ∈ lw_big := List.mem_filter.mpr ⟨List.mem_of_getElem? (i := 245) (by decide +kernel), by decide +kernel⟩
set_option maxRecDepth 20000 in
theorem wd_246 : Cond.selects RX3 y_P_turnBack y_P_turnBack ∈ lw_big := List.mem_filter.mpr ⟨List.mem_of_getElem? (i := 246) (by decide +kernel), by decide +kernel⟩
set_option maxRecDepth 20000 in
theorem wd_247 : k_P_turnBack ∈ lw_big := List.mem_filter.mpr ⟨List.mem_of_getElem? (i := 247) rfl, by decide +kernel⟩
set_option maxRecDepth 20000 in
theorem wd_248 : Cond.methodLink RX3 116 y_P_versionAsOf ∈ lw_big := List.mem_filter.mpr ⟨List.mem_of_getElem? (i := 248) (by decide +kernel), by decide +kernel⟩
set_option maxRecDepth 20000 in
theorem wd_249 : Cond.static y_P_versionAsOf ∈ lw_big := List.mem_filter.mpr ⟨List.mem_of_getElem? (i := 249) (by decide +kernel), by decide +kernel⟩
set_option maxRecDepth 20000 in
theorem wd_250 : k_P_versionAsOf ∈ lw_big := List.mem_filter.mpr ⟨List.mem_of_getElem? (i := 250) rfl, by decide +kernel⟩
set_option maxRecDepth 20000 in
theorem wd_251 : Cond.methodLink RL 50 y_P_putBack ∈ lw_big := List.mem_filter.mpr ⟨List.mem_of_getElem? (i := 251) (by decide +kernel), by decide +kernel⟩
set_option maxRecDepth 20000 in
theorem wd_252 : Cond.instanceMethod y_P_putBack ∈ lw_big := List.mem_filter.mpr ⟨List.mem_of_getElem? (i := 252) (by decide +kernel), by decide +kernel⟩
set_option maxRecDepth 20000 in
theorem wd_253 : Cond.selects RX3 y_P_putBack y_P_putBack ∈ lw_big := List.mem_filter.mpr ⟨List.mem_of_getElem? (i := 253) (by decide +kernel), by decide +kernel⟩
set_option maxRecDepth 20000 in
theorem wd_254 : k_P_putBack ∈ lw_big := List.mem_filter.mpr ⟨List.mem_of_getElem? (i := 254) rfl, by decide +kernel⟩
set_option maxRecDepth 20000 in
theorem wd_255 : Cond.methodLink RL 54 y_P_look ∈ lw_big := List.mem_filter.mpr ⟨List.mem_of_getElem? (i := 255) (by decide +kernel), by decide +kernel⟩
set_option maxRecDepth 20000 in
theorem wd_256 : Cond.instanceMethod y_P_look ∈ lw_big := List.mem_filter.mpr ⟨List.mem_of_getElem? (i := 256) (by decide +kernel), by decide +kernel⟩
set_option maxRecDepth 20000 in
theorem wd_257 : Cond.selects RX3 y_P_look y_P_look ∈ lw_big := List.mem_filter.mpr ⟨List.mem_of_getElem? (i := 257) (by decide +kernel), by decide +kernel⟩
set_option maxRecDepth 20000 in
theorem wd_258 : k_P_look ∈ lw_big := List.mem_filter.mpr ⟨List.mem_of_getElem? (i := 258) rfl, by decide +kernel⟩
set_option maxRecDepth 20000 in
theorem wd_259 : Cond.methodLink RL 58 y_P_next ∈ lw_big := List.mem_filter.mpr ⟨List.mem_of_getElem? (i := 259) (by decide +kernel), by decide +kernel⟩
set_option maxRecDepth 20000 in
theorem wd_260 : Cond.instanceMethod y_P_next ∈ lw_big := List.mem_filter.mpr ⟨List.mem_of_getElem? (i := 260) (by decide +kernel), by decide +kernel⟩
set_option maxRecDepth 20000 in
theorem wd_261 : Cond.selects RX3 y_P_next y_P_next ∈ lw_big := List.mem_filter.mpr ⟨List.mem_of_getElem? (i := 261) (by decide +kernel), by decide +kernel⟩
set_option maxRecDepth 20000 in
theorem wd_262 : k_P_next ∈ lw_big := List.mem_filter.mpr ⟨List.mem_of_getElem? (i := 262) rfl, by decide +kernel⟩
set_option maxRecDepth 20000 in
theorem wd_263 : Cond.methodLink RL 62 y_P_read ∈ lw_big := List.mem_filter.mpr ⟨List.mem_of_getElem? (i := 263) (by decide +kernel), by decide +kernel⟩
set_option maxRecDepth 20000 in
theorem wd_264 : Cond.instanceMethod y_P_read ∈ lw_big := List.mem_filter.mpr ⟨List.mem_of_getElem? (i := 264) (by decide +kernel), by decide +kernel⟩
set_option maxRecDepth 20000 in
theorem wd_265 : Cond.selects RX3 y_P_read y_P_read ∈ lw_big := List.mem_filter.mpr ⟨List.mem_of_getElem? (i := 265) (by decide +kernel), by decide +kernel⟩
set_option maxRecDepth 20000 in
theorem wd_266 : k_P_read ∈ lw_big := List.mem_filter.mpr ⟨List.mem_of_getElem? (i := 266) rfl, by decide +kernel⟩
set_option maxRecDepth 20000 in
theorem wd_267 : Cond.constantLong RX3 124 (-1000000000000) ∈ lw_big := List.mem_filter.mpr ⟨List.mem_of_getElem? (i := 267) (by decide +kernel), by decide +kernel⟩
set_option maxRecDepth 20000 in
theorem wd_268 : Cond.constantLong RX3 126 (-2000000000000) ∈ lw_big := List.mem_filter.mpr ⟨List.mem_of_getElem? (i := 268) (by decide +kernel), by decide +kernel⟩
set_option maxRecDepth 20000 in
theorem wd_269 : Cond.methodLink RL 67 y_P_below ∈ lw_big := List.mem_filter.mpr ⟨List.mem_of_getElem? (i := 269) (by decide +kernel), by decide +kernel⟩
set_option maxRecDepth 20000 in
theorem wd_270 : Cond.instanceMethod y_P_below ∈ lw_big := List.mem_filter.mpr ⟨List.mem_of_getElem? (i := 270) (by decide +kernel), by decide +kernel⟩
set_option maxRecDepth 20000 in
theorem wd_271 : Cond.selects RX3 y_P_below y_P_below ∈ lw_big := List.mem_filter.mpr ⟨List.mem_of_getElem? (i := 271) (by decide +kernel), by decide +kernel⟩
set_option maxRecDepth 20000 in
theorem wd_272 : k_P_below ∈ lw_big := List.mem_filter.mpr ⟨List.mem_of_getElem? (i := 272) rfl, by decide +kernel⟩
set_option maxRecDepth 20000 in
theorem wd_273 : Cond.methodLink RL 71 y_P_thin ∈ lw_big := List.mem_filter.mpr ⟨List.mem_of_getElem? (i := 273) (by decide +kernel), by decide +kernel⟩
set_option maxRecDepth 20000 in
theorem wd_274 : Cond.instanceMethod y_P_thin ∈ lw_big := List.mem_filter.mpr ⟨List.mem_of_getElem? (i := 274) (by decide +kernel), by decide +kernel⟩
set_option maxRecDepth 20000 in
theorem wd_275 : Cond.selects RX3 y_P_thin y_P_thin ∈ lw_big := List.mem_filter.mpr ⟨List.mem_of_getElem? (i := 275) (by decide +kernel), by decide +kernel⟩
set_option maxRecDepth 20000 in
theorem wd_276 : k_P_thin ∈ lw_big := List.mem_filter.mpr ⟨List.mem_of_getElem? (i := 276) rfl, by decide +kernel⟩
set_option maxRecDepth 20000 in
theorem wd_277 : Cond.methodLink RX3 128 y_P_makeDurable ∈ lw_big := List.mem_filter.mpr ⟨List.mem_of_getElem? (i := 277) (by decide +kernel), by decide +kernel⟩
set_option maxRecDepth 20000 in
theorem wd_279 : Cond.instanceMethod y_P_makeDurable ∈ lw_big := List.mem_filter.mpr ⟨List.mem_of_getElem? (i := 279) (by decide +kernel), by decide +kernel⟩
set_option maxRecDepth 20000 in
theorem wd_280 : k_P_makeDurable ∈ lw_big := List.mem_filter.mpr ⟨List.mem_of_getElem? (i := 280) rfl, by decide +kernel⟩
set_option maxRecDepth 20000 in
theorem wd_281 : Cond.methodLink RX3 179 y_N_keep ∈ lw_big := List.mem_filter.mpr ⟨List.mem_of_getElem? (i := 281) (by decide +kernel), by decide +kernel⟩
set_option maxRecDepth 20000 in
theorem wd_282 : Cond.instanceMethod y_N_keep ∈ lw_big := List.mem_filter.mpr ⟨List.mem_of_getElem? (i := 282) (by decide +kernel), by decide +kernel⟩
set_option maxRecDepth 20000 in
theorem wd_283 : Cond.selects RX0 y_N_keep y_N_keep ∈ lw_big := List.mem_filter.mpr ⟨List.mem_of_getElem? (i := 283) (by decide +kernel), by decide +kernel⟩
set_option maxRecDepth 20000 in
theorem wd_284 : k_N_keep ∈ lw_big := List.mem_filter.mpr ⟨List.mem_of_getElem? (i := 284) rfl, by decide +kernel⟩
set_option maxRecDepth 20000 in
theorem wd_285 : Cond.methodLink RX3 131 y_P_dropThinned ∈ lw_big := List.mem_filter.mpr ⟨List.mem_of_getElem? (i := 285) (by decide +kernel), by decide +kernel⟩
set_option maxRecDepth 20000 in
theorem wd_287 : Cond.instanceMethod y_P_dropThinned ∈ lw_big := List.mem_filter.mpr ⟨List.mem_of_getElem? (i := 287) (by decide +kernel), by decide +kernel⟩
set_option maxRecDepth 20000 in
theorem wd_288 : k_P_dropThinned ∈ lw_big := List.mem_filter.mpr ⟨List.mem_of_getElem? (i := 288) rfl, by decide +kernel⟩
set_option maxRecDepth 20000 in
theorem wd_289 : Cond.methodLink RL 75 y_P_sync ∈ lw_big := List.mem_filter.mpr ⟨List.mem_of_getElem? (i := 289) (by decide +kernel), by decide +kernel⟩
set_option maxRecDepth 20000 in
theorem wd_290 : Cond.instanceMethod y_P_sync ∈ lw_big := List.mem_filter.mpr ⟨List.mem_of_getElem? (i := 290) (by decide +kernel), by decide +kernel⟩
set_option maxRecDepth 20000 in
theorem wd_291 : Cond.selects RX3 y_P_sync y_P_sync ∈ lw_big := List.mem_filter.mpr ⟨List.mem_of_getElem? (i := 291) (by decide +kernel), by decide +kernel⟩
set_option maxRecDepth 20000 in
theorem wd_292 : k_P_sync ∈ lw_big := List.mem_filter.mpr ⟨List.mem_of_getElem? (i := 292) rfl, by decide +kernel⟩
set_option maxRecDepth 20000 in
theorem wd_293 : Cond.methodLink RL 80 y_P_crash ∈ lw_big := List.mem_filter.mpr ⟨List.mem_of_getElem? (i := 293) (by decide +kernel), by decide +kernel⟩
set_option maxRecDepth 20000 in
theorem wd_294 : Cond.instanceMethod y_P_crash ∈ lw_big := List.mem_filter.mpr ⟨List.mem_of_getElem? (i := 294) (by decide +kernel), by decide +kernel⟩
set_option maxRecDepth 20000 in
theorem wd_295 : Cond.selects RX3 y_P_crash y_P_crash ∈ lw_big := List.mem_filter.mpr ⟨List.mem_of_getElem? (i := 295) (by decide +kernel), by decide +kernel⟩
set_option maxRecDepth 20000 in
theorem wd_296 : k_P_crash ∈ lw_big := List.mem_filter.mpr ⟨List.mem_of_getElem? (i := 296) rfl, by decide +kernel⟩
set_option maxRecDepth 20000 in
theorem wd_297 : Cond.methodLink RX3 135 y_N_goBack ∈ lw_big := List.mem_filter.mpr ⟨List.mem_of_getElem? (i := 297) (by decide +kernel), by decide +kernel⟩
set_option maxRecDepth 20000 in
theorem wd_298 : Cond.instanceMethod y_N_goBack ∈ lw_big := List.mem_filter.mpr ⟨List.mem_of_getElem? (i := 298) (by decide +kernel), by decide +kernel⟩
set_option maxRecDepth 20000 in
theorem wd_299 : Cond.selects RX0 y_N_goBack y_N_goBack ∈ lw_big := List.mem_filter.mpr ⟨List.mem_of_getElem? (i := 299) (by decide +kernel), by decide +kernel⟩
set_option maxRecDepth 20000 in
theorem wd_300 : k_N_goBack ∈ lw_big := List.mem_filter.mpr ⟨List.mem_of_getElem? (i := 300) rfl, by decide +kernel⟩
set_option maxRecDepth 20000 in
theorem wd_301 : Cond.methodLink RL 84 y_P_node ∈ lw_big := List.mem_filter.mpr ⟨List.mem_of_getElem? (i := 301) (by decide +kernel), by decide +kernel⟩
set_option maxRecDepth 20000 in
theorem wd_302 : Cond.instanceMethod y_P_node ∈ lw_big := List.mem_filter.mpr ⟨List.mem_of_getElem? (i := 302) (by decide +kernel), by decide +kernel⟩
set_option maxRecDepth 20000 in
theorem wd_303 : Cond.selects RX3 y_P_node y_P_node ∈ lw_big := List.mem_filter.mpr ⟨List.mem_of_getElem? (i := 303) (by decide +kernel), by decide +kernel⟩
set_option maxRecDepth 20000 in
theorem wd_304 : k_P_node ∈ lw_big := List.mem_filter.mpr ⟨List.mem_of_getElem? (i := 304) rfl, by decide +kernel⟩
set_option maxRecDepth 20000 in
theorem wd_305 : Cond.methodLink RX3 138 y_P_kindOf ∈ lw_big := List.mem_filter.mpr ⟨List.mem_of_getElem? (i := 305) (by decide +kernel), by decide +kernel⟩
set_option maxRecDepth 20000 in
theorem wd_307 : Cond.instanceMethod y_P_kindOf ∈ lw_big := List.mem_filter.mpr ⟨List.mem_of_getElem? (i := 307) (by decide +kernel), by decide +kernel⟩
set_option maxRecDepth 20000 in
theorem wd_308 : k_P_kindOf ∈ lw_big := List.mem_filter.mpr ⟨List.mem_of_getElem? (i := 308) rfl, by decide +kernel⟩
set_option maxRecDepth 20000 in
theorem wd_309 : Cond.methodLink RX3 147 y_P_countGone ∈ lw_big := List.mem_filter.mpr ⟨List.mem_of_getElem? (i := 309) (by decide +kernel), by decide +kernel⟩
set_option maxRecDepth 20000 in
theorem wd_310 : Cond.static y_P_countGone ∈ lw_big := List.mem_filter.mpr ⟨List.mem_of_getElem? (i := 310) (by decide +kernel), by decide +kernel⟩
set_option maxRecDepth 20000 in
theorem wd_311 : k_P_countGone ∈ lw_big := List.mem_filter.mpr ⟨List.mem_of_getElem? (i := 311) rfl, by decide +kernel⟩
set_option maxRecDepth 20000 in
theorem wd_312 : Cond.methodLink RL 88 y_P_versionTime ∈ lw_big := List.mem_filter.mpr ⟨List.mem_of_getElem? (i := 312) (by decide +kernel), by decide +kernel⟩
set_option maxRecDepth 20000 in
theorem wd_313 : Cond.instanceMethod y_P_versionTime ∈ lw_big := List.mem_filter.mpr ⟨List.mem_of_getElem? (i := 313) (by decide +kernel), by decide +kernel⟩
set_option maxRecDepth 20000 in
theorem wd_314 : Cond.selects RX3 y_P_versionTime y_P_versionTime ∈ lw_big := List.mem_filter.mpr ⟨List.mem_of_getElem? (i := 314) (by decide +kernel), by decide +kernel⟩
set_option maxRecDepth 20000 in
theorem wd_315 : k_P_versionTime ∈ lw_big := List.mem_filter.mpr ⟨List.mem_of_getElem? (i := 315) rfl, by decide +kernel⟩
set_option maxRecDepth 20000 in
theorem wd_316 : Cond.methodLink RL 92 y_P_count ∈ lw_big := List.mem_filter.mpr ⟨List.mem_of_getElem? (i := 316) (by decide +kernel), by decide +kernel⟩
set_option maxRecDepth 20000 in
theorem wd_317 : Cond.instanceMethod y_P_count ∈ lw_big := List.mem_filter.mpr ⟨List.mem_of_getElem? (i := 317) (by decide +kernel), by decide +kernel⟩
set_option maxRecDepth 20000 in
theorem wd_318 : Cond.selects RX3 y_P_count y_P_count ∈ lw_big := List.mem_filter.mpr ⟨List.mem_of_getElem? (i := 318) (by decide +kernel), by decide +kernel⟩
set_option maxRecDepth 20000 in
theorem wd_319 : k_P_count ∈ lw_big := List.mem_filter.mpr ⟨List.mem_of_getElem? (i := 319) rfl, by decide +kernel⟩
set_option maxRecDepth 20000 in
theorem wd_320 : Cond.methodLink RL 9 y_L_cell ∈ lw_big := List.mem_filter.mpr ⟨List.mem_of_getElem? (i := 320) (by decide +kernel), by decide +kernel⟩
set_option maxRecDepth 20000 in
theorem wd_321 : Cond.static y_L_cell ∈ lw_big := List.mem_filter.mpr ⟨List.mem_of_getElem? (i := 321) (by decide +kernel), by decide +kernel⟩
set_option maxRecDepth 20000 in
theorem wd_322 : k_L_cell ∈ lw_big := List.mem_filter.mpr ⟨List.mem_of_getElem? (i := 322) rfl, by decide +kernel⟩
set_option maxRecDepth 20000 in
theorem wd_323 : Cond.classLink RL 18 RX4 ∈ lw_big := List.mem_filter.mpr ⟨List.mem_of_getElem? (i := 323) (by decide +kernel), by decide +kernel⟩
set_option maxRecDepth 20000 in
theorem wd_324 : Cond.instantiable RX4 18 ∈ lw_big := List.mem_filter.mpr ⟨List.mem_of_getElem? (i := 324) (by decide +kernel), by decide +kernel⟩
set_option maxRecDepth 20000 in
theorem wd_325 : Cond.methodLink RL 20 y_T_init ∈ lw_big := List.mem_filter.mpr ⟨List.mem_of_getElem? (i := 325) (by decide +kernel), by decide +kernel⟩
set_option maxRecDepth 20000 in
theorem wd_326 : Cond.instanceMethod y_T_init ∈ lw_big := List.mem_filter.mpr ⟨List.mem_of_getElem? (i := 326) (by decide +kernel), by decide +kernel⟩
set_option maxRecDepth 20000 in
theorem wd_327 : k_T_init ∈ lw_big := List.mem_filter.mpr ⟨List.mem_of_getElem? (i := 327) rfl, by decide +kernel⟩
set_option maxRecDepth 20000 in
theorem wd_328 : Cond.methodLink RX4 1 objectInit ∈ lw_big := List.mem_filter.mpr ⟨List.mem_of_getElem? (i := 328) (by decide +kernel), by decide +kernel⟩
set_option maxRecDepth 20000 in
theorem wd_329 : Cond.fieldLink RX4 44 "PastTreeModel" "window" "I" ∈ lw_big := List.mem_filter.mpr ⟨List.mem_of_getElem? (i := 329) (by decide +kernel), by decide +kernel⟩
set_option maxRecDepth 20000 in
theorem wd_330 : Cond.fieldLink RX4 48 "PastTreeModel" "gap" "I" ∈ lw_big := List.mem_filter.mpr ⟨List.mem_of_getElem? (i := 330) (by decide +kernel), by decide +kernel⟩
set_option maxRecDepth 20000 in
theorem wd_331 : Cond.fieldLink RX4 7 "PastTreeModel" "when" "[I" ∈ lw_big := List.mem_filter.mpr ⟨List.mem_of_getElem? (i := 331) (by decide +kernel), by decide +kernel⟩
set_option maxRecDepth 20000 in
theorem wd_332 : Cond.fieldLink RX4 13 "PastTreeModel" "set" "[I" ∈ lw_big := List.mem_filter.mpr ⟨List.mem_of_getElem? (i := 332) (by decide +kernel), by decide +kernel⟩
set_option maxRecDepth 20000 in
theorem wd_333 : Cond.fieldLink RX4 16 "PastTreeModel" "node" "[I" ∈ lw_big := List.mem_filter.mpr ⟨List.mem_of_getElem? (i := 333) (by decide +kernel), by decide +kernel⟩
set_option maxRecDepth 20000 in
theorem wd_334 : Cond.fieldLink RX4 19 "PastTreeModel" "unset" "[I" ∈ lw_big := List.mem_filter.mpr ⟨List.mem_of_getElem? (i := 334) (by decide +kernel), by decide +kernel⟩
set_option maxRecDepth 20000 in
theorem wd_335 : Cond.fieldLink RX4 22 "PastTreeModel" "file" "[I" ∈ lw_big := List.mem_filter.mpr ⟨List.mem_of_getElem? (i := 335) (by decide +kernel), by decide +kernel⟩
set_option maxRecDepth 20000 in
theorem wd_336 : Cond.fieldLink RX4 25 "PastTreeModel" "made" "[I" ∈ lw_big := List.mem_filter.mpr ⟨List.mem_of_getElem? (i := 336) (by decide +kernel), by decide +kernel⟩
set_option maxRecDepth 20000 in
theorem wd_337 : Cond.fieldLink RX4 28 "PastTreeModel" "cell" "[I" ∈ lw_big := List.mem_filter.mpr ⟨List.mem_of_getElem? (i := 337) (by decide +kernel), by decide +kernel⟩
set_option maxRecDepth 20000 in
theorem wd_338 : Cond.fieldLink RX4 51 "PastTreeModel" "changes" "I" ∈ lw_big := List.mem_filter.mpr ⟨List.mem_of_getElem? (i := 338) (by decide +kernel), by decide +kernel⟩
set_option maxRecDepth 20000 in
theorem wd_339 : Cond.fieldLink RX4 121 "PastTreeModel" "durable" "I" ∈ lw_big := List.mem_filter.mpr ⟨List.mem_of_getElem? (i := 339) (by decide +kernel), by decide +kernel⟩
set_option maxRecDepth 20000 in
theorem wd_340 : Cond.fieldLink RX4 58 "PastTreeModel" "clock" "I" ∈ lw_big := List.mem_filter.mpr ⟨List.mem_of_getElem? (i := 340) (by decide +kernel), by decide +kernel⟩
set_option maxRecDepth 20000 in
theorem wd_341 : Cond.fieldLink RX4 124 "PastTreeModel" "durableClock" "I" ∈ lw_big := List.mem_filter.mpr ⟨List.mem_of_getElem? (i := 341) (by decide +kernel), by decide +kernel⟩
set_option maxRecDepth 20000 in
theorem wd_342 : Cond.fieldLink RX4 31 "PastTreeModel" "goneFile" "[I" ∈ lw_big := List.mem_filter.mpr ⟨List.mem_of_getElem? (i := 342) (by decide +kernel), by decide +kernel⟩
set_option maxRecDepth 20000 in
theorem wd_343 : Cond.fieldLink RX4 34 "PastTreeModel" "goneTime" "[I" ∈ lw_big := List.mem_filter.mpr ⟨List.mem_of_getElem? (i := 343) (by decide +kernel), by decide +kernel⟩
set_option maxRecDepth 20000 in
theorem wd_344 : Cond.fieldLink RX4 61 "PastTreeModel" "gone" "I" ∈ lw_big := List.mem_filter.mpr ⟨List.mem_of_getElem? (i := 344) (by decide +kernel), by decide +kernel⟩
set_option maxRecDepth 20000 in
theorem wd_345 : Cond.fieldLink RX4 37 "PastTreeModel" "entry" "[I" ∈ lw_big := List.mem_filter.mpr ⟨List.mem_of_getElem? (i := 345) (by decide +kernel), by decide +kernel⟩
set_option maxRecDepth 20000 in
theorem wd_346 : Cond.fieldLink RX4 40 "PastTreeModel" "reached" "[Z" ∈ lw_big := List.mem_filter.mpr ⟨List.mem_of_getElem? (i := 346) (by decide +kernel), by decide +kernel⟩
set_option maxRecDepth 20000 in
theorem wd_384 : Cond.arrayClass .boolean ∈ lw_big := List.mem_filter.mpr ⟨List.mem_of_getElem? (i := 384) (by decide +kernel), by decide +kernel⟩
set_option maxRecDepth 20000 in
theorem wd_385 : Cond.methodLink RL 25 y_T_tick ∈ lw_big := List.mem_filter.mpr ⟨List.mem_of_getElem? (i := 385) (by decide +kernel), by decide +kernel⟩
set_option maxRecDepth 20000 in
theorem wd_386 : Cond.instanceMethod y_T_tick ∈ lw_big := List.mem_filter.mpr ⟨List.mem_of_getElem? (i := 386) (by decide +kernel), by decide +kernel⟩
set_option maxRecDepth 20000 in
theorem wd_387 : Cond.selects RX4 y_T_tick y_T_tick ∈ lw_big := List.mem_filter.mpr ⟨List.mem_of_getElem? (i := 387) (by decide +kernel), by decide +kernel⟩
set_option maxRecDepth 20000 in
theorem wd_388 : k_T_tick ∈ lw_big := List.mem_filter.mpr ⟨List.mem_of_getElem? (i := 388) rfl, by decide +kernel⟩
set_option maxRecDepth 20000 in
theorem wd_389 : Cond.methodLink RX4 68 y_T_isin ∈ lw_big := List.mem_filter.mpr ⟨List.mem_of_getElem? (i := 389) (by decide +kernel), by decide +kernel⟩
set_option maxRecDepth 20000 in
theorem wd_390 : Cond.static y_T_isin ∈ lw_big := List.mem_filter.mpr ⟨List.mem_of_getElem? (i := 390) (by decide +kernel), by decide +kernel⟩
set_option maxRecDepth 20000 in
theorem wd_391 : k_T_isin ∈ lw_big := List.mem_filter.mpr ⟨List.mem_of_getElem? (i := 391) rfl, by decide +kernel⟩
set_option maxRecDepth 20000 in
theorem wd_392 : Cond.methodLink RL 30 y_T_make ∈ lw_big := List.mem_filter.mpr ⟨List.mem_of_getElem? (i := 392) (by decide +kernel), by decide +kernel⟩
set_option maxRecDepth 20000 in
theorem wd_393 : Cond.instanceMethod y_T_make ∈ lw_big := List.mem_filter.mpr ⟨List.mem_of_getElem? (i := 393) (by decide +kernel), by decide +kernel⟩
set_option maxRecDepth 20000 in
theorem wd_394 : Cond.selects RX4 y_T_make y_T_make ∈ lw_big := List.mem_filter.mpr ⟨List.mem_of_getElem? (i := 394) (by decide +kernel), by decide +kernel⟩
set_option maxRecDepth 20000 in
theorem wd_395 : k_T_make ∈ lw_big := List.mem_filter.mpr ⟨List.mem_of_getElem? (i := 395) rfl, by decide +kernel⟩
set_option maxRecDepth 20000 in
theorem wd_396 : Cond.methodLink RX4 72 y_T_asOf ∈ lw_big := List.mem_filter.mpr ⟨List.mem_of_getElem? (i := 396) (by decide +kernel), by decide +kernel⟩
set_option maxRecDepth 20000 in
theorem wd_398 : Cond.instanceMethod y_T_asOf ∈ lw_big := List.mem_filter.mpr ⟨List.mem_of_getElem? (i := 398) (by decide +kernel), by decide +kernel⟩
set_option maxRecDepth 20000 in
theorem wd_399 : k_T_asOf ∈ lw_big := List.mem_filter.mpr ⟨List.mem_of_getElem? (i := 399) rfl, by decide +kernel⟩
set_option maxRecDepth 20000 in
theorem wd_400 : Cond.methodLink RX4 76 y_T_kind ∈ lw_big := List.mem_filter.mpr ⟨List.mem_of_getElem? (i := 400) (by decide +kernel), by decide +kernel⟩
set_option maxRecDepth 20000 in
theorem wd_402 : Cond.instanceMethod y_T_kind ∈ lw_big := List.mem_filter.mpr ⟨List.mem_of_getElem? (i := 402) (by decide +kernel), by decide +kernel⟩
set_option maxRecDepth 20000 in
theorem wd_403 : k_T_kind ∈ lw_big := List.mem_filter.mpr ⟨List.mem_of_getElem? (i := 403) rfl, by decide +kernel⟩
set_option maxRecDepth 20000 in
theorem wd_404 : Cond.methodLink RX4 80 y_T_opn ∈ lw_big := List.mem_filter.mpr ⟨List.mem_of_getElem? (i := 404) (by decide +kernel), by decide +kernel⟩
set_option maxRecDepth 20000 in
theorem wd_406 : Cond.instanceMethod y_T_opn ∈ lw_big := List.mem_filter.mpr ⟨List.mem_of_getElem? (i := 406) (by decide +kernel), by decide +kernel⟩
set_option maxRecDepth 20000 in
theorem wd_407 : k_T_opn ∈ lw_big := List.mem_filter.mpr ⟨List.mem_of_getElem? (i := 407) rfl, by decide +kernel⟩
set_option maxRecDepth 20000 in
theorem wd_408 : Cond.methodLink RX4 54 y_T_placed ∈ lw_big := List.mem_filter.mpr ⟨List.mem_of_getElem? (i := 408) (by decide +kernel), by decide +kernel⟩
set_option maxRecDepth 20000 in
theorem wd_410 : Cond.instanceMethod y_T_placed ∈ lw_big := List.mem_filter.mpr ⟨List.mem_of_getElem? (i := 410) (by decide +kernel), by decide +kernel⟩
set_option maxRecDepth 20000 in
theorem wd_411 : k_T_placed ∈ lw_big := List.mem_filter.mpr ⟨List.mem_of_getElem? (i := 411) rfl, by decide +kernel⟩
set_option maxRecDepth 20000 in
theorem wd_412 : Cond.methodLink RX4 83 y_T_nodes ∈ lw_big := List.mem_filter.mpr ⟨List.mem_of_getElem? (i := 412) (by decide +kernel), by decide +kernel⟩
set_option maxRecDepth 20000 in
theorem wd_414 : Cond.instanceMethod y_T_nodes ∈ lw_big := List.mem_filter.mpr ⟨List.mem_of_getElem? (i := 414) (by decide +kernel), by decide +kernel⟩
set_option maxRecDepth 20000 in
theorem wd_415 : k_T_nodes ∈ lw_big := List.mem_filter.mpr ⟨List.mem_of_getElem? (i := 415) rfl, by decide +kernel⟩
set_option maxRecDepth 20000 in
theorem wd_416 : Cond.methodLink RX4 87 y_T_change ∈ lw_big := List.mem_filter.mpr ⟨List.mem_of_getElem? (i := 416) (by decide +kernel), by decide +kernel⟩
set_option maxRecDepth 20000 in
theorem wd_418 : Cond.instanceMethod y_T_change ∈ lw_big := List.mem_filter.mpr ⟨List.mem_of_getElem? (i := 418) (by decide +kernel), by decide +kernel⟩
set_option maxRecDepth 20000 in
theorem wd_419 : k_T_change ∈ lw_big := List.mem_filter.mpr ⟨List.mem_of_getElem? (i := 419) rfl, by decide +kernel⟩
set_option maxRecDepth 20000 in
theorem wd_420 : Cond.methodLink RX4 91 y_T_copyCells ∈ lw_big := List.mem_filter.mpr ⟨List.mem_of_getElem? (i := 420) (by decide +kernel), by decide +kernel⟩
set_option maxRecDepth 20000 in
theorem wd_422 : Cond.instanceMethod y_T_copyCells ∈ lw_big := List.mem_filter.mpr ⟨List.mem_of_getElem? (i := 422) (by decide +kernel), by decide +kernel⟩
set_option maxRecDepth 20000 in
theorem wd_423 : k_T_copyCells ∈ lw_big := List.mem_filter.mpr ⟨List.mem_of_getElem? (i := 423) rfl, by decide +kernel⟩
set_option maxRecDepth 20000 in
theorem wd_424 : Cond.methodLink RL 35 y_T_remove ∈ lw_big := List.mem_filter.mpr ⟨List.mem_of_getElem? (i := 424) (by decide +kernel), by decide +kernel⟩
set_option maxRecDepth 20000 in
theorem wd_425 : Cond.instanceMethod y_T_remove ∈ lw_big := List.mem_filter.mpr ⟨List.mem_of_getElem? (i := 425) (by decide +kernel), by decide +kernel⟩
set_option maxRecDepth 20000 in
theorem wd_426 : Cond.selects RX4 y_T_remove y_T_remove ∈ lw_big := List.mem_filter.mpr ⟨List.mem_of_getElem? (i := 426) (by decide +kernel), by decide +kernel⟩
set_option maxRecDepth 20000 in
theorem wd_427 : k_T_remove ∈ lw_big := List.mem_filter.mpr ⟨List.mem_of_getElem? (i := 427) rfl, by decide +kernel⟩
set_option maxRecDepth 20000 in
theorem wd_428 : Cond.methodLink RX4 95 y_T_hasEntries ∈ lw_big := List.mem_filter.mpr ⟨List.mem_of_getElem? (i := 428) (by decide +kernel), by decide +kernel⟩
set_option maxRecDepth 20000 in
theorem wd_430 : Cond.instanceMethod y_T_hasEntries ∈ lw_big := List.mem_filter.mpr ⟨List.mem_of_getElem? (i := 430) (by decide +kernel), by decide +kernel⟩
set_option maxRecDepth 20000 in
theorem wd_431 : k_T_hasEntries ∈ lw_big := List.mem_filter.mpr ⟨List.mem_of_getElem? (i := 431) rfl, by decide +kernel⟩
set_option maxRecDepth 20000 in
theorem wd_432 : Cond.methodLink RL 40 y_T_move ∈ lw_big := List.mem_filter.mpr ⟨List.mem_of_getElem? (i := 432) (by decide +kernel), by decide +kernel⟩
set_option maxRecDepth 20000 in
theorem wd_433 : Cond.instanceMethod y_T_move ∈ lw_big := List.mem_filter.mpr ⟨List.mem_of_getElem? (i := 433) (by decide +kernel), by decide +kernel⟩
set_option maxRecDepth 20000 in
theorem wd_434 : Cond.selects RX4 y_T_move y_T_move ∈ lw_big := List.mem_filter.mpr ⟨List.mem_of_getElem? (i := 434) (by decide +kernel), by decide +kernel⟩
set_option maxRecDepth 20000 in
theorem wd_435 : k_T_move ∈ lw_big := List.mem_filter.mpr ⟨List.mem_of_getElem? (i := 435) rfl, by decide +kernel⟩
set_option maxRecDepth 20000 in
theorem wd_436 : Cond.methodLink RX4 98 y_T_reach ∈ lw_big := List.mem_filter.mpr ⟨List.mem_of_getElem? (i := 436) (by decide +kernel), by decide +kernel⟩
set_option maxRecDepth 20000 in
theorem wd_438 : Cond.instanceMethod y_T_reach ∈ lw_big := List.mem_filter.mpr ⟨List.mem_of_getElem? (i := 438) (by decide +kernel), by decide +kernel⟩
set_option maxRecDepth 20000 in
theorem wd_439 : k_T_reach ∈ lw_big := List.mem_filter.mpr ⟨List.mem_of_getElem? (i := 439) rfl, by decide +kernel⟩
set_option maxRecDepth 20000 in
theorem wd_440 : Cond.methodLink RL 45 y_T_write ∈ lw_big := List.mem_filter.mpr ⟨List.mem_of_getElem? (i := 440) (by decide +kernel), by decide +kernel⟩
set_option maxRecDepth 20000 in
theorem wd_441 : Cond.instanceMethod y_T_write ∈ lw_big := List.mem_filter.mpr ⟨List.mem_of_getElem? (i := 441) (by decide +kernel), by decide +kernel⟩
set_option maxRecDepth 20000 in
theorem wd_442 : Cond.selects RX4 y_T_write y_T_write ∈ lw_big := List.mem_filter.mpr ⟨List.mem_of_getElem? (i := 442) (by decide +kernel), by decide +kernel⟩
set_option maxRecDepth 20000 in
theorem wd_443 : k_T_write ∈ lw_big := List.mem_filter.mpr ⟨List.mem_of_getElem? (i := 443) rfl, by decide +kernel⟩
set_option maxRecDepth 20000 in
theorem wd_444 : Cond.methodLink RX4 101 y_T_version ∈ lw_big := List.mem_filter.mpr ⟨List.mem_of_getElem? (i := 444) (by decide +kernel), by decide +kernel⟩
set_option maxRecDepth 20000 in
theorem wd_446 : Cond.instanceMethod y_T_version ∈ lw_big := List.mem_filter.mpr ⟨List.mem_of_getElem? (i := 446) (by decide +kernel), by decide +kernel⟩
set_option maxRecDepth 20000 in
theorem wd_447 : k_T_version ∈ lw_big := List.mem_filter.mpr ⟨List.mem_of_getElem? (i := 447) rfl, by decide +kernel⟩
set_option maxRecDepth 20000 in
theorem wd_448 : Cond.methodLink RX4 104 y_T_versions ∈ lw_big := List.mem_filter.mpr ⟨List.mem_of_getElem? (i := 448) (by decide +kernel), by decide +kernel⟩
set_option maxRecDepth 20000 in
theorem wd_450 : Cond.instanceMethod y_T_versions ∈ lw_big := List.mem_filter.mpr ⟨List.mem_of_getElem? (i := 450) (by decide +kernel), by decide +kernel⟩
set_option maxRecDepth 20000 in
theorem wd_451 : k_T_versions ∈ lw_big := List.mem_filter.mpr ⟨List.mem_of_getElem? (i := 451) rfl, by decide +kernel⟩
set_option maxRecDepth 20000 in
theorem wd_452 : Cond.methodLink RX4 64 y_T_timeOf ∈ lw_big := List.mem_filter.mpr ⟨List.mem_of_getElem? (i := 452) (by decide +kernel), by decide +kernel⟩
set_option maxRecDepth 20000 in
theorem wd_454 : Cond.instanceMethod y_T_timeOf ∈ lw_big := List.mem_filter.mpr ⟨List.mem_of_getElem? (i := 454) (by decide +kernel), by decide +kernel⟩
set_option maxRecDepth 20000 in
theorem wd_455 : k_T_timeOf ∈ lw_big := List.mem_filter.mpr ⟨List.mem_of_getElem? (i := 455) rfl, by decide +kernel⟩
set_option maxRecDepth 20000 in
theorem wd_456 : Cond.methodLink RL 49 y_T_turnBack ∈ lw_big := List.mem_filter.mpr ⟨List.mem_of_getElem? (i := 456) (by decide +kernel), by decide +kernel⟩
set_option maxRecDepth 20000 in
theorem wd_457 : Cond.instanceMethod y_T_turnBack ∈ lw_big := List.mem_filter.mpr ⟨List.mem_of_getElem? (i := 457) (by decide +kernel), by decide +kernel⟩
set_option maxRecDepth 20000 in
theorem wd_458 : Cond.selects RX4 y_T_turnBack y_T_turnBack ∈ lw_big := List.mem_filter.mpr ⟨List.mem_of_getElem? (i := 458) (by decide +kernel), by decide +kernel⟩
set_option maxRecDepth 20000 in
theorem wd_459 : k_T_turnBack ∈ lw_big := List.mem_filter.mpr ⟨List.mem_of_getElem? (i := 459) rfl, by decide +kernel⟩
set_option maxRecDepth 20000 in
theorem wd_460 : Cond.methodLink RX4 107 y_T_isGone ∈ lw_big := List.mem_filter.mpr ⟨List.mem_of_getElem? (i := 460) (by decide +kernel), by decide +kernel⟩
set_option maxRecDepth 20000 in
theorem wd_462 : Cond.instanceMethod y_T_isGone ∈ lw_big := List.mem_filter.mpr ⟨List.mem_of_getElem? (i := 462) (by decide +kernel), by decide +kernel⟩
set_option maxRecDepth 20000 in
theorem wd_463 : k_T_isGone ∈ lw_big := List.mem_filter.mpr ⟨List.mem_of_getElem? (i := 463) rfl, by decide +kernel⟩
set_option maxRecDepth 20000 in
theorem wd_464 : Cond.methodLink RL 53 y_T_putBack ∈ lw_big := List.mem_filter.mpr ⟨List.mem_of_getElem? (i := 464) (by decide +kernel), by decide +kernel⟩
set_option maxRecDepth 20000 in
theorem wd_465 : Cond.instanceMethod y_T_putBack ∈ lw_big := List.mem_filter.mpr ⟨List.mem_of_getElem? (i := 465) (by decide +kernel), by decide +kernel⟩
set_option maxRecDepth 20000 in
theorem wd_466 : Cond.selects RX4 y_T_putBack y_T_putBack ∈ lw_big := List.mem_filter.mpr ⟨List.mem_of_getElem? (i := 466) (by decide +kernel), by decide +kernel⟩
set_option maxRecDepth 20000 in
theorem wd_467 : k_T_putBack ∈ lw_big := List.mem_filter.mpr ⟨List.mem_of_getElem? (i := 467) rfl, by decide +kernel⟩
set_option maxRecDepth 20000 in
theorem wd_468 : Cond.methodLink RX4 110 y_T_asked ∈ lw_big := List.mem_filter.mpr ⟨List.mem_of_getElem? (i := 468) (by decide +kernel), by decide +kernel⟩
set_option maxRecDepth 20000 in
theorem wd_470 : Cond.instanceMethod y_T_asked ∈ lw_big := List.mem_filter.mpr ⟨List.mem_of_getElem? (i := 470) (by decide +kernel), by decide +kernel⟩
set_option maxRecDepth 20000 in
theorem wd_471 : k_T_asked ∈ lw_big := List.mem_filter.mpr ⟨List.mem_of_getElem? (i := 471) rfl, by decide +kernel⟩
set_option maxRecDepth 20000 in
theorem wd_472 : Cond.methodLink RL 57 y_T_look ∈ lw_big := List.mem_filter.mpr ⟨List.mem_of_getElem? (i := 472) (by decide +kernel), by decide +kernel⟩
set_option maxRecDepth 20000 in
theorem wd_473 : Cond.instanceMethod y_T_look ∈ lw_big := List.mem_filter.mpr ⟨List.mem_of_getElem? (i := 473) (by decide +kernel), by decide +kernel⟩
set_option maxRecDepth 20000 in
theorem wd_474 : Cond.selects RX4 y_T_look y_T_look ∈ lw_big := List.mem_filter.mpr ⟨List.mem_of_getElem? (i := 474) (by decide +kernel), by decide +kernel⟩
set_option maxRecDepth 20000 in
theorem wd_475 : k_T_look ∈ lw_big := List.mem_filter.mpr ⟨List.mem_of_getElem? (i := 475) rfl, by decide +kernel⟩
set_option maxRecDepth 20000 in
theorem wd_476 : Cond.methodLink RL 61 y_T_next ∈ lw_big := List.mem_filter.mpr ⟨List.mem_of_getElem? (i := 476) (by decide +kernel), by decide +kernel⟩
set_option maxRecDepth 20000 in
theorem wd_477 : Cond.instanceMethod y_T_next ∈ lw_big := List.mem_filter.mpr ⟨List.mem_of_getElem? (i := 477) (by decide +kernel), by decide +kernel⟩
set_option maxRecDepth 20000 in
theorem wd_478 : Cond.selects RX4 y_T_next y_T_next ∈ lw_big := List.mem_filter.mpr ⟨List.mem_of_getElem? (i := 478) (by decide +kernel), by decide +kernel⟩
set_option maxRecDepth 20000 in
theorem wd_479 : k_T_next ∈ lw_big := List.mem_filter.mpr ⟨List.mem_of_getElem? (i := 479) rfl, by decide +kernel⟩
set_option maxRecDepth 20000 in
theorem wd_480 : Cond.methodLink RL 66 y_T_read ∈ lw_big := List.mem_filter.mpr ⟨List.mem_of_getElem? (i := 480) (by decide +kernel), by decide +kernel⟩
set_option maxRecDepth 20000 in
theorem wd_481 : Cond.instanceMethod y_T_read ∈ lw_big := List.mem_filter.mpr ⟨List.mem_of_getElem? (i := 481) (by decide +kernel), by decide +kernel⟩
set_option maxRecDepth 20000 in
theorem wd_482 : Cond.selects RX4 y_T_read y_T_read ∈ lw_big := List.mem_filter.mpr ⟨List.mem_of_getElem? (i := 482) (by decide +kernel), by decide +kernel⟩
set_option maxRecDepth 20000 in
theorem wd_483 : k_T_read ∈ lw_big := List.mem_filter.mpr ⟨List.mem_of_getElem? (i := 483) rfl, by decide +kernel⟩
set_option maxRecDepth 20000 in
theorem wd_484 : Cond.constantLong RX4 114 (-1000000000000) ∈ lw_big := List.mem_filter.mpr ⟨List.mem_of_getElem? (i := 484) (by decide +kernel), by decide +kernel⟩
set_option maxRecDepth 20000 in
theorem wd_485 : Cond.constantLong RX4 116 (-2000000000000) ∈ lw_big := List.mem_filter.mpr ⟨List.mem_of_getElem? (i := 485) (by decide +kernel), by decide +kernel⟩
set_option maxRecDepth 20000 in
theorem wd_486 : Cond.methodLink RL 70 y_T_below ∈ lw_big := List.mem_filter.mpr ⟨List.mem_of_getElem? (i := 486) (by decide +kernel), by decide +kernel⟩
set_option maxRecDepth 20000 in
theorem wd_487 : Cond.instanceMethod y_T_below ∈ lw_big := List.mem_filter.mpr ⟨List.mem_of_getElem? (i := 487) (by decide +kernel), by decide +kernel⟩
set_option maxRecDepth 20000 in
theorem wd_488 : Cond.selects RX4 y_T_below y_T_below ∈ lw_big := List.mem_filter.mpr ⟨List.mem_of_getElem? (i := 488) (by decide +kernel), by decide +kernel⟩
set_option maxRecDepth 20000 in
theorem wd_489 : k_T_below ∈ lw_big := List.mem_filter.mpr ⟨List.mem_of_getElem? (i := 489) rfl, by decide +kernel⟩
set_option maxRecDepth 20000 in
theorem wd_490 : Cond.methodLink RL 74 y_T_thin ∈ lw_big := List.mem_filter.mpr ⟨List.mem_of_getElem? (i := 490) (by decide +kernel), by decide +kernel⟩
set_option maxRecDepth 20000 in
theorem wd_491 : Cond.instanceMethod y_T_thin ∈ lw_big := List.mem_filter.mpr ⟨List.mem_of_getElem? (i := 491) (by decide +kernel), by decide +kernel⟩
set_option maxRecDepth 20000 in
theorem wd_492 : Cond.selects RX4 y_T_thin y_T_thin ∈ lw_big := List.mem_filter.mpr ⟨List.mem_of_getElem? (i := 492) (by decide +kernel), by decide +kernel⟩
set_option maxRecDepth 20000 in
theorem wd_493 : k_T_thin ∈ lw_big := List.mem_filter.mpr ⟨List.mem_of_getElem? (i := 493) rfl, by decide +kernel⟩
set_option maxRecDepth 20000 in
theorem wd_494 : Cond.methodLink RX4 118 y_T_sync ∈ lw_big := List.mem_filter.mpr ⟨List.mem_of_getElem? (i := 494) (by decide +kernel), by decide +kernel⟩
set_option maxRecDepth 20000 in
theorem wd_495 : Cond.instanceMethod y_T_sync ∈ lw_big := List.mem_filter.mpr ⟨List.mem_of_getElem? (i := 495) (by decide +kernel), by decide +kernel⟩
set_option maxRecDepth 20000 in
theorem wd_496 : Cond.selects RX4 y_T_sync y_T_sync ∈ lw_big := List.mem_filter.mpr ⟨List.mem_of_getElem? (i := 496) (by decide +kernel), by decide +kernel⟩
set_option maxRecDepth 20000 in
theorem wd_497 : k_T_sync ∈ lw_big := List.mem_filter.mpr ⟨List.mem_of_getElem? (i := 497) rfl, by decide +kernel⟩
set_option maxRecDepth 20000 in
theorem wd_498 : Cond.methodLink RL 79 y_T_sync ∈ lw_big := List.mem_filter.mpr ⟨List.mem_of_getElem? (i := 498) (by decide +kernel), by decide +kernel⟩
set_option maxRecDepth 20000 in
theorem wd_499 : Cond.methodLink RL 83 y_T_crash ∈ lw_big := List.mem_filter.mpr ⟨List.mem_of_getElem? (i := 499) (by decide +kernel), by decide +kernel⟩
set_option maxRecDepth 20000 in
theorem wd_500 : Cond.instanceMethod y_T_crash ∈ lw_big := List.mem_filter.mpr ⟨List.mem_of_getElem? (i := 500) (by decide +kernel), by decide +kernel⟩
set_option maxRecDepth 20000 in
theorem wd_501 : Cond.selects RX4 y_T_crash y_T_crash ∈ lw_big := List.mem_filter.mpr ⟨List.mem_of_getElem? (i := 501) (by decide +kernel), by decide +kernel⟩
set_option maxRecDepth 20000 in
theorem wd_502 : k_T_crash ∈ lw_big := List.mem_filter.mpr ⟨List.mem_of_getElem? (i := 502) rfl, by decide +kernel⟩
set_option maxRecDepth 20000 in
theorem wd_503 : Cond.methodLink RL 87 y_T_node ∈ lw_big := List.mem_filter.mpr ⟨List.mem_of_getElem? (i := 503) (by decide +kernel), by decide +kernel⟩
set_option maxRecDepth 20000 in
theorem wd_504 : Cond.instanceMethod y_T_node ∈ lw_big := List.mem_filter.mpr ⟨List.mem_of_getElem? (i := 504) (by decide +kernel), by decide +kernel⟩
set_option maxRecDepth 20000 in
theorem wd_505 : Cond.selects RX4 y_T_node y_T_node ∈ lw_big := List.mem_filter.mpr ⟨List.mem_of_getElem? (i := 505) (by decide +kernel), by decide +kernel⟩
set_option maxRecDepth 20000 in
theorem wd_506 : k_T_node ∈ lw_big := List.mem_filter.mpr ⟨List.mem_of_getElem? (i := 506) rfl, by decide +kernel⟩
set_option maxRecDepth 20000 in
theorem wd_507 : Cond.methodLink RL 91 y_T_versionTime ∈ lw_big := List.mem_filter.mpr ⟨List.mem_of_getElem? (i := 507) (by decide +kernel), by decide +kernel⟩
set_option maxRecDepth 20000 in
theorem wd_508 : Cond.instanceMethod y_T_versionTime ∈ lw_big := List.mem_filter.mpr ⟨List.mem_of_getElem? (i := 508) (by decide +kernel), by decide +kernel⟩
set_option maxRecDepth 20000 in
theorem wd_509 : Cond.selects RX4 y_T_versionTime y_T_versionTime ∈ lw_big := List.mem_filter.mpr ⟨List.mem_of_getElem? (i := 509) (by decide +kernel), by decide +kernel⟩
set_option maxRecDepth 20000 in
theorem wd_510 : k_T_versionTime ∈ lw_big := List.mem_filter.mpr ⟨List.mem_of_getElem? (i := 510) rfl, by decide +kernel⟩
set_option maxRecDepth 20000 in
theorem wd_511 : Cond.methodLink RL 95 y_T_count ∈ lw_big := List.mem_filter.mpr ⟨List.mem_of_getElem? (i := 511) (by decide +kernel), by decide +kernel⟩
set_option maxRecDepth 20000 in
theorem wd_512 : Cond.instanceMethod y_T_count ∈ lw_big := List.mem_filter.mpr ⟨List.mem_of_getElem? (i := 512) (by decide +kernel), by decide +kernel⟩
set_option maxRecDepth 20000 in
theorem wd_513 : Cond.selects RX4 y_T_count y_T_count ∈ lw_big := List.mem_filter.mpr ⟨List.mem_of_getElem? (i := 513) (by decide +kernel), by decide +kernel⟩
set_option maxRecDepth 20000 in
theorem wd_514 : k_T_count ∈ lw_big := List.mem_filter.mpr ⟨List.mem_of_getElem? (i := 514) rfl, by decide +kernel⟩
theorem gd_all : GoodIn lw_big lw_big := fun w h => ⟨h, good_of_word (List.mem_filter.mp h).2⟩

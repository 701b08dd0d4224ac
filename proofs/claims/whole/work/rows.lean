section
-- ===== PART A: goes FIRST, ahead of the names: the tables' words, and 'selects' of the private methods out of them =====
/-- a private method of a class that the tables say can be made, by its rows of tables_1 -/
def lw_okq (q : MethodName × Nat) : Prop := (q.1.cls ≠ "java/lang/invoke/MethodHandle" ∧ q.1.cls ≠ "java/lang/invoke/VarHandle") ∧ Cond.instantiable q.1.cls q.2 ∈ tables_1 ∧ Cond.privateMethod q.1 ∈ tables_1 ∧ Cond.instanceMethod q.1 ∈ tables_1
theorem lw_p0 : lw_okq (⟨"PastTree", "isMadeFolder", "(I)Z"⟩, 11) := ⟨⟨by decide +kernel, by decide +kernel⟩, List.mem_of_getElem? (i := 8) (by decide +kernel), List.mem_of_getElem? (i := 90) (by decide +kernel), List.mem_of_getElem? (i := 91) (by decide +kernel)⟩
theorem lw_p1 : lw_okq (⟨"PastTree", "isMade", "(I)Z"⟩, 11) := ⟨⟨by decide +kernel, by decide +kernel⟩, List.mem_of_getElem? (i := 8) (by decide +kernel), List.mem_of_getElem? (i := 94) (by decide +kernel), List.mem_of_getElem? (i := 95) (by decide +kernel)⟩
theorem lw_p2 : lw_okq (⟨"PastTree", "findPlaces", "(I)V"⟩, 11) := ⟨⟨by decide +kernel, by decide +kernel⟩, List.mem_of_getElem? (i := 8) (by decide +kernel), List.mem_of_getElem? (i := 101) (by decide +kernel), List.mem_of_getElem? (i := 102) (by decide +kernel)⟩
theorem lw_p3 : lw_okq (⟨"PastTree", "hasRoomFor", "(II)Z"⟩, 11) := ⟨⟨by decide +kernel, by decide +kernel⟩, List.mem_of_getElem? (i := 8) (by decide +kernel), List.mem_of_getElem? (i := 109) (by decide +kernel), List.mem_of_getElem? (i := 110) (by decide +kernel)⟩
theorem lw_p4 : lw_okq (⟨"PastTree", "entryAt", "(II)I"⟩, 11) := ⟨⟨by decide +kernel, by decide +kernel⟩, List.mem_of_getElem? (i := 8) (by decide +kernel), List.mem_of_getElem? (i := 113) (by decide +kernel), List.mem_of_getElem? (i := 114) (by decide +kernel)⟩
theorem lw_p5 : lw_okq (⟨"PastTree", "isUsedUp", "()Z"⟩, 11) := ⟨⟨by decide +kernel, by decide +kernel⟩, List.mem_of_getElem? (i := 8) (by decide +kernel), List.mem_of_getElem? (i := 120) (by decide +kernel), List.mem_of_getElem? (i := 121) (by decide +kernel)⟩
theorem lw_p6 : lw_okq (⟨"PastTree", "place", "(II)V"⟩, 11) := ⟨⟨by decide +kernel, by decide +kernel⟩, List.mem_of_getElem? (i := 8) (by decide +kernel), List.mem_of_getElem? (i := 151) (by decide +kernel), List.mem_of_getElem? (i := 152) (by decide +kernel)⟩
theorem lw_p7 : lw_okq (⟨"PastTree", "noteChange", "()V"⟩, 11) := ⟨⟨by decide +kernel, by decide +kernel⟩, List.mem_of_getElem? (i := 8) (by decide +kernel), List.mem_of_getElem? (i := 174) (by decide +kernel), List.mem_of_getElem? (i := 175) (by decide +kernel)⟩
theorem lw_p8 : lw_okq (⟨"PastTree", "firstName", "(II)I"⟩, 11) := ⟨⟨by decide +kernel, by decide +kernel⟩, List.mem_of_getElem? (i := 8) (by decide +kernel), List.mem_of_getElem? (i := 182) (by decide +kernel), List.mem_of_getElem? (i := 183) (by decide +kernel)⟩
theorem lw_p9 : lw_okq (⟨"PastTree", "isWithin", "(II)Z"⟩, 11) := ⟨⟨by decide +kernel, by decide +kernel⟩, List.mem_of_getElem? (i := 8) (by decide +kernel), List.mem_of_getElem? (i := 190) (by decide +kernel), List.mem_of_getElem? (i := 191) (by decide +kernel)⟩
theorem lw_p10 : lw_okq (⟨"PastTree", "latestVersion", "(I)LPastTree$Version;"⟩, 11) := ⟨⟨by decide +kernel, by decide +kernel⟩, List.mem_of_getElem? (i := 8) (by decide +kernel), List.mem_of_getElem? (i := 198) (by decide +kernel), List.mem_of_getElem? (i := 199) (by decide +kernel)⟩
theorem lw_p11 : lw_okq (⟨"PastTree", "addVersion", "(ILPastTree$Version;[I)I"⟩, 11) := ⟨⟨by decide +kernel, by decide +kernel⟩, List.mem_of_getElem? (i := 8) (by decide +kernel), List.mem_of_getElem? (i := 212) (by decide +kernel), List.mem_of_getElem? (i := 213) (by decide +kernel)⟩
theorem lw_p12 : lw_okq (⟨"PastTree", "makeDurable", "()V"⟩, 11) := ⟨⟨by decide +kernel, by decide +kernel⟩, List.mem_of_getElem? (i := 8) (by decide +kernel), List.mem_of_getElem? (i := 249) (by decide +kernel), List.mem_of_getElem? (i := 250) (by decide +kernel)⟩
theorem lw_p13 : lw_okq (⟨"PastTree", "dropThinned", "(LPastTree$Version;)I"⟩, 11) := ⟨⟨by decide +kernel, by decide +kernel⟩, List.mem_of_getElem? (i := 8) (by decide +kernel), List.mem_of_getElem? (i := 257) (by decide +kernel), List.mem_of_getElem? (i := 258) (by decide +kernel)⟩
theorem lw_p14 : lw_okq (⟨"PastTree", "kindOf", "(I)I"⟩, 11) := ⟨⟨by decide +kernel, by decide +kernel⟩, List.mem_of_getElem? (i := 8) (by decide +kernel), List.mem_of_getElem? (i := 277) (by decide +kernel), List.mem_of_getElem? (i := 278) (by decide +kernel)⟩
theorem lw_p15 : lw_okq (⟨"PastTreeModel", "asOf", "(I)V"⟩, 18) := ⟨⟨by decide +kernel, by decide +kernel⟩, List.mem_of_getElem? (i := 295) (by decide +kernel), List.mem_of_getElem? (i := 368) (by decide +kernel), List.mem_of_getElem? (i := 369) (by decide +kernel)⟩
def lw_privs_1 : List (MethodName × Nat) := [(⟨"PastTree", "isMadeFolder", "(I)Z"⟩, 11), (⟨"PastTree", "isMade", "(I)Z"⟩, 11), (⟨"PastTree", "findPlaces", "(I)V"⟩, 11), (⟨"PastTree", "hasRoomFor", "(II)Z"⟩, 11), (⟨"PastTree", "entryAt", "(II)I"⟩, 11), (⟨"PastTree", "isUsedUp", "()Z"⟩, 11), (⟨"PastTree", "place", "(II)V"⟩, 11), (⟨"PastTree", "noteChange", "()V"⟩, 11), (⟨"PastTree", "firstName", "(II)I"⟩, 11), (⟨"PastTree", "isWithin", "(II)Z"⟩, 11), (⟨"PastTree", "latestVersion", "(I)LPastTree$Version;"⟩, 11), (⟨"PastTree", "addVersion", "(ILPastTree$Version;[I)I"⟩, 11), (⟨"PastTree", "makeDurable", "()V"⟩, 11), (⟨"PastTree", "dropThinned", "(LPastTree$Version;)I"⟩, 11), (⟨"PastTree", "kindOf", "(I)I"⟩, 11), (⟨"PastTreeModel", "asOf", "(I)V"⟩, 18)]
theorem lw_r1 : ∀ q ∈ lw_privs_1, lw_okq q := List.forall_mem_cons.mpr ⟨lw_p0, List.forall_mem_cons.mpr ⟨lw_p1, List.forall_mem_cons.mpr ⟨lw_p2, List.forall_mem_cons.mpr ⟨lw_p3, List.forall_mem_cons.mpr ⟨lw_p4, List.forall_mem_cons.mpr ⟨lw_p5, List.forall_mem_cons.mpr ⟨lw_p6, List.forall_mem_cons.mpr ⟨lw_p7, List.forall_mem_cons.mpr ⟨lw_p8, List.forall_mem_cons.mpr ⟨lw_p9, List.forall_mem_cons.mpr ⟨lw_p10, List.forall_mem_cons.mpr ⟨lw_p11, List.forall_mem_cons.mpr ⟨lw_p12, List.forall_mem_cons.mpr ⟨lw_p13, List.forall_mem_cons.mpr ⟨lw_p14, List.forall_mem_cons.mpr ⟨lw_p15, fun _ h => absurd h List.not_mem_nil⟩⟩⟩⟩⟩⟩⟩⟩⟩⟩⟩⟩⟩⟩⟩⟩
theorem lw_p16 : lw_okq (⟨"PastTreeModel", "kind", "(I)I"⟩, 18) := ⟨⟨by decide +kernel, by decide +kernel⟩, List.mem_of_getElem? (i := 295) (by decide +kernel), List.mem_of_getElem? (i := 372) (by decide +kernel), List.mem_of_getElem? (i := 373) (by decide +kernel)⟩
theorem lw_p17 : lw_okq (⟨"PastTreeModel", "open", "(I)Z"⟩, 18) := ⟨⟨by decide +kernel, by decide +kernel⟩, List.mem_of_getElem? (i := 295) (by decide +kernel), List.mem_of_getElem? (i := 376) (by decide +kernel), List.mem_of_getElem? (i := 377) (by decide +kernel)⟩
theorem lw_p18 : lw_okq (⟨"PastTreeModel", "placed", "(I)Z"⟩, 18) := ⟨⟨by decide +kernel, by decide +kernel⟩, List.mem_of_getElem? (i := 295) (by decide +kernel), List.mem_of_getElem? (i := 380) (by decide +kernel), List.mem_of_getElem? (i := 381) (by decide +kernel)⟩
theorem lw_p19 : lw_okq (⟨"PastTreeModel", "nodes", "()I"⟩, 18) := ⟨⟨by decide +kernel, by decide +kernel⟩, List.mem_of_getElem? (i := 295) (by decide +kernel), List.mem_of_getElem? (i := 384) (by decide +kernel), List.mem_of_getElem? (i := 385) (by decide +kernel)⟩
theorem lw_p20 : lw_okq (⟨"PastTreeModel", "change", "(IIIII)I"⟩, 18) := ⟨⟨by decide +kernel, by decide +kernel⟩, List.mem_of_getElem? (i := 295) (by decide +kernel), List.mem_of_getElem? (i := 388) (by decide +kernel), List.mem_of_getElem? (i := 389) (by decide +kernel)⟩
theorem lw_p21 : lw_okq (⟨"PastTreeModel", "copyCells", "(II)V"⟩, 18) := ⟨⟨by decide +kernel, by decide +kernel⟩, List.mem_of_getElem? (i := 295) (by decide +kernel), List.mem_of_getElem? (i := 392) (by decide +kernel), List.mem_of_getElem? (i := 393) (by decide +kernel)⟩
theorem lw_p22 : lw_okq (⟨"PastTreeModel", "hasEntries", "(I)Z"⟩, 18) := ⟨⟨by decide +kernel, by decide +kernel⟩, List.mem_of_getElem? (i := 295) (by decide +kernel), List.mem_of_getElem? (i := 400) (by decide +kernel), List.mem_of_getElem? (i := 401) (by decide +kernel)⟩
theorem lw_p23 : lw_okq (⟨"PastTreeModel", "reach", "(I)V"⟩, 18) := ⟨⟨by decide +kernel, by decide +kernel⟩, List.mem_of_getElem? (i := 295) (by decide +kernel), List.mem_of_getElem? (i := 408) (by decide +kernel), List.mem_of_getElem? (i := 409) (by decide +kernel)⟩
theorem lw_p24 : lw_okq (⟨"PastTreeModel", "version", "(II)I"⟩, 18) := ⟨⟨by decide +kernel, by decide +kernel⟩, List.mem_of_getElem? (i := 295) (by decide +kernel), List.mem_of_getElem? (i := 416) (by decide +kernel), List.mem_of_getElem? (i := 417) (by decide +kernel)⟩
theorem lw_p25 : lw_okq (⟨"PastTreeModel", "versions", "(I)I"⟩, 18) := ⟨⟨by decide +kernel, by decide +kernel⟩, List.mem_of_getElem? (i := 295) (by decide +kernel), List.mem_of_getElem? (i := 420) (by decide +kernel), List.mem_of_getElem? (i := 421) (by decide +kernel)⟩
theorem lw_p26 : lw_okq (⟨"PastTreeModel", "timeOf", "(II)I"⟩, 18) := ⟨⟨by decide +kernel, by decide +kernel⟩, List.mem_of_getElem? (i := 295) (by decide +kernel), List.mem_of_getElem? (i := 424) (by decide +kernel), List.mem_of_getElem? (i := 425) (by decide +kernel)⟩
theorem lw_p27 : lw_okq (⟨"PastTreeModel", "isGone", "(II)Z"⟩, 18) := ⟨⟨by decide +kernel, by decide +kernel⟩, List.mem_of_getElem? (i := 295) (by decide +kernel), List.mem_of_getElem? (i := 432) (by decide +kernel), List.mem_of_getElem? (i := 433) (by decide +kernel)⟩
theorem lw_p28 : lw_okq (⟨"PastTreeModel", "asked", "(III)Z"⟩, 18) := ⟨⟨by decide +kernel, by decide +kernel⟩, List.mem_of_getElem? (i := 295) (by decide +kernel), List.mem_of_getElem? (i := 440) (by decide +kernel), List.mem_of_getElem? (i := 441) (by decide +kernel)⟩
def lw_privs_2 : List (MethodName × Nat) := [(⟨"PastTreeModel", "kind", "(I)I"⟩, 18), (⟨"PastTreeModel", "open", "(I)Z"⟩, 18), (⟨"PastTreeModel", "placed", "(I)Z"⟩, 18), (⟨"PastTreeModel", "nodes", "()I"⟩, 18), (⟨"PastTreeModel", "change", "(IIIII)I"⟩, 18), (⟨"PastTreeModel", "copyCells", "(II)V"⟩, 18), (⟨"PastTreeModel", "hasEntries", "(I)Z"⟩, 18), (⟨"PastTreeModel", "reach", "(I)V"⟩, 18), (⟨"PastTreeModel", "version", "(II)I"⟩, 18), (⟨"PastTreeModel", "versions", "(I)I"⟩, 18), (⟨"PastTreeModel", "timeOf", "(II)I"⟩, 18), (⟨"PastTreeModel", "isGone", "(II)Z"⟩, 18), (⟨"PastTreeModel", "asked", "(III)Z"⟩, 18)]
theorem lw_r2 : ∀ q ∈ lw_privs_2, lw_okq q := List.forall_mem_cons.mpr ⟨lw_p16, List.forall_mem_cons.mpr ⟨lw_p17, List.forall_mem_cons.mpr ⟨lw_p18, List.forall_mem_cons.mpr ⟨lw_p19, List.forall_mem_cons.mpr ⟨lw_p20, List.forall_mem_cons.mpr ⟨lw_p21, List.forall_mem_cons.mpr ⟨lw_p22, List.forall_mem_cons.mpr ⟨lw_p23, List.forall_mem_cons.mpr ⟨lw_p24, List.forall_mem_cons.mpr ⟨lw_p25, List.forall_mem_cons.mpr ⟨lw_p26, List.forall_mem_cons.mpr ⟨lw_p27, List.forall_mem_cons.mpr ⟨lw_p28, fun _ h => absurd h List.not_mem_nil⟩⟩⟩⟩⟩⟩⟩⟩⟩⟩⟩⟩⟩
def lw_privs : List (MethodName × Nat) := lw_privs_1 ++ (lw_privs_2)
def lw_tbl : List Cond := k2_sels lw_privs ++ tables_1
theorem lw_privs_ok : ∀ q ∈ lw_privs, lw_okq q := by
  show ∀ q ∈ lw_privs_1 ++ (lw_privs_2), lw_okq q
  exact List.forall_mem_append.mpr ⟨lw_r1, lw_r2⟩
end
section
/-- those of the words that a callee may be given -/
def lw_big : List Cond := lw_tbl.filter goodWord
def RX0 : String := "PastTree$Node"
def TX0 : u_T := fun k => match k with
  | 0 => ("PastTree$Node", "spot", "LPastTree$Spot;", false)
  | 1 => ("PastTree$Node", "version", "LPastTree$Version;", false)
  | 2 => ("PastTree$Node", "durableSpot", "LPastTree$Spot;", false)
  | _ => ("PastTree$Node", "durableVersion", "LPastTree$Version;", false)
def tyX0 : Nat → FieldType := fun k => match k with
  | 0 => .object "PastTree$Spot"
  | 1 => .object "PastTree$Version"
  | 2 => .object "PastTree$Spot"
  | _ => .object "PastTree$Version"
theorem nmX0 : ∀ a, a < 4 → ∀ b, b < 4 → a ≠ b → (TX0 a).2.1 ≠ (TX0 b).2.1 := by decide +kernel
theorem tyX0_ok : ∀ k, k < 4 → parseFieldDescriptor (TX0 k).2.2.1 = some (tyX0 k) := by decide +kernel
theorem inX0 : ∀ w ∈ u_ws RX0 TX0 4, w ∈ lw_big := by decide +kernel
def RX1 : String := "PastTree$Spot"
def TX1 : u_T := fun k => match k with
  | 0 => ("PastTree$Spot", "time", "I", true)
  | 1 => ("PastTree$Spot", "place", "I", true)
  | _ => ("PastTree$Spot", "before", "LPastTree$Spot;", true)
def tyX1 : Nat → FieldType := fun k => match k with
  | 0 => .int
  | 1 => .int
  | _ => .object "PastTree$Spot"
theorem nmX1 : ∀ a, a < 3 → ∀ b, b < 3 → a ≠ b → (TX1 a).2.1 ≠ (TX1 b).2.1 := by decide +kernel
theorem tyX1_ok : ∀ k, k < 3 → parseFieldDescriptor (TX1 k).2.2.1 = some (tyX1 k) := by decide +kernel
theorem inX1 : ∀ w ∈ u_ws RX1 TX1 3, w ∈ lw_big := by decide +kernel
def RX2 : String := "PastTree$Version"
def TX2 : u_T := fun k => match k with
  | 0 => ("PastTree$Version", "time", "I", true)
  | 1 => ("PastTree$Version", "index", "I", true)
  | 2 => ("PastTree$Version", "cells", "[I", true)
  | 3 => ("PastTree$Version", "before", "LPastTree$Version;", true)
  | _ => ("PastTree$Version", "gone", "Z", false)
def tyX2 : Nat → FieldType := fun k => match k with
  | 0 => .int
  | 1 => .int
  | 2 => .array .int
  | 3 => .object "PastTree$Version"
  | _ => .boolean
theorem nmX2 : ∀ a, a < 5 → ∀ b, b < 5 → a ≠ b → (TX2 a).2.1 ≠ (TX2 b).2.1 := by decide +kernel
theorem tyX2_ok : ∀ k, k < 5 → parseFieldDescriptor (TX2 k).2.2.1 = some (tyX2 k) := by decide +kernel
theorem inX2 : ∀ w ∈ u_ws RX2 TX2 5, w ∈ lw_big := by decide +kernel
def RX3 : String := "PastTree"
def TX3 : u_T := fun k => match k with
  | 0 => ("PastTree", "window", "I", true)
  | 1 => ("PastTree", "gap", "I", true)
  | 2 => ("PastTree", "nodes", "[LPastTree$Node;", true)
  | 3 => ("PastTree", "places", "[I", true)
  | 4 => ("PastTree", "clock", "I", false)
  | 5 => ("PastTree", "made", "I", false)
  | 6 => ("PastTree", "changes", "I", false)
  | 7 => ("PastTree", "durableClock", "I", false)
  | 8 => ("PastTree", "durableMade", "I", false)
  | 9 => ("PastTree", "durableChanges", "I", false)
  | _ => ("PastTree", "changesEver", "I", false)
def tyX3 : Nat → FieldType := fun k => match k with
  | 0 => .int
  | 1 => .int
  | 2 => .array (.object "PastTree$Node")
  | 3 => .array .int
  | 4 => .int
  | 5 => .int
  | 6 => .int
  | 7 => .int
  | 8 => .int
  | 9 => .int
  | _ => .int
theorem nmX3 : ∀ a, a < 11 → ∀ b, b < 11 → a ≠ b → (TX3 a).2.1 ≠ (TX3 b).2.1 := by decide +kernel
theorem tyX3_ok : ∀ k, k < 11 → parseFieldDescriptor (TX3 k).2.2.1 = some (tyX3 k) := by decide +kernel
theorem inX3 : ∀ w ∈ u_ws RX3 TX3 11, w ∈ lw_big := by decide +kernel
def RX4 : String := "PastTreeModel"
def TX4 : u_T := fun k => match k with
  | 0 => ("PastTreeModel", "window", "I", true)
  | 1 => ("PastTreeModel", "gap", "I", true)
  | 2 => ("PastTreeModel", "when", "[I", true)
  | 3 => ("PastTreeModel", "set", "[I", true)
  | 4 => ("PastTreeModel", "node", "[I", true)
  | 5 => ("PastTreeModel", "unset", "[I", true)
  | 6 => ("PastTreeModel", "file", "[I", true)
  | 7 => ("PastTreeModel", "made", "[I", true)
  | 8 => ("PastTreeModel", "cell", "[I", true)
  | 9 => ("PastTreeModel", "changes", "I", false)
  | 10 => ("PastTreeModel", "durable", "I", false)
  | 11 => ("PastTreeModel", "clock", "I", false)
  | 12 => ("PastTreeModel", "durableClock", "I", false)
  | 13 => ("PastTreeModel", "goneFile", "[I", true)
  | 14 => ("PastTreeModel", "goneTime", "[I", true)
  | 15 => ("PastTreeModel", "gone", "I", false)
  | 16 => ("PastTreeModel", "entry", "[I", true)
  | _ => ("PastTreeModel", "reached", "[Z", true)
def tyX4 : Nat → FieldType := fun k => match k with
  | 0 => .int
  | 1 => .int
  | 2 => .array .int
  | 3 => .array .int
  | 4 => .array .int
  | 5 => .array .int
  | 6 => .array .int
  | 7 => .array .int
  | 8 => .array .int
  | 9 => .int
  | 10 => .int
  | 11 => .int
  | 12 => .int
  | 13 => .array .int
  | 14 => .array .int
  | 15 => .int
  | 16 => .array .int
  | _ => .array .boolean
theorem nmX4 : ∀ a, a < 18 → ∀ b, b < 18 → a ≠ b → (TX4 a).2.1 ≠ (TX4 b).2.1 := by decide +kernel
theorem tyX4_ok : ∀ k, k < 18 → parseFieldDescriptor (TX4 k).2.2.1 = some (tyX4 k) := by decide +kernel
theorem inX4 : ∀ w ∈ u_ws RX4 TX4 18, w ∈ lw_big := by decide +kernel
def RL : String := "PastTreeLaw"
abbrev vwCl : List vw_C := [(RX0, TX0, 4), (RX1, TX1, 3), (RX2, TX2, 5), (RX3, TX3, 11), (RX4, TX4, 18)]
abbrev c_P_init : ByteArray := prog_1_method_1_code
def y_P_init : MethodName := ⟨RX3, "<init>", "(II)V"⟩
abbrev k_P_init : Cond := .code y_P_init c_P_init 4 none
abbrev w_P_init : List Cond := k_P_init :: lw_big
abbrev c_P_tick : ByteArray := prog_1_method_2_code
def y_P_tick : MethodName := ⟨RX3, "tick", "(I)I"⟩
abbrev k_P_tick : Cond := .code y_P_tick c_P_tick 2 (some (.int))
abbrev w_P_tick : List Cond := k_P_tick :: lw_big
abbrev c_P_make : ByteArray := prog_1_method_3_code
def y_P_make : MethodName := ⟨RX3, "make", "(IIZ)I"⟩
abbrev k_P_make : Cond := .code y_P_make c_P_make 5 (some (.int))
abbrev w_P_make : List Cond := k_P_make :: lw_big
abbrev c_P_remove : ByteArray := prog_1_method_4_code
def y_P_remove : MethodName := ⟨RX3, "remove", "(II)I"⟩
abbrev k_P_remove : Cond := .code y_P_remove c_P_remove 4 (some (.int))
abbrev w_P_remove : List Cond := k_P_remove :: lw_big
abbrev c_P_move : ByteArray := prog_1_method_5_code
def y_P_move : MethodName := ⟨RX3, "move", "(IIII)I"⟩
abbrev k_P_move : Cond := .code y_P_move c_P_move 6 (some (.int))
abbrev w_P_move : List Cond := k_P_move :: lw_big
abbrev c_P_write : ByteArray := prog_1_method_6_code
def y_P_write : MethodName := ⟨RX3, "write", "(III)I"⟩
abbrev k_P_write : Cond := .code y_P_write c_P_write 6 (some (.int))
abbrev w_P_write : List Cond := k_P_write :: lw_big
abbrev c_P_turnBack : ByteArray := prog_1_method_7_code
def y_P_turnBack : MethodName := ⟨RX3, "turnBack", "(II)I"⟩
abbrev k_P_turnBack : Cond := .code y_P_turnBack c_P_turnBack 5 (some (.int))
abbrev w_P_turnBack : List Cond := k_P_turnBack :: lw_big
abbrev c_P_putBack : ByteArray := prog_1_method_8_code
def y_P_putBack : MethodName := ⟨RX3, "putBack", "(III)I"⟩
abbrev k_P_putBack : Cond := .code y_P_putBack c_P_putBack 5 (some (.int))
abbrev w_P_putBack : List Cond := k_P_putBack :: lw_big
abbrev c_P_look : ByteArray := prog_1_method_9_code
def y_P_look : MethodName := ⟨RX3, "look", "(III)I"⟩
abbrev k_P_look : Cond := .code y_P_look c_P_look 4 (some (.int))
abbrev w_P_look : List Cond := k_P_look :: lw_big
abbrev c_P_next : ByteArray := prog_1_method_10_code
def y_P_next : MethodName := ⟨RX3, "next", "(III)I"⟩
abbrev k_P_next : Cond := .code y_P_next c_P_next 4 (some (.int))
abbrev w_P_next : List Cond := k_P_next :: lw_big
abbrev c_P_read : ByteArray := prog_1_method_11_code
def y_P_read : MethodName := ⟨RX3, "read", "(III)J"⟩
abbrev k_P_read : Cond := .code y_P_read c_P_read 6 (some (.long))
abbrev w_P_read : List Cond := k_P_read :: lw_big
abbrev c_P_below : ByteArray := prog_1_method_12_code
def y_P_below : MethodName := ⟨RX3, "below", "(II)I"⟩
abbrev k_P_below : Cond := .code y_P_below c_P_below 5 (some (.int))
abbrev w_P_below : List Cond := k_P_below :: lw_big
abbrev c_P_thin : ByteArray := prog_1_method_13_code
def y_P_thin : MethodName := ⟨RX3, "thin", "(I)I"⟩
abbrev k_P_thin : Cond := .code y_P_thin c_P_thin 3 (some (.int))
abbrev w_P_thin : List Cond := k_P_thin :: lw_big
abbrev c_P_sync : ByteArray := prog_1_method_14_code
def y_P_sync : MethodName := ⟨RX3, "sync", "()I"⟩
abbrev k_P_sync : Cond := .code y_P_sync c_P_sync 1 (some (.int))
abbrev w_P_sync : List Cond := k_P_sync :: lw_big
abbrev c_P_crash : ByteArray := prog_1_method_15_code
def y_P_crash : MethodName := ⟨RX3, "crash", "()I"⟩
abbrev k_P_crash : Cond := .code y_P_crash c_P_crash 3 (some (.int))
abbrev w_P_crash : List Cond := k_P_crash :: lw_big
abbrev c_P_node : ByteArray := prog_1_method_16_code
def y_P_node : MethodName := ⟨RX3, "node", "(II)I"⟩
abbrev k_P_node : Cond := .code y_P_node c_P_node 4 (some (.int))
abbrev w_P_node : List Cond := k_P_node :: lw_big
abbrev c_P_versionTime : ByteArray := prog_1_method_17_code
def y_P_versionTime : MethodName := ⟨RX3, "versionTime", "(II)I"⟩
abbrev k_P_versionTime : Cond := .code y_P_versionTime c_P_versionTime 4 (some (.int))
abbrev w_P_versionTime : List Cond := k_P_versionTime :: lw_big
abbrev c_P_count : ByteArray := prog_1_method_18_code
def y_P_count : MethodName := ⟨RX3, "count", "(I)I"⟩
abbrev k_P_count : Cond := .code y_P_count c_P_count 2 (some (.int))
abbrev w_P_count : List Cond := k_P_count :: lw_big
abbrev c_P_clamp : ByteArray := prog_1_method_19_code
def y_P_clamp : MethodName := ⟨RX3, "clamp", "(I)I"⟩
abbrev k_P_clamp : Cond := .code y_P_clamp c_P_clamp 1 (some (.int))
abbrev w_P_clamp : List Cond := k_P_clamp :: lw_big
abbrev c_P_isName : ByteArray := prog_1_method_20_code
def y_P_isName : MethodName := ⟨RX3, "isName", "(I)Z"⟩
abbrev k_P_isName : Cond := .code y_P_isName c_P_isName 1 (some (.boolean))
abbrev w_P_isName : List Cond := k_P_isName :: lw_big
abbrev c_P_isCell : ByteArray := prog_1_method_21_code
def y_P_isCell : MethodName := ⟨RX3, "isCell", "(I)Z"⟩
abbrev k_P_isCell : Cond := .code y_P_isCell c_P_isCell 1 (some (.boolean))
abbrev w_P_isCell : List Cond := k_P_isCell :: lw_big
abbrev c_P_placeOf : ByteArray := prog_1_method_22_code
def y_P_placeOf : MethodName := ⟨RX3, "placeOf", "(II)I"⟩
abbrev k_P_placeOf : Cond := .code y_P_placeOf c_P_placeOf 2 (some (.int))
abbrev w_P_placeOf : List Cond := k_P_placeOf :: lw_big
abbrev c_P_isMade : ByteArray := prog_1_method_23_code
def y_P_isMade : MethodName := ⟨RX3, "isMade", "(I)Z"⟩
abbrev k_P_isMade : Cond := .code y_P_isMade c_P_isMade 2 (some (.boolean))
abbrev w_P_isMade : List Cond := k_P_isMade :: lw_big
abbrev c_P_isMadeFolder : ByteArray := prog_1_method_24_code
def y_P_isMadeFolder : MethodName := ⟨RX3, "isMadeFolder", "(I)Z"⟩
abbrev k_P_isMadeFolder : Cond := .code y_P_isMadeFolder c_P_isMadeFolder 2 (some (.boolean))
abbrev w_P_isMadeFolder : List Cond := k_P_isMadeFolder :: lw_big
abbrev c_P_latestVersion : ByteArray := prog_1_method_25_code
def y_P_latestVersion : MethodName := ⟨RX3, "latestVersion", "(I)LPastTree$Version;"⟩
abbrev k_P_latestVersion : Cond := .code y_P_latestVersion c_P_latestVersion 2 (some (.object "PastTree$Version"))
abbrev w_P_latestVersion : List Cond := k_P_latestVersion :: lw_big
abbrev c_P_kindOf : ByteArray := prog_1_method_26_code
def y_P_kindOf : MethodName := ⟨RX3, "kindOf", "(I)I"⟩
abbrev k_P_kindOf : Cond := .code y_P_kindOf c_P_kindOf 2 (some (.int))
abbrev w_P_kindOf : List Cond := k_P_kindOf :: lw_big
abbrev c_P_isUsedUp : ByteArray := prog_1_method_27_code
def y_P_isUsedUp : MethodName := ⟨RX3, "isUsedUp", "()Z"⟩
abbrev k_P_isUsedUp : Cond := .code y_P_isUsedUp c_P_isUsedUp 1 (some (.boolean))
abbrev w_P_isUsedUp : List Cond := k_P_isUsedUp :: lw_big
abbrev c_P_noteChange : ByteArray := prog_1_method_28_code
def y_P_noteChange : MethodName := ⟨RX3, "noteChange", "()V"⟩
abbrev k_P_noteChange : Cond := .code y_P_noteChange c_P_noteChange 1 none
abbrev w_P_noteChange : List Cond := k_P_noteChange :: lw_big
abbrev c_P_place : ByteArray := prog_1_method_29_code
def y_P_place : MethodName := ⟨RX3, "place", "(II)V"⟩
abbrev k_P_place : Cond := .code y_P_place c_P_place 3 none
abbrev w_P_place : List Cond := k_P_place :: lw_big
abbrev c_P_addVersion : ByteArray := prog_1_method_30_code
def y_P_addVersion : MethodName := ⟨RX3, "addVersion", "(ILPastTree$Version;[I)I"⟩
abbrev k_P_addVersion : Cond := .code y_P_addVersion c_P_addVersion 6 (some (.int))
abbrev w_P_addVersion : List Cond := k_P_addVersion :: lw_big
abbrev c_P_findPlaces : ByteArray := prog_1_method_31_code
def y_P_findPlaces : MethodName := ⟨RX3, "findPlaces", "(I)V"⟩
abbrev k_P_findPlaces : Cond := .code y_P_findPlaces c_P_findPlaces 3 none
abbrev w_P_findPlaces : List Cond := k_P_findPlaces :: lw_big
abbrev c_P_entryAt : ByteArray := prog_1_method_32_code
def y_P_entryAt : MethodName := ⟨RX3, "entryAt", "(II)I"⟩
abbrev k_P_entryAt : Cond := .code y_P_entryAt c_P_entryAt 5 (some (.int))
abbrev w_P_entryAt : List Cond := k_P_entryAt :: lw_big
abbrev c_P_firstName : ByteArray := prog_1_method_33_code
def y_P_firstName : MethodName := ⟨RX3, "firstName", "(II)I"⟩
abbrev k_P_firstName : Cond := .code y_P_firstName c_P_firstName 4 (some (.int))
abbrev w_P_firstName : List Cond := k_P_firstName :: lw_big
abbrev c_P_hasRoomFor : ByteArray := prog_1_method_34_code
def y_P_hasRoomFor : MethodName := ⟨RX3, "hasRoomFor", "(II)Z"⟩
abbrev k_P_hasRoomFor : Cond := .code y_P_hasRoomFor c_P_hasRoomFor 4 (some (.boolean))
abbrev w_P_hasRoomFor : List Cond := k_P_hasRoomFor :: lw_big
abbrev c_P_isWithin : ByteArray := prog_1_method_35_code
def y_P_isWithin : MethodName := ⟨RX3, "isWithin", "(II)Z"⟩
abbrev k_P_isWithin : Cond := .code y_P_isWithin c_P_isWithin 5 (some (.boolean))
abbrev w_P_isWithin : List Cond := k_P_isWithin :: lw_big
abbrev c_P_makeDurable : ByteArray := prog_1_method_36_code
def y_P_makeDurable : MethodName := ⟨RX3, "makeDurable", "()V"⟩
abbrev k_P_makeDurable : Cond := .code y_P_makeDurable c_P_makeDurable 2 none
abbrev w_P_makeDurable : List Cond := k_P_makeDurable :: lw_big
abbrev c_P_dropThinned : ByteArray := prog_1_method_37_code
def y_P_dropThinned : MethodName := ⟨RX3, "dropThinned", "(LPastTree$Version;)I"⟩
abbrev k_P_dropThinned : Cond := .code y_P_dropThinned c_P_dropThinned 7 (some (.int))
abbrev w_P_dropThinned : List Cond := k_P_dropThinned :: lw_big
abbrev c_P_versionAsOf : ByteArray := prog_1_method_38_code
def y_P_versionAsOf : MethodName := ⟨RX3, "versionAsOf", "(LPastTree$Version;I)LPastTree$Version;"⟩
abbrev k_P_versionAsOf : Cond := .code y_P_versionAsOf c_P_versionAsOf 3 (some (.object "PastTree$Version"))
abbrev w_P_versionAsOf : List Cond := k_P_versionAsOf :: lw_big
abbrev c_P_countGone : ByteArray := prog_1_method_39_code
def y_P_countGone : MethodName := ⟨RX3, "countGone", "(LPastTree$Version;)I"⟩
abbrev k_P_countGone : Cond := .code y_P_countGone c_P_countGone 3 (some (.int))
abbrev w_P_countGone : List Cond := k_P_countGone :: lw_big
abbrev c_T_init : ByteArray := prog_6_method_1_code
def y_T_init : MethodName := ⟨RX4, "<init>", "(II)V"⟩
abbrev k_T_init : Cond := .code y_T_init c_T_init 3 none
abbrev w_T_init : List Cond := k_T_init :: lw_big
abbrev c_T_isin : ByteArray := prog_6_method_2_code
def y_T_isin : MethodName := ⟨RX4, "in", "(II)Z"⟩
abbrev k_T_isin : Cond := .code y_T_isin c_T_isin 2 (some (.boolean))
abbrev w_T_isin : List Cond := k_T_isin :: lw_big
abbrev c_T_nodes : ByteArray := prog_6_method_3_code
def y_T_nodes : MethodName := ⟨RX4, "nodes", "()I"⟩
abbrev k_T_nodes : Cond := .code y_T_nodes c_T_nodes 3 (some (.int))
abbrev w_T_nodes : List Cond := k_T_nodes :: lw_big
abbrev c_T_kind : ByteArray := prog_6_method_4_code
def y_T_kind : MethodName := ⟨RX4, "kind", "(I)I"⟩
abbrev k_T_kind : Cond := .code y_T_kind c_T_kind 3 (some (.int))
abbrev w_T_kind : List Cond := k_T_kind :: lw_big
abbrev c_T_asOf : ByteArray := prog_6_method_5_code
def y_T_asOf : MethodName := ⟨RX4, "asOf", "(I)V"⟩
abbrev k_T_asOf : Cond := .code y_T_asOf c_T_asOf 3 none
abbrev w_T_asOf : List Cond := k_T_asOf :: lw_big
abbrev c_T_placed : ByteArray := prog_6_method_6_code
def y_T_placed : MethodName := ⟨RX4, "placed", "(I)Z"⟩
abbrev k_T_placed : Cond := .code y_T_placed c_T_placed 3 (some (.boolean))
abbrev w_T_placed : List Cond := k_T_placed :: lw_big
abbrev c_T_opn : ByteArray := prog_6_method_7_code
def y_T_opn : MethodName := ⟨RX4, "open", "(I)Z"⟩
abbrev k_T_opn : Cond := .code y_T_opn c_T_opn 2 (some (.boolean))
abbrev w_T_opn : List Cond := k_T_opn :: lw_big
abbrev c_T_reach : ByteArray := prog_6_method_8_code
def y_T_reach : MethodName := ⟨RX4, "reach", "(I)V"⟩
abbrev k_T_reach : Cond := .code y_T_reach c_T_reach 4 none
abbrev w_T_reach : List Cond := k_T_reach :: lw_big
abbrev c_T_hasEntries : ByteArray := prog_6_method_9_code
def y_T_hasEntries : MethodName := ⟨RX4, "hasEntries", "(I)Z"⟩
abbrev k_T_hasEntries : Cond := .code y_T_hasEntries c_T_hasEntries 3 (some (.boolean))
abbrev w_T_hasEntries : List Cond := k_T_hasEntries :: lw_big
abbrev c_T_change : ByteArray := prog_6_method_10_code
def y_T_change : MethodName := ⟨RX4, "change", "(IIIII)I"⟩
abbrev k_T_change : Cond := .code y_T_change c_T_change 7 (some (.int))
abbrev w_T_change : List Cond := k_T_change :: lw_big
abbrev c_T_version : ByteArray := prog_6_method_11_code
def y_T_version : MethodName := ⟨RX4, "version", "(II)I"⟩
abbrev k_T_version : Cond := .code y_T_version c_T_version 4 (some (.int))
abbrev w_T_version : List Cond := k_T_version :: lw_big
abbrev c_T_isGone : ByteArray := prog_6_method_12_code
def y_T_isGone : MethodName := ⟨RX4, "isGone", "(II)Z"⟩
abbrev k_T_isGone : Cond := .code y_T_isGone c_T_isGone 4 (some (.boolean))
abbrev w_T_isGone : List Cond := k_T_isGone :: lw_big
abbrev c_T_timeOf : ByteArray := prog_6_method_13_code
def y_T_timeOf : MethodName := ⟨RX4, "timeOf", "(II)I"⟩
abbrev k_T_timeOf : Cond := .code y_T_timeOf c_T_timeOf 6 (some (.int))
abbrev w_T_timeOf : List Cond := k_T_timeOf :: lw_big
abbrev c_T_versions : ByteArray := prog_6_method_14_code
def y_T_versions : MethodName := ⟨RX4, "versions", "(I)I"⟩
abbrev k_T_versions : Cond := .code y_T_versions c_T_versions 3 (some (.int))
abbrev w_T_versions : List Cond := k_T_versions :: lw_big
abbrev c_T_copyCells : ByteArray := prog_6_method_15_code
def y_T_copyCells : MethodName := ⟨RX4, "copyCells", "(II)V"⟩
abbrev k_T_copyCells : Cond := .code y_T_copyCells c_T_copyCells 4 none
abbrev w_T_copyCells : List Cond := k_T_copyCells :: lw_big
abbrev c_T_tick : ByteArray := prog_6_method_16_code
def y_T_tick : MethodName := ⟨RX4, "tick", "(I)I"⟩
abbrev k_T_tick : Cond := .code y_T_tick c_T_tick 2 (some (.int))
abbrev w_T_tick : List Cond := k_T_tick :: lw_big
abbrev c_T_make : ByteArray := prog_6_method_17_code
def y_T_make : MethodName := ⟨RX4, "make", "(IIZ)I"⟩
abbrev k_T_make : Cond := .code y_T_make c_T_make 6 (some (.int))
abbrev w_T_make : List Cond := k_T_make :: lw_big
abbrev c_T_remove : ByteArray := prog_6_method_18_code
def y_T_remove : MethodName := ⟨RX4, "remove", "(II)I"⟩
abbrev k_T_remove : Cond := .code y_T_remove c_T_remove 5 (some (.int))
abbrev w_T_remove : List Cond := k_T_remove :: lw_big
abbrev c_T_move : ByteArray := prog_6_method_19_code
def y_T_move : MethodName := ⟨RX4, "move", "(IIII)I"⟩
abbrev k_T_move : Cond := .code y_T_move c_T_move 7 (some (.int))
abbrev w_T_move : List Cond := k_T_move :: lw_big
abbrev c_T_write : ByteArray := prog_6_method_20_code
def y_T_write : MethodName := ⟨RX4, "write", "(III)I"⟩
abbrev k_T_write : Cond := .code y_T_write c_T_write 6 (some (.int))
abbrev w_T_write : List Cond := k_T_write :: lw_big
abbrev c_T_turnBack : ByteArray := prog_6_method_21_code
def y_T_turnBack : MethodName := ⟨RX4, "turnBack", "(II)I"⟩
abbrev k_T_turnBack : Cond := .code y_T_turnBack c_T_turnBack 5 (some (.int))
abbrev w_T_turnBack : List Cond := k_T_turnBack :: lw_big
abbrev c_T_asked : ByteArray := prog_6_method_22_code
def y_T_asked : MethodName := ⟨RX4, "asked", "(III)Z"⟩
abbrev k_T_asked : Cond := .code y_T_asked c_T_asked 4 (some (.boolean))
abbrev w_T_asked : List Cond := k_T_asked :: lw_big
abbrev c_T_putBack : ByteArray := prog_6_method_23_code
def y_T_putBack : MethodName := ⟨RX4, "putBack", "(III)I"⟩
abbrev k_T_putBack : Cond := .code y_T_putBack c_T_putBack 6 (some (.int))
abbrev w_T_putBack : List Cond := k_T_putBack :: lw_big
abbrev c_T_look : ByteArray := prog_6_method_24_code
def y_T_look : MethodName := ⟨RX4, "look", "(III)I"⟩
abbrev k_T_look : Cond := .code y_T_look c_T_look 4 (some (.int))
abbrev w_T_look : List Cond := k_T_look :: lw_big
abbrev c_T_next : ByteArray := prog_6_method_25_code
def y_T_next : MethodName := ⟨RX4, "next", "(III)I"⟩
abbrev k_T_next : Cond := .code y_T_next c_T_next 5 (some (.int))
abbrev w_T_next : List Cond := k_T_next :: lw_big
abbrev c_T_read : ByteArray := prog_6_method_26_code
def y_T_read : MethodName := ⟨RX4, "read", "(III)J"⟩
abbrev k_T_read : Cond := .code y_T_read c_T_read 5 (some (.long))
abbrev w_T_read : List Cond := k_T_read :: lw_big
abbrev c_T_below : ByteArray := prog_6_method_27_code
def y_T_below : MethodName := ⟨RX4, "below", "(II)I"⟩
abbrev k_T_below : Cond := .code y_T_below c_T_below 5 (some (.int))
abbrev w_T_below : List Cond := k_T_below :: lw_big
abbrev c_T_thin : ByteArray := prog_6_method_28_code
def y_T_thin : MethodName := ⟨RX4, "thin", "(I)I"⟩
abbrev k_T_thin : Cond := .code y_T_thin c_T_thin 8 (some (.int))
abbrev w_T_thin : List Cond := k_T_thin :: lw_big
abbrev c_T_sync : ByteArray := prog_6_method_29_code
def y_T_sync : MethodName := ⟨RX4, "sync", "()I"⟩
abbrev k_T_sync : Cond := .code y_T_sync c_T_sync 1 (some (.int))
abbrev w_T_sync : List Cond := k_T_sync :: lw_big
abbrev c_T_crash : ByteArray := prog_6_method_30_code
def y_T_crash : MethodName := ⟨RX4, "crash", "()I"⟩
abbrev k_T_crash : Cond := .code y_T_crash c_T_crash 2 (some (.int))
abbrev w_T_crash : List Cond := k_T_crash :: lw_big
abbrev c_T_node : ByteArray := prog_6_method_31_code
def y_T_node : MethodName := ⟨RX4, "node", "(II)I"⟩
abbrev k_T_node : Cond := .code y_T_node c_T_node 7 (some (.int))
abbrev w_T_node : List Cond := k_T_node :: lw_big
abbrev c_T_versionTime : ByteArray := prog_6_method_32_code
def y_T_versionTime : MethodName := ⟨RX4, "versionTime", "(II)I"⟩
abbrev k_T_versionTime : Cond := .code y_T_versionTime c_T_versionTime 3 (some (.int))
abbrev w_T_versionTime : List Cond := k_T_versionTime :: lw_big
abbrev c_T_count : ByteArray := prog_6_method_33_code
def y_T_count : MethodName := ⟨RX4, "count", "(I)I"⟩
abbrev k_T_count : Cond := .code y_T_count c_T_count 2 (some (.int))
abbrev w_T_count : List Cond := k_T_count :: lw_big
abbrev c_N_init : ByteArray := prog_2_method_1_code
def y_N_init : MethodName := ⟨RX0, "<init>", "()V"⟩
abbrev k_N_init : Cond := .code y_N_init c_N_init 1 none
abbrev w_N_init : List Cond := k_N_init :: lw_big
abbrev c_N_keep : ByteArray := prog_2_method_2_code
def y_N_keep : MethodName := ⟨RX0, "keep", "()V"⟩
abbrev k_N_keep : Cond := .code y_N_keep c_N_keep 1 none
abbrev w_N_keep : List Cond := k_N_keep :: lw_big
abbrev c_N_goBack : ByteArray := prog_2_method_3_code
def y_N_goBack : MethodName := ⟨RX0, "goBack", "()V"⟩
abbrev k_N_goBack : Cond := .code y_N_goBack c_N_goBack 1 none
abbrev w_N_goBack : List Cond := k_N_goBack :: lw_big
abbrev c_N_placeAsOf : ByteArray := prog_2_method_4_code
def y_N_placeAsOf : MethodName := ⟨RX0, "placeAsOf", "(I)I"⟩
abbrev k_N_placeAsOf : Cond := .code y_N_placeAsOf c_N_placeAsOf 3 (some (.int))
abbrev w_N_placeAsOf : List Cond := k_N_placeAsOf :: lw_big
abbrev c_S_init : ByteArray := prog_3_method_1_code
def y_S_init : MethodName := ⟨RX1, "<init>", "(IILPastTree$Spot;)V"⟩
abbrev k_S_init : Cond := .code y_S_init c_S_init 4 none
abbrev w_S_init : List Cond := k_S_init :: lw_big
abbrev c_V_init : ByteArray := prog_4_method_1_code
def y_V_init : MethodName := ⟨RX2, "<init>", "(II[ILPastTree$Version;)V"⟩
abbrev k_V_init : Cond := .code y_V_init c_V_init 5 none
abbrev w_V_init : List Cond := k_V_init :: lw_big
abbrev c_L_cell : ByteArray := method_2_code
def y_L_cell : MethodName := ⟨RL, "cell", "([II)I"⟩
abbrev k_L_cell : Cond := .code y_L_cell c_L_cell 2 (some (.int))
abbrev w_L_cell : List Cond := k_L_cell :: lw_big
abbrev c_L_law : ByteArray := code
def y_L_law : MethodName := ⟨RL, "law", "([I)Z"⟩
set_option maxRecDepth 20000 in
theorem wd_0 : Cond.selects RX3 y_P_isMadeFolder y_P_isMadeFolder ∈ lw_big := List.mem_filter.mpr ⟨List.mem_of_getElem? (i := 0) (by decide +kernel), by decide +kernel⟩
set_option maxRecDepth 20000 in
theorem wd_1 : Cond.selects RX3 y_P_isMade y_P_isMade ∈ lw_big := List.mem_filter.mpr ⟨List.mem_of_getElem? (i := 1) (by decide +kernel), by decide +kernel⟩
set_option maxRecDepth 20000 in
theorem wd_2 : Cond.selects RX3 y_P_findPlaces y_P_findPlaces ∈ lw_big := List.mem_filter.mpr ⟨List.mem_of_getElem? (i := 2) (by decide +kernel), by decide +kernel⟩
set_option maxRecDepth 20000 in
theorem wd_3 : Cond.selects RX3 y_P_hasRoomFor y_P_hasRoomFor ∈ lw_big := List.mem_filter.mpr ⟨List.mem_of_getElem? (i := 3) (by decide +kernel), by decide +kernel⟩
set_option maxRecDepth 20000 in
theorem wd_4 : Cond.selects RX3 y_P_entryAt y_P_entryAt ∈ lw_big := List.mem_filter.mpr ⟨List.mem_of_getElem? (i := 4) (by decide +kernel), by decide +kernel⟩
set_option maxRecDepth 20000 in
theorem wd_5 : Cond.selects RX3 y_P_isUsedUp y_P_isUsedUp ∈ lw_big := List.mem_filter.mpr ⟨List.mem_of_getElem? (i := 5) (by decide +kernel), by decide +kernel⟩
set_option maxRecDepth 20000 in
theorem wd_6 : Cond.selects RX3 y_P_place y_P_place ∈ lw_big := List.mem_filter.mpr ⟨List.mem_of_getElem? (i := 6) (by decide +kernel), by decide +kernel⟩
set_option maxRecDepth 20000 in
theorem wd_7 : Cond.selects RX3 y_P_noteChange y_P_noteChange ∈ lw_big := List.mem_filter.mpr ⟨List.mem_of_getElem? (i := 7) (by decide +kernel), by decide +kernel⟩
set_option maxRecDepth 20000 in
theorem wd_8 : Cond.selects RX3 y_P_firstName y_P_firstName ∈ lw_big := List.mem_filter.mpr ⟨List.mem_of_getElem? (i := 8) (by decide +kernel), by decide +kernel⟩
set_option maxRecDepth 20000 in
theorem wd_9 : Cond.selects RX3 y_P_isWithin y_P_isWithin ∈ lw_big := List.mem_filter.mpr ⟨List.mem_of_getElem? (i := 9) (by decide +kernel), by decide +kernel⟩
set_option maxRecDepth 20000 in
theorem wd_10 : Cond.selects RX3 y_P_latestVersion y_P_latestVersion ∈ lw_big := List.mem_filter.mpr ⟨List.mem_of_getElem? (i := 10) (by decide +kernel), by decide +kernel⟩
set_option maxRecDepth 20000 in
theorem wd_11 : Cond.selects RX3 y_P_addVersion y_P_addVersion ∈ lw_big := List.mem_filter.mpr ⟨List.mem_of_getElem? (i := 11) (by decide +kernel), by decide +kernel⟩
set_option maxRecDepth 20000 in
theorem wd_12 : Cond.selects RX3 y_P_makeDurable y_P_makeDurable ∈ lw_big := List.mem_filter.mpr ⟨List.mem_of_getElem? (i := 12) (by decide +kernel), by decide +kernel⟩
set_option maxRecDepth 20000 in
theorem wd_13 : Cond.selects RX3 y_P_dropThinned y_P_dropThinned ∈ lw_big := List.mem_filter.mpr ⟨List.mem_of_getElem? (i := 13) (by decide +kernel), by decide +kernel⟩
set_option maxRecDepth 20000 in
theorem wd_14 : Cond.selects RX3 y_P_kindOf y_P_kindOf ∈ lw_big := List.mem_filter.mpr ⟨List.mem_of_getElem? (i := 14) (by decide +kernel), by decide +kernel⟩
set_option maxRecDepth 20000 in
theorem wd_15 : Cond.selects RX4 y_T_asOf y_T_asOf ∈ lw_big := List.mem_filter.mpr ⟨List.mem_of_getElem? (i := 15) (by decide +kernel), by decide +kernel⟩
set_option maxRecDepth 20000 in
theorem wd_16 : Cond.selects RX4 y_T_kind y_T_kind ∈ lw_big := List.mem_filter.mpr ⟨List.mem_of_getElem? (i := 16) (by decide +kernel), by decide +kernel⟩
set_option maxRecDepth 20000 in
theorem wd_17 : Cond.selects RX4 y_T_opn y_T_opn ∈ lw_big := List.mem_filter.mpr ⟨List.mem_of_getElem? (i := 17) (by decide +kernel), by decide +kernel⟩
set_option maxRecDepth 20000 in
theorem wd_18 : Cond.selects RX4 y_T_placed y_T_placed ∈ lw_big := List.mem_filter.mpr ⟨List.mem_of_getElem? (i := 18) (by decide +kernel), by decide +kernel⟩
set_option maxRecDepth 20000 in
theorem wd_19 : Cond.selects RX4 y_T_nodes y_T_nodes ∈ lw_big := List.mem_filter.mpr ⟨List.mem_of_getElem? (i := 19) (by decide +kernel), by decide +kernel⟩
set_option maxRecDepth 20000 in
theorem wd_20 : Cond.selects RX4 y_T_change y_T_change ∈ lw_big := List.mem_filter.mpr ⟨List.mem_of_getElem? (i := 20) (by decide +kernel), by decide +kernel⟩
set_option maxRecDepth 20000 in
theorem wd_21 : Cond.selects RX4 y_T_copyCells y_T_copyCells ∈ lw_big := List.mem_filter.mpr ⟨List.mem_of_getElem? (i := 21) (by decide +kernel), by decide +kernel⟩
set_option maxRecDepth 20000 in
theorem wd_22 : Cond.selects RX4 y_T_hasEntries y_T_hasEntries ∈ lw_big := List.mem_filter.mpr ⟨List.mem_of_getElem? (i := 22) (by decide +kernel), by decide +kernel⟩
set_option maxRecDepth 20000 in
theorem wd_23 : Cond.selects RX4 y_T_reach y_T_reach ∈ lw_big := List.mem_filter.mpr ⟨List.mem_of_getElem? (i := 23) (by decide +kernel), by decide +kernel⟩
set_option maxRecDepth 20000 in
theorem wd_24 : Cond.selects RX4 y_T_version y_T_version ∈ lw_big := List.mem_filter.mpr ⟨List.mem_of_getElem? (i := 24) (by decide +kernel), by decide +kernel⟩
set_option maxRecDepth 20000 in
theorem wd_25 : Cond.selects RX4 y_T_versions y_T_versions ∈ lw_big := List.mem_filter.mpr ⟨List.mem_of_getElem? (i := 25) (by decide +kernel), by decide +kernel⟩
set_option maxRecDepth 20000 in
theorem wd_26 : Cond.selects RX4 y_T_timeOf y_T_timeOf ∈ lw_big := List.mem_filter.mpr ⟨List.mem_of_getElem? (i := 26) (by decide +kernel), by decide +kernel⟩
set_option maxRecDepth 20000 in
theorem wd_27 : Cond.selects RX4 y_T_isGone y_T_isGone ∈ lw_big := List.mem_filter.mpr ⟨List.mem_of_getElem? (i := 27) (by decide +kernel), by decide +kernel⟩
set_option maxRecDepth 20000 in
theorem wd_28 : Cond.selects RX4 y_T_asked y_T_asked ∈ lw_big := List.mem_filter.mpr ⟨List.mem_of_getElem? (i := 28) (by decide +kernel), by decide +kernel⟩
set_option maxRecDepth 20000 in
theorem wd_29 : Cond.initialized RL ∈ lw_big := List.mem_filter.mpr ⟨List.mem_of_getElem? (i := 29) (by decide +kernel), by decide +kernel⟩
set_option maxRecDepth 20000 in
theorem wd_30 : Cond.initialized RX3 ∈ lw_big := List.mem_filter.mpr ⟨List.mem_of_getElem? (i := 30) (by decide +kernel), by decide +kernel⟩
set_option maxRecDepth 20000 in
theorem wd_31 : Cond.initialized "java/lang/Math" ∈ lw_big := List.mem_filter.mpr ⟨List.mem_of_getElem? (i := 31) (by decide +kernel), by decide +kernel⟩
set_option maxRecDepth 20000 in
theorem wd_32 : Cond.initialized RX0 ∈ lw_big := List.mem_filter.mpr ⟨List.mem_of_getElem? (i := 32) (by decide +kernel), by decide +kernel⟩
set_option maxRecDepth 20000 in
theorem wd_33 : Cond.initialized RX4 ∈ lw_big := List.mem_filter.mpr ⟨List.mem_of_getElem? (i := 33) (by decide +kernel), by decide +kernel⟩
set_option maxRecDepth 20000 in
theorem wd_34 : Cond.initialized RX2 ∈ lw_big := List.mem_filter.mpr ⟨List.mem_of_getElem? (i := 34) (by decide +kernel), by decide +kernel⟩
set_option maxRecDepth 20000 in
theorem wd_35 : Cond.initialized RX1 ∈ lw_big := List.mem_filter.mpr ⟨List.mem_of_getElem? (i := 35) (by decide +kernel), by decide +kernel⟩
set_option maxRecDepth 20000 in
theorem wd_36 : Cond.classLink RL 7 RX3 ∈ lw_big := List.mem_filter.mpr ⟨List.mem_of_getElem? (i := 36) (by decide +kernel), by decide +kernel⟩
set_option maxRecDepth 20000 in
theorem wd_37 : Cond.instantiable RX3 11 ∈ lw_big := List.mem_filter.mpr ⟨List.mem_of_getElem? (i := 37) (by decide +kernel), by decide +kernel⟩
set_option maxRecDepth 20000 in
theorem wd_38 : Cond.methodLink RL 15 y_P_init ∈ lw_big := List.mem_filter.mpr ⟨List.mem_of_getElem? (i := 38) (by decide +kernel), by decide +kernel⟩
set_option maxRecDepth 20000 in
theorem wd_39 : Cond.instanceMethod y_P_init ∈ lw_big := List.mem_filter.mpr ⟨List.mem_of_getElem? (i := 39) (by decide +kernel), by decide +kernel⟩
set_option maxRecDepth 20000 in
theorem wd_40 : k_P_init ∈ lw_big := List.mem_filter.mpr ⟨List.mem_of_getElem? (i := 40) rfl, by decide +kernel⟩
set_option maxRecDepth 20000 in
theorem wd_41 : Cond.methodLink RX3 1 objectInit ∈ lw_big := List.mem_filter.mpr ⟨List.mem_of_getElem? (i := 41) (by decide +kernel), by decide +kernel⟩
set_option maxRecDepth 20000 in
theorem wd_42 : Cond.instanceMethod objectInit ∈ lw_big := List.mem_filter.mpr ⟨List.mem_of_getElem? (i := 42) (by decide +kernel), by decide +kernel⟩
set_option maxRecDepth 20000 in
theorem wd_43 : Cond.code objectInit ⟨#[0xb1]⟩ 1 none ∈ lw_big := List.mem_filter.mpr ⟨List.mem_of_getElem? (i := 43) rfl, by decide +kernel⟩
set_option maxRecDepth 20000 in
theorem wd_44 : Cond.classLink RX3 9 RX0 ∈ lw_big := List.mem_filter.mpr ⟨List.mem_of_getElem? (i := 44) (by decide +kernel), by decide +kernel⟩
set_option maxRecDepth 20000 in
theorem wd_46 : Cond.methodLink RX3 41 y_P_clamp ∈ lw_big := List.mem_filter.mpr ⟨List.mem_of_getElem? (i := 46) (by decide +kernel), by decide +kernel⟩
set_option maxRecDepth 20000 in
theorem wd_47 : Cond.static y_P_clamp ∈ lw_big := List.mem_filter.mpr ⟨List.mem_of_getElem? (i := 47) (by decide +kernel), by decide +kernel⟩
set_option maxRecDepth 20000 in
theorem wd_48 : k_P_clamp ∈ lw_big := List.mem_filter.mpr ⟨List.mem_of_getElem? (i := 48) rfl, by decide +kernel⟩
set_option maxRecDepth 20000 in
theorem wd_49 : Cond.methodLink RX3 156 Lib.Math.min.name ∈ lw_big := List.mem_filter.mpr ⟨List.mem_of_getElem? (i := 49) (by decide +kernel), by decide +kernel⟩
set_option maxRecDepth 20000 in
theorem wd_50 : Cond.static Lib.Math.min.name ∈ lw_big := List.mem_filter.mpr ⟨List.mem_of_getElem? (i := 50) (by decide +kernel), by decide +kernel⟩
set_option maxRecDepth 20000 in
theorem wd_51 : Cond.code Lib.Math.min.name Lib.Math.min.code 2 (some .int) ∈ lw_big := List.mem_filter.mpr ⟨List.mem_of_getElem? (i := 51) rfl, by decide +kernel⟩
set_option maxRecDepth 20000 in
theorem wd_52 : Cond.methodLink RX3 161 Lib.Math.max.name ∈ lw_big := List.mem_filter.mpr ⟨List.mem_of_getElem? (i := 52) (by decide +kernel), by decide +kernel⟩
set_option maxRecDepth 20000 in
theorem wd_53 : Cond.static Lib.Math.max.name ∈ lw_big := List.mem_filter.mpr ⟨List.mem_of_getElem? (i := 53) (by decide +kernel), by decide +kernel⟩
set_option maxRecDepth 20000 in
theorem wd_54 : Cond.code Lib.Math.max.name Lib.Math.max.code 2 (some .int) ∈ lw_big := List.mem_filter.mpr ⟨List.mem_of_getElem? (i := 54) rfl, by decide +kernel⟩
set_option maxRecDepth 20000 in
theorem wd_55 : Cond.instantiable RX0 4 ∈ lw_big := List.mem_filter.mpr ⟨List.mem_of_getElem? (i := 55) (by decide +kernel), by decide +kernel⟩
set_option maxRecDepth 20000 in
theorem wd_57 : Cond.instanceMethod y_N_init ∈ lw_big := List.mem_filter.mpr ⟨List.mem_of_getElem? (i := 57) (by decide +kernel), by decide +kernel⟩
set_option maxRecDepth 20000 in
theorem wd_58 : k_N_init ∈ lw_big := List.mem_filter.mpr ⟨List.mem_of_getElem? (i := 58) rfl, by decide +kernel⟩
set_option maxRecDepth 20000 in
theorem wd_59 : Cond.methodLink RX0 3 objectInit ∈ lw_big := List.mem_filter.mpr ⟨List.mem_of_getElem? (i := 59) (by decide +kernel), by decide +kernel⟩
set_option maxRecDepth 20000 in
theorem wd_60 : Cond.fieldLink RX0 9 "PastTree$Node" "spot" "LPastTree$Spot;" ∈ lw_big := List.mem_filter.mpr ⟨List.mem_of_getElem? (i := 60) (by decide +kernel), by decide +kernel⟩
set_option maxRecDepth 20000 in
theorem wd_61 : Cond.fieldLink RX3 169 "PastTree$Node" "spot" "LPastTree$Spot;" ∈ lw_big := List.mem_filter.mpr ⟨List.mem_of_getElem? (i := 61) (by decide +kernel), by decide +kernel⟩
set_option maxRecDepth 20000 in
theorem wd_62 : Cond.fieldLink RX0 15 "PastTree$Node" "version" "LPastTree$Version;" ∈ lw_big := List.mem_filter.mpr ⟨List.mem_of_getElem? (i := 62) (by decide +kernel), by decide +kernel⟩
set_option maxRecDepth 20000 in
theorem wd_63 : Cond.fieldLink RX3 76 "PastTree$Node" "version" "LPastTree$Version;" ∈ lw_big := List.mem_filter.mpr ⟨List.mem_of_getElem? (i := 63) (by decide +kernel), by decide +kernel⟩
set_option maxRecDepth 20000 in
theorem wd_64 : Cond.fieldLink RX0 19 "PastTree$Node" "durableSpot" "LPastTree$Spot;" ∈ lw_big := List.mem_filter.mpr ⟨List.mem_of_getElem? (i := 64) (by decide +kernel), by decide +kernel⟩
set_option maxRecDepth 20000 in
theorem wd_65 : Cond.fieldLink RX0 22 "PastTree$Node" "durableVersion" "LPastTree$Version;" ∈ lw_big := List.mem_filter.mpr ⟨List.mem_of_getElem? (i := 65) (by decide +kernel), by decide +kernel⟩
set_option maxRecDepth 20000 in
theorem wd_75 : Cond.arrayClass .int ∈ lw_big := List.mem_filter.mpr ⟨List.mem_of_getElem? (i := 75) (by decide +kernel), by decide +kernel⟩
set_option maxRecDepth 20000 in
theorem wd_76 : Cond.fieldLink RX3 45 "PastTree" "window" "I" ∈ lw_big := List.mem_filter.mpr ⟨List.mem_of_getElem? (i := 76) (by decide +kernel), by decide +kernel⟩
set_option maxRecDepth 20000 in
theorem wd_77 : Cond.fieldLink RX3 48 "PastTree" "gap" "I" ∈ lw_big := List.mem_filter.mpr ⟨List.mem_of_getElem? (i := 77) (by decide +kernel), by decide +kernel⟩
set_option maxRecDepth 20000 in
theorem wd_78 : Cond.fieldLink RX3 11 "PastTree" "nodes" "[LPastTree$Node;" ∈ lw_big := List.mem_filter.mpr ⟨List.mem_of_getElem? (i := 78) (by decide +kernel), by decide +kernel⟩
set_option maxRecDepth 20000 in
theorem wd_79 : Cond.fieldLink RX3 15 "PastTree" "places" "[I" ∈ lw_big := List.mem_filter.mpr ⟨List.mem_of_getElem? (i := 79) (by decide +kernel), by decide +kernel⟩
set_option maxRecDepth 20000 in
theorem wd_80 : Cond.fieldLink RX3 19 "PastTree" "clock" "I" ∈ lw_big := List.mem_filter.mpr ⟨List.mem_of_getElem? (i := 80) (by decide +kernel), by decide +kernel⟩
set_option maxRecDepth 20000 in
theorem wd_81 : Cond.fieldLink RX3 23 "PastTree" "made" "I" ∈ lw_big := List.mem_filter.mpr ⟨List.mem_of_getElem? (i := 81) (by decide +kernel), by decide +kernel⟩
set_option maxRecDepth 20000 in
theorem wd_82 : Cond.fieldLink RX3 26 "PastTree" "changes" "I" ∈ lw_big := List.mem_filter.mpr ⟨List.mem_of_getElem? (i := 82) (by decide +kernel), by decide +kernel⟩
set_option maxRecDepth 20000 in
theorem wd_83 : Cond.fieldLink RX3 29 "PastTree" "durableClock" "I" ∈ lw_big := List.mem_filter.mpr ⟨List.mem_of_getElem? (i := 83) (by decide +kernel), by decide +kernel⟩
set_option maxRecDepth 20000 in
theorem wd_84 : Cond.fieldLink RX3 32 "PastTree" "durableMade" "I" ∈ lw_big := List.mem_filter.mpr ⟨List.mem_of_getElem? (i := 84) (by decide +kernel), by decide +kernel⟩
set_option maxRecDepth 20000 in
theorem wd_85 : Cond.fieldLink RX3 35 "PastTree" "durableChanges" "I" ∈ lw_big := List.mem_filter.mpr ⟨List.mem_of_getElem? (i := 85) (by decide +kernel), by decide +kernel⟩
set_option maxRecDepth 20000 in
theorem wd_86 : Cond.fieldLink RX3 38 "PastTree" "changesEver" "I" ∈ lw_big := List.mem_filter.mpr ⟨List.mem_of_getElem? (i := 86) (by decide +kernel), by decide +kernel⟩
set_option maxRecDepth 20000 in
theorem wd_110 : Cond.methodLink RL 21 y_P_tick ∈ lw_big := List.mem_filter.mpr ⟨List.mem_of_getElem? (i := 110) (by decide +kernel), by decide +kernel⟩
set_option maxRecDepth 20000 in
theorem wd_111 : Cond.instanceMethod y_P_tick ∈ lw_big := List.mem_filter.mpr ⟨List.mem_of_getElem? (i := 111) (by decide +kernel), by decide +kernel⟩
set_option maxRecDepth 20000 in
theorem wd_112 : Cond.selects RX3 y_P_tick y_P_tick ∈ lw_big := List.mem_filter.mpr ⟨List.mem_of_getElem? (i := 112) (by decide +kernel), by decide +kernel⟩
set_option maxRecDepth 20000 in
theorem wd_113 : k_P_tick ∈ lw_big := List.mem_filter.mpr ⟨List.mem_of_getElem? (i := 113) rfl, by decide +kernel⟩
set_option maxRecDepth 20000 in
theorem wd_114 : Cond.methodLink RL 26 y_P_make ∈ lw_big := List.mem_filter.mpr ⟨List.mem_of_getElem? (i := 114) (by decide +kernel), by decide +kernel⟩
set_option maxRecDepth 20000 in
theorem wd_115 : Cond.instanceMethod y_P_make ∈ lw_big := List.mem_filter.mpr ⟨List.mem_of_getElem? (i := 115) (by decide +kernel), by decide +kernel⟩
set_option maxRecDepth 20000 in
theorem wd_116 : Cond.selects RX3 y_P_make y_P_make ∈ lw_big := List.mem_filter.mpr ⟨List.mem_of_getElem? (i := 116) (by decide +kernel), by decide +kernel⟩
set_option maxRecDepth 20000 in
theorem wd_117 : k_P_make ∈ lw_big := List.mem_filter.mpr ⟨List.mem_of_getElem? (i := 117) rfl, by decide +kernel⟩
set_option maxRecDepth 20000 in
theorem wd_118 : Cond.methodLink RX3 52 y_P_isMadeFolder ∈ lw_big := List.mem_filter.mpr ⟨List.mem_of_getElem? (i := 118) (by decide +kernel), by decide +kernel⟩
set_option maxRecDepth 20000 in
theorem wd_120 : Cond.instanceMethod y_P_isMadeFolder ∈ lw_big := List.mem_filter.mpr ⟨List.mem_of_getElem? (i := 120) (by decide +kernel), by decide +kernel⟩
set_option maxRecDepth 20000 in
theorem wd_121 : k_P_isMadeFolder ∈ lw_big := List.mem_filter.mpr ⟨List.mem_of_getElem? (i := 121) rfl, by decide +kernel⟩
set_option maxRecDepth 20000 in
theorem wd_122 : Cond.methodLink RX3 164 y_P_isMade ∈ lw_big := List.mem_filter.mpr ⟨List.mem_of_getElem? (i := 122) (by decide +kernel), by decide +kernel⟩
set_option maxRecDepth 20000 in
theorem wd_124 : Cond.instanceMethod y_P_isMade ∈ lw_big := List.mem_filter.mpr ⟨List.mem_of_getElem? (i := 124) (by decide +kernel), by decide +kernel⟩
set_option maxRecDepth 20000 in
theorem wd_125 : k_P_isMade ∈ lw_big := List.mem_filter.mpr ⟨List.mem_of_getElem? (i := 125) rfl, by decide +kernel⟩
set_option maxRecDepth 20000 in
theorem wd_126 : Cond.methodLink RX3 56 y_P_isName ∈ lw_big := List.mem_filter.mpr ⟨List.mem_of_getElem? (i := 126) (by decide +kernel), by decide +kernel⟩
set_option maxRecDepth 20000 in
theorem wd_127 : Cond.static y_P_isName ∈ lw_big := List.mem_filter.mpr ⟨List.mem_of_getElem? (i := 127) (by decide +kernel), by decide +kernel⟩
set_option maxRecDepth 20000 in
theorem wd_128 : k_P_isName ∈ lw_big := List.mem_filter.mpr ⟨List.mem_of_getElem? (i := 128) rfl, by decide +kernel⟩
set_option maxRecDepth 20000 in
theorem wd_129 : Cond.methodLink RX3 59 y_P_findPlaces ∈ lw_big := List.mem_filter.mpr ⟨List.mem_of_getElem? (i := 129) (by decide +kernel), by decide +kernel⟩
set_option maxRecDepth 20000 in
theorem wd_131 : Cond.instanceMethod y_P_findPlaces ∈ lw_big := List.mem_filter.mpr ⟨List.mem_of_getElem? (i := 131) (by decide +kernel), by decide +kernel⟩
set_option maxRecDepth 20000 in
theorem wd_132 : k_P_findPlaces ∈ lw_big := List.mem_filter.mpr ⟨List.mem_of_getElem? (i := 132) rfl, by decide +kernel⟩
set_option maxRecDepth 20000 in
theorem wd_133 : Cond.methodLink RX3 141 y_N_placeAsOf ∈ lw_big := List.mem_filter.mpr ⟨List.mem_of_getElem? (i := 133) (by decide +kernel), by decide +kernel⟩
set_option maxRecDepth 20000 in
theorem wd_134 : Cond.instanceMethod y_N_placeAsOf ∈ lw_big := List.mem_filter.mpr ⟨List.mem_of_getElem? (i := 134) (by decide +kernel), by decide +kernel⟩
set_option maxRecDepth 20000 in
theorem wd_135 : Cond.selects RX0 y_N_placeAsOf y_N_placeAsOf ∈ lw_big := List.mem_filter.mpr ⟨List.mem_of_getElem? (i := 135) (by decide +kernel), by decide +kernel⟩
set_option maxRecDepth 20000 in
theorem wd_136 : k_N_placeAsOf ∈ lw_big := List.mem_filter.mpr ⟨List.mem_of_getElem? (i := 136) rfl, by decide +kernel⟩
set_option maxRecDepth 20000 in
theorem wd_137 : Cond.methodLink RX3 63 y_P_hasRoomFor ∈ lw_big := List.mem_filter.mpr ⟨List.mem_of_getElem? (i := 137) (by decide +kernel), by decide +kernel⟩
set_option maxRecDepth 20000 in
theorem wd_139 : Cond.instanceMethod y_P_hasRoomFor ∈ lw_big := List.mem_filter.mpr ⟨List.mem_of_getElem? (i := 139) (by decide +kernel), by decide +kernel⟩
set_option maxRecDepth 20000 in
theorem wd_140 : k_P_hasRoomFor ∈ lw_big := List.mem_filter.mpr ⟨List.mem_of_getElem? (i := 140) rfl, by decide +kernel⟩
set_option maxRecDepth 20000 in
theorem wd_141 : Cond.methodLink RX3 88 y_P_entryAt ∈ lw_big := List.mem_filter.mpr ⟨List.mem_of_getElem? (i := 141) (by decide +kernel), by decide +kernel⟩
set_option maxRecDepth 20000 in
theorem wd_143 : Cond.instanceMethod y_P_entryAt ∈ lw_big := List.mem_filter.mpr ⟨List.mem_of_getElem? (i := 143) (by decide +kernel), by decide +kernel⟩
set_option maxRecDepth 20000 in
theorem wd_144 : k_P_entryAt ∈ lw_big := List.mem_filter.mpr ⟨List.mem_of_getElem? (i := 144) rfl, by decide +kernel⟩
set_option maxRecDepth 20000 in
theorem wd_145 : Cond.methodLink RX3 80 y_P_placeOf ∈ lw_big := List.mem_filter.mpr ⟨List.mem_of_getElem? (i := 145) (by decide +kernel), by decide +kernel⟩
set_option maxRecDepth 20000 in
theorem wd_146 : Cond.static y_P_placeOf ∈ lw_big := List.mem_filter.mpr ⟨List.mem_of_getElem? (i := 146) (by decide +kernel), by decide +kernel⟩
set_option maxRecDepth 20000 in
theorem wd_147 : k_P_placeOf ∈ lw_big := List.mem_filter.mpr ⟨List.mem_of_getElem? (i := 147) rfl, by decide +kernel⟩
set_option maxRecDepth 20000 in
theorem wd_148 : Cond.methodLink RX3 67 y_P_isUsedUp ∈ lw_big := List.mem_filter.mpr ⟨List.mem_of_getElem? (i := 148) (by decide +kernel), by decide +kernel⟩
set_option maxRecDepth 20000 in
theorem wd_150 : Cond.instanceMethod y_P_isUsedUp ∈ lw_big := List.mem_filter.mpr ⟨List.mem_of_getElem? (i := 150) (by decide +kernel), by decide +kernel⟩
set_option maxRecDepth 20000 in
theorem wd_151 : k_P_isUsedUp ∈ lw_big := List.mem_filter.mpr ⟨List.mem_of_getElem? (i := 151) rfl, by decide +kernel⟩
set_option maxRecDepth 20000 in
theorem wd_152 : Cond.classLink RX3 71 RX2 ∈ lw_big := List.mem_filter.mpr ⟨List.mem_of_getElem? (i := 152) (by decide +kernel), by decide +kernel⟩
set_option maxRecDepth 20000 in
theorem wd_153 : Cond.instantiable RX2 5 ∈ lw_big := List.mem_filter.mpr ⟨List.mem_of_getElem? (i := 153) (by decide +kernel), by decide +kernel⟩
set_option maxRecDepth 20000 in
theorem wd_154 : Cond.methodLink RX3 73 y_V_init ∈ lw_big := List.mem_filter.mpr ⟨List.mem_of_getElem? (i := 154) (by decide +kernel), by decide +kernel⟩
set_option maxRecDepth 20000 in
theorem wd_155 : Cond.instanceMethod y_V_init ∈ lw_big := List.mem_filter.mpr ⟨List.mem_of_getElem? (i := 155) (by decide +kernel), by decide +kernel⟩
set_option maxRecDepth 20000 in
theorem wd_156 : k_V_init ∈ lw_big := List.mem_filter.mpr ⟨List.mem_of_getElem? (i := 156) rfl, by decide +kernel⟩
set_option maxRecDepth 20000 in
theorem wd_157 : Cond.methodLink RX2 1 objectInit ∈ lw_big := List.mem_filter.mpr ⟨List.mem_of_getElem? (i := 157) (by decide +kernel), by decide +kernel⟩
set_option maxRecDepth 20000 in
theorem wd_158 : Cond.fieldLink RX2 13 "PastTree$Version" "time" "I" ∈ lw_big := List.mem_filter.mpr ⟨List.mem_of_getElem? (i := 158) (by decide +kernel), by decide +kernel⟩
set_option maxRecDepth 20000 in
theorem wd_159 : Cond.fieldLink RX3 150 "PastTree$Version" "time" "I" ∈ lw_big := List.mem_filter.mpr ⟨List.mem_of_getElem? (i := 159) (by decide +kernel), by decide +kernel⟩
set_option maxRecDepth 20000 in
theorem wd_160 : Cond.fieldLink RX2 17 "PastTree$Version" "index" "I" ∈ lw_big := List.mem_filter.mpr ⟨List.mem_of_getElem? (i := 160) (by decide +kernel), by decide +kernel⟩
set_option maxRecDepth 20000 in
theorem wd_161 : Cond.fieldLink RX3 144 "PastTree$Version" "index" "I" ∈ lw_big := List.mem_filter.mpr ⟨List.mem_of_getElem? (i := 161) (by decide +kernel), by decide +kernel⟩
set_option maxRecDepth 20000 in
theorem wd_162 : Cond.fieldLink RX2 20 "PastTree$Version" "cells" "[I" ∈ lw_big := List.mem_filter.mpr ⟨List.mem_of_getElem? (i := 162) (by decide +kernel), by decide +kernel⟩
set_option maxRecDepth 20000 in
theorem wd_163 : Cond.fieldLink RX3 104 "PastTree$Version" "cells" "[I" ∈ lw_big := List.mem_filter.mpr ⟨List.mem_of_getElem? (i := 163) (by decide +kernel), by decide +kernel⟩
set_option maxRecDepth 20000 in
theorem wd_164 : Cond.fieldLink RX2 24 "PastTree$Version" "before" "LPastTree$Version;" ∈ lw_big := List.mem_filter.mpr ⟨List.mem_of_getElem? (i := 164) (by decide +kernel), by decide +kernel⟩
set_option maxRecDepth 20000 in
theorem wd_165 : Cond.fieldLink RX3 153 "PastTree$Version" "before" "LPastTree$Version;" ∈ lw_big := List.mem_filter.mpr ⟨List.mem_of_getElem? (i := 165) (by decide +kernel), by decide +kernel⟩
set_option maxRecDepth 20000 in
theorem wd_166 : Cond.fieldLink RX2 7 "PastTree$Version" "gone" "Z" ∈ lw_big := List.mem_filter.mpr ⟨List.mem_of_getElem? (i := 166) (by decide +kernel), by decide +kernel⟩
set_option maxRecDepth 20000 in
theorem wd_167 : Cond.fieldLink RX3 120 "PastTree$Version" "gone" "Z" ∈ lw_big := List.mem_filter.mpr ⟨List.mem_of_getElem? (i := 167) (by decide +kernel), by decide +kernel⟩
set_option maxRecDepth 20000 in
theorem wd_179 : Cond.methodLink RX3 84 y_P_place ∈ lw_big := List.mem_filter.mpr ⟨List.mem_of_getElem? (i := 179) (by decide +kernel), by decide +kernel⟩
set_option maxRecDepth 20000 in
theorem wd_181 : Cond.instanceMethod y_P_place ∈ lw_big := List.mem_filter.mpr ⟨List.mem_of_getElem? (i := 181) (by decide +kernel), by decide +kernel⟩
set_option maxRecDepth 20000 in
theorem wd_182 : k_P_place ∈ lw_big := List.mem_filter.mpr ⟨List.mem_of_getElem? (i := 182) rfl, by decide +kernel⟩
set_option maxRecDepth 20000 in
theorem wd_183 : Cond.classLink RX3 167 RX1 ∈ lw_big := List.mem_filter.mpr ⟨List.mem_of_getElem? (i := 183) (by decide +kernel), by decide +kernel⟩
set_option maxRecDepth 20000 in
theorem wd_184 : Cond.instantiable RX1 3 ∈ lw_big := List.mem_filter.mpr ⟨List.mem_of_getElem? (i := 184) (by decide +kernel), by decide +kernel⟩
set_option maxRecDepth 20000 in
theorem wd_185 : Cond.methodLink RX3 173 y_S_init ∈ lw_big := List.mem_filter.mpr ⟨List.mem_of_getElem? (i := 185) (by decide +kernel), by decide +kernel⟩
set_option maxRecDepth 20000 in
theorem wd_186 : Cond.instanceMethod y_S_init ∈ lw_big := List.mem_filter.mpr ⟨List.mem_of_getElem? (i := 186) (by decide +kernel), by decide +kernel⟩
set_option maxRecDepth 20000 in
theorem wd_187 : k_S_init ∈ lw_big := List.mem_filter.mpr ⟨List.mem_of_getElem? (i := 187) rfl, by decide +kernel⟩
set_option maxRecDepth 20000 in
theorem wd_188 : Cond.methodLink RX1 1 objectInit ∈ lw_big := List.mem_filter.mpr ⟨List.mem_of_getElem? (i := 188) (by decide +kernel), by decide +kernel⟩
set_option maxRecDepth 20000 in
theorem wd_189 : Cond.fieldLink RX1 7 "PastTree$Spot" "time" "I" ∈ lw_big := List.mem_filter.mpr ⟨List.mem_of_getElem? (i := 189) (by decide +kernel), by decide +kernel⟩
set_option maxRecDepth 20000 in
theorem wd_190 : Cond.fieldLink RX0 25 "PastTree$Spot" "time" "I" ∈ lw_big := List.mem_filter.mpr ⟨List.mem_of_getElem? (i := 190) (by decide +kernel), by decide +kernel⟩
set_option maxRecDepth 20000 in
theorem wd_191 : Cond.fieldLink RX1 13 "PastTree$Spot" "place" "I" ∈ lw_big := List.mem_filter.mpr ⟨List.mem_of_getElem? (i := 191) (by decide +kernel), by decide +kernel⟩
set_option maxRecDepth 20000 in
theorem wd_192 : Cond.fieldLink RX0 34 "PastTree$Spot" "place" "I" ∈ lw_big := List.mem_filter.mpr ⟨List.mem_of_getElem? (i := 192) (by decide +kernel), by decide +kernel⟩
set_option maxRecDepth 20000 in
theorem wd_193 : Cond.fieldLink RX1 16 "PastTree$Spot" "before" "LPastTree$Spot;" ∈ lw_big := List.mem_filter.mpr ⟨List.mem_of_getElem? (i := 193) (by decide +kernel), by decide +kernel⟩
set_option maxRecDepth 20000 in
theorem wd_194 : Cond.fieldLink RX0 31 "PastTree$Spot" "before" "LPastTree$Spot;" ∈ lw_big := List.mem_filter.mpr ⟨List.mem_of_getElem? (i := 194) (by decide +kernel), by decide +kernel⟩
set_option maxRecDepth 20000 in
theorem wd_202 : Cond.methodLink RX3 176 y_P_noteChange ∈ lw_big := List.mem_filter.mpr ⟨List.mem_of_getElem? (i := 202) (by decide +kernel), by decide +kernel⟩
set_option maxRecDepth 20000 in
theorem wd_204 : Cond.instanceMethod y_P_noteChange ∈ lw_big := List.mem_filter.mpr ⟨List.mem_of_getElem? (i := 204) (by decide +kernel), by decide +kernel⟩
set_option maxRecDepth 20000 in
theorem wd_205 : k_P_noteChange ∈ lw_big := List.mem_filter.mpr ⟨List.mem_of_getElem? (i := 205) rfl, by decide +kernel⟩
set_option maxRecDepth 20000 in
theorem wd_206 : Cond.methodLink RL 31 y_P_remove ∈ lw_big := List.mem_filter.mpr ⟨List.mem_of_getElem? (i := 206) (by decide +kernel), by decide +kernel⟩
set_option maxRecDepth 20000 in
theorem wd_207 : Cond.instanceMethod y_P_remove ∈ lw_big := List.mem_filter.mpr ⟨List.mem_of_getElem? (i := 207) (by decide +kernel), by decide +kernel⟩
set_option maxRecDepth 20000 in
theorem wd_208 : Cond.selects RX3 y_P_remove y_P_remove ∈ lw_big := List.mem_filter.mpr ⟨List.mem_of_getElem? (i := 208) (by decide +kernel), by decide +kernel⟩
set_option maxRecDepth 20000 in
theorem wd_209 : k_P_remove ∈ lw_big := List.mem_filter.mpr ⟨List.mem_of_getElem? (i := 209) rfl, by decide +kernel⟩
set_option maxRecDepth 20000 in
theorem wd_210 : Cond.methodLink RX3 91 y_P_firstName ∈ lw_big := List.mem_filter.mpr ⟨List.mem_of_getElem? (i := 210) (by decide +kernel), by decide +kernel⟩
set_option maxRecDepth 20000 in
theorem wd_212 : Cond.instanceMethod y_P_firstName ∈ lw_big := List.mem_filter.mpr ⟨List.mem_of_getElem? (i := 212) (by decide +kernel), by decide +kernel⟩
set_option maxRecDepth 20000 in
theorem wd_213 : k_P_firstName ∈ lw_big := List.mem_filter.mpr ⟨List.mem_of_getElem? (i := 213) rfl, by decide +kernel⟩
set_option maxRecDepth 20000 in
theorem wd_214 : Cond.methodLink RL 36 y_P_move ∈ lw_big := List.mem_filter.mpr ⟨List.mem_of_getElem? (i := 214) (by decide +kernel), by decide +kernel⟩
set_option maxRecDepth 20000 in
theorem wd_215 : Cond.instanceMethod y_P_move ∈ lw_big := List.mem_filter.mpr ⟨List.mem_of_getElem? (i := 215) (by decide +kernel), by decide +kernel⟩
set_option maxRecDepth 20000 in
theorem wd_216 : Cond.selects RX3 y_P_move y_P_move ∈ lw_big := List.mem_filter.mpr ⟨List.mem_of_getElem? (i := 216) (by decide +kernel), by decide +kernel⟩
set_option maxRecDepth 20000 in
theorem wd_217 : k_P_move ∈ lw_big := List.mem_filter.mpr ⟨List.mem_of_getElem? (i := 217) rfl, by decide +kernel⟩
set_option maxRecDepth 20000 in
theorem wd_218 : Cond.methodLink RX3 94 y_P_isWithin ∈ lw_big := List.mem_filter.mpr ⟨List.mem_of_getElem? (i := 218) (by decide +kernel), by decide +kernel⟩
set_option maxRecDepth 20000 in
theorem wd_220 : Cond.instanceMethod y_P_isWithin ∈ lw_big := List.mem_filter.mpr ⟨List.mem_of_getElem? (i := 220) (by decide +kernel), by decide +kernel⟩
set_option maxRecDepth 20000 in
theorem wd_221 : k_P_isWithin ∈ lw_big := List.mem_filter.mpr ⟨List.mem_of_getElem? (i := 221) rfl, by decide +kernel⟩
set_option maxRecDepth 20000 in
theorem wd_222 : Cond.methodLink RL 41 y_P_write ∈ lw_big := List.mem_filter.mpr ⟨List.mem_of_getElem? (i := 222) (by decide +kernel), by decide +kernel⟩
set_option maxRecDepth 20000 in
theorem wd_223 : Cond.instanceMethod y_P_write ∈ lw_big := List.mem_filter.mpr ⟨List.mem_of_getElem? (i := 223) (by decide +kernel), by decide +kernel⟩
set_option maxRecDepth 20000 in
theorem wd_224 : Cond.selects RX3 y_P_write y_P_write ∈ lw_big := List.mem_filter.mpr ⟨List.mem_of_getElem? (i := 224) (by decide +kernel), by decide +kernel⟩
set_option maxRecDepth 20000 in
theorem wd_225 : k_P_write ∈ lw_big := List.mem_filter.mpr ⟨List.mem_of_getElem? (i := 225) rfl, by decide +kernel⟩
set_option maxRecDepth 20000 in
theorem wd_226 : Cond.methodLink RX3 97 y_P_latestVersion ∈ lw_big := List.mem_filter.mpr ⟨List.mem_of_getElem? (i := 226) (by decide +kernel), by decide +kernel⟩
set_option maxRecDepth 20000 in
theorem wd_228 : Cond.instanceMethod y_P_latestVersion ∈ lw_big := List.mem_filter.mpr ⟨List.mem_of_getElem? (i := 228) (by decide +kernel), by decide +kernel⟩
set_option maxRecDepth 20000 in
theorem wd_229 : k_P_latestVersion ∈ lw_big := List.mem_filter.mpr ⟨List.mem_of_getElem? (i := 229) rfl, by decide +kernel⟩
set_option maxRecDepth 20000 in
theorem wd_230 : Cond.methodLink RX3 101 y_P_isCell ∈ lw_big := List.mem_filter.mpr ⟨List.mem_of_getElem? (i := 230) (by decide +kernel), by decide +kernel⟩
set_option maxRecDepth 20000 in
theorem wd_231 : Cond.static y_P_isCell ∈ lw_big := List.mem_filter.mpr ⟨List.mem_of_getElem? (i := 231) (by decide +kernel), by decide +kernel⟩
set_option maxRecDepth 20000 in
theorem wd_232 : k_P_isCell ∈ lw_big := List.mem_filter.mpr ⟨List.mem_of_getElem? (i := 232) rfl, by decide +kernel⟩
set_option maxRecDepth 20000 in
theorem wd_233 : Cond.methodLink RX3 107 ⟨"[I", "clone", "()Ljava/lang/Object;"⟩ ∈ lw_big := List.mem_filter.mpr ⟨List.mem_of_getElem? (i := 233) (by decide +kernel), by decide +kernel⟩
set_option maxRecDepth 20000 in
theorem wd_234 : Cond.sameMethod "[I" "java/lang/Object" "clone" "()Ljava/lang/Object;" ∈ lw_big := List.mem_filter.mpr ⟨List.mem_of_getElem? (i := 234) (by decide +kernel), by decide +kernel⟩
set_option maxRecDepth 20000 in
theorem wd_235 : Cond.native ⟨"java/lang/Object", "clone", "()Ljava/lang/Object;"⟩ ∈ lw_big := List.mem_filter.mpr ⟨List.mem_of_getElem? (i := 235) (by decide +kernel), by decide +kernel⟩
set_option maxRecDepth 20000 in
theorem wd_236 : Cond.instanceMethod ⟨"java/lang/Object", "clone", "()Ljava/lang/Object;"⟩ ∈ lw_big := List.mem_filter.mpr ⟨List.mem_of_getElem? (i := 236) (by decide +kernel), by decide +kernel⟩
set_option maxRecDepth 20000 in
theorem wd_237 : Cond.selects "[I" ⟨"[I", "clone", "()Ljava/lang/Object;"⟩ ⟨"java/lang/Object", "clone", "()Ljava/lang/Object;"⟩ ∈ lw_big := List.mem_filter.mpr ⟨List.mem_of_getElem? (i := 237) (by decide +kernel), by decide +kernel⟩
set_option maxRecDepth 20000 in
theorem wd_239 : Cond.classLink RX3 108 "[I" ∈ lw_big := List.mem_filter.mpr ⟨List.mem_of_getElem? (i := 239) (by decide +kernel), by decide +kernel⟩
set_option maxRecDepth 20000 in
theorem wd_240 : Cond.methodLink RX3 112 y_P_addVersion ∈ lw_big := List.mem_filter.mpr ⟨List.mem_of_getElem? (i := 240) (by decide +kernel), by decide +kernel⟩
set_option maxRecDepth 20000 in
theorem wd_242 : Cond.instanceMethod y_P_addVersion ∈ lw_big := List.mem_filter.mpr ⟨List.mem_of_getElem? (i := 242) (by decide +kernel), by decide +kernel⟩
set_option maxRecDepth 20000 in
theorem wd_243 : k_P_addVersion ∈ lw_big := List.mem_filter.mpr ⟨List.mem_of_getElem? (i := 243) rfl, by decide +kernel⟩
set_option maxRecDepth 20000 in
theorem wd_244 : Cond.methodLink RL 46 y_P_turnBack ∈ lw_big := List.mem_filter.mpr ⟨List.mem_of_getElem? (i := 244) (by decide +kernel), by decide +kernel⟩
set_option maxRecDepth 20000 in
theorem wd_245 : Cond.instanceMethod y_P_turnBack ∈ lw_big := List.mem_filter.mpr ⟨List.mem_of_getElem? (i := 245) (by decide +kernel), by decide +kernel⟩
set_option maxRecDepth 20000 in
theorem wd_246 : Cond.selects RX3 y_P_turnBack y_P_turnBack ∈ lw_big := List.mem_filter.mpr ⟨List.mem_of_getElem? (i := 246) (by decide +kernel), by decide +kernel⟩
set_option maxRecDepth 20000 in
theorem wd_247 : k_P_turnBack ∈ lw_big := List.mem_filter.mpr ⟨List.mem_of_getElem? (i := 247) rfl, by decide +kernel⟩
set_option maxRecDepth 20000 in
theorem wd_248 : Cond.methodLink RX3 116 y_P_versionAsOf ∈ lw_big := List.mem_filter.mpr ⟨List.mem_of_getElem? (i := 248) (by decide +kernel), by decide +kernel⟩
set_option maxRecDepth 20000 in
theorem wd_249 : Cond.static y_P_versionAsOf ∈ lw_big := List.mem_filter.mpr ⟨List.mem_of_getElem? (i := 249) (by decide +kernel), by decide +kernel⟩
set_option maxRecDepth 20000 in
theorem wd_250 : k_P_versionAsOf ∈ lw_big := List.mem_filter.mpr ⟨List.mem_of_getElem? (i := 250) rfl, by decide +kernel⟩
set_option maxRecDepth 20000 in
theorem wd_251 : Cond.methodLink RL 50 y_P_putBack ∈ lw_big := List.mem_filter.mpr ⟨List.mem_of_getElem? (i := 251) (by decide +kernel), by decide +kernel⟩
set_option maxRecDepth 20000 in
theorem wd_252 : Cond.instanceMethod y_P_putBack ∈ lw_big := List.mem_filter.mpr ⟨List.mem_of_getElem? (i := 252) (by decide +kernel), by decide +kernel⟩
set_option maxRecDepth 20000 in
theorem wd_253 : Cond.selects RX3 y_P_putBack y_P_putBack ∈ lw_big := List.mem_filter.mpr ⟨List.mem_of_getElem? (i := 253) (by decide +kernel), by decide +kernel⟩
set_option maxRecDepth 20000 in
theorem wd_254 : k_P_putBack ∈ lw_big := List.mem_filter.mpr ⟨List.mem_of_getElem? (i := 254) rfl, by decide +kernel⟩
set_option maxRecDepth 20000 in
theorem wd_255 : Cond.methodLink RL 54 y_P_look ∈ lw_big := List.mem_filter.mpr ⟨List.mem_of_getElem? (i := 255) (by decide +kernel), by decide +kernel⟩
set_option maxRecDepth 20000 in
theorem wd_256 : Cond.instanceMethod y_P_look ∈ lw_big := List.mem_filter.mpr ⟨List.mem_of_getElem? (i := 256) (by decide +kernel), by decide +kernel⟩
set_option maxRecDepth 20000 in
theorem wd_257 : Cond.selects RX3 y_P_look y_P_look ∈ lw_big := List.mem_filter.mpr ⟨List.mem_of_getElem? (i := 257) (by decide +kernel), by decide +kernel⟩
set_option maxRecDepth 20000 in
theorem wd_258 : k_P_look ∈ lw_big := List.mem_filter.mpr ⟨List.mem_of_getElem? (i := 258) rfl, by decide +kernel⟩
set_option maxRecDepth 20000 in
theorem wd_259 : Cond.methodLink RL 58 y_P_next ∈ lw_big := List.mem_filter.mpr ⟨List.mem_of_getElem? (i := 259) (by decide +kernel), by decide +kernel⟩
set_option maxRecDepth 20000 in
theorem wd_260 : Cond.instanceMethod y_P_next ∈ lw_big := List.mem_filter.mpr ⟨List.mem_of_getElem? (i := 260) (by decide +kernel), by decide +kernel⟩
set_option maxRecDepth 20000 in
theorem wd_261 : Cond.selects RX3 y_P_next y_P_next ∈ lw_big := List.mem_filter.mpr ⟨List.mem_of_getElem? (i := 261) (by decide +kernel), by decide +kernel⟩
set_option maxRecDepth 20000 in
theorem wd_262 : k_P_next ∈ lw_big := List.mem_filter.mpr ⟨List.mem_of_getElem? (i := 262) rfl, by decide +kernel⟩
set_option maxRecDepth 20000 in
theorem wd_263 : Cond.methodLink RL 62 y_P_read ∈ lw_big := List.mem_filter.mpr ⟨List.mem_of_getElem? (i := 263) (by decide +kernel), by decide +kernel⟩
set_option maxRecDepth 20000 in
theorem wd_264 : Cond.instanceMethod y_P_read ∈ lw_big := List.mem_filter.mpr ⟨List.mem_of_getElem? (i := 264) (by decide +kernel), by decide +kernel⟩
set_option maxRecDepth 20000 in
theorem wd_265 : Cond.selects RX3 y_P_read y_P_read ∈ lw_big := List.mem_filter.mpr ⟨List.mem_of_getElem? (i := 265) (by decide +kernel), by decide +kernel⟩
set_option maxRecDepth 20000 in
theorem wd_266 : k_P_read ∈ lw_big := List.mem_filter.mpr ⟨List.mem_of_getElem? (i := 266) rfl, by decide +kernel⟩
set_option maxRecDepth 20000 in
theorem wd_267 : Cond.constantLong RX3 124 (-1000000000000) ∈ lw_big := List.mem_filter.mpr ⟨List.mem_of_getElem? (i := 267) (by decide +kernel), by decide +kernel⟩
set_option maxRecDepth 20000 in
theorem wd_268 : Cond.constantLong RX3 126 (-2000000000000) ∈ lw_big := List.mem_filter.mpr ⟨List.mem_of_getElem? (i := 268) (by decide +kernel), by decide +kernel⟩
set_option maxRecDepth 20000 in
theorem wd_269 : Cond.methodLink RL 67 y_P_below ∈ lw_big := List.mem_filter.mpr ⟨List.mem_of_getElem? (i := 269) (by decide +kernel), by decide +kernel⟩
set_option maxRecDepth 20000 in
theorem wd_270 : Cond.instanceMethod y_P_below ∈ lw_big := List.mem_filter.mpr ⟨List.mem_of_getElem? (i := 270) (by decide +kernel), by decide +kernel⟩
set_option maxRecDepth 20000 in
theorem wd_271 : Cond.selects RX3 y_P_below y_P_below ∈ lw_big := List.mem_filter.mpr ⟨List.mem_of_getElem? (i := 271) (by decide +kernel), by decide +kernel⟩
set_option maxRecDepth 20000 in
theorem wd_272 : k_P_below ∈ lw_big := List.mem_filter.mpr ⟨List.mem_of_getElem? (i := 272) rfl, by decide +kernel⟩
set_option maxRecDepth 20000 in
theorem wd_273 : Cond.methodLink RL 71 y_P_thin ∈ lw_big := List.mem_filter.mpr ⟨List.mem_of_getElem? (i := 273) (by decide +kernel), by decide +kernel⟩
set_option maxRecDepth 20000 in
theorem wd_274 : Cond.instanceMethod y_P_thin ∈ lw_big := List.mem_filter.mpr ⟨List.mem_of_getElem? (i := 274) (by decide +kernel), by decide +kernel⟩
set_option maxRecDepth 20000 in
theorem wd_275 : Cond.selects RX3 y_P_thin y_P_thin ∈ lw_big := List.mem_filter.mpr ⟨List.mem_of_getElem? (i := 275) (by decide +kernel), by decide +kernel⟩
set_option maxRecDepth 20000 in
theorem wd_276 : k_P_thin ∈ lw_big := List.mem_filter.mpr ⟨List.mem_of_getElem? (i := 276) rfl, by decide +kernel⟩
set_option maxRecDepth 20000 in
theorem wd_277 : Cond.methodLink RX3 128 y_P_makeDurable ∈ lw_big := List.mem_filter.mpr ⟨List.mem_of_getElem? (i := 277) (by decide +kernel), by decide +kernel⟩
set_option maxRecDepth 20000 in
theorem wd_279 : Cond.instanceMethod y_P_makeDurable ∈ lw_big := List.mem_filter.mpr ⟨List.mem_of_getElem? (i := 279) (by decide +kernel), by decide +kernel⟩
set_option maxRecDepth 20000 in
theorem wd_280 : k_P_makeDurable ∈ lw_big := List.mem_filter.mpr ⟨List.mem_of_getElem? (i := 280) rfl, by decide +kernel⟩
set_option maxRecDepth 20000 in
theorem wd_281 : Cond.methodLink RX3 179 y_N_keep ∈ lw_big := List.mem_filter.mpr ⟨List.mem_of_getElem? (i := 281) (by decide +kernel), by decide +kernel⟩
set_option maxRecDepth 20000 in
theorem wd_282 : Cond.instanceMethod y_N_keep ∈ lw_big := List.mem_filter.mpr ⟨List.mem_of_getElem? (i := 282) (by decide +kernel), by decide +kernel⟩
set_option maxRecDepth 20000 in
theorem wd_283 : Cond.selects RX0 y_N_keep y_N_keep ∈ lw_big := List.mem_filter.mpr ⟨List.mem_of_getElem? (i := 283) (by decide +kernel), by decide +kernel⟩
set_option maxRecDepth 20000 in
theorem wd_284 : k_N_keep ∈ lw_big := List.mem_filter.mpr ⟨List.mem_of_getElem? (i := 284) rfl, by decide +kernel⟩
set_option maxRecDepth 20000 in
theorem wd_285 : Cond.methodLink RX3 131 y_P_dropThinned ∈ lw_big := List.mem_filter.mpr ⟨List.mem_of_getElem? (i := 285) (by decide +kernel), by decide +kernel⟩
set_option maxRecDepth 20000 in
theorem wd_287 : Cond.instanceMethod y_P_dropThinned ∈ lw_big := List.mem_filter.mpr ⟨List.mem_of_getElem? (i := 287) (by decide +kernel), by decide +kernel⟩
set_option maxRecDepth 20000 in
theorem wd_288 : k_P_dropThinned ∈ lw_big := List.mem_filter.mpr ⟨List.mem_of_getElem? (i := 288) rfl, by decide +kernel⟩
set_option maxRecDepth 20000 in
theorem wd_289 : Cond.methodLink RL 75 y_P_sync ∈ lw_big := List.mem_filter.mpr ⟨List.mem_of_getElem? (i := 289) (by decide +kernel), by decide +kernel⟩
set_option maxRecDepth 20000 in
theorem wd_290 : Cond.instanceMethod y_P_sync ∈ lw_big := List.mem_filter.mpr ⟨List.mem_of_getElem? (i := 290) (by decide +kernel), by decide +kernel⟩
set_option maxRecDepth 20000 in
theorem wd_291 : Cond.selects RX3 y_P_sync y_P_sync ∈ lw_big := List.mem_filter.mpr ⟨List.mem_of_getElem? (i := 291) (by decide +kernel), by decide +kernel⟩
set_option maxRecDepth 20000 in
theorem wd_292 : k_P_sync ∈ lw_big := List.mem_filter.mpr ⟨List.mem_of_getElem? (i := 292) rfl, by decide +kernel⟩
set_option maxRecDepth 20000 in
theorem wd_293 : Cond.methodLink RL 80 y_P_crash ∈ lw_big := List.mem_filter.mpr ⟨List.mem_of_getElem? (i := 293) (by decide +kernel), by decide +kernel⟩
set_option maxRecDepth 20000 in
theorem wd_294 : Cond.instanceMethod y_P_crash ∈ lw_big := List.mem_filter.mpr ⟨List.mem_of_getElem? (i := 294) (by decide +kernel), by decide +kernel⟩
set_option maxRecDepth 20000 in
theorem wd_295 : Cond.selects RX3 y_P_crash y_P_crash ∈ lw_big := List.mem_filter.mpr ⟨List.mem_of_getElem? (i := 295) (by decide +kernel), by decide +kernel⟩
set_option maxRecDepth 20000 in
theorem wd_296 : k_P_crash ∈ lw_big := List.mem_filter.mpr ⟨List.mem_of_getElem? (i := 296) rfl, by decide +kernel⟩
set_option maxRecDepth 20000 in
theorem wd_297 : Cond.methodLink RX3 135 y_N_goBack ∈ lw_big := List.mem_filter.mpr ⟨List.mem_of_getElem? (i := 297) (by decide +kernel), by decide +kernel⟩
set_option maxRecDepth 20000 in
theorem wd_298 : Cond.instanceMethod y_N_goBack ∈ lw_big := List.mem_filter.mpr ⟨List.mem_of_getElem? (i := 298) (by decide +kernel), by decide +kernel⟩
set_option maxRecDepth 20000 in
theorem wd_299 : Cond.selects RX0 y_N_goBack y_N_goBack ∈ lw_big := List.mem_filter.mpr ⟨List.mem_of_getElem? (i := 299) (by decide +kernel), by decide +kernel⟩
set_option maxRecDepth 20000 in
theorem wd_300 : k_N_goBack ∈ lw_big := List.mem_filter.mpr ⟨List.mem_of_getElem? (i := 300) rfl, by decide +kernel⟩
set_option maxRecDepth 20000 in
theorem wd_301 : Cond.methodLink RL 84 y_P_node ∈ lw_big := List.mem_filter.mpr ⟨List.mem_of_getElem? (i := 301) (by decide +kernel), by decide +kernel⟩
set_option maxRecDepth 20000 in
theorem wd_302 : Cond.instanceMethod y_P_node ∈ lw_big := List.mem_filter.mpr ⟨List.mem_of_getElem? (i := 302) (by decide +kernel), by decide +kernel⟩
set_option maxRecDepth 20000 in
theorem wd_303 : Cond.selects RX3 y_P_node y_P_node ∈ lw_big := List.mem_filter.mpr ⟨List.mem_of_getElem? (i := 303) (by decide +kernel), by decide +kernel⟩
set_option maxRecDepth 20000 in
theorem wd_304 : k_P_node ∈ lw_big := List.mem_filter.mpr ⟨List.mem_of_getElem? (i := 304) rfl, by decide +kernel⟩
set_option maxRecDepth 20000 in
theorem wd_305 : Cond.methodLink RX3 138 y_P_kindOf ∈ lw_big := List.mem_filter.mpr ⟨List.mem_of_getElem? (i := 305) (by decide +kernel), by decide +kernel⟩
set_option maxRecDepth 20000 in
theorem wd_307 : Cond.instanceMethod y_P_kindOf ∈ lw_big := List.mem_filter.mpr ⟨List.mem_of_getElem? (i := 307) (by decide +kernel), by decide +kernel⟩
set_option maxRecDepth 20000 in
theorem wd_308 : k_P_kindOf ∈ lw_big := List.mem_filter.mpr ⟨List.mem_of_getElem? (i := 308) rfl, by decide +kernel⟩
set_option maxRecDepth 20000 in
theorem wd_309 : Cond.methodLink RX3 147 y_P_countGone ∈ lw_big := List.mem_filter.mpr ⟨List.mem_of_getElem? (i := 309) (by decide +kernel), by decide +kernel⟩
set_option maxRecDepth 20000 in
theorem wd_310 : Cond.static y_P_countGone ∈ lw_big := List.mem_filter.mpr ⟨List.mem_of_getElem? (i := 310) (by decide +kernel), by decide +kernel⟩
set_option maxRecDepth 20000 in
theorem wd_311 : k_P_countGone ∈ lw_big := List.mem_filter.mpr ⟨List.mem_of_getElem? (i := 311) rfl, by decide +kernel⟩
set_option maxRecDepth 20000 in
theorem wd_312 : Cond.methodLink RL 88 y_P_versionTime ∈ lw_big := List.mem_filter.mpr ⟨List.mem_of_getElem? (i := 312) (by decide +kernel), by decide +kernel⟩
set_option maxRecDepth 20000 in
theorem wd_313 : Cond.instanceMethod y_P_versionTime ∈ lw_big := List.mem_filter.mpr ⟨List.mem_of_getElem? (i := 313) (by decide +kernel), by decide +kernel⟩
set_option maxRecDepth 20000 in
theorem wd_314 : Cond.selects RX3 y_P_versionTime y_P_versionTime ∈ lw_big := List.mem_filter.mpr ⟨List.mem_of_getElem? (i := 314) (by decide +kernel), by decide +kernel⟩
set_option maxRecDepth 20000 in
theorem wd_315 : k_P_versionTime ∈ lw_big := List.mem_filter.mpr ⟨List.mem_of_getElem? (i := 315) rfl, by decide +kernel⟩
set_option maxRecDepth 20000 in
theorem wd_316 : Cond.methodLink RL 92 y_P_count ∈ lw_big := List.mem_filter.mpr ⟨List.mem_of_getElem? (i := 316) (by decide +kernel), by decide +kernel⟩
set_option maxRecDepth 20000 in
theorem wd_317 : Cond.instanceMethod y_P_count ∈ lw_big := List.mem_filter.mpr ⟨List.mem_of_getElem? (i := 317) (by decide +kernel), by decide +kernel⟩
set_option maxRecDepth 20000 in
theorem wd_318 : Cond.selects RX3 y_P_count y_P_count ∈ lw_big := List.mem_filter.mpr ⟨List.mem_of_getElem? (i := 318) (by decide +kernel), by decide +kernel⟩
set_option maxRecDepth 20000 in
theorem wd_319 : k_P_count ∈ lw_big := List.mem_filter.mpr ⟨List.mem_of_getElem? (i := 319) rfl, by decide +kernel⟩
set_option maxRecDepth 20000 in
theorem wd_320 : Cond.methodLink RL 9 y_L_cell ∈ lw_big := List.mem_filter.mpr ⟨List.mem_of_getElem? (i := 320) (by decide +kernel), by decide +kernel⟩
set_option maxRecDepth 20000 in
theorem wd_321 : Cond.static y_L_cell ∈ lw_big := List.mem_filter.mpr ⟨List.mem_of_getElem? (i := 321) (by decide +kernel), by decide +kernel⟩
set_option maxRecDepth 20000 in
theorem wd_322 : k_L_cell ∈ lw_big := List.mem_filter.mpr ⟨List.mem_of_getElem? (i := 322) rfl, by decide +kernel⟩
set_option maxRecDepth 20000 in
theorem wd_323 : Cond.classLink RL 18 RX4 ∈ lw_big := List.mem_filter.mpr ⟨List.mem_of_getElem? (i := 323) (by decide +kernel), by decide +kernel⟩
set_option maxRecDepth 20000 in
theorem wd_324 : Cond.instantiable RX4 18 ∈ lw_big := List.mem_filter.mpr ⟨List.mem_of_getElem? (i := 324) (by decide +kernel), by decide +kernel⟩
set_option maxRecDepth 20000 in
theorem wd_325 : Cond.methodLink RL 20 y_T_init ∈ lw_big := List.mem_filter.mpr ⟨List.mem_of_getElem? (i := 325) (by decide +kernel), by decide +kernel⟩
set_option maxRecDepth 20000 in
theorem wd_326 : Cond.instanceMethod y_T_init ∈ lw_big := List.mem_filter.mpr ⟨List.mem_of_getElem? (i := 326) (by decide +kernel), by decide +kernel⟩
set_option maxRecDepth 20000 in
theorem wd_327 : k_T_init ∈ lw_big := List.mem_filter.mpr ⟨List.mem_of_getElem? (i := 327) rfl, by decide +kernel⟩
set_option maxRecDepth 20000 in
theorem wd_328 : Cond.methodLink RX4 1 objectInit ∈ lw_big := List.mem_filter.mpr ⟨List.mem_of_getElem? (i := 328) (by decide +kernel), by decide +kernel⟩
set_option maxRecDepth 20000 in
theorem wd_329 : Cond.fieldLink RX4 44 "PastTreeModel" "window" "I" ∈ lw_big := List.mem_filter.mpr ⟨List.mem_of_getElem? (i := 329) (by decide +kernel), by decide +kernel⟩
set_option maxRecDepth 20000 in
theorem wd_330 : Cond.fieldLink RX4 48 "PastTreeModel" "gap" "I" ∈ lw_big := List.mem_filter.mpr ⟨List.mem_of_getElem? (i := 330) (by decide +kernel), by decide +kernel⟩
set_option maxRecDepth 20000 in
theorem wd_331 : Cond.fieldLink RX4 7 "PastTreeModel" "when" "[I" ∈ lw_big := List.mem_filter.mpr ⟨List.mem_of_getElem? (i := 331) (by decide +kernel), by decide +kernel⟩
set_option maxRecDepth 20000 in
theorem wd_332 : Cond.fieldLink RX4 13 "PastTreeModel" "set" "[I" ∈ lw_big := List.mem_filter.mpr ⟨List.mem_of_getElem? (i := 332) (by decide +kernel), by decide +kernel⟩
set_option maxRecDepth 20000 in
theorem wd_333 : Cond.fieldLink RX4 16 "PastTreeModel" "node" "[I" ∈ lw_big := List.mem_filter.mpr ⟨List.mem_of_getElem? (i := 333) (by decide +kernel), by decide +kernel⟩
set_option maxRecDepth 20000 in
theorem wd_334 : Cond.fieldLink RX4 19 "PastTreeModel" "unset" "[I" ∈ lw_big := List.mem_filter.mpr ⟨List.mem_of_getElem? (i := 334) (by decide +kernel), by decide +kernel⟩
set_option maxRecDepth 20000 in
theorem wd_335 : Cond.fieldLink RX4 22 "PastTreeModel" "file" "[I" ∈ lw_big := List.mem_filter.mpr ⟨List.mem_of_getElem? (i := 335) (by decide +kernel), by decide +kernel⟩
set_option maxRecDepth 20000 in
theorem wd_336 : Cond.fieldLink RX4 25 "PastTreeModel" "made" "[I" ∈ lw_big := List.mem_filter.mpr ⟨List.mem_of_getElem? (i := 336) (by decide +kernel), by decide +kernel⟩
set_option maxRecDepth 20000 in
theorem wd_337 : Cond.fieldLink RX4 28 "PastTreeModel" "cell" "[I" ∈ lw_big := List.mem_filter.mpr ⟨List.mem_of_getElem? (i := 337) (by decide +kernel), by decide +kernel⟩
set_option maxRecDepth 20000 in
theorem wd_338 : Cond.fieldLink RX4 51 "PastTreeModel" "changes" "I" ∈ lw_big := List.mem_filter.mpr ⟨List.mem_of_getElem? (i := 338) (by decide +kernel), by decide +kernel⟩
set_option maxRecDepth 20000 in
theorem wd_339 : Cond.fieldLink RX4 121 "PastTreeModel" "durable" "I" ∈ lw_big := List.mem_filter.mpr ⟨List.mem_of_getElem? (i := 339) (by decide +kernel), by decide +kernel⟩
set_option maxRecDepth 20000 in
theorem wd_340 : Cond.fieldLink RX4 58 "PastTreeModel" "clock" "I" ∈ lw_big := List.mem_filter.mpr ⟨List.mem_of_getElem? (i := 340) (by decide +kernel), by decide +kernel⟩
set_option maxRecDepth 20000 in
theorem wd_341 : Cond.fieldLink RX4 124 "PastTreeModel" "durableClock" "I" ∈ lw_big := List.mem_filter.mpr ⟨List.mem_of_getElem? (i := 341) (by decide +kernel), by decide +kernel⟩
set_option maxRecDepth 20000 in
theorem wd_342 : Cond.fieldLink RX4 31 "PastTreeModel" "goneFile" "[I" ∈ lw_big := List.mem_filter.mpr ⟨List.mem_of_getElem? (i := 342) (by decide +kernel), by decide +kernel⟩
set_option maxRecDepth 20000 in
theorem wd_343 : Cond.fieldLink RX4 34 "PastTreeModel" "goneTime" "[I" ∈ lw_big := List.mem_filter.mpr ⟨List.mem_of_getElem? (i := 343) (by decide +kernel), by decide +kernel⟩
set_option maxRecDepth 20000 in
theorem wd_344 : Cond.fieldLink RX4 61 "PastTreeModel" "gone" "I" ∈ lw_big := List.mem_filter.mpr ⟨List.mem_of_getElem? (i := 344) (by decide +kernel), by decide +kernel⟩
set_option maxRecDepth 20000 in
theorem wd_345 : Cond.fieldLink RX4 37 "PastTreeModel" "entry" "[I" ∈ lw_big := List.mem_filter.mpr ⟨List.mem_of_getElem? (i := 345) (by decide +kernel), by decide +kernel⟩
set_option maxRecDepth 20000 in
theorem wd_346 : Cond.fieldLink RX4 40 "PastTreeModel" "reached" "[Z" ∈ lw_big := List.mem_filter.mpr ⟨List.mem_of_getElem? (i := 346) (by decide +kernel), by decide +kernel⟩
set_option maxRecDepth 20000 in
theorem wd_384 : Cond.arrayClass .boolean ∈ lw_big := List.mem_filter.mpr ⟨List.mem_of_getElem? (i := 384) (by decide +kernel), by decide +kernel⟩
set_option maxRecDepth 20000 in
theorem wd_385 : Cond.methodLink RL 25 y_T_tick ∈ lw_big := List.mem_filter.mpr ⟨List.mem_of_getElem? (i := 385) (by decide +kernel), by decide +kernel⟩
set_option maxRecDepth 20000 in
theorem wd_386 : Cond.instanceMethod y_T_tick ∈ lw_big := List.mem_filter.mpr ⟨List.mem_of_getElem? (i := 386) (by decide +kernel), by decide +kernel⟩
set_option maxRecDepth 20000 in
theorem wd_387 : Cond.selects RX4 y_T_tick y_T_tick ∈ lw_big := List.mem_filter.mpr ⟨List.mem_of_getElem? (i := 387) (by decide +kernel), by decide +kernel⟩
set_option maxRecDepth 20000 in
theorem wd_388 : k_T_tick ∈ lw_big := List.mem_filter.mpr ⟨List.mem_of_getElem? (i := 388) rfl, by decide +kernel⟩
set_option maxRecDepth 20000 in
theorem wd_389 : Cond.methodLink RX4 68 y_T_isin ∈ lw_big := List.mem_filter.mpr ⟨List.mem_of_getElem? (i := 389) (by decide +kernel), by decide +kernel⟩
set_option maxRecDepth 20000 in
theorem wd_390 : Cond.static y_T_isin ∈ lw_big := List.mem_filter.mpr ⟨List.mem_of_getElem? (i := 390) (by decide +kernel), by decide +kernel⟩
set_option maxRecDepth 20000 in
theorem wd_391 : k_T_isin ∈ lw_big := List.mem_filter.mpr ⟨List.mem_of_getElem? (i := 391) rfl, by decide +kernel⟩
set_option maxRecDepth 20000 in
theorem wd_392 : Cond.methodLink RL 30 y_T_make ∈ lw_big := List.mem_filter.mpr ⟨List.mem_of_getElem? (i := 392) (by decide +kernel), by decide +kernel⟩
set_option maxRecDepth 20000 in
theorem wd_393 : Cond.instanceMethod y_T_make ∈ lw_big := List.mem_filter.mpr ⟨List.mem_of_getElem? (i := 393) (by decide +kernel), by decide +kernel⟩
set_option maxRecDepth 20000 in
theorem wd_394 : Cond.selects RX4 y_T_make y_T_make ∈ lw_big := List.mem_filter.mpr ⟨List.mem_of_getElem? (i := 394) (by decide +kernel), by decide +kernel⟩
set_option maxRecDepth 20000 in
theorem wd_395 : k_T_make ∈ lw_big := List.mem_filter.mpr ⟨List.mem_of_getElem? (i := 395) rfl, by decide +kernel⟩
set_option maxRecDepth 20000 in
theorem wd_396 : Cond.methodLink RX4 72 y_T_asOf ∈ lw_big := List.mem_filter.mpr ⟨List.mem_of_getElem? (i := 396) (by decide +kernel), by decide +kernel⟩
set_option maxRecDepth 20000 in
theorem wd_398 : Cond.instanceMethod y_T_asOf ∈ lw_big := List.mem_filter.mpr ⟨List.mem_of_getElem? (i := 398) (by decide +kernel), by decide +kernel⟩
set_option maxRecDepth 20000 in
theorem wd_399 : k_T_asOf ∈ lw_big := List.mem_filter.mpr ⟨List.mem_of_getElem? (i := 399) rfl, by decide +kernel⟩
set_option maxRecDepth 20000 in
theorem wd_400 : Cond.methodLink RX4 76 y_T_kind ∈ lw_big := List.mem_filter.mpr ⟨List.mem_of_getElem? (i := 400) (by decide +kernel), by decide +kernel⟩
set_option maxRecDepth 20000 in
theorem wd_402 : Cond.instanceMethod y_T_kind ∈ lw_big := List.mem_filter.mpr ⟨List.mem_of_getElem? (i := 402) (by decide +kernel), by decide +kernel⟩
set_option maxRecDepth 20000 in
theorem wd_403 : k_T_kind ∈ lw_big := List.mem_filter.mpr ⟨List.mem_of_getElem? (i := 403) rfl, by decide +kernel⟩
set_option maxRecDepth 20000 in
theorem wd_404 : Cond.methodLink RX4 80 y_T_opn ∈ lw_big := List.mem_filter.mpr ⟨List.mem_of_getElem? (i := 404) (by decide +kernel), by decide +kernel⟩
set_option maxRecDepth 20000 in
theorem wd_406 : Cond.instanceMethod y_T_opn ∈ lw_big := List.mem_filter.mpr ⟨List.mem_of_getElem? (i := 406) (by decide +kernel), by decide +kernel⟩
set_option maxRecDepth 20000 in
theorem wd_407 : k_T_opn ∈ lw_big := List.mem_filter.mpr ⟨List.mem_of_getElem? (i := 407) rfl, by decide +kernel⟩
set_option maxRecDepth 20000 in
theorem wd_408 : Cond.methodLink RX4 54 y_T_placed ∈ lw_big := List.mem_filter.mpr ⟨List.mem_of_getElem? (i := 408) (by decide +kernel), by decide +kernel⟩
set_option maxRecDepth 20000 in
theorem wd_410 : Cond.instanceMethod y_T_placed ∈ lw_big := List.mem_filter.mpr ⟨List.mem_of_getElem? (i := 410) (by decide +kernel), by decide +kernel⟩
set_option maxRecDepth 20000 in
theorem wd_411 : k_T_placed ∈ lw_big := List.mem_filter.mpr ⟨List.mem_of_getElem? (i := 411) rfl, by decide +kernel⟩
set_option maxRecDepth 20000 in
theorem wd_412 : Cond.methodLink RX4 83 y_T_nodes ∈ lw_big := List.mem_filter.mpr ⟨List.mem_of_getElem? (i := 412) (by decide +kernel), by decide +kernel⟩
set_option maxRecDepth 20000 in
theorem wd_414 : Cond.instanceMethod y_T_nodes ∈ lw_big := List.mem_filter.mpr ⟨List.mem_of_getElem? (i := 414) (by decide +kernel), by decide +kernel⟩
set_option maxRecDepth 20000 in
theorem wd_415 : k_T_nodes ∈ lw_big := List.mem_filter.mpr ⟨List.mem_of_getElem? (i := 415) rfl, by decide +kernel⟩
set_option maxRecDepth 20000 in
theorem wd_416 : Cond.methodLink RX4 87 y_T_change ∈ lw_big := List.mem_filter.mpr ⟨List.mem_of_getElem? (i := 416) (by decide +kernel), by decide +kernel⟩
set_option maxRecDepth 20000 in
theorem wd_418 : Cond.instanceMethod y_T_change ∈ lw_big := List.mem_filter.mpr ⟨List.mem_of_getElem? (i := 418) (by decide +kernel), by decide +kernel⟩
set_option maxRecDepth 20000 in
theorem wd_419 : k_T_change ∈ lw_big := List.mem_filter.mpr ⟨List.mem_of_getElem? (i := 419) rfl, by decide +kernel⟩
set_option maxRecDepth 20000 in
theorem wd_420 : Cond.methodLink RX4 91 y_T_copyCells ∈ lw_big := List.mem_filter.mpr ⟨List.mem_of_getElem? (i := 420) (by decide +kernel), by decide +kernel⟩
set_option maxRecDepth 20000 in
theorem wd_422 : Cond.instanceMethod y_T_copyCells ∈ lw_big := List.mem_filter.mpr ⟨List.mem_of_getElem? (i := 422) (by decide +kernel), by decide +kernel⟩
set_option maxRecDepth 20000 in
theorem wd_423 : k_T_copyCells ∈ lw_big := List.mem_filter.mpr ⟨List.mem_of_getElem? (i := 423) rfl, by decide +kernel⟩
set_option maxRecDepth 20000 in
theorem wd_424 : Cond.methodLink RL 35 y_T_remove ∈ lw_big := List.mem_filter.mpr ⟨List.mem_of_getElem? (i := 424) (by decide +kernel), by decide +kernel⟩
set_option maxRecDepth 20000 in
theorem wd_425 : Cond.instanceMethod y_T_remove ∈ lw_big := List.mem_filter.mpr ⟨List.mem_of_getElem? (i := 425) (by decide +kernel), by decide +kernel⟩
set_option maxRecDepth 20000 in
theorem wd_426 : Cond.selects RX4 y_T_remove y_T_remove ∈ lw_big := List.mem_filter.mpr ⟨List.mem_of_getElem? (i := 426) (by decide +kernel), by decide +kernel⟩
set_option maxRecDepth 20000 in
theorem wd_427 : k_T_remove ∈ lw_big := List.mem_filter.mpr ⟨List.mem_of_getElem? (i := 427) rfl, by decide +kernel⟩
set_option maxRecDepth 20000 in
theorem wd_428 : Cond.methodLink RX4 95 y_T_hasEntries ∈ lw_big := List.mem_filter.mpr ⟨List.mem_of_getElem? (i := 428) (by decide +kernel), by decide +kernel⟩
set_option maxRecDepth 20000 in
theorem wd_430 : Cond.instanceMethod y_T_hasEntries ∈ lw_big := List.mem_filter.mpr ⟨List.mem_of_getElem? (i := 430) (by decide +kernel), by decide +kernel⟩
set_option maxRecDepth 20000 in
theorem wd_431 : k_T_hasEntries ∈ lw_big := List.mem_filter.mpr ⟨List.mem_of_getElem? (i := 431) rfl, by decide +kernel⟩
set_option maxRecDepth 20000 in
theorem wd_432 : Cond.methodLink RL 40 y_T_move ∈ lw_big := List.mem_filter.mpr ⟨List.mem_of_getElem? (i := 432) (by decide +kernel), by decide +kernel⟩
set_option maxRecDepth 20000 in
theorem wd_433 : Cond.instanceMethod y_T_move ∈ lw_big := List.mem_filter.mpr ⟨List.mem_of_getElem? (i := 433) (by decide +kernel), by decide +kernel⟩
set_option maxRecDepth 20000 in
theorem wd_434 : Cond.selects RX4 y_T_move y_T_move ∈ lw_big := List.mem_filter.mpr ⟨List.mem_of_getElem? (i := 434) (by decide +kernel), by decide +kernel⟩
set_option maxRecDepth 20000 in
theorem wd_435 : k_T_move ∈ lw_big := List.mem_filter.mpr ⟨List.mem_of_getElem? (i := 435) rfl, by decide +kernel⟩
set_option maxRecDepth 20000 in
theorem wd_436 : Cond.methodLink RX4 98 y_T_reach ∈ lw_big := List.mem_filter.mpr ⟨List.mem_of_getElem? (i := 436) (by decide +kernel), by decide +kernel⟩
set_option maxRecDepth 20000 in
theorem wd_438 : Cond.instanceMethod y_T_reach ∈ lw_big := List.mem_filter.mpr ⟨List.mem_of_getElem? (i := 438) (by decide +kernel), by decide +kernel⟩
set_option maxRecDepth 20000 in
theorem wd_439 : k_T_reach ∈ lw_big := List.mem_filter.mpr ⟨List.mem_of_getElem? (i := 439) rfl, by decide +kernel⟩
set_option maxRecDepth 20000 in
theorem wd_440 : Cond.methodLink RL 45 y_T_write ∈ lw_big := List.mem_filter.mpr ⟨List.mem_of_getElem? (i := 440) (by decide +kernel), by decide +kernel⟩
set_option maxRecDepth 20000 in
theorem wd_441 : Cond.instanceMethod y_T_write ∈ lw_big := List.mem_filter.mpr ⟨List.mem_of_getElem? (i := 441) (by decide +kernel), by decide +kernel⟩
set_option maxRecDepth 20000 in
theorem wd_442 : Cond.selects RX4 y_T_write y_T_write ∈ lw_big := List.mem_filter.mpr ⟨List.mem_of_getElem? (i := 442) (by decide +kernel), by decide +kernel⟩
set_option maxRecDepth 20000 in
theorem wd_443 : k_T_write ∈ lw_big := List.mem_filter.mpr ⟨List.mem_of_getElem? (i := 443) rfl, by decide +kernel⟩
set_option maxRecDepth 20000 in
theorem wd_444 : Cond.methodLink RX4 101 y_T_version ∈ lw_big := List.mem_filter.mpr ⟨List.mem_of_getElem? (i := 444) (by decide +kernel), by decide +kernel⟩
set_option maxRecDepth 20000 in
theorem wd_446 : Cond.instanceMethod y_T_version ∈ lw_big := List.mem_filter.mpr ⟨List.mem_of_getElem? (i := 446) (by decide +kernel), by decide +kernel⟩
set_option maxRecDepth 20000 in
theorem wd_447 : k_T_version ∈ lw_big := List.mem_filter.mpr ⟨List.mem_of_getElem? (i := 447) rfl, by decide +kernel⟩
set_option maxRecDepth 20000 in
theorem wd_448 : Cond.methodLink RX4 104 y_T_versions ∈ lw_big := List.mem_filter.mpr ⟨List.mem_of_getElem? (i := 448) (by decide +kernel), by decide +kernel⟩
set_option maxRecDepth 20000 in
theorem wd_450 : Cond.instanceMethod y_T_versions ∈ lw_big := List.mem_filter.mpr ⟨List.mem_of_getElem? (i := 450) (by decide +kernel), by decide +kernel⟩
set_option maxRecDepth 20000 in
theorem wd_451 : k_T_versions ∈ lw_big := List.mem_filter.mpr ⟨List.mem_of_getElem? (i := 451) rfl, by decide +kernel⟩
set_option maxRecDepth 20000 in
theorem wd_452 : Cond.methodLink RX4 64 y_T_timeOf ∈ lw_big := List.mem_filter.mpr ⟨List.mem_of_getElem? (i := 452) (by decide +kernel), by decide +kernel⟩
set_option maxRecDepth 20000 in
theorem wd_454 : Cond.instanceMethod y_T_timeOf ∈ lw_big := List.mem_filter.mpr ⟨List.mem_of_getElem? (i := 454) (by decide +kernel), by decide +kernel⟩
set_option maxRecDepth 20000 in
theorem wd_455 : k_T_timeOf ∈ lw_big := List.mem_filter.mpr ⟨List.mem_of_getElem? (i := 455) rfl, by decide +kernel⟩
set_option maxRecDepth 20000 in
theorem wd_456 : Cond.methodLink RL 49 y_T_turnBack ∈ lw_big := List.mem_filter.mpr ⟨List.mem_of_getElem? (i := 456) (by decide +kernel), by decide +kernel⟩
set_option maxRecDepth 20000 in
theorem wd_457 : Cond.instanceMethod y_T_turnBack ∈ lw_big := List.mem_filter.mpr ⟨List.mem_of_getElem? (i := 457) (by decide +kernel), by decide +kernel⟩
set_option maxRecDepth 20000 in
theorem wd_458 : Cond.selects RX4 y_T_turnBack y_T_turnBack ∈ lw_big := List.mem_filter.mpr ⟨List.mem_of_getElem? (i := 458) (by decide +kernel), by decide +kernel⟩
set_option maxRecDepth 20000 in
theorem wd_459 : k_T_turnBack ∈ lw_big := List.mem_filter.mpr ⟨List.mem_of_getElem? (i := 459) rfl, by decide +kernel⟩
set_option maxRecDepth 20000 in
theorem wd_460 : Cond.methodLink RX4 107 y_T_isGone ∈ lw_big := List.mem_filter.mpr ⟨List.mem_of_getElem? (i := 460) (by decide +kernel), by decide +kernel⟩
set_option maxRecDepth 20000 in
theorem wd_462 : Cond.instanceMethod y_T_isGone ∈ lw_big := List.mem_filter.mpr ⟨List.mem_of_getElem? (i := 462) (by decide +kernel), by decide +kernel⟩
set_option maxRecDepth 20000 in
theorem wd_463 : k_T_isGone ∈ lw_big := List.mem_filter.mpr ⟨List.mem_of_getElem? (i := 463) rfl, by decide +kernel⟩
set_option maxRecDepth 20000 in
theorem wd_464 : Cond.methodLink RL 53 y_T_putBack ∈ lw_big := List.mem_filter.mpr ⟨List.mem_of_getElem? (i := 464) (by decide +kernel), by decide +kernel⟩
set_option maxRecDepth 20000 in
theorem wd_465 : Cond.instanceMethod y_T_putBack ∈ lw_big := List.mem_filter.mpr ⟨List.mem_of_getElem? (i := 465) (by decide +kernel), by decide +kernel⟩
set_option maxRecDepth 20000 in
theorem wd_466 : Cond.selects RX4 y_T_putBack y_T_putBack ∈ lw_big := List.mem_filter.mpr ⟨List.mem_of_getElem? (i := 466) (by decide +kernel), by decide +kernel⟩
set_option maxRecDepth 20000 in
theorem wd_467 : k_T_putBack ∈ lw_big := List.mem_filter.mpr ⟨List.mem_of_getElem? (i := 467) rfl, by decide +kernel⟩
set_option maxRecDepth 20000 in
theorem wd_468 : Cond.methodLink RX4 110 y_T_asked ∈ lw_big := List.mem_filter.mpr ⟨List.mem_of_getElem? (i := 468) (by decide +kernel), by decide +kernel⟩
set_option maxRecDepth 20000 in
theorem wd_470 : Cond.instanceMethod y_T_asked ∈ lw_big := List.mem_filter.mpr ⟨List.mem_of_getElem? (i := 470) (by decide +kernel), by decide +kernel⟩
set_option maxRecDepth 20000 in
theorem wd_471 : k_T_asked ∈ lw_big := List.mem_filter.mpr ⟨List.mem_of_getElem? (i := 471) rfl, by decide +kernel⟩
set_option maxRecDepth 20000 in
theorem wd_472 : Cond.methodLink RL 57 y_T_look ∈ lw_big := List.mem_filter.mpr ⟨List.mem_of_getElem? (i := 472) (by decide +kernel), by decide +kernel⟩
set_option maxRecDepth 20000 in
theorem wd_473 : Cond.instanceMethod y_T_look ∈ lw_big := List.mem_filter.mpr ⟨List.mem_of_getElem? (i := 473) (by decide +kernel), by decide +kernel⟩
set_option maxRecDepth 20000 in
theorem wd_474 : Cond.selects RX4 y_T_look y_T_look ∈ lw_big := List.mem_filter.mpr ⟨List.mem_of_getElem? (i := 474) (by decide +kernel), by decide +kernel⟩
set_option maxRecDepth 20000 in
theorem wd_475 : k_T_look ∈ lw_big := List.mem_filter.mpr ⟨List.mem_of_getElem? (i := 475) rfl, by decide +kernel⟩
set_option maxRecDepth 20000 in
theorem wd_476 : Cond.methodLink RL 61 y_T_next ∈ lw_big := List.mem_filter.mpr ⟨List.mem_of_getElem? (i := 476) (by decide +kernel), by decide +kernel⟩
set_option maxRecDepth 20000 in
theorem wd_477 : Cond.instanceMethod y_T_next ∈ lw_big := List.mem_filter.mpr ⟨List.mem_of_getElem? (i := 477) (by decide +kernel), by decide +kernel⟩
set_option maxRecDepth 20000 in
theorem wd_478 : Cond.selects RX4 y_T_next y_T_next ∈ lw_big := List.mem_filter.mpr ⟨List.mem_of_getElem? (i := 478) (by decide +kernel), by decide +kernel⟩
set_option maxRecDepth 20000 in
theorem wd_479 : k_T_next ∈ lw_big := List.mem_filter.mpr ⟨List.mem_of_getElem? (i := 479) rfl, by decide +kernel⟩
set_option maxRecDepth 20000 in
theorem wd_480 : Cond.methodLink RL 66 y_T_read ∈ lw_big := List.mem_filter.mpr ⟨List.mem_of_getElem? (i := 480) (by decide +kernel), by decide +kernel⟩
set_option maxRecDepth 20000 in
theorem wd_481 : Cond.instanceMethod y_T_read ∈ lw_big := List.mem_filter.mpr ⟨List.mem_of_getElem? (i := 481) (by decide +kernel), by decide +kernel⟩
set_option maxRecDepth 20000 in
theorem wd_482 : Cond.selects RX4 y_T_read y_T_read ∈ lw_big := List.mem_filter.mpr ⟨List.mem_of_getElem? (i := 482) (by decide +kernel), by decide +kernel⟩
set_option maxRecDepth 20000 in
theorem wd_483 : k_T_read ∈ lw_big := List.mem_filter.mpr ⟨List.mem_of_getElem? (i := 483) rfl, by decide +kernel⟩
set_option maxRecDepth 20000 in
theorem wd_484 : Cond.constantLong RX4 114 (-1000000000000) ∈ lw_big := List.mem_filter.mpr ⟨List.mem_of_getElem? (i := 484) (by decide +kernel), by decide +kernel⟩
set_option maxRecDepth 20000 in
theorem wd_485 : Cond.constantLong RX4 116 (-2000000000000) ∈ lw_big := List.mem_filter.mpr ⟨List.mem_of_getElem? (i := 485) (by decide +kernel), by decide +kernel⟩
set_option maxRecDepth 20000 in
theorem wd_486 : Cond.methodLink RL 70 y_T_below ∈ lw_big := List.mem_filter.mpr ⟨List.mem_of_getElem? (i := 486) (by decide +kernel), by decide +kernel⟩
set_option maxRecDepth 20000 in
theorem wd_487 : Cond.instanceMethod y_T_below ∈ lw_big := List.mem_filter.mpr ⟨List.mem_of_getElem? (i := 487) (by decide +kernel), by decide +kernel⟩
set_option maxRecDepth 20000 in
theorem wd_488 : Cond.selects RX4 y_T_below y_T_below ∈ lw_big := List.mem_filter.mpr ⟨List.mem_of_getElem? (i := 488) (by decide +kernel), by decide +kernel⟩
set_option maxRecDepth 20000 in
theorem wd_489 : k_T_below ∈ lw_big := List.mem_filter.mpr ⟨List.mem_of_getElem? (i := 489) rfl, by decide +kernel⟩
set_option maxRecDepth 20000 in
theorem wd_490 : Cond.methodLink RL 74 y_T_thin ∈ lw_big := List.mem_filter.mpr ⟨List.mem_of_getElem? (i := 490) (by decide +kernel), by decide +kernel⟩
set_option maxRecDepth 20000 in
theorem wd_491 : Cond.instanceMethod y_T_thin ∈ lw_big := List.mem_filter.mpr ⟨List.mem_of_getElem? (i := 491) (by decide +kernel), by decide +kernel⟩
set_option maxRecDepth 20000 in
theorem wd_492 : Cond.selects RX4 y_T_thin y_T_thin ∈ lw_big := List.mem_filter.mpr ⟨List.mem_of_getElem? (i := 492) (by decide +kernel), by decide +kernel⟩
set_option maxRecDepth 20000 in
theorem wd_493 : k_T_thin ∈ lw_big := List.mem_filter.mpr ⟨List.mem_of_getElem? (i := 493) rfl, by decide +kernel⟩
set_option maxRecDepth 20000 in
theorem wd_494 : Cond.methodLink RX4 118 y_T_sync ∈ lw_big := List.mem_filter.mpr ⟨List.mem_of_getElem? (i := 494) (by decide +kernel), by decide +kernel⟩
set_option maxRecDepth 20000 in
theorem wd_495 : Cond.instanceMethod y_T_sync ∈ lw_big := List.mem_filter.mpr ⟨List.mem_of_getElem? (i := 495) (by decide +kernel), by decide +kernel⟩
set_option maxRecDepth 20000 in
theorem wd_496 : Cond.selects RX4 y_T_sync y_T_sync ∈ lw_big := List.mem_filter.mpr ⟨List.mem_of_getElem? (i := 496) (by decide +kernel), by decide +kernel⟩
set_option maxRecDepth 20000 in
theorem wd_497 : k_T_sync ∈ lw_big := List.mem_filter.mpr ⟨List.mem_of_getElem? (i := 497) rfl, by decide +kernel⟩
set_option maxRecDepth 20000 in
theorem wd_498 : Cond.methodLink RL 79 y_T_sync ∈ lw_big := List.mem_filter.mpr ⟨List.mem_of_getElem? (i := 498) (by decide +kernel), by decide +kernel⟩
set_option maxRecDepth 20000 in
theorem wd_499 : Cond.methodLink RL 83 y_T_crash ∈ lw_big := List.mem_filter.mpr ⟨List.mem_of_getElem? (i := 499) (by decide +kernel), by decide +kernel⟩
set_option maxRecDepth 20000 in
theorem wd_500 : Cond.instanceMethod y_T_crash ∈ lw_big := List.mem_filter.mpr ⟨List.mem_of_getElem? (i := 500) (by decide +kernel), by decide +kernel⟩
set_option maxRecDepth 20000 in
theorem wd_501 : Cond.selects RX4 y_T_crash y_T_crash ∈ lw_big := List.mem_filter.mpr ⟨List.mem_of_getElem? (i := 501) (by decide +kernel), by decide +kernel⟩
set_option maxRecDepth 20000 in
theorem wd_502 : k_T_crash ∈ lw_big := List.mem_filter.mpr ⟨List.mem_of_getElem? (i := 502) rfl, by decide +kernel⟩
set_option maxRecDepth 20000 in
theorem wd_503 : Cond.methodLink RL 87 y_T_node ∈ lw_big := List.mem_filter.mpr ⟨List.mem_of_getElem? (i := 503) (by decide +kernel), by decide +kernel⟩
set_option maxRecDepth 20000 in
theorem wd_504 : Cond.instanceMethod y_T_node ∈ lw_big := List.mem_filter.mpr ⟨List.mem_of_getElem? (i := 504) (by decide +kernel), by decide +kernel⟩
set_option maxRecDepth 20000 in
theorem wd_505 : Cond.selects RX4 y_T_node y_T_node ∈ lw_big := List.mem_filter.mpr ⟨List.mem_of_getElem? (i := 505) (by decide +kernel), by decide +kernel⟩
set_option maxRecDepth 20000 in
theorem wd_506 : k_T_node ∈ lw_big := List.mem_filter.mpr ⟨List.mem_of_getElem? (i := 506) rfl, by decide +kernel⟩
set_option maxRecDepth 20000 in
theorem wd_507 : Cond.methodLink RL 91 y_T_versionTime ∈ lw_big := List.mem_filter.mpr ⟨List.mem_of_getElem? (i := 507) (by decide +kernel), by decide +kernel⟩
set_option maxRecDepth 20000 in
theorem wd_508 : Cond.instanceMethod y_T_versionTime ∈ lw_big := List.mem_filter.mpr ⟨List.mem_of_getElem? (i := 508) (by decide +kernel), by decide +kernel⟩
set_option maxRecDepth 20000 in
theorem wd_509 : Cond.selects RX4 y_T_versionTime y_T_versionTime ∈ lw_big := List.mem_filter.mpr ⟨List.mem_of_getElem? (i := 509) (by decide +kernel), by decide +kernel⟩
set_option maxRecDepth 20000 in
theorem wd_510 : k_T_versionTime ∈ lw_big := List.mem_filter.mpr ⟨List.mem_of_getElem? (i := 510) rfl, by decide +kernel⟩
set_option maxRecDepth 20000 in
theorem wd_511 : Cond.methodLink RL 95 y_T_count ∈ lw_big := List.mem_filter.mpr ⟨List.mem_of_getElem? (i := 511) (by decide +kernel), by decide +kernel⟩
set_option maxRecDepth 20000 in
theorem wd_512 : Cond.instanceMethod y_T_count ∈ lw_big := List.mem_filter.mpr ⟨List.mem_of_getElem? (i := 512) (by decide +kernel), by decide +kernel⟩
set_option maxRecDepth 20000 in
theorem wd_513 : Cond.selects RX4 y_T_count y_T_count ∈ lw_big := List.mem_filter.mpr ⟨List.mem_of_getElem? (i := 513) (by decide +kernel), by decide +kernel⟩
set_option maxRecDepth 20000 in
theorem wd_514 : k_T_count ∈ lw_big := List.mem_filter.mpr ⟨List.mem_of_getElem? (i := 514) rfl, by decide +kernel⟩
theorem gd_all : GoodIn lw_big lw_big := fun w h => ⟨h, good_of_word (List.mem_filter.mp h).2⟩
end
section
/-- memory as a map from addresses to what lies there -/
abbrev mM : Type := Nat → Option va_E
def mS (M : mM) (a : Nat) (e : va_E) : mM := fun b => if b = a then some e else M b
theorem mS_self (M : mM) (a : Nat) (e : va_E) : mS M a e a = some e := by simp [mS]
theorem mS_ne (M : mM) {a b : Nat} (e : va_E) (h : b ≠ a) : mS M a e b = M b := by simp [mS, h]
theorem mS_mS (M : mM) (a : Nat) (e e' : va_E) : mS (mS M a e) a e' = mS M a e' := by
  funext b
  by_cases h : b = a <;> simp [mS, h]
def mR (M : mM) (ws : va_W) : Prop := ∀ (a : Nat) (e : va_E), M a = some e ↔ ∃ k : Nat, ws[k]? = some (a, e)
theorem mR_set {A : Nat → Prop} {M : mM} {ws : va_W} {k a : Nat} {e0 e : va_E} (hR : mR M ws) (hD : va_D A ws) (hk : ws[k]? = some (a, e0)) : mR (mS M a e) (ws.set k (a, e)) := by
  have hkl : k < ws.length := (List.getElem?_eq_some_iff.mp hk).1
  intro b f
  by_cases hb : b = a
  · subst hb
    rw [mS_self]
    constructor
    · intro h
      cases h
      exact ⟨k, by rw [List.getElem?_set_self hkl]⟩
    · rintro ⟨j, hj⟩
      by_cases hjk : k = j
      · subst hjk
        rw [List.getElem?_set_self hkl] at hj
        cases hj
        rfl
      · rw [List.getElem?_set_ne hjk] at hj
        exact absurd (hD.1 k j _ _ hk hj rfl) hjk
  · rw [mS_ne _ _ hb, hR b f]
    constructor
    · rintro ⟨j, hj⟩
      refine ⟨j, ?_⟩
      have hjk : k ≠ j := by
        intro h
        subst h
        rw [hk] at hj
        cases hj
        exact hb rfl
      rw [List.getElem?_set_ne hjk]
      exact hj
    · rintro ⟨j, hj⟩
      refine ⟨j, ?_⟩
      by_cases hjk : k = j
      · subst hjk
        rw [List.getElem?_set_self hkl] at hj
        cases hj
        exact absurd rfl hb
      · rw [List.getElem?_set_ne hjk] at hj
        exact hj
theorem mR_fresh {A : Nat → Prop} {M : mM} {ws : va_W} {q : Nat} {e : va_E} (hR : mR M ws) (hD : va_D A (ws ++ [(q, e)])) : M q = none := by
  cases h : M q with
  | none => rfl
  | some f =>
    obtain ⟨j, hj⟩ := (hR q f).mp h
    have hjl : j < ws.length := (List.getElem?_eq_some_iff.mp hj).1
    have h1 : (ws ++ [(q, e)])[j]? = some (q, f) := by rw [List.getElem?_append_left hjl]; exact hj
    have h2 : (ws ++ [(q, e)])[ws.length]? = some (q, e) := by simp
    exact absurd (hD.1 j ws.length _ _ h1 h2 rfl) (by omega)
theorem mR_push {A : Nat → Prop} {M : mM} {ws : va_W} {q : Nat} {e : va_E} (hR : mR M ws) (hD : va_D A (ws ++ [(q, e)])) : mR (mS M q e) (ws ++ [(q, e)]) := by
  have hq := mR_fresh hR hD
  intro b f
  by_cases hb : b = q
  · subst hb
    rw [mS_self]
    constructor
    · intro h
      cases h
      exact ⟨ws.length, by simp⟩
    · rintro ⟨j, hj⟩
      by_cases hjl : j < ws.length
      · rw [List.getElem?_append_left hjl] at hj
        have h2 := (hR b f).mpr ⟨j, hj⟩
        rw [hq] at h2
        cases h2
      · rw [List.getElem?_append_right (by omega)] at hj
        have hz : j - ws.length < 1 := (List.getElem?_eq_some_iff.mp hj).1
        rw [show j - ws.length = 0 by omega] at hj
        cases hj
        rfl
  · rw [mS_ne _ _ hb, hR b f]
    constructor
    · rintro ⟨j, hj⟩
      exact ⟨j, by rw [List.getElem?_append_left (List.getElem?_eq_some_iff.mp hj).1]; exact hj⟩
    · rintro ⟨j, hj⟩
      by_cases hjl : j < ws.length
      · rw [List.getElem?_append_left hjl] at hj
        exact ⟨j, hj⟩
      · rw [List.getElem?_append_right (by omega)] at hj
        have hz : j - ws.length < 1 := (List.getElem?_eq_some_iff.mp hj).1
        rw [show j - ws.length = 0 by omega] at hj
        cases hj
        exact absurd rfl hb
/-- the locals by their places; values of one slot alone -/
def lL (ls : Array Slot) (L : List (Option Value)) : Prop := ls.size = L.length ∧ lv_wf ls ∧ ∀ (i : Nat) (v : Value), L[i]? = some (some v) → ls[i]? = some (.val v) ∧ v.category = 1
def lA (L : List (Option Value)) : List (Nat × Value) := (List.range L.length).filterMap (fun i => (L[i]?).join.map (fun v => (i, v)))
theorem lA_mem {L : List (Option Value)} {q : Nat × Value} : q ∈ lA L ↔ L[q.1]? = some (some q.2) := by
  obtain ⟨i, v⟩ := q
  unfold lA
  rw [List.mem_filterMap]
  constructor
  · rintro ⟨j, hj, h⟩
    cases hL : L[j]? with
    | none => rw [hL] at h; simp at h
    | some w =>
      cases w with
      | none => rw [hL] at h; simp at h
      | some u =>
        rw [hL] at h
        simp at h
        obtain ⟨rfl, rfl⟩ := h
        exact hL
  · intro h
    have h : L[i]? = some (some v) := h
    refine ⟨i, List.mem_range.mpr (List.getElem?_eq_some_iff.mp h).1, ?_⟩
    rw [h]
    rfl
theorem lL_has {ls : Array Slot} {L : List (Option Value)} (h : lL ls L) : lv_has ls L.length (lA L) := ⟨h.1, h.2.1, fun q hq => (h.2.2 _ _ (lA_mem.mp hq)).1⟩
theorem lL_store {ls ls' : Array Slot} {L : List (Option Value)} {i : Nat} {x : Value} (h0 : lL ls L) (hi : i < L.length) (hx : x.category = 1) (h : lv_has ls' L.length ((i, x) :: (lA L).filter (fun q => !(q.1 == i) && !(q.1 + 1 == i && q.2.category == 2)))) : lL ls' (L.set i (some x)) := by
  refine ⟨by rw [h.1, List.length_set], h.2.1, fun j v hj => ?_⟩
  by_cases hji : i = j
  · subst hji
    rw [List.getElem?_set_self hi] at hj
    cases hj
    exact ⟨h.2.2 (i, x) List.mem_cons_self, hx⟩
  · rw [List.getElem?_set_ne hji] at hj
    have hc := (h0.2.2 j v hj).2
    refine ⟨h.2.2 (j, v) (List.mem_cons_of_mem _ (List.mem_filter.mpr ⟨lA_mem.mpr hj, ?_⟩)), hc⟩
    simp [Ne.symm hji, hc]
def mRf (v : Value) : Prop := v = .null ∨ ∃ a, v = .ref a
theorem mRf_rf (r : Option Nat) : mRf (va_rf r) := va_rf_or r
theorem mRf_n : mRf .null := Or.inl rfl
theorem mRf_r (a : Nat) : mRf (.ref a) := Or.inr ⟨a, rfl⟩
theorem mRf_cat {v : Value} (h : mRf v) : v.category = 1 := by
  rcases h with rfl | ⟨a, rfl⟩ <;> rfl
end
section
/-- the classes, and what the tables say that no word may carry along -/
def mN (U : State) : Prop := va_AO RX0 U ∧ va_Nw (.methodLinkNest RX3 51 y_N_init RX3) U ∧ va_Nw (.castable "[I" "java/lang/Cloneable") U
def mK (D : va_G) (tys : List (ClassId × FieldType)) (U : State) : Prop := va_K D vwCl tys U ∧ mN U
theorem mK.warm {D : va_G} {tys : List (ClassId × FieldType)} {s U : State} (hW : s.WarmedH U.vm) (h : mK D tys s) : mK D tys U := ⟨va_K.moved hW.alike h.1, va_AO.moved hW.alike h.2.1, va_Nw.warmM hW h.2.2.1, va_Nw.warmC hW h.2.2.2⟩
theorem mK.same {D : va_G} {tys : List (ClassId × FieldType)} {s U : State} (hW : s.vm = U.vm) (h : mK D tys s) : mK D tys U := ⟨va_K.moved (by rw [hW]; exact Vm.Alike.refl _) h.1, va_AO.moved (by rw [hW]; exact Vm.Alike.refl _) h.2.1, va_Nw.same rfl hW h.2.2.1, va_Nw.same rfl hW h.2.2.2⟩
abbrev zT : Type := Program × Launch × Env × Room × State × MethodId × Array Value × List Frame × Method × Code × (State → Prop) × (Nat → Prop) × va_G × List (ClassId × FieldType)
/-- the walk's goal: from pc, locals L, operands st, memory M, with k cells of n slots made so far, the machine comes to its end -/
def RN : zT → Nat → List (Option Value) → List Value → mM → Nat → Nat → Prop
  | (p, l, e, R, s, m, args, below, meth, c, Q, A, D, _), pc, L, st, M, k, n =>
    ∀ (H : Heap) (locs : List Loc) (ls : Array Slot) (ws : va_W), mR M ws → va_P D vwCl ws H → va_D A ws → va_S A s.heap H locs → lL ls L → W p l e R s m args below meth c H locs k n Q (F0 m pc ls st)
/-- what a method's walk stands on -/
def BX : zT → ByteArray → Nat → String → String → Nat → Nat → Prop
  | (p, _, _, R, s, m, args, _, meth, c, _, A, D, tys), cc, nL, own, nm, F, Lo =>
    p.tables.exec = Jvm.exec ∧ c.code = cc ∧ c.maxLocals = nL ∧ s.vm.findClass own = some m.cls ∧ meth.name = nm ∧ (∀ w ∈ lw_big, w.before args s = true) ∧ mK D tys s ∧ (∀ q, s.heap.size ≤ q → A q) ∧ R.frames = F ∧ R.locals = Lo
theorem R_iconst {z : zT} {cc : ByteArray} {nL : Nat} {own nm : String} {F Lo : Nat} (X : BX z cc nL own nm F Lo) {pc : Nat} {L : List (Option Value)} {st : List Value} {M : mM} {k n : Nat} {i : Int} {v : Int32} (hd : decode cc pc = .ok (.iconst i, 1)) (hv : Int32.ofInt i = v) (h : RN z (pc + 1) L (.int v :: st) M k n) : RN z pc L (st) M k n := by
  obtain ⟨p, l, e, R, s, m, args, below, meth, c, Q, A, D, tys⟩ := z
  intro H locs ls ws hR hP hD hS hL
  exact lv_iconst X.1 X.2.1 hd hv (h H locs ls ws hR hP hD hS hL)
theorem R_bipush {z : zT} {cc : ByteArray} {nL : Nat} {own nm : String} {F Lo : Nat} (X : BX z cc nL own nm F Lo) {pc : Nat} {L : List (Option Value)} {st : List Value} {M : mM} {k n : Nat} {i : Int} {v : Int32} (hd : decode cc pc = .ok (.bipush i, 2)) (hv : (Int8.ofInt i).toInt32 = v) (h : RN z (pc + 2) L (.int v :: st) M k n) : RN z pc L (st) M k n := by
  obtain ⟨p, l, e, R, s, m, args, below, meth, c, Q, A, D, tys⟩ := z
  intro H locs ls ws hR hP hD hS hL
  exact lv_bipush X.1 X.2.1 hd hv (h H locs ls ws hR hP hD hS hL)
theorem R_sipush {z : zT} {cc : ByteArray} {nL : Nat} {own nm : String} {F Lo : Nat} (X : BX z cc nL own nm F Lo) {pc : Nat} {L : List (Option Value)} {st : List Value} {M : mM} {k n : Nat} {i : Int} {v : Int32} (hd : decode cc pc = .ok (.sipush i, 3)) (hv : (Int16.ofInt i).toInt32 = v) (h : RN z (pc + 3) L (.int v :: st) M k n) : RN z pc L (st) M k n := by
  obtain ⟨p, l, e, R, s, m, args, below, meth, c, Q, A, D, tys⟩ := z
  intro H locs ls ws hR hP hD hS hL
  exact lv_sipush X.1 X.2.1 hd hv (h H locs ls ws hR hP hD hS hL)
theorem R_lconst {z : zT} {cc : ByteArray} {nL : Nat} {own nm : String} {F Lo : Nat} (X : BX z cc nL own nm F Lo) {pc : Nat} {L : List (Option Value)} {st : List Value} {M : mM} {k n : Nat} {i : Fin 2} {v : Int64} (hd : decode cc pc = .ok (.lconst i, 1)) (hv : Int64.ofNat (i : Nat) = v) (h : RN z (pc + 1) L (.long v :: st) M k n) : RN z pc L (st) M k n := by
  obtain ⟨p, l, e, R, s, m, args, below, meth, c, Q, A, D, tys⟩ := z
  intro H locs ls ws hR hP hD hS hL
  exact lv_lconst X.1 X.2.1 hd hv (h H locs ls ws hR hP hD hS hL)
theorem R_null {z : zT} {cc : ByteArray} {nL : Nat} {own nm : String} {F Lo : Nat} (X : BX z cc nL own nm F Lo) {pc : Nat} {L : List (Option Value)} {st : List Value} {M : mM} {k n : Nat}  (hd : decode cc pc = .ok (.aconst_null, 1))  (h : RN z (pc + 1) L (.null :: st) M k n) : RN z pc L (st) M k n := by
  obtain ⟨p, l, e, R, s, m, args, below, meth, c, Q, A, D, tys⟩ := z
  intro H locs ls ws hR hP hD hS hL
  exact lv_null X.1 X.2.1 hd (h H locs ls ws hR hP hD hS hL)
theorem R_ldc {z : zT} {cc : ByteArray} {nL : Nat} {own nm : String} {F Lo : Nat} (X : BX z cc nL own nm F Lo) {pc : Nat} {L : List (Option Value)} {st : List Value} {M : mM} {k n : Nat} {i : Nat} {v : Int32} (hd : decode cc pc = .ok (.ldc i, 2)) (hw : Jvm.Cond.constant own i v ∈ lw_big) (h : RN z (pc + 2) L (.int v :: st) M k n) : RN z pc L (st) M k n := by
  obtain ⟨p, l, e, R, s, m, args, below, meth, c, Q, A, D, tys⟩ := z
  intro H locs ls ws hR hP hD hS hL
  exact lv_ldc X.1 X.2.1 X.2.2.2.1 (X.2.2.2.2.2.1 _ hw) hd (h H locs ls ws hR hP hD hS hL)
theorem R_ldc2 {z : zT} {cc : ByteArray} {nL : Nat} {own nm : String} {F Lo : Nat} (X : BX z cc nL own nm F Lo) {pc : Nat} {L : List (Option Value)} {st : List Value} {M : mM} {k n : Nat} {i : Nat} {v : Int64} (hd : decode cc pc = .ok (.ldc2_w i, 3)) (hw : Jvm.Cond.constantLong own i v ∈ lw_big) (h : RN z (pc + 3) L (.long v :: st) M k n) : RN z pc L (st) M k n := by
  obtain ⟨p, l, e, R, s, m, args, below, meth, c, Q, A, D, tys⟩ := z
  intro H locs ls ws hR hP hD hS hL
  exact lv_ldc2 X.1 X.2.1 X.2.2.2.1 (X.2.2.2.2.2.1 _ hw) hd (h H locs ls ws hR hP hD hS hL)
theorem R_iload_n {z : zT} {cc : ByteArray} {nL : Nat} {own nm : String} {F Lo : Nat} (X : BX z cc nL own nm F Lo) {pc : Nat} {L : List (Option Value)} {st : List Value} {M : mM} {k n : Nat} {j : Fin 4} {i : Nat} {x : Int32} (hd : decode cc pc = .ok (.iload_n j, 1)) (hj : (j : Nat) = i) (hl : L[i]? = some (some (.int x))) (h : RN z (pc + 1) L (.int x :: st) M k n) : RN z pc L (st) M k n := by
  obtain ⟨p, l, e, R, s, m, args, below, meth, c, Q, A, D, tys⟩ := z
  intro H locs ls ws hR hP hD hS hL
  exact lv_iload_n X.1 X.2.1 hd hj (hL.2.2 _ _ hl).1 (h H locs ls ws hR hP hD hS hL)
theorem R_iload {z : zT} {cc : ByteArray} {nL : Nat} {own nm : String} {F Lo : Nat} (X : BX z cc nL own nm F Lo) {pc : Nat} {L : List (Option Value)} {st : List Value} {M : mM} {k n : Nat} {i : Nat} {x : Int32} (hd : decode cc pc = .ok (.iload i, 2)) (hl : L[i]? = some (some (.int x))) (h : RN z (pc + 2) L (.int x :: st) M k n) : RN z pc L (st) M k n := by
  obtain ⟨p, l, e, R, s, m, args, below, meth, c, Q, A, D, tys⟩ := z
  intro H locs ls ws hR hP hD hS hL
  exact lv_iload X.1 X.2.1 hd (hL.2.2 _ _ hl).1 (h H locs ls ws hR hP hD hS hL)
theorem R_aload_n {z : zT} {cc : ByteArray} {nL : Nat} {own nm : String} {F Lo : Nat} (X : BX z cc nL own nm F Lo) {pc : Nat} {L : List (Option Value)} {st : List Value} {M : mM} {k n : Nat} {j : Fin 4} {i : Nat} {v : Value} (hd : decode cc pc = .ok (.aload_n j, 1)) (hj : (j : Nat) = i) (hl : L[i]? = some (some v)) (hv : mRf v) (h : RN z (pc + 1) L (v :: st) M k n) : RN z pc L (st) M k n := by
  obtain ⟨p, l, e, R, s, m, args, below, meth, c, Q, A, D, tys⟩ := z
  intro H locs ls ws hR hP hD hS hL
  rcases hv with rfl | ⟨a, rfl⟩
  · exact lv_aload_nN X.1 X.2.1 hd hj (hL.2.2 _ _ hl).1 (h H locs ls ws hR hP hD hS hL)
  · exact lv_aload_n X.1 X.2.1 hd hj (hL.2.2 _ _ hl).1 (h H locs ls ws hR hP hD hS hL)
theorem R_aload {z : zT} {cc : ByteArray} {nL : Nat} {own nm : String} {F Lo : Nat} (X : BX z cc nL own nm F Lo) {pc : Nat} {L : List (Option Value)} {st : List Value} {M : mM} {k n : Nat} {i : Nat} {v : Value} (hd : decode cc pc = .ok (.aload i, 2)) (hl : L[i]? = some (some v)) (hv : mRf v) (h : RN z (pc + 2) L (v :: st) M k n) : RN z pc L (st) M k n := by
  obtain ⟨p, l, e, R, s, m, args, below, meth, c, Q, A, D, tys⟩ := z
  intro H locs ls ws hR hP hD hS hL
  rcases hv with rfl | ⟨a, rfl⟩
  · exact lv_aloadN X.1 X.2.1 hd (hL.2.2 _ _ hl).1 (h H locs ls ws hR hP hD hS hL)
  · exact lv_aload X.1 X.2.1 hd (hL.2.2 _ _ hl).1 (h H locs ls ws hR hP hD hS hL)
theorem R_istore_n {z : zT} {cc : ByteArray} {nL : Nat} {own nm : String} {F Lo : Nat} (X : BX z cc nL own nm F Lo) {pc : Nat} {L : List (Option Value)} {st : List Value} {M : mM} {k n : Nat} {j : Fin 4} {i : Nat} {x : Int32} (hd : decode cc pc = .ok (.istore_n j, 1)) (hj : (j : Nat) = i) (hi : i < L.length) (h : RN z (pc + 1) (L.set i (some (.int x))) st M k n) : RN z pc L (.int x :: st) M k n := by
  obtain ⟨p, l, e, R, s, m, args, below, meth, c, Q, A, D, tys⟩ := z
  intro H locs ls ws hR hP hD hS hL
  exact lv_istore_n X.1 X.2.1 hd hj (lL_has hL) hi rfl (fun ls' hl' => h H locs ls' ws hR hP hD hS (lL_store hL hi rfl hl'))
theorem R_istore {z : zT} {cc : ByteArray} {nL : Nat} {own nm : String} {F Lo : Nat} (X : BX z cc nL own nm F Lo) {pc : Nat} {L : List (Option Value)} {st : List Value} {M : mM} {k n : Nat} {i : Nat} {x : Int32} (hd : decode cc pc = .ok (.istore i, 2))  (hi : i < L.length) (h : RN z (pc + 2) (L.set i (some (.int x))) st M k n) : RN z pc L (.int x :: st) M k n := by
  obtain ⟨p, l, e, R, s, m, args, below, meth, c, Q, A, D, tys⟩ := z
  intro H locs ls ws hR hP hD hS hL
  exact lv_istore X.1 X.2.1 hd (lL_has hL) hi rfl (fun ls' hl' => h H locs ls' ws hR hP hD hS (lL_store hL hi rfl hl'))
theorem R_astore_n {z : zT} {cc : ByteArray} {nL : Nat} {own nm : String} {F Lo : Nat} (X : BX z cc nL own nm F Lo) {pc : Nat} {L : List (Option Value)} {st : List Value} {M : mM} {k n : Nat} {j : Fin 4} {i : Nat} {v : Value} (hd : decode cc pc = .ok (.astore_n j, 1)) (hj : (j : Nat) = i) (hv : mRf v) (hi : i < L.length) (h : RN z (pc + 1) (L.set i (some (v))) st M k n) : RN z pc L (v :: st) M k n := by
  obtain ⟨p, l, e, R, s, m, args, below, meth, c, Q, A, D, tys⟩ := z
  intro H locs ls ws hR hP hD hS hL
  rcases hv with rfl | ⟨a, rfl⟩
  · exact lv_astore_nN X.1 X.2.1 hd hj (lL_has hL) hi rfl (fun ls' hl' => h H locs ls' ws hR hP hD hS (lL_store hL hi rfl hl'))
  · exact lv_astore_n X.1 X.2.1 hd hj (lL_has hL) hi rfl (fun ls' hl' => h H locs ls' ws hR hP hD hS (lL_store hL hi rfl hl'))
theorem R_astore {z : zT} {cc : ByteArray} {nL : Nat} {own nm : String} {F Lo : Nat} (X : BX z cc nL own nm F Lo) {pc : Nat} {L : List (Option Value)} {st : List Value} {M : mM} {k n : Nat} {i : Nat} {v : Value} (hd : decode cc pc = .ok (.astore i, 2)) (hv : mRf v) (hi : i < L.length) (h : RN z (pc + 2) (L.set i (some (v))) st M k n) : RN z pc L (v :: st) M k n := by
  obtain ⟨p, l, e, R, s, m, args, below, meth, c, Q, A, D, tys⟩ := z
  intro H locs ls ws hR hP hD hS hL
  rcases hv with rfl | ⟨a, rfl⟩
  · exact lv_astoreN X.1 X.2.1 hd (lL_has hL) hi rfl (fun ls' hl' => h H locs ls' ws hR hP hD hS (lL_store hL hi rfl hl'))
  · exact lv_astore X.1 X.2.1 hd (lL_has hL) hi rfl (fun ls' hl' => h H locs ls' ws hR hP hD hS (lL_store hL hi rfl hl'))
theorem R_iinc {z : zT} {cc : ByteArray} {nL : Nat} {own nm : String} {F Lo : Nat} (X : BX z cc nL own nm F Lo) {pc : Nat} {L : List (Option Value)} {st : List Value} {M : mM} {k n : Nat} {i : Nat} {d : Int} {x v : Int32} (hd : decode cc pc = .ok (.iinc i d, 3)) (hl : L[i]? = some (some (.int x))) (hv : x + Int32.ofInt d = v) (h : RN z (pc + 3) (L.set i (some (.int v))) st M k n) : RN z pc L st M k n := by
  obtain ⟨p, l, e, R, s, m, args, below, meth, c, Q, A, D, tys⟩ := z
  intro H locs ls ws hR hP hD hS hL
  have hi : i < L.length := (List.getElem?_eq_some_iff.mp hl).1
  obtain ⟨q, hq⟩ := List.getElem?_of_mem (lA_mem (q := (i, Value.int x)) |>.mpr hl)
  exact lv_iinc X.1 X.2.1 hd (lL_has hL) hq hv hi rfl (fun ls' hl' => h H locs ls' ws hR hP hD hS (lL_store hL hi rfl hl'))
theorem R_iadd {z : zT} {cc : ByteArray} {nL : Nat} {own nm : String} {F Lo : Nat} (X : BX z cc nL own nm F Lo) {pc : Nat} {L : List (Option Value)} {st : List Value} {M : mM} {k n : Nat} {x y : Int32} (hd : decode cc pc = .ok (.iadd, 1))  (h : RN z (pc + 1) L (.int (x + y) :: st) M k n) : RN z pc L (.int y :: .int x :: st) M k n := by
  obtain ⟨p, l, e, R, s, m, args, below, meth, c, Q, A, D, tys⟩ := z
  intro H locs ls ws hR hP hD hS hL
  exact lv_iadd X.1 X.2.1 hd (h H locs ls ws hR hP hD hS hL)
theorem R_isub {z : zT} {cc : ByteArray} {nL : Nat} {own nm : String} {F Lo : Nat} (X : BX z cc nL own nm F Lo) {pc : Nat} {L : List (Option Value)} {st : List Value} {M : mM} {k n : Nat} {x y : Int32} (hd : decode cc pc = .ok (.isub, 1))  (h : RN z (pc + 1) L (.int (x - y) :: st) M k n) : RN z pc L (.int y :: .int x :: st) M k n := by
  obtain ⟨p, l, e, R, s, m, args, below, meth, c, Q, A, D, tys⟩ := z
  intro H locs ls ws hR hP hD hS hL
  exact lv_isub X.1 X.2.1 hd (h H locs ls ws hR hP hD hS hL)
theorem R_imul {z : zT} {cc : ByteArray} {nL : Nat} {own nm : String} {F Lo : Nat} (X : BX z cc nL own nm F Lo) {pc : Nat} {L : List (Option Value)} {st : List Value} {M : mM} {k n : Nat} {x y : Int32} (hd : decode cc pc = .ok (.imul, 1))  (h : RN z (pc + 1) L (.int (x * y) :: st) M k n) : RN z pc L (.int y :: .int x :: st) M k n := by
  obtain ⟨p, l, e, R, s, m, args, below, meth, c, Q, A, D, tys⟩ := z
  intro H locs ls ws hR hP hD hS hL
  exact lv_imul X.1 X.2.1 hd (h H locs ls ws hR hP hD hS hL)
theorem R_iand {z : zT} {cc : ByteArray} {nL : Nat} {own nm : String} {F Lo : Nat} (X : BX z cc nL own nm F Lo) {pc : Nat} {L : List (Option Value)} {st : List Value} {M : mM} {k n : Nat} {x y : Int32} (hd : decode cc pc = .ok (.iand, 1))  (h : RN z (pc + 1) L (.int (x &&& y) :: st) M k n) : RN z pc L (.int y :: .int x :: st) M k n := by
  obtain ⟨p, l, e, R, s, m, args, below, meth, c, Q, A, D, tys⟩ := z
  intro H locs ls ws hR hP hD hS hL
  exact lv_iand X.1 X.2.1 hd (h H locs ls ws hR hP hD hS hL)
theorem R_ior {z : zT} {cc : ByteArray} {nL : Nat} {own nm : String} {F Lo : Nat} (X : BX z cc nL own nm F Lo) {pc : Nat} {L : List (Option Value)} {st : List Value} {M : mM} {k n : Nat} {x y : Int32} (hd : decode cc pc = .ok (.ior, 1))  (h : RN z (pc + 1) L (.int (x ||| y) :: st) M k n) : RN z pc L (.int y :: .int x :: st) M k n := by
  obtain ⟨p, l, e, R, s, m, args, below, meth, c, Q, A, D, tys⟩ := z
  intro H locs ls ws hR hP hD hS hL
  exact lv_ior X.1 X.2.1 hd (h H locs ls ws hR hP hD hS hL)
theorem R_ixor {z : zT} {cc : ByteArray} {nL : Nat} {own nm : String} {F Lo : Nat} (X : BX z cc nL own nm F Lo) {pc : Nat} {L : List (Option Value)} {st : List Value} {M : mM} {k n : Nat} {x y : Int32} (hd : decode cc pc = .ok (.ixor, 1))  (h : RN z (pc + 1) L (.int (x ^^^ y) :: st) M k n) : RN z pc L (.int y :: .int x :: st) M k n := by
  obtain ⟨p, l, e, R, s, m, args, below, meth, c, Q, A, D, tys⟩ := z
  intro H locs ls ws hR hP hD hS hL
  exact lv_ixor X.1 X.2.1 hd (h H locs ls ws hR hP hD hS hL)
theorem R_idiv {z : zT} {cc : ByteArray} {nL : Nat} {own nm : String} {F Lo : Nat} (X : BX z cc nL own nm F Lo) {pc : Nat} {L : List (Option Value)} {st : List Value} {M : mM} {k n : Nat} {x y : Int32} (hd : decode cc pc = .ok (.idiv, 1)) (hy : ¬ y = 0) (h : RN z (pc + 1) L (.int (x / y) :: st) M k n) : RN z pc L (.int y :: .int x :: st) M k n := by
  obtain ⟨p, l, e, R, s, m, args, below, meth, c, Q, A, D, tys⟩ := z
  intro H locs ls ws hR hP hD hS hL
  exact lv_idiv X.1 X.2.1 hd hy (h H locs ls ws hR hP hD hS hL)
theorem R_irem {z : zT} {cc : ByteArray} {nL : Nat} {own nm : String} {F Lo : Nat} (X : BX z cc nL own nm F Lo) {pc : Nat} {L : List (Option Value)} {st : List Value} {M : mM} {k n : Nat} {x y : Int32} (hd : decode cc pc = .ok (.irem, 1)) (hy : ¬ y = 0) (h : RN z (pc + 1) L (.int (x - x / y * y) :: st) M k n) : RN z pc L (.int y :: .int x :: st) M k n := by
  obtain ⟨p, l, e, R, s, m, args, below, meth, c, Q, A, D, tys⟩ := z
  intro H locs ls ws hR hP hD hS hL
  exact lv_irem X.1 X.2.1 hd hy (h H locs ls ws hR hP hD hS hL)
theorem R_ineg {z : zT} {cc : ByteArray} {nL : Nat} {own nm : String} {F Lo : Nat} (X : BX z cc nL own nm F Lo) {pc : Nat} {L : List (Option Value)} {st : List Value} {M : mM} {k n : Nat} {x : Int32} (hd : decode cc pc = .ok (.ineg, 1))  (h : RN z (pc + 1) L (.int (-x) :: st) M k n) : RN z pc L (.int x :: st) M k n := by
  obtain ⟨p, l, e, R, s, m, args, below, meth, c, Q, A, D, tys⟩ := z
  intro H locs ls ws hR hP hD hS hL
  exact lv_ineg X.1 X.2.1 hd (h H locs ls ws hR hP hD hS hL)
theorem R_i2l {z : zT} {cc : ByteArray} {nL : Nat} {own nm : String} {F Lo : Nat} (X : BX z cc nL own nm F Lo) {pc : Nat} {L : List (Option Value)} {st : List Value} {M : mM} {k n : Nat} {x : Int32} (hd : decode cc pc = .ok (.i2l, 1))  (h : RN z (pc + 1) L (.long x.toInt64 :: st) M k n) : RN z pc L (.int x :: st) M k n := by
  obtain ⟨p, l, e, R, s, m, args, below, meth, c, Q, A, D, tys⟩ := z
  intro H locs ls ws hR hP hD hS hL
  exact lv_i2l X.1 X.2.1 hd rfl (h H locs ls ws hR hP hD hS hL)
theorem R_l2i {z : zT} {cc : ByteArray} {nL : Nat} {own nm : String} {F Lo : Nat} (X : BX z cc nL own nm F Lo) {pc : Nat} {L : List (Option Value)} {st : List Value} {M : mM} {k n : Nat} {x : Int64} (hd : decode cc pc = .ok (.l2i, 1))  (h : RN z (pc + 1) L (.int x.toInt32 :: st) M k n) : RN z pc L (.long x :: st) M k n := by
  obtain ⟨p, l, e, R, s, m, args, below, meth, c, Q, A, D, tys⟩ := z
  intro H locs ls ws hR hP hD hS hL
  exact lv_l2i X.1 X.2.1 hd rfl (h H locs ls ws hR hP hD hS hL)
theorem R_lcmp {z : zT} {cc : ByteArray} {nL : Nat} {own nm : String} {F Lo : Nat} (X : BX z cc nL own nm F Lo) {pc : Nat} {L : List (Option Value)} {st : List Value} {M : mM} {k n : Nat} {x y : Int64} (hd : decode cc pc = .ok (.lcmp, 1))  (h : RN z (pc + 1) L (.int (lg_cmp x y) :: st) M k n) : RN z pc L (.long y :: .long x :: st) M k n := by
  obtain ⟨p, l, e, R, s, m, args, below, meth, c, Q, A, D, tys⟩ := z
  intro H locs ls ws hR hP hD hS hL
  exact W.lcmp X.1 X.2.1 hd (h H locs ls ws hR hP hD hS hL)
theorem R_dup {z : zT} {cc : ByteArray} {nL : Nat} {own nm : String} {F Lo : Nat} (X : BX z cc nL own nm F Lo) {pc : Nat} {L : List (Option Value)} {st : List Value} {M : mM} {k n : Nat} {v : Value} (hd : decode cc pc = .ok (.dup, 1)) (hv : v.category = 1) (h : RN z (pc + 1) L (v :: v :: st) M k n) : RN z pc L (v :: st) M k n := by
  obtain ⟨p, l, e, R, s, m, args, below, meth, c, Q, A, D, tys⟩ := z
  intro H locs ls ws hR hP hD hS hL
  exact lv_dup X.1 X.2.1 hd hv (h H locs ls ws hR hP hD hS hL)
theorem R_pop {z : zT} {cc : ByteArray} {nL : Nat} {own nm : String} {F Lo : Nat} (X : BX z cc nL own nm F Lo) {pc : Nat} {L : List (Option Value)} {st : List Value} {M : mM} {k n : Nat} {v : Value} (hd : decode cc pc = .ok (.pop, 1)) (hv : v.category = 1) (h : RN z (pc + 1) L (st) M k n) : RN z pc L (v :: st) M k n := by
  obtain ⟨p, l, e, R, s, m, args, below, meth, c, Q, A, D, tys⟩ := z
  intro H locs ls ws hR hP hD hS hL
  exact lv_pop X.1 X.2.1 hd hv (h H locs ls ws hR hP hD hS hL)
theorem R_dup_x1 {z : zT} {cc : ByteArray} {nL : Nat} {own nm : String} {F Lo : Nat} (X : BX z cc nL own nm F Lo) {pc : Nat} {L : List (Option Value)} {st : List Value} {M : mM} {k n : Nat} {v w : Value} (hd : decode cc pc = .ok (.dup_x1, 1)) (hv : v.category = 1) (hw : w.category = 1) (h : RN z (pc + 1) L (v :: w :: v :: st) M k n) : RN z pc L (v :: w :: st) M k n := by
  obtain ⟨p, l, e, R, s, m, args, below, meth, c, Q, A, D, tys⟩ := z
  intro H locs ls ws hR hP hD hS hL
  exact lv_dup_x1 X.1 X.2.1 hd hv hw (h H locs ls ws hR hP hD hS hL)
theorem R_dup_x2 {z : zT} {cc : ByteArray} {nL : Nat} {own nm : String} {F Lo : Nat} (X : BX z cc nL own nm F Lo) {pc : Nat} {L : List (Option Value)} {st : List Value} {M : mM} {k n : Nat} {v w u : Value} (hd : decode cc pc = .ok (.dup_x2, 1)) (hv : v.category = 1) (hw : w.category = 1) (hu : u.category = 1) (h : RN z (pc + 1) L (v :: w :: u :: v :: st) M k n) : RN z pc L (v :: w :: u :: st) M k n := by
  obtain ⟨p, l, e, R, s, m, args, below, meth, c, Q, A, D, tys⟩ := z
  intro H locs ls ws hR hP hD hS hL
  exact lv_dup_x2 X.1 X.2.1 hd hv hw hu (h H locs ls ws hR hP hD hS hL)
theorem R_dup2 {z : zT} {cc : ByteArray} {nL : Nat} {own nm : String} {F Lo : Nat} (X : BX z cc nL own nm F Lo) {pc : Nat} {L : List (Option Value)} {st : List Value} {M : mM} {k n : Nat} {v w : Value} (hd : decode cc pc = .ok (.dup2, 1)) (hv : v.category = 1) (hw : w.category = 1) (h : RN z (pc + 1) L (v :: w :: v :: w :: st) M k n) : RN z pc L (v :: w :: st) M k n := by
  obtain ⟨p, l, e, R, s, m, args, below, meth, c, Q, A, D, tys⟩ := z
  intro H locs ls ws hR hP hD hS hL
  exact lv_dup2_11 X.1 X.2.1 hd hv hw (h H locs ls ws hR hP hD hS hL)
theorem R_if_eq {z : zT} {cc : ByteArray} {nL : Nat} {own nm : String} {F Lo : Nat} (X : BX z cc nL own nm F Lo) {pc : Nat} {L : List (Option Value)} {st : List Value} {M : mM} {k n : Nat} {off : Int} {tgt : Nat} {x : Int32} (hd : decode cc pc = .ok (.ifCond .eq off, 3)) (ht : (pc : Int) + off = (tgt : Int)) (h1 : x = 0 → RN z tgt L st M k n) (h2 : ¬ (x = 0) → RN z (pc + 3) L st M k n) : RN z pc L (.int x :: st) M k n := by
  obtain ⟨p, l, e, R, s, m, args, below, meth, c, Q, A, D, tys⟩ := z
  intro H locs ls ws hR hP hD hS hL
  exact lv_if_eq X.1 X.2.1 hd ht (fun q => h1 q H locs ls ws hR hP hD hS hL) (fun q => h2 q H locs ls ws hR hP hD hS hL)
theorem R_if_ne {z : zT} {cc : ByteArray} {nL : Nat} {own nm : String} {F Lo : Nat} (X : BX z cc nL own nm F Lo) {pc : Nat} {L : List (Option Value)} {st : List Value} {M : mM} {k n : Nat} {off : Int} {tgt : Nat} {x : Int32} (hd : decode cc pc = .ok (.ifCond .ne off, 3)) (ht : (pc : Int) + off = (tgt : Int)) (h1 : ¬ x = 0 → RN z tgt L st M k n) (h2 : x = 0 → RN z (pc + 3) L st M k n) : RN z pc L (.int x :: st) M k n := by
  obtain ⟨p, l, e, R, s, m, args, below, meth, c, Q, A, D, tys⟩ := z
  intro H locs ls ws hR hP hD hS hL
  exact lv_if_ne X.1 X.2.1 hd ht (fun q => h1 q H locs ls ws hR hP hD hS hL) (fun q => h2 q H locs ls ws hR hP hD hS hL)
theorem R_if_lt {z : zT} {cc : ByteArray} {nL : Nat} {own nm : String} {F Lo : Nat} (X : BX z cc nL own nm F Lo) {pc : Nat} {L : List (Option Value)} {st : List Value} {M : mM} {k n : Nat} {off : Int} {tgt : Nat} {x : Int32} (hd : decode cc pc = .ok (.ifCond .lt off, 3)) (ht : (pc : Int) + off = (tgt : Int)) (h1 : x < 0 → RN z tgt L st M k n) (h2 : ¬ (x < 0) → RN z (pc + 3) L st M k n) : RN z pc L (.int x :: st) M k n := by
  obtain ⟨p, l, e, R, s, m, args, below, meth, c, Q, A, D, tys⟩ := z
  intro H locs ls ws hR hP hD hS hL
  exact lv_if_lt X.1 X.2.1 hd ht (fun q => h1 q H locs ls ws hR hP hD hS hL) (fun q => h2 q H locs ls ws hR hP hD hS hL)
theorem R_if_ge {z : zT} {cc : ByteArray} {nL : Nat} {own nm : String} {F Lo : Nat} (X : BX z cc nL own nm F Lo) {pc : Nat} {L : List (Option Value)} {st : List Value} {M : mM} {k n : Nat} {off : Int} {tgt : Nat} {x : Int32} (hd : decode cc pc = .ok (.ifCond .ge off, 3)) (ht : (pc : Int) + off = (tgt : Int)) (h1 : 0 ≤ x → RN z tgt L st M k n) (h2 : ¬ (0 ≤ x) → RN z (pc + 3) L st M k n) : RN z pc L (.int x :: st) M k n := by
  obtain ⟨p, l, e, R, s, m, args, below, meth, c, Q, A, D, tys⟩ := z
  intro H locs ls ws hR hP hD hS hL
  exact lv_if_ge X.1 X.2.1 hd ht (fun q => h1 q H locs ls ws hR hP hD hS hL) (fun q => h2 q H locs ls ws hR hP hD hS hL)
theorem R_if_gt {z : zT} {cc : ByteArray} {nL : Nat} {own nm : String} {F Lo : Nat} (X : BX z cc nL own nm F Lo) {pc : Nat} {L : List (Option Value)} {st : List Value} {M : mM} {k n : Nat} {off : Int} {tgt : Nat} {x : Int32} (hd : decode cc pc = .ok (.ifCond .gt off, 3)) (ht : (pc : Int) + off = (tgt : Int)) (h1 : 0 < x → RN z tgt L st M k n) (h2 : ¬ (0 < x) → RN z (pc + 3) L st M k n) : RN z pc L (.int x :: st) M k n := by
  obtain ⟨p, l, e, R, s, m, args, below, meth, c, Q, A, D, tys⟩ := z
  intro H locs ls ws hR hP hD hS hL
  exact lv_if_gt X.1 X.2.1 hd ht (fun q => h1 q H locs ls ws hR hP hD hS hL) (fun q => h2 q H locs ls ws hR hP hD hS hL)
theorem R_if_le {z : zT} {cc : ByteArray} {nL : Nat} {own nm : String} {F Lo : Nat} (X : BX z cc nL own nm F Lo) {pc : Nat} {L : List (Option Value)} {st : List Value} {M : mM} {k n : Nat} {off : Int} {tgt : Nat} {x : Int32} (hd : decode cc pc = .ok (.ifCond .le off, 3)) (ht : (pc : Int) + off = (tgt : Int)) (h1 : x ≤ 0 → RN z tgt L st M k n) (h2 : ¬ (x ≤ 0) → RN z (pc + 3) L st M k n) : RN z pc L (.int x :: st) M k n := by
  obtain ⟨p, l, e, R, s, m, args, below, meth, c, Q, A, D, tys⟩ := z
  intro H locs ls ws hR hP hD hS hL
  exact lv_if_le X.1 X.2.1 hd ht (fun q => h1 q H locs ls ws hR hP hD hS hL) (fun q => h2 q H locs ls ws hR hP hD hS hL)
theorem R_icmp_eq {z : zT} {cc : ByteArray} {nL : Nat} {own nm : String} {F Lo : Nat} (X : BX z cc nL own nm F Lo) {pc : Nat} {L : List (Option Value)} {st : List Value} {M : mM} {k n : Nat} {off : Int} {tgt : Nat} {x y : Int32} (hd : decode cc pc = .ok (.if_icmp .eq off, 3)) (ht : (pc : Int) + off = (tgt : Int)) (h1 : x = y → RN z tgt L st M k n) (h2 : ¬ (x = y) → RN z (pc + 3) L st M k n) : RN z pc L (.int y :: .int x :: st) M k n := by
  obtain ⟨p, l, e, R, s, m, args, below, meth, c, Q, A, D, tys⟩ := z
  intro H locs ls ws hR hP hD hS hL
  exact lv_icmp_eq X.1 X.2.1 hd ht (fun q => h1 q H locs ls ws hR hP hD hS hL) (fun q => h2 q H locs ls ws hR hP hD hS hL)
theorem R_icmp_ne {z : zT} {cc : ByteArray} {nL : Nat} {own nm : String} {F Lo : Nat} (X : BX z cc nL own nm F Lo) {pc : Nat} {L : List (Option Value)} {st : List Value} {M : mM} {k n : Nat} {off : Int} {tgt : Nat} {x y : Int32} (hd : decode cc pc = .ok (.if_icmp .ne off, 3)) (ht : (pc : Int) + off = (tgt : Int)) (h1 : ¬ x = y → RN z tgt L st M k n) (h2 : x = y → RN z (pc + 3) L st M k n) : RN z pc L (.int y :: .int x :: st) M k n := by
  obtain ⟨p, l, e, R, s, m, args, below, meth, c, Q, A, D, tys⟩ := z
  intro H locs ls ws hR hP hD hS hL
  exact lv_icmp_ne X.1 X.2.1 hd ht (fun q => h1 q H locs ls ws hR hP hD hS hL) (fun q => h2 q H locs ls ws hR hP hD hS hL)
theorem R_icmp_lt {z : zT} {cc : ByteArray} {nL : Nat} {own nm : String} {F Lo : Nat} (X : BX z cc nL own nm F Lo) {pc : Nat} {L : List (Option Value)} {st : List Value} {M : mM} {k n : Nat} {off : Int} {tgt : Nat} {x y : Int32} (hd : decode cc pc = .ok (.if_icmp .lt off, 3)) (ht : (pc : Int) + off = (tgt : Int)) (h1 : x < y → RN z tgt L st M k n) (h2 : ¬ (x < y) → RN z (pc + 3) L st M k n) : RN z pc L (.int y :: .int x :: st) M k n := by
  obtain ⟨p, l, e, R, s, m, args, below, meth, c, Q, A, D, tys⟩ := z
  intro H locs ls ws hR hP hD hS hL
  exact lv_icmp_lt X.1 X.2.1 hd ht (fun q => h1 q H locs ls ws hR hP hD hS hL) (fun q => h2 q H locs ls ws hR hP hD hS hL)
theorem R_icmp_ge {z : zT} {cc : ByteArray} {nL : Nat} {own nm : String} {F Lo : Nat} (X : BX z cc nL own nm F Lo) {pc : Nat} {L : List (Option Value)} {st : List Value} {M : mM} {k n : Nat} {off : Int} {tgt : Nat} {x y : Int32} (hd : decode cc pc = .ok (.if_icmp .ge off, 3)) (ht : (pc : Int) + off = (tgt : Int)) (h1 : y ≤ x → RN z tgt L st M k n) (h2 : ¬ (y ≤ x) → RN z (pc + 3) L st M k n) : RN z pc L (.int y :: .int x :: st) M k n := by
  obtain ⟨p, l, e, R, s, m, args, below, meth, c, Q, A, D, tys⟩ := z
  intro H locs ls ws hR hP hD hS hL
  exact lv_icmp_ge X.1 X.2.1 hd ht (fun q => h1 q H locs ls ws hR hP hD hS hL) (fun q => h2 q H locs ls ws hR hP hD hS hL)
theorem R_icmp_gt {z : zT} {cc : ByteArray} {nL : Nat} {own nm : String} {F Lo : Nat} (X : BX z cc nL own nm F Lo) {pc : Nat} {L : List (Option Value)} {st : List Value} {M : mM} {k n : Nat} {off : Int} {tgt : Nat} {x y : Int32} (hd : decode cc pc = .ok (.if_icmp .gt off, 3)) (ht : (pc : Int) + off = (tgt : Int)) (h1 : y < x → RN z tgt L st M k n) (h2 : ¬ (y < x) → RN z (pc + 3) L st M k n) : RN z pc L (.int y :: .int x :: st) M k n := by
  obtain ⟨p, l, e, R, s, m, args, below, meth, c, Q, A, D, tys⟩ := z
  intro H locs ls ws hR hP hD hS hL
  exact lv_icmp_gt X.1 X.2.1 hd ht (fun q => h1 q H locs ls ws hR hP hD hS hL) (fun q => h2 q H locs ls ws hR hP hD hS hL)
theorem R_icmp_le {z : zT} {cc : ByteArray} {nL : Nat} {own nm : String} {F Lo : Nat} (X : BX z cc nL own nm F Lo) {pc : Nat} {L : List (Option Value)} {st : List Value} {M : mM} {k n : Nat} {off : Int} {tgt : Nat} {x y : Int32} (hd : decode cc pc = .ok (.if_icmp .le off, 3)) (ht : (pc : Int) + off = (tgt : Int)) (h1 : x ≤ y → RN z tgt L st M k n) (h2 : ¬ (x ≤ y) → RN z (pc + 3) L st M k n) : RN z pc L (.int y :: .int x :: st) M k n := by
  obtain ⟨p, l, e, R, s, m, args, below, meth, c, Q, A, D, tys⟩ := z
  intro H locs ls ws hR hP hD hS hL
  exact lv_icmp_le X.1 X.2.1 hd ht (fun q => h1 q H locs ls ws hR hP hD hS hL) (fun q => h2 q H locs ls ws hR hP hD hS hL)
theorem R_goto {z : zT} {cc : ByteArray} {nL : Nat} {own nm : String} {F Lo : Nat} (X : BX z cc nL own nm F Lo) {pc : Nat} {L : List (Option Value)} {st : List Value} {M : mM} {k n : Nat} {off : Int} {tgt : Nat} (hd : decode cc pc = .ok (.goto off, 3)) (ht : (pc : Int) + off = (tgt : Int)) (h : RN z tgt L st M k n) : RN z pc L st M k n := by
  obtain ⟨p, l, e, R, s, m, args, below, meth, c, Q, A, D, tys⟩ := z
  intro H locs ls ws hR hP hD hS hL
  exact lv_goto X.1 X.2.1 hd ht (h H locs ls ws hR hP hD hS hL)
theorem R_ifnull {z : zT} {cc : ByteArray} {nL : Nat} {own nm : String} {F Lo : Nat} (X : BX z cc nL own nm F Lo) {pc : Nat} {L : List (Option Value)} {st : List Value} {M : mM} {k n : Nat} {off : Int} {tgt : Nat} {v : Value} (hd : decode cc pc = .ok (.ifnull off, 3)) (ht : (pc : Int) + off = (tgt : Int)) (hv : mRf v) (h1 : v = .null → RN z tgt L st M k n) (h2 : ∀ a, v = .ref a → RN z (pc + 3) L st M k n) : RN z pc L (v :: st) M k n := by
  obtain ⟨p, l, e, R, s, m, args, below, meth, c, Q, A, D, tys⟩ := z
  intro H locs ls ws hR hP hD hS hL
  rcases hv with rfl | ⟨a, rfl⟩
  · exact lv_ifnullN X.1 X.2.1 hd ht (h1 rfl H locs ls ws hR hP hD hS hL)
  · exact lv_ifnull X.1 X.2.1 hd (h2 a rfl H locs ls ws hR hP hD hS hL)
theorem R_ifnonnull {z : zT} {cc : ByteArray} {nL : Nat} {own nm : String} {F Lo : Nat} (X : BX z cc nL own nm F Lo) {pc : Nat} {L : List (Option Value)} {st : List Value} {M : mM} {k n : Nat} {off : Int} {tgt : Nat} {v : Value} (hd : decode cc pc = .ok (.ifnonnull off, 3)) (ht : (pc : Int) + off = (tgt : Int)) (hv : mRf v) (h1 : ∀ a, v = .ref a → RN z tgt L st M k n) (h2 : v = .null → RN z (pc + 3) L st M k n) : RN z pc L (v :: st) M k n := by
  obtain ⟨p, l, e, R, s, m, args, below, meth, c, Q, A, D, tys⟩ := z
  intro H locs ls ws hR hP hD hS hL
  rcases hv with rfl | ⟨a, rfl⟩
  · exact lv_ifnonnullN X.1 X.2.1 hd (h2 rfl H locs ls ws hR hP hD hS hL)
  · exact lv_ifnonnull X.1 X.2.1 hd ht (h1 a rfl H locs ls ws hR hP hD hS hL)
theorem R_tableOut {z : zT} {cc : ByteArray} {nL : Nat} {own nm : String} {F Lo : Nat} (X : BX z cc nL own nm F Lo) {pc : Nat} {L : List (Option Value)} {st : List Value} {M : mM} {k n : Nat} {dflt lo hi : Int} {offs : Array Int} {len tgt : Nat} {x : Int32} (hd : decode cc pc = .ok (.tableswitch dflt lo hi offs, len)) (hx : x.toInt < lo ∨ hi < x.toInt) (ht : (pc : Int) + dflt = (tgt : Int)) (h : RN z tgt L st M k n) : RN z pc L (.int x :: st) M k n := by
  obtain ⟨p, l, e, R, s, m, args, below, meth, c, Q, A, D, tys⟩ := z
  intro H locs ls ws hR hP hD hS hL
  exact lv_tableOut X.1 X.2.1 hd hx ht (h H locs ls ws hR hP hD hS hL)
theorem R_tableIn {z : zT} {cc : ByteArray} {nL : Nat} {own nm : String} {F Lo : Nat} (X : BX z cc nL own nm F Lo) {pc : Nat} {L : List (Option Value)} {st : List Value} {M : mM} {k n : Nat} {dflt lo hi off : Int} {offs : Array Int} {len tgt : Nat} {x : Int32} (hd : decode cc pc = .ok (.tableswitch dflt lo hi offs, len)) (h1 : ¬ x.toInt < lo) (h2 : ¬ hi < x.toInt) (ho : offs[(x.toInt - lo).toNat]? = some off) (ht : (pc : Int) + off = (tgt : Int)) (h : RN z tgt L st M k n) : RN z pc L (.int x :: st) M k n := by
  obtain ⟨p, l, e, R, s, m, args, below, meth, c, Q, A, D, tys⟩ := z
  intro H locs ls ws hR hP hD hS hL
  exact lv_tableIn X.1 X.2.1 hd h1 h2 ho ht (h H locs ls ws hR hP hD hS hL)
theorem R_widen {z : zT} {cc : ByteArray} {nL : Nat} {own nm : String} {F Lo : Nat} (X : BX z cc nL own nm F Lo) {pc : Nat} {L : List (Option Value)} {st : List Value} {M : mM} {k n : Nat} {k1 n1 : Nat} (h1 : k ≤ k1) (h2 : n ≤ n1) (h : RN z pc L st M k1 n1) : RN z pc L st M k n := by
  obtain ⟨p, l, e, R, s, m, args, below, meth, c, Q, A, D, tys⟩ := z
  intro H locs ls ws hR hP hD hS hL
  exact W.widen h1 h2 (h H locs ls ws hR hP hD hS hL)
theorem R_get {z : zT} {cc : ByteArray} {nL : Nat} {own nm : String} {F Lo : Nat} (X : BX z cc nL own nm F Lo) {pc : Nat} {L : List (Option Value)} {st : List Value} {M : mM} {k n : Nat} {C : String} {T : u_T} {N ci index : Nat} {a : Nat} {fs : List Value} {v : Value} (hin : ∀ w ∈ u_ws C T N, w ∈ lw_big) (hc : vwCl[ci]? = some (C, T, N)) (j : Nat) (hj : j < N) (hw : Cond.fieldLink own index (T j).1 (T j).2.1 (T j).2.2.1 ∈ lw_big) (hd : decode cc pc = .ok (.getfield index, 3)) (hM : M a = some (.inr (ci, fs))) (hv : fs[j]? = some v) (h : RN z (pc + 3) L (v :: st) M k n) : RN z pc L (.ref a :: st) M k n := by
  obtain ⟨p, l, e, R, s, m, args, below, meth, c, Q, A, D, tys⟩ := z
  intro H locs ls ws hR hP hD hS hL
  obtain ⟨q, hq⟩ := (hR _ _).mp hM
  exact va_get (D := D) X.1 X.2.1 X.2.2.2.2.2.1 hin X.2.2.2.1 X.2.2.2.2.2.2.1.1 hP q hq hc j hj (X.2.2.2.2.2.1 _ hw) (fun _ h9 => h9) hv hd (h H locs ls ws hR hP hD hS hL)
theorem R_getN {z : zT} {cc : ByteArray} {nL : Nat} {own nm : String} {F Lo : Nat} (X : BX z cc nL own nm F Lo) {pc : Nat} {L : List (Option Value)} {st : List Value} {M : mM} {k n : Nat} {C : String} {T : u_T} {N ci index : Nat} {a : Nat} {fs : List Value} {v : Value} (hin : ∀ w ∈ u_ws C T N, w ∈ lw_big) (hc : vwCl[ci]? = some (C, T, N)) (j : Nat) (hj : j < N) {host : String} (hw : Cond.fieldLinkNest own index (T j).1 (T j).2.1 (T j).2.2.1 host ∈ lw_big) (hd : decode cc pc = .ok (.getfield index, 3)) (hM : M a = some (.inr (ci, fs))) (hv : fs[j]? = some v) (h : RN z (pc + 3) L (v :: st) M k n) : RN z pc L (.ref a :: st) M k n := by
  obtain ⟨p, l, e, R, s, m, args, below, meth, c, Q, A, D, tys⟩ := z
  intro H locs ls ws hR hP hD hS hL
  obtain ⟨q, hq⟩ := (hR _ _).mp hM
  exact va_getN (D := D) X.1 X.2.1 X.2.2.2.2.2.1 hin X.2.2.2.1 X.2.2.2.2.2.2.1.1 hP q hq hc j hj (X.2.2.2.2.2.1 _ hw) (fun _ h9 => h9) hv hd (h H locs ls ws hR hP hD hS hL)
theorem R_put {z : zT} {cc : ByteArray} {nL : Nat} {own nm : String} {F Lo : Nat} (X : BX z cc nL own nm F Lo) {pc : Nat} {L : List (Option Value)} {st : List Value} {M : mM} {k n : Nat} {C : String} {T : u_T} {N ci index : Nat} {a : Nat} {fs : List Value} {v : Value} (hin : ∀ w ∈ u_ws C T N, w ∈ lw_big) (hc : vwCl[ci]? = some (C, T, N)) (j : Nat) (hj : j < N) (ty0 : Nat → FieldType) (hty : ∀ i, i < N → parseFieldDescriptor (T i).2.2.1 = some (ty0 i)) (hnm : ∀ a, a < N → ∀ b, b < N → a ≠ b → (T a).2.1 ≠ (T b).2.1) (hw : Cond.fieldLink own index (T j).1 (T j).2.1 (T j).2.2.1 ∈ lw_big) (hfin : (T j).2.2.2 = false) {ty : FieldType} (ht : parseFieldDescriptor (T j).2.2.1 = some ty) (hn : narrow ty v = v) (hfit : fits ty v = true) (hd : decode cc pc = .ok (.putfield index, 3)) (hM : M a = some (.inr (ci, fs))) (hl : j < fs.length) (h : RN z (pc + 3) L st (mS M a (.inr (ci, fs.set j v))) k n) : RN z pc L (v :: .ref a :: st) M k n := by
  obtain ⟨p, l, e, R, s, m, args, below, meth, c, Q, A, D, tys⟩ := z
  intro H locs ls ws hR hP hD hS hL
  obtain ⟨q, hq⟩ := (hR _ _).mp hM
  exact va_put (D := D) X.1 X.2.1 X.2.2.2.2.2.1 hin ty0 hty hnm X.2.2.2.1 X.2.2.2.2.2.2.1.1 hP hD hS q hq hc j hj (X.2.2.2.2.2.1 _ hw) (fun _ h9 => h9) hfin ht hn hfit hl hd (fun H1 locs1 hP1 hD1 hS1 => h H1 locs1 ls _ (mR_set hR hD hq) hP1 hD1 hS1 hL)
theorem R_putN {z : zT} {cc : ByteArray} {nL : Nat} {own nm : String} {F Lo : Nat} (X : BX z cc nL own nm F Lo) {pc : Nat} {L : List (Option Value)} {st : List Value} {M : mM} {k n : Nat} {C : String} {T : u_T} {N ci index : Nat} {a : Nat} {fs : List Value} {v : Value} (hin : ∀ w ∈ u_ws C T N, w ∈ lw_big) (hc : vwCl[ci]? = some (C, T, N)) (j : Nat) (hj : j < N) (ty0 : Nat → FieldType) (hty : ∀ i, i < N → parseFieldDescriptor (T i).2.2.1 = some (ty0 i)) (hnm : ∀ a, a < N → ∀ b, b < N → a ≠ b → (T a).2.1 ≠ (T b).2.1) {host : String} (hw : Cond.fieldLinkNest own index (T j).1 (T j).2.1 (T j).2.2.1 host ∈ lw_big) (hfin : (T j).2.2.2 = false) {ty : FieldType} (ht : parseFieldDescriptor (T j).2.2.1 = some ty) (hn : narrow ty v = v) (hfit : fits ty v = true) (hd : decode cc pc = .ok (.putfield index, 3)) (hM : M a = some (.inr (ci, fs))) (hl : j < fs.length) (h : RN z (pc + 3) L st (mS M a (.inr (ci, fs.set j v))) k n) : RN z pc L (v :: .ref a :: st) M k n := by
  obtain ⟨p, l, e, R, s, m, args, below, meth, c, Q, A, D, tys⟩ := z
  intro H locs ls ws hR hP hD hS hL
  obtain ⟨q, hq⟩ := (hR _ _).mp hM
  exact va_putN (D := D) X.1 X.2.1 X.2.2.2.2.2.1 hin ty0 hty hnm X.2.2.2.1 X.2.2.2.2.2.2.1.1 hP hD hS q hq hc j hj (X.2.2.2.2.2.1 _ hw) (fun _ h9 => h9) hfin ht hn hfit hl hd (fun H1 locs1 hP1 hD1 hS1 => h H1 locs1 ls _ (mR_set hR hD hq) hP1 hD1 hS1 hL)
theorem R_putF {z : zT} {cc : ByteArray} {nL : Nat} {own nm : String} {F Lo : Nat} (X : BX z cc nL own nm F Lo) {pc : Nat} {L : List (Option Value)} {st : List Value} {M : mM} {k n : Nat} {C : String} {T : u_T} {N ci index : Nat} {a : Nat} {fs : List Value} {v : Value} (hin : ∀ w ∈ u_ws C T N, w ∈ lw_big) (hc : vwCl[ci]? = some (C, T, N)) (j : Nat) (hj : j < N) (ty0 : Nat → FieldType) (hty : ∀ i, i < N → parseFieldDescriptor (T i).2.2.1 = some (ty0 i)) (hnm : ∀ a, a < N → ∀ b, b < N → a ≠ b → (T a).2.1 ≠ (T b).2.1) (hw : Cond.fieldLink own index (T j).1 (T j).2.1 (T j).2.2.1 ∈ lw_big) (hfin : (T j).2.2.2 = true) (hini : nm = "<init>") (hdc : (T j).1 = own) {ty : FieldType} (ht : parseFieldDescriptor (T j).2.2.1 = some ty) (hn : narrow ty v = v) (hfit : fits ty v = true) (hd : decode cc pc = .ok (.putfield index, 3)) (hM : M a = some (.inr (ci, fs))) (hl : j < fs.length) (h : RN z (pc + 3) L st (mS M a (.inr (ci, fs.set j v))) k n) : RN z pc L (v :: .ref a :: st) M k n := by
  obtain ⟨p, l, e, R, s, m, args, below, meth, c, Q, A, D, tys⟩ := z
  intro H locs ls ws hR hP hD hS hL
  obtain ⟨q, hq⟩ := (hR _ _).mp hM
  exact va_putF (D := D) X.1 X.2.1 X.2.2.2.2.2.1 hin ty0 hty hnm X.2.2.2.1 X.2.2.2.2.2.2.1.1 hP hD hS q hq hc j hj (X.2.2.2.2.2.1 _ hw) (fun _ h9 => h9) hfin (X.2.2.2.2.1.trans hini) hdc ht hn hfit hl hd (fun H1 locs1 hP1 hD1 hS1 => h H1 locs1 ls _ (mR_set hR hD hq) hP1 hD1 hS1 hL)
/-- which array classes there are -/
def zty : zT → List (ClassId × FieldType)
  | (_, _, _, _, _, _, _, _, _, _, _, _, _, tys) => tys
theorem R_iald {z : zT} {cc : ByteArray} {nL : Nat} {own nm : String} {F Lo : Nat} (X : BX z cc nL own nm F Lo) {pc : Nat} {L : List (Option Value)} {st : List Value} {M : mM} {k n : Nat} {a : Nat} {cA : ClassId} {w : Nat} {f : Nat → Int32} {i : Int32} (t0 : Nat) (ht : (zty z)[t0]? = some (cA, .int)) (hd : decode cc pc = .ok (.iaload, 1)) (hM : M a = some (.inl (cA, w, .inl f))) (hi : vp_in i w) (h : RN z (pc + 1) L (.int (f i.toNatClampNeg) :: st) M k n) : RN z pc L (.int i :: .ref a :: st) M k n := by
  obtain ⟨p, l, e, R, s, m, args, below, meth, c, Q, A, D, tys⟩ := z
  intro H locs ls ws hR hP hD hS hL
  obtain ⟨q, hq⟩ := (hR _ _).mp hM
  exact va_iald (D := D) X.1 X.2.1 X.2.2.2.2.2.2.1.1 hP q t0 hq ht hi hd (h H locs ls ws hR hP hD hS hL)
theorem R_iast {z : zT} {cc : ByteArray} {nL : Nat} {own nm : String} {F Lo : Nat} (X : BX z cc nL own nm F Lo) {pc : Nat} {L : List (Option Value)} {st : List Value} {M : mM} {k n : Nat} {a : Nat} {cA : ClassId} {w : Nat} {f : Nat → Int32} {i x : Int32} (t0 : Nat) (ht : (zty z)[t0]? = some (cA, .int)) (hd : decode cc pc = .ok (.iastore, 1)) (hM : M a = some (.inl (cA, w, .inl f))) (hi : vp_in i w) (h : RN z (pc + 1) L st (mS M a (.inl (cA, w, .inl (upd f i.toNatClampNeg x)))) k n) : RN z pc L (.int x :: .int i :: .ref a :: st) M k n := by
  obtain ⟨p, l, e, R, s, m, args, below, meth, c, Q, A, D, tys⟩ := z
  intro H locs ls ws hR hP hD hS hL
  obtain ⟨q, hq⟩ := (hR _ _).mp hM
  exact va_iast (D := D) X.1 X.2.1 X.2.2.2.2.2.2.1.1 hP hD hS q t0 hq ht hi hd (fun H1 locs1 hP1 hD1 hS1 => h H1 locs1 ls _ (mR_set hR hD hq) hP1 hD1 hS1 hL)
theorem R_zald {z : zT} {cc : ByteArray} {nL : Nat} {own nm : String} {F Lo : Nat} (X : BX z cc nL own nm F Lo) {pc : Nat} {L : List (Option Value)} {st : List Value} {M : mM} {k n : Nat} {a : Nat} {cA : ClassId} {w : Nat} {f : Nat → Int32} {i : Int32} (t0 : Nat) (ht : (zty z)[t0]? = some (cA, .boolean)) (hd : decode cc pc = .ok (.baload, 1)) (hM : M a = some (.inl (cA, w, .inl f))) (hi : vp_in i w) (h : RN z (pc + 1) L (.int (f i.toNatClampNeg) :: st) M k n) : RN z pc L (.int i :: .ref a :: st) M k n := by
  obtain ⟨p, l, e, R, s, m, args, below, meth, c, Q, A, D, tys⟩ := z
  intro H locs ls ws hR hP hD hS hL
  obtain ⟨q, hq⟩ := (hR _ _).mp hM
  exact va_zald (D := D) X.1 X.2.1 X.2.2.2.2.2.2.1.1 hP q t0 hq ht hi hd (h H locs ls ws hR hP hD hS hL)
theorem R_zast {z : zT} {cc : ByteArray} {nL : Nat} {own nm : String} {F Lo : Nat} (X : BX z cc nL own nm F Lo) {pc : Nat} {L : List (Option Value)} {st : List Value} {M : mM} {k n : Nat} {a : Nat} {cA : ClassId} {w : Nat} {f : Nat → Int32} {i x : Int32} (t0 : Nat) (ht : (zty z)[t0]? = some (cA, .boolean)) (hd : decode cc pc = .ok (.bastore, 1)) (hM : M a = some (.inl (cA, w, .inl f))) (hi : vp_in i w) (hx : vp_nar .boolean x = x) (h : RN z (pc + 1) L st (mS M a (.inl (cA, w, .inl (upd f i.toNatClampNeg x)))) k n) : RN z pc L (.int x :: .int i :: .ref a :: st) M k n := by
  obtain ⟨p, l, e, R, s, m, args, below, meth, c, Q, A, D, tys⟩ := z
  intro H locs ls ws hR hP hD hS hL
  obtain ⟨q, hq⟩ := (hR _ _).mp hM
  refine va_zast (D := D) X.1 X.2.1 X.2.2.2.2.2.2.1.1 hP hD hS q t0 hq ht hi hd (fun H1 locs1 hP1 hD1 hS1 => ?_)
  rw [hx] at hP1 hD1
  exact h H1 locs1 ls _ (mR_set hR hD hq) hP1 hD1 hS1 hL
theorem R_aald {z : zT} {cc : ByteArray} {nL : Nat} {own nm : String} {F Lo : Nat} (X : BX z cc nL own nm F Lo) {pc : Nat} {L : List (Option Value)} {st : List Value} {M : mM} {k n : Nat} {a : Nat} {cA : ClassId} {w : Nat} {f : Nat → Option Nat} {C : String} {i : Int32} (t0 : Nat) (ht : (zty z)[t0]? = some (cA, .object C)) (hd : decode cc pc = .ok (.aaload, 1)) (hM : M a = some (.inl (cA, w, .inr (.inr (.inr (.inr f)))))) (hi : vp_in i w) (h : RN z (pc + 1) L (va_rf (f i.toNatClampNeg) :: st) M k n) : RN z pc L (.int i :: .ref a :: st) M k n := by
  obtain ⟨p, l, e, R, s, m, args, below, meth, c, Q, A, D, tys⟩ := z
  intro H locs ls ws hR hP hD hS hL
  obtain ⟨q, hq⟩ := (hR _ _).mp hM
  exact va_aldq (D := D) X.1 X.2.1 X.2.2.2.2.2.2.1.1 hP q t0 hq ht hi hd (h H locs ls ws hR hP hD hS hL)
theorem R_aast {z : zT} {cc : ByteArray} {nL : Nat} {own nm : String} {F Lo : Nat} (X : BX z cc nL own nm F Lo) {pc : Nat} {L : List (Option Value)} {st : List Value} {M : mM} {k n : Nat} {a : Nat} {cA : ClassId} {w : Nat} {f : Nat → Option Nat} {r : vw_C} {ci v : Nat} {vs : List Value} {i : Int32} (t0 : Nat) (ht : (zty z)[t0]? = some (cA, .object r.1)) (hc : vwCl[ci]? = some r) (hd : decode cc pc = .ok (.aastore, 1)) (hM : M a = some (.inl (cA, w, .inr (.inr (.inr (.inr f)))))) (hv : M v = some (.inr (ci, vs))) (hi : vp_in i w) (h : RN z (pc + 1) L st (mS M a (.inl (cA, w, .inr (.inr (.inr (.inr (va_up f i.toNatClampNeg (some v)))))))) k n) : RN z pc L (.ref v :: .int i :: .ref a :: st) M k n := by
  obtain ⟨p, l, e, R, s, m, args, below, meth, c, Q, A, D, tys⟩ := z
  intro H locs ls ws hR hP hD hS hL
  obtain ⟨q, hq⟩ := (hR _ _).mp hM
  obtain ⟨q2, hq2⟩ := (hR _ _).mp hv
  exact va_astq (D := D) X.1 X.2.1 X.2.2.2.2.2.2.1.1 hP hD hS q t0 q2 ci hq ht hq2 hc hi hd (fun H1 locs1 hP1 hD1 hS1 => h H1 locs1 ls _ (mR_set hR hD hq) hP1 hD1 hS1 hL)
theorem R_alen {z : zT} {cc : ByteArray} {nL : Nat} {own nm : String} {F Lo : Nat} (X : BX z cc nL own nm F Lo) {pc : Nat} {L : List (Option Value)} {st : List Value} {M : mM} {k n : Nat} {a : Nat} {cA : ClassId} {x : vp_A} {ty : FieldType} {v : Int32} (t0 : Nat) (ht : (zty z)[t0]? = some (cA, ty)) (hd : decode cc pc = .ok (.arraylength, 1)) (hM : M a = some (.inl (cA, x))) (hv : Int32.ofNat x.1 = v) (h : RN z (pc + 1) L (.int v :: st) M k n) : RN z pc L (.ref a :: st) M k n := by
  obtain ⟨p, l, e, R, s, m, args, below, meth, c, Q, A, D, tys⟩ := z
  intro H locs ls ws hR hP hD hS hL
  obtain ⟨q, hq⟩ := (hR _ _).mp hM
  exact va_alen (D := D) X.1 X.2.1 X.2.2.2.2.2.2.1.1 hP q t0 hq ht hv hd (h H locs ls ws hR hP hD hS hL)
def zR : zT → Room
  | (_, _, _, R, _) => R
theorem R_new {z : zT} {cc : ByteArray} {nL : Nat} {own nm : String} {F Lo : Nat} (X : BX z cc nL own nm F Lo) {pc : Nat} {L : List (Option Value)} {st : List Value} {M : mM} {k n : Nat} {C : String} {T : u_T} {N ci index : Nat} {fs : List Value} (hin : ∀ w ∈ u_ws C T N, w ∈ lw_big) (hc : vwCl[ci]? = some (C, T, N)) (ty : Nat → FieldType) (hty : ∀ i, i < N → parseFieldDescriptor (T i).2.2.1 = some (ty i)) (hw1 : Cond.classLink own index C ∈ lw_big) (hw2 : Cond.instantiable C N ∈ lw_big) (hw3 : Cond.initialized C ∈ lw_big) (hfs : ∀ j, j < N → defaultValue (ty j) = vp_V fs j) (hd : decode cc pc = .ok (.new index, 3)) (hk : k + 1 ≤ (zR z).cells) (hn : n + N ≤ (zR z).slots) (h : ∀ q, M q = none → RN z (pc + 3) L (.ref q :: st) (mS M q (.inr (ci, fs))) (k + 1) (n + N)) : RN z pc L st M k n := by
  obtain ⟨p, l, e, R, s, m, args, below, meth, c, Q, A, D, tys⟩ := z
  intro H locs ls ws hR hP hD hS hL
  exact va_new (D := D) X.1 X.2.1 X.2.2.2.2.2.1 hin ty hty X.2.2.2.1 (X.2.2.2.2.2.1 _ hw1) (X.2.2.2.2.2.1 _ hw2) (X.2.2.2.2.2.1 _ hw3) X.2.2.2.2.2.2.1.1 hP hD hS X.2.2.2.2.2.2.2.1 hc hfs hk hn hd (fun q H1 hP1 hD1 hS1 => h q (mR_fresh hR hD1) H1 locs ls _ (mR_push hR hD1) hP1 hD1 hS1 hL)
theorem R_newi {z : zT} {cc : ByteArray} {nL : Nat} {own nm : String} {F Lo : Nat} (X : BX z cc nL own nm F Lo) {pc : Nat} {L : List (Option Value)} {st : List Value} {M : mM} {k n : Nat} {cI : ClassId} {w : Nat} {v : Int32} (t0 : Nat) (ht : (zty z)[t0]? = some (cI, .int)) (hw : Cond.arrayClass .int ∈ lw_big) (hd : decode cc pc = .ok (.newarray .int, 2)) (hv0 : ¬ v < 0) (hv : v.toNatClampNeg = w) (hb : w * 4 ≤ 536870912) (hk : k + 1 ≤ (zR z).cells) (hn : n + w ≤ (zR z).slots) (h : ∀ q, M q = none → RN z (pc + 2) L (.ref q :: st) (mS M q (.inl (cI, w, .inl (fun _ => 0)))) (k + 1) (n + w)) : RN z pc L (.int v :: st) M k n := by
  obtain ⟨p, l, e, R, s, m, args, below, meth, c, Q, A, D, tys⟩ := z
  intro H locs ls ws hR hP hD hS hL
  refine va_newa (D := D) (atype := .int) (ty := .int) (a0 := (w, .inl (fun _ => 0))) X.1 X.2.1 (X.2.2.2.2.2.1 _ hw) rfl X.2.2.2.2.2.2.1.1 hP hD hS X.2.2.2.2.2.2.2.1 (fun _ => rfl) hv0 hv hb hk hn hd (fun q cA H1 hK1 hP1 hD1 hS1 => ?_)
  have e1 := va_nm_int (hK1.2 tys.length (cA, .int) (by simp)).2
  have e2 := va_nm_int (X.2.2.2.2.2.2.1.1.2 t0 _ ht).2
  cases e1.symm.trans e2
  exact h q (mR_fresh hR hD1) H1 locs ls _ (mR_push hR hD1) hP1 hD1 hS1 hL
theorem R_newz {z : zT} {cc : ByteArray} {nL : Nat} {own nm : String} {F Lo : Nat} (X : BX z cc nL own nm F Lo) {pc : Nat} {L : List (Option Value)} {st : List Value} {M : mM} {k n : Nat} {cI : ClassId} {w : Nat} {v : Int32} (t0 : Nat) (ht : (zty z)[t0]? = some (cI, .boolean)) (hw : Cond.arrayClass .boolean ∈ lw_big) (hd : decode cc pc = .ok (.newarray .boolean, 2)) (hv0 : ¬ v < 0) (hv : v.toNatClampNeg = w) (hb : w * 1 ≤ 536870912) (hk : k + 1 ≤ (zR z).cells) (hn : n + w ≤ (zR z).slots) (h : ∀ q, M q = none → RN z (pc + 2) L (.ref q :: st) (mS M q (.inl (cI, w, .inl (fun _ => 0)))) (k + 1) (n + w)) : RN z pc L (.int v :: st) M k n := by
  obtain ⟨p, l, e, R, s, m, args, below, meth, c, Q, A, D, tys⟩ := z
  intro H locs ls ws hR hP hD hS hL
  refine va_newa (D := D) (atype := .boolean) (ty := .boolean) (a0 := (w, .inl (fun _ => 0))) X.1 X.2.1 (X.2.2.2.2.2.1 _ hw) rfl X.2.2.2.2.2.2.1.1 hP hD hS X.2.2.2.2.2.2.2.1 (fun _ => rfl) hv0 hv hb hk hn hd (fun q cA H1 hK1 hP1 hD1 hS1 => ?_)
  have e1 := va_nm_boolean (hK1.2 tys.length (cA, .boolean) (by simp)).2
  have e2 := va_nm_boolean (X.2.2.2.2.2.2.1.1.2 t0 _ ht).2
  cases e1.symm.trans e2
  exact h q (mR_fresh hR hD1) H1 locs ls _ (mR_push hR hD1) hP1 hD1 hS1 hL
theorem va_RA_obj {s : State} {c1 c2 : ClassId} {C : String} (h1 : va_RA s c1 (.object C)) (h2 : va_RA s c2 (.object C)) : c1 = c2 := by
  obtain ⟨_, _, _, _, _, e1⟩ := h1
  obtain ⟨_, _, _, _, _, e2⟩ := h2
  cases e1.symm.trans e2
  rfl
theorem R_newq {z : zT} {cc : ByteArray} {nL : Nat} {own nm : String} {F Lo : Nat} (X : BX z cc nL own nm F Lo) {pc : Nat} {L : List (Option Value)} {st : List Value} {M : mM} {k n : Nat} {cA : ClassId} {C : String} {index w : Nat} {v : Int32} (t0 : Nat) (ht : (zty z)[t0]? = some (cA, .object C)) (hw1 : Cond.classLink own index C ∈ lw_big) (hC : C = RX0) (hd : decode cc pc = .ok (.anewarray index, 3)) (hv0 : ¬ v < 0) (hv : v.toNatClampNeg = w) (hb : w * 4 ≤ 536870912) (hk : k + 1 ≤ (zR z).cells) (hn : n + w ≤ (zR z).slots) (h : ∀ q, M q = none → RN z (pc + 3) L (.ref q :: st) (mS M q (.inl (cA, w, .inr (.inr (.inr (.inr (fun _ => none))))))) (k + 1) (n + w)) : RN z pc L (.int v :: st) M k n := by
  obtain ⟨p, l, e, R, s, m, args, below, meth, c, Q, A, D, tys⟩ := z
  intro H locs ls ws hR hP hD hS hL
  refine va_newq (D := D) X.1 X.2.1 X.2.2.2.1 (X.2.2.2.2.2.1 _ hw1) (hC ▸ X.2.2.2.2.2.2.1.2.1) X.2.2.2.2.2.2.1.1 hP hD hS X.2.2.2.2.2.2.2.1 hv0 hv hb hk hn hd (fun q cB H1 hK1 hP1 hD1 hS1 => ?_)
  cases va_RA_obj (hK1.2 tys.length (cB, .object C) (by simp)).2 (X.2.2.2.2.2.2.1.1.2 t0 _ ht).2
  exact h q (mR_fresh hR hD1) H1 locs ls _ (mR_push hR hD1) hP1 hD1 hS1 hL
theorem R_clone {z : zT} {cc : ByteArray} {nL : Nat} {own nm : String} {F Lo : Nat} (X : BX z cc nL own nm F Lo) {pc : Nat} {L : List (Option Value)} {st : List Value} {M : mM} {k n : Nat} {a : Nat} {cA : ClassId} {w : Nat} {f : Nat → Int32} {index : Nat} (t0 : Nat) (ht : (zty z)[t0]? = some (cA, .int)) (hw1 : Cond.methodLink own index ⟨"[I", "clone", "()Ljava/lang/Object;"⟩ ∈ lw_big) (hw2 : Cond.sameMethod "[I" "java/lang/Object" "clone" "()Ljava/lang/Object;" ∈ lw_big) (hw3 : Cond.native ⟨"java/lang/Object", "clone", "()Ljava/lang/Object;"⟩ ∈ lw_big) (hw4 : Cond.instanceMethod ⟨"java/lang/Object", "clone", "()Ljava/lang/Object;"⟩ ∈ lw_big) (hw5 : Cond.selects "[I" ⟨"[I", "clone", "()Ljava/lang/Object;"⟩ ⟨"java/lang/Object", "clone", "()Ljava/lang/Object;"⟩ ∈ lw_big) (hd : decode cc pc = .ok (.invokevirtual index, 3)) (hLn : L.length = nL) (hM : M a = some (.inl (cA, w, .inl f))) (hF : 1 ≤ F) (hLo : (st.map fun v => v.category).sum + 14 ≤ Lo) (hk : k + 1 ≤ (zR z).cells) (hn : n + w ≤ (zR z).slots) (h : ∀ q, M q = none → RN z (pc + 3) L (.ref q :: st) (mS M q (.inl (cA, w, .inl f))) (k + 1) (n + w)) : RN z pc L (.ref a :: st) M k n := by
  obtain ⟨p, l, e, R, s, m, args, below, meth, c, Q, A, D, tys⟩ := z
  intro H locs ls ws hR hP hD hS hL
  obtain ⟨q, hq⟩ := (hR _ _).mp hM
  have hx := X.2.2.2.2.2.1
  exact va_clone (D := D) (x := (w, .inl f)) X.1 X.2.1 (X.2.2.1.trans (hLn.symm.trans hL.1.symm)) X.2.2.2.1 (hx _ hw1) (hx _ hw2) (hx _ hw3) (hx _ hw4) (hx _ hw5) X.2.2.2.2.2.2.1.2.2.2 X.2.2.2.2.2.2.1.1 hP hD hS X.2.2.2.2.2.2.2.1 q t0 hq ht (va_nm_int (X.2.2.2.2.2.2.1.1.2 t0 _ ht).2) (va_fit (fun i _ => rfl)) (by rw [X.2.2.2.2.2.2.2.2.1]; exact hF) (by rw [X.2.2.2.2.2.2.2.2.2]; exact hLo) hk hn hd (fun q H1 _ hP1 hD1 hS1 => h q (mR_fresh hR hD1) H1 locs ls _ (mR_push hR hD1) hP1 hD1 hS1 hL)
theorem R_castA {z : zT} {cc : ByteArray} {nL : Nat} {own nm : String} {F Lo : Nat} (X : BX z cc nL own nm F Lo) {pc : Nat} {L : List (Option Value)} {st : List Value} {M : mM} {k n : Nat} {a : Nat} {cA : ClassId} {x : vp_A} {index : Nat} (t0 : Nat) (ht : (zty z)[t0]? = some (cA, .int)) (hw : Cond.classLink own index "[I" ∈ lw_big) (hd : decode cc pc = .ok (.checkcast index, 3)) (hM : M a = some (.inl (cA, x))) (h : RN z (pc + 3) L (.ref a :: st) M k n) : RN z pc L (.ref a :: st) M k n := by
  obtain ⟨p, l, e, R, s, m, args, below, meth, c, Q, A, D, tys⟩ := z
  intro H locs ls ws hR hP hD hS hL
  obtain ⟨q, hq⟩ := (hR _ _).mp hM
  exact va_castA (D := D) X.1 X.2.1 X.2.2.2.1 (X.2.2.2.2.2.1 _ hw) hP q hq (va_nm_int (X.2.2.2.2.2.2.1.1.2 t0 _ ht).2) hd (h H locs ls ws hR hP hD hS hL)
theorem R_mmax {z : zT} {cc : ByteArray} {nL : Nat} {own nm : String} {F Lo : Nat} (X : BX z cc nL own nm F Lo) {pc : Nat} {L : List (Option Value)} {st : List Value} {M : mM} {k n : Nat} {index : Nat} {x y : Int32} (hw1 : Cond.methodLink own index Lib.Math.max.name ∈ lw_big) (hw2 : Cond.static Lib.Math.max.name ∈ lw_big) (hw3 : Cond.initialized "java/lang/Math" ∈ lw_big) (hw4 : Cond.code Lib.Math.max.name Lib.Math.max.code 2 (some .int) ∈ lw_big) (hd : decode cc pc = .ok (.invokestatic index, 3)) (hLn : L.length = nL) (hF : 1 ≤ F) (hLo : (st.map fun v => v.category).sum + 13 ≤ Lo) (hk : k ≤ (zR z).cells) (hn : n ≤ (zR z).slots) (h : RN z (pc + 3) L (.int (if x < y then y else x) :: st) M k n) : RN z pc L (.int y :: .int x :: st) M k n := by
  obtain ⟨p, l, e, R, s, m, args, below, meth, c, Q, A, D, tys⟩ := z
  intro H locs ls ws hR hP hD hS hL
  have hx := X.2.2.2.2.2.1
  exact va_mmax (R := R) X.1 X.2.1 (X.2.2.1.trans (hLn.symm.trans hL.1.symm)) X.2.2.2.1 (hx _ hw1) (hx _ hw2) (hx _ hw3) (hx _ hw4) (by rw [X.2.2.2.2.2.2.2.2.1]; exact hF) (by rw [X.2.2.2.2.2.2.2.2.2]; exact hLo) hk hn hd (h H locs ls ws hR hP hD hS hL)
theorem R_mmin {z : zT} {cc : ByteArray} {nL : Nat} {own nm : String} {F Lo : Nat} (X : BX z cc nL own nm F Lo) {pc : Nat} {L : List (Option Value)} {st : List Value} {M : mM} {k n : Nat} {index : Nat} {x y : Int32} (hw1 : Cond.methodLink own index Lib.Math.min.name ∈ lw_big) (hw2 : Cond.static Lib.Math.min.name ∈ lw_big) (hw3 : Cond.initialized "java/lang/Math" ∈ lw_big) (hw4 : Cond.code Lib.Math.min.name Lib.Math.min.code 2 (some .int) ∈ lw_big) (hd : decode cc pc = .ok (.invokestatic index, 3)) (hLn : L.length = nL) (hF : 1 ≤ F) (hLo : (st.map fun v => v.category).sum + 13 ≤ Lo) (hk : k ≤ (zR z).cells) (hn : n ≤ (zR z).slots) (h : RN z (pc + 3) L (.int (if y < x then y else x) :: st) M k n) : RN z pc L (.int y :: .int x :: st) M k n := by
  obtain ⟨p, l, e, R, s, m, args, below, meth, c, Q, A, D, tys⟩ := z
  intro H locs ls ws hR hP hD hS hL
  have hx := X.2.2.2.2.2.1
  exact va_mmin (R := R) X.1 X.2.1 (X.2.2.1.trans (hLn.symm.trans hL.1.symm)) X.2.2.2.1 (hx _ hw1) (hx _ hw2) (hx _ hw3) (hx _ hw4) (by rw [X.2.2.2.2.2.2.2.2.1]; exact hF) (by rw [X.2.2.2.2.2.2.2.2.2]; exact hLo) hk hn hd (h H locs ls ws hR hP hD hS hL)
theorem R_objInit {z : zT} {cc : ByteArray} {nL : Nat} {own nm : String} {F Lo : Nat} (X : BX z cc nL own nm F Lo) {pc : Nat} {L : List (Option Value)} {st : List Value} {M : mM} {k n : Nat} {a : Nat} {index : Nat} (hw1 : Cond.methodLink own index objectInit ∈ lw_big) (hw2 : Cond.instanceMethod objectInit ∈ lw_big) (hw3 : Cond.code objectInit ⟨#[0xb1]⟩ 1 none ∈ lw_big) (hd : decode cc pc = .ok (.invokespecial index, 3)) (hLn : L.length = nL) (hF : 1 ≤ F) (hLo : (st.map fun v => v.category).sum + 12 ≤ Lo) (h : RN z (pc + 3) L st M k n) : RN z pc L (.ref a :: st) M k n := by
  obtain ⟨p, l, e, R, s, m, args, below, meth, c, Q, A, D, tys⟩ := z
  intro H locs ls ws hR hP hD hS hL
  have hx := X.2.2.2.2.2.1
  exact W.objInit X.1 X.2.1 X.2.2.2.1 (hx _ hw1) (hx _ hw2) (hx _ hw3) rfl (by show ls.size = _; rw [hL.1, hLn, X.2.2.1]) rfl hd (by rw [X.2.2.2.2.2.2.2.2.1]; exact hF) (by rw [X.2.2.2.2.2.2.2.2.2]; show 2 * 0 + _ + 12 ≤ _; omega) (h H locs ls ws hR hP hD hS hL)
end
section
theorem gd_I {k1 : Cond} (h1 : k1 ∈ lw_big) : GoodIn lw_big (k1 :: lw_big) := fun w h => (List.mem_cons.mp h).elim (fun e => e ▸ gd_all _ h1) (gd_all w)
theorem gd_S {k1 : Cond} {own : String} {index : Nat} {y : MethodName} (h1 : k1 ∈ lw_big) (h2 : Cond.methodLink own index y ∈ lw_big) (h3 : Cond.static y ∈ lw_big) (h4 : Cond.initialized own ∈ lw_big) : GoodIn lw_big (wsS own index y (k1 :: lw_big)) := by
  intro w h
  unfold wsS at h
  simp only [List.cons_append, List.nil_append, List.mem_cons] at h
  rcases h with rfl | rfl | rfl | rfl | h
  · exact gd_all _ h2
  · exact gd_all _ h3
  · exact gd_all _ h4
  · exact gd_all _ h1
  · exact gd_all _ h
theorem gd_V {k1 : Cond} {own C : String} {index : Nat} {y : MethodName} (h1 : k1 ∈ lw_big) (h2 : Cond.methodLink own index y ∈ lw_big) (h3 : Cond.instanceMethod y ∈ lw_big) (h4 : Cond.selects C y y ∈ lw_big) (h5 : Cond.initialized C ∈ lw_big) : GoodIn lw_big (wsV own index C y (k1 :: lw_big)) := by
  intro w h
  unfold wsV at h
  simp only [List.cons_append, List.nil_append, List.mem_cons] at h
  rcases h with rfl | rfl | rfl | rfl | rfl | h
  · exact gd_all _ h2
  · exact gd_all _ h3
  · exact gd_all _ h4
  · exact gd_all _ h5
  · exact gd_all _ h1
  · exact gd_all _ h
def zl : zT → Launch
  | (_, l, _) => l
def zD : zT → va_G
  | (_, _, _, _, _, _, _, _, _, _, _, _, D, _) => D
/-- a contract's end: the answer and the memory behind it -/
def mQ (D : va_G) (ws0 : va_W) (sz : Nat) (Post : Option Value → mM → Prop) : Array Value → State → Outcome → State → Prop := fun _ st oc t =>
  (∃ (v : Option Value) (M' : mM) (ws' : va_W), oc = .returned v ∧ Post v M' ∧ mR M' ws' ∧ va_P D vwCl ws' t.heap ∧ va_D (va_A ws0 sz) ws') ∧ va_F (va_A ws0 sz) st t
/-- the contract of a method at memory M, arguments av -/
def Ct (l : Launch) (D : va_G) (tys : List (ClassId × FieldType)) (y : MethodName) (wsC : List Cond) (F Lo mc ms : Nat) (av : List Value) (M : mM) (Post : Option Value → mM → Prop) : Prop :=
  ∀ (sz : Nat) (ws : va_W), mR M ws → Met l y wsC { frames := F, cells := mc, slots := ms, locals := Lo } (va_Pc av (fun U => U.heap.size = sz ∧ va_P D vwCl ws U.heap ∧ mK D tys U ∧ va_D (fun _ => True) ws)) (mQ D ws sz Post) mc ms (va_A ws sz)
def BQ : zT → Option FieldType → va_W → Nat → Nat → (Option Value → mM → Prop) → Prop
  | (_, _, _, R, s, _, args, below, meth, _, Q, A, D, tys), ret, ws0, mc, ms, Post =>
    meth.sig.returnType = ret ∧ meth.locks = false ∧ Q = MQ below (mQ D ws0 s.heap.size Post) args s mc ms (va_A ws0 s.heap.size) ∧ A = va_A ws0 s.heap.size ∧ R.cells = mc ∧ R.slots = ms
theorem BQ.rc {z : zT} {ret : Option FieldType} {ws0 : va_W} {mc ms : Nat} {Post : Option Value → mM → Prop} (Y : BQ z ret ws0 mc ms Post) : (zR z).cells = mc ∧ (zR z).slots = ms := by
  obtain ⟨p, l, e, R, s, m, args, below, meth, c, Q, A, D, tys⟩ := z
  exact ⟨Y.2.2.2.2.1, Y.2.2.2.2.2⟩
theorem R_iret {z : zT} {cc : ByteArray} {nL : Nat} {own nm : String} {F Lo : Nat} (X : BX z cc nL own nm F Lo) {pc : Nat} {L : List (Option Value)} {M : mM} {k n : Nat} {ws0 : va_W} {mc ms : Nat} {Post : Option Value → mM → Prop} (Y : BQ z (some .int) ws0 mc ms Post) {v : Int32} (hd : decode cc pc = .ok (.ireturn, 1)) (hk : k ≤ mc) (hn : n ≤ ms) (hp : Post (some (.int v)) M) : RN z pc L [.int v] M k n := by
  obtain ⟨p, l, e, R, s, m, args, below, meth, c, Q, A, D, tys⟩ := z
  obtain ⟨hr, hlk, rfl, rfl, hc1, hc2⟩ := Y
  intro H locs ls ws hR hP hD hS hL
  refine W.widen hk hn ?_
  exact W.iret X.1 X.2.1 hr (fun t ht hW => ⟨⟨some (.int v), M, ws, rfl, hp, hR, by rw [ht]; exact hP, hD⟩, hS.F ht⟩) hS.2.2 hd (hlocks := hlk)
theorem R_zret {z : zT} {cc : ByteArray} {nL : Nat} {own nm : String} {F Lo : Nat} (X : BX z cc nL own nm F Lo) {pc : Nat} {L : List (Option Value)} {M : mM} {k n : Nat} {ws0 : va_W} {mc ms : Nat} {Post : Option Value → mM → Prop} (Y : BQ z (some .boolean) ws0 mc ms Post) {v : Int32} (hd : decode cc pc = .ok (.ireturn, 1)) (hv : narrow .boolean (.int v) = .int v) (hk : k ≤ mc) (hn : n ≤ ms) (hp : Post (some (.int v)) M) : RN z pc L [.int v] M k n := by
  obtain ⟨p, l, e, R, s, m, args, below, meth, c, Q, A, D, tys⟩ := z
  obtain ⟨hr, hlk, rfl, rfl, hc1, hc2⟩ := Y
  intro H locs ls ws hR hP hD hS hL
  refine W.widen hk hn ?_
  exact W.zret X.1 X.2.1 hr hv (fun t ht hW => ⟨⟨some (.int v), M, ws, rfl, hp, hR, by rw [ht]; exact hP, hD⟩, hS.F ht⟩) hS.2.2 hd (hlocks := hlk)
theorem R_lret {z : zT} {cc : ByteArray} {nL : Nat} {own nm : String} {F Lo : Nat} (X : BX z cc nL own nm F Lo) {pc : Nat} {L : List (Option Value)} {M : mM} {k n : Nat} {ws0 : va_W} {mc ms : Nat} {Post : Option Value → mM → Prop} (Y : BQ z (some .long) ws0 mc ms Post) {v : Int64} (hd : decode cc pc = .ok (.lreturn, 1)) (hk : k ≤ mc) (hn : n ≤ ms) (hp : Post (some (.long v)) M) : RN z pc L [.long v] M k n := by
  obtain ⟨p, l, e, R, s, m, args, below, meth, c, Q, A, D, tys⟩ := z
  obtain ⟨hr, hlk, rfl, rfl, hc1, hc2⟩ := Y
  intro H locs ls ws hR hP hD hS hL
  refine W.widen hk hn ?_
  exact W.lret X.1 X.2.1 hr (fun t ht hW => ⟨⟨some (.long v), M, ws, rfl, hp, hR, by rw [ht]; exact hP, hD⟩, hS.F ht⟩) hS.2.2 hd (hlocks := hlk)
theorem R_aret {z : zT} {cc : ByteArray} {nL : Nat} {own nm : String} {F Lo : Nat} (X : BX z cc nL own nm F Lo) {pc : Nat} {L : List (Option Value)} {M : mM} {k n : Nat} {ws0 : va_W} {mc ms : Nat} {Post : Option Value → mM → Prop} {rt : FieldType} (Y : BQ z (some rt) ws0 mc ms Post) {v : Value} (hrt : (∃ n, rt = .object n) ∨ ∃ t, rt = .array t) (hd : decode cc pc = .ok (.areturn, 1)) (hv : mRf v) (hk : k ≤ mc) (hn : n ≤ ms) (hp : Post (some v) M) : RN z pc L [v] M k n := by
  obtain ⟨p, l, e, R, s, m, args, below, meth, c, Q, A, D, tys⟩ := z
  obtain ⟨hr, hlk, rfl, rfl, hc1, hc2⟩ := Y
  intro H locs ls ws hR hP hD hS hL
  refine W.widen hk hn ?_
  exact W.aret X.1 X.2.1 hr hrt hv (fun t ht hW => ⟨⟨some v, M, ws, rfl, hp, hR, by rw [ht]; exact hP, hD⟩, hS.F ht⟩) hS.2.2 hd (hlocks := hlk)
theorem R_vret {z : zT} {cc : ByteArray} {nL : Nat} {own nm : String} {F Lo : Nat} (X : BX z cc nL own nm F Lo) {pc : Nat} {L : List (Option Value)} {M : mM} {k n : Nat} {ws0 : va_W} {mc ms : Nat} {Post : Option Value → mM → Prop} (Y : BQ z none ws0 mc ms Post) (hd : decode cc pc = .ok (.return_, 1)) (hk : k ≤ mc) (hn : n ≤ ms) (hp : Post none M) : RN z pc L [] M k n := by
  obtain ⟨p, l, e, R, s, m, args, below, meth, c, Q, A, D, tys⟩ := z
  obtain ⟨hr, hlk, rfl, rfl, hc1, hc2⟩ := Y
  intro H locs ls ws hR hP hD hS hL
  refine W.widen hk hn ?_
  exact W.vret X.1 X.2.1 hr (fun t ht hW => ⟨⟨none, M, ws, rfl, hp, hR, by rw [ht]; exact hP, hD⟩, hS.F ht⟩) hS.2.2 hd (hlocks := hlk)
theorem lL_entry : ∀ (vs : List Value) (i : Nat), (∀ v ∈ vs, v.category = 1) → ∀ (j : Nat) (v : Value), vs[j]? = some v → (i + j, v) ∈ lv_args i vs
  | [], _, _, j, v, h => by simp at h
  | w :: vs, i, hc, j, v, h => by
    have hw : w.category = 1 := hc w List.mem_cons_self
    cases j with
    | zero =>
      simp at h
      subst h
      exact List.mem_cons_self
    | succ j =>
      have h2 := lL_entry vs (i + 1) (fun u hu => hc u (List.mem_cons_of_mem _ hu)) j v (by simpa using h)
      unfold lv_args
      rw [if_neg (by omega)]
      rw [show i + (j + 1) = i + 1 + j by omega]
      exact List.mem_cons_of_mem _ h2
theorem lg_sl_one : ∀ (vs : List Value), (∀ v ∈ vs, v.category = 1) → (lg_sl vs).length = vs.length
  | [], _ => rfl
  | w :: vs, hc => by
    have hw : w.category = 1 := hc w List.mem_cons_self
    have ih := lg_sl_one vs (fun u hu => hc u (List.mem_cons_of_mem _ hu))
    unfold lg_sl at ih ⊢
    rw [List.flatMap_cons, List.length_append, ih, if_neg (by omega)]
    simp
    omega
/-- a contract out of a walk -/
theorem Ct.of {l : Launch} {D : va_G} {tys : List (ClassId × FieldType)} {y : MethodName} {F Lo mc ms : Nat} {av : List Value} {M : mM} {Post : Option Value → mM → Prop} {cc : ByteArray} {maxL : Nat} {ret : Option FieldType} {L0 : List (Option Value)}
    (hy : plainName y.cls = true) (hav : ∀ v ∈ av, v.category = 1) (hl : av.length ≤ maxL) (hL0 : L0 = av.map some ++ List.replicate (maxL - av.length) none)
    (body : ∀ (z : zT) (ws0 : va_W), zl z = l → zD z = D → zty z = tys → BX z cc maxL y.cls y.name F Lo → BQ z ret ws0 mc ms Post → RN z 0 L0 [] M 0 0) : Ct l D tys y (Cond.code y cc maxL ret :: lw_big) F Lo mc ms av M Post := by
  intro sz ws hR
  refine Met.ofW (cc := cc) (maxL := maxL) (ret := ret) hy rfl ?_
  intro p e s m args below meth c s₁ B hml hv
  obtain ⟨rfl, hsz, hP, hK, hD0⟩ := hv
  subst hsz
  have hts := atoms_spec (ws := Cond.code y cc maxL ret :: lw_big) B.pre
  have hown : s.vm.findClass y.cls = some m.cls := findClass_of_methodNamed B.named
  have hin : meth.name = y.name := (name_of_methodNamed B.named B.method).1
  have hD := hD0.self (sz := s.heap.size)
  have hlen : (lg_sl av).length ≤ maxL := by rw [lg_sl_one av hav]; exact hl
  have hle := lv_entry av (n := maxL) hlen
  rw [lg_entry_eq]
  generalize (lg_sl av ++ List.replicate (maxL - (lg_sl av).length) Slot.unset).toArray = ls at hle ⊢
  have hll : lL ls L0 := by
    refine ⟨?_, hle.2.1, fun i v hi => ?_⟩
    · rw [hle.1, hL0]
      simp
      omega
    · rw [hL0] at hi
      by_cases hia : i < av.length
      · rw [List.getElem?_append_left (by simpa using hia), List.getElem?_map] at hi
        cases hq : av[i]? with
        | none => rw [hq] at hi; simp at hi
        | some w =>
          rw [hq] at hi
          simp at hi
          subst hi
          have h3 := lL_entry av 0 hav i w hq
          rw [Nat.zero_add] at h3
          exact ⟨hle.2.2 _ h3, hav w (List.mem_of_getElem? hq)⟩
      · rw [List.getElem?_append_right (by simp; omega), List.getElem?_replicate] at hi
        split at hi <;> simp at hi
  exact body (p, l, e, (headSpec (Cond.code y cc maxL ret :: lw_big) { frames := F, cells := mc, slots := ms, locals := Lo }).room, s, m, av.toArray, below, meth, c, _, va_A ws s.heap.size, D, tys) ws rfl rfl rfl ⟨B.exec, B.bytes, hml, hown, hin, fun w h => hts w (List.mem_cons_of_mem _ h), hK, fun q h => Or.inr h, rfl, rfl⟩ ⟨B.returns, B.notSynchronized, rfl, rfl, rfl, rfl⟩ s.heap [] ls ws hR hP hD va_S.rf hll
/-- behind a call -/
theorem m_call {p : Program} {l : Launch} {e : Env} {R : Room} {s : State} {m : MethodId} {args : Array Value} {below : List Frame} {meth : Method} {c : Code} {H : Heap} {locs : List Loc} {cells slots : Nat} {Q : State → Prop} {pc : Nat} {ls : Array Slot} {rest st0 : List Value} {a : Array Value} {A : Nat → Prop} {H0 : Heap} {mc ms : Nat} {D : va_G} {ws : va_W} {Post : Option Value → mM → Prop}
    (hr : va_Run p l e R s m args below meth c H locs cells slots mc ms (F0 m pc ls st0) rest (mQ D ws H.size Post a) (va_A ws H.size)) (hD : va_D A ws) (hS : va_S A H0 H locs) (hA : ∀ q, H0.size ≤ q → A q)
    (kk : ∀ (v : Option Value) (M' : mM) (ws' : va_W) (H1 : Heap) (locs1 : List Loc), Post v M' → mR M' ws' → va_P D vwCl ws' H1 → va_D A ws' → va_S A H0 H1 locs1 → W p l e R s m args below meth c H1 locs1 (cells + mc) (slots + ms) Q (F0 m (pc + 3) ls (v.toList ++ rest))) : W p l e R s m args below meth c H locs cells slots Q (F0 m pc ls st0) := by
  intro T hT X
  obtain ⟨v, st₀, t, T', L, h0, X', hL, e1, e2, ⟨⟨v', M', ws', hv, hp, hR', hP', hD'⟩, hz, hk⟩, st⟩ := hr T hT X
  cases hv
  rw [h0] at hz hk
  have hAA : ∀ q, va_A ws H.size q → A q := fun q hq => by
    rcases hq with ⟨j, f, hj⟩ | hq
    · exact hD.2 j _ hj
    · exact hA q (Nat.le_trans hS.1 hq)
  obtain ⟨t2, a1, b1⟩ := kk v M' ws' T'.heap (locs ++ L) hp hR' (by rw [e1]; exact hP') (hD'.weaken (fun _ q _ h => hAA _ h))
    ⟨Nat.le_trans hS.1 (by rw [e1]; exact hz), fun q h1 h2 => by rw [e1, hk q (Nat.lt_of_lt_of_le h1 hS.1) (fun z => h2 (hAA q z))]; exact hS.2.1 q h1 h2, fun q hq => by
      rcases List.mem_append.mp hq with h | h
      · exact hS.2.2 q h
      · exact hAA _ (hL q h)⟩ T' rfl X'
  exact ⟨t2, st t2 a1, b1⟩
theorem m_blind {av : List Value} {sz : Nat} {D : va_G} {tys : List (ClassId × FieldType)} {ws : va_W} : FrameBlind (va_Pc av (fun U => U.heap.size = sz ∧ va_P D vwCl ws U.heap ∧ mK D tys U ∧ va_D (fun _ => True) ws)) := fun a U g mk q => by
  obtain ⟨q0, q1, qP, qK, qD⟩ := q
  exact ⟨q0, q1, qP, mK.same (s := U) (U := U.calling g mk a) rfl qK, qD⟩
theorem cat_le : ∀ (st : List Value), (st.map fun v => v.category).sum ≤ 2 * st.length
  | [] => by simp
  | v :: st => by
    have := cat_le st
    have hv : v.category ≤ 2 := by rcases lv_cat v with h | h <;> omega
    simp only [List.map_cons, List.sum_cons, List.length_cons]
    omega
theorem R_callS {z : zT} {cc : ByteArray} {nL : Nat} {own nm : String} {F Lo : Nat} (X : BX z cc nL own nm F Lo) {pc : Nat} {L : List (Option Value)} {st : List Value} {M : mM} {k n : Nat} {y : MethodName} {F1 Lo1 mc1 ms1 nA index maxL : Nat} {bytes : ByteArray} {ret : Option FieldType} {av : List Value} {Post : Option Value → mM → Prop}
    (hk1 : Cond.code y bytes maxL ret ∈ lw_big) (hw1 : Cond.methodLink own index y ∈ lw_big) (hw2 : Cond.static y ∈ lw_big) (hw3 : Cond.initialized own ∈ lw_big) (hdd : y.cls = own ∧ y.cls ≠ "java/lang/invoke/MethodHandle" ∧ y.cls ≠ "java/lang/invoke/VarHandle" ∧ (parseMethodDescriptor y.desc).map (fun d => d.parameters.length) = some nA) (hav : av.length = nA) (hF : F1 + 1 ≤ F) (hLo : 8 + (maxL + 11) + Lo1 ≤ Lo) (hst : st.length ≤ 4) (hd : decode cc pc = .ok (.invokestatic index, 3)) (hLn : L.length = nL)
    (hC : Ct (zl z) (zD z) (zty z) y (Cond.code y bytes maxL ret :: lw_big) F1 Lo1 mc1 ms1 av M Post) (hk : k + mc1 ≤ (zR z).cells) (hn : n + ms1 ≤ (zR z).slots) (h : ∀ (v : Option Value) (M' : mM), Post v M' → RN z (pc + 3) L (v.toList ++ st) M' (k + mc1) (n + ms1)) : RN z pc L (av.reverse ++ st) M k n := by
  obtain ⟨p, l, e, R, s, m, args, below, meth, c, Q, A, D, tys⟩ := z
  intro H locs ls ws hR hP hD hS hL
  have hcat := cat_le st
  obtain ⟨hx, hb, hml, hown, hnm, hts, hK, hA, hRF, hRL⟩ := X
  have hrun := va_runS (l := l) (e := e) (below := below) (meth := meth) (As := av) (rest := st) (g := F0 m pc ls (av.reverse ++ st)) (locs := locs) (cells := k) (slots := n) ⟨hx, hb, hml, hown, hts⟩ (hC H.size ws hR) (cwS (R := R) nA hts (gd_S hk1 hw1 hw2 hw3) rfl rfl rfl hdd ⟨by rw [hRF]; exact hF, by rw [hRL]; exact hLo⟩)
    ⟨m_blind, fun U hU hW => ⟨rfl, by rw [hU], by rw [hU]; exact hP, mK.warm hW hK, hD.weaken (fun _ _ _ _ => trivial)⟩⟩ rfl hav (hL.1.trans hLn) rfl (lv_room (by omega)) hd ⟨hk, hn⟩
  exact m_call hrun hD hS hA (fun v M' ws' H1 locs1 hp hR' hP' hD' hS' => h v M' hp H1 locs1 ls ws' hR' hP' hD' hS' hL)
theorem R_callV {z : zT} {cc : ByteArray} {nL : Nat} {own nm : String} {F Lo : Nat} (X : BX z cc nL own nm F Lo) {pc : Nat} {L : List (Option Value)} {st : List Value} {M : mM} {k n : Nat} {C : String} {T : u_T} {N ci b : Nat} {fs : List Value} {y : MethodName} {F1 Lo1 mc1 ms1 nA index maxL : Nat} {bytes : ByteArray} {ret : Option FieldType} {av : List Value} {Post : Option Value → mM → Prop}
    (hk1 : Cond.code y bytes maxL ret ∈ lw_big) (hw1 : Cond.methodLink own index y ∈ lw_big) (hw2 : Cond.instanceMethod y ∈ lw_big) (hw3 : Cond.selects C y y ∈ lw_big) (hw4 : Cond.initialized C ∈ lw_big) (hdd : y.cls = C ∧ y.cls ≠ "java/lang/invoke/MethodHandle" ∧ y.cls ≠ "java/lang/invoke/VarHandle" ∧ (parseMethodDescriptor y.desc).map (fun d => d.parameters.length) = some nA) (hav : av.length = nA) (hF : F1 + 1 ≤ F) (hLo : 8 + (maxL + 11) + Lo1 ≤ Lo) (hst : st.length ≤ 4) (hd : decode cc pc = .ok (.invokevirtual index, 3)) (hLn : L.length = nL) (hc : vwCl[ci]? = some (C, T, N))
    (hM : M b = some (.inr (ci, fs))) (hC : Ct (zl z) (zD z) (zty z) y (Cond.code y bytes maxL ret :: lw_big) F1 Lo1 mc1 ms1 (.ref b :: av) M Post) (hk : k + mc1 ≤ (zR z).cells) (hn : n + ms1 ≤ (zR z).slots) (h : ∀ (v : Option Value) (M' : mM), Post v M' → RN z (pc + 3) L (v.toList ++ st) M' (k + mc1) (n + ms1)) : RN z pc L (av.reverse ++ .ref b :: st) M k n := by
  obtain ⟨p, l, e, R, s, m, args, below, meth, c, Q, A, D, tys⟩ := z
  intro H locs ls ws hR hP hD hS hL
  have hcat := cat_le st
  obtain ⟨hx, hb, hml, hown, hnm, hts, hK, hA, hRF, hRL⟩ := X
  obtain ⟨q, hq⟩ := (hR _ _).mp hM
  have hrun := va_runV (l := l) (e := e) (below := below) (meth := meth) (As := av) (rest := st) (g := F0 m pc ls (av.reverse ++ .ref b :: st)) (locs := locs) (cells := k) (slots := n) ⟨hx, hb, hml, hown, hts⟩ (hC H.size ws hR) (cwV (R := R) nA hts (gd_V hk1 hw1 hw2 hw3 hw4) rfl rfl rfl hdd ⟨by rw [hRF]; exact hF, by rw [hRL]; exact hLo⟩)
    ⟨m_blind, va_recv hK.1 hP hc hq, fun U hU hW => ⟨rfl, by rw [hU], by rw [hU]; exact hP, mK.warm hW hK, hD.weaken (fun _ _ _ _ => trivial)⟩⟩ rfl hav (hL.1.trans hLn) rfl (lv_room (by omega)) hd ⟨hk, hn⟩
  exact m_call hrun hD hS hA (fun v M' ws' H1 locs1 hp hR' hP' hD' hS' => h v M' hp H1 locs1 ls ws' hR' hP' hD' hS' hL)
theorem R_callI {z : zT} {cc : ByteArray} {nL : Nat} {own nm : String} {F Lo : Nat} (X : BX z cc nL own nm F Lo) {pc : Nat} {L : List (Option Value)} {st : List Value} {M : mM} {k n : Nat} {b : Nat} {y : MethodName} {F1 Lo1 mc1 ms1 nA index maxL : Nat} {bytes : ByteArray} {av : List Value} {Post : Option Value → mM → Prop}
    (hk1 : Cond.code y bytes maxL none ∈ lw_big) (hw1 : Cond.initialized y.cls ∈ lw_big) (hw2 : Cond.methodLink own index y ∈ lw_big) (hw3 : Cond.instanceMethod y ∈ lw_big) (hy : y.name = "<init>") (hdd : y.cls ≠ "java/lang/invoke/MethodHandle" ∧ y.cls ≠ "java/lang/invoke/VarHandle" ∧ (parseMethodDescriptor y.desc).map (fun d => d.parameters.length) = some nA) (hav : av.length = nA) (hF : F1 + 1 ≤ F) (hLo : 8 + (maxL + 11) + Lo1 ≤ Lo) (hst : st.length ≤ 4) (hd : decode cc pc = .ok (.invokespecial index, 3)) (hLn : L.length = nL)
    (hC : Ct (zl z) (zD z) (zty z) y (Cond.code y bytes maxL none :: lw_big) F1 Lo1 mc1 ms1 (.ref b :: av) M Post) (hk : k + mc1 ≤ (zR z).cells) (hn : n + ms1 ≤ (zR z).slots) (h : ∀ (v : Option Value) (M' : mM), Post v M' → RN z (pc + 3) L (v.toList ++ st) M' (k + mc1) (n + ms1)) : RN z pc L (av.reverse ++ .ref b :: st) M k n := by
  obtain ⟨p, l, e, R, s, m, args, below, meth, c, Q, A, D, tys⟩ := z
  intro H locs ls ws hR hP hD hS hL
  have hcat := cat_le st
  obtain ⟨hx, hb, hml, hown, hnm, hts, hK, hA, hRF, hRL⟩ := X
  have hrun := va_runI (l := l) (e := e) (below := below) (meth := meth) (As := av) (rest := st) (g := F0 m pc ls (av.reverse ++ .ref b :: st)) (locs := locs) (cells := k) (slots := n) ⟨hx, hb, hml, hown, hts⟩ (hC H.size ws hR) (cwI (R := R) nA hts (gd_I hk1) rfl rfl rfl (hts _ hw1) (hts _ hw2) (hts _ hw3) hy hdd ⟨by rw [hRF]; exact hF, by rw [hRL]; exact hLo⟩)
    ⟨m_blind, fun U hU hW => ⟨rfl, by rw [hU], by rw [hU]; exact hP, mK.warm hW hK, hD.weaken (fun _ _ _ _ => trivial)⟩⟩ rfl hav (hL.1.trans hLn) rfl (lv_room (by omega)) hd ⟨hk, hn⟩
  exact m_call hrun hD hS hA (fun v M' ws' H1 locs1 hp hR' hP' hD' hS' => h v M' hp H1 locs1 ls ws' hR' hP' hD' hS' hL)
theorem R_callIN {z : zT} {cc : ByteArray} {nL : Nat} {own nm : String} {F Lo : Nat} (X : BX z cc nL own nm F Lo) {pc : Nat} {L : List (Option Value)} {st : List Value} {M : mM} {k n : Nat} {b : Nat} {host : String} {y : MethodName} {F1 Lo1 mc1 ms1 nA index maxL : Nat} {bytes : ByteArray} {av : List Value} {Post : Option Value → mM → Prop}
    (hk1 : Cond.code y bytes maxL none ∈ lw_big) (hw1 : Cond.initialized y.cls ∈ lw_big) (hw2 : own = RX3 ∧ index = 51 ∧ y = y_N_init ∧ host = RX3) (hw3 : Cond.instanceMethod y ∈ lw_big) (hy : y.name = "<init>") (hdd : y.cls ≠ "java/lang/invoke/MethodHandle" ∧ y.cls ≠ "java/lang/invoke/VarHandle" ∧ (parseMethodDescriptor y.desc).map (fun d => d.parameters.length) = some nA) (hav : av.length = nA) (hF : F1 + 1 ≤ F) (hLo : 8 + (maxL + 11) + Lo1 ≤ Lo) (hst : st.length ≤ 4) (hd : decode cc pc = .ok (.invokespecial index, 3)) (hLn : L.length = nL)
    (hC : Ct (zl z) (zD z) (zty z) y (Cond.code y bytes maxL none :: lw_big) F1 Lo1 mc1 ms1 (.ref b :: av) M Post) (hk : k + mc1 ≤ (zR z).cells) (hn : n + ms1 ≤ (zR z).slots) (h : ∀ (v : Option Value) (M' : mM), Post v M' → RN z (pc + 3) L (v.toList ++ st) M' (k + mc1) (n + ms1)) : RN z pc L (av.reverse ++ .ref b :: st) M k n := by
  obtain ⟨p, l, e, R, s, m, args, below, meth, c, Q, A, D, tys⟩ := z
  intro H locs ls ws hR hP hD hS hL
  have hcat := cat_le st
  obtain ⟨hx, hb, hml, hown, hnm, hts, hK, hA, hRF, hRL⟩ := X
  have hrun := va_runIN (l := l) (e := e) (below := below) (meth := meth) (As := av) (rest := st) (g := F0 m pc ls (av.reverse ++ .ref b :: st)) (locs := locs) (cells := k) (slots := n) ⟨hx, hb, hml, hown, hts⟩ (hC H.size ws hR) ⟨va_cnB (R := R) nA hts (gd_I hk1) rfl rfl rfl (by obtain ⟨rfl, rfl, rfl, rfl⟩ := hw2; exact hK.2.2.1) (hts _ hw1) hdd ⟨by rw [hRF]; exact hF, by rw [hRL]; exact hLo⟩, hy, hts _ hw3⟩
    ⟨m_blind, fun U hU hW => ⟨rfl, by rw [hU], by rw [hU]; exact hP, mK.warm hW hK, hD.weaken (fun _ _ _ _ => trivial)⟩⟩ rfl hav (hL.1.trans hLn) rfl (lv_room (by omega)) hd ⟨hk, hn⟩
  exact m_call hrun hD hS hA (fun v M' ws' H1 locs1 hp hR' hP' hD' hS' => h v M' hp H1 locs1 ls ws' hR' hP' hD' hS' hL)
end
section
def GT (z : zT) (cI cB cN : ClassId) : Prop := (zty z)[0]? = some (cI, .int) ∧ (zty z)[1]? = some (cB, .boolean) ∧ (zty z)[2]? = some (cN, .object RX0)
theorem BM.rc1 {z : zT} {ret : Option FieldType} {ws0 : va_W} {mc ms : Nat} {Post : Option Value → mM → Prop} (Y : BQ z ret ws0 mc ms Post) : (zR z).cells = mc := Y.rc.1
theorem BM.rc2 {z : zT} {ret : Option FieldType} {ws0 : va_W} {mc ms : Nat} {Post : Option Value → mM → Prop} (Y : BQ z ret ws0 mc ms Post) : (zR z).slots = ms := Y.rc.2
end
section
theorem d_N_init_0 : decode c_N_init 0 = .ok (.aload_n 0, 1) := by decide +kernel
theorem d_N_init_1 : decode c_N_init 1 = .ok (.invokespecial 3, 3) := by decide +kernel
theorem d_N_init_4 : decode c_N_init 4 = .ok (.aload_n 0, 1) := by decide +kernel
theorem d_N_init_5 : decode c_N_init 5 = .ok (.aconst_null, 1) := by decide +kernel
theorem d_N_init_6 : decode c_N_init 6 = .ok (.putfield 9, 3) := by decide +kernel
theorem d_N_init_9 : decode c_N_init 9 = .ok (.aload_n 0, 1) := by decide +kernel
theorem d_N_init_10 : decode c_N_init 10 = .ok (.aconst_null, 1) := by decide +kernel
theorem d_N_init_11 : decode c_N_init 11 = .ok (.putfield 15, 3) := by decide +kernel
theorem d_N_init_14 : decode c_N_init 14 = .ok (.aload_n 0, 1) := by decide +kernel
theorem d_N_init_15 : decode c_N_init 15 = .ok (.aconst_null, 1) := by decide +kernel
theorem d_N_init_16 : decode c_N_init 16 = .ok (.putfield 19, 3) := by decide +kernel
theorem d_N_init_19 : decode c_N_init 19 = .ok (.aload_n 0, 1) := by decide +kernel
theorem d_N_init_20 : decode c_N_init 20 = .ok (.aconst_null, 1) := by decide +kernel
theorem d_N_init_21 : decode c_N_init 21 = .ok (.putfield 22, 3) := by decide +kernel
theorem d_N_init_24 : decode c_N_init 24 = .ok (.return_, 1) := by decide +kernel
abbrev B_N_init (z : zT) (ws0 : va_W) (mc ms : Nat) (Post : Option Value → mM → Prop) : Prop := BX z c_N_init 1 y_N_init.cls y_N_init.name 1 12 ∧ BQ z none ws0 mc ms Post
abbrev Ct_N_init (l : Launch) (D : va_G) (tys : List (ClassId × FieldType)) (mc ms : Nat) (av : List Value) (M : mM) (Post : Option Value → mM → Prop) : Prop := Ct l D tys y_N_init w_N_init 1 12 mc ms av M Post
theorem i_N_init_0 {z : zT} {ws0 : va_W} {mc ms : Nat} {Post : Option Value → mM → Prop} (X : B_N_init z ws0 mc ms Post) {v : Value} {M : mM} {k n : Nat} (hv : mRf v := by first | exact mRf_r _ | exact mRf_n | exact mRf_rf _ | assumption) (h : RN z 1 [some v] [v] M k n) : RN z 0 [some v] [] M k n := R_aload_n X.1 d_N_init_0 rfl rfl hv h
theorem i_N_init_1 {z : zT} {ws0 : va_W} {mc ms : Nat} {Post : Option Value → mM → Prop} (X : B_N_init z ws0 mc ms Post) {a : Nat} {l0 : Option Value} {M : mM} {k n : Nat}  (h : RN z 4 [l0] [] M k n) : RN z 1 [l0] [.ref a] M k n := R_objInit X.1 wd_59 wd_42 wd_43 d_N_init_1 rfl (Nat.le_of_ble_eq_true rfl) (Nat.le_trans (Nat.add_le_add_right (cat_le _) 12) (Nat.le_of_ble_eq_true rfl)) h
theorem i_N_init_4 {z : zT} {ws0 : va_W} {mc ms : Nat} {Post : Option Value → mM → Prop} (X : B_N_init z ws0 mc ms Post) {v : Value} {M : mM} {k n : Nat} (hv : mRf v := by first | exact mRf_r _ | exact mRf_n | exact mRf_rf _ | assumption) (h : RN z 5 [some v] [v] M k n) : RN z 4 [some v] [] M k n := R_aload_n X.1 d_N_init_4 rfl rfl hv h
theorem i_N_init_5 {z : zT} {ws0 : va_W} {mc ms : Nat} {Post : Option Value → mM → Prop} (X : B_N_init z ws0 mc ms Post) {l0 : Option Value} {s0 : Value} {M : mM} {k n : Nat}  (h : RN z 6 [l0] [.null, s0] M k n) : RN z 5 [l0] [s0] M k n := R_null X.1 d_N_init_5 h
theorem i_N_init_6 {z : zT} {ws0 : va_W} {mc ms : Nat} {Post : Option Value → mM → Prop} (X : B_N_init z ws0 mc ms Post) {a : Nat} {f0 f1 f2 f3 : Value} {v : Value} {l0 : Option Value} {M : mM} {k n : Nat} (hv : mRf v := by first | exact mRf_r _ | exact mRf_n | exact mRf_rf _ | assumption) (hM : M a = some (.inr (0, [f0, f1, f2, f3]))) (h : RN z 9 [l0] [] (mS M a (.inr (0, [v, f1, f2, f3]))) k n) : RN z 6 [l0] [v, .ref a] M k n := R_put X.1 inX0 rfl 0 (Nat.le_of_ble_eq_true rfl) tyX0 tyX0_ok nmX0 wd_60 rfl (by decide +kernel : parseFieldDescriptor (TX0 0).2.2.1 = some (.object "PastTree$Spot")) (by rcases hv with rfl | ⟨_, rfl⟩ <;> rfl) (by rcases hv with rfl | ⟨_, rfl⟩ <;> rfl) d_N_init_6 hM (Nat.le_of_ble_eq_true rfl) h
theorem i_N_init_9 {z : zT} {ws0 : va_W} {mc ms : Nat} {Post : Option Value → mM → Prop} (X : B_N_init z ws0 mc ms Post) {v : Value} {M : mM} {k n : Nat} (hv : mRf v := by first | exact mRf_r _ | exact mRf_n | exact mRf_rf _ | assumption) (h : RN z 10 [some v] [v] M k n) : RN z 9 [some v] [] M k n := R_aload_n X.1 d_N_init_9 rfl rfl hv h
theorem i_N_init_10 {z : zT} {ws0 : va_W} {mc ms : Nat} {Post : Option Value → mM → Prop} (X : B_N_init z ws0 mc ms Post) {l0 : Option Value} {s0 : Value} {M : mM} {k n : Nat}  (h : RN z 11 [l0] [.null, s0] M k n) : RN z 10 [l0] [s0] M k n := R_null X.1 d_N_init_10 h
theorem i_N_init_11 {z : zT} {ws0 : va_W} {mc ms : Nat} {Post : Option Value → mM → Prop} (X : B_N_init z ws0 mc ms Post) {a : Nat} {f0 f1 f2 f3 : Value} {v : Value} {l0 : Option Value} {M : mM} {k n : Nat} (hv : mRf v := by first | exact mRf_r _ | exact mRf_n | exact mRf_rf _ | assumption) (hM : M a = some (.inr (0, [f0, f1, f2, f3]))) (h : RN z 14 [l0] [] (mS M a (.inr (0, [f0, v, f2, f3]))) k n) : RN z 11 [l0] [v, .ref a] M k n := R_put X.1 inX0 rfl 1 (Nat.le_of_ble_eq_true rfl) tyX0 tyX0_ok nmX0 wd_62 rfl (by decide +kernel : parseFieldDescriptor (TX0 1).2.2.1 = some (.object "PastTree$Version")) (by rcases hv with rfl | ⟨_, rfl⟩ <;> rfl) (by rcases hv with rfl | ⟨_, rfl⟩ <;> rfl) d_N_init_11 hM (Nat.le_of_ble_eq_true rfl) h
theorem i_N_init_14 {z : zT} {ws0 : va_W} {mc ms : Nat} {Post : Option Value → mM → Prop} (X : B_N_init z ws0 mc ms Post) {v : Value} {M : mM} {k n : Nat} (hv : mRf v := by first | exact mRf_r _ | exact mRf_n | exact mRf_rf _ | assumption) (h : RN z 15 [some v] [v] M k n) : RN z 14 [some v] [] M k n := R_aload_n X.1 d_N_init_14 rfl rfl hv h
theorem i_N_init_15 {z : zT} {ws0 : va_W} {mc ms : Nat} {Post : Option Value → mM → Prop} (X : B_N_init z ws0 mc ms Post) {l0 : Option Value} {s0 : Value} {M : mM} {k n : Nat}  (h : RN z 16 [l0] [.null, s0] M k n) : RN z 15 [l0] [s0] M k n := R_null X.1 d_N_init_15 h
theorem i_N_init_16 {z : zT} {ws0 : va_W} {mc ms : Nat} {Post : Option Value → mM → Prop} (X : B_N_init z ws0 mc ms Post) {a : Nat} {f0 f1 f2 f3 : Value} {v : Value} {l0 : Option Value} {M : mM} {k n : Nat} (hv : mRf v := by first | exact mRf_r _ | exact mRf_n | exact mRf_rf _ | assumption) (hM : M a = some (.inr (0, [f0, f1, f2, f3]))) (h : RN z 19 [l0] [] (mS M a (.inr (0, [f0, f1, v, f3]))) k n) : RN z 16 [l0] [v, .ref a] M k n := R_put X.1 inX0 rfl 2 (Nat.le_of_ble_eq_true rfl) tyX0 tyX0_ok nmX0 wd_64 rfl (by decide +kernel : parseFieldDescriptor (TX0 2).2.2.1 = some (.object "PastTree$Spot")) (by rcases hv with rfl | ⟨_, rfl⟩ <;> rfl) (by rcases hv with rfl | ⟨_, rfl⟩ <;> rfl) d_N_init_16 hM (Nat.le_of_ble_eq_true rfl) h
theorem i_N_init_19 {z : zT} {ws0 : va_W} {mc ms : Nat} {Post : Option Value → mM → Prop} (X : B_N_init z ws0 mc ms Post) {v : Value} {M : mM} {k n : Nat} (hv : mRf v := by first | exact mRf_r _ | exact mRf_n | exact mRf_rf _ | assumption) (h : RN z 20 [some v] [v] M k n) : RN z 19 [some v] [] M k n := R_aload_n X.1 d_N_init_19 rfl rfl hv h
theorem i_N_init_20 {z : zT} {ws0 : va_W} {mc ms : Nat} {Post : Option Value → mM → Prop} (X : B_N_init z ws0 mc ms Post) {l0 : Option Value} {s0 : Value} {M : mM} {k n : Nat}  (h : RN z 21 [l0] [.null, s0] M k n) : RN z 20 [l0] [s0] M k n := R_null X.1 d_N_init_20 h
theorem i_N_init_21 {z : zT} {ws0 : va_W} {mc ms : Nat} {Post : Option Value → mM → Prop} (X : B_N_init z ws0 mc ms Post) {a : Nat} {f0 f1 f2 f3 : Value} {v : Value} {l0 : Option Value} {M : mM} {k n : Nat} (hv : mRf v := by first | exact mRf_r _ | exact mRf_n | exact mRf_rf _ | assumption) (hM : M a = some (.inr (0, [f0, f1, f2, f3]))) (h : RN z 24 [l0] [] (mS M a (.inr (0, [f0, f1, f2, v]))) k n) : RN z 21 [l0] [v, .ref a] M k n := R_put X.1 inX0 rfl 3 (Nat.le_of_ble_eq_true rfl) tyX0 tyX0_ok nmX0 wd_65 rfl (by decide +kernel : parseFieldDescriptor (TX0 3).2.2.1 = some (.object "PastTree$Version")) (by rcases hv with rfl | ⟨_, rfl⟩ <;> rfl) (by rcases hv with rfl | ⟨_, rfl⟩ <;> rfl) d_N_init_21 hM (Nat.le_of_ble_eq_true rfl) h
theorem i_N_init_24 {z : zT} {ws0 : va_W} {mc ms : Nat} {Post : Option Value → mM → Prop} (X : B_N_init z ws0 mc ms Post) {l0 : Option Value} {M : mM} {k n : Nat} (hk : k ≤ mc) (hn : n ≤ ms) (hp : Post none M) : RN z 24 [l0] [] M k n := R_vret X.1 X.2 d_N_init_24 hk hn hp
theorem d_N_keep_0 : decode c_N_keep 0 = .ok (.aload_n 0, 1) := by decide +kernel
theorem d_N_keep_1 : decode c_N_keep 1 = .ok (.aload_n 0, 1) := by decide +kernel
theorem d_N_keep_2 : decode c_N_keep 2 = .ok (.getfield 9, 3) := by decide +kernel
theorem d_N_keep_5 : decode c_N_keep 5 = .ok (.putfield 19, 3) := by decide +kernel
theorem d_N_keep_8 : decode c_N_keep 8 = .ok (.aload_n 0, 1) := by decide +kernel
theorem d_N_keep_9 : decode c_N_keep 9 = .ok (.aload_n 0, 1) := by decide +kernel
theorem d_N_keep_10 : decode c_N_keep 10 = .ok (.getfield 15, 3) := by decide +kernel
theorem d_N_keep_13 : decode c_N_keep 13 = .ok (.putfield 22, 3) := by decide +kernel
theorem d_N_keep_16 : decode c_N_keep 16 = .ok (.return_, 1) := by decide +kernel
abbrev B_N_keep (z : zT) (ws0 : va_W) (mc ms : Nat) (Post : Option Value → mM → Prop) : Prop := BX z c_N_keep 1 y_N_keep.cls y_N_keep.name 0 0 ∧ BQ z none ws0 mc ms Post
abbrev Ct_N_keep (l : Launch) (D : va_G) (tys : List (ClassId × FieldType)) (mc ms : Nat) (av : List Value) (M : mM) (Post : Option Value → mM → Prop) : Prop := Ct l D tys y_N_keep w_N_keep 0 0 mc ms av M Post
theorem i_N_keep_0 {z : zT} {ws0 : va_W} {mc ms : Nat} {Post : Option Value → mM → Prop} (X : B_N_keep z ws0 mc ms Post) {v : Value} {M : mM} {k n : Nat} (hv : mRf v := by first | exact mRf_r _ | exact mRf_n | exact mRf_rf _ | assumption) (h : RN z 1 [some v] [v] M k n) : RN z 0 [some v] [] M k n := R_aload_n X.1 d_N_keep_0 rfl rfl hv h
theorem i_N_keep_1 {z : zT} {ws0 : va_W} {mc ms : Nat} {Post : Option Value → mM → Prop} (X : B_N_keep z ws0 mc ms Post) {v : Value} {s0 : Value} {M : mM} {k n : Nat} (hv : mRf v := by first | exact mRf_r _ | exact mRf_n | exact mRf_rf _ | assumption) (h : RN z 2 [some v] [v, s0] M k n) : RN z 1 [some v] [s0] M k n := R_aload_n X.1 d_N_keep_1 rfl rfl hv h
theorem i_N_keep_2 {z : zT} {ws0 : va_W} {mc ms : Nat} {Post : Option Value → mM → Prop} (X : B_N_keep z ws0 mc ms Post) {a : Nat} {f0 f1 f2 f3 : Value} {l0 : Option Value} {s0 : Value} {M : mM} {k n : Nat} (hM : M a = some (.inr (0, [f0, f1, f2, f3]))) (h : RN z 5 [l0] [f0, s0] M k n) : RN z 2 [l0] [.ref a, s0] M k n := R_get X.1 inX0 rfl 0 (Nat.le_of_ble_eq_true rfl) wd_60 d_N_keep_2 hM rfl h
theorem i_N_keep_5 {z : zT} {ws0 : va_W} {mc ms : Nat} {Post : Option Value → mM → Prop} (X : B_N_keep z ws0 mc ms Post) {a : Nat} {f0 f1 f2 f3 : Value} {v : Value} {l0 : Option Value} {M : mM} {k n : Nat} (hv : mRf v := by first | exact mRf_r _ | exact mRf_n | exact mRf_rf _ | assumption) (hM : M a = some (.inr (0, [f0, f1, f2, f3]))) (h : RN z 8 [l0] [] (mS M a (.inr (0, [f0, f1, v, f3]))) k n) : RN z 5 [l0] [v, .ref a] M k n := R_put X.1 inX0 rfl 2 (Nat.le_of_ble_eq_true rfl) tyX0 tyX0_ok nmX0 wd_64 rfl (by decide +kernel : parseFieldDescriptor (TX0 2).2.2.1 = some (.object "PastTree$Spot")) (by rcases hv with rfl | ⟨_, rfl⟩ <;> rfl) (by rcases hv with rfl | ⟨_, rfl⟩ <;> rfl) d_N_keep_5 hM (Nat.le_of_ble_eq_true rfl) h
theorem i_N_keep_8 {z : zT} {ws0 : va_W} {mc ms : Nat} {Post : Option Value → mM → Prop} (X : B_N_keep z ws0 mc ms Post) {v : Value} {M : mM} {k n : Nat} (hv : mRf v := by first | exact mRf_r _ | exact mRf_n | exact mRf_rf _ | assumption) (h : RN z 9 [some v] [v] M k n) : RN z 8 [some v] [] M k n := R_aload_n X.1 d_N_keep_8 rfl rfl hv h
theorem i_N_keep_9 {z : zT} {ws0 : va_W} {mc ms : Nat} {Post : Option Value → mM → Prop} (X : B_N_keep z ws0 mc ms Post) {v : Value} {s0 : Value} {M : mM} {k n : Nat} (hv : mRf v := by first | exact mRf_r _ | exact mRf_n | exact mRf_rf _ | assumption) (h : RN z 10 [some v] [v, s0] M k n) : RN z 9 [some v] [s0] M k n := R_aload_n X.1 d_N_keep_9 rfl rfl hv h
theorem i_N_keep_10 {z : zT} {ws0 : va_W} {mc ms : Nat} {Post : Option Value → mM → Prop} (X : B_N_keep z ws0 mc ms Post) {a : Nat} {f0 f1 f2 f3 : Value} {l0 : Option Value} {s0 : Value} {M : mM} {k n : Nat} (hM : M a = some (.inr (0, [f0, f1, f2, f3]))) (h : RN z 13 [l0] [f1, s0] M k n) : RN z 10 [l0] [.ref a, s0] M k n := R_get X.1 inX0 rfl 1 (Nat.le_of_ble_eq_true rfl) wd_62 d_N_keep_10 hM rfl h
theorem i_N_keep_13 {z : zT} {ws0 : va_W} {mc ms : Nat} {Post : Option Value → mM → Prop} (X : B_N_keep z ws0 mc ms Post) {a : Nat} {f0 f1 f2 f3 : Value} {v : Value} {l0 : Option Value} {M : mM} {k n : Nat} (hv : mRf v := by first | exact mRf_r _ | exact mRf_n | exact mRf_rf _ | assumption) (hM : M a = some (.inr (0, [f0, f1, f2, f3]))) (h : RN z 16 [l0] [] (mS M a (.inr (0, [f0, f1, f2, v]))) k n) : RN z 13 [l0] [v, .ref a] M k n := R_put X.1 inX0 rfl 3 (Nat.le_of_ble_eq_true rfl) tyX0 tyX0_ok nmX0 wd_65 rfl (by decide +kernel : parseFieldDescriptor (TX0 3).2.2.1 = some (.object "PastTree$Version")) (by rcases hv with rfl | ⟨_, rfl⟩ <;> rfl) (by rcases hv with rfl | ⟨_, rfl⟩ <;> rfl) d_N_keep_13 hM (Nat.le_of_ble_eq_true rfl) h
theorem i_N_keep_16 {z : zT} {ws0 : va_W} {mc ms : Nat} {Post : Option Value → mM → Prop} (X : B_N_keep z ws0 mc ms Post) {l0 : Option Value} {M : mM} {k n : Nat} (hk : k ≤ mc) (hn : n ≤ ms) (hp : Post none M) : RN z 16 [l0] [] M k n := R_vret X.1 X.2 d_N_keep_16 hk hn hp
theorem d_N_goBack_0 : decode c_N_goBack 0 = .ok (.aload_n 0, 1) := by decide +kernel
theorem d_N_goBack_1 : decode c_N_goBack 1 = .ok (.aload_n 0, 1) := by decide +kernel
theorem d_N_goBack_2 : decode c_N_goBack 2 = .ok (.getfield 19, 3) := by decide +kernel
theorem d_N_goBack_5 : decode c_N_goBack 5 = .ok (.putfield 9, 3) := by decide +kernel
theorem d_N_goBack_8 : decode c_N_goBack 8 = .ok (.aload_n 0, 1) := by decide +kernel
theorem d_N_goBack_9 : decode c_N_goBack 9 = .ok (.aload_n 0, 1) := by decide +kernel
theorem d_N_goBack_10 : decode c_N_goBack 10 = .ok (.getfield 22, 3) := by decide +kernel
theorem d_N_goBack_13 : decode c_N_goBack 13 = .ok (.putfield 15, 3) := by decide +kernel
theorem d_N_goBack_16 : decode c_N_goBack 16 = .ok (.return_, 1) := by decide +kernel
abbrev B_N_goBack (z : zT) (ws0 : va_W) (mc ms : Nat) (Post : Option Value → mM → Prop) : Prop := BX z c_N_goBack 1 y_N_goBack.cls y_N_goBack.name 0 0 ∧ BQ z none ws0 mc ms Post
abbrev Ct_N_goBack (l : Launch) (D : va_G) (tys : List (ClassId × FieldType)) (mc ms : Nat) (av : List Value) (M : mM) (Post : Option Value → mM → Prop) : Prop := Ct l D tys y_N_goBack w_N_goBack 0 0 mc ms av M Post
theorem i_N_goBack_0 {z : zT} {ws0 : va_W} {mc ms : Nat} {Post : Option Value → mM → Prop} (X : B_N_goBack z ws0 mc ms Post) {v : Value} {M : mM} {k n : Nat} (hv : mRf v := by first | exact mRf_r _ | exact mRf_n | exact mRf_rf _ | assumption) (h : RN z 1 [some v] [v] M k n) : RN z 0 [some v] [] M k n := R_aload_n X.1 d_N_goBack_0 rfl rfl hv h
theorem i_N_goBack_1 {z : zT} {ws0 : va_W} {mc ms : Nat} {Post : Option Value → mM → Prop} (X : B_N_goBack z ws0 mc ms Post) {v : Value} {s0 : Value} {M : mM} {k n : Nat} (hv : mRf v := by first | exact mRf_r _ | exact mRf_n | exact mRf_rf _ | assumption) (h : RN z 2 [some v] [v, s0] M k n) : RN z 1 [some v] [s0] M k n := R_aload_n X.1 d_N_goBack_1 rfl rfl hv h
theorem i_N_goBack_2 {z : zT} {ws0 : va_W} {mc ms : Nat} {Post : Option Value → mM → Prop} (X : B_N_goBack z ws0 mc ms Post) {a : Nat} {f0 f1 f2 f3 : Value} {l0 : Option Value} {s0 : Value} {M : mM} {k n : Nat} (hM : M a = some (.inr (0, [f0, f1, f2, f3]))) (h : RN z 5 [l0] [f2, s0] M k n) : RN z 2 [l0] [.ref a, s0] M k n := R_get X.1 inX0 rfl 2 (Nat.le_of_ble_eq_true rfl) wd_64 d_N_goBack_2 hM rfl h
theorem i_N_goBack_5 {z : zT} {ws0 : va_W} {mc ms : Nat} {Post : Option Value → mM → Prop} (X : B_N_goBack z ws0 mc ms Post) {a : Nat} {f0 f1 f2 f3 : Value} {v : Value} {l0 : Option Value} {M : mM} {k n : Nat} (hv : mRf v := by first | exact mRf_r _ | exact mRf_n | exact mRf_rf _ | assumption) (hM : M a = some (.inr (0, [f0, f1, f2, f3]))) (h : RN z 8 [l0] [] (mS M a (.inr (0, [v, f1, f2, f3]))) k n) : RN z 5 [l0] [v, .ref a] M k n := R_put X.1 inX0 rfl 0 (Nat.le_of_ble_eq_true rfl) tyX0 tyX0_ok nmX0 wd_60 rfl (by decide +kernel : parseFieldDescriptor (TX0 0).2.2.1 = some (.object "PastTree$Spot")) (by rcases hv with rfl | ⟨_, rfl⟩ <;> rfl) (by rcases hv with rfl | ⟨_, rfl⟩ <;> rfl) d_N_goBack_5 hM (Nat.le_of_ble_eq_true rfl) h
theorem i_N_goBack_8 {z : zT} {ws0 : va_W} {mc ms : Nat} {Post : Option Value → mM → Prop} (X : B_N_goBack z ws0 mc ms Post) {v : Value} {M : mM} {k n : Nat} (hv : mRf v := by first | exact mRf_r _ | exact mRf_n | exact mRf_rf _ | assumption) (h : RN z 9 [some v] [v] M k n) : RN z 8 [some v] [] M k n := R_aload_n X.1 d_N_goBack_8 rfl rfl hv h
theorem i_N_goBack_9 {z : zT} {ws0 : va_W} {mc ms : Nat} {Post : Option Value → mM → Prop} (X : B_N_goBack z ws0 mc ms Post) {v : Value} {s0 : Value} {M : mM} {k n : Nat} (hv : mRf v := by first | exact mRf_r _ | exact mRf_n | exact mRf_rf _ | assumption) (h : RN z 10 [some v] [v, s0] M k n) : RN z 9 [some v] [s0] M k n := R_aload_n X.1 d_N_goBack_9 rfl rfl hv h
theorem i_N_goBack_10 {z : zT} {ws0 : va_W} {mc ms : Nat} {Post : Option Value → mM → Prop} (X : B_N_goBack z ws0 mc ms Post) {a : Nat} {f0 f1 f2 f3 : Value} {l0 : Option Value} {s0 : Value} {M : mM} {k n : Nat} (hM : M a = some (.inr (0, [f0, f1, f2, f3]))) (h : RN z 13 [l0] [f3, s0] M k n) : RN z 10 [l0] [.ref a, s0] M k n := R_get X.1 inX0 rfl 3 (Nat.le_of_ble_eq_true rfl) wd_65 d_N_goBack_10 hM rfl h
theorem i_N_goBack_13 {z : zT} {ws0 : va_W} {mc ms : Nat} {Post : Option Value → mM → Prop} (X : B_N_goBack z ws0 mc ms Post) {a : Nat} {f0 f1 f2 f3 : Value} {v : Value} {l0 : Option Value} {M : mM} {k n : Nat} (hv : mRf v := by first | exact mRf_r _ | exact mRf_n | exact mRf_rf _ | assumption) (hM : M a = some (.inr (0, [f0, f1, f2, f3]))) (h : RN z 16 [l0] [] (mS M a (.inr (0, [f0, v, f2, f3]))) k n) : RN z 13 [l0] [v, .ref a] M k n := R_put X.1 inX0 rfl 1 (Nat.le_of_ble_eq_true rfl) tyX0 tyX0_ok nmX0 wd_62 rfl (by decide +kernel : parseFieldDescriptor (TX0 1).2.2.1 = some (.object "PastTree$Version")) (by rcases hv with rfl | ⟨_, rfl⟩ <;> rfl) (by rcases hv with rfl | ⟨_, rfl⟩ <;> rfl) d_N_goBack_13 hM (Nat.le_of_ble_eq_true rfl) h
theorem i_N_goBack_16 {z : zT} {ws0 : va_W} {mc ms : Nat} {Post : Option Value → mM → Prop} (X : B_N_goBack z ws0 mc ms Post) {l0 : Option Value} {M : mM} {k n : Nat} (hk : k ≤ mc) (hn : n ≤ ms) (hp : Post none M) : RN z 16 [l0] [] M k n := R_vret X.1 X.2 d_N_goBack_16 hk hn hp
theorem d_N_placeAsOf_0 : decode c_N_placeAsOf 0 = .ok (.aload_n 0, 1) := by decide +kernel
theorem d_N_placeAsOf_1 : decode c_N_placeAsOf 1 = .ok (.getfield 9, 3) := by decide +kernel
theorem d_N_placeAsOf_4 : decode c_N_placeAsOf 4 = .ok (.astore_n 2, 1) := by decide +kernel
theorem d_N_placeAsOf_5 : decode c_N_placeAsOf 5 = .ok (.aload_n 2, 1) := by decide +kernel
theorem d_N_placeAsOf_6 : decode c_N_placeAsOf 6 = .ok (.ifnull 19, 3) := by decide +kernel
theorem d_N_placeAsOf_9 : decode c_N_placeAsOf 9 = .ok (.aload_n 2, 1) := by decide +kernel
theorem d_N_placeAsOf_10 : decode c_N_placeAsOf 10 = .ok (.getfield 25, 3) := by decide +kernel
theorem d_N_placeAsOf_13 : decode c_N_placeAsOf 13 = .ok (.iload_n 1, 1) := by decide +kernel
theorem d_N_placeAsOf_14 : decode c_N_placeAsOf 14 = .ok (.if_icmp .le 11, 3) := by decide +kernel
theorem d_N_placeAsOf_17 : decode c_N_placeAsOf 17 = .ok (.aload_n 2, 1) := by decide +kernel
theorem d_N_placeAsOf_18 : decode c_N_placeAsOf 18 = .ok (.getfield 31, 3) := by decide +kernel
theorem d_N_placeAsOf_21 : decode c_N_placeAsOf 21 = .ok (.astore_n 2, 1) := by decide +kernel
theorem d_N_placeAsOf_22 : decode c_N_placeAsOf 22 = .ok (.goto (-17), 3) := by decide +kernel
theorem d_N_placeAsOf_25 : decode c_N_placeAsOf 25 = .ok (.aload_n 2, 1) := by decide +kernel
theorem d_N_placeAsOf_26 : decode c_N_placeAsOf 26 = .ok (.ifnonnull 7, 3) := by decide +kernel
theorem d_N_placeAsOf_29 : decode c_N_placeAsOf 29 = .ok (.iconst (-1), 1) := by decide +kernel
theorem d_N_placeAsOf_30 : decode c_N_placeAsOf 30 = .ok (.goto 7, 3) := by decide +kernel
theorem d_N_placeAsOf_33 : decode c_N_placeAsOf 33 = .ok (.aload_n 2, 1) := by decide +kernel
theorem d_N_placeAsOf_34 : decode c_N_placeAsOf 34 = .ok (.getfield 34, 3) := by decide +kernel
theorem d_N_placeAsOf_37 : decode c_N_placeAsOf 37 = .ok (.ireturn, 1) := by decide +kernel
abbrev B_N_placeAsOf (z : zT) (ws0 : va_W) (mc ms : Nat) (Post : Option Value → mM → Prop) : Prop := BX z c_N_placeAsOf 3 y_N_placeAsOf.cls y_N_placeAsOf.name 0 0 ∧ BQ z (some (.int)) ws0 mc ms Post
abbrev Ct_N_placeAsOf (l : Launch) (D : va_G) (tys : List (ClassId × FieldType)) (mc ms : Nat) (av : List Value) (M : mM) (Post : Option Value → mM → Prop) : Prop := Ct l D tys y_N_placeAsOf w_N_placeAsOf 0 0 mc ms av M Post
theorem i_N_placeAsOf_0 {z : zT} {ws0 : va_W} {mc ms : Nat} {Post : Option Value → mM → Prop} (X : B_N_placeAsOf z ws0 mc ms Post) {v : Value} {l1 l2 : Option Value} {M : mM} {k n : Nat} (hv : mRf v := by first | exact mRf_r _ | exact mRf_n | exact mRf_rf _ | assumption) (h : RN z 1 [some v, l1, l2] [v] M k n) : RN z 0 [some v, l1, l2] [] M k n := R_aload_n X.1 d_N_placeAsOf_0 rfl rfl hv h
theorem i_N_placeAsOf_1 {z : zT} {ws0 : va_W} {mc ms : Nat} {Post : Option Value → mM → Prop} (X : B_N_placeAsOf z ws0 mc ms Post) {a : Nat} {f0 f1 f2 f3 : Value} {l0 l1 l2 : Option Value} {M : mM} {k n : Nat} (hM : M a = some (.inr (0, [f0, f1, f2, f3]))) (h : RN z 4 [l0, l1, l2] [f0] M k n) : RN z 1 [l0, l1, l2] [.ref a] M k n := R_get X.1 inX0 rfl 0 (Nat.le_of_ble_eq_true rfl) wd_60 d_N_placeAsOf_1 hM rfl h
theorem i_N_placeAsOf_4 {z : zT} {ws0 : va_W} {mc ms : Nat} {Post : Option Value → mM → Prop} (X : B_N_placeAsOf z ws0 mc ms Post) {v : Value} {l0 l1 l2 : Option Value} {M : mM} {k n : Nat} (hv : mRf v := by first | exact mRf_r _ | exact mRf_n | exact mRf_rf _ | assumption) (h : RN z 5 [l0, l1, some v] [] M k n) : RN z 4 [l0, l1, l2] [v] M k n := R_astore_n X.1 d_N_placeAsOf_4 rfl hv (Nat.le_of_ble_eq_true rfl) h
theorem i_N_placeAsOf_5 {z : zT} {ws0 : va_W} {mc ms : Nat} {Post : Option Value → mM → Prop} (X : B_N_placeAsOf z ws0 mc ms Post) {v : Value} {l0 l1 : Option Value} {M : mM} {k n : Nat} (hv : mRf v := by first | exact mRf_r _ | exact mRf_n | exact mRf_rf _ | assumption) (h : RN z 6 [l0, l1, some v] [v] M k n) : RN z 5 [l0, l1, some v] [] M k n := R_aload_n X.1 d_N_placeAsOf_5 rfl rfl hv h
theorem i_N_placeAsOf_6 {z : zT} {ws0 : va_W} {mc ms : Nat} {Post : Option Value → mM → Prop} (X : B_N_placeAsOf z ws0 mc ms Post) {v : Value} {l0 l1 l2 : Option Value} {M : mM} {k n : Nat} (hv : mRf v := by first | exact mRf_r _ | exact mRf_n | exact mRf_rf _ | assumption) (h1 : v = .null → RN z 25 [l0, l1, l2] [] M k n) (h2 : ∀ a, v = .ref a → RN z 9 [l0, l1, l2] [] M k n) : RN z 6 [l0, l1, l2] [v] M k n := R_ifnull X.1 d_N_placeAsOf_6 (by decide) hv h1 h2
theorem i_N_placeAsOf_9 {z : zT} {ws0 : va_W} {mc ms : Nat} {Post : Option Value → mM → Prop} (X : B_N_placeAsOf z ws0 mc ms Post) {v : Value} {l0 l1 : Option Value} {M : mM} {k n : Nat} (hv : mRf v := by first | exact mRf_r _ | exact mRf_n | exact mRf_rf _ | assumption) (h : RN z 10 [l0, l1, some v] [v] M k n) : RN z 9 [l0, l1, some v] [] M k n := R_aload_n X.1 d_N_placeAsOf_9 rfl rfl hv h
theorem i_N_placeAsOf_10 {z : zT} {ws0 : va_W} {mc ms : Nat} {Post : Option Value → mM → Prop} (X : B_N_placeAsOf z ws0 mc ms Post) {a : Nat} {f0 f1 f2 : Value} {l0 l1 l2 : Option Value} {M : mM} {k n : Nat} (hM : M a = some (.inr (1, [f0, f1, f2]))) (h : RN z 13 [l0, l1, l2] [f0] M k n) : RN z 10 [l0, l1, l2] [.ref a] M k n := R_get X.1 inX1 rfl 0 (Nat.le_of_ble_eq_true rfl) wd_190 d_N_placeAsOf_10 hM rfl h
theorem i_N_placeAsOf_13 {z : zT} {ws0 : va_W} {mc ms : Nat} {Post : Option Value → mM → Prop} (X : B_N_placeAsOf z ws0 mc ms Post) {x : Int32} {l0 l2 : Option Value} {s0 : Value} {M : mM} {k n : Nat}  (h : RN z 14 [l0, some (.int x), l2] [.int x, s0] M k n) : RN z 13 [l0, some (.int x), l2] [s0] M k n := R_iload_n X.1 d_N_placeAsOf_13 rfl rfl h
theorem i_N_placeAsOf_14 {z : zT} {ws0 : va_W} {mc ms : Nat} {Post : Option Value → mM → Prop} (X : B_N_placeAsOf z ws0 mc ms Post) {x y : Int32} {l0 l1 l2 : Option Value} {M : mM} {k n : Nat}  (h1 : x ≤ y → RN z 25 [l0, l1, l2] [] M k n) (h2 : ¬ (x ≤ y) → RN z 17 [l0, l1, l2] [] M k n) : RN z 14 [l0, l1, l2] [.int y, .int x] M k n := R_icmp_le X.1 d_N_placeAsOf_14 (by decide) h1 h2
theorem i_N_placeAsOf_17 {z : zT} {ws0 : va_W} {mc ms : Nat} {Post : Option Value → mM → Prop} (X : B_N_placeAsOf z ws0 mc ms Post) {v : Value} {l0 l1 : Option Value} {M : mM} {k n : Nat} (hv : mRf v := by first | exact mRf_r _ | exact mRf_n | exact mRf_rf _ | assumption) (h : RN z 18 [l0, l1, some v] [v] M k n) : RN z 17 [l0, l1, some v] [] M k n := R_aload_n X.1 d_N_placeAsOf_17 rfl rfl hv h
theorem i_N_placeAsOf_18 {z : zT} {ws0 : va_W} {mc ms : Nat} {Post : Option Value → mM → Prop} (X : B_N_placeAsOf z ws0 mc ms Post) {a : Nat} {f0 f1 f2 : Value} {l0 l1 l2 : Option Value} {M : mM} {k n : Nat} (hM : M a = some (.inr (1, [f0, f1, f2]))) (h : RN z 21 [l0, l1, l2] [f2] M k n) : RN z 18 [l0, l1, l2] [.ref a] M k n := R_get X.1 inX1 rfl 2 (Nat.le_of_ble_eq_true rfl) wd_194 d_N_placeAsOf_18 hM rfl h
theorem i_N_placeAsOf_21 {z : zT} {ws0 : va_W} {mc ms : Nat} {Post : Option Value → mM → Prop} (X : B_N_placeAsOf z ws0 mc ms Post) {v : Value} {l0 l1 l2 : Option Value} {M : mM} {k n : Nat} (hv : mRf v := by first | exact mRf_r _ | exact mRf_n | exact mRf_rf _ | assumption) (h : RN z 22 [l0, l1, some v] [] M k n) : RN z 21 [l0, l1, l2] [v] M k n := R_astore_n X.1 d_N_placeAsOf_21 rfl hv (Nat.le_of_ble_eq_true rfl) h
theorem i_N_placeAsOf_22 {z : zT} {ws0 : va_W} {mc ms : Nat} {Post : Option Value → mM → Prop} (X : B_N_placeAsOf z ws0 mc ms Post) {l0 l1 l2 : Option Value} {M : mM} {k n : Nat}  (h : RN z 5 [l0, l1, l2] [] M k n) : RN z 22 [l0, l1, l2] [] M k n := R_goto X.1 d_N_placeAsOf_22 (by decide) h
theorem i_N_placeAsOf_25 {z : zT} {ws0 : va_W} {mc ms : Nat} {Post : Option Value → mM → Prop} (X : B_N_placeAsOf z ws0 mc ms Post) {v : Value} {l0 l1 : Option Value} {M : mM} {k n : Nat} (hv : mRf v := by first | exact mRf_r _ | exact mRf_n | exact mRf_rf _ | assumption) (h : RN z 26 [l0, l1, some v] [v] M k n) : RN z 25 [l0, l1, some v] [] M k n := R_aload_n X.1 d_N_placeAsOf_25 rfl rfl hv h
theorem i_N_placeAsOf_26 {z : zT} {ws0 : va_W} {mc ms : Nat} {Post : Option Value → mM → Prop} (X : B_N_placeAsOf z ws0 mc ms Post) {v : Value} {l0 l1 l2 : Option Value} {M : mM} {k n : Nat} (hv : mRf v := by first | exact mRf_r _ | exact mRf_n | exact mRf_rf _ | assumption) (h1 : ∀ a, v = .ref a → RN z 33 [l0, l1, l2] [] M k n) (h2 : v = .null → RN z 29 [l0, l1, l2] [] M k n) : RN z 26 [l0, l1, l2] [v] M k n := R_ifnonnull X.1 d_N_placeAsOf_26 (by decide) hv h1 h2
theorem i_N_placeAsOf_29 {z : zT} {ws0 : va_W} {mc ms : Nat} {Post : Option Value → mM → Prop} (X : B_N_placeAsOf z ws0 mc ms Post) {l0 l1 l2 : Option Value} {M : mM} {k n : Nat}  (h : RN z 30 [l0, l1, l2] [.int (-1)] M k n) : RN z 29 [l0, l1, l2] [] M k n := R_iconst X.1 d_N_placeAsOf_29 (by decide) h
theorem i_N_placeAsOf_30 {z : zT} {ws0 : va_W} {mc ms : Nat} {Post : Option Value → mM → Prop} (X : B_N_placeAsOf z ws0 mc ms Post) {l0 l1 l2 : Option Value} {s0 : Value} {M : mM} {k n : Nat}  (h : RN z 37 [l0, l1, l2] [s0] M k n) : RN z 30 [l0, l1, l2] [s0] M k n := R_goto X.1 d_N_placeAsOf_30 (by decide) h
theorem i_N_placeAsOf_33 {z : zT} {ws0 : va_W} {mc ms : Nat} {Post : Option Value → mM → Prop} (X : B_N_placeAsOf z ws0 mc ms Post) {v : Value} {l0 l1 : Option Value} {M : mM} {k n : Nat} (hv : mRf v := by first | exact mRf_r _ | exact mRf_n | exact mRf_rf _ | assumption) (h : RN z 34 [l0, l1, some v] [v] M k n) : RN z 33 [l0, l1, some v] [] M k n := R_aload_n X.1 d_N_placeAsOf_33 rfl rfl hv h
theorem i_N_placeAsOf_34 {z : zT} {ws0 : va_W} {mc ms : Nat} {Post : Option Value → mM → Prop} (X : B_N_placeAsOf z ws0 mc ms Post) {a : Nat} {f0 f1 f2 : Value} {l0 l1 l2 : Option Value} {M : mM} {k n : Nat} (hM : M a = some (.inr (1, [f0, f1, f2]))) (h : RN z 37 [l0, l1, l2] [f1] M k n) : RN z 34 [l0, l1, l2] [.ref a] M k n := R_get X.1 inX1 rfl 1 (Nat.le_of_ble_eq_true rfl) wd_192 d_N_placeAsOf_34 hM rfl h
theorem i_N_placeAsOf_37 {z : zT} {ws0 : va_W} {mc ms : Nat} {Post : Option Value → mM → Prop} (X : B_N_placeAsOf z ws0 mc ms Post) {x : Int32} {l0 l1 l2 : Option Value} {M : mM} {k n : Nat} (hk : k ≤ mc) (hn : n ≤ ms) (hp : Post (some (.int x)) M) : RN z 37 [l0, l1, l2] [.int x] M k n := R_iret X.1 X.2 d_N_placeAsOf_37 hk hn hp
theorem d_S_init_0 : decode c_S_init 0 = .ok (.aload_n 0, 1) := by decide +kernel
theorem d_S_init_1 : decode c_S_init 1 = .ok (.invokespecial 1, 3) := by decide +kernel
theorem d_S_init_4 : decode c_S_init 4 = .ok (.aload_n 0, 1) := by decide +kernel
theorem d_S_init_5 : decode c_S_init 5 = .ok (.iload_n 1, 1) := by decide +kernel
theorem d_S_init_6 : decode c_S_init 6 = .ok (.putfield 7, 3) := by decide +kernel
theorem d_S_init_9 : decode c_S_init 9 = .ok (.aload_n 0, 1) := by decide +kernel
theorem d_S_init_10 : decode c_S_init 10 = .ok (.iload_n 2, 1) := by decide +kernel
theorem d_S_init_11 : decode c_S_init 11 = .ok (.putfield 13, 3) := by decide +kernel
theorem d_S_init_14 : decode c_S_init 14 = .ok (.aload_n 0, 1) := by decide +kernel
theorem d_S_init_15 : decode c_S_init 15 = .ok (.aload_n 3, 1) := by decide +kernel
theorem d_S_init_16 : decode c_S_init 16 = .ok (.putfield 16, 3) := by decide +kernel
theorem d_S_init_19 : decode c_S_init 19 = .ok (.return_, 1) := by decide +kernel
abbrev B_S_init (z : zT) (ws0 : va_W) (mc ms : Nat) (Post : Option Value → mM → Prop) : Prop := BX z c_S_init 4 y_S_init.cls y_S_init.name 1 12 ∧ BQ z none ws0 mc ms Post
abbrev Ct_S_init (l : Launch) (D : va_G) (tys : List (ClassId × FieldType)) (mc ms : Nat) (av : List Value) (M : mM) (Post : Option Value → mM → Prop) : Prop := Ct l D tys y_S_init w_S_init 1 12 mc ms av M Post
theorem i_S_init_0 {z : zT} {ws0 : va_W} {mc ms : Nat} {Post : Option Value → mM → Prop} (X : B_S_init z ws0 mc ms Post) {v : Value} {l1 l2 l3 : Option Value} {M : mM} {k n : Nat} (hv : mRf v := by first | exact mRf_r _ | exact mRf_n | exact mRf_rf _ | assumption) (h : RN z 1 [some v, l1, l2, l3] [v] M k n) : RN z 0 [some v, l1, l2, l3] [] M k n := R_aload_n X.1 d_S_init_0 rfl rfl hv h
theorem i_S_init_1 {z : zT} {ws0 : va_W} {mc ms : Nat} {Post : Option Value → mM → Prop} (X : B_S_init z ws0 mc ms Post) {a : Nat} {l0 l1 l2 l3 : Option Value} {M : mM} {k n : Nat}  (h : RN z 4 [l0, l1, l2, l3] [] M k n) : RN z 1 [l0, l1, l2, l3] [.ref a] M k n := R_objInit X.1 wd_188 wd_42 wd_43 d_S_init_1 rfl (Nat.le_of_ble_eq_true rfl) (Nat.le_trans (Nat.add_le_add_right (cat_le _) 12) (Nat.le_of_ble_eq_true rfl)) h
theorem i_S_init_4 {z : zT} {ws0 : va_W} {mc ms : Nat} {Post : Option Value → mM → Prop} (X : B_S_init z ws0 mc ms Post) {v : Value} {l1 l2 l3 : Option Value} {M : mM} {k n : Nat} (hv : mRf v := by first | exact mRf_r _ | exact mRf_n | exact mRf_rf _ | assumption) (h : RN z 5 [some v, l1, l2, l3] [v] M k n) : RN z 4 [some v, l1, l2, l3] [] M k n := R_aload_n X.1 d_S_init_4 rfl rfl hv h
theorem i_S_init_5 {z : zT} {ws0 : va_W} {mc ms : Nat} {Post : Option Value → mM → Prop} (X : B_S_init z ws0 mc ms Post) {x : Int32} {l0 l2 l3 : Option Value} {s0 : Value} {M : mM} {k n : Nat}  (h : RN z 6 [l0, some (.int x), l2, l3] [.int x, s0] M k n) : RN z 5 [l0, some (.int x), l2, l3] [s0] M k n := R_iload_n X.1 d_S_init_5 rfl rfl h
theorem i_S_init_6 {z : zT} {ws0 : va_W} {mc ms : Nat} {Post : Option Value → mM → Prop} (X : B_S_init z ws0 mc ms Post) {a : Nat} {f0 f1 f2 : Value} {x : Int32} {l0 l1 l2 l3 : Option Value} {M : mM} {k n : Nat} (hM : M a = some (.inr (1, [f0, f1, f2]))) (h : RN z 9 [l0, l1, l2, l3] [] (mS M a (.inr (1, [.int x, f1, f2]))) k n) : RN z 6 [l0, l1, l2, l3] [.int x, .ref a] M k n := R_putF X.1 inX1 rfl 0 (Nat.le_of_ble_eq_true rfl) tyX1 tyX1_ok nmX1 wd_189 rfl rfl rfl (by decide +kernel : parseFieldDescriptor (TX1 0).2.2.1 = some (.int)) rfl rfl d_S_init_6 hM (Nat.le_of_ble_eq_true rfl) h
theorem i_S_init_9 {z : zT} {ws0 : va_W} {mc ms : Nat} {Post : Option Value → mM → Prop} (X : B_S_init z ws0 mc ms Post) {v : Value} {l1 l2 l3 : Option Value} {M : mM} {k n : Nat} (hv : mRf v := by first | exact mRf_r _ | exact mRf_n | exact mRf_rf _ | assumption) (h : RN z 10 [some v, l1, l2, l3] [v] M k n) : RN z 9 [some v, l1, l2, l3] [] M k n := R_aload_n X.1 d_S_init_9 rfl rfl hv h
theorem i_S_init_10 {z : zT} {ws0 : va_W} {mc ms : Nat} {Post : Option Value → mM → Prop} (X : B_S_init z ws0 mc ms Post) {x : Int32} {l0 l1 l3 : Option Value} {s0 : Value} {M : mM} {k n : Nat}  (h : RN z 11 [l0, l1, some (.int x), l3] [.int x, s0] M k n) : RN z 10 [l0, l1, some (.int x), l3] [s0] M k n := R_iload_n X.1 d_S_init_10 rfl rfl h
theorem i_S_init_11 {z : zT} {ws0 : va_W} {mc ms : Nat} {Post : Option Value → mM → Prop} (X : B_S_init z ws0 mc ms Post) {a : Nat} {f0 f1 f2 : Value} {x : Int32} {l0 l1 l2 l3 : Option Value} {M : mM} {k n : Nat} (hM : M a = some (.inr (1, [f0, f1, f2]))) (h : RN z 14 [l0, l1, l2, l3] [] (mS M a (.inr (1, [f0, .int x, f2]))) k n) : RN z 11 [l0, l1, l2, l3] [.int x, .ref a] M k n := R_putF X.1 inX1 rfl 1 (Nat.le_of_ble_eq_true rfl) tyX1 tyX1_ok nmX1 wd_191 rfl rfl rfl (by decide +kernel : parseFieldDescriptor (TX1 1).2.2.1 = some (.int)) rfl rfl d_S_init_11 hM (Nat.le_of_ble_eq_true rfl) h
theorem i_S_init_14 {z : zT} {ws0 : va_W} {mc ms : Nat} {Post : Option Value → mM → Prop} (X : B_S_init z ws0 mc ms Post) {v : Value} {l1 l2 l3 : Option Value} {M : mM} {k n : Nat} (hv : mRf v := by first | exact mRf_r _ | exact mRf_n | exact mRf_rf _ | assumption) (h : RN z 15 [some v, l1, l2, l3] [v] M k n) : RN z 14 [some v, l1, l2, l3] [] M k n := R_aload_n X.1 d_S_init_14 rfl rfl hv h
theorem i_S_init_15 {z : zT} {ws0 : va_W} {mc ms : Nat} {Post : Option Value → mM → Prop} (X : B_S_init z ws0 mc ms Post) {v : Value} {l0 l1 l2 : Option Value} {s0 : Value} {M : mM} {k n : Nat} (hv : mRf v := by first | exact mRf_r _ | exact mRf_n | exact mRf_rf _ | assumption) (h : RN z 16 [l0, l1, l2, some v] [v, s0] M k n) : RN z 15 [l0, l1, l2, some v] [s0] M k n := R_aload_n X.1 d_S_init_15 rfl rfl hv h
theorem i_S_init_16 {z : zT} {ws0 : va_W} {mc ms : Nat} {Post : Option Value → mM → Prop} (X : B_S_init z ws0 mc ms Post) {a : Nat} {f0 f1 f2 : Value} {v : Value} {l0 l1 l2 l3 : Option Value} {M : mM} {k n : Nat} (hv : mRf v := by first | exact mRf_r _ | exact mRf_n | exact mRf_rf _ | assumption) (hM : M a = some (.inr (1, [f0, f1, f2]))) (h : RN z 19 [l0, l1, l2, l3] [] (mS M a (.inr (1, [f0, f1, v]))) k n) : RN z 16 [l0, l1, l2, l3] [v, .ref a] M k n := R_putF X.1 inX1 rfl 2 (Nat.le_of_ble_eq_true rfl) tyX1 tyX1_ok nmX1 wd_193 rfl rfl rfl (by decide +kernel : parseFieldDescriptor (TX1 2).2.2.1 = some (.object "PastTree$Spot")) (by rcases hv with rfl | ⟨_, rfl⟩ <;> rfl) (by rcases hv with rfl | ⟨_, rfl⟩ <;> rfl) d_S_init_16 hM (Nat.le_of_ble_eq_true rfl) h
theorem i_S_init_19 {z : zT} {ws0 : va_W} {mc ms : Nat} {Post : Option Value → mM → Prop} (X : B_S_init z ws0 mc ms Post) {l0 l1 l2 l3 : Option Value} {M : mM} {k n : Nat} (hk : k ≤ mc) (hn : n ≤ ms) (hp : Post none M) : RN z 19 [l0, l1, l2, l3] [] M k n := R_vret X.1 X.2 d_S_init_19 hk hn hp
theorem d_V_init_0 : decode c_V_init 0 = .ok (.aload_n 0, 1) := by decide +kernel
theorem d_V_init_1 : decode c_V_init 1 = .ok (.invokespecial 1, 3) := by decide +kernel
theorem d_V_init_4 : decode c_V_init 4 = .ok (.aload_n 0, 1) := by decide +kernel
theorem d_V_init_5 : decode c_V_init 5 = .ok (.iconst 0, 1) := by decide +kernel
theorem d_V_init_6 : decode c_V_init 6 = .ok (.putfield 7, 3) := by decide +kernel
theorem d_V_init_9 : decode c_V_init 9 = .ok (.aload_n 0, 1) := by decide +kernel
theorem d_V_init_10 : decode c_V_init 10 = .ok (.iload_n 1, 1) := by decide +kernel
theorem d_V_init_11 : decode c_V_init 11 = .ok (.putfield 13, 3) := by decide +kernel
theorem d_V_init_14 : decode c_V_init 14 = .ok (.aload_n 0, 1) := by decide +kernel
theorem d_V_init_15 : decode c_V_init 15 = .ok (.iload_n 2, 1) := by decide +kernel
theorem d_V_init_16 : decode c_V_init 16 = .ok (.putfield 17, 3) := by decide +kernel
theorem d_V_init_19 : decode c_V_init 19 = .ok (.aload_n 0, 1) := by decide +kernel
theorem d_V_init_20 : decode c_V_init 20 = .ok (.aload_n 3, 1) := by decide +kernel
theorem d_V_init_21 : decode c_V_init 21 = .ok (.putfield 20, 3) := by decide +kernel
theorem d_V_init_24 : decode c_V_init 24 = .ok (.aload_n 0, 1) := by decide +kernel
theorem d_V_init_25 : decode c_V_init 25 = .ok (.aload 4, 2) := by decide +kernel
theorem d_V_init_27 : decode c_V_init 27 = .ok (.putfield 24, 3) := by decide +kernel
theorem d_V_init_30 : decode c_V_init 30 = .ok (.return_, 1) := by decide +kernel
abbrev B_V_init (z : zT) (ws0 : va_W) (mc ms : Nat) (Post : Option Value → mM → Prop) : Prop := BX z c_V_init 5 y_V_init.cls y_V_init.name 1 12 ∧ BQ z none ws0 mc ms Post
abbrev Ct_V_init (l : Launch) (D : va_G) (tys : List (ClassId × FieldType)) (mc ms : Nat) (av : List Value) (M : mM) (Post : Option Value → mM → Prop) : Prop := Ct l D tys y_V_init w_V_init 1 12 mc ms av M Post
theorem i_V_init_0 {z : zT} {ws0 : va_W} {mc ms : Nat} {Post : Option Value → mM → Prop} (X : B_V_init z ws0 mc ms Post) {v : Value} {l1 l2 l3 l4 : Option Value} {M : mM} {k n : Nat} (hv : mRf v := by first | exact mRf_r _ | exact mRf_n | exact mRf_rf _ | assumption) (h : RN z 1 [some v, l1, l2, l3, l4] [v] M k n) : RN z 0 [some v, l1, l2, l3, l4] [] M k n := R_aload_n X.1 d_V_init_0 rfl rfl hv h
theorem i_V_init_1 {z : zT} {ws0 : va_W} {mc ms : Nat} {Post : Option Value → mM → Prop} (X : B_V_init z ws0 mc ms Post) {a : Nat} {l0 l1 l2 l3 l4 : Option Value} {M : mM} {k n : Nat}  (h : RN z 4 [l0, l1, l2, l3, l4] [] M k n) : RN z 1 [l0, l1, l2, l3, l4] [.ref a] M k n := R_objInit X.1 wd_157 wd_42 wd_43 d_V_init_1 rfl (Nat.le_of_ble_eq_true rfl) (Nat.le_trans (Nat.add_le_add_right (cat_le _) 12) (Nat.le_of_ble_eq_true rfl)) h
theorem i_V_init_4 {z : zT} {ws0 : va_W} {mc ms : Nat} {Post : Option Value → mM → Prop} (X : B_V_init z ws0 mc ms Post) {v : Value} {l1 l2 l3 l4 : Option Value} {M : mM} {k n : Nat} (hv : mRf v := by first | exact mRf_r _ | exact mRf_n | exact mRf_rf _ | assumption) (h : RN z 5 [some v, l1, l2, l3, l4] [v] M k n) : RN z 4 [some v, l1, l2, l3, l4] [] M k n := R_aload_n X.1 d_V_init_4 rfl rfl hv h
theorem i_V_init_5 {z : zT} {ws0 : va_W} {mc ms : Nat} {Post : Option Value → mM → Prop} (X : B_V_init z ws0 mc ms Post) {l0 l1 l2 l3 l4 : Option Value} {s0 : Value} {M : mM} {k n : Nat}  (h : RN z 6 [l0, l1, l2, l3, l4] [.int 0, s0] M k n) : RN z 5 [l0, l1, l2, l3, l4] [s0] M k n := R_iconst X.1 d_V_init_5 (by decide) h
theorem i_V_init_6 {z : zT} {ws0 : va_W} {mc ms : Nat} {Post : Option Value → mM → Prop} (X : B_V_init z ws0 mc ms Post) {a : Nat} {f0 f1 f2 f3 f4 : Value} {x : Int32} {l0 l1 l2 l3 l4 : Option Value} {M : mM} {k n : Nat} (hx : x = 0 ∨ x = 1) (hM : M a = some (.inr (2, [f0, f1, f2, f3, f4]))) (h : RN z 9 [l0, l1, l2, l3, l4] [] (mS M a (.inr (2, [f0, f1, f2, f3, .int x]))) k n) : RN z 6 [l0, l1, l2, l3, l4] [.int x, .ref a] M k n := R_put X.1 inX2 rfl 4 (Nat.le_of_ble_eq_true rfl) tyX2 tyX2_ok nmX2 wd_166 rfl (by decide +kernel : parseFieldDescriptor (TX2 4).2.2.1 = some (.boolean)) (by rcases hx with rfl | rfl <;> rfl) (by rcases hx with rfl | rfl <;> rfl) d_V_init_6 hM (Nat.le_of_ble_eq_true rfl) h
theorem i_V_init_9 {z : zT} {ws0 : va_W} {mc ms : Nat} {Post : Option Value → mM → Prop} (X : B_V_init z ws0 mc ms Post) {v : Value} {l1 l2 l3 l4 : Option Value} {M : mM} {k n : Nat} (hv : mRf v := by first | exact mRf_r _ | exact mRf_n | exact mRf_rf _ | assumption) (h : RN z 10 [some v, l1, l2, l3, l4] [v] M k n) : RN z 9 [some v, l1, l2, l3, l4] [] M k n := R_aload_n X.1 d_V_init_9 rfl rfl hv h
theorem i_V_init_10 {z : zT} {ws0 : va_W} {mc ms : Nat} {Post : Option Value → mM → Prop} (X : B_V_init z ws0 mc ms Post) {x : Int32} {l0 l2 l3 l4 : Option Value} {s0 : Value} {M : mM} {k n : Nat}  (h : RN z 11 [l0, some (.int x), l2, l3, l4] [.int x, s0] M k n) : RN z 10 [l0, some (.int x), l2, l3, l4] [s0] M k n := R_iload_n X.1 d_V_init_10 rfl rfl h
theorem i_V_init_11 {z : zT} {ws0 : va_W} {mc ms : Nat} {Post : Option Value → mM → Prop} (X : B_V_init z ws0 mc ms Post) {a : Nat} {f0 f1 f2 f3 f4 : Value} {x : Int32} {l0 l1 l2 l3 l4 : Option Value} {M : mM} {k n : Nat} (hM : M a = some (.inr (2, [f0, f1, f2, f3, f4]))) (h : RN z 14 [l0, l1, l2, l3, l4] [] (mS M a (.inr (2, [.int x, f1, f2, f3, f4]))) k n) : RN z 11 [l0, l1, l2, l3, l4] [.int x, .ref a] M k n := R_putF X.1 inX2 rfl 0 (Nat.le_of_ble_eq_true rfl) tyX2 tyX2_ok nmX2 wd_158 rfl rfl rfl (by decide +kernel : parseFieldDescriptor (TX2 0).2.2.1 = some (.int)) rfl rfl d_V_init_11 hM (Nat.le_of_ble_eq_true rfl) h
theorem i_V_init_14 {z : zT} {ws0 : va_W} {mc ms : Nat} {Post : Option Value → mM → Prop} (X : B_V_init z ws0 mc ms Post) {v : Value} {l1 l2 l3 l4 : Option Value} {M : mM} {k n : Nat} (hv : mRf v := by first | exact mRf_r _ | exact mRf_n | exact mRf_rf _ | assumption) (h : RN z 15 [some v, l1, l2, l3, l4] [v] M k n) : RN z 14 [some v, l1, l2, l3, l4] [] M k n := R_aload_n X.1 d_V_init_14 rfl rfl hv h
theorem i_V_init_15 {z : zT} {ws0 : va_W} {mc ms : Nat} {Post : Option Value → mM → Prop} (X : B_V_init z ws0 mc ms Post) {x : Int32} {l0 l1 l3 l4 : Option Value} {s0 : Value} {M : mM} {k n : Nat}  (h : RN z 16 [l0, l1, some (.int x), l3, l4] [.int x, s0] M k n) : RN z 15 [l0, l1, some (.int x), l3, l4] [s0] M k n := R_iload_n X.1 d_V_init_15 rfl rfl h
theorem i_V_init_16 {z : zT} {ws0 : va_W} {mc ms : Nat} {Post : Option Value → mM → Prop} (X : B_V_init z ws0 mc ms Post) {a : Nat} {f0 f1 f2 f3 f4 : Value} {x : Int32} {l0 l1 l2 l3 l4 : Option Value} {M : mM} {k n : Nat} (hM : M a = some (.inr (2, [f0, f1, f2, f3, f4]))) (h : RN z 19 [l0, l1, l2, l3, l4] [] (mS M a (.inr (2, [f0, .int x, f2, f3, f4]))) k n) : RN z 16 [l0, l1, l2, l3, l4] [.int x, .ref a] M k n := R_putF X.1 inX2 rfl 1 (Nat.le_of_ble_eq_true rfl) tyX2 tyX2_ok nmX2 wd_160 rfl rfl rfl (by decide +kernel : parseFieldDescriptor (TX2 1).2.2.1 = some (.int)) rfl rfl d_V_init_16 hM (Nat.le_of_ble_eq_true rfl) h
theorem i_V_init_19 {z : zT} {ws0 : va_W} {mc ms : Nat} {Post : Option Value → mM → Prop} (X : B_V_init z ws0 mc ms Post) {v : Value} {l1 l2 l3 l4 : Option Value} {M : mM} {k n : Nat} (hv : mRf v := by first | exact mRf_r _ | exact mRf_n | exact mRf_rf _ | assumption) (h : RN z 20 [some v, l1, l2, l3, l4] [v] M k n) : RN z 19 [some v, l1, l2, l3, l4] [] M k n := R_aload_n X.1 d_V_init_19 rfl rfl hv h
theorem i_V_init_20 {z : zT} {ws0 : va_W} {mc ms : Nat} {Post : Option Value → mM → Prop} (X : B_V_init z ws0 mc ms Post) {v : Value} {l0 l1 l2 l4 : Option Value} {s0 : Value} {M : mM} {k n : Nat} (hv : mRf v := by first | exact mRf_r _ | exact mRf_n | exact mRf_rf _ | assumption) (h : RN z 21 [l0, l1, l2, some v, l4] [v, s0] M k n) : RN z 20 [l0, l1, l2, some v, l4] [s0] M k n := R_aload_n X.1 d_V_init_20 rfl rfl hv h
theorem i_V_init_21 {z : zT} {ws0 : va_W} {mc ms : Nat} {Post : Option Value → mM → Prop} (X : B_V_init z ws0 mc ms Post) {a : Nat} {f0 f1 f2 f3 f4 : Value} {v : Value} {l0 l1 l2 l3 l4 : Option Value} {M : mM} {k n : Nat} (hv : mRf v := by first | exact mRf_r _ | exact mRf_n | exact mRf_rf _ | assumption) (hM : M a = some (.inr (2, [f0, f1, f2, f3, f4]))) (h : RN z 24 [l0, l1, l2, l3, l4] [] (mS M a (.inr (2, [f0, f1, v, f3, f4]))) k n) : RN z 21 [l0, l1, l2, l3, l4] [v, .ref a] M k n := R_putF X.1 inX2 rfl 2 (Nat.le_of_ble_eq_true rfl) tyX2 tyX2_ok nmX2 wd_162 rfl rfl rfl (by decide +kernel : parseFieldDescriptor (TX2 2).2.2.1 = some (.array .int)) (by rcases hv with rfl | ⟨_, rfl⟩ <;> rfl) (by rcases hv with rfl | ⟨_, rfl⟩ <;> rfl) d_V_init_21 hM (Nat.le_of_ble_eq_true rfl) h
theorem i_V_init_24 {z : zT} {ws0 : va_W} {mc ms : Nat} {Post : Option Value → mM → Prop} (X : B_V_init z ws0 mc ms Post) {v : Value} {l1 l2 l3 l4 : Option Value} {M : mM} {k n : Nat} (hv : mRf v := by first | exact mRf_r _ | exact mRf_n | exact mRf_rf _ | assumption) (h : RN z 25 [some v, l1, l2, l3, l4] [v] M k n) : RN z 24 [some v, l1, l2, l3, l4] [] M k n := R_aload_n X.1 d_V_init_24 rfl rfl hv h
theorem i_V_init_25 {z : zT} {ws0 : va_W} {mc ms : Nat} {Post : Option Value → mM → Prop} (X : B_V_init z ws0 mc ms Post) {v : Value} {l0 l1 l2 l3 : Option Value} {s0 : Value} {M : mM} {k n : Nat} (hv : mRf v := by first | exact mRf_r _ | exact mRf_n | exact mRf_rf _ | assumption) (h : RN z 27 [l0, l1, l2, l3, some v] [v, s0] M k n) : RN z 25 [l0, l1, l2, l3, some v] [s0] M k n := R_aload X.1 d_V_init_25 rfl hv h
theorem i_V_init_27 {z : zT} {ws0 : va_W} {mc ms : Nat} {Post : Option Value → mM → Prop} (X : B_V_init z ws0 mc ms Post) {a : Nat} {f0 f1 f2 f3 f4 : Value} {v : Value} {l0 l1 l2 l3 l4 : Option Value} {M : mM} {k n : Nat} (hv : mRf v := by first | exact mRf_r _ | exact mRf_n | exact mRf_rf _ | assumption) (hM : M a = some (.inr (2, [f0, f1, f2, f3, f4]))) (h : RN z 30 [l0, l1, l2, l3, l4] [] (mS M a (.inr (2, [f0, f1, f2, v, f4]))) k n) : RN z 27 [l0, l1, l2, l3, l4] [v, .ref a] M k n := R_putF X.1 inX2 rfl 3 (Nat.le_of_ble_eq_true rfl) tyX2 tyX2_ok nmX2 wd_164 rfl rfl rfl (by decide +kernel : parseFieldDescriptor (TX2 3).2.2.1 = some (.object "PastTree$Version")) (by rcases hv with rfl | ⟨_, rfl⟩ <;> rfl) (by rcases hv with rfl | ⟨_, rfl⟩ <;> rfl) d_V_init_27 hM (Nat.le_of_ble_eq_true rfl) h
theorem i_V_init_30 {z : zT} {ws0 : va_W} {mc ms : Nat} {Post : Option Value → mM → Prop} (X : B_V_init z ws0 mc ms Post) {l0 l1 l2 l3 l4 : Option Value} {M : mM} {k n : Nat} (hk : k ≤ mc) (hn : n ≤ ms) (hp : Post none M) : RN z 30 [l0, l1, l2, l3, l4] [] M k n := R_vret X.1 X.2 d_V_init_30 hk hn hp
end
section
theorem d_P_clamp_0 : decode c_P_clamp 0 = .ok (.iconst 0, 1) := by decide +kernel
theorem d_P_clamp_1 : decode c_P_clamp 1 = .ok (.sipush 1000, 3) := by decide +kernel
theorem d_P_clamp_4 : decode c_P_clamp 4 = .ok (.iload_n 0, 1) := by decide +kernel
theorem d_P_clamp_5 : decode c_P_clamp 5 = .ok (.invokestatic 156, 3) := by decide +kernel
theorem d_P_clamp_8 : decode c_P_clamp 8 = .ok (.invokestatic 161, 3) := by decide +kernel
theorem d_P_clamp_11 : decode c_P_clamp 11 = .ok (.ireturn, 1) := by decide +kernel
abbrev B_P_clamp (z : zT) (ws0 : va_W) (mc ms : Nat) (Post : Option Value → mM → Prop) : Prop := BX z c_P_clamp 1 y_P_clamp.cls y_P_clamp.name 1 15 ∧ BQ z (some (.int)) ws0 mc ms Post
abbrev Ct_P_clamp (l : Launch) (D : va_G) (tys : List (ClassId × FieldType)) (mc ms : Nat) (av : List Value) (M : mM) (Post : Option Value → mM → Prop) : Prop := Ct l D tys y_P_clamp w_P_clamp 1 15 mc ms av M Post
theorem i_P_clamp_0 {z : zT} {ws0 : va_W} {mc ms : Nat} {Post : Option Value → mM → Prop} (X : B_P_clamp z ws0 mc ms Post) {l0 : Option Value} {M : mM} {k n : Nat}  (h : RN z 1 [l0] [.int 0] M k n) : RN z 0 [l0] [] M k n := R_iconst X.1 d_P_clamp_0 (by decide) h
theorem i_P_clamp_1 {z : zT} {ws0 : va_W} {mc ms : Nat} {Post : Option Value → mM → Prop} (X : B_P_clamp z ws0 mc ms Post) {l0 : Option Value} {s0 : Value} {M : mM} {k n : Nat}  (h : RN z 4 [l0] [.int 1000, s0] M k n) : RN z 1 [l0] [s0] M k n := R_sipush X.1 d_P_clamp_1 (by decide) h
theorem i_P_clamp_4 {z : zT} {ws0 : va_W} {mc ms : Nat} {Post : Option Value → mM → Prop} (X : B_P_clamp z ws0 mc ms Post) {x : Int32} {s0 s1 : Value} {M : mM} {k n : Nat}  (h : RN z 5 [some (.int x)] [.int x, s0, s1] M k n) : RN z 4 [some (.int x)] [s0, s1] M k n := R_iload_n X.1 d_P_clamp_4 rfl rfl h
theorem i_P_clamp_5 {z : zT} {ws0 : va_W} {mc ms : Nat} {Post : Option Value → mM → Prop} (X : B_P_clamp z ws0 mc ms Post) {x y : Int32} {l0 : Option Value} {s0 : Value} {M : mM} {k n : Nat} (hk : k ≤ mc) (hn : n ≤ ms) (h : RN z 8 [l0] [.int (if y < x then y else x), s0] M k n) : RN z 5 [l0] [.int y, .int x, s0] M k n := R_mmin X.1 wd_49 wd_50 wd_31 wd_51 d_P_clamp_5 rfl (Nat.le_of_ble_eq_true rfl) (Nat.le_trans (Nat.add_le_add_right (cat_le _) 13) (Nat.le_of_ble_eq_true rfl)) (by rw [BM.rc1 X.2]; exact hk) (by rw [BM.rc2 X.2]; exact hn) h
theorem i_P_clamp_8 {z : zT} {ws0 : va_W} {mc ms : Nat} {Post : Option Value → mM → Prop} (X : B_P_clamp z ws0 mc ms Post) {x y : Int32} {l0 : Option Value} {M : mM} {k n : Nat} (hk : k ≤ mc) (hn : n ≤ ms) (h : RN z 11 [l0] [.int (if x < y then y else x)] M k n) : RN z 8 [l0] [.int y, .int x] M k n := R_mmax X.1 wd_52 wd_53 wd_31 wd_54 d_P_clamp_8 rfl (Nat.le_of_ble_eq_true rfl) (Nat.le_trans (Nat.add_le_add_right (cat_le _) 13) (Nat.le_of_ble_eq_true rfl)) (by rw [BM.rc1 X.2]; exact hk) (by rw [BM.rc2 X.2]; exact hn) h
theorem i_P_clamp_11 {z : zT} {ws0 : va_W} {mc ms : Nat} {Post : Option Value → mM → Prop} (X : B_P_clamp z ws0 mc ms Post) {x : Int32} {l0 : Option Value} {M : mM} {k n : Nat} (hk : k ≤ mc) (hn : n ≤ ms) (hp : Post (some (.int x)) M) : RN z 11 [l0] [.int x] M k n := R_iret X.1 X.2 d_P_clamp_11 hk hn hp
theorem d_P_isName_0 : decode c_P_isName 0 = .ok (.iload_n 0, 1) := by decide +kernel
theorem d_P_isName_1 : decode c_P_isName 1 = .ok (.ifCond .lt 13, 3) := by decide +kernel
theorem d_P_isName_4 : decode c_P_isName 4 = .ok (.iload_n 0, 1) := by decide +kernel
theorem d_P_isName_5 : decode c_P_isName 5 = .ok (.bipush 8, 2) := by decide +kernel
theorem d_P_isName_7 : decode c_P_isName 7 = .ok (.if_icmp .ge 7, 3) := by decide +kernel
theorem d_P_isName_10 : decode c_P_isName 10 = .ok (.iconst 1, 1) := by decide +kernel
theorem d_P_isName_11 : decode c_P_isName 11 = .ok (.goto 4, 3) := by decide +kernel
theorem d_P_isName_14 : decode c_P_isName 14 = .ok (.iconst 0, 1) := by decide +kernel
theorem d_P_isName_15 : decode c_P_isName 15 = .ok (.ireturn, 1) := by decide +kernel
abbrev B_P_isName (z : zT) (ws0 : va_W) (mc ms : Nat) (Post : Option Value → mM → Prop) : Prop := BX z c_P_isName 1 y_P_isName.cls y_P_isName.name 0 0 ∧ BQ z (some (.boolean)) ws0 mc ms Post
abbrev Ct_P_isName (l : Launch) (D : va_G) (tys : List (ClassId × FieldType)) (mc ms : Nat) (av : List Value) (M : mM) (Post : Option Value → mM → Prop) : Prop := Ct l D tys y_P_isName w_P_isName 0 0 mc ms av M Post
theorem i_P_isName_0 {z : zT} {ws0 : va_W} {mc ms : Nat} {Post : Option Value → mM → Prop} (X : B_P_isName z ws0 mc ms Post) {x : Int32} {M : mM} {k n : Nat}  (h : RN z 1 [some (.int x)] [.int x] M k n) : RN z 0 [some (.int x)] [] M k n := R_iload_n X.1 d_P_isName_0 rfl rfl h
theorem i_P_isName_1 {z : zT} {ws0 : va_W} {mc ms : Nat} {Post : Option Value → mM → Prop} (X : B_P_isName z ws0 mc ms Post) {x : Int32} {l0 : Option Value} {M : mM} {k n : Nat}  (h1 : x < 0 → RN z 14 [l0] [] M k n) (h2 : ¬ (x < 0) → RN z 4 [l0] [] M k n) : RN z 1 [l0] [.int x] M k n := R_if_lt X.1 d_P_isName_1 (by decide) h1 h2
theorem i_P_isName_4 {z : zT} {ws0 : va_W} {mc ms : Nat} {Post : Option Value → mM → Prop} (X : B_P_isName z ws0 mc ms Post) {x : Int32} {M : mM} {k n : Nat}  (h : RN z 5 [some (.int x)] [.int x] M k n) : RN z 4 [some (.int x)] [] M k n := R_iload_n X.1 d_P_isName_4 rfl rfl h
theorem i_P_isName_5 {z : zT} {ws0 : va_W} {mc ms : Nat} {Post : Option Value → mM → Prop} (X : B_P_isName z ws0 mc ms Post) {l0 : Option Value} {s0 : Value} {M : mM} {k n : Nat}  (h : RN z 7 [l0] [.int 8, s0] M k n) : RN z 5 [l0] [s0] M k n := R_bipush X.1 d_P_isName_5 (by decide) h
theorem i_P_isName_7 {z : zT} {ws0 : va_W} {mc ms : Nat} {Post : Option Value → mM → Prop} (X : B_P_isName z ws0 mc ms Post) {x y : Int32} {l0 : Option Value} {M : mM} {k n : Nat}  (h1 : y ≤ x → RN z 14 [l0] [] M k n) (h2 : ¬ (y ≤ x) → RN z 10 [l0] [] M k n) : RN z 7 [l0] [.int y, .int x] M k n := R_icmp_ge X.1 d_P_isName_7 (by decide) h1 h2
theorem i_P_isName_10 {z : zT} {ws0 : va_W} {mc ms : Nat} {Post : Option Value → mM → Prop} (X : B_P_isName z ws0 mc ms Post) {l0 : Option Value} {M : mM} {k n : Nat}  (h : RN z 11 [l0] [.int 1] M k n) : RN z 10 [l0] [] M k n := R_iconst X.1 d_P_isName_10 (by decide) h
theorem i_P_isName_11 {z : zT} {ws0 : va_W} {mc ms : Nat} {Post : Option Value → mM → Prop} (X : B_P_isName z ws0 mc ms Post) {l0 : Option Value} {s0 : Value} {M : mM} {k n : Nat}  (h : RN z 15 [l0] [s0] M k n) : RN z 11 [l0] [s0] M k n := R_goto X.1 d_P_isName_11 (by decide) h
theorem i_P_isName_14 {z : zT} {ws0 : va_W} {mc ms : Nat} {Post : Option Value → mM → Prop} (X : B_P_isName z ws0 mc ms Post) {l0 : Option Value} {M : mM} {k n : Nat}  (h : RN z 15 [l0] [.int 0] M k n) : RN z 14 [l0] [] M k n := R_iconst X.1 d_P_isName_14 (by decide) h
theorem i_P_isName_15 {z : zT} {ws0 : va_W} {mc ms : Nat} {Post : Option Value → mM → Prop} (X : B_P_isName z ws0 mc ms Post) {x : Int32} {l0 : Option Value} {M : mM} {k n : Nat} (hk : k ≤ mc) (hn : n ≤ ms) (hx : x = 0 ∨ x = 1) (hp : Post (some (.int x)) M) : RN z 15 [l0] [.int x] M k n := R_zret X.1 X.2 d_P_isName_15 (by rcases hx with rfl | rfl <;> rfl) hk hn hp
theorem d_P_isCell_0 : decode c_P_isCell 0 = .ok (.iload_n 0, 1) := by decide +kernel
theorem d_P_isCell_1 : decode c_P_isCell 1 = .ok (.ifCond .lt 12, 3) := by decide +kernel
theorem d_P_isCell_4 : decode c_P_isCell 4 = .ok (.iload_n 0, 1) := by decide +kernel
theorem d_P_isCell_5 : decode c_P_isCell 5 = .ok (.iconst 4, 1) := by decide +kernel
theorem d_P_isCell_6 : decode c_P_isCell 6 = .ok (.if_icmp .ge 7, 3) := by decide +kernel
theorem d_P_isCell_9 : decode c_P_isCell 9 = .ok (.iconst 1, 1) := by decide +kernel
theorem d_P_isCell_10 : decode c_P_isCell 10 = .ok (.goto 4, 3) := by decide +kernel
theorem d_P_isCell_13 : decode c_P_isCell 13 = .ok (.iconst 0, 1) := by decide +kernel
theorem d_P_isCell_14 : decode c_P_isCell 14 = .ok (.ireturn, 1) := by decide +kernel
abbrev B_P_isCell (z : zT) (ws0 : va_W) (mc ms : Nat) (Post : Option Value → mM → Prop) : Prop := BX z c_P_isCell 1 y_P_isCell.cls y_P_isCell.name 0 0 ∧ BQ z (some (.boolean)) ws0 mc ms Post
abbrev Ct_P_isCell (l : Launch) (D : va_G) (tys : List (ClassId × FieldType)) (mc ms : Nat) (av : List Value) (M : mM) (Post : Option Value → mM → Prop) : Prop := Ct l D tys y_P_isCell w_P_isCell 0 0 mc ms av M Post
theorem i_P_isCell_0 {z : zT} {ws0 : va_W} {mc ms : Nat} {Post : Option Value → mM → Prop} (X : B_P_isCell z ws0 mc ms Post) {x : Int32} {M : mM} {k n : Nat}  (h : RN z 1 [some (.int x)] [.int x] M k n) : RN z 0 [some (.int x)] [] M k n := R_iload_n X.1 d_P_isCell_0 rfl rfl h
theorem i_P_isCell_1 {z : zT} {ws0 : va_W} {mc ms : Nat} {Post : Option Value → mM → Prop} (X : B_P_isCell z ws0 mc ms Post) {x : Int32} {l0 : Option Value} {M : mM} {k n : Nat}  (h1 : x < 0 → RN z 13 [l0] [] M k n) (h2 : ¬ (x < 0) → RN z 4 [l0] [] M k n) : RN z 1 [l0] [.int x] M k n := R_if_lt X.1 d_P_isCell_1 (by decide) h1 h2
theorem i_P_isCell_4 {z : zT} {ws0 : va_W} {mc ms : Nat} {Post : Option Value → mM → Prop} (X : B_P_isCell z ws0 mc ms Post) {x : Int32} {M : mM} {k n : Nat}  (h : RN z 5 [some (.int x)] [.int x] M k n) : RN z 4 [some (.int x)] [] M k n := R_iload_n X.1 d_P_isCell_4 rfl rfl h
theorem i_P_isCell_5 {z : zT} {ws0 : va_W} {mc ms : Nat} {Post : Option Value → mM → Prop} (X : B_P_isCell z ws0 mc ms Post) {l0 : Option Value} {s0 : Value} {M : mM} {k n : Nat}  (h : RN z 6 [l0] [.int 4, s0] M k n) : RN z 5 [l0] [s0] M k n := R_iconst X.1 d_P_isCell_5 (by decide) h
theorem i_P_isCell_6 {z : zT} {ws0 : va_W} {mc ms : Nat} {Post : Option Value → mM → Prop} (X : B_P_isCell z ws0 mc ms Post) {x y : Int32} {l0 : Option Value} {M : mM} {k n : Nat}  (h1 : y ≤ x → RN z 13 [l0] [] M k n) (h2 : ¬ (y ≤ x) → RN z 9 [l0] [] M k n) : RN z 6 [l0] [.int y, .int x] M k n := R_icmp_ge X.1 d_P_isCell_6 (by decide) h1 h2
theorem i_P_isCell_9 {z : zT} {ws0 : va_W} {mc ms : Nat} {Post : Option Value → mM → Prop} (X : B_P_isCell z ws0 mc ms Post) {l0 : Option Value} {M : mM} {k n : Nat}  (h : RN z 10 [l0] [.int 1] M k n) : RN z 9 [l0] [] M k n := R_iconst X.1 d_P_isCell_9 (by decide) h
theorem i_P_isCell_10 {z : zT} {ws0 : va_W} {mc ms : Nat} {Post : Option Value → mM → Prop} (X : B_P_isCell z ws0 mc ms Post) {l0 : Option Value} {s0 : Value} {M : mM} {k n : Nat}  (h : RN z 14 [l0] [s0] M k n) : RN z 10 [l0] [s0] M k n := R_goto X.1 d_P_isCell_10 (by decide) h
theorem i_P_isCell_13 {z : zT} {ws0 : va_W} {mc ms : Nat} {Post : Option Value → mM → Prop} (X : B_P_isCell z ws0 mc ms Post) {l0 : Option Value} {M : mM} {k n : Nat}  (h : RN z 14 [l0] [.int 0] M k n) : RN z 13 [l0] [] M k n := R_iconst X.1 d_P_isCell_13 (by decide) h
theorem i_P_isCell_14 {z : zT} {ws0 : va_W} {mc ms : Nat} {Post : Option Value → mM → Prop} (X : B_P_isCell z ws0 mc ms Post) {x : Int32} {l0 : Option Value} {M : mM} {k n : Nat} (hk : k ≤ mc) (hn : n ≤ ms) (hx : x = 0 ∨ x = 1) (hp : Post (some (.int x)) M) : RN z 14 [l0] [.int x] M k n := R_zret X.1 X.2 d_P_isCell_14 (by rcases hx with rfl | rfl <;> rfl) hk hn hp
theorem d_P_placeOf_0 : decode c_P_placeOf 0 = .ok (.iload_n 0, 1) := by decide +kernel
theorem d_P_placeOf_1 : decode c_P_placeOf 1 = .ok (.bipush 8, 2) := by decide +kernel
theorem d_P_placeOf_3 : decode c_P_placeOf 3 = .ok (.imul, 1) := by decide +kernel
theorem d_P_placeOf_4 : decode c_P_placeOf 4 = .ok (.iload_n 1, 1) := by decide +kernel
theorem d_P_placeOf_5 : decode c_P_placeOf 5 = .ok (.iadd, 1) := by decide +kernel
theorem d_P_placeOf_6 : decode c_P_placeOf 6 = .ok (.ireturn, 1) := by decide +kernel
abbrev B_P_placeOf (z : zT) (ws0 : va_W) (mc ms : Nat) (Post : Option Value → mM → Prop) : Prop := BX z c_P_placeOf 2 y_P_placeOf.cls y_P_placeOf.name 0 0 ∧ BQ z (some (.int)) ws0 mc ms Post
abbrev Ct_P_placeOf (l : Launch) (D : va_G) (tys : List (ClassId × FieldType)) (mc ms : Nat) (av : List Value) (M : mM) (Post : Option Value → mM → Prop) : Prop := Ct l D tys y_P_placeOf w_P_placeOf 0 0 mc ms av M Post
theorem i_P_placeOf_0 {z : zT} {ws0 : va_W} {mc ms : Nat} {Post : Option Value → mM → Prop} (X : B_P_placeOf z ws0 mc ms Post) {x : Int32} {l1 : Option Value} {M : mM} {k n : Nat}  (h : RN z 1 [some (.int x), l1] [.int x] M k n) : RN z 0 [some (.int x), l1] [] M k n := R_iload_n X.1 d_P_placeOf_0 rfl rfl h
theorem i_P_placeOf_1 {z : zT} {ws0 : va_W} {mc ms : Nat} {Post : Option Value → mM → Prop} (X : B_P_placeOf z ws0 mc ms Post) {l0 l1 : Option Value} {s0 : Value} {M : mM} {k n : Nat}  (h : RN z 3 [l0, l1] [.int 8, s0] M k n) : RN z 1 [l0, l1] [s0] M k n := R_bipush X.1 d_P_placeOf_1 (by decide) h
theorem i_P_placeOf_3 {z : zT} {ws0 : va_W} {mc ms : Nat} {Post : Option Value → mM → Prop} (X : B_P_placeOf z ws0 mc ms Post) {x y : Int32} {l0 l1 : Option Value} {M : mM} {k n : Nat}  (h : RN z 4 [l0, l1] [.int (x * y)] M k n) : RN z 3 [l0, l1] [.int y, .int x] M k n := R_imul X.1 d_P_placeOf_3 h
theorem i_P_placeOf_4 {z : zT} {ws0 : va_W} {mc ms : Nat} {Post : Option Value → mM → Prop} (X : B_P_placeOf z ws0 mc ms Post) {x : Int32} {l0 : Option Value} {s0 : Value} {M : mM} {k n : Nat}  (h : RN z 5 [l0, some (.int x)] [.int x, s0] M k n) : RN z 4 [l0, some (.int x)] [s0] M k n := R_iload_n X.1 d_P_placeOf_4 rfl rfl h
theorem i_P_placeOf_5 {z : zT} {ws0 : va_W} {mc ms : Nat} {Post : Option Value → mM → Prop} (X : B_P_placeOf z ws0 mc ms Post) {x y : Int32} {l0 l1 : Option Value} {M : mM} {k n : Nat}  (h : RN z 6 [l0, l1] [.int (x + y)] M k n) : RN z 5 [l0, l1] [.int y, .int x] M k n := R_iadd X.1 d_P_placeOf_5 h
theorem i_P_placeOf_6 {z : zT} {ws0 : va_W} {mc ms : Nat} {Post : Option Value → mM → Prop} (X : B_P_placeOf z ws0 mc ms Post) {x : Int32} {l0 l1 : Option Value} {M : mM} {k n : Nat} (hk : k ≤ mc) (hn : n ≤ ms) (hp : Post (some (.int x)) M) : RN z 6 [l0, l1] [.int x] M k n := R_iret X.1 X.2 d_P_placeOf_6 hk hn hp
theorem d_P_isMade_0 : decode c_P_isMade 0 = .ok (.iload_n 1, 1) := by decide +kernel
theorem d_P_isMade_1 : decode c_P_isMade 1 = .ok (.ifCond .lt 15, 3) := by decide +kernel
theorem d_P_isMade_4 : decode c_P_isMade 4 = .ok (.iload_n 1, 1) := by decide +kernel
theorem d_P_isMade_5 : decode c_P_isMade 5 = .ok (.aload_n 0, 1) := by decide +kernel
theorem d_P_isMade_6 : decode c_P_isMade 6 = .ok (.getfield 23, 3) := by decide +kernel
theorem d_P_isMade_9 : decode c_P_isMade 9 = .ok (.if_icmp .ge 7, 3) := by decide +kernel
theorem d_P_isMade_12 : decode c_P_isMade 12 = .ok (.iconst 1, 1) := by decide +kernel
theorem d_P_isMade_13 : decode c_P_isMade 13 = .ok (.goto 4, 3) := by decide +kernel
theorem d_P_isMade_16 : decode c_P_isMade 16 = .ok (.iconst 0, 1) := by decide +kernel
theorem d_P_isMade_17 : decode c_P_isMade 17 = .ok (.ireturn, 1) := by decide +kernel
abbrev B_P_isMade (z : zT) (ws0 : va_W) (mc ms : Nat) (Post : Option Value → mM → Prop) : Prop := BX z c_P_isMade 2 y_P_isMade.cls y_P_isMade.name 0 0 ∧ BQ z (some (.boolean)) ws0 mc ms Post
abbrev Ct_P_isMade (l : Launch) (D : va_G) (tys : List (ClassId × FieldType)) (mc ms : Nat) (av : List Value) (M : mM) (Post : Option Value → mM → Prop) : Prop := Ct l D tys y_P_isMade w_P_isMade 0 0 mc ms av M Post
theorem i_P_isMade_0 {z : zT} {ws0 : va_W} {mc ms : Nat} {Post : Option Value → mM → Prop} (X : B_P_isMade z ws0 mc ms Post) {x : Int32} {l0 : Option Value} {M : mM} {k n : Nat}  (h : RN z 1 [l0, some (.int x)] [.int x] M k n) : RN z 0 [l0, some (.int x)] [] M k n := R_iload_n X.1 d_P_isMade_0 rfl rfl h
theorem i_P_isMade_1 {z : zT} {ws0 : va_W} {mc ms : Nat} {Post : Option Value → mM → Prop} (X : B_P_isMade z ws0 mc ms Post) {x : Int32} {l0 l1 : Option Value} {M : mM} {k n : Nat}  (h1 : x < 0 → RN z 16 [l0, l1] [] M k n) (h2 : ¬ (x < 0) → RN z 4 [l0, l1] [] M k n) : RN z 1 [l0, l1] [.int x] M k n := R_if_lt X.1 d_P_isMade_1 (by decide) h1 h2
theorem i_P_isMade_4 {z : zT} {ws0 : va_W} {mc ms : Nat} {Post : Option Value → mM → Prop} (X : B_P_isMade z ws0 mc ms Post) {x : Int32} {l0 : Option Value} {M : mM} {k n : Nat}  (h : RN z 5 [l0, some (.int x)] [.int x] M k n) : RN z 4 [l0, some (.int x)] [] M k n := R_iload_n X.1 d_P_isMade_4 rfl rfl h
theorem i_P_isMade_5 {z : zT} {ws0 : va_W} {mc ms : Nat} {Post : Option Value → mM → Prop} (X : B_P_isMade z ws0 mc ms Post) {v : Value} {l1 : Option Value} {s0 : Value} {M : mM} {k n : Nat} (hv : mRf v := by first | exact mRf_r _ | exact mRf_n | exact mRf_rf _ | assumption) (h : RN z 6 [some v, l1] [v, s0] M k n) : RN z 5 [some v, l1] [s0] M k n := R_aload_n X.1 d_P_isMade_5 rfl rfl hv h
theorem i_P_isMade_6 {z : zT} {ws0 : va_W} {mc ms : Nat} {Post : Option Value → mM → Prop} (X : B_P_isMade z ws0 mc ms Post) {a : Nat} {f0 f1 f2 f3 f4 f5 f6 f7 f8 f9 f10 : Value} {l0 l1 : Option Value} {s0 : Value} {M : mM} {k n : Nat} (hM : M a = some (.inr (3, [f0, f1, f2, f3, f4, f5, f6, f7, f8, f9, f10]))) (h : RN z 9 [l0, l1] [f5, s0] M k n) : RN z 6 [l0, l1] [.ref a, s0] M k n := R_get X.1 inX3 rfl 5 (Nat.le_of_ble_eq_true rfl) wd_81 d_P_isMade_6 hM rfl h
theorem i_P_isMade_9 {z : zT} {ws0 : va_W} {mc ms : Nat} {Post : Option Value → mM → Prop} (X : B_P_isMade z ws0 mc ms Post) {x y : Int32} {l0 l1 : Option Value} {M : mM} {k n : Nat}  (h1 : y ≤ x → RN z 16 [l0, l1] [] M k n) (h2 : ¬ (y ≤ x) → RN z 12 [l0, l1] [] M k n) : RN z 9 [l0, l1] [.int y, .int x] M k n := R_icmp_ge X.1 d_P_isMade_9 (by decide) h1 h2
theorem i_P_isMade_12 {z : zT} {ws0 : va_W} {mc ms : Nat} {Post : Option Value → mM → Prop} (X : B_P_isMade z ws0 mc ms Post) {l0 l1 : Option Value} {M : mM} {k n : Nat}  (h : RN z 13 [l0, l1] [.int 1] M k n) : RN z 12 [l0, l1] [] M k n := R_iconst X.1 d_P_isMade_12 (by decide) h
theorem i_P_isMade_13 {z : zT} {ws0 : va_W} {mc ms : Nat} {Post : Option Value → mM → Prop} (X : B_P_isMade z ws0 mc ms Post) {l0 l1 : Option Value} {s0 : Value} {M : mM} {k n : Nat}  (h : RN z 17 [l0, l1] [s0] M k n) : RN z 13 [l0, l1] [s0] M k n := R_goto X.1 d_P_isMade_13 (by decide) h
theorem i_P_isMade_16 {z : zT} {ws0 : va_W} {mc ms : Nat} {Post : Option Value → mM → Prop} (X : B_P_isMade z ws0 mc ms Post) {l0 l1 : Option Value} {M : mM} {k n : Nat}  (h : RN z 17 [l0, l1] [.int 0] M k n) : RN z 16 [l0, l1] [] M k n := R_iconst X.1 d_P_isMade_16 (by decide) h
theorem i_P_isMade_17 {z : zT} {ws0 : va_W} {mc ms : Nat} {Post : Option Value → mM → Prop} (X : B_P_isMade z ws0 mc ms Post) {x : Int32} {l0 l1 : Option Value} {M : mM} {k n : Nat} (hk : k ≤ mc) (hn : n ≤ ms) (hx : x = 0 ∨ x = 1) (hp : Post (some (.int x)) M) : RN z 17 [l0, l1] [.int x] M k n := R_zret X.1 X.2 d_P_isMade_17 (by rcases hx with rfl | rfl <;> rfl) hk hn hp
theorem d_P_isMadeFolder_0 : decode c_P_isMadeFolder 0 = .ok (.aload_n 0, 1) := by decide +kernel
theorem d_P_isMadeFolder_1 : decode c_P_isMadeFolder 1 = .ok (.iload_n 1, 1) := by decide +kernel
theorem d_P_isMadeFolder_2 : decode c_P_isMadeFolder 2 = .ok (.invokevirtual 164, 3) := by decide +kernel
theorem d_P_isMadeFolder_5 : decode c_P_isMadeFolder 5 = .ok (.ifCond .eq 19, 3) := by decide +kernel
theorem d_P_isMadeFolder_8 : decode c_P_isMadeFolder 8 = .ok (.aload_n 0, 1) := by decide +kernel
theorem d_P_isMadeFolder_9 : decode c_P_isMadeFolder 9 = .ok (.getfield 11, 3) := by decide +kernel
theorem d_P_isMadeFolder_12 : decode c_P_isMadeFolder 12 = .ok (.iload_n 1, 1) := by decide +kernel
theorem d_P_isMadeFolder_13 : decode c_P_isMadeFolder 13 = .ok (.aaload, 1) := by decide +kernel
theorem d_P_isMadeFolder_14 : decode c_P_isMadeFolder 14 = .ok (.getfield 76, 3) := by decide +kernel
theorem d_P_isMadeFolder_17 : decode c_P_isMadeFolder 17 = .ok (.ifnonnull 7, 3) := by decide +kernel
theorem d_P_isMadeFolder_20 : decode c_P_isMadeFolder 20 = .ok (.iconst 1, 1) := by decide +kernel
theorem d_P_isMadeFolder_21 : decode c_P_isMadeFolder 21 = .ok (.goto 4, 3) := by decide +kernel
theorem d_P_isMadeFolder_24 : decode c_P_isMadeFolder 24 = .ok (.iconst 0, 1) := by decide +kernel
theorem d_P_isMadeFolder_25 : decode c_P_isMadeFolder 25 = .ok (.ireturn, 1) := by decide +kernel
abbrev B_P_isMadeFolder (z : zT) (ws0 : va_W) (mc ms : Nat) (Post : Option Value → mM → Prop) : Prop := BX z c_P_isMadeFolder 2 y_P_isMadeFolder.cls y_P_isMadeFolder.name 1 21 ∧ BQ z (some (.boolean)) ws0 mc ms Post
abbrev Ct_P_isMadeFolder (l : Launch) (D : va_G) (tys : List (ClassId × FieldType)) (mc ms : Nat) (av : List Value) (M : mM) (Post : Option Value → mM → Prop) : Prop := Ct l D tys y_P_isMadeFolder w_P_isMadeFolder 1 21 mc ms av M Post
theorem i_P_isMadeFolder_0 {z : zT} {ws0 : va_W} {mc ms : Nat} {Post : Option Value → mM → Prop} (X : B_P_isMadeFolder z ws0 mc ms Post) {v : Value} {l1 : Option Value} {M : mM} {k n : Nat} (hv : mRf v := by first | exact mRf_r _ | exact mRf_n | exact mRf_rf _ | assumption) (h : RN z 1 [some v, l1] [v] M k n) : RN z 0 [some v, l1] [] M k n := R_aload_n X.1 d_P_isMadeFolder_0 rfl rfl hv h
theorem i_P_isMadeFolder_1 {z : zT} {ws0 : va_W} {mc ms : Nat} {Post : Option Value → mM → Prop} (X : B_P_isMadeFolder z ws0 mc ms Post) {x : Int32} {l0 : Option Value} {s0 : Value} {M : mM} {k n : Nat}  (h : RN z 2 [l0, some (.int x)] [.int x, s0] M k n) : RN z 1 [l0, some (.int x)] [s0] M k n := R_iload_n X.1 d_P_isMadeFolder_1 rfl rfl h
theorem i_P_isMadeFolder_2 {z : zT} {ws0 : va_W} {mc ms : Nat} {Post : Option Value → mM → Prop} (X : B_P_isMadeFolder z ws0 mc ms Post) {a0 : Value} {b : Nat} {mc1 ms1 : Nat} {Po : Option Value → mM → Prop} {fs : List Value} {l0 l1 : Option Value} {M : mM} {k n : Nat} (hM : M b = some (.inr (3, fs))) (hC : Ct (zl z) (zD z) (zty z) y_P_isMade w_P_isMade 0 0 mc1 ms1 [.ref b, a0] M Po) (hk : k + mc1 ≤ mc) (hn : n + ms1 ≤ ms) (h : ∀ v M1, Po v M1 → RN z 5 [l0, l1] (v.toList ++ []) M1 (k + mc1) (n + ms1)) : RN z 2 [l0, l1] [a0, .ref b] M k n := R_callV X.1 (av := [a0]) (nA := 1) wd_125 wd_122 wd_124 wd_1 wd_30 (by decide +kernel) rfl (Nat.le_of_ble_eq_true rfl) (Nat.le_of_ble_eq_true rfl) (Nat.le_of_ble_eq_true rfl) d_P_isMadeFolder_2 rfl (ci := 3) rfl hM hC (by rw [BM.rc1 X.2]; exact hk) (by rw [BM.rc2 X.2]; exact hn) h
theorem i_P_isMadeFolder_5 {z : zT} {ws0 : va_W} {mc ms : Nat} {Post : Option Value → mM → Prop} (X : B_P_isMadeFolder z ws0 mc ms Post) {x : Int32} {l0 l1 : Option Value} {M : mM} {k n : Nat}  (h1 : x = 0 → RN z 24 [l0, l1] [] M k n) (h2 : ¬ (x = 0) → RN z 8 [l0, l1] [] M k n) : RN z 5 [l0, l1] [.int x] M k n := R_if_eq X.1 d_P_isMadeFolder_5 (by decide) h1 h2
theorem i_P_isMadeFolder_8 {z : zT} {ws0 : va_W} {mc ms : Nat} {Post : Option Value → mM → Prop} (X : B_P_isMadeFolder z ws0 mc ms Post) {v : Value} {l1 : Option Value} {M : mM} {k n : Nat} (hv : mRf v := by first | exact mRf_r _ | exact mRf_n | exact mRf_rf _ | assumption) (h : RN z 9 [some v, l1] [v] M k n) : RN z 8 [some v, l1] [] M k n := R_aload_n X.1 d_P_isMadeFolder_8 rfl rfl hv h
theorem i_P_isMadeFolder_9 {z : zT} {ws0 : va_W} {mc ms : Nat} {Post : Option Value → mM → Prop} (X : B_P_isMadeFolder z ws0 mc ms Post) {a : Nat} {f0 f1 f2 f3 f4 f5 f6 f7 f8 f9 f10 : Value} {l0 l1 : Option Value} {M : mM} {k n : Nat} (hM : M a = some (.inr (3, [f0, f1, f2, f3, f4, f5, f6, f7, f8, f9, f10]))) (h : RN z 12 [l0, l1] [f2] M k n) : RN z 9 [l0, l1] [.ref a] M k n := R_get X.1 inX3 rfl 2 (Nat.le_of_ble_eq_true rfl) wd_78 d_P_isMadeFolder_9 hM rfl h
theorem i_P_isMadeFolder_12 {z : zT} {ws0 : va_W} {mc ms : Nat} {Post : Option Value → mM → Prop} (X : B_P_isMadeFolder z ws0 mc ms Post) {x : Int32} {l0 : Option Value} {s0 : Value} {M : mM} {k n : Nat}  (h : RN z 13 [l0, some (.int x)] [.int x, s0] M k n) : RN z 12 [l0, some (.int x)] [s0] M k n := R_iload_n X.1 d_P_isMadeFolder_12 rfl rfl h
theorem i_P_isMadeFolder_13 {z : zT} {ws0 : va_W} {mc ms : Nat} {Post : Option Value → mM → Prop} (X : B_P_isMadeFolder z ws0 mc ms Post) {cI cB cN : ClassId} (G : GT z cI cB cN) {a w j : Nat} {i : Int32} {f : Nat → Option Nat} {l0 l1 : Option Value} {M : mM} {k n : Nat} (hM : M a = some (.inl (cN, w, .inr (.inr (.inr (.inr f)))))) (hx : i = nI j) (hj : j < w) (hw : w < 2 ^ 31 := by decide) (h : RN z 14 [l0, l1] [va_rf (f j)] M k n) : RN z 13 [l0, l1] [.int i, .ref a] M k n := R_aald X.1 2 G.2.2 d_P_isMadeFolder_13 hM (by rw [hx]; exact vp_in_nI hj hw) (by rw [hx, nI_clamp (by omega)]; exact h)
theorem i_P_isMadeFolder_14 {z : zT} {ws0 : va_W} {mc ms : Nat} {Post : Option Value → mM → Prop} (X : B_P_isMadeFolder z ws0 mc ms Post) {a : Nat} {f0 f1 f2 f3 : Value} {l0 l1 : Option Value} {M : mM} {k n : Nat} (hM : M a = some (.inr (0, [f0, f1, f2, f3]))) (h : RN z 17 [l0, l1] [f1] M k n) : RN z 14 [l0, l1] [.ref a] M k n := R_get X.1 inX0 rfl 1 (Nat.le_of_ble_eq_true rfl) wd_63 d_P_isMadeFolder_14 hM rfl h
theorem i_P_isMadeFolder_17 {z : zT} {ws0 : va_W} {mc ms : Nat} {Post : Option Value → mM → Prop} (X : B_P_isMadeFolder z ws0 mc ms Post) {v : Value} {l0 l1 : Option Value} {M : mM} {k n : Nat} (hv : mRf v := by first | exact mRf_r _ | exact mRf_n | exact mRf_rf _ | assumption) (h1 : ∀ a, v = .ref a → RN z 24 [l0, l1] [] M k n) (h2 : v = .null → RN z 20 [l0, l1] [] M k n) : RN z 17 [l0, l1] [v] M k n := R_ifnonnull X.1 d_P_isMadeFolder_17 (by decide) hv h1 h2
theorem i_P_isMadeFolder_20 {z : zT} {ws0 : va_W} {mc ms : Nat} {Post : Option Value → mM → Prop} (X : B_P_isMadeFolder z ws0 mc ms Post) {l0 l1 : Option Value} {M : mM} {k n : Nat}  (h : RN z 21 [l0, l1] [.int 1] M k n) : RN z 20 [l0, l1] [] M k n := R_iconst X.1 d_P_isMadeFolder_20 (by decide) h
theorem i_P_isMadeFolder_21 {z : zT} {ws0 : va_W} {mc ms : Nat} {Post : Option Value → mM → Prop} (X : B_P_isMadeFolder z ws0 mc ms Post) {l0 l1 : Option Value} {s0 : Value} {M : mM} {k n : Nat}  (h : RN z 25 [l0, l1] [s0] M k n) : RN z 21 [l0, l1] [s0] M k n := R_goto X.1 d_P_isMadeFolder_21 (by decide) h
theorem i_P_isMadeFolder_24 {z : zT} {ws0 : va_W} {mc ms : Nat} {Post : Option Value → mM → Prop} (X : B_P_isMadeFolder z ws0 mc ms Post) {l0 l1 : Option Value} {M : mM} {k n : Nat}  (h : RN z 25 [l0, l1] [.int 0] M k n) : RN z 24 [l0, l1] [] M k n := R_iconst X.1 d_P_isMadeFolder_24 (by decide) h
theorem i_P_isMadeFolder_25 {z : zT} {ws0 : va_W} {mc ms : Nat} {Post : Option Value → mM → Prop} (X : B_P_isMadeFolder z ws0 mc ms Post) {x : Int32} {l0 l1 : Option Value} {M : mM} {k n : Nat} (hk : k ≤ mc) (hn : n ≤ ms) (hx : x = 0 ∨ x = 1) (hp : Post (some (.int x)) M) : RN z 25 [l0, l1] [.int x] M k n := R_zret X.1 X.2 d_P_isMadeFolder_25 (by rcases hx with rfl | rfl <;> rfl) hk hn hp
theorem d_P_latestVersion_0 : decode c_P_latestVersion 0 = .ok (.aload_n 0, 1) := by decide +kernel
theorem d_P_latestVersion_1 : decode c_P_latestVersion 1 = .ok (.iload_n 1, 1) := by decide +kernel
theorem d_P_latestVersion_2 : decode c_P_latestVersion 2 = .ok (.invokevirtual 164, 3) := by decide +kernel
theorem d_P_latestVersion_5 : decode c_P_latestVersion 5 = .ok (.ifCond .eq 15, 3) := by decide +kernel
theorem d_P_latestVersion_8 : decode c_P_latestVersion 8 = .ok (.aload_n 0, 1) := by decide +kernel
theorem d_P_latestVersion_9 : decode c_P_latestVersion 9 = .ok (.getfield 11, 3) := by decide +kernel
theorem d_P_latestVersion_12 : decode c_P_latestVersion 12 = .ok (.iload_n 1, 1) := by decide +kernel
theorem d_P_latestVersion_13 : decode c_P_latestVersion 13 = .ok (.aaload, 1) := by decide +kernel
theorem d_P_latestVersion_14 : decode c_P_latestVersion 14 = .ok (.getfield 76, 3) := by decide +kernel
theorem d_P_latestVersion_17 : decode c_P_latestVersion 17 = .ok (.goto 4, 3) := by decide +kernel
theorem d_P_latestVersion_20 : decode c_P_latestVersion 20 = .ok (.aconst_null, 1) := by decide +kernel
theorem d_P_latestVersion_21 : decode c_P_latestVersion 21 = .ok (.areturn, 1) := by decide +kernel
abbrev B_P_latestVersion (z : zT) (ws0 : va_W) (mc ms : Nat) (Post : Option Value → mM → Prop) : Prop := BX z c_P_latestVersion 2 y_P_latestVersion.cls y_P_latestVersion.name 1 21 ∧ BQ z (some (.object "PastTree$Version")) ws0 mc ms Post
abbrev Ct_P_latestVersion (l : Launch) (D : va_G) (tys : List (ClassId × FieldType)) (mc ms : Nat) (av : List Value) (M : mM) (Post : Option Value → mM → Prop) : Prop := Ct l D tys y_P_latestVersion w_P_latestVersion 1 21 mc ms av M Post
theorem i_P_latestVersion_0 {z : zT} {ws0 : va_W} {mc ms : Nat} {Post : Option Value → mM → Prop} (X : B_P_latestVersion z ws0 mc ms Post) {v : Value} {l1 : Option Value} {M : mM} {k n : Nat} (hv : mRf v := by first | exact mRf_r _ | exact mRf_n | exact mRf_rf _ | assumption) (h : RN z 1 [some v, l1] [v] M k n) : RN z 0 [some v, l1] [] M k n := R_aload_n X.1 d_P_latestVersion_0 rfl rfl hv h
theorem i_P_latestVersion_1 {z : zT} {ws0 : va_W} {mc ms : Nat} {Post : Option Value → mM → Prop} (X : B_P_latestVersion z ws0 mc ms Post) {x : Int32} {l0 : Option Value} {s0 : Value} {M : mM} {k n : Nat}  (h : RN z 2 [l0, some (.int x)] [.int x, s0] M k n) : RN z 1 [l0, some (.int x)] [s0] M k n := R_iload_n X.1 d_P_latestVersion_1 rfl rfl h
theorem i_P_latestVersion_2 {z : zT} {ws0 : va_W} {mc ms : Nat} {Post : Option Value → mM → Prop} (X : B_P_latestVersion z ws0 mc ms Post) {a0 : Value} {b : Nat} {mc1 ms1 : Nat} {Po : Option Value → mM → Prop} {fs : List Value} {l0 l1 : Option Value} {M : mM} {k n : Nat} (hM : M b = some (.inr (3, fs))) (hC : Ct (zl z) (zD z) (zty z) y_P_isMade w_P_isMade 0 0 mc1 ms1 [.ref b, a0] M Po) (hk : k + mc1 ≤ mc) (hn : n + ms1 ≤ ms) (h : ∀ v M1, Po v M1 → RN z 5 [l0, l1] (v.toList ++ []) M1 (k + mc1) (n + ms1)) : RN z 2 [l0, l1] [a0, .ref b] M k n := R_callV X.1 (av := [a0]) (nA := 1) wd_125 wd_122 wd_124 wd_1 wd_30 (by decide +kernel) rfl (Nat.le_of_ble_eq_true rfl) (Nat.le_of_ble_eq_true rfl) (Nat.le_of_ble_eq_true rfl) d_P_latestVersion_2 rfl (ci := 3) rfl hM hC (by rw [BM.rc1 X.2]; exact hk) (by rw [BM.rc2 X.2]; exact hn) h
theorem i_P_latestVersion_5 {z : zT} {ws0 : va_W} {mc ms : Nat} {Post : Option Value → mM → Prop} (X : B_P_latestVersion z ws0 mc ms Post) {x : Int32} {l0 l1 : Option Value} {M : mM} {k n : Nat}  (h1 : x = 0 → RN z 20 [l0, l1] [] M k n) (h2 : ¬ (x = 0) → RN z 8 [l0, l1] [] M k n) : RN z 5 [l0, l1] [.int x] M k n := R_if_eq X.1 d_P_latestVersion_5 (by decide) h1 h2
theorem i_P_latestVersion_8 {z : zT} {ws0 : va_W} {mc ms : Nat} {Post : Option Value → mM → Prop} (X : B_P_latestVersion z ws0 mc ms Post) {v : Value} {l1 : Option Value} {M : mM} {k n : Nat} (hv : mRf v := by first | exact mRf_r _ | exact mRf_n | exact mRf_rf _ | assumption) (h : RN z 9 [some v, l1] [v] M k n) : RN z 8 [some v, l1] [] M k n := R_aload_n X.1 d_P_latestVersion_8 rfl rfl hv h
theorem i_P_latestVersion_9 {z : zT} {ws0 : va_W} {mc ms : Nat} {Post : Option Value → mM → Prop} (X : B_P_latestVersion z ws0 mc ms Post) {a : Nat} {f0 f1 f2 f3 f4 f5 f6 f7 f8 f9 f10 : Value} {l0 l1 : Option Value} {M : mM} {k n : Nat} (hM : M a = some (.inr (3, [f0, f1, f2, f3, f4, f5, f6, f7, f8, f9, f10]))) (h : RN z 12 [l0, l1] [f2] M k n) : RN z 9 [l0, l1] [.ref a] M k n := R_get X.1 inX3 rfl 2 (Nat.le_of_ble_eq_true rfl) wd_78 d_P_latestVersion_9 hM rfl h
theorem i_P_latestVersion_12 {z : zT} {ws0 : va_W} {mc ms : Nat} {Post : Option Value → mM → Prop} (X : B_P_latestVersion z ws0 mc ms Post) {x : Int32} {l0 : Option Value} {s0 : Value} {M : mM} {k n : Nat}  (h : RN z 13 [l0, some (.int x)] [.int x, s0] M k n) : RN z 12 [l0, some (.int x)] [s0] M k n := R_iload_n X.1 d_P_latestVersion_12 rfl rfl h
theorem i_P_latestVersion_13 {z : zT} {ws0 : va_W} {mc ms : Nat} {Post : Option Value → mM → Prop} (X : B_P_latestVersion z ws0 mc ms Post) {cI cB cN : ClassId} (G : GT z cI cB cN) {a w j : Nat} {i : Int32} {f : Nat → Option Nat} {l0 l1 : Option Value} {M : mM} {k n : Nat} (hM : M a = some (.inl (cN, w, .inr (.inr (.inr (.inr f)))))) (hx : i = nI j) (hj : j < w) (hw : w < 2 ^ 31 := by decide) (h : RN z 14 [l0, l1] [va_rf (f j)] M k n) : RN z 13 [l0, l1] [.int i, .ref a] M k n := R_aald X.1 2 G.2.2 d_P_latestVersion_13 hM (by rw [hx]; exact vp_in_nI hj hw) (by rw [hx, nI_clamp (by omega)]; exact h)
theorem i_P_latestVersion_14 {z : zT} {ws0 : va_W} {mc ms : Nat} {Post : Option Value → mM → Prop} (X : B_P_latestVersion z ws0 mc ms Post) {a : Nat} {f0 f1 f2 f3 : Value} {l0 l1 : Option Value} {M : mM} {k n : Nat} (hM : M a = some (.inr (0, [f0, f1, f2, f3]))) (h : RN z 17 [l0, l1] [f1] M k n) : RN z 14 [l0, l1] [.ref a] M k n := R_get X.1 inX0 rfl 1 (Nat.le_of_ble_eq_true rfl) wd_63 d_P_latestVersion_14 hM rfl h
theorem i_P_latestVersion_17 {z : zT} {ws0 : va_W} {mc ms : Nat} {Post : Option Value → mM → Prop} (X : B_P_latestVersion z ws0 mc ms Post) {l0 l1 : Option Value} {s0 : Value} {M : mM} {k n : Nat}  (h : RN z 21 [l0, l1] [s0] M k n) : RN z 17 [l0, l1] [s0] M k n := R_goto X.1 d_P_latestVersion_17 (by decide) h
theorem i_P_latestVersion_20 {z : zT} {ws0 : va_W} {mc ms : Nat} {Post : Option Value → mM → Prop} (X : B_P_latestVersion z ws0 mc ms Post) {l0 l1 : Option Value} {M : mM} {k n : Nat}  (h : RN z 21 [l0, l1] [.null] M k n) : RN z 20 [l0, l1] [] M k n := R_null X.1 d_P_latestVersion_20 h
theorem i_P_latestVersion_21 {z : zT} {ws0 : va_W} {mc ms : Nat} {Post : Option Value → mM → Prop} (X : B_P_latestVersion z ws0 mc ms Post) {v : Value} {l0 l1 : Option Value} {M : mM} {k n : Nat} (hk : k ≤ mc) (hn : n ≤ ms) (hv : mRf v := by first | exact mRf_r _ | exact mRf_n | exact mRf_rf _ | assumption) (hp : Post (some v) M) : RN z 21 [l0, l1] [v] M k n := R_aret X.1 X.2 (Or.inl ⟨_, rfl⟩) d_P_latestVersion_21 hv hk hn hp
theorem d_P_kindOf_0 : decode c_P_kindOf 0 = .ok (.aload_n 0, 1) := by decide +kernel
theorem d_P_kindOf_1 : decode c_P_kindOf 1 = .ok (.iload_n 1, 1) := by decide +kernel
theorem d_P_kindOf_2 : decode c_P_kindOf 2 = .ok (.invokevirtual 164, 3) := by decide +kernel
theorem d_P_kindOf_5 : decode c_P_kindOf 5 = .ok (.ifCond .ne 5, 3) := by decide +kernel
theorem d_P_kindOf_8 : decode c_P_kindOf 8 = .ok (.iconst 0, 1) := by decide +kernel
theorem d_P_kindOf_9 : decode c_P_kindOf 9 = .ok (.ireturn, 1) := by decide +kernel
theorem d_P_kindOf_10 : decode c_P_kindOf 10 = .ok (.aload_n 0, 1) := by decide +kernel
theorem d_P_kindOf_11 : decode c_P_kindOf 11 = .ok (.iload_n 1, 1) := by decide +kernel
theorem d_P_kindOf_12 : decode c_P_kindOf 12 = .ok (.invokevirtual 52, 3) := by decide +kernel
theorem d_P_kindOf_15 : decode c_P_kindOf 15 = .ok (.ifCond .eq 7, 3) := by decide +kernel
theorem d_P_kindOf_18 : decode c_P_kindOf 18 = .ok (.iconst 1, 1) := by decide +kernel
theorem d_P_kindOf_19 : decode c_P_kindOf 19 = .ok (.goto 4, 3) := by decide +kernel
theorem d_P_kindOf_22 : decode c_P_kindOf 22 = .ok (.iconst 2, 1) := by decide +kernel
theorem d_P_kindOf_23 : decode c_P_kindOf 23 = .ok (.ireturn, 1) := by decide +kernel
abbrev B_P_kindOf (z : zT) (ws0 : va_W) (mc ms : Nat) (Post : Option Value → mM → Prop) : Prop := BX z c_P_kindOf 2 y_P_kindOf.cls y_P_kindOf.name 2 42 ∧ BQ z (some (.int)) ws0 mc ms Post
abbrev Ct_P_kindOf (l : Launch) (D : va_G) (tys : List (ClassId × FieldType)) (mc ms : Nat) (av : List Value) (M : mM) (Post : Option Value → mM → Prop) : Prop := Ct l D tys y_P_kindOf w_P_kindOf 2 42 mc ms av M Post
theorem i_P_kindOf_0 {z : zT} {ws0 : va_W} {mc ms : Nat} {Post : Option Value → mM → Prop} (X : B_P_kindOf z ws0 mc ms Post) {v : Value} {l1 : Option Value} {M : mM} {k n : Nat} (hv : mRf v := by first | exact mRf_r _ | exact mRf_n | exact mRf_rf _ | assumption) (h : RN z 1 [some v, l1] [v] M k n) : RN z 0 [some v, l1] [] M k n := R_aload_n X.1 d_P_kindOf_0 rfl rfl hv h
theorem i_P_kindOf_1 {z : zT} {ws0 : va_W} {mc ms : Nat} {Post : Option Value → mM → Prop} (X : B_P_kindOf z ws0 mc ms Post) {x : Int32} {l0 : Option Value} {s0 : Value} {M : mM} {k n : Nat}  (h : RN z 2 [l0, some (.int x)] [.int x, s0] M k n) : RN z 1 [l0, some (.int x)] [s0] M k n := R_iload_n X.1 d_P_kindOf_1 rfl rfl h
theorem i_P_kindOf_2 {z : zT} {ws0 : va_W} {mc ms : Nat} {Post : Option Value → mM → Prop} (X : B_P_kindOf z ws0 mc ms Post) {a0 : Value} {b : Nat} {mc1 ms1 : Nat} {Po : Option Value → mM → Prop} {fs : List Value} {l0 l1 : Option Value} {M : mM} {k n : Nat} (hM : M b = some (.inr (3, fs))) (hC : Ct (zl z) (zD z) (zty z) y_P_isMade w_P_isMade 0 0 mc1 ms1 [.ref b, a0] M Po) (hk : k + mc1 ≤ mc) (hn : n + ms1 ≤ ms) (h : ∀ v M1, Po v M1 → RN z 5 [l0, l1] (v.toList ++ []) M1 (k + mc1) (n + ms1)) : RN z 2 [l0, l1] [a0, .ref b] M k n := R_callV X.1 (av := [a0]) (nA := 1) wd_125 wd_122 wd_124 wd_1 wd_30 (by decide +kernel) rfl (Nat.le_of_ble_eq_true rfl) (Nat.le_of_ble_eq_true rfl) (Nat.le_of_ble_eq_true rfl) d_P_kindOf_2 rfl (ci := 3) rfl hM hC (by rw [BM.rc1 X.2]; exact hk) (by rw [BM.rc2 X.2]; exact hn) h
theorem i_P_kindOf_5 {z : zT} {ws0 : va_W} {mc ms : Nat} {Post : Option Value → mM → Prop} (X : B_P_kindOf z ws0 mc ms Post) {x : Int32} {l0 l1 : Option Value} {M : mM} {k n : Nat}  (h1 : ¬ x = 0 → RN z 10 [l0, l1] [] M k n) (h2 : x = 0 → RN z 8 [l0, l1] [] M k n) : RN z 5 [l0, l1] [.int x] M k n := R_if_ne X.1 d_P_kindOf_5 (by decide) h1 h2
theorem i_P_kindOf_8 {z : zT} {ws0 : va_W} {mc ms : Nat} {Post : Option Value → mM → Prop} (X : B_P_kindOf z ws0 mc ms Post) {l0 l1 : Option Value} {M : mM} {k n : Nat}  (h : RN z 9 [l0, l1] [.int 0] M k n) : RN z 8 [l0, l1] [] M k n := R_iconst X.1 d_P_kindOf_8 (by decide) h
theorem i_P_kindOf_9 {z : zT} {ws0 : va_W} {mc ms : Nat} {Post : Option Value → mM → Prop} (X : B_P_kindOf z ws0 mc ms Post) {x : Int32} {l0 l1 : Option Value} {M : mM} {k n : Nat} (hk : k ≤ mc) (hn : n ≤ ms) (hp : Post (some (.int x)) M) : RN z 9 [l0, l1] [.int x] M k n := R_iret X.1 X.2 d_P_kindOf_9 hk hn hp
theorem i_P_kindOf_10 {z : zT} {ws0 : va_W} {mc ms : Nat} {Post : Option Value → mM → Prop} (X : B_P_kindOf z ws0 mc ms Post) {v : Value} {l1 : Option Value} {M : mM} {k n : Nat} (hv : mRf v := by first | exact mRf_r _ | exact mRf_n | exact mRf_rf _ | assumption) (h : RN z 11 [some v, l1] [v] M k n) : RN z 10 [some v, l1] [] M k n := R_aload_n X.1 d_P_kindOf_10 rfl rfl hv h
theorem i_P_kindOf_11 {z : zT} {ws0 : va_W} {mc ms : Nat} {Post : Option Value → mM → Prop} (X : B_P_kindOf z ws0 mc ms Post) {x : Int32} {l0 : Option Value} {s0 : Value} {M : mM} {k n : Nat}  (h : RN z 12 [l0, some (.int x)] [.int x, s0] M k n) : RN z 11 [l0, some (.int x)] [s0] M k n := R_iload_n X.1 d_P_kindOf_11 rfl rfl h
theorem i_P_kindOf_12 {z : zT} {ws0 : va_W} {mc ms : Nat} {Post : Option Value → mM → Prop} (X : B_P_kindOf z ws0 mc ms Post) {a0 : Value} {b : Nat} {mc1 ms1 : Nat} {Po : Option Value → mM → Prop} {fs : List Value} {l0 l1 : Option Value} {M : mM} {k n : Nat} (hM : M b = some (.inr (3, fs))) (hC : Ct (zl z) (zD z) (zty z) y_P_isMadeFolder w_P_isMadeFolder 1 21 mc1 ms1 [.ref b, a0] M Po) (hk : k + mc1 ≤ mc) (hn : n + ms1 ≤ ms) (h : ∀ v M1, Po v M1 → RN z 15 [l0, l1] (v.toList ++ []) M1 (k + mc1) (n + ms1)) : RN z 12 [l0, l1] [a0, .ref b] M k n := R_callV X.1 (av := [a0]) (nA := 1) wd_121 wd_118 wd_120 wd_0 wd_30 (by decide +kernel) rfl (Nat.le_of_ble_eq_true rfl) (Nat.le_of_ble_eq_true rfl) (Nat.le_of_ble_eq_true rfl) d_P_kindOf_12 rfl (ci := 3) rfl hM hC (by rw [BM.rc1 X.2]; exact hk) (by rw [BM.rc2 X.2]; exact hn) h
theorem i_P_kindOf_15 {z : zT} {ws0 : va_W} {mc ms : Nat} {Post : Option Value → mM → Prop} (X : B_P_kindOf z ws0 mc ms Post) {x : Int32} {l0 l1 : Option Value} {M : mM} {k n : Nat}  (h1 : x = 0 → RN z 22 [l0, l1] [] M k n) (h2 : ¬ (x = 0) → RN z 18 [l0, l1] [] M k n) : RN z 15 [l0, l1] [.int x] M k n := R_if_eq X.1 d_P_kindOf_15 (by decide) h1 h2
theorem i_P_kindOf_18 {z : zT} {ws0 : va_W} {mc ms : Nat} {Post : Option Value → mM → Prop} (X : B_P_kindOf z ws0 mc ms Post) {l0 l1 : Option Value} {M : mM} {k n : Nat}  (h : RN z 19 [l0, l1] [.int 1] M k n) : RN z 18 [l0, l1] [] M k n := R_iconst X.1 d_P_kindOf_18 (by decide) h
theorem i_P_kindOf_19 {z : zT} {ws0 : va_W} {mc ms : Nat} {Post : Option Value → mM → Prop} (X : B_P_kindOf z ws0 mc ms Post) {l0 l1 : Option Value} {s0 : Value} {M : mM} {k n : Nat}  (h : RN z 23 [l0, l1] [s0] M k n) : RN z 19 [l0, l1] [s0] M k n := R_goto X.1 d_P_kindOf_19 (by decide) h
theorem i_P_kindOf_22 {z : zT} {ws0 : va_W} {mc ms : Nat} {Post : Option Value → mM → Prop} (X : B_P_kindOf z ws0 mc ms Post) {l0 l1 : Option Value} {M : mM} {k n : Nat}  (h : RN z 23 [l0, l1] [.int 2] M k n) : RN z 22 [l0, l1] [] M k n := R_iconst X.1 d_P_kindOf_22 (by decide) h
theorem i_P_kindOf_23 {z : zT} {ws0 : va_W} {mc ms : Nat} {Post : Option Value → mM → Prop} (X : B_P_kindOf z ws0 mc ms Post) {x : Int32} {l0 l1 : Option Value} {M : mM} {k n : Nat} (hk : k ≤ mc) (hn : n ≤ ms) (hp : Post (some (.int x)) M) : RN z 23 [l0, l1] [.int x] M k n := R_iret X.1 X.2 d_P_kindOf_23 hk hn hp
theorem d_P_isUsedUp_0 : decode c_P_isUsedUp 0 = .ok (.aload_n 0, 1) := by decide +kernel
theorem d_P_isUsedUp_1 : decode c_P_isUsedUp 1 = .ok (.getfield 38, 3) := by decide +kernel
theorem d_P_isUsedUp_4 : decode c_P_isUsedUp 4 = .ok (.sipush 512, 3) := by decide +kernel
theorem d_P_isUsedUp_7 : decode c_P_isUsedUp 7 = .ok (.if_icmp .lt 7, 3) := by decide +kernel
theorem d_P_isUsedUp_10 : decode c_P_isUsedUp 10 = .ok (.iconst 1, 1) := by decide +kernel
theorem d_P_isUsedUp_11 : decode c_P_isUsedUp 11 = .ok (.goto 4, 3) := by decide +kernel
theorem d_P_isUsedUp_14 : decode c_P_isUsedUp 14 = .ok (.iconst 0, 1) := by decide +kernel
theorem d_P_isUsedUp_15 : decode c_P_isUsedUp 15 = .ok (.ireturn, 1) := by decide +kernel
abbrev B_P_isUsedUp (z : zT) (ws0 : va_W) (mc ms : Nat) (Post : Option Value → mM → Prop) : Prop := BX z c_P_isUsedUp 1 y_P_isUsedUp.cls y_P_isUsedUp.name 0 0 ∧ BQ z (some (.boolean)) ws0 mc ms Post
abbrev Ct_P_isUsedUp (l : Launch) (D : va_G) (tys : List (ClassId × FieldType)) (mc ms : Nat) (av : List Value) (M : mM) (Post : Option Value → mM → Prop) : Prop := Ct l D tys y_P_isUsedUp w_P_isUsedUp 0 0 mc ms av M Post
theorem i_P_isUsedUp_0 {z : zT} {ws0 : va_W} {mc ms : Nat} {Post : Option Value → mM → Prop} (X : B_P_isUsedUp z ws0 mc ms Post) {v : Value} {M : mM} {k n : Nat} (hv : mRf v := by first | exact mRf_r _ | exact mRf_n | exact mRf_rf _ | assumption) (h : RN z 1 [some v] [v] M k n) : RN z 0 [some v] [] M k n := R_aload_n X.1 d_P_isUsedUp_0 rfl rfl hv h
theorem i_P_isUsedUp_1 {z : zT} {ws0 : va_W} {mc ms : Nat} {Post : Option Value → mM → Prop} (X : B_P_isUsedUp z ws0 mc ms Post) {a : Nat} {f0 f1 f2 f3 f4 f5 f6 f7 f8 f9 f10 : Value} {l0 : Option Value} {M : mM} {k n : Nat} (hM : M a = some (.inr (3, [f0, f1, f2, f3, f4, f5, f6, f7, f8, f9, f10]))) (h : RN z 4 [l0] [f10] M k n) : RN z 1 [l0] [.ref a] M k n := R_get X.1 inX3 rfl 10 (Nat.le_of_ble_eq_true rfl) wd_86 d_P_isUsedUp_1 hM rfl h
theorem i_P_isUsedUp_4 {z : zT} {ws0 : va_W} {mc ms : Nat} {Post : Option Value → mM → Prop} (X : B_P_isUsedUp z ws0 mc ms Post) {l0 : Option Value} {s0 : Value} {M : mM} {k n : Nat}  (h : RN z 7 [l0] [.int 512, s0] M k n) : RN z 4 [l0] [s0] M k n := R_sipush X.1 d_P_isUsedUp_4 (by decide) h
theorem i_P_isUsedUp_7 {z : zT} {ws0 : va_W} {mc ms : Nat} {Post : Option Value → mM → Prop} (X : B_P_isUsedUp z ws0 mc ms Post) {x y : Int32} {l0 : Option Value} {M : mM} {k n : Nat}  (h1 : x < y → RN z 14 [l0] [] M k n) (h2 : ¬ (x < y) → RN z 10 [l0] [] M k n) : RN z 7 [l0] [.int y, .int x] M k n := R_icmp_lt X.1 d_P_isUsedUp_7 (by decide) h1 h2
theorem i_P_isUsedUp_10 {z : zT} {ws0 : va_W} {mc ms : Nat} {Post : Option Value → mM → Prop} (X : B_P_isUsedUp z ws0 mc ms Post) {l0 : Option Value} {M : mM} {k n : Nat}  (h : RN z 11 [l0] [.int 1] M k n) : RN z 10 [l0] [] M k n := R_iconst X.1 d_P_isUsedUp_10 (by decide) h
theorem i_P_isUsedUp_11 {z : zT} {ws0 : va_W} {mc ms : Nat} {Post : Option Value → mM → Prop} (X : B_P_isUsedUp z ws0 mc ms Post) {l0 : Option Value} {s0 : Value} {M : mM} {k n : Nat}  (h : RN z 15 [l0] [s0] M k n) : RN z 11 [l0] [s0] M k n := R_goto X.1 d_P_isUsedUp_11 (by decide) h
theorem i_P_isUsedUp_14 {z : zT} {ws0 : va_W} {mc ms : Nat} {Post : Option Value → mM → Prop} (X : B_P_isUsedUp z ws0 mc ms Post) {l0 : Option Value} {M : mM} {k n : Nat}  (h : RN z 15 [l0] [.int 0] M k n) : RN z 14 [l0] [] M k n := R_iconst X.1 d_P_isUsedUp_14 (by decide) h
theorem i_P_isUsedUp_15 {z : zT} {ws0 : va_W} {mc ms : Nat} {Post : Option Value → mM → Prop} (X : B_P_isUsedUp z ws0 mc ms Post) {x : Int32} {l0 : Option Value} {M : mM} {k n : Nat} (hk : k ≤ mc) (hn : n ≤ ms) (hx : x = 0 ∨ x = 1) (hp : Post (some (.int x)) M) : RN z 15 [l0] [.int x] M k n := R_zret X.1 X.2 d_P_isUsedUp_15 (by rcases hx with rfl | rfl <;> rfl) hk hn hp
theorem d_P_noteChange_0 : decode c_P_noteChange 0 = .ok (.aload_n 0, 1) := by decide +kernel
theorem d_P_noteChange_1 : decode c_P_noteChange 1 = .ok (.dup, 1) := by decide +kernel
theorem d_P_noteChange_2 : decode c_P_noteChange 2 = .ok (.getfield 26, 3) := by decide +kernel
theorem d_P_noteChange_5 : decode c_P_noteChange 5 = .ok (.iconst 1, 1) := by decide +kernel
theorem d_P_noteChange_6 : decode c_P_noteChange 6 = .ok (.iadd, 1) := by decide +kernel
theorem d_P_noteChange_7 : decode c_P_noteChange 7 = .ok (.putfield 26, 3) := by decide +kernel
theorem d_P_noteChange_10 : decode c_P_noteChange 10 = .ok (.aload_n 0, 1) := by decide +kernel
theorem d_P_noteChange_11 : decode c_P_noteChange 11 = .ok (.dup, 1) := by decide +kernel
theorem d_P_noteChange_12 : decode c_P_noteChange 12 = .ok (.getfield 38, 3) := by decide +kernel
theorem d_P_noteChange_15 : decode c_P_noteChange 15 = .ok (.iconst 1, 1) := by decide +kernel
theorem d_P_noteChange_16 : decode c_P_noteChange 16 = .ok (.iadd, 1) := by decide +kernel
theorem d_P_noteChange_17 : decode c_P_noteChange 17 = .ok (.putfield 38, 3) := by decide +kernel
theorem d_P_noteChange_20 : decode c_P_noteChange 20 = .ok (.return_, 1) := by decide +kernel
abbrev B_P_noteChange (z : zT) (ws0 : va_W) (mc ms : Nat) (Post : Option Value → mM → Prop) : Prop := BX z c_P_noteChange 1 y_P_noteChange.cls y_P_noteChange.name 0 0 ∧ BQ z none ws0 mc ms Post
abbrev Ct_P_noteChange (l : Launch) (D : va_G) (tys : List (ClassId × FieldType)) (mc ms : Nat) (av : List Value) (M : mM) (Post : Option Value → mM → Prop) : Prop := Ct l D tys y_P_noteChange w_P_noteChange 0 0 mc ms av M Post
theorem i_P_noteChange_0 {z : zT} {ws0 : va_W} {mc ms : Nat} {Post : Option Value → mM → Prop} (X : B_P_noteChange z ws0 mc ms Post) {v : Value} {M : mM} {k n : Nat} (hv : mRf v := by first | exact mRf_r _ | exact mRf_n | exact mRf_rf _ | assumption) (h : RN z 1 [some v] [v] M k n) : RN z 0 [some v] [] M k n := R_aload_n X.1 d_P_noteChange_0 rfl rfl hv h
theorem i_P_noteChange_1 {z : zT} {ws0 : va_W} {mc ms : Nat} {Post : Option Value → mM → Prop} (X : B_P_noteChange z ws0 mc ms Post) {a : Nat} {l0 : Option Value} {M : mM} {k n : Nat}  (h : RN z 2 [l0] [.ref a, .ref a] M k n) : RN z 1 [l0] [.ref a] M k n := R_dup X.1 d_P_noteChange_1 rfl h
theorem i_P_noteChange_2 {z : zT} {ws0 : va_W} {mc ms : Nat} {Post : Option Value → mM → Prop} (X : B_P_noteChange z ws0 mc ms Post) {a : Nat} {f0 f1 f2 f3 f4 f5 f6 f7 f8 f9 f10 : Value} {l0 : Option Value} {s0 : Value} {M : mM} {k n : Nat} (hM : M a = some (.inr (3, [f0, f1, f2, f3, f4, f5, f6, f7, f8, f9, f10]))) (h : RN z 5 [l0] [f6, s0] M k n) : RN z 2 [l0] [.ref a, s0] M k n := R_get X.1 inX3 rfl 6 (Nat.le_of_ble_eq_true rfl) wd_82 d_P_noteChange_2 hM rfl h
theorem i_P_noteChange_5 {z : zT} {ws0 : va_W} {mc ms : Nat} {Post : Option Value → mM → Prop} (X : B_P_noteChange z ws0 mc ms Post) {l0 : Option Value} {s0 s1 : Value} {M : mM} {k n : Nat}  (h : RN z 6 [l0] [.int 1, s0, s1] M k n) : RN z 5 [l0] [s0, s1] M k n := R_iconst X.1 d_P_noteChange_5 (by decide) h
theorem i_P_noteChange_6 {z : zT} {ws0 : va_W} {mc ms : Nat} {Post : Option Value → mM → Prop} (X : B_P_noteChange z ws0 mc ms Post) {x y : Int32} {l0 : Option Value} {s0 : Value} {M : mM} {k n : Nat}  (h : RN z 7 [l0] [.int (x + y), s0] M k n) : RN z 6 [l0] [.int y, .int x, s0] M k n := R_iadd X.1 d_P_noteChange_6 h
theorem i_P_noteChange_7 {z : zT} {ws0 : va_W} {mc ms : Nat} {Post : Option Value → mM → Prop} (X : B_P_noteChange z ws0 mc ms Post) {a : Nat} {f0 f1 f2 f3 f4 f5 f6 f7 f8 f9 f10 : Value} {x : Int32} {l0 : Option Value} {M : mM} {k n : Nat} (hM : M a = some (.inr (3, [f0, f1, f2, f3, f4, f5, f6, f7, f8, f9, f10]))) (h : RN z 10 [l0] [] (mS M a (.inr (3, [f0, f1, f2, f3, f4, f5, .int x, f7, f8, f9, f10]))) k n) : RN z 7 [l0] [.int x, .ref a] M k n := R_put X.1 inX3 rfl 6 (Nat.le_of_ble_eq_true rfl) tyX3 tyX3_ok nmX3 wd_82 rfl (by decide +kernel : parseFieldDescriptor (TX3 6).2.2.1 = some (.int)) rfl rfl d_P_noteChange_7 hM (Nat.le_of_ble_eq_true rfl) h
theorem i_P_noteChange_10 {z : zT} {ws0 : va_W} {mc ms : Nat} {Post : Option Value → mM → Prop} (X : B_P_noteChange z ws0 mc ms Post) {v : Value} {M : mM} {k n : Nat} (hv : mRf v := by first | exact mRf_r _ | exact mRf_n | exact mRf_rf _ | assumption) (h : RN z 11 [some v] [v] M k n) : RN z 10 [some v] [] M k n := R_aload_n X.1 d_P_noteChange_10 rfl rfl hv h
theorem i_P_noteChange_11 {z : zT} {ws0 : va_W} {mc ms : Nat} {Post : Option Value → mM → Prop} (X : B_P_noteChange z ws0 mc ms Post) {a : Nat} {l0 : Option Value} {M : mM} {k n : Nat}  (h : RN z 12 [l0] [.ref a, .ref a] M k n) : RN z 11 [l0] [.ref a] M k n := R_dup X.1 d_P_noteChange_11 rfl h
theorem i_P_noteChange_12 {z : zT} {ws0 : va_W} {mc ms : Nat} {Post : Option Value → mM → Prop} (X : B_P_noteChange z ws0 mc ms Post) {a : Nat} {f0 f1 f2 f3 f4 f5 f6 f7 f8 f9 f10 : Value} {l0 : Option Value} {s0 : Value} {M : mM} {k n : Nat} (hM : M a = some (.inr (3, [f0, f1, f2, f3, f4, f5, f6, f7, f8, f9, f10]))) (h : RN z 15 [l0] [f10, s0] M k n) : RN z 12 [l0] [.ref a, s0] M k n := R_get X.1 inX3 rfl 10 (Nat.le_of_ble_eq_true rfl) wd_86 d_P_noteChange_12 hM rfl h
theorem i_P_noteChange_15 {z : zT} {ws0 : va_W} {mc ms : Nat} {Post : Option Value → mM → Prop} (X : B_P_noteChange z ws0 mc ms Post) {l0 : Option Value} {s0 s1 : Value} {M : mM} {k n : Nat}  (h : RN z 16 [l0] [.int 1, s0, s1] M k n) : RN z 15 [l0] [s0, s1] M k n := R_iconst X.1 d_P_noteChange_15 (by decide) h
theorem i_P_noteChange_16 {z : zT} {ws0 : va_W} {mc ms : Nat} {Post : Option Value → mM → Prop} (X : B_P_noteChange z ws0 mc ms Post) {x y : Int32} {l0 : Option Value} {s0 : Value} {M : mM} {k n : Nat}  (h : RN z 17 [l0] [.int (x + y), s0] M k n) : RN z 16 [l0] [.int y, .int x, s0] M k n := R_iadd X.1 d_P_noteChange_16 h
theorem i_P_noteChange_17 {z : zT} {ws0 : va_W} {mc ms : Nat} {Post : Option Value → mM → Prop} (X : B_P_noteChange z ws0 mc ms Post) {a : Nat} {f0 f1 f2 f3 f4 f5 f6 f7 f8 f9 f10 : Value} {x : Int32} {l0 : Option Value} {M : mM} {k n : Nat} (hM : M a = some (.inr (3, [f0, f1, f2, f3, f4, f5, f6, f7, f8, f9, f10]))) (h : RN z 20 [l0] [] (mS M a (.inr (3, [f0, f1, f2, f3, f4, f5, f6, f7, f8, f9, .int x]))) k n) : RN z 17 [l0] [.int x, .ref a] M k n := R_put X.1 inX3 rfl 10 (Nat.le_of_ble_eq_true rfl) tyX3 tyX3_ok nmX3 wd_86 rfl (by decide +kernel : parseFieldDescriptor (TX3 10).2.2.1 = some (.int)) rfl rfl d_P_noteChange_17 hM (Nat.le_of_ble_eq_true rfl) h
theorem i_P_noteChange_20 {z : zT} {ws0 : va_W} {mc ms : Nat} {Post : Option Value → mM → Prop} (X : B_P_noteChange z ws0 mc ms Post) {l0 : Option Value} {M : mM} {k n : Nat} (hk : k ≤ mc) (hn : n ≤ ms) (hp : Post none M) : RN z 20 [l0] [] M k n := R_vret X.1 X.2 d_P_noteChange_20 hk hn hp
theorem d_P_place_0 : decode c_P_place 0 = .ok (.aload_n 0, 1) := by decide +kernel
theorem d_P_place_1 : decode c_P_place 1 = .ok (.getfield 11, 3) := by decide +kernel
theorem d_P_place_4 : decode c_P_place 4 = .ok (.iload_n 1, 1) := by decide +kernel
theorem d_P_place_5 : decode c_P_place 5 = .ok (.aaload, 1) := by decide +kernel
theorem d_P_place_6 : decode c_P_place 6 = .ok (.new 167, 3) := by decide +kernel
theorem d_P_place_9 : decode c_P_place 9 = .ok (.dup, 1) := by decide +kernel
theorem d_P_place_10 : decode c_P_place 10 = .ok (.aload_n 0, 1) := by decide +kernel
theorem d_P_place_11 : decode c_P_place 11 = .ok (.getfield 19, 3) := by decide +kernel
theorem d_P_place_14 : decode c_P_place 14 = .ok (.iload_n 2, 1) := by decide +kernel
theorem d_P_place_15 : decode c_P_place 15 = .ok (.aload_n 0, 1) := by decide +kernel
theorem d_P_place_16 : decode c_P_place 16 = .ok (.getfield 11, 3) := by decide +kernel
theorem d_P_place_19 : decode c_P_place 19 = .ok (.iload_n 1, 1) := by decide +kernel
theorem d_P_place_20 : decode c_P_place 20 = .ok (.aaload, 1) := by decide +kernel
theorem d_P_place_21 : decode c_P_place 21 = .ok (.getfield 169, 3) := by decide +kernel
theorem d_P_place_24 : decode c_P_place 24 = .ok (.invokespecial 173, 3) := by decide +kernel
theorem d_P_place_27 : decode c_P_place 27 = .ok (.putfield 169, 3) := by decide +kernel
theorem d_P_place_30 : decode c_P_place 30 = .ok (.aload_n 0, 1) := by decide +kernel
theorem d_P_place_31 : decode c_P_place 31 = .ok (.invokevirtual 176, 3) := by decide +kernel
theorem d_P_place_34 : decode c_P_place 34 = .ok (.return_, 1) := by decide +kernel
abbrev B_P_place (z : zT) (ws0 : va_W) (mc ms : Nat) (Post : Option Value → mM → Prop) : Prop := BX z c_P_place 3 y_P_place.cls y_P_place.name 2 35 ∧ BQ z none ws0 mc ms Post
abbrev Ct_P_place (l : Launch) (D : va_G) (tys : List (ClassId × FieldType)) (mc ms : Nat) (av : List Value) (M : mM) (Post : Option Value → mM → Prop) : Prop := Ct l D tys y_P_place w_P_place 2 35 mc ms av M Post
theorem i_P_place_0 {z : zT} {ws0 : va_W} {mc ms : Nat} {Post : Option Value → mM → Prop} (X : B_P_place z ws0 mc ms Post) {v : Value} {l1 l2 : Option Value} {M : mM} {k n : Nat} (hv : mRf v := by first | exact mRf_r _ | exact mRf_n | exact mRf_rf _ | assumption) (h : RN z 1 [some v, l1, l2] [v] M k n) : RN z 0 [some v, l1, l2] [] M k n := R_aload_n X.1 d_P_place_0 rfl rfl hv h
theorem i_P_place_1 {z : zT} {ws0 : va_W} {mc ms : Nat} {Post : Option Value → mM → Prop} (X : B_P_place z ws0 mc ms Post) {a : Nat} {f0 f1 f2 f3 f4 f5 f6 f7 f8 f9 f10 : Value} {l0 l1 l2 : Option Value} {M : mM} {k n : Nat} (hM : M a = some (.inr (3, [f0, f1, f2, f3, f4, f5, f6, f7, f8, f9, f10]))) (h : RN z 4 [l0, l1, l2] [f2] M k n) : RN z 1 [l0, l1, l2] [.ref a] M k n := R_get X.1 inX3 rfl 2 (Nat.le_of_ble_eq_true rfl) wd_78 d_P_place_1 hM rfl h
theorem i_P_place_4 {z : zT} {ws0 : va_W} {mc ms : Nat} {Post : Option Value → mM → Prop} (X : B_P_place z ws0 mc ms Post) {x : Int32} {l0 l2 : Option Value} {s0 : Value} {M : mM} {k n : Nat}  (h : RN z 5 [l0, some (.int x), l2] [.int x, s0] M k n) : RN z 4 [l0, some (.int x), l2] [s0] M k n := R_iload_n X.1 d_P_place_4 rfl rfl h
theorem i_P_place_5 {z : zT} {ws0 : va_W} {mc ms : Nat} {Post : Option Value → mM → Prop} (X : B_P_place z ws0 mc ms Post) {cI cB cN : ClassId} (G : GT z cI cB cN) {a w j : Nat} {i : Int32} {f : Nat → Option Nat} {l0 l1 l2 : Option Value} {M : mM} {k n : Nat} (hM : M a = some (.inl (cN, w, .inr (.inr (.inr (.inr f)))))) (hx : i = nI j) (hj : j < w) (hw : w < 2 ^ 31 := by decide) (h : RN z 6 [l0, l1, l2] [va_rf (f j)] M k n) : RN z 5 [l0, l1, l2] [.int i, .ref a] M k n := R_aald X.1 2 G.2.2 d_P_place_5 hM (by rw [hx]; exact vp_in_nI hj hw) (by rw [hx, nI_clamp (by omega)]; exact h)
theorem i_P_place_6 {z : zT} {ws0 : va_W} {mc ms : Nat} {Post : Option Value → mM → Prop} (X : B_P_place z ws0 mc ms Post) {l0 l1 l2 : Option Value} {s0 : Value} {M : mM} {k n : Nat} (hk : k + 1 ≤ mc) (hn : n + 3 ≤ ms) (h : ∀ q, M q = none → RN z 9 [l0, l1, l2] [.ref q, s0] (mS M q (.inr (1, [.int 0, .int 0, .null]))) (k + 1) (n + 3)) : RN z 6 [l0, l1, l2] [s0] M k n := R_new X.1 inX1 rfl tyX1 tyX1_ok wd_183 wd_184 wd_35 (fun j hj => by rcases (show j = 0 ∨ j = 1 ∨ j = 2 by omega) with rfl | rfl | rfl <;> rfl) d_P_place_6 (by rw [BM.rc1 X.2]; exact hk) (by rw [BM.rc2 X.2]; exact hn) h
theorem i_P_place_9 {z : zT} {ws0 : va_W} {mc ms : Nat} {Post : Option Value → mM → Prop} (X : B_P_place z ws0 mc ms Post) {a : Nat} {l0 l1 l2 : Option Value} {s0 : Value} {M : mM} {k n : Nat}  (h : RN z 10 [l0, l1, l2] [.ref a, .ref a, s0] M k n) : RN z 9 [l0, l1, l2] [.ref a, s0] M k n := R_dup X.1 d_P_place_9 rfl h
theorem i_P_place_10 {z : zT} {ws0 : va_W} {mc ms : Nat} {Post : Option Value → mM → Prop} (X : B_P_place z ws0 mc ms Post) {v : Value} {l1 l2 : Option Value} {s0 s1 s2 : Value} {M : mM} {k n : Nat} (hv : mRf v := by first | exact mRf_r _ | exact mRf_n | exact mRf_rf _ | assumption) (h : RN z 11 [some v, l1, l2] [v, s0, s1, s2] M k n) : RN z 10 [some v, l1, l2] [s0, s1, s2] M k n := R_aload_n X.1 d_P_place_10 rfl rfl hv h
theorem i_P_place_11 {z : zT} {ws0 : va_W} {mc ms : Nat} {Post : Option Value → mM → Prop} (X : B_P_place z ws0 mc ms Post) {a : Nat} {f0 f1 f2 f3 f4 f5 f6 f7 f8 f9 f10 : Value} {l0 l1 l2 : Option Value} {s0 s1 s2 : Value} {M : mM} {k n : Nat} (hM : M a = some (.inr (3, [f0, f1, f2, f3, f4, f5, f6, f7, f8, f9, f10]))) (h : RN z 14 [l0, l1, l2] [f4, s0, s1, s2] M k n) : RN z 11 [l0, l1, l2] [.ref a, s0, s1, s2] M k n := R_get X.1 inX3 rfl 4 (Nat.le_of_ble_eq_true rfl) wd_80 d_P_place_11 hM rfl h
theorem i_P_place_14 {z : zT} {ws0 : va_W} {mc ms : Nat} {Post : Option Value → mM → Prop} (X : B_P_place z ws0 mc ms Post) {x : Int32} {l0 l1 : Option Value} {s0 s1 s2 s3 : Value} {M : mM} {k n : Nat}  (h : RN z 15 [l0, l1, some (.int x)] [.int x, s0, s1, s2, s3] M k n) : RN z 14 [l0, l1, some (.int x)] [s0, s1, s2, s3] M k n := R_iload_n X.1 d_P_place_14 rfl rfl h
theorem i_P_place_15 {z : zT} {ws0 : va_W} {mc ms : Nat} {Post : Option Value → mM → Prop} (X : B_P_place z ws0 mc ms Post) {v : Value} {l1 l2 : Option Value} {s0 s1 s2 s3 s4 : Value} {M : mM} {k n : Nat} (hv : mRf v := by first | exact mRf_r _ | exact mRf_n | exact mRf_rf _ | assumption) (h : RN z 16 [some v, l1, l2] [v, s0, s1, s2, s3, s4] M k n) : RN z 15 [some v, l1, l2] [s0, s1, s2, s3, s4] M k n := R_aload_n X.1 d_P_place_15 rfl rfl hv h
theorem i_P_place_16 {z : zT} {ws0 : va_W} {mc ms : Nat} {Post : Option Value → mM → Prop} (X : B_P_place z ws0 mc ms Post) {a : Nat} {f0 f1 f2 f3 f4 f5 f6 f7 f8 f9 f10 : Value} {l0 l1 l2 : Option Value} {s0 s1 s2 s3 s4 : Value} {M : mM} {k n : Nat} (hM : M a = some (.inr (3, [f0, f1, f2, f3, f4, f5, f6, f7, f8, f9, f10]))) (h : RN z 19 [l0, l1, l2] [f2, s0, s1, s2, s3, s4] M k n) : RN z 16 [l0, l1, l2] [.ref a, s0, s1, s2, s3, s4] M k n := R_get X.1 inX3 rfl 2 (Nat.le_of_ble_eq_true rfl) wd_78 d_P_place_16 hM rfl h
theorem i_P_place_19 {z : zT} {ws0 : va_W} {mc ms : Nat} {Post : Option Value → mM → Prop} (X : B_P_place z ws0 mc ms Post) {x : Int32} {l0 l2 : Option Value} {s0 s1 s2 s3 s4 s5 : Value} {M : mM} {k n : Nat}  (h : RN z 20 [l0, some (.int x), l2] [.int x, s0, s1, s2, s3, s4, s5] M k n) : RN z 19 [l0, some (.int x), l2] [s0, s1, s2, s3, s4, s5] M k n := R_iload_n X.1 d_P_place_19 rfl rfl h
theorem i_P_place_20 {z : zT} {ws0 : va_W} {mc ms : Nat} {Post : Option Value → mM → Prop} (X : B_P_place z ws0 mc ms Post) {cI cB cN : ClassId} (G : GT z cI cB cN) {a w j : Nat} {i : Int32} {f : Nat → Option Nat} {l0 l1 l2 : Option Value} {s0 s1 s2 s3 s4 : Value} {M : mM} {k n : Nat} (hM : M a = some (.inl (cN, w, .inr (.inr (.inr (.inr f)))))) (hx : i = nI j) (hj : j < w) (hw : w < 2 ^ 31 := by decide) (h : RN z 21 [l0, l1, l2] [va_rf (f j), s0, s1, s2, s3, s4] M k n) : RN z 20 [l0, l1, l2] [.int i, .ref a, s0, s1, s2, s3, s4] M k n := R_aald X.1 2 G.2.2 d_P_place_20 hM (by rw [hx]; exact vp_in_nI hj hw) (by rw [hx, nI_clamp (by omega)]; exact h)
theorem i_P_place_21 {z : zT} {ws0 : va_W} {mc ms : Nat} {Post : Option Value → mM → Prop} (X : B_P_place z ws0 mc ms Post) {a : Nat} {f0 f1 f2 f3 : Value} {l0 l1 l2 : Option Value} {s0 s1 s2 s3 s4 : Value} {M : mM} {k n : Nat} (hM : M a = some (.inr (0, [f0, f1, f2, f3]))) (h : RN z 24 [l0, l1, l2] [f0, s0, s1, s2, s3, s4] M k n) : RN z 21 [l0, l1, l2] [.ref a, s0, s1, s2, s3, s4] M k n := R_get X.1 inX0 rfl 0 (Nat.le_of_ble_eq_true rfl) wd_61 d_P_place_21 hM rfl h
theorem i_P_place_24 {z : zT} {ws0 : va_W} {mc ms : Nat} {Post : Option Value → mM → Prop} (X : B_P_place z ws0 mc ms Post) {a0 a1 a2 : Value} {b : Nat} {mc1 ms1 : Nat} {Po : Option Value → mM → Prop} {l0 l1 l2 : Option Value} {s0 s1 : Value} {M : mM} {k n : Nat} (hC : Ct (zl z) (zD z) (zty z) y_S_init w_S_init 1 12 mc1 ms1 [.ref b, a0, a1, a2] M Po) (hk : k + mc1 ≤ mc) (hn : n + ms1 ≤ ms) (h : ∀ v M1, Po v M1 → RN z 27 [l0, l1, l2] (v.toList ++ [s0, s1]) M1 (k + mc1) (n + ms1)) : RN z 24 [l0, l1, l2] [a2, a1, a0, .ref b, s0, s1] M k n := R_callI X.1 (av := [a0, a1, a2]) (nA := 3) wd_187 wd_35 wd_185 wd_186 rfl (by decide +kernel) rfl (Nat.le_of_ble_eq_true rfl) (Nat.le_of_ble_eq_true rfl) (Nat.le_of_ble_eq_true rfl) d_P_place_24 rfl hC (by rw [BM.rc1 X.2]; exact hk) (by rw [BM.rc2 X.2]; exact hn) h
theorem i_P_place_27 {z : zT} {ws0 : va_W} {mc ms : Nat} {Post : Option Value → mM → Prop} (X : B_P_place z ws0 mc ms Post) {a : Nat} {f0 f1 f2 f3 : Value} {v : Value} {l0 l1 l2 : Option Value} {M : mM} {k n : Nat} (hv : mRf v := by first | exact mRf_r _ | exact mRf_n | exact mRf_rf _ | assumption) (hM : M a = some (.inr (0, [f0, f1, f2, f3]))) (h : RN z 30 [l0, l1, l2] [] (mS M a (.inr (0, [v, f1, f2, f3]))) k n) : RN z 27 [l0, l1, l2] [v, .ref a] M k n := R_put X.1 inX0 rfl 0 (Nat.le_of_ble_eq_true rfl) tyX0 tyX0_ok nmX0 wd_61 rfl (by decide +kernel : parseFieldDescriptor (TX0 0).2.2.1 = some (.object "PastTree$Spot")) (by rcases hv with rfl | ⟨_, rfl⟩ <;> rfl) (by rcases hv with rfl | ⟨_, rfl⟩ <;> rfl) d_P_place_27 hM (Nat.le_of_ble_eq_true rfl) h
theorem i_P_place_30 {z : zT} {ws0 : va_W} {mc ms : Nat} {Post : Option Value → mM → Prop} (X : B_P_place z ws0 mc ms Post) {v : Value} {l1 l2 : Option Value} {M : mM} {k n : Nat} (hv : mRf v := by first | exact mRf_r _ | exact mRf_n | exact mRf_rf _ | assumption) (h : RN z 31 [some v, l1, l2] [v] M k n) : RN z 30 [some v, l1, l2] [] M k n := R_aload_n X.1 d_P_place_30 rfl rfl hv h
theorem i_P_place_31 {z : zT} {ws0 : va_W} {mc ms : Nat} {Post : Option Value → mM → Prop} (X : B_P_place z ws0 mc ms Post) {b : Nat} {mc1 ms1 : Nat} {Po : Option Value → mM → Prop} {fs : List Value} {l0 l1 l2 : Option Value} {M : mM} {k n : Nat} (hM : M b = some (.inr (3, fs))) (hC : Ct (zl z) (zD z) (zty z) y_P_noteChange w_P_noteChange 0 0 mc1 ms1 [.ref b] M Po) (hk : k + mc1 ≤ mc) (hn : n + ms1 ≤ ms) (h : ∀ v M1, Po v M1 → RN z 34 [l0, l1, l2] (v.toList ++ []) M1 (k + mc1) (n + ms1)) : RN z 31 [l0, l1, l2] [.ref b] M k n := R_callV X.1 (av := []) (nA := 0) wd_205 wd_202 wd_204 wd_7 wd_30 (by decide +kernel) rfl (Nat.le_of_ble_eq_true rfl) (Nat.le_of_ble_eq_true rfl) (Nat.le_of_ble_eq_true rfl) d_P_place_31 rfl (ci := 3) rfl hM hC (by rw [BM.rc1 X.2]; exact hk) (by rw [BM.rc2 X.2]; exact hn) h
theorem i_P_place_34 {z : zT} {ws0 : va_W} {mc ms : Nat} {Post : Option Value → mM → Prop} (X : B_P_place z ws0 mc ms Post) {l0 l1 l2 : Option Value} {M : mM} {k n : Nat} (hk : k ≤ mc) (hn : n ≤ ms) (hp : Post none M) : RN z 34 [l0, l1, l2] [] M k n := R_vret X.1 X.2 d_P_place_34 hk hn hp
theorem d_P_addVersion_0 : decode c_P_addVersion 0 = .ok (.aload_n 2, 1) := by decide +kernel
theorem d_P_addVersion_1 : decode c_P_addVersion 1 = .ok (.getfield 150, 3) := by decide +kernel
theorem d_P_addVersion_4 : decode c_P_addVersion 4 = .ok (.aload_n 0, 1) := by decide +kernel
theorem d_P_addVersion_5 : decode c_P_addVersion 5 = .ok (.getfield 19, 3) := by decide +kernel
theorem d_P_addVersion_8 : decode c_P_addVersion 8 = .ok (.if_icmp .ne 7, 3) := by decide +kernel
theorem d_P_addVersion_11 : decode c_P_addVersion 11 = .ok (.iconst 1, 1) := by decide +kernel
theorem d_P_addVersion_12 : decode c_P_addVersion 12 = .ok (.goto 4, 3) := by decide +kernel
theorem d_P_addVersion_15 : decode c_P_addVersion 15 = .ok (.iconst 0, 1) := by decide +kernel
theorem d_P_addVersion_16 : decode c_P_addVersion 16 = .ok (.istore 4, 2) := by decide +kernel
theorem d_P_addVersion_18 : decode c_P_addVersion 18 = .ok (.iload 4, 2) := by decide +kernel
theorem d_P_addVersion_20 : decode c_P_addVersion 20 = .ok (.ifCond .eq 10, 3) := by decide +kernel
theorem d_P_addVersion_23 : decode c_P_addVersion 23 = .ok (.aload_n 2, 1) := by decide +kernel
theorem d_P_addVersion_24 : decode c_P_addVersion 24 = .ok (.getfield 144, 3) := by decide +kernel
theorem d_P_addVersion_27 : decode c_P_addVersion 27 = .ok (.goto 9, 3) := by decide +kernel
theorem d_P_addVersion_30 : decode c_P_addVersion 30 = .ok (.aload_n 2, 1) := by decide +kernel
theorem d_P_addVersion_31 : decode c_P_addVersion 31 = .ok (.getfield 144, 3) := by decide +kernel
theorem d_P_addVersion_34 : decode c_P_addVersion 34 = .ok (.iconst 1, 1) := by decide +kernel
theorem d_P_addVersion_35 : decode c_P_addVersion 35 = .ok (.iadd, 1) := by decide +kernel
theorem d_P_addVersion_36 : decode c_P_addVersion 36 = .ok (.istore 5, 2) := by decide +kernel
theorem d_P_addVersion_38 : decode c_P_addVersion 38 = .ok (.aload_n 0, 1) := by decide +kernel
theorem d_P_addVersion_39 : decode c_P_addVersion 39 = .ok (.getfield 11, 3) := by decide +kernel
theorem d_P_addVersion_42 : decode c_P_addVersion 42 = .ok (.iload_n 1, 1) := by decide +kernel
theorem d_P_addVersion_43 : decode c_P_addVersion 43 = .ok (.aaload, 1) := by decide +kernel
theorem d_P_addVersion_44 : decode c_P_addVersion 44 = .ok (.new 71, 3) := by decide +kernel
theorem d_P_addVersion_47 : decode c_P_addVersion 47 = .ok (.dup, 1) := by decide +kernel
theorem d_P_addVersion_48 : decode c_P_addVersion 48 = .ok (.aload_n 0, 1) := by decide +kernel
theorem d_P_addVersion_49 : decode c_P_addVersion 49 = .ok (.getfield 19, 3) := by decide +kernel
theorem d_P_addVersion_52 : decode c_P_addVersion 52 = .ok (.iload 5, 2) := by decide +kernel
theorem d_P_addVersion_54 : decode c_P_addVersion 54 = .ok (.aload_n 3, 1) := by decide +kernel
theorem d_P_addVersion_55 : decode c_P_addVersion 55 = .ok (.iload 4, 2) := by decide +kernel
theorem d_P_addVersion_57 : decode c_P_addVersion 57 = .ok (.ifCond .eq 10, 3) := by decide +kernel
theorem d_P_addVersion_60 : decode c_P_addVersion 60 = .ok (.aload_n 2, 1) := by decide +kernel
theorem d_P_addVersion_61 : decode c_P_addVersion 61 = .ok (.getfield 153, 3) := by decide +kernel
theorem d_P_addVersion_64 : decode c_P_addVersion 64 = .ok (.goto 4, 3) := by decide +kernel
theorem d_P_addVersion_67 : decode c_P_addVersion 67 = .ok (.aload_n 2, 1) := by decide +kernel
theorem d_P_addVersion_68 : decode c_P_addVersion 68 = .ok (.invokespecial 73, 3) := by decide +kernel
theorem d_P_addVersion_71 : decode c_P_addVersion 71 = .ok (.putfield 76, 3) := by decide +kernel
theorem d_P_addVersion_74 : decode c_P_addVersion 74 = .ok (.aload_n 0, 1) := by decide +kernel
theorem d_P_addVersion_75 : decode c_P_addVersion 75 = .ok (.invokevirtual 176, 3) := by decide +kernel
theorem d_P_addVersion_78 : decode c_P_addVersion 78 = .ok (.iload 5, 2) := by decide +kernel
theorem d_P_addVersion_80 : decode c_P_addVersion 80 = .ok (.iconst 1, 1) := by decide +kernel
theorem d_P_addVersion_81 : decode c_P_addVersion 81 = .ok (.iadd, 1) := by decide +kernel
theorem d_P_addVersion_82 : decode c_P_addVersion 82 = .ok (.ireturn, 1) := by decide +kernel
abbrev B_P_addVersion (z : zT) (ws0 : va_W) (mc ms : Nat) (Post : Option Value → mM → Prop) : Prop := BX z c_P_addVersion 6 y_P_addVersion.cls y_P_addVersion.name 2 36 ∧ BQ z (some (.int)) ws0 mc ms Post
abbrev Ct_P_addVersion (l : Launch) (D : va_G) (tys : List (ClassId × FieldType)) (mc ms : Nat) (av : List Value) (M : mM) (Post : Option Value → mM → Prop) : Prop := Ct l D tys y_P_addVersion w_P_addVersion 2 36 mc ms av M Post
theorem i_P_addVersion_0 {z : zT} {ws0 : va_W} {mc ms : Nat} {Post : Option Value → mM → Prop} (X : B_P_addVersion z ws0 mc ms Post) {v : Value} {l0 l1 l3 l4 l5 : Option Value} {M : mM} {k n : Nat} (hv : mRf v := by first | exact mRf_r _ | exact mRf_n | exact mRf_rf _ | assumption) (h : RN z 1 [l0, l1, some v, l3, l4, l5] [v] M k n) : RN z 0 [l0, l1, some v, l3, l4, l5] [] M k n := R_aload_n X.1 d_P_addVersion_0 rfl rfl hv h
theorem i_P_addVersion_1 {z : zT} {ws0 : va_W} {mc ms : Nat} {Post : Option Value → mM → Prop} (X : B_P_addVersion z ws0 mc ms Post) {a : Nat} {f0 f1 f2 f3 f4 : Value} {l0 l1 l2 l3 l4 l5 : Option Value} {M : mM} {k n : Nat} (hM : M a = some (.inr (2, [f0, f1, f2, f3, f4]))) (h : RN z 4 [l0, l1, l2, l3, l4, l5] [f0] M k n) : RN z 1 [l0, l1, l2, l3, l4, l5] [.ref a] M k n := R_get X.1 inX2 rfl 0 (Nat.le_of_ble_eq_true rfl) wd_159 d_P_addVersion_1 hM rfl h
theorem i_P_addVersion_4 {z : zT} {ws0 : va_W} {mc ms : Nat} {Post : Option Value → mM → Prop} (X : B_P_addVersion z ws0 mc ms Post) {v : Value} {l1 l2 l3 l4 l5 : Option Value} {s0 : Value} {M : mM} {k n : Nat} (hv : mRf v := by first | exact mRf_r _ | exact mRf_n | exact mRf_rf _ | assumption) (h : RN z 5 [some v, l1, l2, l3, l4, l5] [v, s0] M k n) : RN z 4 [some v, l1, l2, l3, l4, l5] [s0] M k n := R_aload_n X.1 d_P_addVersion_4 rfl rfl hv h
theorem i_P_addVersion_5 {z : zT} {ws0 : va_W} {mc ms : Nat} {Post : Option Value → mM → Prop} (X : B_P_addVersion z ws0 mc ms Post) {a : Nat} {f0 f1 f2 f3 f4 f5 f6 f7 f8 f9 f10 : Value} {l0 l1 l2 l3 l4 l5 : Option Value} {s0 : Value} {M : mM} {k n : Nat} (hM : M a = some (.inr (3, [f0, f1, f2, f3, f4, f5, f6, f7, f8, f9, f10]))) (h : RN z 8 [l0, l1, l2, l3, l4, l5] [f4, s0] M k n) : RN z 5 [l0, l1, l2, l3, l4, l5] [.ref a, s0] M k n := R_get X.1 inX3 rfl 4 (Nat.le_of_ble_eq_true rfl) wd_80 d_P_addVersion_5 hM rfl h
theorem i_P_addVersion_8 {z : zT} {ws0 : va_W} {mc ms : Nat} {Post : Option Value → mM → Prop} (X : B_P_addVersion z ws0 mc ms Post) {x y : Int32} {l0 l1 l2 l3 l4 l5 : Option Value} {M : mM} {k n : Nat}  (h1 : ¬ x = y → RN z 15 [l0, l1, l2, l3, l4, l5] [] M k n) (h2 : x = y → RN z 11 [l0, l1, l2, l3, l4, l5] [] M k n) : RN z 8 [l0, l1, l2, l3, l4, l5] [.int y, .int x] M k n := R_icmp_ne X.1 d_P_addVersion_8 (by decide) h1 h2
theorem i_P_addVersion_11 {z : zT} {ws0 : va_W} {mc ms : Nat} {Post : Option Value → mM → Prop} (X : B_P_addVersion z ws0 mc ms Post) {l0 l1 l2 l3 l4 l5 : Option Value} {M : mM} {k n : Nat}  (h : RN z 12 [l0, l1, l2, l3, l4, l5] [.int 1] M k n) : RN z 11 [l0, l1, l2, l3, l4, l5] [] M k n := R_iconst X.1 d_P_addVersion_11 (by decide) h
theorem i_P_addVersion_12 {z : zT} {ws0 : va_W} {mc ms : Nat} {Post : Option Value → mM → Prop} (X : B_P_addVersion z ws0 mc ms Post) {l0 l1 l2 l3 l4 l5 : Option Value} {s0 : Value} {M : mM} {k n : Nat}  (h : RN z 16 [l0, l1, l2, l3, l4, l5] [s0] M k n) : RN z 12 [l0, l1, l2, l3, l4, l5] [s0] M k n := R_goto X.1 d_P_addVersion_12 (by decide) h
theorem i_P_addVersion_15 {z : zT} {ws0 : va_W} {mc ms : Nat} {Post : Option Value → mM → Prop} (X : B_P_addVersion z ws0 mc ms Post) {l0 l1 l2 l3 l4 l5 : Option Value} {M : mM} {k n : Nat}  (h : RN z 16 [l0, l1, l2, l3, l4, l5] [.int 0] M k n) : RN z 15 [l0, l1, l2, l3, l4, l5] [] M k n := R_iconst X.1 d_P_addVersion_15 (by decide) h
theorem i_P_addVersion_16 {z : zT} {ws0 : va_W} {mc ms : Nat} {Post : Option Value → mM → Prop} (X : B_P_addVersion z ws0 mc ms Post) {x : Int32} {l0 l1 l2 l3 l4 l5 : Option Value} {M : mM} {k n : Nat}  (h : RN z 18 [l0, l1, l2, l3, some (.int x), l5] [] M k n) : RN z 16 [l0, l1, l2, l3, l4, l5] [.int x] M k n := R_istore X.1 d_P_addVersion_16 (Nat.le_of_ble_eq_true rfl) h
theorem i_P_addVersion_18 {z : zT} {ws0 : va_W} {mc ms : Nat} {Post : Option Value → mM → Prop} (X : B_P_addVersion z ws0 mc ms Post) {x : Int32} {l0 l1 l2 l3 l5 : Option Value} {M : mM} {k n : Nat}  (h : RN z 20 [l0, l1, l2, l3, some (.int x), l5] [.int x] M k n) : RN z 18 [l0, l1, l2, l3, some (.int x), l5] [] M k n := R_iload X.1 d_P_addVersion_18 rfl h
theorem i_P_addVersion_20 {z : zT} {ws0 : va_W} {mc ms : Nat} {Post : Option Value → mM → Prop} (X : B_P_addVersion z ws0 mc ms Post) {x : Int32} {l0 l1 l2 l3 l4 l5 : Option Value} {M : mM} {k n : Nat}  (h1 : x = 0 → RN z 30 [l0, l1, l2, l3, l4, l5] [] M k n) (h2 : ¬ (x = 0) → RN z 23 [l0, l1, l2, l3, l4, l5] [] M k n) : RN z 20 [l0, l1, l2, l3, l4, l5] [.int x] M k n := R_if_eq X.1 d_P_addVersion_20 (by decide) h1 h2
theorem i_P_addVersion_23 {z : zT} {ws0 : va_W} {mc ms : Nat} {Post : Option Value → mM → Prop} (X : B_P_addVersion z ws0 mc ms Post) {v : Value} {l0 l1 l3 l4 l5 : Option Value} {M : mM} {k n : Nat} (hv : mRf v := by first | exact mRf_r _ | exact mRf_n | exact mRf_rf _ | assumption) (h : RN z 24 [l0, l1, some v, l3, l4, l5] [v] M k n) : RN z 23 [l0, l1, some v, l3, l4, l5] [] M k n := R_aload_n X.1 d_P_addVersion_23 rfl rfl hv h
theorem i_P_addVersion_24 {z : zT} {ws0 : va_W} {mc ms : Nat} {Post : Option Value → mM → Prop} (X : B_P_addVersion z ws0 mc ms Post) {a : Nat} {f0 f1 f2 f3 f4 : Value} {l0 l1 l2 l3 l4 l5 : Option Value} {M : mM} {k n : Nat} (hM : M a = some (.inr (2, [f0, f1, f2, f3, f4]))) (h : RN z 27 [l0, l1, l2, l3, l4, l5] [f1] M k n) : RN z 24 [l0, l1, l2, l3, l4, l5] [.ref a] M k n := R_get X.1 inX2 rfl 1 (Nat.le_of_ble_eq_true rfl) wd_161 d_P_addVersion_24 hM rfl h
theorem i_P_addVersion_27 {z : zT} {ws0 : va_W} {mc ms : Nat} {Post : Option Value → mM → Prop} (X : B_P_addVersion z ws0 mc ms Post) {l0 l1 l2 l3 l4 l5 : Option Value} {s0 : Value} {M : mM} {k n : Nat}  (h : RN z 36 [l0, l1, l2, l3, l4, l5] [s0] M k n) : RN z 27 [l0, l1, l2, l3, l4, l5] [s0] M k n := R_goto X.1 d_P_addVersion_27 (by decide) h
theorem i_P_addVersion_30 {z : zT} {ws0 : va_W} {mc ms : Nat} {Post : Option Value → mM → Prop} (X : B_P_addVersion z ws0 mc ms Post) {v : Value} {l0 l1 l3 l4 l5 : Option Value} {M : mM} {k n : Nat} (hv : mRf v := by first | exact mRf_r _ | exact mRf_n | exact mRf_rf _ | assumption) (h : RN z 31 [l0, l1, some v, l3, l4, l5] [v] M k n) : RN z 30 [l0, l1, some v, l3, l4, l5] [] M k n := R_aload_n X.1 d_P_addVersion_30 rfl rfl hv h
theorem i_P_addVersion_31 {z : zT} {ws0 : va_W} {mc ms : Nat} {Post : Option Value → mM → Prop} (X : B_P_addVersion z ws0 mc ms Post) {a : Nat} {f0 f1 f2 f3 f4 : Value} {l0 l1 l2 l3 l4 l5 : Option Value} {M : mM} {k n : Nat} (hM : M a = some (.inr (2, [f0, f1, f2, f3, f4]))) (h : RN z 34 [l0, l1, l2, l3, l4, l5] [f1] M k n) : RN z 31 [l0, l1, l2, l3, l4, l5] [.ref a] M k n := R_get X.1 inX2 rfl 1 (Nat.le_of_ble_eq_true rfl) wd_161 d_P_addVersion_31 hM rfl h
theorem i_P_addVersion_34 {z : zT} {ws0 : va_W} {mc ms : Nat} {Post : Option Value → mM → Prop} (X : B_P_addVersion z ws0 mc ms Post) {l0 l1 l2 l3 l4 l5 : Option Value} {s0 : Value} {M : mM} {k n : Nat}  (h : RN z 35 [l0, l1, l2, l3, l4, l5] [.int 1, s0] M k n) : RN z 34 [l0, l1, l2, l3, l4, l5] [s0] M k n := R_iconst X.1 d_P_addVersion_34 (by decide) h
theorem i_P_addVersion_35 {z : zT} {ws0 : va_W} {mc ms : Nat} {Post : Option Value → mM → Prop} (X : B_P_addVersion z ws0 mc ms Post) {x y : Int32} {l0 l1 l2 l3 l4 l5 : Option Value} {M : mM} {k n : Nat}  (h : RN z 36 [l0, l1, l2, l3, l4, l5] [.int (x + y)] M k n) : RN z 35 [l0, l1, l2, l3, l4, l5] [.int y, .int x] M k n := R_iadd X.1 d_P_addVersion_35 h
theorem i_P_addVersion_36 {z : zT} {ws0 : va_W} {mc ms : Nat} {Post : Option Value → mM → Prop} (X : B_P_addVersion z ws0 mc ms Post) {x : Int32} {l0 l1 l2 l3 l4 l5 : Option Value} {M : mM} {k n : Nat}  (h : RN z 38 [l0, l1, l2, l3, l4, some (.int x)] [] M k n) : RN z 36 [l0, l1, l2, l3, l4, l5] [.int x] M k n := R_istore X.1 d_P_addVersion_36 (Nat.le_of_ble_eq_true rfl) h
theorem i_P_addVersion_38 {z : zT} {ws0 : va_W} {mc ms : Nat} {Post : Option Value → mM → Prop} (X : B_P_addVersion z ws0 mc ms Post) {v : Value} {l1 l2 l3 l4 l5 : Option Value} {M : mM} {k n : Nat} (hv : mRf v := by first | exact mRf_r _ | exact mRf_n | exact mRf_rf _ | assumption) (h : RN z 39 [some v, l1, l2, l3, l4, l5] [v] M k n) : RN z 38 [some v, l1, l2, l3, l4, l5] [] M k n := R_aload_n X.1 d_P_addVersion_38 rfl rfl hv h
theorem i_P_addVersion_39 {z : zT} {ws0 : va_W} {mc ms : Nat} {Post : Option Value → mM → Prop} (X : B_P_addVersion z ws0 mc ms Post) {a : Nat} {f0 f1 f2 f3 f4 f5 f6 f7 f8 f9 f10 : Value} {l0 l1 l2 l3 l4 l5 : Option Value} {M : mM} {k n : Nat} (hM : M a = some (.inr (3, [f0, f1, f2, f3, f4, f5, f6, f7, f8, f9, f10]))) (h : RN z 42 [l0, l1, l2, l3, l4, l5] [f2] M k n) : RN z 39 [l0, l1, l2, l3, l4, l5] [.ref a] M k n := R_get X.1 inX3 rfl 2 (Nat.le_of_ble_eq_true rfl) wd_78 d_P_addVersion_39 hM rfl h
theorem i_P_addVersion_42 {z : zT} {ws0 : va_W} {mc ms : Nat} {Post : Option Value → mM → Prop} (X : B_P_addVersion z ws0 mc ms Post) {x : Int32} {l0 l2 l3 l4 l5 : Option Value} {s0 : Value} {M : mM} {k n : Nat}  (h : RN z 43 [l0, some (.int x), l2, l3, l4, l5] [.int x, s0] M k n) : RN z 42 [l0, some (.int x), l2, l3, l4, l5] [s0] M k n := R_iload_n X.1 d_P_addVersion_42 rfl rfl h
theorem i_P_addVersion_43 {z : zT} {ws0 : va_W} {mc ms : Nat} {Post : Option Value → mM → Prop} (X : B_P_addVersion z ws0 mc ms Post) {cI cB cN : ClassId} (G : GT z cI cB cN) {a w j : Nat} {i : Int32} {f : Nat → Option Nat} {l0 l1 l2 l3 l4 l5 : Option Value} {M : mM} {k n : Nat} (hM : M a = some (.inl (cN, w, .inr (.inr (.inr (.inr f)))))) (hx : i = nI j) (hj : j < w) (hw : w < 2 ^ 31 := by decide) (h : RN z 44 [l0, l1, l2, l3, l4, l5] [va_rf (f j)] M k n) : RN z 43 [l0, l1, l2, l3, l4, l5] [.int i, .ref a] M k n := R_aald X.1 2 G.2.2 d_P_addVersion_43 hM (by rw [hx]; exact vp_in_nI hj hw) (by rw [hx, nI_clamp (by omega)]; exact h)
theorem i_P_addVersion_44 {z : zT} {ws0 : va_W} {mc ms : Nat} {Post : Option Value → mM → Prop} (X : B_P_addVersion z ws0 mc ms Post) {l0 l1 l2 l3 l4 l5 : Option Value} {s0 : Value} {M : mM} {k n : Nat} (hk : k + 1 ≤ mc) (hn : n + 5 ≤ ms) (h : ∀ q, M q = none → RN z 47 [l0, l1, l2, l3, l4, l5] [.ref q, s0] (mS M q (.inr (2, [.int 0, .int 0, .null, .null, .int 0]))) (k + 1) (n + 5)) : RN z 44 [l0, l1, l2, l3, l4, l5] [s0] M k n := R_new X.1 inX2 rfl tyX2 tyX2_ok wd_152 wd_153 wd_34 (fun j hj => by rcases (show j = 0 ∨ j = 1 ∨ j = 2 ∨ j = 3 ∨ j = 4 by omega) with rfl | rfl | rfl | rfl | rfl <;> rfl) d_P_addVersion_44 (by rw [BM.rc1 X.2]; exact hk) (by rw [BM.rc2 X.2]; exact hn) h
theorem i_P_addVersion_47 {z : zT} {ws0 : va_W} {mc ms : Nat} {Post : Option Value → mM → Prop} (X : B_P_addVersion z ws0 mc ms Post) {a : Nat} {l0 l1 l2 l3 l4 l5 : Option Value} {s0 : Value} {M : mM} {k n : Nat}  (h : RN z 48 [l0, l1, l2, l3, l4, l5] [.ref a, .ref a, s0] M k n) : RN z 47 [l0, l1, l2, l3, l4, l5] [.ref a, s0] M k n := R_dup X.1 d_P_addVersion_47 rfl h
theorem i_P_addVersion_48 {z : zT} {ws0 : va_W} {mc ms : Nat} {Post : Option Value → mM → Prop} (X : B_P_addVersion z ws0 mc ms Post) {v : Value} {l1 l2 l3 l4 l5 : Option Value} {s0 s1 s2 : Value} {M : mM} {k n : Nat} (hv : mRf v := by first | exact mRf_r _ | exact mRf_n | exact mRf_rf _ | assumption) (h : RN z 49 [some v, l1, l2, l3, l4, l5] [v, s0, s1, s2] M k n) : RN z 48 [some v, l1, l2, l3, l4, l5] [s0, s1, s2] M k n := R_aload_n X.1 d_P_addVersion_48 rfl rfl hv h
theorem i_P_addVersion_49 {z : zT} {ws0 : va_W} {mc ms : Nat} {Post : Option Value → mM → Prop} (X : B_P_addVersion z ws0 mc ms Post) {a : Nat} {f0 f1 f2 f3 f4 f5 f6 f7 f8 f9 f10 : Value} {l0 l1 l2 l3 l4 l5 : Option Value} {s0 s1 s2 : Value} {M : mM} {k n : Nat} (hM : M a = some (.inr (3, [f0, f1, f2, f3, f4, f5, f6, f7, f8, f9, f10]))) (h : RN z 52 [l0, l1, l2, l3, l4, l5] [f4, s0, s1, s2] M k n) : RN z 49 [l0, l1, l2, l3, l4, l5] [.ref a, s0, s1, s2] M k n := R_get X.1 inX3 rfl 4 (Nat.le_of_ble_eq_true rfl) wd_80 d_P_addVersion_49 hM rfl h
theorem i_P_addVersion_52 {z : zT} {ws0 : va_W} {mc ms : Nat} {Post : Option Value → mM → Prop} (X : B_P_addVersion z ws0 mc ms Post) {x : Int32} {l0 l1 l2 l3 l4 : Option Value} {s0 s1 s2 s3 : Value} {M : mM} {k n : Nat}  (h : RN z 54 [l0, l1, l2, l3, l4, some (.int x)] [.int x, s0, s1, s2, s3] M k n) : RN z 52 [l0, l1, l2, l3, l4, some (.int x)] [s0, s1, s2, s3] M k n := R_iload X.1 d_P_addVersion_52 rfl h
theorem i_P_addVersion_54 {z : zT} {ws0 : va_W} {mc ms : Nat} {Post : Option Value → mM → Prop} (X : B_P_addVersion z ws0 mc ms Post) {v : Value} {l0 l1 l2 l4 l5 : Option Value} {s0 s1 s2 s3 s4 : Value} {M : mM} {k n : Nat} (hv : mRf v := by first | exact mRf_r _ | exact mRf_n | exact mRf_rf _ | assumption) (h : RN z 55 [l0, l1, l2, some v, l4, l5] [v, s0, s1, s2, s3, s4] M k n) : RN z 54 [l0, l1, l2, some v, l4, l5] [s0, s1, s2, s3, s4] M k n := R_aload_n X.1 d_P_addVersion_54 rfl rfl hv h
theorem i_P_addVersion_55 {z : zT} {ws0 : va_W} {mc ms : Nat} {Post : Option Value → mM → Prop} (X : B_P_addVersion z ws0 mc ms Post) {x : Int32} {l0 l1 l2 l3 l5 : Option Value} {s0 s1 s2 s3 s4 s5 : Value} {M : mM} {k n : Nat}  (h : RN z 57 [l0, l1, l2, l3, some (.int x), l5] [.int x, s0, s1, s2, s3, s4, s5] M k n) : RN z 55 [l0, l1, l2, l3, some (.int x), l5] [s0, s1, s2, s3, s4, s5] M k n := R_iload X.1 d_P_addVersion_55 rfl h
theorem i_P_addVersion_57 {z : zT} {ws0 : va_W} {mc ms : Nat} {Post : Option Value → mM → Prop} (X : B_P_addVersion z ws0 mc ms Post) {x : Int32} {l0 l1 l2 l3 l4 l5 : Option Value} {s0 s1 s2 s3 s4 s5 : Value} {M : mM} {k n : Nat}  (h1 : x = 0 → RN z 67 [l0, l1, l2, l3, l4, l5] [s0, s1, s2, s3, s4, s5] M k n) (h2 : ¬ (x = 0) → RN z 60 [l0, l1, l2, l3, l4, l5] [s0, s1, s2, s3, s4, s5] M k n) : RN z 57 [l0, l1, l2, l3, l4, l5] [.int x, s0, s1, s2, s3, s4, s5] M k n := R_if_eq X.1 d_P_addVersion_57 (by decide) h1 h2
theorem i_P_addVersion_60 {z : zT} {ws0 : va_W} {mc ms : Nat} {Post : Option Value → mM → Prop} (X : B_P_addVersion z ws0 mc ms Post) {v : Value} {l0 l1 l3 l4 l5 : Option Value} {s0 s1 s2 s3 s4 s5 : Value} {M : mM} {k n : Nat} (hv : mRf v := by first | exact mRf_r _ | exact mRf_n | exact mRf_rf _ | assumption) (h : RN z 61 [l0, l1, some v, l3, l4, l5] [v, s0, s1, s2, s3, s4, s5] M k n) : RN z 60 [l0, l1, some v, l3, l4, l5] [s0, s1, s2, s3, s4, s5] M k n := R_aload_n X.1 d_P_addVersion_60 rfl rfl hv h
theorem i_P_addVersion_61 {z : zT} {ws0 : va_W} {mc ms : Nat} {Post : Option Value → mM → Prop} (X : B_P_addVersion z ws0 mc ms Post) {a : Nat} {f0 f1 f2 f3 f4 : Value} {l0 l1 l2 l3 l4 l5 : Option Value} {s0 s1 s2 s3 s4 s5 : Value} {M : mM} {k n : Nat} (hM : M a = some (.inr (2, [f0, f1, f2, f3, f4]))) (h : RN z 64 [l0, l1, l2, l3, l4, l5] [f3, s0, s1, s2, s3, s4, s5] M k n) : RN z 61 [l0, l1, l2, l3, l4, l5] [.ref a, s0, s1, s2, s3, s4, s5] M k n := R_get X.1 inX2 rfl 3 (Nat.le_of_ble_eq_true rfl) wd_165 d_P_addVersion_61 hM rfl h
theorem i_P_addVersion_64 {z : zT} {ws0 : va_W} {mc ms : Nat} {Post : Option Value → mM → Prop} (X : B_P_addVersion z ws0 mc ms Post) {l0 l1 l2 l3 l4 l5 : Option Value} {s0 s1 s2 s3 s4 s5 s6 : Value} {M : mM} {k n : Nat}  (h : RN z 68 [l0, l1, l2, l3, l4, l5] [s0, s1, s2, s3, s4, s5, s6] M k n) : RN z 64 [l0, l1, l2, l3, l4, l5] [s0, s1, s2, s3, s4, s5, s6] M k n := R_goto X.1 d_P_addVersion_64 (by decide) h
theorem i_P_addVersion_67 {z : zT} {ws0 : va_W} {mc ms : Nat} {Post : Option Value → mM → Prop} (X : B_P_addVersion z ws0 mc ms Post) {v : Value} {l0 l1 l3 l4 l5 : Option Value} {s0 s1 s2 s3 s4 s5 : Value} {M : mM} {k n : Nat} (hv : mRf v := by first | exact mRf_r _ | exact mRf_n | exact mRf_rf _ | assumption) (h : RN z 68 [l0, l1, some v, l3, l4, l5] [v, s0, s1, s2, s3, s4, s5] M k n) : RN z 67 [l0, l1, some v, l3, l4, l5] [s0, s1, s2, s3, s4, s5] M k n := R_aload_n X.1 d_P_addVersion_67 rfl rfl hv h
theorem i_P_addVersion_68 {z : zT} {ws0 : va_W} {mc ms : Nat} {Post : Option Value → mM → Prop} (X : B_P_addVersion z ws0 mc ms Post) {a0 a1 a2 a3 : Value} {b : Nat} {mc1 ms1 : Nat} {Po : Option Value → mM → Prop} {l0 l1 l2 l3 l4 l5 : Option Value} {s0 s1 : Value} {M : mM} {k n : Nat} (hC : Ct (zl z) (zD z) (zty z) y_V_init w_V_init 1 12 mc1 ms1 [.ref b, a0, a1, a2, a3] M Po) (hk : k + mc1 ≤ mc) (hn : n + ms1 ≤ ms) (h : ∀ v M1, Po v M1 → RN z 71 [l0, l1, l2, l3, l4, l5] (v.toList ++ [s0, s1]) M1 (k + mc1) (n + ms1)) : RN z 68 [l0, l1, l2, l3, l4, l5] [a3, a2, a1, a0, .ref b, s0, s1] M k n := R_callI X.1 (av := [a0, a1, a2, a3]) (nA := 4) wd_156 wd_34 wd_154 wd_155 rfl (by decide +kernel) rfl (Nat.le_of_ble_eq_true rfl) (Nat.le_of_ble_eq_true rfl) (Nat.le_of_ble_eq_true rfl) d_P_addVersion_68 rfl hC (by rw [BM.rc1 X.2]; exact hk) (by rw [BM.rc2 X.2]; exact hn) h
theorem i_P_addVersion_71 {z : zT} {ws0 : va_W} {mc ms : Nat} {Post : Option Value → mM → Prop} (X : B_P_addVersion z ws0 mc ms Post) {a : Nat} {f0 f1 f2 f3 : Value} {v : Value} {l0 l1 l2 l3 l4 l5 : Option Value} {M : mM} {k n : Nat} (hv : mRf v := by first | exact mRf_r _ | exact mRf_n | exact mRf_rf _ | assumption) (hM : M a = some (.inr (0, [f0, f1, f2, f3]))) (h : RN z 74 [l0, l1, l2, l3, l4, l5] [] (mS M a (.inr (0, [f0, v, f2, f3]))) k n) : RN z 71 [l0, l1, l2, l3, l4, l5] [v, .ref a] M k n := R_put X.1 inX0 rfl 1 (Nat.le_of_ble_eq_true rfl) tyX0 tyX0_ok nmX0 wd_63 rfl (by decide +kernel : parseFieldDescriptor (TX0 1).2.2.1 = some (.object "PastTree$Version")) (by rcases hv with rfl | ⟨_, rfl⟩ <;> rfl) (by rcases hv with rfl | ⟨_, rfl⟩ <;> rfl) d_P_addVersion_71 hM (Nat.le_of_ble_eq_true rfl) h
theorem i_P_addVersion_74 {z : zT} {ws0 : va_W} {mc ms : Nat} {Post : Option Value → mM → Prop} (X : B_P_addVersion z ws0 mc ms Post) {v : Value} {l1 l2 l3 l4 l5 : Option Value} {M : mM} {k n : Nat} (hv : mRf v := by first | exact mRf_r _ | exact mRf_n | exact mRf_rf _ | assumption) (h : RN z 75 [some v, l1, l2, l3, l4, l5] [v] M k n) : RN z 74 [some v, l1, l2, l3, l4, l5] [] M k n := R_aload_n X.1 d_P_addVersion_74 rfl rfl hv h
theorem i_P_addVersion_75 {z : zT} {ws0 : va_W} {mc ms : Nat} {Post : Option Value → mM → Prop} (X : B_P_addVersion z ws0 mc ms Post) {b : Nat} {mc1 ms1 : Nat} {Po : Option Value → mM → Prop} {fs : List Value} {l0 l1 l2 l3 l4 l5 : Option Value} {M : mM} {k n : Nat} (hM : M b = some (.inr (3, fs))) (hC : Ct (zl z) (zD z) (zty z) y_P_noteChange w_P_noteChange 0 0 mc1 ms1 [.ref b] M Po) (hk : k + mc1 ≤ mc) (hn : n + ms1 ≤ ms) (h : ∀ v M1, Po v M1 → RN z 78 [l0, l1, l2, l3, l4, l5] (v.toList ++ []) M1 (k + mc1) (n + ms1)) : RN z 75 [l0, l1, l2, l3, l4, l5] [.ref b] M k n := R_callV X.1 (av := []) (nA := 0) wd_205 wd_202 wd_204 wd_7 wd_30 (by decide +kernel) rfl (Nat.le_of_ble_eq_true rfl) (Nat.le_of_ble_eq_true rfl) (Nat.le_of_ble_eq_true rfl) d_P_addVersion_75 rfl (ci := 3) rfl hM hC (by rw [BM.rc1 X.2]; exact hk) (by rw [BM.rc2 X.2]; exact hn) h
theorem i_P_addVersion_78 {z : zT} {ws0 : va_W} {mc ms : Nat} {Post : Option Value → mM → Prop} (X : B_P_addVersion z ws0 mc ms Post) {x : Int32} {l0 l1 l2 l3 l4 : Option Value} {M : mM} {k n : Nat}  (h : RN z 80 [l0, l1, l2, l3, l4, some (.int x)] [.int x] M k n) : RN z 78 [l0, l1, l2, l3, l4, some (.int x)] [] M k n := R_iload X.1 d_P_addVersion_78 rfl h
theorem i_P_addVersion_80 {z : zT} {ws0 : va_W} {mc ms : Nat} {Post : Option Value → mM → Prop} (X : B_P_addVersion z ws0 mc ms Post) {l0 l1 l2 l3 l4 l5 : Option Value} {s0 : Value} {M : mM} {k n : Nat}  (h : RN z 81 [l0, l1, l2, l3, l4, l5] [.int 1, s0] M k n) : RN z 80 [l0, l1, l2, l3, l4, l5] [s0] M k n := R_iconst X.1 d_P_addVersion_80 (by decide) h
theorem i_P_addVersion_81 {z : zT} {ws0 : va_W} {mc ms : Nat} {Post : Option Value → mM → Prop} (X : B_P_addVersion z ws0 mc ms Post) {x y : Int32} {l0 l1 l2 l3 l4 l5 : Option Value} {M : mM} {k n : Nat}  (h : RN z 82 [l0, l1, l2, l3, l4, l5] [.int (x + y)] M k n) : RN z 81 [l0, l1, l2, l3, l4, l5] [.int y, .int x] M k n := R_iadd X.1 d_P_addVersion_81 h
theorem i_P_addVersion_82 {z : zT} {ws0 : va_W} {mc ms : Nat} {Post : Option Value → mM → Prop} (X : B_P_addVersion z ws0 mc ms Post) {x : Int32} {l0 l1 l2 l3 l4 l5 : Option Value} {M : mM} {k n : Nat} (hk : k ≤ mc) (hn : n ≤ ms) (hp : Post (some (.int x)) M) : RN z 82 [l0, l1, l2, l3, l4, l5] [.int x] M k n := R_iret X.1 X.2 d_P_addVersion_82 hk hn hp
theorem d_P_findPlaces_0 : decode c_P_findPlaces 0 = .ok (.iconst 0, 1) := by decide +kernel
theorem d_P_findPlaces_1 : decode c_P_findPlaces 1 = .ok (.istore_n 2, 1) := by decide +kernel
theorem d_P_findPlaces_2 : decode c_P_findPlaces 2 = .ok (.iload_n 2, 1) := by decide +kernel
theorem d_P_findPlaces_3 : decode c_P_findPlaces 3 = .ok (.bipush 24, 2) := by decide +kernel
theorem d_P_findPlaces_5 : decode c_P_findPlaces 5 = .ok (.if_icmp .ge 25, 3) := by decide +kernel
theorem d_P_findPlaces_8 : decode c_P_findPlaces 8 = .ok (.aload_n 0, 1) := by decide +kernel
theorem d_P_findPlaces_9 : decode c_P_findPlaces 9 = .ok (.getfield 15, 3) := by decide +kernel
theorem d_P_findPlaces_12 : decode c_P_findPlaces 12 = .ok (.iload_n 2, 1) := by decide +kernel
theorem d_P_findPlaces_13 : decode c_P_findPlaces 13 = .ok (.aload_n 0, 1) := by decide +kernel
theorem d_P_findPlaces_14 : decode c_P_findPlaces 14 = .ok (.getfield 11, 3) := by decide +kernel
theorem d_P_findPlaces_17 : decode c_P_findPlaces 17 = .ok (.iload_n 2, 1) := by decide +kernel
theorem d_P_findPlaces_18 : decode c_P_findPlaces 18 = .ok (.aaload, 1) := by decide +kernel
theorem d_P_findPlaces_19 : decode c_P_findPlaces 19 = .ok (.iload_n 1, 1) := by decide +kernel
theorem d_P_findPlaces_20 : decode c_P_findPlaces 20 = .ok (.invokevirtual 141, 3) := by decide +kernel
theorem d_P_findPlaces_23 : decode c_P_findPlaces 23 = .ok (.iastore, 1) := by decide +kernel
theorem d_P_findPlaces_24 : decode c_P_findPlaces 24 = .ok (.iinc 2 1, 3) := by decide +kernel
theorem d_P_findPlaces_27 : decode c_P_findPlaces 27 = .ok (.goto (-25), 3) := by decide +kernel
theorem d_P_findPlaces_30 : decode c_P_findPlaces 30 = .ok (.return_, 1) := by decide +kernel
abbrev B_P_findPlaces (z : zT) (ws0 : va_W) (mc ms : Nat) (Post : Option Value → mM → Prop) : Prop := BX z c_P_findPlaces 3 y_P_findPlaces.cls y_P_findPlaces.name 1 22 ∧ BQ z none ws0 mc ms Post
abbrev Ct_P_findPlaces (l : Launch) (D : va_G) (tys : List (ClassId × FieldType)) (mc ms : Nat) (av : List Value) (M : mM) (Post : Option Value → mM → Prop) : Prop := Ct l D tys y_P_findPlaces w_P_findPlaces 1 22 mc ms av M Post
theorem i_P_findPlaces_0 {z : zT} {ws0 : va_W} {mc ms : Nat} {Post : Option Value → mM → Prop} (X : B_P_findPlaces z ws0 mc ms Post) {l0 l1 l2 : Option Value} {M : mM} {k n : Nat}  (h : RN z 1 [l0, l1, l2] [.int 0] M k n) : RN z 0 [l0, l1, l2] [] M k n := R_iconst X.1 d_P_findPlaces_0 (by decide) h
theorem i_P_findPlaces_1 {z : zT} {ws0 : va_W} {mc ms : Nat} {Post : Option Value → mM → Prop} (X : B_P_findPlaces z ws0 mc ms Post) {x : Int32} {l0 l1 l2 : Option Value} {M : mM} {k n : Nat}  (h : RN z 2 [l0, l1, some (.int x)] [] M k n) : RN z 1 [l0, l1, l2] [.int x] M k n := R_istore_n X.1 d_P_findPlaces_1 rfl (Nat.le_of_ble_eq_true rfl) h
theorem i_P_findPlaces_2 {z : zT} {ws0 : va_W} {mc ms : Nat} {Post : Option Value → mM → Prop} (X : B_P_findPlaces z ws0 mc ms Post) {x : Int32} {l0 l1 : Option Value} {M : mM} {k n : Nat}  (h : RN z 3 [l0, l1, some (.int x)] [.int x] M k n) : RN z 2 [l0, l1, some (.int x)] [] M k n := R_iload_n X.1 d_P_findPlaces_2 rfl rfl h
theorem i_P_findPlaces_3 {z : zT} {ws0 : va_W} {mc ms : Nat} {Post : Option Value → mM → Prop} (X : B_P_findPlaces z ws0 mc ms Post) {l0 l1 l2 : Option Value} {s0 : Value} {M : mM} {k n : Nat}  (h : RN z 5 [l0, l1, l2] [.int 24, s0] M k n) : RN z 3 [l0, l1, l2] [s0] M k n := R_bipush X.1 d_P_findPlaces_3 (by decide) h
theorem i_P_findPlaces_5 {z : zT} {ws0 : va_W} {mc ms : Nat} {Post : Option Value → mM → Prop} (X : B_P_findPlaces z ws0 mc ms Post) {x y : Int32} {l0 l1 l2 : Option Value} {M : mM} {k n : Nat}  (h1 : y ≤ x → RN z 30 [l0, l1, l2] [] M k n) (h2 : ¬ (y ≤ x) → RN z 8 [l0, l1, l2] [] M k n) : RN z 5 [l0, l1, l2] [.int y, .int x] M k n := R_icmp_ge X.1 d_P_findPlaces_5 (by decide) h1 h2
theorem i_P_findPlaces_8 {z : zT} {ws0 : va_W} {mc ms : Nat} {Post : Option Value → mM → Prop} (X : B_P_findPlaces z ws0 mc ms Post) {v : Value} {l1 l2 : Option Value} {M : mM} {k n : Nat} (hv : mRf v := by first | exact mRf_r _ | exact mRf_n | exact mRf_rf _ | assumption) (h : RN z 9 [some v, l1, l2] [v] M k n) : RN z 8 [some v, l1, l2] [] M k n := R_aload_n X.1 d_P_findPlaces_8 rfl rfl hv h
theorem i_P_findPlaces_9 {z : zT} {ws0 : va_W} {mc ms : Nat} {Post : Option Value → mM → Prop} (X : B_P_findPlaces z ws0 mc ms Post) {a : Nat} {f0 f1 f2 f3 f4 f5 f6 f7 f8 f9 f10 : Value} {l0 l1 l2 : Option Value} {M : mM} {k n : Nat} (hM : M a = some (.inr (3, [f0, f1, f2, f3, f4, f5, f6, f7, f8, f9, f10]))) (h : RN z 12 [l0, l1, l2] [f3] M k n) : RN z 9 [l0, l1, l2] [.ref a] M k n := R_get X.1 inX3 rfl 3 (Nat.le_of_ble_eq_true rfl) wd_79 d_P_findPlaces_9 hM rfl h
theorem i_P_findPlaces_12 {z : zT} {ws0 : va_W} {mc ms : Nat} {Post : Option Value → mM → Prop} (X : B_P_findPlaces z ws0 mc ms Post) {x : Int32} {l0 l1 : Option Value} {s0 : Value} {M : mM} {k n : Nat}  (h : RN z 13 [l0, l1, some (.int x)] [.int x, s0] M k n) : RN z 12 [l0, l1, some (.int x)] [s0] M k n := R_iload_n X.1 d_P_findPlaces_12 rfl rfl h
theorem i_P_findPlaces_13 {z : zT} {ws0 : va_W} {mc ms : Nat} {Post : Option Value → mM → Prop} (X : B_P_findPlaces z ws0 mc ms Post) {v : Value} {l1 l2 : Option Value} {s0 s1 : Value} {M : mM} {k n : Nat} (hv : mRf v := by first | exact mRf_r _ | exact mRf_n | exact mRf_rf _ | assumption) (h : RN z 14 [some v, l1, l2] [v, s0, s1] M k n) : RN z 13 [some v, l1, l2] [s0, s1] M k n := R_aload_n X.1 d_P_findPlaces_13 rfl rfl hv h
theorem i_P_findPlaces_14 {z : zT} {ws0 : va_W} {mc ms : Nat} {Post : Option Value → mM → Prop} (X : B_P_findPlaces z ws0 mc ms Post) {a : Nat} {f0 f1 f2 f3 f4 f5 f6 f7 f8 f9 f10 : Value} {l0 l1 l2 : Option Value} {s0 s1 : Value} {M : mM} {k n : Nat} (hM : M a = some (.inr (3, [f0, f1, f2, f3, f4, f5, f6, f7, f8, f9, f10]))) (h : RN z 17 [l0, l1, l2] [f2, s0, s1] M k n) : RN z 14 [l0, l1, l2] [.ref a, s0, s1] M k n := R_get X.1 inX3 rfl 2 (Nat.le_of_ble_eq_true rfl) wd_78 d_P_findPlaces_14 hM rfl h
theorem i_P_findPlaces_17 {z : zT} {ws0 : va_W} {mc ms : Nat} {Post : Option Value → mM → Prop} (X : B_P_findPlaces z ws0 mc ms Post) {x : Int32} {l0 l1 : Option Value} {s0 s1 s2 : Value} {M : mM} {k n : Nat}  (h : RN z 18 [l0, l1, some (.int x)] [.int x, s0, s1, s2] M k n) : RN z 17 [l0, l1, some (.int x)] [s0, s1, s2] M k n := R_iload_n X.1 d_P_findPlaces_17 rfl rfl h
theorem i_P_findPlaces_18 {z : zT} {ws0 : va_W} {mc ms : Nat} {Post : Option Value → mM → Prop} (X : B_P_findPlaces z ws0 mc ms Post) {cI cB cN : ClassId} (G : GT z cI cB cN) {a w j : Nat} {i : Int32} {f : Nat → Option Nat} {l0 l1 l2 : Option Value} {s0 s1 : Value} {M : mM} {k n : Nat} (hM : M a = some (.inl (cN, w, .inr (.inr (.inr (.inr f)))))) (hx : i = nI j) (hj : j < w) (hw : w < 2 ^ 31 := by decide) (h : RN z 19 [l0, l1, l2] [va_rf (f j), s0, s1] M k n) : RN z 18 [l0, l1, l2] [.int i, .ref a, s0, s1] M k n := R_aald X.1 2 G.2.2 d_P_findPlaces_18 hM (by rw [hx]; exact vp_in_nI hj hw) (by rw [hx, nI_clamp (by omega)]; exact h)
theorem i_P_findPlaces_19 {z : zT} {ws0 : va_W} {mc ms : Nat} {Post : Option Value → mM → Prop} (X : B_P_findPlaces z ws0 mc ms Post) {x : Int32} {l0 l2 : Option Value} {s0 s1 s2 : Value} {M : mM} {k n : Nat}  (h : RN z 20 [l0, some (.int x), l2] [.int x, s0, s1, s2] M k n) : RN z 19 [l0, some (.int x), l2] [s0, s1, s2] M k n := R_iload_n X.1 d_P_findPlaces_19 rfl rfl h
theorem i_P_findPlaces_20 {z : zT} {ws0 : va_W} {mc ms : Nat} {Post : Option Value → mM → Prop} (X : B_P_findPlaces z ws0 mc ms Post) {a0 : Value} {b : Nat} {mc1 ms1 : Nat} {Po : Option Value → mM → Prop} {fs : List Value} {l0 l1 l2 : Option Value} {s0 s1 : Value} {M : mM} {k n : Nat} (hM : M b = some (.inr (0, fs))) (hC : Ct (zl z) (zD z) (zty z) y_N_placeAsOf w_N_placeAsOf 0 0 mc1 ms1 [.ref b, a0] M Po) (hk : k + mc1 ≤ mc) (hn : n + ms1 ≤ ms) (h : ∀ v M1, Po v M1 → RN z 23 [l0, l1, l2] (v.toList ++ [s0, s1]) M1 (k + mc1) (n + ms1)) : RN z 20 [l0, l1, l2] [a0, .ref b, s0, s1] M k n := R_callV X.1 (av := [a0]) (nA := 1) wd_136 wd_133 wd_134 wd_135 wd_32 (by decide +kernel) rfl (Nat.le_of_ble_eq_true rfl) (Nat.le_of_ble_eq_true rfl) (Nat.le_of_ble_eq_true rfl) d_P_findPlaces_20 rfl (ci := 0) rfl hM hC (by rw [BM.rc1 X.2]; exact hk) (by rw [BM.rc2 X.2]; exact hn) h
theorem i_P_findPlaces_23 {z : zT} {ws0 : va_W} {mc ms : Nat} {Post : Option Value → mM → Prop} (X : B_P_findPlaces z ws0 mc ms Post) {cI cB cN : ClassId} (G : GT z cI cB cN) {a w j : Nat} {i : Int32} {f : Nat → Int32} {x : Int32} {l0 l1 l2 : Option Value} {M : mM} {k n : Nat} (hM : M a = some (.inl (cI, w, .inl f))) (hx : i = nI j) (hj : j < w) (hw : w < 2 ^ 31 := by decide) (h : RN z 24 [l0, l1, l2] [] (mS M a (.inl (cI, w, .inl (upd f j x)))) k n) : RN z 23 [l0, l1, l2] [.int x, .int i, .ref a] M k n := R_iast X.1 0 G.1 d_P_findPlaces_23 hM (by rw [hx]; exact vp_in_nI hj hw) (by rw [hx, nI_clamp (by omega)]; exact h)
theorem i_P_findPlaces_24 {z : zT} {ws0 : va_W} {mc ms : Nat} {Post : Option Value → mM → Prop} (X : B_P_findPlaces z ws0 mc ms Post) {x : Int32} {l0 l1 : Option Value} {M : mM} {k n : Nat}  (h : RN z 27 [l0, l1, some (.int (x + 1))] [] M k n) : RN z 24 [l0, l1, some (.int x)] [] M k n := R_iinc X.1 d_P_findPlaces_24 rfl rfl h
theorem i_P_findPlaces_27 {z : zT} {ws0 : va_W} {mc ms : Nat} {Post : Option Value → mM → Prop} (X : B_P_findPlaces z ws0 mc ms Post) {l0 l1 l2 : Option Value} {M : mM} {k n : Nat}  (h : RN z 2 [l0, l1, l2] [] M k n) : RN z 27 [l0, l1, l2] [] M k n := R_goto X.1 d_P_findPlaces_27 (by decide) h
theorem i_P_findPlaces_30 {z : zT} {ws0 : va_W} {mc ms : Nat} {Post : Option Value → mM → Prop} (X : B_P_findPlaces z ws0 mc ms Post) {l0 l1 l2 : Option Value} {M : mM} {k n : Nat} (hk : k ≤ mc) (hn : n ≤ ms) (hp : Post none M) : RN z 30 [l0, l1, l2] [] M k n := R_vret X.1 X.2 d_P_findPlaces_30 hk hn hp
theorem d_P_entryAt_0 : decode c_P_entryAt 0 = .ok (.iload_n 1, 1) := by decide +kernel
theorem d_P_entryAt_1 : decode c_P_entryAt 1 = .ok (.iload_n 2, 1) := by decide +kernel
theorem d_P_entryAt_2 : decode c_P_entryAt 2 = .ok (.invokestatic 80, 3) := by decide +kernel
theorem d_P_entryAt_5 : decode c_P_entryAt 5 = .ok (.istore_n 3, 1) := by decide +kernel
theorem d_P_entryAt_6 : decode c_P_entryAt 6 = .ok (.iconst 0, 1) := by decide +kernel
theorem d_P_entryAt_7 : decode c_P_entryAt 7 = .ok (.istore 4, 2) := by decide +kernel
theorem d_P_entryAt_9 : decode c_P_entryAt 9 = .ok (.iload 4, 2) := by decide +kernel
theorem d_P_entryAt_11 : decode c_P_entryAt 11 = .ok (.bipush 24, 2) := by decide +kernel
theorem d_P_entryAt_13 : decode c_P_entryAt 13 = .ok (.if_icmp .ge 23, 3) := by decide +kernel
theorem d_P_entryAt_16 : decode c_P_entryAt 16 = .ok (.aload_n 0, 1) := by decide +kernel
theorem d_P_entryAt_17 : decode c_P_entryAt 17 = .ok (.getfield 15, 3) := by decide +kernel
theorem d_P_entryAt_20 : decode c_P_entryAt 20 = .ok (.iload 4, 2) := by decide +kernel
theorem d_P_entryAt_22 : decode c_P_entryAt 22 = .ok (.iaload, 1) := by decide +kernel
theorem d_P_entryAt_23 : decode c_P_entryAt 23 = .ok (.iload_n 3, 1) := by decide +kernel
theorem d_P_entryAt_24 : decode c_P_entryAt 24 = .ok (.if_icmp .ne 6, 3) := by decide +kernel
theorem d_P_entryAt_27 : decode c_P_entryAt 27 = .ok (.iload 4, 2) := by decide +kernel
theorem d_P_entryAt_29 : decode c_P_entryAt 29 = .ok (.ireturn, 1) := by decide +kernel
theorem d_P_entryAt_30 : decode c_P_entryAt 30 = .ok (.iinc 4 1, 3) := by decide +kernel
theorem d_P_entryAt_33 : decode c_P_entryAt 33 = .ok (.goto (-24), 3) := by decide +kernel
theorem d_P_entryAt_36 : decode c_P_entryAt 36 = .ok (.iconst 0, 1) := by decide +kernel
theorem d_P_entryAt_37 : decode c_P_entryAt 37 = .ok (.ireturn, 1) := by decide +kernel
abbrev B_P_entryAt (z : zT) (ws0 : va_W) (mc ms : Nat) (Post : Option Value → mM → Prop) : Prop := BX z c_P_entryAt 5 y_P_entryAt.cls y_P_entryAt.name 1 21 ∧ BQ z (some (.int)) ws0 mc ms Post
abbrev Ct_P_entryAt (l : Launch) (D : va_G) (tys : List (ClassId × FieldType)) (mc ms : Nat) (av : List Value) (M : mM) (Post : Option Value → mM → Prop) : Prop := Ct l D tys y_P_entryAt w_P_entryAt 1 21 mc ms av M Post
theorem i_P_entryAt_0 {z : zT} {ws0 : va_W} {mc ms : Nat} {Post : Option Value → mM → Prop} (X : B_P_entryAt z ws0 mc ms Post) {x : Int32} {l0 l2 l3 l4 : Option Value} {M : mM} {k n : Nat}  (h : RN z 1 [l0, some (.int x), l2, l3, l4] [.int x] M k n) : RN z 0 [l0, some (.int x), l2, l3, l4] [] M k n := R_iload_n X.1 d_P_entryAt_0 rfl rfl h
theorem i_P_entryAt_1 {z : zT} {ws0 : va_W} {mc ms : Nat} {Post : Option Value → mM → Prop} (X : B_P_entryAt z ws0 mc ms Post) {x : Int32} {l0 l1 l3 l4 : Option Value} {s0 : Value} {M : mM} {k n : Nat}  (h : RN z 2 [l0, l1, some (.int x), l3, l4] [.int x, s0] M k n) : RN z 1 [l0, l1, some (.int x), l3, l4] [s0] M k n := R_iload_n X.1 d_P_entryAt_1 rfl rfl h
theorem i_P_entryAt_2 {z : zT} {ws0 : va_W} {mc ms : Nat} {Post : Option Value → mM → Prop} (X : B_P_entryAt z ws0 mc ms Post) {a0 a1 : Value} {mc1 ms1 : Nat} {Po : Option Value → mM → Prop} {l0 l1 l2 l3 l4 : Option Value} {M : mM} {k n : Nat} (hC : Ct (zl z) (zD z) (zty z) y_P_placeOf w_P_placeOf 0 0 mc1 ms1 [a0, a1] M Po) (hk : k + mc1 ≤ mc) (hn : n + ms1 ≤ ms) (h : ∀ v M1, Po v M1 → RN z 5 [l0, l1, l2, l3, l4] (v.toList ++ []) M1 (k + mc1) (n + ms1)) : RN z 2 [l0, l1, l2, l3, l4] [a1, a0] M k n := R_callS X.1 (av := [a0, a1]) (nA := 2) wd_147 wd_145 wd_146 wd_30 (by decide +kernel) rfl (Nat.le_of_ble_eq_true rfl) (Nat.le_of_ble_eq_true rfl) (Nat.le_of_ble_eq_true rfl) d_P_entryAt_2 rfl hC (by rw [BM.rc1 X.2]; exact hk) (by rw [BM.rc2 X.2]; exact hn) h
theorem i_P_entryAt_5 {z : zT} {ws0 : va_W} {mc ms : Nat} {Post : Option Value → mM → Prop} (X : B_P_entryAt z ws0 mc ms Post) {x : Int32} {l0 l1 l2 l3 l4 : Option Value} {M : mM} {k n : Nat}  (h : RN z 6 [l0, l1, l2, some (.int x), l4] [] M k n) : RN z 5 [l0, l1, l2, l3, l4] [.int x] M k n := R_istore_n X.1 d_P_entryAt_5 rfl (Nat.le_of_ble_eq_true rfl) h
theorem i_P_entryAt_6 {z : zT} {ws0 : va_W} {mc ms : Nat} {Post : Option Value → mM → Prop} (X : B_P_entryAt z ws0 mc ms Post) {l0 l1 l2 l3 l4 : Option Value} {M : mM} {k n : Nat}  (h : RN z 7 [l0, l1, l2, l3, l4] [.int 0] M k n) : RN z 6 [l0, l1, l2, l3, l4] [] M k n := R_iconst X.1 d_P_entryAt_6 (by decide) h
theorem i_P_entryAt_7 {z : zT} {ws0 : va_W} {mc ms : Nat} {Post : Option Value → mM → Prop} (X : B_P_entryAt z ws0 mc ms Post) {x : Int32} {l0 l1 l2 l3 l4 : Option Value} {M : mM} {k n : Nat}  (h : RN z 9 [l0, l1, l2, l3, some (.int x)] [] M k n) : RN z 7 [l0, l1, l2, l3, l4] [.int x] M k n := R_istore X.1 d_P_entryAt_7 (Nat.le_of_ble_eq_true rfl) h
theorem i_P_entryAt_9 {z : zT} {ws0 : va_W} {mc ms : Nat} {Post : Option Value → mM → Prop} (X : B_P_entryAt z ws0 mc ms Post) {x : Int32} {l0 l1 l2 l3 : Option Value} {M : mM} {k n : Nat}  (h : RN z 11 [l0, l1, l2, l3, some (.int x)] [.int x] M k n) : RN z 9 [l0, l1, l2, l3, some (.int x)] [] M k n := R_iload X.1 d_P_entryAt_9 rfl h
theorem i_P_entryAt_11 {z : zT} {ws0 : va_W} {mc ms : Nat} {Post : Option Value → mM → Prop} (X : B_P_entryAt z ws0 mc ms Post) {l0 l1 l2 l3 l4 : Option Value} {s0 : Value} {M : mM} {k n : Nat}  (h : RN z 13 [l0, l1, l2, l3, l4] [.int 24, s0] M k n) : RN z 11 [l0, l1, l2, l3, l4] [s0] M k n := R_bipush X.1 d_P_entryAt_11 (by decide) h
theorem i_P_entryAt_13 {z : zT} {ws0 : va_W} {mc ms : Nat} {Post : Option Value → mM → Prop} (X : B_P_entryAt z ws0 mc ms Post) {x y : Int32} {l0 l1 l2 l3 l4 : Option Value} {M : mM} {k n : Nat}  (h1 : y ≤ x → RN z 36 [l0, l1, l2, l3, l4] [] M k n) (h2 : ¬ (y ≤ x) → RN z 16 [l0, l1, l2, l3, l4] [] M k n) : RN z 13 [l0, l1, l2, l3, l4] [.int y, .int x] M k n := R_icmp_ge X.1 d_P_entryAt_13 (by decide) h1 h2
theorem i_P_entryAt_16 {z : zT} {ws0 : va_W} {mc ms : Nat} {Post : Option Value → mM → Prop} (X : B_P_entryAt z ws0 mc ms Post) {v : Value} {l1 l2 l3 l4 : Option Value} {M : mM} {k n : Nat} (hv : mRf v := by first | exact mRf_r _ | exact mRf_n | exact mRf_rf _ | assumption) (h : RN z 17 [some v, l1, l2, l3, l4] [v] M k n) : RN z 16 [some v, l1, l2, l3, l4] [] M k n := R_aload_n X.1 d_P_entryAt_16 rfl rfl hv h
theorem i_P_entryAt_17 {z : zT} {ws0 : va_W} {mc ms : Nat} {Post : Option Value → mM → Prop} (X : B_P_entryAt z ws0 mc ms Post) {a : Nat} {f0 f1 f2 f3 f4 f5 f6 f7 f8 f9 f10 : Value} {l0 l1 l2 l3 l4 : Option Value} {M : mM} {k n : Nat} (hM : M a = some (.inr (3, [f0, f1, f2, f3, f4, f5, f6, f7, f8, f9, f10]))) (h : RN z 20 [l0, l1, l2, l3, l4] [f3] M k n) : RN z 17 [l0, l1, l2, l3, l4] [.ref a] M k n := R_get X.1 inX3 rfl 3 (Nat.le_of_ble_eq_true rfl) wd_79 d_P_entryAt_17 hM rfl h
theorem i_P_entryAt_20 {z : zT} {ws0 : va_W} {mc ms : Nat} {Post : Option Value → mM → Prop} (X : B_P_entryAt z ws0 mc ms Post) {x : Int32} {l0 l1 l2 l3 : Option Value} {s0 : Value} {M : mM} {k n : Nat}  (h : RN z 22 [l0, l1, l2, l3, some (.int x)] [.int x, s0] M k n) : RN z 20 [l0, l1, l2, l3, some (.int x)] [s0] M k n := R_iload X.1 d_P_entryAt_20 rfl h
theorem i_P_entryAt_22 {z : zT} {ws0 : va_W} {mc ms : Nat} {Post : Option Value → mM → Prop} (X : B_P_entryAt z ws0 mc ms Post) {cI cB cN : ClassId} (G : GT z cI cB cN) {a w j : Nat} {i : Int32} {f : Nat → Int32} {l0 l1 l2 l3 l4 : Option Value} {M : mM} {k n : Nat} (hM : M a = some (.inl (cI, w, .inl f))) (hx : i = nI j) (hj : j < w) (hw : w < 2 ^ 31 := by decide) (h : RN z 23 [l0, l1, l2, l3, l4] [.int (f j)] M k n) : RN z 22 [l0, l1, l2, l3, l4] [.int i, .ref a] M k n := R_iald X.1 0 G.1 d_P_entryAt_22 hM (by rw [hx]; exact vp_in_nI hj hw) (by rw [hx, nI_clamp (by omega)]; exact h)
theorem i_P_entryAt_23 {z : zT} {ws0 : va_W} {mc ms : Nat} {Post : Option Value → mM → Prop} (X : B_P_entryAt z ws0 mc ms Post) {x : Int32} {l0 l1 l2 l4 : Option Value} {s0 : Value} {M : mM} {k n : Nat}  (h : RN z 24 [l0, l1, l2, some (.int x), l4] [.int x, s0] M k n) : RN z 23 [l0, l1, l2, some (.int x), l4] [s0] M k n := R_iload_n X.1 d_P_entryAt_23 rfl rfl h
theorem i_P_entryAt_24 {z : zT} {ws0 : va_W} {mc ms : Nat} {Post : Option Value → mM → Prop} (X : B_P_entryAt z ws0 mc ms Post) {x y : Int32} {l0 l1 l2 l3 l4 : Option Value} {M : mM} {k n : Nat}  (h1 : ¬ x = y → RN z 30 [l0, l1, l2, l3, l4] [] M k n) (h2 : x = y → RN z 27 [l0, l1, l2, l3, l4] [] M k n) : RN z 24 [l0, l1, l2, l3, l4] [.int y, .int x] M k n := R_icmp_ne X.1 d_P_entryAt_24 (by decide) h1 h2
theorem i_P_entryAt_27 {z : zT} {ws0 : va_W} {mc ms : Nat} {Post : Option Value → mM → Prop} (X : B_P_entryAt z ws0 mc ms Post) {x : Int32} {l0 l1 l2 l3 : Option Value} {M : mM} {k n : Nat}  (h : RN z 29 [l0, l1, l2, l3, some (.int x)] [.int x] M k n) : RN z 27 [l0, l1, l2, l3, some (.int x)] [] M k n := R_iload X.1 d_P_entryAt_27 rfl h
theorem i_P_entryAt_29 {z : zT} {ws0 : va_W} {mc ms : Nat} {Post : Option Value → mM → Prop} (X : B_P_entryAt z ws0 mc ms Post) {x : Int32} {l0 l1 l2 l3 l4 : Option Value} {M : mM} {k n : Nat} (hk : k ≤ mc) (hn : n ≤ ms) (hp : Post (some (.int x)) M) : RN z 29 [l0, l1, l2, l3, l4] [.int x] M k n := R_iret X.1 X.2 d_P_entryAt_29 hk hn hp
theorem i_P_entryAt_30 {z : zT} {ws0 : va_W} {mc ms : Nat} {Post : Option Value → mM → Prop} (X : B_P_entryAt z ws0 mc ms Post) {x : Int32} {l0 l1 l2 l3 : Option Value} {M : mM} {k n : Nat}  (h : RN z 33 [l0, l1, l2, l3, some (.int (x + 1))] [] M k n) : RN z 30 [l0, l1, l2, l3, some (.int x)] [] M k n := R_iinc X.1 d_P_entryAt_30 rfl rfl h
theorem i_P_entryAt_33 {z : zT} {ws0 : va_W} {mc ms : Nat} {Post : Option Value → mM → Prop} (X : B_P_entryAt z ws0 mc ms Post) {l0 l1 l2 l3 l4 : Option Value} {M : mM} {k n : Nat}  (h : RN z 9 [l0, l1, l2, l3, l4] [] M k n) : RN z 33 [l0, l1, l2, l3, l4] [] M k n := R_goto X.1 d_P_entryAt_33 (by decide) h
theorem i_P_entryAt_36 {z : zT} {ws0 : va_W} {mc ms : Nat} {Post : Option Value → mM → Prop} (X : B_P_entryAt z ws0 mc ms Post) {l0 l1 l2 l3 l4 : Option Value} {M : mM} {k n : Nat}  (h : RN z 37 [l0, l1, l2, l3, l4] [.int 0] M k n) : RN z 36 [l0, l1, l2, l3, l4] [] M k n := R_iconst X.1 d_P_entryAt_36 (by decide) h
theorem i_P_entryAt_37 {z : zT} {ws0 : va_W} {mc ms : Nat} {Post : Option Value → mM → Prop} (X : B_P_entryAt z ws0 mc ms Post) {x : Int32} {l0 l1 l2 l3 l4 : Option Value} {M : mM} {k n : Nat} (hk : k ≤ mc) (hn : n ≤ ms) (hp : Post (some (.int x)) M) : RN z 37 [l0, l1, l2, l3, l4] [.int x] M k n := R_iret X.1 X.2 d_P_entryAt_37 hk hn hp
theorem d_P_firstName_0 : decode c_P_firstName 0 = .ok (.iload_n 2, 1) := by decide +kernel
theorem d_P_firstName_1 : decode c_P_firstName 1 = .ok (.istore_n 3, 1) := by decide +kernel
theorem d_P_firstName_2 : decode c_P_firstName 2 = .ok (.iload_n 3, 1) := by decide +kernel
theorem d_P_firstName_3 : decode c_P_firstName 3 = .ok (.bipush 8, 2) := by decide +kernel
theorem d_P_firstName_5 : decode c_P_firstName 5 = .ok (.if_icmp .ge 20, 3) := by decide +kernel
theorem d_P_firstName_8 : decode c_P_firstName 8 = .ok (.aload_n 0, 1) := by decide +kernel
theorem d_P_firstName_9 : decode c_P_firstName 9 = .ok (.iload_n 1, 1) := by decide +kernel
theorem d_P_firstName_10 : decode c_P_firstName 10 = .ok (.iload_n 3, 1) := by decide +kernel
theorem d_P_firstName_11 : decode c_P_firstName 11 = .ok (.invokevirtual 88, 3) := by decide +kernel
theorem d_P_firstName_14 : decode c_P_firstName 14 = .ok (.ifCond .eq 5, 3) := by decide +kernel
theorem d_P_firstName_17 : decode c_P_firstName 17 = .ok (.iload_n 3, 1) := by decide +kernel
theorem d_P_firstName_18 : decode c_P_firstName 18 = .ok (.ireturn, 1) := by decide +kernel
theorem d_P_firstName_19 : decode c_P_firstName 19 = .ok (.iinc 3 1, 3) := by decide +kernel
theorem d_P_firstName_22 : decode c_P_firstName 22 = .ok (.goto (-20), 3) := by decide +kernel
theorem d_P_firstName_25 : decode c_P_firstName 25 = .ok (.bipush 8, 2) := by decide +kernel
theorem d_P_firstName_27 : decode c_P_firstName 27 = .ok (.ireturn, 1) := by decide +kernel
abbrev B_P_firstName (z : zT) (ws0 : va_W) (mc ms : Nat) (Post : Option Value → mM → Prop) : Prop := BX z c_P_firstName 4 y_P_firstName.cls y_P_firstName.name 2 45 ∧ BQ z (some (.int)) ws0 mc ms Post
abbrev Ct_P_firstName (l : Launch) (D : va_G) (tys : List (ClassId × FieldType)) (mc ms : Nat) (av : List Value) (M : mM) (Post : Option Value → mM → Prop) : Prop := Ct l D tys y_P_firstName w_P_firstName 2 45 mc ms av M Post
theorem i_P_firstName_0 {z : zT} {ws0 : va_W} {mc ms : Nat} {Post : Option Value → mM → Prop} (X : B_P_firstName z ws0 mc ms Post) {x : Int32} {l0 l1 l3 : Option Value} {M : mM} {k n : Nat}  (h : RN z 1 [l0, l1, some (.int x), l3] [.int x] M k n) : RN z 0 [l0, l1, some (.int x), l3] [] M k n := R_iload_n X.1 d_P_firstName_0 rfl rfl h
theorem i_P_firstName_1 {z : zT} {ws0 : va_W} {mc ms : Nat} {Post : Option Value → mM → Prop} (X : B_P_firstName z ws0 mc ms Post) {x : Int32} {l0 l1 l2 l3 : Option Value} {M : mM} {k n : Nat}  (h : RN z 2 [l0, l1, l2, some (.int x)] [] M k n) : RN z 1 [l0, l1, l2, l3] [.int x] M k n := R_istore_n X.1 d_P_firstName_1 rfl (Nat.le_of_ble_eq_true rfl) h
theorem i_P_firstName_2 {z : zT} {ws0 : va_W} {mc ms : Nat} {Post : Option Value → mM → Prop} (X : B_P_firstName z ws0 mc ms Post) {x : Int32} {l0 l1 l2 : Option Value} {M : mM} {k n : Nat}  (h : RN z 3 [l0, l1, l2, some (.int x)] [.int x] M k n) : RN z 2 [l0, l1, l2, some (.int x)] [] M k n := R_iload_n X.1 d_P_firstName_2 rfl rfl h
theorem i_P_firstName_3 {z : zT} {ws0 : va_W} {mc ms : Nat} {Post : Option Value → mM → Prop} (X : B_P_firstName z ws0 mc ms Post) {l0 l1 l2 l3 : Option Value} {s0 : Value} {M : mM} {k n : Nat}  (h : RN z 5 [l0, l1, l2, l3] [.int 8, s0] M k n) : RN z 3 [l0, l1, l2, l3] [s0] M k n := R_bipush X.1 d_P_firstName_3 (by decide) h
theorem i_P_firstName_5 {z : zT} {ws0 : va_W} {mc ms : Nat} {Post : Option Value → mM → Prop} (X : B_P_firstName z ws0 mc ms Post) {x y : Int32} {l0 l1 l2 l3 : Option Value} {M : mM} {k n : Nat}  (h1 : y ≤ x → RN z 25 [l0, l1, l2, l3] [] M k n) (h2 : ¬ (y ≤ x) → RN z 8 [l0, l1, l2, l3] [] M k n) : RN z 5 [l0, l1, l2, l3] [.int y, .int x] M k n := R_icmp_ge X.1 d_P_firstName_5 (by decide) h1 h2
theorem i_P_firstName_8 {z : zT} {ws0 : va_W} {mc ms : Nat} {Post : Option Value → mM → Prop} (X : B_P_firstName z ws0 mc ms Post) {v : Value} {l1 l2 l3 : Option Value} {M : mM} {k n : Nat} (hv : mRf v := by first | exact mRf_r _ | exact mRf_n | exact mRf_rf _ | assumption) (h : RN z 9 [some v, l1, l2, l3] [v] M k n) : RN z 8 [some v, l1, l2, l3] [] M k n := R_aload_n X.1 d_P_firstName_8 rfl rfl hv h
theorem i_P_firstName_9 {z : zT} {ws0 : va_W} {mc ms : Nat} {Post : Option Value → mM → Prop} (X : B_P_firstName z ws0 mc ms Post) {x : Int32} {l0 l2 l3 : Option Value} {s0 : Value} {M : mM} {k n : Nat}  (h : RN z 10 [l0, some (.int x), l2, l3] [.int x, s0] M k n) : RN z 9 [l0, some (.int x), l2, l3] [s0] M k n := R_iload_n X.1 d_P_firstName_9 rfl rfl h
theorem i_P_firstName_10 {z : zT} {ws0 : va_W} {mc ms : Nat} {Post : Option Value → mM → Prop} (X : B_P_firstName z ws0 mc ms Post) {x : Int32} {l0 l1 l2 : Option Value} {s0 s1 : Value} {M : mM} {k n : Nat}  (h : RN z 11 [l0, l1, l2, some (.int x)] [.int x, s0, s1] M k n) : RN z 10 [l0, l1, l2, some (.int x)] [s0, s1] M k n := R_iload_n X.1 d_P_firstName_10 rfl rfl h
theorem i_P_firstName_11 {z : zT} {ws0 : va_W} {mc ms : Nat} {Post : Option Value → mM → Prop} (X : B_P_firstName z ws0 mc ms Post) {a0 a1 : Value} {b : Nat} {mc1 ms1 : Nat} {Po : Option Value → mM → Prop} {fs : List Value} {l0 l1 l2 l3 : Option Value} {M : mM} {k n : Nat} (hM : M b = some (.inr (3, fs))) (hC : Ct (zl z) (zD z) (zty z) y_P_entryAt w_P_entryAt 1 21 mc1 ms1 [.ref b, a0, a1] M Po) (hk : k + mc1 ≤ mc) (hn : n + ms1 ≤ ms) (h : ∀ v M1, Po v M1 → RN z 14 [l0, l1, l2, l3] (v.toList ++ []) M1 (k + mc1) (n + ms1)) : RN z 11 [l0, l1, l2, l3] [a1, a0, .ref b] M k n := R_callV X.1 (av := [a0, a1]) (nA := 2) wd_144 wd_141 wd_143 wd_4 wd_30 (by decide +kernel) rfl (Nat.le_of_ble_eq_true rfl) (Nat.le_of_ble_eq_true rfl) (Nat.le_of_ble_eq_true rfl) d_P_firstName_11 rfl (ci := 3) rfl hM hC (by rw [BM.rc1 X.2]; exact hk) (by rw [BM.rc2 X.2]; exact hn) h
theorem i_P_firstName_14 {z : zT} {ws0 : va_W} {mc ms : Nat} {Post : Option Value → mM → Prop} (X : B_P_firstName z ws0 mc ms Post) {x : Int32} {l0 l1 l2 l3 : Option Value} {M : mM} {k n : Nat}  (h1 : x = 0 → RN z 19 [l0, l1, l2, l3] [] M k n) (h2 : ¬ (x = 0) → RN z 17 [l0, l1, l2, l3] [] M k n) : RN z 14 [l0, l1, l2, l3] [.int x] M k n := R_if_eq X.1 d_P_firstName_14 (by decide) h1 h2
theorem i_P_firstName_17 {z : zT} {ws0 : va_W} {mc ms : Nat} {Post : Option Value → mM → Prop} (X : B_P_firstName z ws0 mc ms Post) {x : Int32} {l0 l1 l2 : Option Value} {M : mM} {k n : Nat}  (h : RN z 18 [l0, l1, l2, some (.int x)] [.int x] M k n) : RN z 17 [l0, l1, l2, some (.int x)] [] M k n := R_iload_n X.1 d_P_firstName_17 rfl rfl h
theorem i_P_firstName_18 {z : zT} {ws0 : va_W} {mc ms : Nat} {Post : Option Value → mM → Prop} (X : B_P_firstName z ws0 mc ms Post) {x : Int32} {l0 l1 l2 l3 : Option Value} {M : mM} {k n : Nat} (hk : k ≤ mc) (hn : n ≤ ms) (hp : Post (some (.int x)) M) : RN z 18 [l0, l1, l2, l3] [.int x] M k n := R_iret X.1 X.2 d_P_firstName_18 hk hn hp
theorem i_P_firstName_19 {z : zT} {ws0 : va_W} {mc ms : Nat} {Post : Option Value → mM → Prop} (X : B_P_firstName z ws0 mc ms Post) {x : Int32} {l0 l1 l2 : Option Value} {M : mM} {k n : Nat}  (h : RN z 22 [l0, l1, l2, some (.int (x + 1))] [] M k n) : RN z 19 [l0, l1, l2, some (.int x)] [] M k n := R_iinc X.1 d_P_firstName_19 rfl rfl h
theorem i_P_firstName_22 {z : zT} {ws0 : va_W} {mc ms : Nat} {Post : Option Value → mM → Prop} (X : B_P_firstName z ws0 mc ms Post) {l0 l1 l2 l3 : Option Value} {M : mM} {k n : Nat}  (h : RN z 2 [l0, l1, l2, l3] [] M k n) : RN z 22 [l0, l1, l2, l3] [] M k n := R_goto X.1 d_P_firstName_22 (by decide) h
theorem i_P_firstName_25 {z : zT} {ws0 : va_W} {mc ms : Nat} {Post : Option Value → mM → Prop} (X : B_P_firstName z ws0 mc ms Post) {l0 l1 l2 l3 : Option Value} {M : mM} {k n : Nat}  (h : RN z 27 [l0, l1, l2, l3] [.int 8] M k n) : RN z 25 [l0, l1, l2, l3] [] M k n := R_bipush X.1 d_P_firstName_25 (by decide) h
theorem i_P_firstName_27 {z : zT} {ws0 : va_W} {mc ms : Nat} {Post : Option Value → mM → Prop} (X : B_P_firstName z ws0 mc ms Post) {x : Int32} {l0 l1 l2 l3 : Option Value} {M : mM} {k n : Nat} (hk : k ≤ mc) (hn : n ≤ ms) (hp : Post (some (.int x)) M) : RN z 27 [l0, l1, l2, l3] [.int x] M k n := R_iret X.1 X.2 d_P_firstName_27 hk hn hp
theorem d_P_hasRoomFor_0 : decode c_P_hasRoomFor 0 = .ok (.iload_n 1, 1) := by decide +kernel
theorem d_P_hasRoomFor_1 : decode c_P_hasRoomFor 1 = .ok (.ifCond .eq 13, 3) := by decide +kernel
theorem d_P_hasRoomFor_4 : decode c_P_hasRoomFor 4 = .ok (.aload_n 0, 1) := by decide +kernel
theorem d_P_hasRoomFor_5 : decode c_P_hasRoomFor 5 = .ok (.getfield 15, 3) := by decide +kernel
theorem d_P_hasRoomFor_8 : decode c_P_hasRoomFor 8 = .ok (.iload_n 1, 1) := by decide +kernel
theorem d_P_hasRoomFor_9 : decode c_P_hasRoomFor 9 = .ok (.iaload, 1) := by decide +kernel
theorem d_P_hasRoomFor_10 : decode c_P_hasRoomFor 10 = .ok (.iconst (-1), 1) := by decide +kernel
theorem d_P_hasRoomFor_11 : decode c_P_hasRoomFor 11 = .ok (.if_icmp .eq 7, 3) := by decide +kernel
theorem d_P_hasRoomFor_14 : decode c_P_hasRoomFor 14 = .ok (.iconst 1, 1) := by decide +kernel
theorem d_P_hasRoomFor_15 : decode c_P_hasRoomFor 15 = .ok (.goto 4, 3) := by decide +kernel
theorem d_P_hasRoomFor_18 : decode c_P_hasRoomFor 18 = .ok (.iconst 0, 1) := by decide +kernel
theorem d_P_hasRoomFor_19 : decode c_P_hasRoomFor 19 = .ok (.istore_n 3, 1) := by decide +kernel
theorem d_P_hasRoomFor_20 : decode c_P_hasRoomFor 20 = .ok (.iload_n 3, 1) := by decide +kernel
theorem d_P_hasRoomFor_21 : decode c_P_hasRoomFor 21 = .ok (.ifCond .eq 16, 3) := by decide +kernel
theorem d_P_hasRoomFor_24 : decode c_P_hasRoomFor 24 = .ok (.aload_n 0, 1) := by decide +kernel
theorem d_P_hasRoomFor_25 : decode c_P_hasRoomFor 25 = .ok (.iload_n 1, 1) := by decide +kernel
theorem d_P_hasRoomFor_26 : decode c_P_hasRoomFor 26 = .ok (.iload_n 2, 1) := by decide +kernel
theorem d_P_hasRoomFor_27 : decode c_P_hasRoomFor 27 = .ok (.invokevirtual 88, 3) := by decide +kernel
theorem d_P_hasRoomFor_30 : decode c_P_hasRoomFor 30 = .ok (.ifCond .ne 7, 3) := by decide +kernel
theorem d_P_hasRoomFor_33 : decode c_P_hasRoomFor 33 = .ok (.iconst 1, 1) := by decide +kernel
theorem d_P_hasRoomFor_34 : decode c_P_hasRoomFor 34 = .ok (.goto 4, 3) := by decide +kernel
theorem d_P_hasRoomFor_37 : decode c_P_hasRoomFor 37 = .ok (.iconst 0, 1) := by decide +kernel
theorem d_P_hasRoomFor_38 : decode c_P_hasRoomFor 38 = .ok (.ireturn, 1) := by decide +kernel
abbrev B_P_hasRoomFor (z : zT) (ws0 : va_W) (mc ms : Nat) (Post : Option Value → mM → Prop) : Prop := BX z c_P_hasRoomFor 4 y_P_hasRoomFor.cls y_P_hasRoomFor.name 2 45 ∧ BQ z (some (.boolean)) ws0 mc ms Post
abbrev Ct_P_hasRoomFor (l : Launch) (D : va_G) (tys : List (ClassId × FieldType)) (mc ms : Nat) (av : List Value) (M : mM) (Post : Option Value → mM → Prop) : Prop := Ct l D tys y_P_hasRoomFor w_P_hasRoomFor 2 45 mc ms av M Post
theorem i_P_hasRoomFor_0 {z : zT} {ws0 : va_W} {mc ms : Nat} {Post : Option Value → mM → Prop} (X : B_P_hasRoomFor z ws0 mc ms Post) {x : Int32} {l0 l2 l3 : Option Value} {M : mM} {k n : Nat}  (h : RN z 1 [l0, some (.int x), l2, l3] [.int x] M k n) : RN z 0 [l0, some (.int x), l2, l3] [] M k n := R_iload_n X.1 d_P_hasRoomFor_0 rfl rfl h
theorem i_P_hasRoomFor_1 {z : zT} {ws0 : va_W} {mc ms : Nat} {Post : Option Value → mM → Prop} (X : B_P_hasRoomFor z ws0 mc ms Post) {x : Int32} {l0 l1 l2 l3 : Option Value} {M : mM} {k n : Nat}  (h1 : x = 0 → RN z 14 [l0, l1, l2, l3] [] M k n) (h2 : ¬ (x = 0) → RN z 4 [l0, l1, l2, l3] [] M k n) : RN z 1 [l0, l1, l2, l3] [.int x] M k n := R_if_eq X.1 d_P_hasRoomFor_1 (by decide) h1 h2
theorem i_P_hasRoomFor_4 {z : zT} {ws0 : va_W} {mc ms : Nat} {Post : Option Value → mM → Prop} (X : B_P_hasRoomFor z ws0 mc ms Post) {v : Value} {l1 l2 l3 : Option Value} {M : mM} {k n : Nat} (hv : mRf v := by first | exact mRf_r _ | exact mRf_n | exact mRf_rf _ | assumption) (h : RN z 5 [some v, l1, l2, l3] [v] M k n) : RN z 4 [some v, l1, l2, l3] [] M k n := R_aload_n X.1 d_P_hasRoomFor_4 rfl rfl hv h
theorem i_P_hasRoomFor_5 {z : zT} {ws0 : va_W} {mc ms : Nat} {Post : Option Value → mM → Prop} (X : B_P_hasRoomFor z ws0 mc ms Post) {a : Nat} {f0 f1 f2 f3 f4 f5 f6 f7 f8 f9 f10 : Value} {l0 l1 l2 l3 : Option Value} {M : mM} {k n : Nat} (hM : M a = some (.inr (3, [f0, f1, f2, f3, f4, f5, f6, f7, f8, f9, f10]))) (h : RN z 8 [l0, l1, l2, l3] [f3] M k n) : RN z 5 [l0, l1, l2, l3] [.ref a] M k n := R_get X.1 inX3 rfl 3 (Nat.le_of_ble_eq_true rfl) wd_79 d_P_hasRoomFor_5 hM rfl h
theorem i_P_hasRoomFor_8 {z : zT} {ws0 : va_W} {mc ms : Nat} {Post : Option Value → mM → Prop} (X : B_P_hasRoomFor z ws0 mc ms Post) {x : Int32} {l0 l2 l3 : Option Value} {s0 : Value} {M : mM} {k n : Nat}  (h : RN z 9 [l0, some (.int x), l2, l3] [.int x, s0] M k n) : RN z 8 [l0, some (.int x), l2, l3] [s0] M k n := R_iload_n X.1 d_P_hasRoomFor_8 rfl rfl h
theorem i_P_hasRoomFor_9 {z : zT} {ws0 : va_W} {mc ms : Nat} {Post : Option Value → mM → Prop} (X : B_P_hasRoomFor z ws0 mc ms Post) {cI cB cN : ClassId} (G : GT z cI cB cN) {a w j : Nat} {i : Int32} {f : Nat → Int32} {l0 l1 l2 l3 : Option Value} {M : mM} {k n : Nat} (hM : M a = some (.inl (cI, w, .inl f))) (hx : i = nI j) (hj : j < w) (hw : w < 2 ^ 31 := by decide) (h : RN z 10 [l0, l1, l2, l3] [.int (f j)] M k n) : RN z 9 [l0, l1, l2, l3] [.int i, .ref a] M k n := R_iald X.1 0 G.1 d_P_hasRoomFor_9 hM (by rw [hx]; exact vp_in_nI hj hw) (by rw [hx, nI_clamp (by omega)]; exact h)
theorem i_P_hasRoomFor_10 {z : zT} {ws0 : va_W} {mc ms : Nat} {Post : Option Value → mM → Prop} (X : B_P_hasRoomFor z ws0 mc ms Post) {l0 l1 l2 l3 : Option Value} {s0 : Value} {M : mM} {k n : Nat}  (h : RN z 11 [l0, l1, l2, l3] [.int (-1), s0] M k n) : RN z 10 [l0, l1, l2, l3] [s0] M k n := R_iconst X.1 d_P_hasRoomFor_10 (by decide) h
theorem i_P_hasRoomFor_11 {z : zT} {ws0 : va_W} {mc ms : Nat} {Post : Option Value → mM → Prop} (X : B_P_hasRoomFor z ws0 mc ms Post) {x y : Int32} {l0 l1 l2 l3 : Option Value} {M : mM} {k n : Nat}  (h1 : x = y → RN z 18 [l0, l1, l2, l3] [] M k n) (h2 : ¬ (x = y) → RN z 14 [l0, l1, l2, l3] [] M k n) : RN z 11 [l0, l1, l2, l3] [.int y, .int x] M k n := R_icmp_eq X.1 d_P_hasRoomFor_11 (by decide) h1 h2
theorem i_P_hasRoomFor_14 {z : zT} {ws0 : va_W} {mc ms : Nat} {Post : Option Value → mM → Prop} (X : B_P_hasRoomFor z ws0 mc ms Post) {l0 l1 l2 l3 : Option Value} {M : mM} {k n : Nat}  (h : RN z 15 [l0, l1, l2, l3] [.int 1] M k n) : RN z 14 [l0, l1, l2, l3] [] M k n := R_iconst X.1 d_P_hasRoomFor_14 (by decide) h
theorem i_P_hasRoomFor_15 {z : zT} {ws0 : va_W} {mc ms : Nat} {Post : Option Value → mM → Prop} (X : B_P_hasRoomFor z ws0 mc ms Post) {l0 l1 l2 l3 : Option Value} {s0 : Value} {M : mM} {k n : Nat}  (h : RN z 19 [l0, l1, l2, l3] [s0] M k n) : RN z 15 [l0, l1, l2, l3] [s0] M k n := R_goto X.1 d_P_hasRoomFor_15 (by decide) h
theorem i_P_hasRoomFor_18 {z : zT} {ws0 : va_W} {mc ms : Nat} {Post : Option Value → mM → Prop} (X : B_P_hasRoomFor z ws0 mc ms Post) {l0 l1 l2 l3 : Option Value} {M : mM} {k n : Nat}  (h : RN z 19 [l0, l1, l2, l3] [.int 0] M k n) : RN z 18 [l0, l1, l2, l3] [] M k n := R_iconst X.1 d_P_hasRoomFor_18 (by decide) h
theorem i_P_hasRoomFor_19 {z : zT} {ws0 : va_W} {mc ms : Nat} {Post : Option Value → mM → Prop} (X : B_P_hasRoomFor z ws0 mc ms Post) {x : Int32} {l0 l1 l2 l3 : Option Value} {M : mM} {k n : Nat}  (h : RN z 20 [l0, l1, l2, some (.int x)] [] M k n) : RN z 19 [l0, l1, l2, l3] [.int x] M k n := R_istore_n X.1 d_P_hasRoomFor_19 rfl (Nat.le_of_ble_eq_true rfl) h
theorem i_P_hasRoomFor_20 {z : zT} {ws0 : va_W} {mc ms : Nat} {Post : Option Value → mM → Prop} (X : B_P_hasRoomFor z ws0 mc ms Post) {x : Int32} {l0 l1 l2 : Option Value} {M : mM} {k n : Nat}  (h : RN z 21 [l0, l1, l2, some (.int x)] [.int x] M k n) : RN z 20 [l0, l1, l2, some (.int x)] [] M k n := R_iload_n X.1 d_P_hasRoomFor_20 rfl rfl h
theorem i_P_hasRoomFor_21 {z : zT} {ws0 : va_W} {mc ms : Nat} {Post : Option Value → mM → Prop} (X : B_P_hasRoomFor z ws0 mc ms Post) {x : Int32} {l0 l1 l2 l3 : Option Value} {M : mM} {k n : Nat}  (h1 : x = 0 → RN z 37 [l0, l1, l2, l3] [] M k n) (h2 : ¬ (x = 0) → RN z 24 [l0, l1, l2, l3] [] M k n) : RN z 21 [l0, l1, l2, l3] [.int x] M k n := R_if_eq X.1 d_P_hasRoomFor_21 (by decide) h1 h2
theorem i_P_hasRoomFor_24 {z : zT} {ws0 : va_W} {mc ms : Nat} {Post : Option Value → mM → Prop} (X : B_P_hasRoomFor z ws0 mc ms Post) {v : Value} {l1 l2 l3 : Option Value} {M : mM} {k n : Nat} (hv : mRf v := by first | exact mRf_r _ | exact mRf_n | exact mRf_rf _ | assumption) (h : RN z 25 [some v, l1, l2, l3] [v] M k n) : RN z 24 [some v, l1, l2, l3] [] M k n := R_aload_n X.1 d_P_hasRoomFor_24 rfl rfl hv h
theorem i_P_hasRoomFor_25 {z : zT} {ws0 : va_W} {mc ms : Nat} {Post : Option Value → mM → Prop} (X : B_P_hasRoomFor z ws0 mc ms Post) {x : Int32} {l0 l2 l3 : Option Value} {s0 : Value} {M : mM} {k n : Nat}  (h : RN z 26 [l0, some (.int x), l2, l3] [.int x, s0] M k n) : RN z 25 [l0, some (.int x), l2, l3] [s0] M k n := R_iload_n X.1 d_P_hasRoomFor_25 rfl rfl h
theorem i_P_hasRoomFor_26 {z : zT} {ws0 : va_W} {mc ms : Nat} {Post : Option Value → mM → Prop} (X : B_P_hasRoomFor z ws0 mc ms Post) {x : Int32} {l0 l1 l3 : Option Value} {s0 s1 : Value} {M : mM} {k n : Nat}  (h : RN z 27 [l0, l1, some (.int x), l3] [.int x, s0, s1] M k n) : RN z 26 [l0, l1, some (.int x), l3] [s0, s1] M k n := R_iload_n X.1 d_P_hasRoomFor_26 rfl rfl h
theorem i_P_hasRoomFor_27 {z : zT} {ws0 : va_W} {mc ms : Nat} {Post : Option Value → mM → Prop} (X : B_P_hasRoomFor z ws0 mc ms Post) {a0 a1 : Value} {b : Nat} {mc1 ms1 : Nat} {Po : Option Value → mM → Prop} {fs : List Value} {l0 l1 l2 l3 : Option Value} {M : mM} {k n : Nat} (hM : M b = some (.inr (3, fs))) (hC : Ct (zl z) (zD z) (zty z) y_P_entryAt w_P_entryAt 1 21 mc1 ms1 [.ref b, a0, a1] M Po) (hk : k + mc1 ≤ mc) (hn : n + ms1 ≤ ms) (h : ∀ v M1, Po v M1 → RN z 30 [l0, l1, l2, l3] (v.toList ++ []) M1 (k + mc1) (n + ms1)) : RN z 27 [l0, l1, l2, l3] [a1, a0, .ref b] M k n := R_callV X.1 (av := [a0, a1]) (nA := 2) wd_144 wd_141 wd_143 wd_4 wd_30 (by decide +kernel) rfl (Nat.le_of_ble_eq_true rfl) (Nat.le_of_ble_eq_true rfl) (Nat.le_of_ble_eq_true rfl) d_P_hasRoomFor_27 rfl (ci := 3) rfl hM hC (by rw [BM.rc1 X.2]; exact hk) (by rw [BM.rc2 X.2]; exact hn) h
theorem i_P_hasRoomFor_30 {z : zT} {ws0 : va_W} {mc ms : Nat} {Post : Option Value → mM → Prop} (X : B_P_hasRoomFor z ws0 mc ms Post) {x : Int32} {l0 l1 l2 l3 : Option Value} {M : mM} {k n : Nat}  (h1 : ¬ x = 0 → RN z 37 [l0, l1, l2, l3] [] M k n) (h2 : x = 0 → RN z 33 [l0, l1, l2, l3] [] M k n) : RN z 30 [l0, l1, l2, l3] [.int x] M k n := R_if_ne X.1 d_P_hasRoomFor_30 (by decide) h1 h2
theorem i_P_hasRoomFor_33 {z : zT} {ws0 : va_W} {mc ms : Nat} {Post : Option Value → mM → Prop} (X : B_P_hasRoomFor z ws0 mc ms Post) {l0 l1 l2 l3 : Option Value} {M : mM} {k n : Nat}  (h : RN z 34 [l0, l1, l2, l3] [.int 1] M k n) : RN z 33 [l0, l1, l2, l3] [] M k n := R_iconst X.1 d_P_hasRoomFor_33 (by decide) h
theorem i_P_hasRoomFor_34 {z : zT} {ws0 : va_W} {mc ms : Nat} {Post : Option Value → mM → Prop} (X : B_P_hasRoomFor z ws0 mc ms Post) {l0 l1 l2 l3 : Option Value} {s0 : Value} {M : mM} {k n : Nat}  (h : RN z 38 [l0, l1, l2, l3] [s0] M k n) : RN z 34 [l0, l1, l2, l3] [s0] M k n := R_goto X.1 d_P_hasRoomFor_34 (by decide) h
theorem i_P_hasRoomFor_37 {z : zT} {ws0 : va_W} {mc ms : Nat} {Post : Option Value → mM → Prop} (X : B_P_hasRoomFor z ws0 mc ms Post) {l0 l1 l2 l3 : Option Value} {M : mM} {k n : Nat}  (h : RN z 38 [l0, l1, l2, l3] [.int 0] M k n) : RN z 37 [l0, l1, l2, l3] [] M k n := R_iconst X.1 d_P_hasRoomFor_37 (by decide) h
theorem i_P_hasRoomFor_38 {z : zT} {ws0 : va_W} {mc ms : Nat} {Post : Option Value → mM → Prop} (X : B_P_hasRoomFor z ws0 mc ms Post) {x : Int32} {l0 l1 l2 l3 : Option Value} {M : mM} {k n : Nat} (hk : k ≤ mc) (hn : n ≤ ms) (hx : x = 0 ∨ x = 1) (hp : Post (some (.int x)) M) : RN z 38 [l0, l1, l2, l3] [.int x] M k n := R_zret X.1 X.2 d_P_hasRoomFor_38 (by rcases hx with rfl | rfl <;> rfl) hk hn hp
theorem d_P_isWithin_0 : decode c_P_isWithin 0 = .ok (.iload_n 1, 1) := by decide +kernel
theorem d_P_isWithin_1 : decode c_P_isWithin 1 = .ok (.istore_n 3, 1) := by decide +kernel
theorem d_P_isWithin_2 : decode c_P_isWithin 2 = .ok (.iconst 0, 1) := by decide +kernel
theorem d_P_isWithin_3 : decode c_P_isWithin 3 = .ok (.istore 4, 2) := by decide +kernel
theorem d_P_isWithin_5 : decode c_P_isWithin 5 = .ok (.iload 4, 2) := by decide +kernel
theorem d_P_isWithin_7 : decode c_P_isWithin 7 = .ok (.bipush 24, 2) := by decide +kernel
theorem d_P_isWithin_9 : decode c_P_isWithin 9 = .ok (.if_icmp .ge 38, 3) := by decide +kernel
theorem d_P_isWithin_12 : decode c_P_isWithin 12 = .ok (.iload_n 3, 1) := by decide +kernel
theorem d_P_isWithin_13 : decode c_P_isWithin 13 = .ok (.iload_n 2, 1) := by decide +kernel
theorem d_P_isWithin_14 : decode c_P_isWithin 14 = .ok (.if_icmp .ne 5, 3) := by decide +kernel
theorem d_P_isWithin_17 : decode c_P_isWithin 17 = .ok (.iconst 1, 1) := by decide +kernel
theorem d_P_isWithin_18 : decode c_P_isWithin 18 = .ok (.ireturn, 1) := by decide +kernel
theorem d_P_isWithin_19 : decode c_P_isWithin 19 = .ok (.aload_n 0, 1) := by decide +kernel
theorem d_P_isWithin_20 : decode c_P_isWithin 20 = .ok (.getfield 15, 3) := by decide +kernel
theorem d_P_isWithin_23 : decode c_P_isWithin 23 = .ok (.iload_n 3, 1) := by decide +kernel
theorem d_P_isWithin_24 : decode c_P_isWithin 24 = .ok (.iaload, 1) := by decide +kernel
theorem d_P_isWithin_25 : decode c_P_isWithin 25 = .ok (.iconst (-1), 1) := by decide +kernel
theorem d_P_isWithin_26 : decode c_P_isWithin 26 = .ok (.if_icmp .ne 5, 3) := by decide +kernel
theorem d_P_isWithin_29 : decode c_P_isWithin 29 = .ok (.iconst 0, 1) := by decide +kernel
theorem d_P_isWithin_30 : decode c_P_isWithin 30 = .ok (.ireturn, 1) := by decide +kernel
theorem d_P_isWithin_31 : decode c_P_isWithin 31 = .ok (.aload_n 0, 1) := by decide +kernel
theorem d_P_isWithin_32 : decode c_P_isWithin 32 = .ok (.getfield 15, 3) := by decide +kernel
theorem d_P_isWithin_35 : decode c_P_isWithin 35 = .ok (.iload_n 3, 1) := by decide +kernel
theorem d_P_isWithin_36 : decode c_P_isWithin 36 = .ok (.iaload, 1) := by decide +kernel
theorem d_P_isWithin_37 : decode c_P_isWithin 37 = .ok (.bipush 8, 2) := by decide +kernel
theorem d_P_isWithin_39 : decode c_P_isWithin 39 = .ok (.idiv, 1) := by decide +kernel
theorem d_P_isWithin_40 : decode c_P_isWithin 40 = .ok (.istore_n 3, 1) := by decide +kernel
theorem d_P_isWithin_41 : decode c_P_isWithin 41 = .ok (.iinc 4 1, 3) := by decide +kernel
theorem d_P_isWithin_44 : decode c_P_isWithin 44 = .ok (.goto (-39), 3) := by decide +kernel
theorem d_P_isWithin_47 : decode c_P_isWithin 47 = .ok (.iconst 0, 1) := by decide +kernel
theorem d_P_isWithin_48 : decode c_P_isWithin 48 = .ok (.ireturn, 1) := by decide +kernel
abbrev B_P_isWithin (z : zT) (ws0 : va_W) (mc ms : Nat) (Post : Option Value → mM → Prop) : Prop := BX z c_P_isWithin 5 y_P_isWithin.cls y_P_isWithin.name 0 0 ∧ BQ z (some (.boolean)) ws0 mc ms Post
abbrev Ct_P_isWithin (l : Launch) (D : va_G) (tys : List (ClassId × FieldType)) (mc ms : Nat) (av : List Value) (M : mM) (Post : Option Value → mM → Prop) : Prop := Ct l D tys y_P_isWithin w_P_isWithin 0 0 mc ms av M Post
theorem i_P_isWithin_0 {z : zT} {ws0 : va_W} {mc ms : Nat} {Post : Option Value → mM → Prop} (X : B_P_isWithin z ws0 mc ms Post) {x : Int32} {l0 l2 l3 l4 : Option Value} {M : mM} {k n : Nat}  (h : RN z 1 [l0, some (.int x), l2, l3, l4] [.int x] M k n) : RN z 0 [l0, some (.int x), l2, l3, l4] [] M k n := R_iload_n X.1 d_P_isWithin_0 rfl rfl h
theorem i_P_isWithin_1 {z : zT} {ws0 : va_W} {mc ms : Nat} {Post : Option Value → mM → Prop} (X : B_P_isWithin z ws0 mc ms Post) {x : Int32} {l0 l1 l2 l3 l4 : Option Value} {M : mM} {k n : Nat}  (h : RN z 2 [l0, l1, l2, some (.int x), l4] [] M k n) : RN z 1 [l0, l1, l2, l3, l4] [.int x] M k n := R_istore_n X.1 d_P_isWithin_1 rfl (Nat.le_of_ble_eq_true rfl) h
theorem i_P_isWithin_2 {z : zT} {ws0 : va_W} {mc ms : Nat} {Post : Option Value → mM → Prop} (X : B_P_isWithin z ws0 mc ms Post) {l0 l1 l2 l3 l4 : Option Value} {M : mM} {k n : Nat}  (h : RN z 3 [l0, l1, l2, l3, l4] [.int 0] M k n) : RN z 2 [l0, l1, l2, l3, l4] [] M k n := R_iconst X.1 d_P_isWithin_2 (by decide) h
theorem i_P_isWithin_3 {z : zT} {ws0 : va_W} {mc ms : Nat} {Post : Option Value → mM → Prop} (X : B_P_isWithin z ws0 mc ms Post) {x : Int32} {l0 l1 l2 l3 l4 : Option Value} {M : mM} {k n : Nat}  (h : RN z 5 [l0, l1, l2, l3, some (.int x)] [] M k n) : RN z 3 [l0, l1, l2, l3, l4] [.int x] M k n := R_istore X.1 d_P_isWithin_3 (Nat.le_of_ble_eq_true rfl) h
theorem i_P_isWithin_5 {z : zT} {ws0 : va_W} {mc ms : Nat} {Post : Option Value → mM → Prop} (X : B_P_isWithin z ws0 mc ms Post) {x : Int32} {l0 l1 l2 l3 : Option Value} {M : mM} {k n : Nat}  (h : RN z 7 [l0, l1, l2, l3, some (.int x)] [.int x] M k n) : RN z 5 [l0, l1, l2, l3, some (.int x)] [] M k n := R_iload X.1 d_P_isWithin_5 rfl h
theorem i_P_isWithin_7 {z : zT} {ws0 : va_W} {mc ms : Nat} {Post : Option Value → mM → Prop} (X : B_P_isWithin z ws0 mc ms Post) {l0 l1 l2 l3 l4 : Option Value} {s0 : Value} {M : mM} {k n : Nat}  (h : RN z 9 [l0, l1, l2, l3, l4] [.int 24, s0] M k n) : RN z 7 [l0, l1, l2, l3, l4] [s0] M k n := R_bipush X.1 d_P_isWithin_7 (by decide) h
theorem i_P_isWithin_9 {z : zT} {ws0 : va_W} {mc ms : Nat} {Post : Option Value → mM → Prop} (X : B_P_isWithin z ws0 mc ms Post) {x y : Int32} {l0 l1 l2 l3 l4 : Option Value} {M : mM} {k n : Nat}  (h1 : y ≤ x → RN z 47 [l0, l1, l2, l3, l4] [] M k n) (h2 : ¬ (y ≤ x) → RN z 12 [l0, l1, l2, l3, l4] [] M k n) : RN z 9 [l0, l1, l2, l3, l4] [.int y, .int x] M k n := R_icmp_ge X.1 d_P_isWithin_9 (by decide) h1 h2
theorem i_P_isWithin_12 {z : zT} {ws0 : va_W} {mc ms : Nat} {Post : Option Value → mM → Prop} (X : B_P_isWithin z ws0 mc ms Post) {x : Int32} {l0 l1 l2 l4 : Option Value} {M : mM} {k n : Nat}  (h : RN z 13 [l0, l1, l2, some (.int x), l4] [.int x] M k n) : RN z 12 [l0, l1, l2, some (.int x), l4] [] M k n := R_iload_n X.1 d_P_isWithin_12 rfl rfl h
theorem i_P_isWithin_13 {z : zT} {ws0 : va_W} {mc ms : Nat} {Post : Option Value → mM → Prop} (X : B_P_isWithin z ws0 mc ms Post) {x : Int32} {l0 l1 l3 l4 : Option Value} {s0 : Value} {M : mM} {k n : Nat}  (h : RN z 14 [l0, l1, some (.int x), l3, l4] [.int x, s0] M k n) : RN z 13 [l0, l1, some (.int x), l3, l4] [s0] M k n := R_iload_n X.1 d_P_isWithin_13 rfl rfl h
theorem i_P_isWithin_14 {z : zT} {ws0 : va_W} {mc ms : Nat} {Post : Option Value → mM → Prop} (X : B_P_isWithin z ws0 mc ms Post) {x y : Int32} {l0 l1 l2 l3 l4 : Option Value} {M : mM} {k n : Nat}  (h1 : ¬ x = y → RN z 19 [l0, l1, l2, l3, l4] [] M k n) (h2 : x = y → RN z 17 [l0, l1, l2, l3, l4] [] M k n) : RN z 14 [l0, l1, l2, l3, l4] [.int y, .int x] M k n := R_icmp_ne X.1 d_P_isWithin_14 (by decide) h1 h2
theorem i_P_isWithin_17 {z : zT} {ws0 : va_W} {mc ms : Nat} {Post : Option Value → mM → Prop} (X : B_P_isWithin z ws0 mc ms Post) {l0 l1 l2 l3 l4 : Option Value} {M : mM} {k n : Nat}  (h : RN z 18 [l0, l1, l2, l3, l4] [.int 1] M k n) : RN z 17 [l0, l1, l2, l3, l4] [] M k n := R_iconst X.1 d_P_isWithin_17 (by decide) h
theorem i_P_isWithin_18 {z : zT} {ws0 : va_W} {mc ms : Nat} {Post : Option Value → mM → Prop} (X : B_P_isWithin z ws0 mc ms Post) {x : Int32} {l0 l1 l2 l3 l4 : Option Value} {M : mM} {k n : Nat} (hk : k ≤ mc) (hn : n ≤ ms) (hx : x = 0 ∨ x = 1) (hp : Post (some (.int x)) M) : RN z 18 [l0, l1, l2, l3, l4] [.int x] M k n := R_zret X.1 X.2 d_P_isWithin_18 (by rcases hx with rfl | rfl <;> rfl) hk hn hp
theorem i_P_isWithin_19 {z : zT} {ws0 : va_W} {mc ms : Nat} {Post : Option Value → mM → Prop} (X : B_P_isWithin z ws0 mc ms Post) {v : Value} {l1 l2 l3 l4 : Option Value} {M : mM} {k n : Nat} (hv : mRf v := by first | exact mRf_r _ | exact mRf_n | exact mRf_rf _ | assumption) (h : RN z 20 [some v, l1, l2, l3, l4] [v] M k n) : RN z 19 [some v, l1, l2, l3, l4] [] M k n := R_aload_n X.1 d_P_isWithin_19 rfl rfl hv h
theorem i_P_isWithin_20 {z : zT} {ws0 : va_W} {mc ms : Nat} {Post : Option Value → mM → Prop} (X : B_P_isWithin z ws0 mc ms Post) {a : Nat} {f0 f1 f2 f3 f4 f5 f6 f7 f8 f9 f10 : Value} {l0 l1 l2 l3 l4 : Option Value} {M : mM} {k n : Nat} (hM : M a = some (.inr (3, [f0, f1, f2, f3, f4, f5, f6, f7, f8, f9, f10]))) (h : RN z 23 [l0, l1, l2, l3, l4] [f3] M k n) : RN z 20 [l0, l1, l2, l3, l4] [.ref a] M k n := R_get X.1 inX3 rfl 3 (Nat.le_of_ble_eq_true rfl) wd_79 d_P_isWithin_20 hM rfl h
theorem i_P_isWithin_23 {z : zT} {ws0 : va_W} {mc ms : Nat} {Post : Option Value → mM → Prop} (X : B_P_isWithin z ws0 mc ms Post) {x : Int32} {l0 l1 l2 l4 : Option Value} {s0 : Value} {M : mM} {k n : Nat}  (h : RN z 24 [l0, l1, l2, some (.int x), l4] [.int x, s0] M k n) : RN z 23 [l0, l1, l2, some (.int x), l4] [s0] M k n := R_iload_n X.1 d_P_isWithin_23 rfl rfl h
theorem i_P_isWithin_24 {z : zT} {ws0 : va_W} {mc ms : Nat} {Post : Option Value → mM → Prop} (X : B_P_isWithin z ws0 mc ms Post) {cI cB cN : ClassId} (G : GT z cI cB cN) {a w j : Nat} {i : Int32} {f : Nat → Int32} {l0 l1 l2 l3 l4 : Option Value} {M : mM} {k n : Nat} (hM : M a = some (.inl (cI, w, .inl f))) (hx : i = nI j) (hj : j < w) (hw : w < 2 ^ 31 := by decide) (h : RN z 25 [l0, l1, l2, l3, l4] [.int (f j)] M k n) : RN z 24 [l0, l1, l2, l3, l4] [.int i, .ref a] M k n := R_iald X.1 0 G.1 d_P_isWithin_24 hM (by rw [hx]; exact vp_in_nI hj hw) (by rw [hx, nI_clamp (by omega)]; exact h)
theorem i_P_isWithin_25 {z : zT} {ws0 : va_W} {mc ms : Nat} {Post : Option Value → mM → Prop} (X : B_P_isWithin z ws0 mc ms Post) {l0 l1 l2 l3 l4 : Option Value} {s0 : Value} {M : mM} {k n : Nat}  (h : RN z 26 [l0, l1, l2, l3, l4] [.int (-1), s0] M k n) : RN z 25 [l0, l1, l2, l3, l4] [s0] M k n := R_iconst X.1 d_P_isWithin_25 (by decide) h
theorem i_P_isWithin_26 {z : zT} {ws0 : va_W} {mc ms : Nat} {Post : Option Value → mM → Prop} (X : B_P_isWithin z ws0 mc ms Post) {x y : Int32} {l0 l1 l2 l3 l4 : Option Value} {M : mM} {k n : Nat}  (h1 : ¬ x = y → RN z 31 [l0, l1, l2, l3, l4] [] M k n) (h2 : x = y → RN z 29 [l0, l1, l2, l3, l4] [] M k n) : RN z 26 [l0, l1, l2, l3, l4] [.int y, .int x] M k n := R_icmp_ne X.1 d_P_isWithin_26 (by decide) h1 h2
theorem i_P_isWithin_29 {z : zT} {ws0 : va_W} {mc ms : Nat} {Post : Option Value → mM → Prop} (X : B_P_isWithin z ws0 mc ms Post) {l0 l1 l2 l3 l4 : Option Value} {M : mM} {k n : Nat}  (h : RN z 30 [l0, l1, l2, l3, l4] [.int 0] M k n) : RN z 29 [l0, l1, l2, l3, l4] [] M k n := R_iconst X.1 d_P_isWithin_29 (by decide) h
theorem i_P_isWithin_30 {z : zT} {ws0 : va_W} {mc ms : Nat} {Post : Option Value → mM → Prop} (X : B_P_isWithin z ws0 mc ms Post) {x : Int32} {l0 l1 l2 l3 l4 : Option Value} {M : mM} {k n : Nat} (hk : k ≤ mc) (hn : n ≤ ms) (hx : x = 0 ∨ x = 1) (hp : Post (some (.int x)) M) : RN z 30 [l0, l1, l2, l3, l4] [.int x] M k n := R_zret X.1 X.2 d_P_isWithin_30 (by rcases hx with rfl | rfl <;> rfl) hk hn hp
theorem i_P_isWithin_31 {z : zT} {ws0 : va_W} {mc ms : Nat} {Post : Option Value → mM → Prop} (X : B_P_isWithin z ws0 mc ms Post) {v : Value} {l1 l2 l3 l4 : Option Value} {M : mM} {k n : Nat} (hv : mRf v := by first | exact mRf_r _ | exact mRf_n | exact mRf_rf _ | assumption) (h : RN z 32 [some v, l1, l2, l3, l4] [v] M k n) : RN z 31 [some v, l1, l2, l3, l4] [] M k n := R_aload_n X.1 d_P_isWithin_31 rfl rfl hv h
theorem i_P_isWithin_32 {z : zT} {ws0 : va_W} {mc ms : Nat} {Post : Option Value → mM → Prop} (X : B_P_isWithin z ws0 mc ms Post) {a : Nat} {f0 f1 f2 f3 f4 f5 f6 f7 f8 f9 f10 : Value} {l0 l1 l2 l3 l4 : Option Value} {M : mM} {k n : Nat} (hM : M a = some (.inr (3, [f0, f1, f2, f3, f4, f5, f6, f7, f8, f9, f10]))) (h : RN z 35 [l0, l1, l2, l3, l4] [f3] M k n) : RN z 32 [l0, l1, l2, l3, l4] [.ref a] M k n := R_get X.1 inX3 rfl 3 (Nat.le_of_ble_eq_true rfl) wd_79 d_P_isWithin_32 hM rfl h
theorem i_P_isWithin_35 {z : zT} {ws0 : va_W} {mc ms : Nat} {Post : Option Value → mM → Prop} (X : B_P_isWithin z ws0 mc ms Post) {x : Int32} {l0 l1 l2 l4 : Option Value} {s0 : Value} {M : mM} {k n : Nat}  (h : RN z 36 [l0, l1, l2, some (.int x), l4] [.int x, s0] M k n) : RN z 35 [l0, l1, l2, some (.int x), l4] [s0] M k n := R_iload_n X.1 d_P_isWithin_35 rfl rfl h
theorem i_P_isWithin_36 {z : zT} {ws0 : va_W} {mc ms : Nat} {Post : Option Value → mM → Prop} (X : B_P_isWithin z ws0 mc ms Post) {cI cB cN : ClassId} (G : GT z cI cB cN) {a w j : Nat} {i : Int32} {f : Nat → Int32} {l0 l1 l2 l3 l4 : Option Value} {M : mM} {k n : Nat} (hM : M a = some (.inl (cI, w, .inl f))) (hx : i = nI j) (hj : j < w) (hw : w < 2 ^ 31 := by decide) (h : RN z 37 [l0, l1, l2, l3, l4] [.int (f j)] M k n) : RN z 36 [l0, l1, l2, l3, l4] [.int i, .ref a] M k n := R_iald X.1 0 G.1 d_P_isWithin_36 hM (by rw [hx]; exact vp_in_nI hj hw) (by rw [hx, nI_clamp (by omega)]; exact h)
theorem i_P_isWithin_37 {z : zT} {ws0 : va_W} {mc ms : Nat} {Post : Option Value → mM → Prop} (X : B_P_isWithin z ws0 mc ms Post) {l0 l1 l2 l3 l4 : Option Value} {s0 : Value} {M : mM} {k n : Nat}  (h : RN z 39 [l0, l1, l2, l3, l4] [.int 8, s0] M k n) : RN z 37 [l0, l1, l2, l3, l4] [s0] M k n := R_bipush X.1 d_P_isWithin_37 (by decide) h
theorem i_P_isWithin_39 {z : zT} {ws0 : va_W} {mc ms : Nat} {Post : Option Value → mM → Prop} (X : B_P_isWithin z ws0 mc ms Post) {x y : Int32} {l0 l1 l2 l3 l4 : Option Value} {M : mM} {k n : Nat} (hy : ¬ y = 0) (h : RN z 40 [l0, l1, l2, l3, l4] [.int (x / y)] M k n) : RN z 39 [l0, l1, l2, l3, l4] [.int y, .int x] M k n := R_idiv X.1 d_P_isWithin_39 hy h
theorem i_P_isWithin_40 {z : zT} {ws0 : va_W} {mc ms : Nat} {Post : Option Value → mM → Prop} (X : B_P_isWithin z ws0 mc ms Post) {x : Int32} {l0 l1 l2 l3 l4 : Option Value} {M : mM} {k n : Nat}  (h : RN z 41 [l0, l1, l2, some (.int x), l4] [] M k n) : RN z 40 [l0, l1, l2, l3, l4] [.int x] M k n := R_istore_n X.1 d_P_isWithin_40 rfl (Nat.le_of_ble_eq_true rfl) h
theorem i_P_isWithin_41 {z : zT} {ws0 : va_W} {mc ms : Nat} {Post : Option Value → mM → Prop} (X : B_P_isWithin z ws0 mc ms Post) {x : Int32} {l0 l1 l2 l3 : Option Value} {M : mM} {k n : Nat}  (h : RN z 44 [l0, l1, l2, l3, some (.int (x + 1))] [] M k n) : RN z 41 [l0, l1, l2, l3, some (.int x)] [] M k n := R_iinc X.1 d_P_isWithin_41 rfl rfl h
theorem i_P_isWithin_44 {z : zT} {ws0 : va_W} {mc ms : Nat} {Post : Option Value → mM → Prop} (X : B_P_isWithin z ws0 mc ms Post) {l0 l1 l2 l3 l4 : Option Value} {M : mM} {k n : Nat}  (h : RN z 5 [l0, l1, l2, l3, l4] [] M k n) : RN z 44 [l0, l1, l2, l3, l4] [] M k n := R_goto X.1 d_P_isWithin_44 (by decide) h
theorem i_P_isWithin_47 {z : zT} {ws0 : va_W} {mc ms : Nat} {Post : Option Value → mM → Prop} (X : B_P_isWithin z ws0 mc ms Post) {l0 l1 l2 l3 l4 : Option Value} {M : mM} {k n : Nat}  (h : RN z 48 [l0, l1, l2, l3, l4] [.int 0] M k n) : RN z 47 [l0, l1, l2, l3, l4] [] M k n := R_iconst X.1 d_P_isWithin_47 (by decide) h
theorem i_P_isWithin_48 {z : zT} {ws0 : va_W} {mc ms : Nat} {Post : Option Value → mM → Prop} (X : B_P_isWithin z ws0 mc ms Post) {x : Int32} {l0 l1 l2 l3 l4 : Option Value} {M : mM} {k n : Nat} (hk : k ≤ mc) (hn : n ≤ ms) (hx : x = 0 ∨ x = 1) (hp : Post (some (.int x)) M) : RN z 48 [l0, l1, l2, l3, l4] [.int x] M k n := R_zret X.1 X.2 d_P_isWithin_48 (by rcases hx with rfl | rfl <;> rfl) hk hn hp
theorem d_P_makeDurable_0 : decode c_P_makeDurable 0 = .ok (.aload_n 0, 1) := by decide +kernel
theorem d_P_makeDurable_1 : decode c_P_makeDurable 1 = .ok (.aload_n 0, 1) := by decide +kernel
theorem d_P_makeDurable_2 : decode c_P_makeDurable 2 = .ok (.getfield 19, 3) := by decide +kernel
theorem d_P_makeDurable_5 : decode c_P_makeDurable 5 = .ok (.putfield 29, 3) := by decide +kernel
theorem d_P_makeDurable_8 : decode c_P_makeDurable 8 = .ok (.aload_n 0, 1) := by decide +kernel
theorem d_P_makeDurable_9 : decode c_P_makeDurable 9 = .ok (.aload_n 0, 1) := by decide +kernel
theorem d_P_makeDurable_10 : decode c_P_makeDurable 10 = .ok (.getfield 23, 3) := by decide +kernel
theorem d_P_makeDurable_13 : decode c_P_makeDurable 13 = .ok (.putfield 32, 3) := by decide +kernel
theorem d_P_makeDurable_16 : decode c_P_makeDurable 16 = .ok (.aload_n 0, 1) := by decide +kernel
theorem d_P_makeDurable_17 : decode c_P_makeDurable 17 = .ok (.aload_n 0, 1) := by decide +kernel
theorem d_P_makeDurable_18 : decode c_P_makeDurable 18 = .ok (.getfield 26, 3) := by decide +kernel
theorem d_P_makeDurable_21 : decode c_P_makeDurable 21 = .ok (.putfield 35, 3) := by decide +kernel
theorem d_P_makeDurable_24 : decode c_P_makeDurable 24 = .ok (.iconst 0, 1) := by decide +kernel
theorem d_P_makeDurable_25 : decode c_P_makeDurable 25 = .ok (.istore_n 1, 1) := by decide +kernel
theorem d_P_makeDurable_26 : decode c_P_makeDurable 26 = .ok (.iload_n 1, 1) := by decide +kernel
theorem d_P_makeDurable_27 : decode c_P_makeDurable 27 = .ok (.bipush 24, 2) := by decide +kernel
theorem d_P_makeDurable_29 : decode c_P_makeDurable 29 = .ok (.if_icmp .ge 18, 3) := by decide +kernel
theorem d_P_makeDurable_32 : decode c_P_makeDurable 32 = .ok (.aload_n 0, 1) := by decide +kernel
theorem d_P_makeDurable_33 : decode c_P_makeDurable 33 = .ok (.getfield 11, 3) := by decide +kernel
theorem d_P_makeDurable_36 : decode c_P_makeDurable 36 = .ok (.iload_n 1, 1) := by decide +kernel
theorem d_P_makeDurable_37 : decode c_P_makeDurable 37 = .ok (.aaload, 1) := by decide +kernel
theorem d_P_makeDurable_38 : decode c_P_makeDurable 38 = .ok (.invokevirtual 179, 3) := by decide +kernel
theorem d_P_makeDurable_41 : decode c_P_makeDurable 41 = .ok (.iinc 1 1, 3) := by decide +kernel
theorem d_P_makeDurable_44 : decode c_P_makeDurable 44 = .ok (.goto (-18), 3) := by decide +kernel
theorem d_P_makeDurable_47 : decode c_P_makeDurable 47 = .ok (.return_, 1) := by decide +kernel
abbrev B_P_makeDurable (z : zT) (ws0 : va_W) (mc ms : Nat) (Post : Option Value → mM → Prop) : Prop := BX z c_P_makeDurable 2 y_P_makeDurable.cls y_P_makeDurable.name 1 20 ∧ BQ z none ws0 mc ms Post
abbrev Ct_P_makeDurable (l : Launch) (D : va_G) (tys : List (ClassId × FieldType)) (mc ms : Nat) (av : List Value) (M : mM) (Post : Option Value → mM → Prop) : Prop := Ct l D tys y_P_makeDurable w_P_makeDurable 1 20 mc ms av M Post
theorem i_P_makeDurable_0 {z : zT} {ws0 : va_W} {mc ms : Nat} {Post : Option Value → mM → Prop} (X : B_P_makeDurable z ws0 mc ms Post) {v : Value} {l1 : Option Value} {M : mM} {k n : Nat} (hv : mRf v := by first | exact mRf_r _ | exact mRf_n | exact mRf_rf _ | assumption) (h : RN z 1 [some v, l1] [v] M k n) : RN z 0 [some v, l1] [] M k n := R_aload_n X.1 d_P_makeDurable_0 rfl rfl hv h
theorem i_P_makeDurable_1 {z : zT} {ws0 : va_W} {mc ms : Nat} {Post : Option Value → mM → Prop} (X : B_P_makeDurable z ws0 mc ms Post) {v : Value} {l1 : Option Value} {s0 : Value} {M : mM} {k n : Nat} (hv : mRf v := by first | exact mRf_r _ | exact mRf_n | exact mRf_rf _ | assumption) (h : RN z 2 [some v, l1] [v, s0] M k n) : RN z 1 [some v, l1] [s0] M k n := R_aload_n X.1 d_P_makeDurable_1 rfl rfl hv h
theorem i_P_makeDurable_2 {z : zT} {ws0 : va_W} {mc ms : Nat} {Post : Option Value → mM → Prop} (X : B_P_makeDurable z ws0 mc ms Post) {a : Nat} {f0 f1 f2 f3 f4 f5 f6 f7 f8 f9 f10 : Value} {l0 l1 : Option Value} {s0 : Value} {M : mM} {k n : Nat} (hM : M a = some (.inr (3, [f0, f1, f2, f3, f4, f5, f6, f7, f8, f9, f10]))) (h : RN z 5 [l0, l1] [f4, s0] M k n) : RN z 2 [l0, l1] [.ref a, s0] M k n := R_get X.1 inX3 rfl 4 (Nat.le_of_ble_eq_true rfl) wd_80 d_P_makeDurable_2 hM rfl h
theorem i_P_makeDurable_5 {z : zT} {ws0 : va_W} {mc ms : Nat} {Post : Option Value → mM → Prop} (X : B_P_makeDurable z ws0 mc ms Post) {a : Nat} {f0 f1 f2 f3 f4 f5 f6 f7 f8 f9 f10 : Value} {x : Int32} {l0 l1 : Option Value} {M : mM} {k n : Nat} (hM : M a = some (.inr (3, [f0, f1, f2, f3, f4, f5, f6, f7, f8, f9, f10]))) (h : RN z 8 [l0, l1] [] (mS M a (.inr (3, [f0, f1, f2, f3, f4, f5, f6, .int x, f8, f9, f10]))) k n) : RN z 5 [l0, l1] [.int x, .ref a] M k n := R_put X.1 inX3 rfl 7 (Nat.le_of_ble_eq_true rfl) tyX3 tyX3_ok nmX3 wd_83 rfl (by decide +kernel : parseFieldDescriptor (TX3 7).2.2.1 = some (.int)) rfl rfl d_P_makeDurable_5 hM (Nat.le_of_ble_eq_true rfl) h
theorem i_P_makeDurable_8 {z : zT} {ws0 : va_W} {mc ms : Nat} {Post : Option Value → mM → Prop} (X : B_P_makeDurable z ws0 mc ms Post) {v : Value} {l1 : Option Value} {M : mM} {k n : Nat} (hv : mRf v := by first | exact mRf_r _ | exact mRf_n | exact mRf_rf _ | assumption) (h : RN z 9 [some v, l1] [v] M k n) : RN z 8 [some v, l1] [] M k n := R_aload_n X.1 d_P_makeDurable_8 rfl rfl hv h
theorem i_P_makeDurable_9 {z : zT} {ws0 : va_W} {mc ms : Nat} {Post : Option Value → mM → Prop} (X : B_P_makeDurable z ws0 mc ms Post) {v : Value} {l1 : Option Value} {s0 : Value} {M : mM} {k n : Nat} (hv : mRf v := by first | exact mRf_r _ | exact mRf_n | exact mRf_rf _ | assumption) (h : RN z 10 [some v, l1] [v, s0] M k n) : RN z 9 [some v, l1] [s0] M k n := R_aload_n X.1 d_P_makeDurable_9 rfl rfl hv h
theorem i_P_makeDurable_10 {z : zT} {ws0 : va_W} {mc ms : Nat} {Post : Option Value → mM → Prop} (X : B_P_makeDurable z ws0 mc ms Post) {a : Nat} {f0 f1 f2 f3 f4 f5 f6 f7 f8 f9 f10 : Value} {l0 l1 : Option Value} {s0 : Value} {M : mM} {k n : Nat} (hM : M a = some (.inr (3, [f0, f1, f2, f3, f4, f5, f6, f7, f8, f9, f10]))) (h : RN z 13 [l0, l1] [f5, s0] M k n) : RN z 10 [l0, l1] [.ref a, s0] M k n := R_get X.1 inX3 rfl 5 (Nat.le_of_ble_eq_true rfl) wd_81 d_P_makeDurable_10 hM rfl h
theorem i_P_makeDurable_13 {z : zT} {ws0 : va_W} {mc ms : Nat} {Post : Option Value → mM → Prop} (X : B_P_makeDurable z ws0 mc ms Post) {a : Nat} {f0 f1 f2 f3 f4 f5 f6 f7 f8 f9 f10 : Value} {x : Int32} {l0 l1 : Option Value} {M : mM} {k n : Nat} (hM : M a = some (.inr (3, [f0, f1, f2, f3, f4, f5, f6, f7, f8, f9, f10]))) (h : RN z 16 [l0, l1] [] (mS M a (.inr (3, [f0, f1, f2, f3, f4, f5, f6, f7, .int x, f9, f10]))) k n) : RN z 13 [l0, l1] [.int x, .ref a] M k n := R_put X.1 inX3 rfl 8 (Nat.le_of_ble_eq_true rfl) tyX3 tyX3_ok nmX3 wd_84 rfl (by decide +kernel : parseFieldDescriptor (TX3 8).2.2.1 = some (.int)) rfl rfl d_P_makeDurable_13 hM (Nat.le_of_ble_eq_true rfl) h
theorem i_P_makeDurable_16 {z : zT} {ws0 : va_W} {mc ms : Nat} {Post : Option Value → mM → Prop} (X : B_P_makeDurable z ws0 mc ms Post) {v : Value} {l1 : Option Value} {M : mM} {k n : Nat} (hv : mRf v := by first | exact mRf_r _ | exact mRf_n | exact mRf_rf _ | assumption) (h : RN z 17 [some v, l1] [v] M k n) : RN z 16 [some v, l1] [] M k n := R_aload_n X.1 d_P_makeDurable_16 rfl rfl hv h
theorem i_P_makeDurable_17 {z : zT} {ws0 : va_W} {mc ms : Nat} {Post : Option Value → mM → Prop} (X : B_P_makeDurable z ws0 mc ms Post) {v : Value} {l1 : Option Value} {s0 : Value} {M : mM} {k n : Nat} (hv : mRf v := by first | exact mRf_r _ | exact mRf_n | exact mRf_rf _ | assumption) (h : RN z 18 [some v, l1] [v, s0] M k n) : RN z 17 [some v, l1] [s0] M k n := R_aload_n X.1 d_P_makeDurable_17 rfl rfl hv h
theorem i_P_makeDurable_18 {z : zT} {ws0 : va_W} {mc ms : Nat} {Post : Option Value → mM → Prop} (X : B_P_makeDurable z ws0 mc ms Post) {a : Nat} {f0 f1 f2 f3 f4 f5 f6 f7 f8 f9 f10 : Value} {l0 l1 : Option Value} {s0 : Value} {M : mM} {k n : Nat} (hM : M a = some (.inr (3, [f0, f1, f2, f3, f4, f5, f6, f7, f8, f9, f10]))) (h : RN z 21 [l0, l1] [f6, s0] M k n) : RN z 18 [l0, l1] [.ref a, s0] M k n := R_get X.1 inX3 rfl 6 (Nat.le_of_ble_eq_true rfl) wd_82 d_P_makeDurable_18 hM rfl h
theorem i_P_makeDurable_21 {z : zT} {ws0 : va_W} {mc ms : Nat} {Post : Option Value → mM → Prop} (X : B_P_makeDurable z ws0 mc ms Post) {a : Nat} {f0 f1 f2 f3 f4 f5 f6 f7 f8 f9 f10 : Value} {x : Int32} {l0 l1 : Option Value} {M : mM} {k n : Nat} (hM : M a = some (.inr (3, [f0, f1, f2, f3, f4, f5, f6, f7, f8, f9, f10]))) (h : RN z 24 [l0, l1] [] (mS M a (.inr (3, [f0, f1, f2, f3, f4, f5, f6, f7, f8, .int x, f10]))) k n) : RN z 21 [l0, l1] [.int x, .ref a] M k n := R_put X.1 inX3 rfl 9 (Nat.le_of_ble_eq_true rfl) tyX3 tyX3_ok nmX3 wd_85 rfl (by decide +kernel : parseFieldDescriptor (TX3 9).2.2.1 = some (.int)) rfl rfl d_P_makeDurable_21 hM (Nat.le_of_ble_eq_true rfl) h
theorem i_P_makeDurable_24 {z : zT} {ws0 : va_W} {mc ms : Nat} {Post : Option Value → mM → Prop} (X : B_P_makeDurable z ws0 mc ms Post) {l0 l1 : Option Value} {M : mM} {k n : Nat}  (h : RN z 25 [l0, l1] [.int 0] M k n) : RN z 24 [l0, l1] [] M k n := R_iconst X.1 d_P_makeDurable_24 (by decide) h
theorem i_P_makeDurable_25 {z : zT} {ws0 : va_W} {mc ms : Nat} {Post : Option Value → mM → Prop} (X : B_P_makeDurable z ws0 mc ms Post) {x : Int32} {l0 l1 : Option Value} {M : mM} {k n : Nat}  (h : RN z 26 [l0, some (.int x)] [] M k n) : RN z 25 [l0, l1] [.int x] M k n := R_istore_n X.1 d_P_makeDurable_25 rfl (Nat.le_of_ble_eq_true rfl) h
theorem i_P_makeDurable_26 {z : zT} {ws0 : va_W} {mc ms : Nat} {Post : Option Value → mM → Prop} (X : B_P_makeDurable z ws0 mc ms Post) {x : Int32} {l0 : Option Value} {M : mM} {k n : Nat}  (h : RN z 27 [l0, some (.int x)] [.int x] M k n) : RN z 26 [l0, some (.int x)] [] M k n := R_iload_n X.1 d_P_makeDurable_26 rfl rfl h
theorem i_P_makeDurable_27 {z : zT} {ws0 : va_W} {mc ms : Nat} {Post : Option Value → mM → Prop} (X : B_P_makeDurable z ws0 mc ms Post) {l0 l1 : Option Value} {s0 : Value} {M : mM} {k n : Nat}  (h : RN z 29 [l0, l1] [.int 24, s0] M k n) : RN z 27 [l0, l1] [s0] M k n := R_bipush X.1 d_P_makeDurable_27 (by decide) h
theorem i_P_makeDurable_29 {z : zT} {ws0 : va_W} {mc ms : Nat} {Post : Option Value → mM → Prop} (X : B_P_makeDurable z ws0 mc ms Post) {x y : Int32} {l0 l1 : Option Value} {M : mM} {k n : Nat}  (h1 : y ≤ x → RN z 47 [l0, l1] [] M k n) (h2 : ¬ (y ≤ x) → RN z 32 [l0, l1] [] M k n) : RN z 29 [l0, l1] [.int y, .int x] M k n := R_icmp_ge X.1 d_P_makeDurable_29 (by decide) h1 h2
theorem i_P_makeDurable_32 {z : zT} {ws0 : va_W} {mc ms : Nat} {Post : Option Value → mM → Prop} (X : B_P_makeDurable z ws0 mc ms Post) {v : Value} {l1 : Option Value} {M : mM} {k n : Nat} (hv : mRf v := by first | exact mRf_r _ | exact mRf_n | exact mRf_rf _ | assumption) (h : RN z 33 [some v, l1] [v] M k n) : RN z 32 [some v, l1] [] M k n := R_aload_n X.1 d_P_makeDurable_32 rfl rfl hv h
theorem i_P_makeDurable_33 {z : zT} {ws0 : va_W} {mc ms : Nat} {Post : Option Value → mM → Prop} (X : B_P_makeDurable z ws0 mc ms Post) {a : Nat} {f0 f1 f2 f3 f4 f5 f6 f7 f8 f9 f10 : Value} {l0 l1 : Option Value} {M : mM} {k n : Nat} (hM : M a = some (.inr (3, [f0, f1, f2, f3, f4, f5, f6, f7, f8, f9, f10]))) (h : RN z 36 [l0, l1] [f2] M k n) : RN z 33 [l0, l1] [.ref a] M k n := R_get X.1 inX3 rfl 2 (Nat.le_of_ble_eq_true rfl) wd_78 d_P_makeDurable_33 hM rfl h
theorem i_P_makeDurable_36 {z : zT} {ws0 : va_W} {mc ms : Nat} {Post : Option Value → mM → Prop} (X : B_P_makeDurable z ws0 mc ms Post) {x : Int32} {l0 : Option Value} {s0 : Value} {M : mM} {k n : Nat}  (h : RN z 37 [l0, some (.int x)] [.int x, s0] M k n) : RN z 36 [l0, some (.int x)] [s0] M k n := R_iload_n X.1 d_P_makeDurable_36 rfl rfl h
theorem i_P_makeDurable_37 {z : zT} {ws0 : va_W} {mc ms : Nat} {Post : Option Value → mM → Prop} (X : B_P_makeDurable z ws0 mc ms Post) {cI cB cN : ClassId} (G : GT z cI cB cN) {a w j : Nat} {i : Int32} {f : Nat → Option Nat} {l0 l1 : Option Value} {M : mM} {k n : Nat} (hM : M a = some (.inl (cN, w, .inr (.inr (.inr (.inr f)))))) (hx : i = nI j) (hj : j < w) (hw : w < 2 ^ 31 := by decide) (h : RN z 38 [l0, l1] [va_rf (f j)] M k n) : RN z 37 [l0, l1] [.int i, .ref a] M k n := R_aald X.1 2 G.2.2 d_P_makeDurable_37 hM (by rw [hx]; exact vp_in_nI hj hw) (by rw [hx, nI_clamp (by omega)]; exact h)
theorem i_P_makeDurable_38 {z : zT} {ws0 : va_W} {mc ms : Nat} {Post : Option Value → mM → Prop} (X : B_P_makeDurable z ws0 mc ms Post) {b : Nat} {mc1 ms1 : Nat} {Po : Option Value → mM → Prop} {fs : List Value} {l0 l1 : Option Value} {M : mM} {k n : Nat} (hM : M b = some (.inr (0, fs))) (hC : Ct (zl z) (zD z) (zty z) y_N_keep w_N_keep 0 0 mc1 ms1 [.ref b] M Po) (hk : k + mc1 ≤ mc) (hn : n + ms1 ≤ ms) (h : ∀ v M1, Po v M1 → RN z 41 [l0, l1] (v.toList ++ []) M1 (k + mc1) (n + ms1)) : RN z 38 [l0, l1] [.ref b] M k n := R_callV X.1 (av := []) (nA := 0) wd_284 wd_281 wd_282 wd_283 wd_32 (by decide +kernel) rfl (Nat.le_of_ble_eq_true rfl) (Nat.le_of_ble_eq_true rfl) (Nat.le_of_ble_eq_true rfl) d_P_makeDurable_38 rfl (ci := 0) rfl hM hC (by rw [BM.rc1 X.2]; exact hk) (by rw [BM.rc2 X.2]; exact hn) h
theorem i_P_makeDurable_41 {z : zT} {ws0 : va_W} {mc ms : Nat} {Post : Option Value → mM → Prop} (X : B_P_makeDurable z ws0 mc ms Post) {x : Int32} {l0 : Option Value} {M : mM} {k n : Nat}  (h : RN z 44 [l0, some (.int (x + 1))] [] M k n) : RN z 41 [l0, some (.int x)] [] M k n := R_iinc X.1 d_P_makeDurable_41 rfl rfl h
theorem i_P_makeDurable_44 {z : zT} {ws0 : va_W} {mc ms : Nat} {Post : Option Value → mM → Prop} (X : B_P_makeDurable z ws0 mc ms Post) {l0 l1 : Option Value} {M : mM} {k n : Nat}  (h : RN z 26 [l0, l1] [] M k n) : RN z 44 [l0, l1] [] M k n := R_goto X.1 d_P_makeDurable_44 (by decide) h
theorem i_P_makeDurable_47 {z : zT} {ws0 : va_W} {mc ms : Nat} {Post : Option Value → mM → Prop} (X : B_P_makeDurable z ws0 mc ms Post) {l0 l1 : Option Value} {M : mM} {k n : Nat} (hk : k ≤ mc) (hn : n ≤ ms) (hp : Post none M) : RN z 47 [l0, l1] [] M k n := R_vret X.1 X.2 d_P_makeDurable_47 hk hn hp
theorem d_P_dropThinned_0 : decode c_P_dropThinned 0 = .ok (.iconst 0, 1) := by decide +kernel
theorem d_P_dropThinned_1 : decode c_P_dropThinned 1 = .ok (.istore_n 2, 1) := by decide +kernel
theorem d_P_dropThinned_2 : decode c_P_dropThinned 2 = .ok (.aload_n 1, 1) := by decide +kernel
theorem d_P_dropThinned_3 : decode c_P_dropThinned 3 = .ok (.astore_n 3, 1) := by decide +kernel
theorem d_P_dropThinned_4 : decode c_P_dropThinned 4 = .ok (.aload_n 1, 1) := by decide +kernel
theorem d_P_dropThinned_5 : decode c_P_dropThinned 5 = .ok (.getfield 153, 3) := by decide +kernel
theorem d_P_dropThinned_8 : decode c_P_dropThinned 8 = .ok (.astore 4, 2) := by decide +kernel
theorem d_P_dropThinned_10 : decode c_P_dropThinned 10 = .ok (.aload 4, 2) := by decide +kernel
theorem d_P_dropThinned_12 : decode c_P_dropThinned 12 = .ok (.ifnull 90, 3) := by decide +kernel
theorem d_P_dropThinned_15 : decode c_P_dropThinned 15 = .ok (.aload_n 3, 1) := by decide +kernel
theorem d_P_dropThinned_16 : decode c_P_dropThinned 16 = .ok (.getfield 150, 3) := by decide +kernel
theorem d_P_dropThinned_19 : decode c_P_dropThinned 19 = .ok (.aload_n 0, 1) := by decide +kernel
theorem d_P_dropThinned_20 : decode c_P_dropThinned 20 = .ok (.getfield 19, 3) := by decide +kernel
theorem d_P_dropThinned_23 : decode c_P_dropThinned 23 = .ok (.aload_n 0, 1) := by decide +kernel
theorem d_P_dropThinned_24 : decode c_P_dropThinned 24 = .ok (.getfield 45, 3) := by decide +kernel
theorem d_P_dropThinned_27 : decode c_P_dropThinned 27 = .ok (.isub, 1) := by decide +kernel
theorem d_P_dropThinned_28 : decode c_P_dropThinned 28 = .ok (.if_icmp .ge 7, 3) := by decide +kernel
theorem d_P_dropThinned_31 : decode c_P_dropThinned 31 = .ok (.iconst 1, 1) := by decide +kernel
theorem d_P_dropThinned_32 : decode c_P_dropThinned 32 = .ok (.goto 4, 3) := by decide +kernel
theorem d_P_dropThinned_35 : decode c_P_dropThinned 35 = .ok (.iconst 0, 1) := by decide +kernel
theorem d_P_dropThinned_36 : decode c_P_dropThinned 36 = .ok (.istore 5, 2) := by decide +kernel
theorem d_P_dropThinned_38 : decode c_P_dropThinned 38 = .ok (.aload_n 3, 1) := by decide +kernel
theorem d_P_dropThinned_39 : decode c_P_dropThinned 39 = .ok (.getfield 150, 3) := by decide +kernel
theorem d_P_dropThinned_42 : decode c_P_dropThinned 42 = .ok (.aload 4, 2) := by decide +kernel
theorem d_P_dropThinned_44 : decode c_P_dropThinned 44 = .ok (.getfield 150, 3) := by decide +kernel
theorem d_P_dropThinned_47 : decode c_P_dropThinned 47 = .ok (.isub, 1) := by decide +kernel
theorem d_P_dropThinned_48 : decode c_P_dropThinned 48 = .ok (.aload_n 0, 1) := by decide +kernel
theorem d_P_dropThinned_49 : decode c_P_dropThinned 49 = .ok (.getfield 48, 3) := by decide +kernel
theorem d_P_dropThinned_52 : decode c_P_dropThinned 52 = .ok (.if_icmp .gt 7, 3) := by decide +kernel
theorem d_P_dropThinned_55 : decode c_P_dropThinned 55 = .ok (.iconst 1, 1) := by decide +kernel
theorem d_P_dropThinned_56 : decode c_P_dropThinned 56 = .ok (.goto 4, 3) := by decide +kernel
theorem d_P_dropThinned_59 : decode c_P_dropThinned 59 = .ok (.iconst 0, 1) := by decide +kernel
theorem d_P_dropThinned_60 : decode c_P_dropThinned 60 = .ok (.istore 6, 2) := by decide +kernel
theorem d_P_dropThinned_62 : decode c_P_dropThinned 62 = .ok (.iload 5, 2) := by decide +kernel
theorem d_P_dropThinned_64 : decode c_P_dropThinned 64 = .ok (.ifCond .eq 25, 3) := by decide +kernel
theorem d_P_dropThinned_67 : decode c_P_dropThinned 67 = .ok (.iload 6, 2) := by decide +kernel
theorem d_P_dropThinned_69 : decode c_P_dropThinned 69 = .ok (.ifCond .eq 20, 3) := by decide +kernel
theorem d_P_dropThinned_72 : decode c_P_dropThinned 72 = .ok (.aload 4, 2) := by decide +kernel
theorem d_P_dropThinned_74 : decode c_P_dropThinned 74 = .ok (.getfield 120, 3) := by decide +kernel
theorem d_P_dropThinned_77 : decode c_P_dropThinned 77 = .ok (.ifCond .ne 12, 3) := by decide +kernel
theorem d_P_dropThinned_80 : decode c_P_dropThinned 80 = .ok (.aload 4, 2) := by decide +kernel
theorem d_P_dropThinned_82 : decode c_P_dropThinned 82 = .ok (.iconst 1, 1) := by decide +kernel
theorem d_P_dropThinned_83 : decode c_P_dropThinned 83 = .ok (.putfield 120, 3) := by decide +kernel
theorem d_P_dropThinned_86 : decode c_P_dropThinned 86 = .ok (.iinc 2 1, 3) := by decide +kernel
theorem d_P_dropThinned_89 : decode c_P_dropThinned 89 = .ok (.aload 4, 2) := by decide +kernel
theorem d_P_dropThinned_91 : decode c_P_dropThinned 91 = .ok (.astore_n 3, 1) := by decide +kernel
theorem d_P_dropThinned_92 : decode c_P_dropThinned 92 = .ok (.aload 4, 2) := by decide +kernel
theorem d_P_dropThinned_94 : decode c_P_dropThinned 94 = .ok (.getfield 153, 3) := by decide +kernel
theorem d_P_dropThinned_97 : decode c_P_dropThinned 97 = .ok (.astore 4, 2) := by decide +kernel
theorem d_P_dropThinned_99 : decode c_P_dropThinned 99 = .ok (.goto (-89), 3) := by decide +kernel
theorem d_P_dropThinned_102 : decode c_P_dropThinned 102 = .ok (.iload_n 2, 1) := by decide +kernel
theorem d_P_dropThinned_103 : decode c_P_dropThinned 103 = .ok (.ireturn, 1) := by decide +kernel
abbrev B_P_dropThinned (z : zT) (ws0 : va_W) (mc ms : Nat) (Post : Option Value → mM → Prop) : Prop := BX z c_P_dropThinned 7 y_P_dropThinned.cls y_P_dropThinned.name 0 0 ∧ BQ z (some (.int)) ws0 mc ms Post
abbrev Ct_P_dropThinned (l : Launch) (D : va_G) (tys : List (ClassId × FieldType)) (mc ms : Nat) (av : List Value) (M : mM) (Post : Option Value → mM → Prop) : Prop := Ct l D tys y_P_dropThinned w_P_dropThinned 0 0 mc ms av M Post
theorem i_P_dropThinned_0 {z : zT} {ws0 : va_W} {mc ms : Nat} {Post : Option Value → mM → Prop} (X : B_P_dropThinned z ws0 mc ms Post) {l0 l1 l2 l3 l4 l5 l6 : Option Value} {M : mM} {k n : Nat}  (h : RN z 1 [l0, l1, l2, l3, l4, l5, l6] [.int 0] M k n) : RN z 0 [l0, l1, l2, l3, l4, l5, l6] [] M k n := R_iconst X.1 d_P_dropThinned_0 (by decide) h
theorem i_P_dropThinned_1 {z : zT} {ws0 : va_W} {mc ms : Nat} {Post : Option Value → mM → Prop} (X : B_P_dropThinned z ws0 mc ms Post) {x : Int32} {l0 l1 l2 l3 l4 l5 l6 : Option Value} {M : mM} {k n : Nat}  (h : RN z 2 [l0, l1, some (.int x), l3, l4, l5, l6] [] M k n) : RN z 1 [l0, l1, l2, l3, l4, l5, l6] [.int x] M k n := R_istore_n X.1 d_P_dropThinned_1 rfl (Nat.le_of_ble_eq_true rfl) h
theorem i_P_dropThinned_2 {z : zT} {ws0 : va_W} {mc ms : Nat} {Post : Option Value → mM → Prop} (X : B_P_dropThinned z ws0 mc ms Post) {v : Value} {l0 l2 l3 l4 l5 l6 : Option Value} {M : mM} {k n : Nat} (hv : mRf v := by first | exact mRf_r _ | exact mRf_n | exact mRf_rf _ | assumption) (h : RN z 3 [l0, some v, l2, l3, l4, l5, l6] [v] M k n) : RN z 2 [l0, some v, l2, l3, l4, l5, l6] [] M k n := R_aload_n X.1 d_P_dropThinned_2 rfl rfl hv h
theorem i_P_dropThinned_3 {z : zT} {ws0 : va_W} {mc ms : Nat} {Post : Option Value → mM → Prop} (X : B_P_dropThinned z ws0 mc ms Post) {v : Value} {l0 l1 l2 l3 l4 l5 l6 : Option Value} {M : mM} {k n : Nat} (hv : mRf v := by first | exact mRf_r _ | exact mRf_n | exact mRf_rf _ | assumption) (h : RN z 4 [l0, l1, l2, some v, l4, l5, l6] [] M k n) : RN z 3 [l0, l1, l2, l3, l4, l5, l6] [v] M k n := R_astore_n X.1 d_P_dropThinned_3 rfl hv (Nat.le_of_ble_eq_true rfl) h
theorem i_P_dropThinned_4 {z : zT} {ws0 : va_W} {mc ms : Nat} {Post : Option Value → mM → Prop} (X : B_P_dropThinned z ws0 mc ms Post) {v : Value} {l0 l2 l3 l4 l5 l6 : Option Value} {M : mM} {k n : Nat} (hv : mRf v := by first | exact mRf_r _ | exact mRf_n | exact mRf_rf _ | assumption) (h : RN z 5 [l0, some v, l2, l3, l4, l5, l6] [v] M k n) : RN z 4 [l0, some v, l2, l3, l4, l5, l6] [] M k n := R_aload_n X.1 d_P_dropThinned_4 rfl rfl hv h
theorem i_P_dropThinned_5 {z : zT} {ws0 : va_W} {mc ms : Nat} {Post : Option Value → mM → Prop} (X : B_P_dropThinned z ws0 mc ms Post) {a : Nat} {f0 f1 f2 f3 f4 : Value} {l0 l1 l2 l3 l4 l5 l6 : Option Value} {M : mM} {k n : Nat} (hM : M a = some (.inr (2, [f0, f1, f2, f3, f4]))) (h : RN z 8 [l0, l1, l2, l3, l4, l5, l6] [f3] M k n) : RN z 5 [l0, l1, l2, l3, l4, l5, l6] [.ref a] M k n := R_get X.1 inX2 rfl 3 (Nat.le_of_ble_eq_true rfl) wd_165 d_P_dropThinned_5 hM rfl h
theorem i_P_dropThinned_8 {z : zT} {ws0 : va_W} {mc ms : Nat} {Post : Option Value → mM → Prop} (X : B_P_dropThinned z ws0 mc ms Post) {v : Value} {l0 l1 l2 l3 l4 l5 l6 : Option Value} {M : mM} {k n : Nat} (hv : mRf v := by first | exact mRf_r _ | exact mRf_n | exact mRf_rf _ | assumption) (h : RN z 10 [l0, l1, l2, l3, some v, l5, l6] [] M k n) : RN z 8 [l0, l1, l2, l3, l4, l5, l6] [v] M k n := R_astore X.1 d_P_dropThinned_8 hv (Nat.le_of_ble_eq_true rfl) h
theorem i_P_dropThinned_10 {z : zT} {ws0 : va_W} {mc ms : Nat} {Post : Option Value → mM → Prop} (X : B_P_dropThinned z ws0 mc ms Post) {v : Value} {l0 l1 l2 l3 l5 l6 : Option Value} {M : mM} {k n : Nat} (hv : mRf v := by first | exact mRf_r _ | exact mRf_n | exact mRf_rf _ | assumption) (h : RN z 12 [l0, l1, l2, l3, some v, l5, l6] [v] M k n) : RN z 10 [l0, l1, l2, l3, some v, l5, l6] [] M k n := R_aload X.1 d_P_dropThinned_10 rfl hv h
theorem i_P_dropThinned_12 {z : zT} {ws0 : va_W} {mc ms : Nat} {Post : Option Value → mM → Prop} (X : B_P_dropThinned z ws0 mc ms Post) {v : Value} {l0 l1 l2 l3 l4 l5 l6 : Option Value} {M : mM} {k n : Nat} (hv : mRf v := by first | exact mRf_r _ | exact mRf_n | exact mRf_rf _ | assumption) (h1 : v = .null → RN z 102 [l0, l1, l2, l3, l4, l5, l6] [] M k n) (h2 : ∀ a, v = .ref a → RN z 15 [l0, l1, l2, l3, l4, l5, l6] [] M k n) : RN z 12 [l0, l1, l2, l3, l4, l5, l6] [v] M k n := R_ifnull X.1 d_P_dropThinned_12 (by decide) hv h1 h2
theorem i_P_dropThinned_15 {z : zT} {ws0 : va_W} {mc ms : Nat} {Post : Option Value → mM → Prop} (X : B_P_dropThinned z ws0 mc ms Post) {v : Value} {l0 l1 l2 l4 l5 l6 : Option Value} {M : mM} {k n : Nat} (hv : mRf v := by first | exact mRf_r _ | exact mRf_n | exact mRf_rf _ | assumption) (h : RN z 16 [l0, l1, l2, some v, l4, l5, l6] [v] M k n) : RN z 15 [l0, l1, l2, some v, l4, l5, l6] [] M k n := R_aload_n X.1 d_P_dropThinned_15 rfl rfl hv h
theorem i_P_dropThinned_16 {z : zT} {ws0 : va_W} {mc ms : Nat} {Post : Option Value → mM → Prop} (X : B_P_dropThinned z ws0 mc ms Post) {a : Nat} {f0 f1 f2 f3 f4 : Value} {l0 l1 l2 l3 l4 l5 l6 : Option Value} {M : mM} {k n : Nat} (hM : M a = some (.inr (2, [f0, f1, f2, f3, f4]))) (h : RN z 19 [l0, l1, l2, l3, l4, l5, l6] [f0] M k n) : RN z 16 [l0, l1, l2, l3, l4, l5, l6] [.ref a] M k n := R_get X.1 inX2 rfl 0 (Nat.le_of_ble_eq_true rfl) wd_159 d_P_dropThinned_16 hM rfl h
theorem i_P_dropThinned_19 {z : zT} {ws0 : va_W} {mc ms : Nat} {Post : Option Value → mM → Prop} (X : B_P_dropThinned z ws0 mc ms Post) {v : Value} {l1 l2 l3 l4 l5 l6 : Option Value} {s0 : Value} {M : mM} {k n : Nat} (hv : mRf v := by first | exact mRf_r _ | exact mRf_n | exact mRf_rf _ | assumption) (h : RN z 20 [some v, l1, l2, l3, l4, l5, l6] [v, s0] M k n) : RN z 19 [some v, l1, l2, l3, l4, l5, l6] [s0] M k n := R_aload_n X.1 d_P_dropThinned_19 rfl rfl hv h
theorem i_P_dropThinned_20 {z : zT} {ws0 : va_W} {mc ms : Nat} {Post : Option Value → mM → Prop} (X : B_P_dropThinned z ws0 mc ms Post) {a : Nat} {f0 f1 f2 f3 f4 f5 f6 f7 f8 f9 f10 : Value} {l0 l1 l2 l3 l4 l5 l6 : Option Value} {s0 : Value} {M : mM} {k n : Nat} (hM : M a = some (.inr (3, [f0, f1, f2, f3, f4, f5, f6, f7, f8, f9, f10]))) (h : RN z 23 [l0, l1, l2, l3, l4, l5, l6] [f4, s0] M k n) : RN z 20 [l0, l1, l2, l3, l4, l5, l6] [.ref a, s0] M k n := R_get X.1 inX3 rfl 4 (Nat.le_of_ble_eq_true rfl) wd_80 d_P_dropThinned_20 hM rfl h
theorem i_P_dropThinned_23 {z : zT} {ws0 : va_W} {mc ms : Nat} {Post : Option Value → mM → Prop} (X : B_P_dropThinned z ws0 mc ms Post) {v : Value} {l1 l2 l3 l4 l5 l6 : Option Value} {s0 s1 : Value} {M : mM} {k n : Nat} (hv : mRf v := by first | exact mRf_r _ | exact mRf_n | exact mRf_rf _ | assumption) (h : RN z 24 [some v, l1, l2, l3, l4, l5, l6] [v, s0, s1] M k n) : RN z 23 [some v, l1, l2, l3, l4, l5, l6] [s0, s1] M k n := R_aload_n X.1 d_P_dropThinned_23 rfl rfl hv h
theorem i_P_dropThinned_24 {z : zT} {ws0 : va_W} {mc ms : Nat} {Post : Option Value → mM → Prop} (X : B_P_dropThinned z ws0 mc ms Post) {a : Nat} {f0 f1 f2 f3 f4 f5 f6 f7 f8 f9 f10 : Value} {l0 l1 l2 l3 l4 l5 l6 : Option Value} {s0 s1 : Value} {M : mM} {k n : Nat} (hM : M a = some (.inr (3, [f0, f1, f2, f3, f4, f5, f6, f7, f8, f9, f10]))) (h : RN z 27 [l0, l1, l2, l3, l4, l5, l6] [f0, s0, s1] M k n) : RN z 24 [l0, l1, l2, l3, l4, l5, l6] [.ref a, s0, s1] M k n := R_get X.1 inX3 rfl 0 (Nat.le_of_ble_eq_true rfl) wd_76 d_P_dropThinned_24 hM rfl h
theorem i_P_dropThinned_27 {z : zT} {ws0 : va_W} {mc ms : Nat} {Post : Option Value → mM → Prop} (X : B_P_dropThinned z ws0 mc ms Post) {x y : Int32} {l0 l1 l2 l3 l4 l5 l6 : Option Value} {s0 : Value} {M : mM} {k n : Nat}  (h : RN z 28 [l0, l1, l2, l3, l4, l5, l6] [.int (x - y), s0] M k n) : RN z 27 [l0, l1, l2, l3, l4, l5, l6] [.int y, .int x, s0] M k n := R_isub X.1 d_P_dropThinned_27 h
theorem i_P_dropThinned_28 {z : zT} {ws0 : va_W} {mc ms : Nat} {Post : Option Value → mM → Prop} (X : B_P_dropThinned z ws0 mc ms Post) {x y : Int32} {l0 l1 l2 l3 l4 l5 l6 : Option Value} {M : mM} {k n : Nat}  (h1 : y ≤ x → RN z 35 [l0, l1, l2, l3, l4, l5, l6] [] M k n) (h2 : ¬ (y ≤ x) → RN z 31 [l0, l1, l2, l3, l4, l5, l6] [] M k n) : RN z 28 [l0, l1, l2, l3, l4, l5, l6] [.int y, .int x] M k n := R_icmp_ge X.1 d_P_dropThinned_28 (by decide) h1 h2
theorem i_P_dropThinned_31 {z : zT} {ws0 : va_W} {mc ms : Nat} {Post : Option Value → mM → Prop} (X : B_P_dropThinned z ws0 mc ms Post) {l0 l1 l2 l3 l4 l5 l6 : Option Value} {M : mM} {k n : Nat}  (h : RN z 32 [l0, l1, l2, l3, l4, l5, l6] [.int 1] M k n) : RN z 31 [l0, l1, l2, l3, l4, l5, l6] [] M k n := R_iconst X.1 d_P_dropThinned_31 (by decide) h
theorem i_P_dropThinned_32 {z : zT} {ws0 : va_W} {mc ms : Nat} {Post : Option Value → mM → Prop} (X : B_P_dropThinned z ws0 mc ms Post) {l0 l1 l2 l3 l4 l5 l6 : Option Value} {s0 : Value} {M : mM} {k n : Nat}  (h : RN z 36 [l0, l1, l2, l3, l4, l5, l6] [s0] M k n) : RN z 32 [l0, l1, l2, l3, l4, l5, l6] [s0] M k n := R_goto X.1 d_P_dropThinned_32 (by decide) h
theorem i_P_dropThinned_35 {z : zT} {ws0 : va_W} {mc ms : Nat} {Post : Option Value → mM → Prop} (X : B_P_dropThinned z ws0 mc ms Post) {l0 l1 l2 l3 l4 l5 l6 : Option Value} {M : mM} {k n : Nat}  (h : RN z 36 [l0, l1, l2, l3, l4, l5, l6] [.int 0] M k n) : RN z 35 [l0, l1, l2, l3, l4, l5, l6] [] M k n := R_iconst X.1 d_P_dropThinned_35 (by decide) h
theorem i_P_dropThinned_36 {z : zT} {ws0 : va_W} {mc ms : Nat} {Post : Option Value → mM → Prop} (X : B_P_dropThinned z ws0 mc ms Post) {x : Int32} {l0 l1 l2 l3 l4 l5 l6 : Option Value} {M : mM} {k n : Nat}  (h : RN z 38 [l0, l1, l2, l3, l4, some (.int x), l6] [] M k n) : RN z 36 [l0, l1, l2, l3, l4, l5, l6] [.int x] M k n := R_istore X.1 d_P_dropThinned_36 (Nat.le_of_ble_eq_true rfl) h
theorem i_P_dropThinned_38 {z : zT} {ws0 : va_W} {mc ms : Nat} {Post : Option Value → mM → Prop} (X : B_P_dropThinned z ws0 mc ms Post) {v : Value} {l0 l1 l2 l4 l5 l6 : Option Value} {M : mM} {k n : Nat} (hv : mRf v := by first | exact mRf_r _ | exact mRf_n | exact mRf_rf _ | assumption) (h : RN z 39 [l0, l1, l2, some v, l4, l5, l6] [v] M k n) : RN z 38 [l0, l1, l2, some v, l4, l5, l6] [] M k n := R_aload_n X.1 d_P_dropThinned_38 rfl rfl hv h
theorem i_P_dropThinned_39 {z : zT} {ws0 : va_W} {mc ms : Nat} {Post : Option Value → mM → Prop} (X : B_P_dropThinned z ws0 mc ms Post) {a : Nat} {f0 f1 f2 f3 f4 : Value} {l0 l1 l2 l3 l4 l5 l6 : Option Value} {M : mM} {k n : Nat} (hM : M a = some (.inr (2, [f0, f1, f2, f3, f4]))) (h : RN z 42 [l0, l1, l2, l3, l4, l5, l6] [f0] M k n) : RN z 39 [l0, l1, l2, l3, l4, l5, l6] [.ref a] M k n := R_get X.1 inX2 rfl 0 (Nat.le_of_ble_eq_true rfl) wd_159 d_P_dropThinned_39 hM rfl h
theorem i_P_dropThinned_42 {z : zT} {ws0 : va_W} {mc ms : Nat} {Post : Option Value → mM → Prop} (X : B_P_dropThinned z ws0 mc ms Post) {v : Value} {l0 l1 l2 l3 l5 l6 : Option Value} {s0 : Value} {M : mM} {k n : Nat} (hv : mRf v := by first | exact mRf_r _ | exact mRf_n | exact mRf_rf _ | assumption) (h : RN z 44 [l0, l1, l2, l3, some v, l5, l6] [v, s0] M k n) : RN z 42 [l0, l1, l2, l3, some v, l5, l6] [s0] M k n := R_aload X.1 d_P_dropThinned_42 rfl hv h
theorem i_P_dropThinned_44 {z : zT} {ws0 : va_W} {mc ms : Nat} {Post : Option Value → mM → Prop} (X : B_P_dropThinned z ws0 mc ms Post) {a : Nat} {f0 f1 f2 f3 f4 : Value} {l0 l1 l2 l3 l4 l5 l6 : Option Value} {s0 : Value} {M : mM} {k n : Nat} (hM : M a = some (.inr (2, [f0, f1, f2, f3, f4]))) (h : RN z 47 [l0, l1, l2, l3, l4, l5, l6] [f0, s0] M k n) : RN z 44 [l0, l1, l2, l3, l4, l5, l6] [.ref a, s0] M k n := R_get X.1 inX2 rfl 0 (Nat.le_of_ble_eq_true rfl) wd_159 d_P_dropThinned_44 hM rfl h
theorem i_P_dropThinned_47 {z : zT} {ws0 : va_W} {mc ms : Nat} {Post : Option Value → mM → Prop} (X : B_P_dropThinned z ws0 mc ms Post) {x y : Int32} {l0 l1 l2 l3 l4 l5 l6 : Option Value} {M : mM} {k n : Nat}  (h : RN z 48 [l0, l1, l2, l3, l4, l5, l6] [.int (x - y)] M k n) : RN z 47 [l0, l1, l2, l3, l4, l5, l6] [.int y, .int x] M k n := R_isub X.1 d_P_dropThinned_47 h
theorem i_P_dropThinned_48 {z : zT} {ws0 : va_W} {mc ms : Nat} {Post : Option Value → mM → Prop} (X : B_P_dropThinned z ws0 mc ms Post) {v : Value} {l1 l2 l3 l4 l5 l6 : Option Value} {s0 : Value} {M : mM} {k n : Nat} (hv : mRf v := by first | exact mRf_r _ | exact mRf_n | exact mRf_rf _ | assumption) (h : RN z 49 [some v, l1, l2, l3, l4, l5, l6] [v, s0] M k n) : RN z 48 [some v, l1, l2, l3, l4, l5, l6] [s0] M k n := R_aload_n X.1 d_P_dropThinned_48 rfl rfl hv h
theorem i_P_dropThinned_49 {z : zT} {ws0 : va_W} {mc ms : Nat} {Post : Option Value → mM → Prop} (X : B_P_dropThinned z ws0 mc ms Post) {a : Nat} {f0 f1 f2 f3 f4 f5 f6 f7 f8 f9 f10 : Value} {l0 l1 l2 l3 l4 l5 l6 : Option Value} {s0 : Value} {M : mM} {k n : Nat} (hM : M a = some (.inr (3, [f0, f1, f2, f3, f4, f5, f6, f7, f8, f9, f10]))) (h : RN z 52 [l0, l1, l2, l3, l4, l5, l6] [f1, s0] M k n) : RN z 49 [l0, l1, l2, l3, l4, l5, l6] [.ref a, s0] M k n := R_get X.1 inX3 rfl 1 (Nat.le_of_ble_eq_true rfl) wd_77 d_P_dropThinned_49 hM rfl h
theorem i_P_dropThinned_52 {z : zT} {ws0 : va_W} {mc ms : Nat} {Post : Option Value → mM → Prop} (X : B_P_dropThinned z ws0 mc ms Post) {x y : Int32} {l0 l1 l2 l3 l4 l5 l6 : Option Value} {M : mM} {k n : Nat}  (h1 : y < x → RN z 59 [l0, l1, l2, l3, l4, l5, l6] [] M k n) (h2 : ¬ (y < x) → RN z 55 [l0, l1, l2, l3, l4, l5, l6] [] M k n) : RN z 52 [l0, l1, l2, l3, l4, l5, l6] [.int y, .int x] M k n := R_icmp_gt X.1 d_P_dropThinned_52 (by decide) h1 h2
theorem i_P_dropThinned_55 {z : zT} {ws0 : va_W} {mc ms : Nat} {Post : Option Value → mM → Prop} (X : B_P_dropThinned z ws0 mc ms Post) {l0 l1 l2 l3 l4 l5 l6 : Option Value} {M : mM} {k n : Nat}  (h : RN z 56 [l0, l1, l2, l3, l4, l5, l6] [.int 1] M k n) : RN z 55 [l0, l1, l2, l3, l4, l5, l6] [] M k n := R_iconst X.1 d_P_dropThinned_55 (by decide) h
theorem i_P_dropThinned_56 {z : zT} {ws0 : va_W} {mc ms : Nat} {Post : Option Value → mM → Prop} (X : B_P_dropThinned z ws0 mc ms Post) {l0 l1 l2 l3 l4 l5 l6 : Option Value} {s0 : Value} {M : mM} {k n : Nat}  (h : RN z 60 [l0, l1, l2, l3, l4, l5, l6] [s0] M k n) : RN z 56 [l0, l1, l2, l3, l4, l5, l6] [s0] M k n := R_goto X.1 d_P_dropThinned_56 (by decide) h
theorem i_P_dropThinned_59 {z : zT} {ws0 : va_W} {mc ms : Nat} {Post : Option Value → mM → Prop} (X : B_P_dropThinned z ws0 mc ms Post) {l0 l1 l2 l3 l4 l5 l6 : Option Value} {M : mM} {k n : Nat}  (h : RN z 60 [l0, l1, l2, l3, l4, l5, l6] [.int 0] M k n) : RN z 59 [l0, l1, l2, l3, l4, l5, l6] [] M k n := R_iconst X.1 d_P_dropThinned_59 (by decide) h
theorem i_P_dropThinned_60 {z : zT} {ws0 : va_W} {mc ms : Nat} {Post : Option Value → mM → Prop} (X : B_P_dropThinned z ws0 mc ms Post) {x : Int32} {l0 l1 l2 l3 l4 l5 l6 : Option Value} {M : mM} {k n : Nat}  (h : RN z 62 [l0, l1, l2, l3, l4, l5, some (.int x)] [] M k n) : RN z 60 [l0, l1, l2, l3, l4, l5, l6] [.int x] M k n := R_istore X.1 d_P_dropThinned_60 (Nat.le_of_ble_eq_true rfl) h
theorem i_P_dropThinned_62 {z : zT} {ws0 : va_W} {mc ms : Nat} {Post : Option Value → mM → Prop} (X : B_P_dropThinned z ws0 mc ms Post) {x : Int32} {l0 l1 l2 l3 l4 l6 : Option Value} {M : mM} {k n : Nat}  (h : RN z 64 [l0, l1, l2, l3, l4, some (.int x), l6] [.int x] M k n) : RN z 62 [l0, l1, l2, l3, l4, some (.int x), l6] [] M k n := R_iload X.1 d_P_dropThinned_62 rfl h
theorem i_P_dropThinned_64 {z : zT} {ws0 : va_W} {mc ms : Nat} {Post : Option Value → mM → Prop} (X : B_P_dropThinned z ws0 mc ms Post) {x : Int32} {l0 l1 l2 l3 l4 l5 l6 : Option Value} {M : mM} {k n : Nat}  (h1 : x = 0 → RN z 89 [l0, l1, l2, l3, l4, l5, l6] [] M k n) (h2 : ¬ (x = 0) → RN z 67 [l0, l1, l2, l3, l4, l5, l6] [] M k n) : RN z 64 [l0, l1, l2, l3, l4, l5, l6] [.int x] M k n := R_if_eq X.1 d_P_dropThinned_64 (by decide) h1 h2
theorem i_P_dropThinned_67 {z : zT} {ws0 : va_W} {mc ms : Nat} {Post : Option Value → mM → Prop} (X : B_P_dropThinned z ws0 mc ms Post) {x : Int32} {l0 l1 l2 l3 l4 l5 : Option Value} {M : mM} {k n : Nat}  (h : RN z 69 [l0, l1, l2, l3, l4, l5, some (.int x)] [.int x] M k n) : RN z 67 [l0, l1, l2, l3, l4, l5, some (.int x)] [] M k n := R_iload X.1 d_P_dropThinned_67 rfl h
theorem i_P_dropThinned_69 {z : zT} {ws0 : va_W} {mc ms : Nat} {Post : Option Value → mM → Prop} (X : B_P_dropThinned z ws0 mc ms Post) {x : Int32} {l0 l1 l2 l3 l4 l5 l6 : Option Value} {M : mM} {k n : Nat}  (h1 : x = 0 → RN z 89 [l0, l1, l2, l3, l4, l5, l6] [] M k n) (h2 : ¬ (x = 0) → RN z 72 [l0, l1, l2, l3, l4, l5, l6] [] M k n) : RN z 69 [l0, l1, l2, l3, l4, l5, l6] [.int x] M k n := R_if_eq X.1 d_P_dropThinned_69 (by decide) h1 h2
theorem i_P_dropThinned_72 {z : zT} {ws0 : va_W} {mc ms : Nat} {Post : Option Value → mM → Prop} (X : B_P_dropThinned z ws0 mc ms Post) {v : Value} {l0 l1 l2 l3 l5 l6 : Option Value} {M : mM} {k n : Nat} (hv : mRf v := by first | exact mRf_r _ | exact mRf_n | exact mRf_rf _ | assumption) (h : RN z 74 [l0, l1, l2, l3, some v, l5, l6] [v] M k n) : RN z 72 [l0, l1, l2, l3, some v, l5, l6] [] M k n := R_aload X.1 d_P_dropThinned_72 rfl hv h
theorem i_P_dropThinned_74 {z : zT} {ws0 : va_W} {mc ms : Nat} {Post : Option Value → mM → Prop} (X : B_P_dropThinned z ws0 mc ms Post) {a : Nat} {f0 f1 f2 f3 f4 : Value} {l0 l1 l2 l3 l4 l5 l6 : Option Value} {M : mM} {k n : Nat} (hM : M a = some (.inr (2, [f0, f1, f2, f3, f4]))) (h : RN z 77 [l0, l1, l2, l3, l4, l5, l6] [f4] M k n) : RN z 74 [l0, l1, l2, l3, l4, l5, l6] [.ref a] M k n := R_get X.1 inX2 rfl 4 (Nat.le_of_ble_eq_true rfl) wd_167 d_P_dropThinned_74 hM rfl h
theorem i_P_dropThinned_77 {z : zT} {ws0 : va_W} {mc ms : Nat} {Post : Option Value → mM → Prop} (X : B_P_dropThinned z ws0 mc ms Post) {x : Int32} {l0 l1 l2 l3 l4 l5 l6 : Option Value} {M : mM} {k n : Nat}  (h1 : ¬ x = 0 → RN z 89 [l0, l1, l2, l3, l4, l5, l6] [] M k n) (h2 : x = 0 → RN z 80 [l0, l1, l2, l3, l4, l5, l6] [] M k n) : RN z 77 [l0, l1, l2, l3, l4, l5, l6] [.int x] M k n := R_if_ne X.1 d_P_dropThinned_77 (by decide) h1 h2
theorem i_P_dropThinned_80 {z : zT} {ws0 : va_W} {mc ms : Nat} {Post : Option Value → mM → Prop} (X : B_P_dropThinned z ws0 mc ms Post) {v : Value} {l0 l1 l2 l3 l5 l6 : Option Value} {M : mM} {k n : Nat} (hv : mRf v := by first | exact mRf_r _ | exact mRf_n | exact mRf_rf _ | assumption) (h : RN z 82 [l0, l1, l2, l3, some v, l5, l6] [v] M k n) : RN z 80 [l0, l1, l2, l3, some v, l5, l6] [] M k n := R_aload X.1 d_P_dropThinned_80 rfl hv h
theorem i_P_dropThinned_82 {z : zT} {ws0 : va_W} {mc ms : Nat} {Post : Option Value → mM → Prop} (X : B_P_dropThinned z ws0 mc ms Post) {l0 l1 l2 l3 l4 l5 l6 : Option Value} {s0 : Value} {M : mM} {k n : Nat}  (h : RN z 83 [l0, l1, l2, l3, l4, l5, l6] [.int 1, s0] M k n) : RN z 82 [l0, l1, l2, l3, l4, l5, l6] [s0] M k n := R_iconst X.1 d_P_dropThinned_82 (by decide) h
theorem i_P_dropThinned_83 {z : zT} {ws0 : va_W} {mc ms : Nat} {Post : Option Value → mM → Prop} (X : B_P_dropThinned z ws0 mc ms Post) {a : Nat} {f0 f1 f2 f3 f4 : Value} {x : Int32} {l0 l1 l2 l3 l4 l5 l6 : Option Value} {M : mM} {k n : Nat} (hx : x = 0 ∨ x = 1) (hM : M a = some (.inr (2, [f0, f1, f2, f3, f4]))) (h : RN z 86 [l0, l1, l2, l3, l4, l5, l6] [] (mS M a (.inr (2, [f0, f1, f2, f3, .int x]))) k n) : RN z 83 [l0, l1, l2, l3, l4, l5, l6] [.int x, .ref a] M k n := R_put X.1 inX2 rfl 4 (Nat.le_of_ble_eq_true rfl) tyX2 tyX2_ok nmX2 wd_167 rfl (by decide +kernel : parseFieldDescriptor (TX2 4).2.2.1 = some (.boolean)) (by rcases hx with rfl | rfl <;> rfl) (by rcases hx with rfl | rfl <;> rfl) d_P_dropThinned_83 hM (Nat.le_of_ble_eq_true rfl) h
theorem i_P_dropThinned_86 {z : zT} {ws0 : va_W} {mc ms : Nat} {Post : Option Value → mM → Prop} (X : B_P_dropThinned z ws0 mc ms Post) {x : Int32} {l0 l1 l3 l4 l5 l6 : Option Value} {M : mM} {k n : Nat}  (h : RN z 89 [l0, l1, some (.int (x + 1)), l3, l4, l5, l6] [] M k n) : RN z 86 [l0, l1, some (.int x), l3, l4, l5, l6] [] M k n := R_iinc X.1 d_P_dropThinned_86 rfl rfl h
theorem i_P_dropThinned_89 {z : zT} {ws0 : va_W} {mc ms : Nat} {Post : Option Value → mM → Prop} (X : B_P_dropThinned z ws0 mc ms Post) {v : Value} {l0 l1 l2 l3 l5 l6 : Option Value} {M : mM} {k n : Nat} (hv : mRf v := by first | exact mRf_r _ | exact mRf_n | exact mRf_rf _ | assumption) (h : RN z 91 [l0, l1, l2, l3, some v, l5, l6] [v] M k n) : RN z 89 [l0, l1, l2, l3, some v, l5, l6] [] M k n := R_aload X.1 d_P_dropThinned_89 rfl hv h
theorem i_P_dropThinned_91 {z : zT} {ws0 : va_W} {mc ms : Nat} {Post : Option Value → mM → Prop} (X : B_P_dropThinned z ws0 mc ms Post) {v : Value} {l0 l1 l2 l3 l4 l5 l6 : Option Value} {M : mM} {k n : Nat} (hv : mRf v := by first | exact mRf_r _ | exact mRf_n | exact mRf_rf _ | assumption) (h : RN z 92 [l0, l1, l2, some v, l4, l5, l6] [] M k n) : RN z 91 [l0, l1, l2, l3, l4, l5, l6] [v] M k n := R_astore_n X.1 d_P_dropThinned_91 rfl hv (Nat.le_of_ble_eq_true rfl) h
theorem i_P_dropThinned_92 {z : zT} {ws0 : va_W} {mc ms : Nat} {Post : Option Value → mM → Prop} (X : B_P_dropThinned z ws0 mc ms Post) {v : Value} {l0 l1 l2 l3 l5 l6 : Option Value} {M : mM} {k n : Nat} (hv : mRf v := by first | exact mRf_r _ | exact mRf_n | exact mRf_rf _ | assumption) (h : RN z 94 [l0, l1, l2, l3, some v, l5, l6] [v] M k n) : RN z 92 [l0, l1, l2, l3, some v, l5, l6] [] M k n := R_aload X.1 d_P_dropThinned_92 rfl hv h
theorem i_P_dropThinned_94 {z : zT} {ws0 : va_W} {mc ms : Nat} {Post : Option Value → mM → Prop} (X : B_P_dropThinned z ws0 mc ms Post) {a : Nat} {f0 f1 f2 f3 f4 : Value} {l0 l1 l2 l3 l4 l5 l6 : Option Value} {M : mM} {k n : Nat} (hM : M a = some (.inr (2, [f0, f1, f2, f3, f4]))) (h : RN z 97 [l0, l1, l2, l3, l4, l5, l6] [f3] M k n) : RN z 94 [l0, l1, l2, l3, l4, l5, l6] [.ref a] M k n := R_get X.1 inX2 rfl 3 (Nat.le_of_ble_eq_true rfl) wd_165 d_P_dropThinned_94 hM rfl h
theorem i_P_dropThinned_97 {z : zT} {ws0 : va_W} {mc ms : Nat} {Post : Option Value → mM → Prop} (X : B_P_dropThinned z ws0 mc ms Post) {v : Value} {l0 l1 l2 l3 l4 l5 l6 : Option Value} {M : mM} {k n : Nat} (hv : mRf v := by first | exact mRf_r _ | exact mRf_n | exact mRf_rf _ | assumption) (h : RN z 99 [l0, l1, l2, l3, some v, l5, l6] [] M k n) : RN z 97 [l0, l1, l2, l3, l4, l5, l6] [v] M k n := R_astore X.1 d_P_dropThinned_97 hv (Nat.le_of_ble_eq_true rfl) h
theorem i_P_dropThinned_99 {z : zT} {ws0 : va_W} {mc ms : Nat} {Post : Option Value → mM → Prop} (X : B_P_dropThinned z ws0 mc ms Post) {l0 l1 l2 l3 l4 l5 l6 : Option Value} {M : mM} {k n : Nat}  (h : RN z 10 [l0, l1, l2, l3, l4, l5, l6] [] M k n) : RN z 99 [l0, l1, l2, l3, l4, l5, l6] [] M k n := R_goto X.1 d_P_dropThinned_99 (by decide) h
theorem i_P_dropThinned_102 {z : zT} {ws0 : va_W} {mc ms : Nat} {Post : Option Value → mM → Prop} (X : B_P_dropThinned z ws0 mc ms Post) {x : Int32} {l0 l1 l3 l4 l5 l6 : Option Value} {M : mM} {k n : Nat}  (h : RN z 103 [l0, l1, some (.int x), l3, l4, l5, l6] [.int x] M k n) : RN z 102 [l0, l1, some (.int x), l3, l4, l5, l6] [] M k n := R_iload_n X.1 d_P_dropThinned_102 rfl rfl h
theorem i_P_dropThinned_103 {z : zT} {ws0 : va_W} {mc ms : Nat} {Post : Option Value → mM → Prop} (X : B_P_dropThinned z ws0 mc ms Post) {x : Int32} {l0 l1 l2 l3 l4 l5 l6 : Option Value} {M : mM} {k n : Nat} (hk : k ≤ mc) (hn : n ≤ ms) (hp : Post (some (.int x)) M) : RN z 103 [l0, l1, l2, l3, l4, l5, l6] [.int x] M k n := R_iret X.1 X.2 d_P_dropThinned_103 hk hn hp
theorem d_P_versionAsOf_0 : decode c_P_versionAsOf 0 = .ok (.aload_n 0, 1) := by decide +kernel
theorem d_P_versionAsOf_1 : decode c_P_versionAsOf 1 = .ok (.astore_n 2, 1) := by decide +kernel
theorem d_P_versionAsOf_2 : decode c_P_versionAsOf 2 = .ok (.aload_n 2, 1) := by decide +kernel
theorem d_P_versionAsOf_3 : decode c_P_versionAsOf 3 = .ok (.ifnull 19, 3) := by decide +kernel
theorem d_P_versionAsOf_6 : decode c_P_versionAsOf 6 = .ok (.aload_n 2, 1) := by decide +kernel
theorem d_P_versionAsOf_7 : decode c_P_versionAsOf 7 = .ok (.getfield 150, 3) := by decide +kernel
theorem d_P_versionAsOf_10 : decode c_P_versionAsOf 10 = .ok (.iload_n 1, 1) := by decide +kernel
theorem d_P_versionAsOf_11 : decode c_P_versionAsOf 11 = .ok (.if_icmp .le 11, 3) := by decide +kernel
theorem d_P_versionAsOf_14 : decode c_P_versionAsOf 14 = .ok (.aload_n 2, 1) := by decide +kernel
theorem d_P_versionAsOf_15 : decode c_P_versionAsOf 15 = .ok (.getfield 153, 3) := by decide +kernel
theorem d_P_versionAsOf_18 : decode c_P_versionAsOf 18 = .ok (.astore_n 2, 1) := by decide +kernel
theorem d_P_versionAsOf_19 : decode c_P_versionAsOf 19 = .ok (.goto (-17), 3) := by decide +kernel
theorem d_P_versionAsOf_22 : decode c_P_versionAsOf 22 = .ok (.aload_n 2, 1) := by decide +kernel
theorem d_P_versionAsOf_23 : decode c_P_versionAsOf 23 = .ok (.areturn, 1) := by decide +kernel
abbrev B_P_versionAsOf (z : zT) (ws0 : va_W) (mc ms : Nat) (Post : Option Value → mM → Prop) : Prop := BX z c_P_versionAsOf 3 y_P_versionAsOf.cls y_P_versionAsOf.name 0 0 ∧ BQ z (some (.object "PastTree$Version")) ws0 mc ms Post
abbrev Ct_P_versionAsOf (l : Launch) (D : va_G) (tys : List (ClassId × FieldType)) (mc ms : Nat) (av : List Value) (M : mM) (Post : Option Value → mM → Prop) : Prop := Ct l D tys y_P_versionAsOf w_P_versionAsOf 0 0 mc ms av M Post
theorem i_P_versionAsOf_0 {z : zT} {ws0 : va_W} {mc ms : Nat} {Post : Option Value → mM → Prop} (X : B_P_versionAsOf z ws0 mc ms Post) {v : Value} {l1 l2 : Option Value} {M : mM} {k n : Nat} (hv : mRf v := by first | exact mRf_r _ | exact mRf_n | exact mRf_rf _ | assumption) (h : RN z 1 [some v, l1, l2] [v] M k n) : RN z 0 [some v, l1, l2] [] M k n := R_aload_n X.1 d_P_versionAsOf_0 rfl rfl hv h
theorem i_P_versionAsOf_1 {z : zT} {ws0 : va_W} {mc ms : Nat} {Post : Option Value → mM → Prop} (X : B_P_versionAsOf z ws0 mc ms Post) {v : Value} {l0 l1 l2 : Option Value} {M : mM} {k n : Nat} (hv : mRf v := by first | exact mRf_r _ | exact mRf_n | exact mRf_rf _ | assumption) (h : RN z 2 [l0, l1, some v] [] M k n) : RN z 1 [l0, l1, l2] [v] M k n := R_astore_n X.1 d_P_versionAsOf_1 rfl hv (Nat.le_of_ble_eq_true rfl) h
theorem i_P_versionAsOf_2 {z : zT} {ws0 : va_W} {mc ms : Nat} {Post : Option Value → mM → Prop} (X : B_P_versionAsOf z ws0 mc ms Post) {v : Value} {l0 l1 : Option Value} {M : mM} {k n : Nat} (hv : mRf v := by first | exact mRf_r _ | exact mRf_n | exact mRf_rf _ | assumption) (h : RN z 3 [l0, l1, some v] [v] M k n) : RN z 2 [l0, l1, some v] [] M k n := R_aload_n X.1 d_P_versionAsOf_2 rfl rfl hv h
theorem i_P_versionAsOf_3 {z : zT} {ws0 : va_W} {mc ms : Nat} {Post : Option Value → mM → Prop} (X : B_P_versionAsOf z ws0 mc ms Post) {v : Value} {l0 l1 l2 : Option Value} {M : mM} {k n : Nat} (hv : mRf v := by first | exact mRf_r _ | exact mRf_n | exact mRf_rf _ | assumption) (h1 : v = .null → RN z 22 [l0, l1, l2] [] M k n) (h2 : ∀ a, v = .ref a → RN z 6 [l0, l1, l2] [] M k n) : RN z 3 [l0, l1, l2] [v] M k n := R_ifnull X.1 d_P_versionAsOf_3 (by decide) hv h1 h2
theorem i_P_versionAsOf_6 {z : zT} {ws0 : va_W} {mc ms : Nat} {Post : Option Value → mM → Prop} (X : B_P_versionAsOf z ws0 mc ms Post) {v : Value} {l0 l1 : Option Value} {M : mM} {k n : Nat} (hv : mRf v := by first | exact mRf_r _ | exact mRf_n | exact mRf_rf _ | assumption) (h : RN z 7 [l0, l1, some v] [v] M k n) : RN z 6 [l0, l1, some v] [] M k n := R_aload_n X.1 d_P_versionAsOf_6 rfl rfl hv h
theorem i_P_versionAsOf_7 {z : zT} {ws0 : va_W} {mc ms : Nat} {Post : Option Value → mM → Prop} (X : B_P_versionAsOf z ws0 mc ms Post) {a : Nat} {f0 f1 f2 f3 f4 : Value} {l0 l1 l2 : Option Value} {M : mM} {k n : Nat} (hM : M a = some (.inr (2, [f0, f1, f2, f3, f4]))) (h : RN z 10 [l0, l1, l2] [f0] M k n) : RN z 7 [l0, l1, l2] [.ref a] M k n := R_get X.1 inX2 rfl 0 (Nat.le_of_ble_eq_true rfl) wd_159 d_P_versionAsOf_7 hM rfl h
theorem i_P_versionAsOf_10 {z : zT} {ws0 : va_W} {mc ms : Nat} {Post : Option Value → mM → Prop} (X : B_P_versionAsOf z ws0 mc ms Post) {x : Int32} {l0 l2 : Option Value} {s0 : Value} {M : mM} {k n : Nat}  (h : RN z 11 [l0, some (.int x), l2] [.int x, s0] M k n) : RN z 10 [l0, some (.int x), l2] [s0] M k n := R_iload_n X.1 d_P_versionAsOf_10 rfl rfl h
theorem i_P_versionAsOf_11 {z : zT} {ws0 : va_W} {mc ms : Nat} {Post : Option Value → mM → Prop} (X : B_P_versionAsOf z ws0 mc ms Post) {x y : Int32} {l0 l1 l2 : Option Value} {M : mM} {k n : Nat}  (h1 : x ≤ y → RN z 22 [l0, l1, l2] [] M k n) (h2 : ¬ (x ≤ y) → RN z 14 [l0, l1, l2] [] M k n) : RN z 11 [l0, l1, l2] [.int y, .int x] M k n := R_icmp_le X.1 d_P_versionAsOf_11 (by decide) h1 h2
theorem i_P_versionAsOf_14 {z : zT} {ws0 : va_W} {mc ms : Nat} {Post : Option Value → mM → Prop} (X : B_P_versionAsOf z ws0 mc ms Post) {v : Value} {l0 l1 : Option Value} {M : mM} {k n : Nat} (hv : mRf v := by first | exact mRf_r _ | exact mRf_n | exact mRf_rf _ | assumption) (h : RN z 15 [l0, l1, some v] [v] M k n) : RN z 14 [l0, l1, some v] [] M k n := R_aload_n X.1 d_P_versionAsOf_14 rfl rfl hv h
theorem i_P_versionAsOf_15 {z : zT} {ws0 : va_W} {mc ms : Nat} {Post : Option Value → mM → Prop} (X : B_P_versionAsOf z ws0 mc ms Post) {a : Nat} {f0 f1 f2 f3 f4 : Value} {l0 l1 l2 : Option Value} {M : mM} {k n : Nat} (hM : M a = some (.inr (2, [f0, f1, f2, f3, f4]))) (h : RN z 18 [l0, l1, l2] [f3] M k n) : RN z 15 [l0, l1, l2] [.ref a] M k n := R_get X.1 inX2 rfl 3 (Nat.le_of_ble_eq_true rfl) wd_165 d_P_versionAsOf_15 hM rfl h
theorem i_P_versionAsOf_18 {z : zT} {ws0 : va_W} {mc ms : Nat} {Post : Option Value → mM → Prop} (X : B_P_versionAsOf z ws0 mc ms Post) {v : Value} {l0 l1 l2 : Option Value} {M : mM} {k n : Nat} (hv : mRf v := by first | exact mRf_r _ | exact mRf_n | exact mRf_rf _ | assumption) (h : RN z 19 [l0, l1, some v] [] M k n) : RN z 18 [l0, l1, l2] [v] M k n := R_astore_n X.1 d_P_versionAsOf_18 rfl hv (Nat.le_of_ble_eq_true rfl) h
theorem i_P_versionAsOf_19 {z : zT} {ws0 : va_W} {mc ms : Nat} {Post : Option Value → mM → Prop} (X : B_P_versionAsOf z ws0 mc ms Post) {l0 l1 l2 : Option Value} {M : mM} {k n : Nat}  (h : RN z 2 [l0, l1, l2] [] M k n) : RN z 19 [l0, l1, l2] [] M k n := R_goto X.1 d_P_versionAsOf_19 (by decide) h
theorem i_P_versionAsOf_22 {z : zT} {ws0 : va_W} {mc ms : Nat} {Post : Option Value → mM → Prop} (X : B_P_versionAsOf z ws0 mc ms Post) {v : Value} {l0 l1 : Option Value} {M : mM} {k n : Nat} (hv : mRf v := by first | exact mRf_r _ | exact mRf_n | exact mRf_rf _ | assumption) (h : RN z 23 [l0, l1, some v] [v] M k n) : RN z 22 [l0, l1, some v] [] M k n := R_aload_n X.1 d_P_versionAsOf_22 rfl rfl hv h
theorem i_P_versionAsOf_23 {z : zT} {ws0 : va_W} {mc ms : Nat} {Post : Option Value → mM → Prop} (X : B_P_versionAsOf z ws0 mc ms Post) {v : Value} {l0 l1 l2 : Option Value} {M : mM} {k n : Nat} (hk : k ≤ mc) (hn : n ≤ ms) (hv : mRf v := by first | exact mRf_r _ | exact mRf_n | exact mRf_rf _ | assumption) (hp : Post (some v) M) : RN z 23 [l0, l1, l2] [v] M k n := R_aret X.1 X.2 (Or.inl ⟨_, rfl⟩) d_P_versionAsOf_23 hv hk hn hp
theorem d_P_countGone_0 : decode c_P_countGone 0 = .ok (.iconst 0, 1) := by decide +kernel
theorem d_P_countGone_1 : decode c_P_countGone 1 = .ok (.istore_n 1, 1) := by decide +kernel
theorem d_P_countGone_2 : decode c_P_countGone 2 = .ok (.aload_n 0, 1) := by decide +kernel
theorem d_P_countGone_3 : decode c_P_countGone 3 = .ok (.astore_n 2, 1) := by decide +kernel
theorem d_P_countGone_4 : decode c_P_countGone 4 = .ok (.aload_n 2, 1) := by decide +kernel
theorem d_P_countGone_5 : decode c_P_countGone 5 = .ok (.ifnull 21, 3) := by decide +kernel
theorem d_P_countGone_8 : decode c_P_countGone 8 = .ok (.aload_n 2, 1) := by decide +kernel
theorem d_P_countGone_9 : decode c_P_countGone 9 = .ok (.getfield 120, 3) := by decide +kernel
theorem d_P_countGone_12 : decode c_P_countGone 12 = .ok (.ifCond .eq 6, 3) := by decide +kernel
theorem d_P_countGone_15 : decode c_P_countGone 15 = .ok (.iinc 1 1, 3) := by decide +kernel
theorem d_P_countGone_18 : decode c_P_countGone 18 = .ok (.aload_n 2, 1) := by decide +kernel
theorem d_P_countGone_19 : decode c_P_countGone 19 = .ok (.getfield 153, 3) := by decide +kernel
theorem d_P_countGone_22 : decode c_P_countGone 22 = .ok (.astore_n 2, 1) := by decide +kernel
theorem d_P_countGone_23 : decode c_P_countGone 23 = .ok (.goto (-19), 3) := by decide +kernel
theorem d_P_countGone_26 : decode c_P_countGone 26 = .ok (.iload_n 1, 1) := by decide +kernel
theorem d_P_countGone_27 : decode c_P_countGone 27 = .ok (.ireturn, 1) := by decide +kernel
abbrev B_P_countGone (z : zT) (ws0 : va_W) (mc ms : Nat) (Post : Option Value → mM → Prop) : Prop := BX z c_P_countGone 3 y_P_countGone.cls y_P_countGone.name 0 0 ∧ BQ z (some (.int)) ws0 mc ms Post
abbrev Ct_P_countGone (l : Launch) (D : va_G) (tys : List (ClassId × FieldType)) (mc ms : Nat) (av : List Value) (M : mM) (Post : Option Value → mM → Prop) : Prop := Ct l D tys y_P_countGone w_P_countGone 0 0 mc ms av M Post
theorem i_P_countGone_0 {z : zT} {ws0 : va_W} {mc ms : Nat} {Post : Option Value → mM → Prop} (X : B_P_countGone z ws0 mc ms Post) {l0 l1 l2 : Option Value} {M : mM} {k n : Nat}  (h : RN z 1 [l0, l1, l2] [.int 0] M k n) : RN z 0 [l0, l1, l2] [] M k n := R_iconst X.1 d_P_countGone_0 (by decide) h
theorem i_P_countGone_1 {z : zT} {ws0 : va_W} {mc ms : Nat} {Post : Option Value → mM → Prop} (X : B_P_countGone z ws0 mc ms Post) {x : Int32} {l0 l1 l2 : Option Value} {M : mM} {k n : Nat}  (h : RN z 2 [l0, some (.int x), l2] [] M k n) : RN z 1 [l0, l1, l2] [.int x] M k n := R_istore_n X.1 d_P_countGone_1 rfl (Nat.le_of_ble_eq_true rfl) h
theorem i_P_countGone_2 {z : zT} {ws0 : va_W} {mc ms : Nat} {Post : Option Value → mM → Prop} (X : B_P_countGone z ws0 mc ms Post) {v : Value} {l1 l2 : Option Value} {M : mM} {k n : Nat} (hv : mRf v := by first | exact mRf_r _ | exact mRf_n | exact mRf_rf _ | assumption) (h : RN z 3 [some v, l1, l2] [v] M k n) : RN z 2 [some v, l1, l2] [] M k n := R_aload_n X.1 d_P_countGone_2 rfl rfl hv h
theorem i_P_countGone_3 {z : zT} {ws0 : va_W} {mc ms : Nat} {Post : Option Value → mM → Prop} (X : B_P_countGone z ws0 mc ms Post) {v : Value} {l0 l1 l2 : Option Value} {M : mM} {k n : Nat} (hv : mRf v := by first | exact mRf_r _ | exact mRf_n | exact mRf_rf _ | assumption) (h : RN z 4 [l0, l1, some v] [] M k n) : RN z 3 [l0, l1, l2] [v] M k n := R_astore_n X.1 d_P_countGone_3 rfl hv (Nat.le_of_ble_eq_true rfl) h
theorem i_P_countGone_4 {z : zT} {ws0 : va_W} {mc ms : Nat} {Post : Option Value → mM → Prop} (X : B_P_countGone z ws0 mc ms Post) {v : Value} {l0 l1 : Option Value} {M : mM} {k n : Nat} (hv : mRf v := by first | exact mRf_r _ | exact mRf_n | exact mRf_rf _ | assumption) (h : RN z 5 [l0, l1, some v] [v] M k n) : RN z 4 [l0, l1, some v] [] M k n := R_aload_n X.1 d_P_countGone_4 rfl rfl hv h
theorem i_P_countGone_5 {z : zT} {ws0 : va_W} {mc ms : Nat} {Post : Option Value → mM → Prop} (X : B_P_countGone z ws0 mc ms Post) {v : Value} {l0 l1 l2 : Option Value} {M : mM} {k n : Nat} (hv : mRf v := by first | exact mRf_r _ | exact mRf_n | exact mRf_rf _ | assumption) (h1 : v = .null → RN z 26 [l0, l1, l2] [] M k n) (h2 : ∀ a, v = .ref a → RN z 8 [l0, l1, l2] [] M k n) : RN z 5 [l0, l1, l2] [v] M k n := R_ifnull X.1 d_P_countGone_5 (by decide) hv h1 h2
theorem i_P_countGone_8 {z : zT} {ws0 : va_W} {mc ms : Nat} {Post : Option Value → mM → Prop} (X : B_P_countGone z ws0 mc ms Post) {v : Value} {l0 l1 : Option Value} {M : mM} {k n : Nat} (hv : mRf v := by first | exact mRf_r _ | exact mRf_n | exact mRf_rf _ | assumption) (h : RN z 9 [l0, l1, some v] [v] M k n) : RN z 8 [l0, l1, some v] [] M k n := R_aload_n X.1 d_P_countGone_8 rfl rfl hv h
theorem i_P_countGone_9 {z : zT} {ws0 : va_W} {mc ms : Nat} {Post : Option Value → mM → Prop} (X : B_P_countGone z ws0 mc ms Post) {a : Nat} {f0 f1 f2 f3 f4 : Value} {l0 l1 l2 : Option Value} {M : mM} {k n : Nat} (hM : M a = some (.inr (2, [f0, f1, f2, f3, f4]))) (h : RN z 12 [l0, l1, l2] [f4] M k n) : RN z 9 [l0, l1, l2] [.ref a] M k n := R_get X.1 inX2 rfl 4 (Nat.le_of_ble_eq_true rfl) wd_167 d_P_countGone_9 hM rfl h
theorem i_P_countGone_12 {z : zT} {ws0 : va_W} {mc ms : Nat} {Post : Option Value → mM → Prop} (X : B_P_countGone z ws0 mc ms Post) {x : Int32} {l0 l1 l2 : Option Value} {M : mM} {k n : Nat}  (h1 : x = 0 → RN z 18 [l0, l1, l2] [] M k n) (h2 : ¬ (x = 0) → RN z 15 [l0, l1, l2] [] M k n) : RN z 12 [l0, l1, l2] [.int x] M k n := R_if_eq X.1 d_P_countGone_12 (by decide) h1 h2
theorem i_P_countGone_15 {z : zT} {ws0 : va_W} {mc ms : Nat} {Post : Option Value → mM → Prop} (X : B_P_countGone z ws0 mc ms Post) {x : Int32} {l0 l2 : Option Value} {M : mM} {k n : Nat}  (h : RN z 18 [l0, some (.int (x + 1)), l2] [] M k n) : RN z 15 [l0, some (.int x), l2] [] M k n := R_iinc X.1 d_P_countGone_15 rfl rfl h
theorem i_P_countGone_18 {z : zT} {ws0 : va_W} {mc ms : Nat} {Post : Option Value → mM → Prop} (X : B_P_countGone z ws0 mc ms Post) {v : Value} {l0 l1 : Option Value} {M : mM} {k n : Nat} (hv : mRf v := by first | exact mRf_r _ | exact mRf_n | exact mRf_rf _ | assumption) (h : RN z 19 [l0, l1, some v] [v] M k n) : RN z 18 [l0, l1, some v] [] M k n := R_aload_n X.1 d_P_countGone_18 rfl rfl hv h
theorem i_P_countGone_19 {z : zT} {ws0 : va_W} {mc ms : Nat} {Post : Option Value → mM → Prop} (X : B_P_countGone z ws0 mc ms Post) {a : Nat} {f0 f1 f2 f3 f4 : Value} {l0 l1 l2 : Option Value} {M : mM} {k n : Nat} (hM : M a = some (.inr (2, [f0, f1, f2, f3, f4]))) (h : RN z 22 [l0, l1, l2] [f3] M k n) : RN z 19 [l0, l1, l2] [.ref a] M k n := R_get X.1 inX2 rfl 3 (Nat.le_of_ble_eq_true rfl) wd_165 d_P_countGone_19 hM rfl h
theorem i_P_countGone_22 {z : zT} {ws0 : va_W} {mc ms : Nat} {Post : Option Value → mM → Prop} (X : B_P_countGone z ws0 mc ms Post) {v : Value} {l0 l1 l2 : Option Value} {M : mM} {k n : Nat} (hv : mRf v := by first | exact mRf_r _ | exact mRf_n | exact mRf_rf _ | assumption) (h : RN z 23 [l0, l1, some v] [] M k n) : RN z 22 [l0, l1, l2] [v] M k n := R_astore_n X.1 d_P_countGone_22 rfl hv (Nat.le_of_ble_eq_true rfl) h
theorem i_P_countGone_23 {z : zT} {ws0 : va_W} {mc ms : Nat} {Post : Option Value → mM → Prop} (X : B_P_countGone z ws0 mc ms Post) {l0 l1 l2 : Option Value} {M : mM} {k n : Nat}  (h : RN z 4 [l0, l1, l2] [] M k n) : RN z 23 [l0, l1, l2] [] M k n := R_goto X.1 d_P_countGone_23 (by decide) h
theorem i_P_countGone_26 {z : zT} {ws0 : va_W} {mc ms : Nat} {Post : Option Value → mM → Prop} (X : B_P_countGone z ws0 mc ms Post) {x : Int32} {l0 l2 : Option Value} {M : mM} {k n : Nat}  (h : RN z 27 [l0, some (.int x), l2] [.int x] M k n) : RN z 26 [l0, some (.int x), l2] [] M k n := R_iload_n X.1 d_P_countGone_26 rfl rfl h
theorem i_P_countGone_27 {z : zT} {ws0 : va_W} {mc ms : Nat} {Post : Option Value → mM → Prop} (X : B_P_countGone z ws0 mc ms Post) {x : Int32} {l0 l1 l2 : Option Value} {M : mM} {k n : Nat} (hk : k ≤ mc) (hn : n ≤ ms) (hp : Post (some (.int x)) M) : RN z 27 [l0, l1, l2] [.int x] M k n := R_iret X.1 X.2 d_P_countGone_27 hk hn hp
end
section
theorem d_P_init_0 : decode c_P_init 0 = .ok (.aload_n 0, 1) := by decide +kernel
theorem d_P_init_1 : decode c_P_init 1 = .ok (.invokespecial 1, 3) := by decide +kernel
theorem d_P_init_4 : decode c_P_init 4 = .ok (.aload_n 0, 1) := by decide +kernel
theorem d_P_init_5 : decode c_P_init 5 = .ok (.bipush 24, 2) := by decide +kernel
theorem d_P_init_7 : decode c_P_init 7 = .ok (.anewarray 9, 3) := by decide +kernel
theorem d_P_init_10 : decode c_P_init 10 = .ok (.putfield 11, 3) := by decide +kernel
theorem d_P_init_13 : decode c_P_init 13 = .ok (.aload_n 0, 1) := by decide +kernel
theorem d_P_init_14 : decode c_P_init 14 = .ok (.bipush 24, 2) := by decide +kernel
theorem d_P_init_16 : decode c_P_init 16 = .ok (.newarray .int, 2) := by decide +kernel
theorem d_P_init_18 : decode c_P_init 18 = .ok (.putfield 15, 3) := by decide +kernel
theorem d_P_init_21 : decode c_P_init 21 = .ok (.aload_n 0, 1) := by decide +kernel
theorem d_P_init_22 : decode c_P_init 22 = .ok (.iconst 0, 1) := by decide +kernel
theorem d_P_init_23 : decode c_P_init 23 = .ok (.putfield 19, 3) := by decide +kernel
theorem d_P_init_26 : decode c_P_init 26 = .ok (.aload_n 0, 1) := by decide +kernel
theorem d_P_init_27 : decode c_P_init 27 = .ok (.iconst 1, 1) := by decide +kernel
theorem d_P_init_28 : decode c_P_init 28 = .ok (.putfield 23, 3) := by decide +kernel
theorem d_P_init_31 : decode c_P_init 31 = .ok (.aload_n 0, 1) := by decide +kernel
theorem d_P_init_32 : decode c_P_init 32 = .ok (.iconst 0, 1) := by decide +kernel
theorem d_P_init_33 : decode c_P_init 33 = .ok (.putfield 26, 3) := by decide +kernel
theorem d_P_init_36 : decode c_P_init 36 = .ok (.aload_n 0, 1) := by decide +kernel
theorem d_P_init_37 : decode c_P_init 37 = .ok (.iconst 0, 1) := by decide +kernel
theorem d_P_init_38 : decode c_P_init 38 = .ok (.putfield 29, 3) := by decide +kernel
theorem d_P_init_41 : decode c_P_init 41 = .ok (.aload_n 0, 1) := by decide +kernel
theorem d_P_init_42 : decode c_P_init 42 = .ok (.iconst 1, 1) := by decide +kernel
theorem d_P_init_43 : decode c_P_init 43 = .ok (.putfield 32, 3) := by decide +kernel
theorem d_P_init_46 : decode c_P_init 46 = .ok (.aload_n 0, 1) := by decide +kernel
theorem d_P_init_47 : decode c_P_init 47 = .ok (.iconst 0, 1) := by decide +kernel
theorem d_P_init_48 : decode c_P_init 48 = .ok (.putfield 35, 3) := by decide +kernel
theorem d_P_init_51 : decode c_P_init 51 = .ok (.aload_n 0, 1) := by decide +kernel
theorem d_P_init_52 : decode c_P_init 52 = .ok (.iconst 0, 1) := by decide +kernel
theorem d_P_init_53 : decode c_P_init 53 = .ok (.putfield 38, 3) := by decide +kernel
theorem d_P_init_56 : decode c_P_init 56 = .ok (.aload_n 0, 1) := by decide +kernel
theorem d_P_init_57 : decode c_P_init 57 = .ok (.iload_n 1, 1) := by decide +kernel
theorem d_P_init_58 : decode c_P_init 58 = .ok (.invokestatic 41, 3) := by decide +kernel
theorem d_P_init_61 : decode c_P_init 61 = .ok (.putfield 45, 3) := by decide +kernel
theorem d_P_init_64 : decode c_P_init 64 = .ok (.aload_n 0, 1) := by decide +kernel
theorem d_P_init_65 : decode c_P_init 65 = .ok (.iload_n 2, 1) := by decide +kernel
theorem d_P_init_66 : decode c_P_init 66 = .ok (.invokestatic 41, 3) := by decide +kernel
theorem d_P_init_69 : decode c_P_init 69 = .ok (.putfield 48, 3) := by decide +kernel
theorem d_P_init_72 : decode c_P_init 72 = .ok (.iconst 0, 1) := by decide +kernel
theorem d_P_init_73 : decode c_P_init 73 = .ok (.istore_n 3, 1) := by decide +kernel
theorem d_P_init_74 : decode c_P_init 74 = .ok (.iload_n 3, 1) := by decide +kernel
theorem d_P_init_75 : decode c_P_init 75 = .ok (.bipush 24, 2) := by decide +kernel
theorem d_P_init_77 : decode c_P_init 77 = .ok (.if_icmp .ge 22, 3) := by decide +kernel
theorem d_P_init_80 : decode c_P_init 80 = .ok (.aload_n 0, 1) := by decide +kernel
theorem d_P_init_81 : decode c_P_init 81 = .ok (.getfield 11, 3) := by decide +kernel
theorem d_P_init_84 : decode c_P_init 84 = .ok (.iload_n 3, 1) := by decide +kernel
theorem d_P_init_85 : decode c_P_init 85 = .ok (.new 9, 3) := by decide +kernel
theorem d_P_init_88 : decode c_P_init 88 = .ok (.dup, 1) := by decide +kernel
theorem d_P_init_89 : decode c_P_init 89 = .ok (.invokespecial 51, 3) := by decide +kernel
theorem d_P_init_92 : decode c_P_init 92 = .ok (.aastore, 1) := by decide +kernel
theorem d_P_init_93 : decode c_P_init 93 = .ok (.iinc 3 1, 3) := by decide +kernel
theorem d_P_init_96 : decode c_P_init 96 = .ok (.goto (-22), 3) := by decide +kernel
theorem d_P_init_99 : decode c_P_init 99 = .ok (.return_, 1) := by decide +kernel
abbrev B_P_init (z : zT) (ws0 : va_W) (mc ms : Nat) (Post : Option Value → mM → Prop) : Prop := BX z c_P_init 4 y_P_init.cls y_P_init.name 2 35 ∧ BQ z none ws0 mc ms Post
abbrev Ct_P_init (l : Launch) (D : va_G) (tys : List (ClassId × FieldType)) (mc ms : Nat) (av : List Value) (M : mM) (Post : Option Value → mM → Prop) : Prop := Ct l D tys y_P_init w_P_init 2 35 mc ms av M Post
theorem i_P_init_0 {z : zT} {ws0 : va_W} {mc ms : Nat} {Post : Option Value → mM → Prop} (X : B_P_init z ws0 mc ms Post) {v : Value} {l1 l2 l3 : Option Value} {M : mM} {k n : Nat} (hv : mRf v := by first | exact mRf_r _ | exact mRf_n | exact mRf_rf _ | assumption) (h : RN z 1 [some v, l1, l2, l3] [v] M k n) : RN z 0 [some v, l1, l2, l3] [] M k n := R_aload_n X.1 d_P_init_0 rfl rfl hv h
theorem i_P_init_1 {z : zT} {ws0 : va_W} {mc ms : Nat} {Post : Option Value → mM → Prop} (X : B_P_init z ws0 mc ms Post) {a : Nat} {l0 l1 l2 l3 : Option Value} {M : mM} {k n : Nat}  (h : RN z 4 [l0, l1, l2, l3] [] M k n) : RN z 1 [l0, l1, l2, l3] [.ref a] M k n := R_objInit X.1 wd_41 wd_42 wd_43 d_P_init_1 rfl (Nat.le_of_ble_eq_true rfl) (Nat.le_trans (Nat.add_le_add_right (cat_le _) 12) (Nat.le_of_ble_eq_true rfl)) h
theorem i_P_init_4 {z : zT} {ws0 : va_W} {mc ms : Nat} {Post : Option Value → mM → Prop} (X : B_P_init z ws0 mc ms Post) {v : Value} {l1 l2 l3 : Option Value} {M : mM} {k n : Nat} (hv : mRf v := by first | exact mRf_r _ | exact mRf_n | exact mRf_rf _ | assumption) (h : RN z 5 [some v, l1, l2, l3] [v] M k n) : RN z 4 [some v, l1, l2, l3] [] M k n := R_aload_n X.1 d_P_init_4 rfl rfl hv h
theorem i_P_init_5 {z : zT} {ws0 : va_W} {mc ms : Nat} {Post : Option Value → mM → Prop} (X : B_P_init z ws0 mc ms Post) {l0 l1 l2 l3 : Option Value} {s0 : Value} {M : mM} {k n : Nat}  (h : RN z 7 [l0, l1, l2, l3] [.int 24, s0] M k n) : RN z 5 [l0, l1, l2, l3] [s0] M k n := R_bipush X.1 d_P_init_5 (by decide) h
theorem i_P_init_7 {z : zT} {ws0 : va_W} {mc ms : Nat} {Post : Option Value → mM → Prop} (X : B_P_init z ws0 mc ms Post) {cI cB cN : ClassId} (G : GT z cI cB cN) {v : Int32} {w : Nat} {l0 l1 l2 l3 : Option Value} {s0 : Value} {M : mM} {k n : Nat} (hv0 : ¬ v < 0) (hv : v.toNatClampNeg = w) (hb : w * 4 ≤ 536870912) (hk : k + 1 ≤ mc) (hn : n + w ≤ ms) (h : ∀ q, M q = none → RN z 10 [l0, l1, l2, l3] [.ref q, s0] (mS M q (.inl (cN, w, .inr (.inr (.inr (.inr (fun _ => none))))))) (k + 1) (n + w)) : RN z 7 [l0, l1, l2, l3] [.int v, s0] M k n := R_newq X.1 2 G.2.2 wd_44 rfl d_P_init_7 hv0 hv hb (by rw [BM.rc1 X.2]; exact hk) (by rw [BM.rc2 X.2]; exact hn) h
theorem i_P_init_10 {z : zT} {ws0 : va_W} {mc ms : Nat} {Post : Option Value → mM → Prop} (X : B_P_init z ws0 mc ms Post) {a : Nat} {f0 f1 f2 f3 f4 f5 f6 f7 f8 f9 f10 : Value} {v : Value} {l0 l1 l2 l3 : Option Value} {M : mM} {k n : Nat} (hv : mRf v := by first | exact mRf_r _ | exact mRf_n | exact mRf_rf _ | assumption) (hM : M a = some (.inr (3, [f0, f1, f2, f3, f4, f5, f6, f7, f8, f9, f10]))) (h : RN z 13 [l0, l1, l2, l3] [] (mS M a (.inr (3, [f0, f1, v, f3, f4, f5, f6, f7, f8, f9, f10]))) k n) : RN z 10 [l0, l1, l2, l3] [v, .ref a] M k n := R_putF X.1 inX3 rfl 2 (Nat.le_of_ble_eq_true rfl) tyX3 tyX3_ok nmX3 wd_78 rfl rfl rfl (by decide +kernel : parseFieldDescriptor (TX3 2).2.2.1 = some (.array (.object "PastTree$Node"))) (by rcases hv with rfl | ⟨_, rfl⟩ <;> rfl) (by rcases hv with rfl | ⟨_, rfl⟩ <;> rfl) d_P_init_10 hM (Nat.le_of_ble_eq_true rfl) h
theorem i_P_init_13 {z : zT} {ws0 : va_W} {mc ms : Nat} {Post : Option Value → mM → Prop} (X : B_P_init z ws0 mc ms Post) {v : Value} {l1 l2 l3 : Option Value} {M : mM} {k n : Nat} (hv : mRf v := by first | exact mRf_r _ | exact mRf_n | exact mRf_rf _ | assumption) (h : RN z 14 [some v, l1, l2, l3] [v] M k n) : RN z 13 [some v, l1, l2, l3] [] M k n := R_aload_n X.1 d_P_init_13 rfl rfl hv h
theorem i_P_init_14 {z : zT} {ws0 : va_W} {mc ms : Nat} {Post : Option Value → mM → Prop} (X : B_P_init z ws0 mc ms Post) {l0 l1 l2 l3 : Option Value} {s0 : Value} {M : mM} {k n : Nat}  (h : RN z 16 [l0, l1, l2, l3] [.int 24, s0] M k n) : RN z 14 [l0, l1, l2, l3] [s0] M k n := R_bipush X.1 d_P_init_14 (by decide) h
theorem i_P_init_16 {z : zT} {ws0 : va_W} {mc ms : Nat} {Post : Option Value → mM → Prop} (X : B_P_init z ws0 mc ms Post) {cI cB cN : ClassId} (G : GT z cI cB cN) {v : Int32} {w : Nat} {l0 l1 l2 l3 : Option Value} {s0 : Value} {M : mM} {k n : Nat} (hv0 : ¬ v < 0) (hv : v.toNatClampNeg = w) (hb : w * 4 ≤ 536870912) (hk : k + 1 ≤ mc) (hn : n + w ≤ ms) (h : ∀ q, M q = none → RN z 18 [l0, l1, l2, l3] [.ref q, s0] (mS M q (.inl (cI, w, .inl (fun _ => 0)))) (k + 1) (n + w)) : RN z 16 [l0, l1, l2, l3] [.int v, s0] M k n := R_newi X.1 0 G.1 wd_75 d_P_init_16 hv0 hv hb (by rw [BM.rc1 X.2]; exact hk) (by rw [BM.rc2 X.2]; exact hn) h
theorem i_P_init_18 {z : zT} {ws0 : va_W} {mc ms : Nat} {Post : Option Value → mM → Prop} (X : B_P_init z ws0 mc ms Post) {a : Nat} {f0 f1 f2 f3 f4 f5 f6 f7 f8 f9 f10 : Value} {v : Value} {l0 l1 l2 l3 : Option Value} {M : mM} {k n : Nat} (hv : mRf v := by first | exact mRf_r _ | exact mRf_n | exact mRf_rf _ | assumption) (hM : M a = some (.inr (3, [f0, f1, f2, f3, f4, f5, f6, f7, f8, f9, f10]))) (h : RN z 21 [l0, l1, l2, l3] [] (mS M a (.inr (3, [f0, f1, f2, v, f4, f5, f6, f7, f8, f9, f10]))) k n) : RN z 18 [l0, l1, l2, l3] [v, .ref a] M k n := R_putF X.1 inX3 rfl 3 (Nat.le_of_ble_eq_true rfl) tyX3 tyX3_ok nmX3 wd_79 rfl rfl rfl (by decide +kernel : parseFieldDescriptor (TX3 3).2.2.1 = some (.array .int)) (by rcases hv with rfl | ⟨_, rfl⟩ <;> rfl) (by rcases hv with rfl | ⟨_, rfl⟩ <;> rfl) d_P_init_18 hM (Nat.le_of_ble_eq_true rfl) h
theorem i_P_init_21 {z : zT} {ws0 : va_W} {mc ms : Nat} {Post : Option Value → mM → Prop} (X : B_P_init z ws0 mc ms Post) {v : Value} {l1 l2 l3 : Option Value} {M : mM} {k n : Nat} (hv : mRf v := by first | exact mRf_r _ | exact mRf_n | exact mRf_rf _ | assumption) (h : RN z 22 [some v, l1, l2, l3] [v] M k n) : RN z 21 [some v, l1, l2, l3] [] M k n := R_aload_n X.1 d_P_init_21 rfl rfl hv h
theorem i_P_init_22 {z : zT} {ws0 : va_W} {mc ms : Nat} {Post : Option Value → mM → Prop} (X : B_P_init z ws0 mc ms Post) {l0 l1 l2 l3 : Option Value} {s0 : Value} {M : mM} {k n : Nat}  (h : RN z 23 [l0, l1, l2, l3] [.int 0, s0] M k n) : RN z 22 [l0, l1, l2, l3] [s0] M k n := R_iconst X.1 d_P_init_22 (by decide) h
theorem i_P_init_23 {z : zT} {ws0 : va_W} {mc ms : Nat} {Post : Option Value → mM → Prop} (X : B_P_init z ws0 mc ms Post) {a : Nat} {f0 f1 f2 f3 f4 f5 f6 f7 f8 f9 f10 : Value} {x : Int32} {l0 l1 l2 l3 : Option Value} {M : mM} {k n : Nat} (hM : M a = some (.inr (3, [f0, f1, f2, f3, f4, f5, f6, f7, f8, f9, f10]))) (h : RN z 26 [l0, l1, l2, l3] [] (mS M a (.inr (3, [f0, f1, f2, f3, .int x, f5, f6, f7, f8, f9, f10]))) k n) : RN z 23 [l0, l1, l2, l3] [.int x, .ref a] M k n := R_put X.1 inX3 rfl 4 (Nat.le_of_ble_eq_true rfl) tyX3 tyX3_ok nmX3 wd_80 rfl (by decide +kernel : parseFieldDescriptor (TX3 4).2.2.1 = some (.int)) rfl rfl d_P_init_23 hM (Nat.le_of_ble_eq_true rfl) h
theorem i_P_init_26 {z : zT} {ws0 : va_W} {mc ms : Nat} {Post : Option Value → mM → Prop} (X : B_P_init z ws0 mc ms Post) {v : Value} {l1 l2 l3 : Option Value} {M : mM} {k n : Nat} (hv : mRf v := by first | exact mRf_r _ | exact mRf_n | exact mRf_rf _ | assumption) (h : RN z 27 [some v, l1, l2, l3] [v] M k n) : RN z 26 [some v, l1, l2, l3] [] M k n := R_aload_n X.1 d_P_init_26 rfl rfl hv h
theorem i_P_init_27 {z : zT} {ws0 : va_W} {mc ms : Nat} {Post : Option Value → mM → Prop} (X : B_P_init z ws0 mc ms Post) {l0 l1 l2 l3 : Option Value} {s0 : Value} {M : mM} {k n : Nat}  (h : RN z 28 [l0, l1, l2, l3] [.int 1, s0] M k n) : RN z 27 [l0, l1, l2, l3] [s0] M k n := R_iconst X.1 d_P_init_27 (by decide) h
theorem i_P_init_28 {z : zT} {ws0 : va_W} {mc ms : Nat} {Post : Option Value → mM → Prop} (X : B_P_init z ws0 mc ms Post) {a : Nat} {f0 f1 f2 f3 f4 f5 f6 f7 f8 f9 f10 : Value} {x : Int32} {l0 l1 l2 l3 : Option Value} {M : mM} {k n : Nat} (hM : M a = some (.inr (3, [f0, f1, f2, f3, f4, f5, f6, f7, f8, f9, f10]))) (h : RN z 31 [l0, l1, l2, l3] [] (mS M a (.inr (3, [f0, f1, f2, f3, f4, .int x, f6, f7, f8, f9, f10]))) k n) : RN z 28 [l0, l1, l2, l3] [.int x, .ref a] M k n := R_put X.1 inX3 rfl 5 (Nat.le_of_ble_eq_true rfl) tyX3 tyX3_ok nmX3 wd_81 rfl (by decide +kernel : parseFieldDescriptor (TX3 5).2.2.1 = some (.int)) rfl rfl d_P_init_28 hM (Nat.le_of_ble_eq_true rfl) h
theorem i_P_init_31 {z : zT} {ws0 : va_W} {mc ms : Nat} {Post : Option Value → mM → Prop} (X : B_P_init z ws0 mc ms Post) {v : Value} {l1 l2 l3 : Option Value} {M : mM} {k n : Nat} (hv : mRf v := by first | exact mRf_r _ | exact mRf_n | exact mRf_rf _ | assumption) (h : RN z 32 [some v, l1, l2, l3] [v] M k n) : RN z 31 [some v, l1, l2, l3] [] M k n := R_aload_n X.1 d_P_init_31 rfl rfl hv h
theorem i_P_init_32 {z : zT} {ws0 : va_W} {mc ms : Nat} {Post : Option Value → mM → Prop} (X : B_P_init z ws0 mc ms Post) {l0 l1 l2 l3 : Option Value} {s0 : Value} {M : mM} {k n : Nat}  (h : RN z 33 [l0, l1, l2, l3] [.int 0, s0] M k n) : RN z 32 [l0, l1, l2, l3] [s0] M k n := R_iconst X.1 d_P_init_32 (by decide) h
theorem i_P_init_33 {z : zT} {ws0 : va_W} {mc ms : Nat} {Post : Option Value → mM → Prop} (X : B_P_init z ws0 mc ms Post) {a : Nat} {f0 f1 f2 f3 f4 f5 f6 f7 f8 f9 f10 : Value} {x : Int32} {l0 l1 l2 l3 : Option Value} {M : mM} {k n : Nat} (hM : M a = some (.inr (3, [f0, f1, f2, f3, f4, f5, f6, f7, f8, f9, f10]))) (h : RN z 36 [l0, l1, l2, l3] [] (mS M a (.inr (3, [f0, f1, f2, f3, f4, f5, .int x, f7, f8, f9, f10]))) k n) : RN z 33 [l0, l1, l2, l3] [.int x, .ref a] M k n := R_put X.1 inX3 rfl 6 (Nat.le_of_ble_eq_true rfl) tyX3 tyX3_ok nmX3 wd_82 rfl (by decide +kernel : parseFieldDescriptor (TX3 6).2.2.1 = some (.int)) rfl rfl d_P_init_33 hM (Nat.le_of_ble_eq_true rfl) h
theorem i_P_init_36 {z : zT} {ws0 : va_W} {mc ms : Nat} {Post : Option Value → mM → Prop} (X : B_P_init z ws0 mc ms Post) {v : Value} {l1 l2 l3 : Option Value} {M : mM} {k n : Nat} (hv : mRf v := by first | exact mRf_r _ | exact mRf_n | exact mRf_rf _ | assumption) (h : RN z 37 [some v, l1, l2, l3] [v] M k n) : RN z 36 [some v, l1, l2, l3] [] M k n := R_aload_n X.1 d_P_init_36 rfl rfl hv h
theorem i_P_init_37 {z : zT} {ws0 : va_W} {mc ms : Nat} {Post : Option Value → mM → Prop} (X : B_P_init z ws0 mc ms Post) {l0 l1 l2 l3 : Option Value} {s0 : Value} {M : mM} {k n : Nat}  (h : RN z 38 [l0, l1, l2, l3] [.int 0, s0] M k n) : RN z 37 [l0, l1, l2, l3] [s0] M k n := R_iconst X.1 d_P_init_37 (by decide) h
theorem i_P_init_38 {z : zT} {ws0 : va_W} {mc ms : Nat} {Post : Option Value → mM → Prop} (X : B_P_init z ws0 mc ms Post) {a : Nat} {f0 f1 f2 f3 f4 f5 f6 f7 f8 f9 f10 : Value} {x : Int32} {l0 l1 l2 l3 : Option Value} {M : mM} {k n : Nat} (hM : M a = some (.inr (3, [f0, f1, f2, f3, f4, f5, f6, f7, f8, f9, f10]))) (h : RN z 41 [l0, l1, l2, l3] [] (mS M a (.inr (3, [f0, f1, f2, f3, f4, f5, f6, .int x, f8, f9, f10]))) k n) : RN z 38 [l0, l1, l2, l3] [.int x, .ref a] M k n := R_put X.1 inX3 rfl 7 (Nat.le_of_ble_eq_true rfl) tyX3 tyX3_ok nmX3 wd_83 rfl (by decide +kernel : parseFieldDescriptor (TX3 7).2.2.1 = some (.int)) rfl rfl d_P_init_38 hM (Nat.le_of_ble_eq_true rfl) h
theorem i_P_init_41 {z : zT} {ws0 : va_W} {mc ms : Nat} {Post : Option Value → mM → Prop} (X : B_P_init z ws0 mc ms Post) {v : Value} {l1 l2 l3 : Option Value} {M : mM} {k n : Nat} (hv : mRf v := by first | exact mRf_r _ | exact mRf_n | exact mRf_rf _ | assumption) (h : RN z 42 [some v, l1, l2, l3] [v] M k n) : RN z 41 [some v, l1, l2, l3] [] M k n := R_aload_n X.1 d_P_init_41 rfl rfl hv h
theorem i_P_init_42 {z : zT} {ws0 : va_W} {mc ms : Nat} {Post : Option Value → mM → Prop} (X : B_P_init z ws0 mc ms Post) {l0 l1 l2 l3 : Option Value} {s0 : Value} {M : mM} {k n : Nat}  (h : RN z 43 [l0, l1, l2, l3] [.int 1, s0] M k n) : RN z 42 [l0, l1, l2, l3] [s0] M k n := R_iconst X.1 d_P_init_42 (by decide) h
theorem i_P_init_43 {z : zT} {ws0 : va_W} {mc ms : Nat} {Post : Option Value → mM → Prop} (X : B_P_init z ws0 mc ms Post) {a : Nat} {f0 f1 f2 f3 f4 f5 f6 f7 f8 f9 f10 : Value} {x : Int32} {l0 l1 l2 l3 : Option Value} {M : mM} {k n : Nat} (hM : M a = some (.inr (3, [f0, f1, f2, f3, f4, f5, f6, f7, f8, f9, f10]))) (h : RN z 46 [l0, l1, l2, l3] [] (mS M a (.inr (3, [f0, f1, f2, f3, f4, f5, f6, f7, .int x, f9, f10]))) k n) : RN z 43 [l0, l1, l2, l3] [.int x, .ref a] M k n := R_put X.1 inX3 rfl 8 (Nat.le_of_ble_eq_true rfl) tyX3 tyX3_ok nmX3 wd_84 rfl (by decide +kernel : parseFieldDescriptor (TX3 8).2.2.1 = some (.int)) rfl rfl d_P_init_43 hM (Nat.le_of_ble_eq_true rfl) h
theorem i_P_init_46 {z : zT} {ws0 : va_W} {mc ms : Nat} {Post : Option Value → mM → Prop} (X : B_P_init z ws0 mc ms Post) {v : Value} {l1 l2 l3 : Option Value} {M : mM} {k n : Nat} (hv : mRf v := by first | exact mRf_r _ | exact mRf_n | exact mRf_rf _ | assumption) (h : RN z 47 [some v, l1, l2, l3] [v] M k n) : RN z 46 [some v, l1, l2, l3] [] M k n := R_aload_n X.1 d_P_init_46 rfl rfl hv h
theorem i_P_init_47 {z : zT} {ws0 : va_W} {mc ms : Nat} {Post : Option Value → mM → Prop} (X : B_P_init z ws0 mc ms Post) {l0 l1 l2 l3 : Option Value} {s0 : Value} {M : mM} {k n : Nat}  (h : RN z 48 [l0, l1, l2, l3] [.int 0, s0] M k n) : RN z 47 [l0, l1, l2, l3] [s0] M k n := R_iconst X.1 d_P_init_47 (by decide) h
theorem i_P_init_48 {z : zT} {ws0 : va_W} {mc ms : Nat} {Post : Option Value → mM → Prop} (X : B_P_init z ws0 mc ms Post) {a : Nat} {f0 f1 f2 f3 f4 f5 f6 f7 f8 f9 f10 : Value} {x : Int32} {l0 l1 l2 l3 : Option Value} {M : mM} {k n : Nat} (hM : M a = some (.inr (3, [f0, f1, f2, f3, f4, f5, f6, f7, f8, f9, f10]))) (h : RN z 51 [l0, l1, l2, l3] [] (mS M a (.inr (3, [f0, f1, f2, f3, f4, f5, f6, f7, f8, .int x, f10]))) k n) : RN z 48 [l0, l1, l2, l3] [.int x, .ref a] M k n := R_put X.1 inX3 rfl 9 (Nat.le_of_ble_eq_true rfl) tyX3 tyX3_ok nmX3 wd_85 rfl (by decide +kernel : parseFieldDescriptor (TX3 9).2.2.1 = some (.int)) rfl rfl d_P_init_48 hM (Nat.le_of_ble_eq_true rfl) h
theorem i_P_init_51 {z : zT} {ws0 : va_W} {mc ms : Nat} {Post : Option Value → mM → Prop} (X : B_P_init z ws0 mc ms Post) {v : Value} {l1 l2 l3 : Option Value} {M : mM} {k n : Nat} (hv : mRf v := by first | exact mRf_r _ | exact mRf_n | exact mRf_rf _ | assumption) (h : RN z 52 [some v, l1, l2, l3] [v] M k n) : RN z 51 [some v, l1, l2, l3] [] M k n := R_aload_n X.1 d_P_init_51 rfl rfl hv h
theorem i_P_init_52 {z : zT} {ws0 : va_W} {mc ms : Nat} {Post : Option Value → mM → Prop} (X : B_P_init z ws0 mc ms Post) {l0 l1 l2 l3 : Option Value} {s0 : Value} {M : mM} {k n : Nat}  (h : RN z 53 [l0, l1, l2, l3] [.int 0, s0] M k n) : RN z 52 [l0, l1, l2, l3] [s0] M k n := R_iconst X.1 d_P_init_52 (by decide) h
theorem i_P_init_53 {z : zT} {ws0 : va_W} {mc ms : Nat} {Post : Option Value → mM → Prop} (X : B_P_init z ws0 mc ms Post) {a : Nat} {f0 f1 f2 f3 f4 f5 f6 f7 f8 f9 f10 : Value} {x : Int32} {l0 l1 l2 l3 : Option Value} {M : mM} {k n : Nat} (hM : M a = some (.inr (3, [f0, f1, f2, f3, f4, f5, f6, f7, f8, f9, f10]))) (h : RN z 56 [l0, l1, l2, l3] [] (mS M a (.inr (3, [f0, f1, f2, f3, f4, f5, f6, f7, f8, f9, .int x]))) k n) : RN z 53 [l0, l1, l2, l3] [.int x, .ref a] M k n := R_put X.1 inX3 rfl 10 (Nat.le_of_ble_eq_true rfl) tyX3 tyX3_ok nmX3 wd_86 rfl (by decide +kernel : parseFieldDescriptor (TX3 10).2.2.1 = some (.int)) rfl rfl d_P_init_53 hM (Nat.le_of_ble_eq_true rfl) h
theorem i_P_init_56 {z : zT} {ws0 : va_W} {mc ms : Nat} {Post : Option Value → mM → Prop} (X : B_P_init z ws0 mc ms Post) {v : Value} {l1 l2 l3 : Option Value} {M : mM} {k n : Nat} (hv : mRf v := by first | exact mRf_r _ | exact mRf_n | exact mRf_rf _ | assumption) (h : RN z 57 [some v, l1, l2, l3] [v] M k n) : RN z 56 [some v, l1, l2, l3] [] M k n := R_aload_n X.1 d_P_init_56 rfl rfl hv h
theorem i_P_init_57 {z : zT} {ws0 : va_W} {mc ms : Nat} {Post : Option Value → mM → Prop} (X : B_P_init z ws0 mc ms Post) {x : Int32} {l0 l2 l3 : Option Value} {s0 : Value} {M : mM} {k n : Nat}  (h : RN z 58 [l0, some (.int x), l2, l3] [.int x, s0] M k n) : RN z 57 [l0, some (.int x), l2, l3] [s0] M k n := R_iload_n X.1 d_P_init_57 rfl rfl h
theorem i_P_init_58 {z : zT} {ws0 : va_W} {mc ms : Nat} {Post : Option Value → mM → Prop} (X : B_P_init z ws0 mc ms Post) {a0 : Value} {mc1 ms1 : Nat} {Po : Option Value → mM → Prop} {l0 l1 l2 l3 : Option Value} {s0 : Value} {M : mM} {k n : Nat} (hC : Ct (zl z) (zD z) (zty z) y_P_clamp w_P_clamp 1 15 mc1 ms1 [a0] M Po) (hk : k + mc1 ≤ mc) (hn : n + ms1 ≤ ms) (h : ∀ v M1, Po v M1 → RN z 61 [l0, l1, l2, l3] (v.toList ++ [s0]) M1 (k + mc1) (n + ms1)) : RN z 58 [l0, l1, l2, l3] [a0, s0] M k n := R_callS X.1 (av := [a0]) (nA := 1) wd_48 wd_46 wd_47 wd_30 (by decide +kernel) rfl (Nat.le_of_ble_eq_true rfl) (Nat.le_of_ble_eq_true rfl) (Nat.le_of_ble_eq_true rfl) d_P_init_58 rfl hC (by rw [BM.rc1 X.2]; exact hk) (by rw [BM.rc2 X.2]; exact hn) h
theorem i_P_init_61 {z : zT} {ws0 : va_W} {mc ms : Nat} {Post : Option Value → mM → Prop} (X : B_P_init z ws0 mc ms Post) {a : Nat} {f0 f1 f2 f3 f4 f5 f6 f7 f8 f9 f10 : Value} {x : Int32} {l0 l1 l2 l3 : Option Value} {M : mM} {k n : Nat} (hM : M a = some (.inr (3, [f0, f1, f2, f3, f4, f5, f6, f7, f8, f9, f10]))) (h : RN z 64 [l0, l1, l2, l3] [] (mS M a (.inr (3, [.int x, f1, f2, f3, f4, f5, f6, f7, f8, f9, f10]))) k n) : RN z 61 [l0, l1, l2, l3] [.int x, .ref a] M k n := R_putF X.1 inX3 rfl 0 (Nat.le_of_ble_eq_true rfl) tyX3 tyX3_ok nmX3 wd_76 rfl rfl rfl (by decide +kernel : parseFieldDescriptor (TX3 0).2.2.1 = some (.int)) rfl rfl d_P_init_61 hM (Nat.le_of_ble_eq_true rfl) h
theorem i_P_init_64 {z : zT} {ws0 : va_W} {mc ms : Nat} {Post : Option Value → mM → Prop} (X : B_P_init z ws0 mc ms Post) {v : Value} {l1 l2 l3 : Option Value} {M : mM} {k n : Nat} (hv : mRf v := by first | exact mRf_r _ | exact mRf_n | exact mRf_rf _ | assumption) (h : RN z 65 [some v, l1, l2, l3] [v] M k n) : RN z 64 [some v, l1, l2, l3] [] M k n := R_aload_n X.1 d_P_init_64 rfl rfl hv h
theorem i_P_init_65 {z : zT} {ws0 : va_W} {mc ms : Nat} {Post : Option Value → mM → Prop} (X : B_P_init z ws0 mc ms Post) {x : Int32} {l0 l1 l3 : Option Value} {s0 : Value} {M : mM} {k n : Nat}  (h : RN z 66 [l0, l1, some (.int x), l3] [.int x, s0] M k n) : RN z 65 [l0, l1, some (.int x), l3] [s0] M k n := R_iload_n X.1 d_P_init_65 rfl rfl h
theorem i_P_init_66 {z : zT} {ws0 : va_W} {mc ms : Nat} {Post : Option Value → mM → Prop} (X : B_P_init z ws0 mc ms Post) {a0 : Value} {mc1 ms1 : Nat} {Po : Option Value → mM → Prop} {l0 l1 l2 l3 : Option Value} {s0 : Value} {M : mM} {k n : Nat} (hC : Ct (zl z) (zD z) (zty z) y_P_clamp w_P_clamp 1 15 mc1 ms1 [a0] M Po) (hk : k + mc1 ≤ mc) (hn : n + ms1 ≤ ms) (h : ∀ v M1, Po v M1 → RN z 69 [l0, l1, l2, l3] (v.toList ++ [s0]) M1 (k + mc1) (n + ms1)) : RN z 66 [l0, l1, l2, l3] [a0, s0] M k n := R_callS X.1 (av := [a0]) (nA := 1) wd_48 wd_46 wd_47 wd_30 (by decide +kernel) rfl (Nat.le_of_ble_eq_true rfl) (Nat.le_of_ble_eq_true rfl) (Nat.le_of_ble_eq_true rfl) d_P_init_66 rfl hC (by rw [BM.rc1 X.2]; exact hk) (by rw [BM.rc2 X.2]; exact hn) h
theorem i_P_init_69 {z : zT} {ws0 : va_W} {mc ms : Nat} {Post : Option Value → mM → Prop} (X : B_P_init z ws0 mc ms Post) {a : Nat} {f0 f1 f2 f3 f4 f5 f6 f7 f8 f9 f10 : Value} {x : Int32} {l0 l1 l2 l3 : Option Value} {M : mM} {k n : Nat} (hM : M a = some (.inr (3, [f0, f1, f2, f3, f4, f5, f6, f7, f8, f9, f10]))) (h : RN z 72 [l0, l1, l2, l3] [] (mS M a (.inr (3, [f0, .int x, f2, f3, f4, f5, f6, f7, f8, f9, f10]))) k n) : RN z 69 [l0, l1, l2, l3] [.int x, .ref a] M k n := R_putF X.1 inX3 rfl 1 (Nat.le_of_ble_eq_true rfl) tyX3 tyX3_ok nmX3 wd_77 rfl rfl rfl (by decide +kernel : parseFieldDescriptor (TX3 1).2.2.1 = some (.int)) rfl rfl d_P_init_69 hM (Nat.le_of_ble_eq_true rfl) h
theorem i_P_init_72 {z : zT} {ws0 : va_W} {mc ms : Nat} {Post : Option Value → mM → Prop} (X : B_P_init z ws0 mc ms Post) {l0 l1 l2 l3 : Option Value} {M : mM} {k n : Nat}  (h : RN z 73 [l0, l1, l2, l3] [.int 0] M k n) : RN z 72 [l0, l1, l2, l3] [] M k n := R_iconst X.1 d_P_init_72 (by decide) h
theorem i_P_init_73 {z : zT} {ws0 : va_W} {mc ms : Nat} {Post : Option Value → mM → Prop} (X : B_P_init z ws0 mc ms Post) {x : Int32} {l0 l1 l2 l3 : Option Value} {M : mM} {k n : Nat}  (h : RN z 74 [l0, l1, l2, some (.int x)] [] M k n) : RN z 73 [l0, l1, l2, l3] [.int x] M k n := R_istore_n X.1 d_P_init_73 rfl (Nat.le_of_ble_eq_true rfl) h
theorem i_P_init_74 {z : zT} {ws0 : va_W} {mc ms : Nat} {Post : Option Value → mM → Prop} (X : B_P_init z ws0 mc ms Post) {x : Int32} {l0 l1 l2 : Option Value} {M : mM} {k n : Nat}  (h : RN z 75 [l0, l1, l2, some (.int x)] [.int x] M k n) : RN z 74 [l0, l1, l2, some (.int x)] [] M k n := R_iload_n X.1 d_P_init_74 rfl rfl h
theorem i_P_init_75 {z : zT} {ws0 : va_W} {mc ms : Nat} {Post : Option Value → mM → Prop} (X : B_P_init z ws0 mc ms Post) {l0 l1 l2 l3 : Option Value} {s0 : Value} {M : mM} {k n : Nat}  (h : RN z 77 [l0, l1, l2, l3] [.int 24, s0] M k n) : RN z 75 [l0, l1, l2, l3] [s0] M k n := R_bipush X.1 d_P_init_75 (by decide) h
theorem i_P_init_77 {z : zT} {ws0 : va_W} {mc ms : Nat} {Post : Option Value → mM → Prop} (X : B_P_init z ws0 mc ms Post) {x y : Int32} {l0 l1 l2 l3 : Option Value} {M : mM} {k n : Nat}  (h1 : y ≤ x → RN z 99 [l0, l1, l2, l3] [] M k n) (h2 : ¬ (y ≤ x) → RN z 80 [l0, l1, l2, l3] [] M k n) : RN z 77 [l0, l1, l2, l3] [.int y, .int x] M k n := R_icmp_ge X.1 d_P_init_77 (by decide) h1 h2
theorem i_P_init_80 {z : zT} {ws0 : va_W} {mc ms : Nat} {Post : Option Value → mM → Prop} (X : B_P_init z ws0 mc ms Post) {v : Value} {l1 l2 l3 : Option Value} {M : mM} {k n : Nat} (hv : mRf v := by first | exact mRf_r _ | exact mRf_n | exact mRf_rf _ | assumption) (h : RN z 81 [some v, l1, l2, l3] [v] M k n) : RN z 80 [some v, l1, l2, l3] [] M k n := R_aload_n X.1 d_P_init_80 rfl rfl hv h
theorem i_P_init_81 {z : zT} {ws0 : va_W} {mc ms : Nat} {Post : Option Value → mM → Prop} (X : B_P_init z ws0 mc ms Post) {a : Nat} {f0 f1 f2 f3 f4 f5 f6 f7 f8 f9 f10 : Value} {l0 l1 l2 l3 : Option Value} {M : mM} {k n : Nat} (hM : M a = some (.inr (3, [f0, f1, f2, f3, f4, f5, f6, f7, f8, f9, f10]))) (h : RN z 84 [l0, l1, l2, l3] [f2] M k n) : RN z 81 [l0, l1, l2, l3] [.ref a] M k n := R_get X.1 inX3 rfl 2 (Nat.le_of_ble_eq_true rfl) wd_78 d_P_init_81 hM rfl h
theorem i_P_init_84 {z : zT} {ws0 : va_W} {mc ms : Nat} {Post : Option Value → mM → Prop} (X : B_P_init z ws0 mc ms Post) {x : Int32} {l0 l1 l2 : Option Value} {s0 : Value} {M : mM} {k n : Nat}  (h : RN z 85 [l0, l1, l2, some (.int x)] [.int x, s0] M k n) : RN z 84 [l0, l1, l2, some (.int x)] [s0] M k n := R_iload_n X.1 d_P_init_84 rfl rfl h
theorem i_P_init_85 {z : zT} {ws0 : va_W} {mc ms : Nat} {Post : Option Value → mM → Prop} (X : B_P_init z ws0 mc ms Post) {l0 l1 l2 l3 : Option Value} {s0 s1 : Value} {M : mM} {k n : Nat} (hk : k + 1 ≤ mc) (hn : n + 4 ≤ ms) (h : ∀ q, M q = none → RN z 88 [l0, l1, l2, l3] [.ref q, s0, s1] (mS M q (.inr (0, [.null, .null, .null, .null]))) (k + 1) (n + 4)) : RN z 85 [l0, l1, l2, l3] [s0, s1] M k n := R_new X.1 inX0 rfl tyX0 tyX0_ok wd_44 wd_55 wd_32 (fun j hj => by rcases (show j = 0 ∨ j = 1 ∨ j = 2 ∨ j = 3 by omega) with rfl | rfl | rfl | rfl <;> rfl) d_P_init_85 (by rw [BM.rc1 X.2]; exact hk) (by rw [BM.rc2 X.2]; exact hn) h
theorem i_P_init_88 {z : zT} {ws0 : va_W} {mc ms : Nat} {Post : Option Value → mM → Prop} (X : B_P_init z ws0 mc ms Post) {a : Nat} {l0 l1 l2 l3 : Option Value} {s0 s1 : Value} {M : mM} {k n : Nat}  (h : RN z 89 [l0, l1, l2, l3] [.ref a, .ref a, s0, s1] M k n) : RN z 88 [l0, l1, l2, l3] [.ref a, s0, s1] M k n := R_dup X.1 d_P_init_88 rfl h
theorem i_P_init_89 {z : zT} {ws0 : va_W} {mc ms : Nat} {Post : Option Value → mM → Prop} (X : B_P_init z ws0 mc ms Post) {b : Nat} {mc1 ms1 : Nat} {Po : Option Value → mM → Prop} {l0 l1 l2 l3 : Option Value} {s0 s1 s2 : Value} {M : mM} {k n : Nat} (hC : Ct (zl z) (zD z) (zty z) y_N_init w_N_init 1 12 mc1 ms1 [.ref b] M Po) (hk : k + mc1 ≤ mc) (hn : n + ms1 ≤ ms) (h : ∀ v M1, Po v M1 → RN z 92 [l0, l1, l2, l3] (v.toList ++ [s0, s1, s2]) M1 (k + mc1) (n + ms1)) : RN z 89 [l0, l1, l2, l3] [.ref b, s0, s1, s2] M k n := R_callIN X.1 (host := RX3) (av := []) (nA := 0) wd_58 wd_32 ⟨rfl, rfl, rfl, rfl⟩ wd_57 rfl (by decide +kernel) rfl (Nat.le_of_ble_eq_true rfl) (Nat.le_of_ble_eq_true rfl) (Nat.le_of_ble_eq_true rfl) d_P_init_89 rfl hC (by rw [BM.rc1 X.2]; exact hk) (by rw [BM.rc2 X.2]; exact hn) h
theorem i_P_init_92 {z : zT} {ws0 : va_W} {mc ms : Nat} {Post : Option Value → mM → Prop} (X : B_P_init z ws0 mc ms Post) {cI cB cN : ClassId} (G : GT z cI cB cN) {a w j : Nat} {i : Int32} {f : Nat → Option Nat} {v : Nat} {vs : List Value} {l0 l1 l2 l3 : Option Value} {M : mM} {k n : Nat} (hM : M a = some (.inl (cN, w, .inr (.inr (.inr (.inr f)))))) (hv : M v = some (.inr (0, vs))) (hx : i = nI j) (hj : j < w) (hw : w < 2 ^ 31 := by decide) (h : RN z 93 [l0, l1, l2, l3] [] (mS M a (.inl (cN, w, .inr (.inr (.inr (.inr (va_up f j (some v)))))))) k n) : RN z 92 [l0, l1, l2, l3] [.ref v, .int i, .ref a] M k n := R_aast X.1 2 G.2.2 (ci := 0) rfl d_P_init_92 hM hv (by rw [hx]; exact vp_in_nI hj hw) (by rw [hx, nI_clamp (by omega)]; exact h)
theorem i_P_init_93 {z : zT} {ws0 : va_W} {mc ms : Nat} {Post : Option Value → mM → Prop} (X : B_P_init z ws0 mc ms Post) {x : Int32} {l0 l1 l2 : Option Value} {M : mM} {k n : Nat}  (h : RN z 96 [l0, l1, l2, some (.int (x + 1))] [] M k n) : RN z 93 [l0, l1, l2, some (.int x)] [] M k n := R_iinc X.1 d_P_init_93 rfl rfl h
theorem i_P_init_96 {z : zT} {ws0 : va_W} {mc ms : Nat} {Post : Option Value → mM → Prop} (X : B_P_init z ws0 mc ms Post) {l0 l1 l2 l3 : Option Value} {M : mM} {k n : Nat}  (h : RN z 74 [l0, l1, l2, l3] [] M k n) : RN z 96 [l0, l1, l2, l3] [] M k n := R_goto X.1 d_P_init_96 (by decide) h
theorem i_P_init_99 {z : zT} {ws0 : va_W} {mc ms : Nat} {Post : Option Value → mM → Prop} (X : B_P_init z ws0 mc ms Post) {l0 l1 l2 l3 : Option Value} {M : mM} {k n : Nat} (hk : k ≤ mc) (hn : n ≤ ms) (hp : Post none M) : RN z 99 [l0, l1, l2, l3] [] M k n := R_vret X.1 X.2 d_P_init_99 hk hn hp
theorem d_P_tick_0 : decode c_P_tick 0 = .ok (.iload_n 1, 1) := by decide +kernel
theorem d_P_tick_1 : decode c_P_tick 1 = .ok (.ifCond .lt 10, 3) := by decide +kernel
theorem d_P_tick_4 : decode c_P_tick 4 = .ok (.iload_n 1, 1) := by decide +kernel
theorem d_P_tick_5 : decode c_P_tick 5 = .ok (.sipush 1000, 3) := by decide +kernel
theorem d_P_tick_8 : decode c_P_tick 8 = .ok (.if_icmp .le 5, 3) := by decide +kernel
theorem d_P_tick_11 : decode c_P_tick 11 = .ok (.iconst (-1), 1) := by decide +kernel
theorem d_P_tick_12 : decode c_P_tick 12 = .ok (.ireturn, 1) := by decide +kernel
theorem d_P_tick_13 : decode c_P_tick 13 = .ok (.aload_n 0, 1) := by decide +kernel
theorem d_P_tick_14 : decode c_P_tick 14 = .ok (.dup, 1) := by decide +kernel
theorem d_P_tick_15 : decode c_P_tick 15 = .ok (.getfield 19, 3) := by decide +kernel
theorem d_P_tick_18 : decode c_P_tick 18 = .ok (.iload_n 1, 1) := by decide +kernel
theorem d_P_tick_19 : decode c_P_tick 19 = .ok (.iadd, 1) := by decide +kernel
theorem d_P_tick_20 : decode c_P_tick 20 = .ok (.putfield 19, 3) := by decide +kernel
theorem d_P_tick_23 : decode c_P_tick 23 = .ok (.aload_n 0, 1) := by decide +kernel
theorem d_P_tick_24 : decode c_P_tick 24 = .ok (.getfield 19, 3) := by decide +kernel
theorem d_P_tick_27 : decode c_P_tick 27 = .ok (.ireturn, 1) := by decide +kernel
abbrev B_P_tick (z : zT) (ws0 : va_W) (mc ms : Nat) (Post : Option Value → mM → Prop) : Prop := BX z c_P_tick 2 y_P_tick.cls y_P_tick.name 0 0 ∧ BQ z (some (.int)) ws0 mc ms Post
abbrev Ct_P_tick (l : Launch) (D : va_G) (tys : List (ClassId × FieldType)) (mc ms : Nat) (av : List Value) (M : mM) (Post : Option Value → mM → Prop) : Prop := Ct l D tys y_P_tick w_P_tick 0 0 mc ms av M Post
theorem i_P_tick_0 {z : zT} {ws0 : va_W} {mc ms : Nat} {Post : Option Value → mM → Prop} (X : B_P_tick z ws0 mc ms Post) {x : Int32} {l0 : Option Value} {M : mM} {k n : Nat}  (h : RN z 1 [l0, some (.int x)] [.int x] M k n) : RN z 0 [l0, some (.int x)] [] M k n := R_iload_n X.1 d_P_tick_0 rfl rfl h
theorem i_P_tick_1 {z : zT} {ws0 : va_W} {mc ms : Nat} {Post : Option Value → mM → Prop} (X : B_P_tick z ws0 mc ms Post) {x : Int32} {l0 l1 : Option Value} {M : mM} {k n : Nat}  (h1 : x < 0 → RN z 11 [l0, l1] [] M k n) (h2 : ¬ (x < 0) → RN z 4 [l0, l1] [] M k n) : RN z 1 [l0, l1] [.int x] M k n := R_if_lt X.1 d_P_tick_1 (by decide) h1 h2
theorem i_P_tick_4 {z : zT} {ws0 : va_W} {mc ms : Nat} {Post : Option Value → mM → Prop} (X : B_P_tick z ws0 mc ms Post) {x : Int32} {l0 : Option Value} {M : mM} {k n : Nat}  (h : RN z 5 [l0, some (.int x)] [.int x] M k n) : RN z 4 [l0, some (.int x)] [] M k n := R_iload_n X.1 d_P_tick_4 rfl rfl h
theorem i_P_tick_5 {z : zT} {ws0 : va_W} {mc ms : Nat} {Post : Option Value → mM → Prop} (X : B_P_tick z ws0 mc ms Post) {l0 l1 : Option Value} {s0 : Value} {M : mM} {k n : Nat}  (h : RN z 8 [l0, l1] [.int 1000, s0] M k n) : RN z 5 [l0, l1] [s0] M k n := R_sipush X.1 d_P_tick_5 (by decide) h
theorem i_P_tick_8 {z : zT} {ws0 : va_W} {mc ms : Nat} {Post : Option Value → mM → Prop} (X : B_P_tick z ws0 mc ms Post) {x y : Int32} {l0 l1 : Option Value} {M : mM} {k n : Nat}  (h1 : x ≤ y → RN z 13 [l0, l1] [] M k n) (h2 : ¬ (x ≤ y) → RN z 11 [l0, l1] [] M k n) : RN z 8 [l0, l1] [.int y, .int x] M k n := R_icmp_le X.1 d_P_tick_8 (by decide) h1 h2
theorem i_P_tick_11 {z : zT} {ws0 : va_W} {mc ms : Nat} {Post : Option Value → mM → Prop} (X : B_P_tick z ws0 mc ms Post) {l0 l1 : Option Value} {M : mM} {k n : Nat}  (h : RN z 12 [l0, l1] [.int (-1)] M k n) : RN z 11 [l0, l1] [] M k n := R_iconst X.1 d_P_tick_11 (by decide) h
theorem i_P_tick_12 {z : zT} {ws0 : va_W} {mc ms : Nat} {Post : Option Value → mM → Prop} (X : B_P_tick z ws0 mc ms Post) {x : Int32} {l0 l1 : Option Value} {M : mM} {k n : Nat} (hk : k ≤ mc) (hn : n ≤ ms) (hp : Post (some (.int x)) M) : RN z 12 [l0, l1] [.int x] M k n := R_iret X.1 X.2 d_P_tick_12 hk hn hp
theorem i_P_tick_13 {z : zT} {ws0 : va_W} {mc ms : Nat} {Post : Option Value → mM → Prop} (X : B_P_tick z ws0 mc ms Post) {v : Value} {l1 : Option Value} {M : mM} {k n : Nat} (hv : mRf v := by first | exact mRf_r _ | exact mRf_n | exact mRf_rf _ | assumption) (h : RN z 14 [some v, l1] [v] M k n) : RN z 13 [some v, l1] [] M k n := R_aload_n X.1 d_P_tick_13 rfl rfl hv h
theorem i_P_tick_14 {z : zT} {ws0 : va_W} {mc ms : Nat} {Post : Option Value → mM → Prop} (X : B_P_tick z ws0 mc ms Post) {a : Nat} {l0 l1 : Option Value} {M : mM} {k n : Nat}  (h : RN z 15 [l0, l1] [.ref a, .ref a] M k n) : RN z 14 [l0, l1] [.ref a] M k n := R_dup X.1 d_P_tick_14 rfl h
theorem i_P_tick_15 {z : zT} {ws0 : va_W} {mc ms : Nat} {Post : Option Value → mM → Prop} (X : B_P_tick z ws0 mc ms Post) {a : Nat} {f0 f1 f2 f3 f4 f5 f6 f7 f8 f9 f10 : Value} {l0 l1 : Option Value} {s0 : Value} {M : mM} {k n : Nat} (hM : M a = some (.inr (3, [f0, f1, f2, f3, f4, f5, f6, f7, f8, f9, f10]))) (h : RN z 18 [l0, l1] [f4, s0] M k n) : RN z 15 [l0, l1] [.ref a, s0] M k n := R_get X.1 inX3 rfl 4 (Nat.le_of_ble_eq_true rfl) wd_80 d_P_tick_15 hM rfl h
theorem i_P_tick_18 {z : zT} {ws0 : va_W} {mc ms : Nat} {Post : Option Value → mM → Prop} (X : B_P_tick z ws0 mc ms Post) {x : Int32} {l0 : Option Value} {s0 s1 : Value} {M : mM} {k n : Nat}  (h : RN z 19 [l0, some (.int x)] [.int x, s0, s1] M k n) : RN z 18 [l0, some (.int x)] [s0, s1] M k n := R_iload_n X.1 d_P_tick_18 rfl rfl h
theorem i_P_tick_19 {z : zT} {ws0 : va_W} {mc ms : Nat} {Post : Option Value → mM → Prop} (X : B_P_tick z ws0 mc ms Post) {x y : Int32} {l0 l1 : Option Value} {s0 : Value} {M : mM} {k n : Nat}  (h : RN z 20 [l0, l1] [.int (x + y), s0] M k n) : RN z 19 [l0, l1] [.int y, .int x, s0] M k n := R_iadd X.1 d_P_tick_19 h
theorem i_P_tick_20 {z : zT} {ws0 : va_W} {mc ms : Nat} {Post : Option Value → mM → Prop} (X : B_P_tick z ws0 mc ms Post) {a : Nat} {f0 f1 f2 f3 f4 f5 f6 f7 f8 f9 f10 : Value} {x : Int32} {l0 l1 : Option Value} {M : mM} {k n : Nat} (hM : M a = some (.inr (3, [f0, f1, f2, f3, f4, f5, f6, f7, f8, f9, f10]))) (h : RN z 23 [l0, l1] [] (mS M a (.inr (3, [f0, f1, f2, f3, .int x, f5, f6, f7, f8, f9, f10]))) k n) : RN z 20 [l0, l1] [.int x, .ref a] M k n := R_put X.1 inX3 rfl 4 (Nat.le_of_ble_eq_true rfl) tyX3 tyX3_ok nmX3 wd_80 rfl (by decide +kernel : parseFieldDescriptor (TX3 4).2.2.1 = some (.int)) rfl rfl d_P_tick_20 hM (Nat.le_of_ble_eq_true rfl) h
theorem i_P_tick_23 {z : zT} {ws0 : va_W} {mc ms : Nat} {Post : Option Value → mM → Prop} (X : B_P_tick z ws0 mc ms Post) {v : Value} {l1 : Option Value} {M : mM} {k n : Nat} (hv : mRf v := by first | exact mRf_r _ | exact mRf_n | exact mRf_rf _ | assumption) (h : RN z 24 [some v, l1] [v] M k n) : RN z 23 [some v, l1] [] M k n := R_aload_n X.1 d_P_tick_23 rfl rfl hv h
theorem i_P_tick_24 {z : zT} {ws0 : va_W} {mc ms : Nat} {Post : Option Value → mM → Prop} (X : B_P_tick z ws0 mc ms Post) {a : Nat} {f0 f1 f2 f3 f4 f5 f6 f7 f8 f9 f10 : Value} {l0 l1 : Option Value} {M : mM} {k n : Nat} (hM : M a = some (.inr (3, [f0, f1, f2, f3, f4, f5, f6, f7, f8, f9, f10]))) (h : RN z 27 [l0, l1] [f4] M k n) : RN z 24 [l0, l1] [.ref a] M k n := R_get X.1 inX3 rfl 4 (Nat.le_of_ble_eq_true rfl) wd_80 d_P_tick_24 hM rfl h
theorem i_P_tick_27 {z : zT} {ws0 : va_W} {mc ms : Nat} {Post : Option Value → mM → Prop} (X : B_P_tick z ws0 mc ms Post) {x : Int32} {l0 l1 : Option Value} {M : mM} {k n : Nat} (hk : k ≤ mc) (hn : n ≤ ms) (hp : Post (some (.int x)) M) : RN z 27 [l0, l1] [.int x] M k n := R_iret X.1 X.2 d_P_tick_27 hk hn hp
theorem d_P_make_0 : decode c_P_make 0 = .ok (.aload_n 0, 1) := by decide +kernel
theorem d_P_make_1 : decode c_P_make 1 = .ok (.iload_n 1, 1) := by decide +kernel
theorem d_P_make_2 : decode c_P_make 2 = .ok (.invokevirtual 52, 3) := by decide +kernel
theorem d_P_make_5 : decode c_P_make 5 = .ok (.ifCond .eq 10, 3) := by decide +kernel
theorem d_P_make_8 : decode c_P_make 8 = .ok (.iload_n 2, 1) := by decide +kernel
theorem d_P_make_9 : decode c_P_make 9 = .ok (.invokestatic 56, 3) := by decide +kernel
theorem d_P_make_12 : decode c_P_make 12 = .ok (.ifCond .ne 5, 3) := by decide +kernel
theorem d_P_make_15 : decode c_P_make 15 = .ok (.iconst (-1), 1) := by decide +kernel
theorem d_P_make_16 : decode c_P_make 16 = .ok (.ireturn, 1) := by decide +kernel
theorem d_P_make_17 : decode c_P_make 17 = .ok (.aload_n 0, 1) := by decide +kernel
theorem d_P_make_18 : decode c_P_make 18 = .ok (.aload_n 0, 1) := by decide +kernel
theorem d_P_make_19 : decode c_P_make 19 = .ok (.getfield 19, 3) := by decide +kernel
theorem d_P_make_22 : decode c_P_make 22 = .ok (.invokevirtual 59, 3) := by decide +kernel
theorem d_P_make_25 : decode c_P_make 25 = .ok (.aload_n 0, 1) := by decide +kernel
theorem d_P_make_26 : decode c_P_make 26 = .ok (.iload_n 1, 1) := by decide +kernel
theorem d_P_make_27 : decode c_P_make 27 = .ok (.iload_n 2, 1) := by decide +kernel
theorem d_P_make_28 : decode c_P_make 28 = .ok (.invokevirtual 63, 3) := by decide +kernel
theorem d_P_make_31 : decode c_P_make 31 = .ok (.ifCond .ne 5, 3) := by decide +kernel
theorem d_P_make_34 : decode c_P_make 34 = .ok (.iconst (-1), 1) := by decide +kernel
theorem d_P_make_35 : decode c_P_make 35 = .ok (.ireturn, 1) := by decide +kernel
theorem d_P_make_36 : decode c_P_make 36 = .ok (.aload_n 0, 1) := by decide +kernel
theorem d_P_make_37 : decode c_P_make 37 = .ok (.getfield 23, 3) := by decide +kernel
theorem d_P_make_40 : decode c_P_make 40 = .ok (.bipush 24, 2) := by decide +kernel
theorem d_P_make_42 : decode c_P_make 42 = .ok (.if_icmp .ge 10, 3) := by decide +kernel
theorem d_P_make_45 : decode c_P_make 45 = .ok (.aload_n 0, 1) := by decide +kernel
theorem d_P_make_46 : decode c_P_make 46 = .ok (.invokevirtual 67, 3) := by decide +kernel
theorem d_P_make_49 : decode c_P_make 49 = .ok (.ifCond .eq 6, 3) := by decide +kernel
theorem d_P_make_52 : decode c_P_make 52 = .ok (.bipush (-2), 2) := by decide +kernel
theorem d_P_make_54 : decode c_P_make 54 = .ok (.ireturn, 1) := by decide +kernel
theorem d_P_make_55 : decode c_P_make 55 = .ok (.aload_n 0, 1) := by decide +kernel
theorem d_P_make_56 : decode c_P_make 56 = .ok (.getfield 23, 3) := by decide +kernel
theorem d_P_make_59 : decode c_P_make 59 = .ok (.istore 4, 2) := by decide +kernel
theorem d_P_make_61 : decode c_P_make 61 = .ok (.aload_n 0, 1) := by decide +kernel
theorem d_P_make_62 : decode c_P_make 62 = .ok (.dup, 1) := by decide +kernel
theorem d_P_make_63 : decode c_P_make 63 = .ok (.getfield 23, 3) := by decide +kernel
theorem d_P_make_66 : decode c_P_make 66 = .ok (.iconst 1, 1) := by decide +kernel
theorem d_P_make_67 : decode c_P_make 67 = .ok (.iadd, 1) := by decide +kernel
theorem d_P_make_68 : decode c_P_make 68 = .ok (.putfield 23, 3) := by decide +kernel
theorem d_P_make_71 : decode c_P_make 71 = .ok (.iload_n 3, 1) := by decide +kernel
theorem d_P_make_72 : decode c_P_make 72 = .ok (.ifCond .ne 29, 3) := by decide +kernel
theorem d_P_make_75 : decode c_P_make 75 = .ok (.aload_n 0, 1) := by decide +kernel
theorem d_P_make_76 : decode c_P_make 76 = .ok (.getfield 11, 3) := by decide +kernel
theorem d_P_make_79 : decode c_P_make 79 = .ok (.iload 4, 2) := by decide +kernel
theorem d_P_make_81 : decode c_P_make 81 = .ok (.aaload, 1) := by decide +kernel
theorem d_P_make_82 : decode c_P_make 82 = .ok (.new 71, 3) := by decide +kernel
theorem d_P_make_85 : decode c_P_make 85 = .ok (.dup, 1) := by decide +kernel
theorem d_P_make_86 : decode c_P_make 86 = .ok (.aload_n 0, 1) := by decide +kernel
theorem d_P_make_87 : decode c_P_make 87 = .ok (.getfield 19, 3) := by decide +kernel
theorem d_P_make_90 : decode c_P_make 90 = .ok (.iconst 0, 1) := by decide +kernel
theorem d_P_make_91 : decode c_P_make 91 = .ok (.iconst 4, 1) := by decide +kernel
theorem d_P_make_92 : decode c_P_make 92 = .ok (.newarray .int, 2) := by decide +kernel
theorem d_P_make_94 : decode c_P_make 94 = .ok (.aconst_null, 1) := by decide +kernel
theorem d_P_make_95 : decode c_P_make 95 = .ok (.invokespecial 73, 3) := by decide +kernel
theorem d_P_make_98 : decode c_P_make 98 = .ok (.putfield 76, 3) := by decide +kernel
theorem d_P_make_101 : decode c_P_make 101 = .ok (.aload_n 0, 1) := by decide +kernel
theorem d_P_make_102 : decode c_P_make 102 = .ok (.iload 4, 2) := by decide +kernel
theorem d_P_make_104 : decode c_P_make 104 = .ok (.iload_n 1, 1) := by decide +kernel
theorem d_P_make_105 : decode c_P_make 105 = .ok (.iload_n 2, 1) := by decide +kernel
theorem d_P_make_106 : decode c_P_make 106 = .ok (.invokestatic 80, 3) := by decide +kernel
theorem d_P_make_109 : decode c_P_make 109 = .ok (.invokevirtual 84, 3) := by decide +kernel
theorem d_P_make_112 : decode c_P_make 112 = .ok (.iload 4, 2) := by decide +kernel
theorem d_P_make_114 : decode c_P_make 114 = .ok (.ireturn, 1) := by decide +kernel
abbrev B_P_make (z : zT) (ws0 : va_W) (mc ms : Nat) (Post : Option Value → mM → Prop) : Prop := BX z c_P_make 5 y_P_make.cls y_P_make.name 3 68 ∧ BQ z (some (.int)) ws0 mc ms Post
abbrev Ct_P_make (l : Launch) (D : va_G) (tys : List (ClassId × FieldType)) (mc ms : Nat) (av : List Value) (M : mM) (Post : Option Value → mM → Prop) : Prop := Ct l D tys y_P_make w_P_make 3 68 mc ms av M Post
theorem i_P_make_0 {z : zT} {ws0 : va_W} {mc ms : Nat} {Post : Option Value → mM → Prop} (X : B_P_make z ws0 mc ms Post) {v : Value} {l1 l2 l3 l4 : Option Value} {M : mM} {k n : Nat} (hv : mRf v := by first | exact mRf_r _ | exact mRf_n | exact mRf_rf _ | assumption) (h : RN z 1 [some v, l1, l2, l3, l4] [v] M k n) : RN z 0 [some v, l1, l2, l3, l4] [] M k n := R_aload_n X.1 d_P_make_0 rfl rfl hv h
theorem i_P_make_1 {z : zT} {ws0 : va_W} {mc ms : Nat} {Post : Option Value → mM → Prop} (X : B_P_make z ws0 mc ms Post) {x : Int32} {l0 l2 l3 l4 : Option Value} {s0 : Value} {M : mM} {k n : Nat}  (h : RN z 2 [l0, some (.int x), l2, l3, l4] [.int x, s0] M k n) : RN z 1 [l0, some (.int x), l2, l3, l4] [s0] M k n := R_iload_n X.1 d_P_make_1 rfl rfl h
theorem i_P_make_2 {z : zT} {ws0 : va_W} {mc ms : Nat} {Post : Option Value → mM → Prop} (X : B_P_make z ws0 mc ms Post) {a0 : Value} {b : Nat} {mc1 ms1 : Nat} {Po : Option Value → mM → Prop} {fs : List Value} {l0 l1 l2 l3 l4 : Option Value} {M : mM} {k n : Nat} (hM : M b = some (.inr (3, fs))) (hC : Ct (zl z) (zD z) (zty z) y_P_isMadeFolder w_P_isMadeFolder 1 21 mc1 ms1 [.ref b, a0] M Po) (hk : k + mc1 ≤ mc) (hn : n + ms1 ≤ ms) (h : ∀ v M1, Po v M1 → RN z 5 [l0, l1, l2, l3, l4] (v.toList ++ []) M1 (k + mc1) (n + ms1)) : RN z 2 [l0, l1, l2, l3, l4] [a0, .ref b] M k n := R_callV X.1 (av := [a0]) (nA := 1) wd_121 wd_118 wd_120 wd_0 wd_30 (by decide +kernel) rfl (Nat.le_of_ble_eq_true rfl) (Nat.le_of_ble_eq_true rfl) (Nat.le_of_ble_eq_true rfl) d_P_make_2 rfl (ci := 3) rfl hM hC (by rw [BM.rc1 X.2]; exact hk) (by rw [BM.rc2 X.2]; exact hn) h
theorem i_P_make_5 {z : zT} {ws0 : va_W} {mc ms : Nat} {Post : Option Value → mM → Prop} (X : B_P_make z ws0 mc ms Post) {x : Int32} {l0 l1 l2 l3 l4 : Option Value} {M : mM} {k n : Nat}  (h1 : x = 0 → RN z 15 [l0, l1, l2, l3, l4] [] M k n) (h2 : ¬ (x = 0) → RN z 8 [l0, l1, l2, l3, l4] [] M k n) : RN z 5 [l0, l1, l2, l3, l4] [.int x] M k n := R_if_eq X.1 d_P_make_5 (by decide) h1 h2
theorem i_P_make_8 {z : zT} {ws0 : va_W} {mc ms : Nat} {Post : Option Value → mM → Prop} (X : B_P_make z ws0 mc ms Post) {x : Int32} {l0 l1 l3 l4 : Option Value} {M : mM} {k n : Nat}  (h : RN z 9 [l0, l1, some (.int x), l3, l4] [.int x] M k n) : RN z 8 [l0, l1, some (.int x), l3, l4] [] M k n := R_iload_n X.1 d_P_make_8 rfl rfl h
theorem i_P_make_9 {z : zT} {ws0 : va_W} {mc ms : Nat} {Post : Option Value → mM → Prop} (X : B_P_make z ws0 mc ms Post) {a0 : Value} {mc1 ms1 : Nat} {Po : Option Value → mM → Prop} {l0 l1 l2 l3 l4 : Option Value} {M : mM} {k n : Nat} (hC : Ct (zl z) (zD z) (zty z) y_P_isName w_P_isName 0 0 mc1 ms1 [a0] M Po) (hk : k + mc1 ≤ mc) (hn : n + ms1 ≤ ms) (h : ∀ v M1, Po v M1 → RN z 12 [l0, l1, l2, l3, l4] (v.toList ++ []) M1 (k + mc1) (n + ms1)) : RN z 9 [l0, l1, l2, l3, l4] [a0] M k n := R_callS X.1 (av := [a0]) (nA := 1) wd_128 wd_126 wd_127 wd_30 (by decide +kernel) rfl (Nat.le_of_ble_eq_true rfl) (Nat.le_of_ble_eq_true rfl) (Nat.le_of_ble_eq_true rfl) d_P_make_9 rfl hC (by rw [BM.rc1 X.2]; exact hk) (by rw [BM.rc2 X.2]; exact hn) h
theorem i_P_make_12 {z : zT} {ws0 : va_W} {mc ms : Nat} {Post : Option Value → mM → Prop} (X : B_P_make z ws0 mc ms Post) {x : Int32} {l0 l1 l2 l3 l4 : Option Value} {M : mM} {k n : Nat}  (h1 : ¬ x = 0 → RN z 17 [l0, l1, l2, l3, l4] [] M k n) (h2 : x = 0 → RN z 15 [l0, l1, l2, l3, l4] [] M k n) : RN z 12 [l0, l1, l2, l3, l4] [.int x] M k n := R_if_ne X.1 d_P_make_12 (by decide) h1 h2
theorem i_P_make_15 {z : zT} {ws0 : va_W} {mc ms : Nat} {Post : Option Value → mM → Prop} (X : B_P_make z ws0 mc ms Post) {l0 l1 l2 l3 l4 : Option Value} {M : mM} {k n : Nat}  (h : RN z 16 [l0, l1, l2, l3, l4] [.int (-1)] M k n) : RN z 15 [l0, l1, l2, l3, l4] [] M k n := R_iconst X.1 d_P_make_15 (by decide) h
theorem i_P_make_16 {z : zT} {ws0 : va_W} {mc ms : Nat} {Post : Option Value → mM → Prop} (X : B_P_make z ws0 mc ms Post) {x : Int32} {l0 l1 l2 l3 l4 : Option Value} {M : mM} {k n : Nat} (hk : k ≤ mc) (hn : n ≤ ms) (hp : Post (some (.int x)) M) : RN z 16 [l0, l1, l2, l3, l4] [.int x] M k n := R_iret X.1 X.2 d_P_make_16 hk hn hp
theorem i_P_make_17 {z : zT} {ws0 : va_W} {mc ms : Nat} {Post : Option Value → mM → Prop} (X : B_P_make z ws0 mc ms Post) {v : Value} {l1 l2 l3 l4 : Option Value} {M : mM} {k n : Nat} (hv : mRf v := by first | exact mRf_r _ | exact mRf_n | exact mRf_rf _ | assumption) (h : RN z 18 [some v, l1, l2, l3, l4] [v] M k n) : RN z 17 [some v, l1, l2, l3, l4] [] M k n := R_aload_n X.1 d_P_make_17 rfl rfl hv h
theorem i_P_make_18 {z : zT} {ws0 : va_W} {mc ms : Nat} {Post : Option Value → mM → Prop} (X : B_P_make z ws0 mc ms Post) {v : Value} {l1 l2 l3 l4 : Option Value} {s0 : Value} {M : mM} {k n : Nat} (hv : mRf v := by first | exact mRf_r _ | exact mRf_n | exact mRf_rf _ | assumption) (h : RN z 19 [some v, l1, l2, l3, l4] [v, s0] M k n) : RN z 18 [some v, l1, l2, l3, l4] [s0] M k n := R_aload_n X.1 d_P_make_18 rfl rfl hv h
theorem i_P_make_19 {z : zT} {ws0 : va_W} {mc ms : Nat} {Post : Option Value → mM → Prop} (X : B_P_make z ws0 mc ms Post) {a : Nat} {f0 f1 f2 f3 f4 f5 f6 f7 f8 f9 f10 : Value} {l0 l1 l2 l3 l4 : Option Value} {s0 : Value} {M : mM} {k n : Nat} (hM : M a = some (.inr (3, [f0, f1, f2, f3, f4, f5, f6, f7, f8, f9, f10]))) (h : RN z 22 [l0, l1, l2, l3, l4] [f4, s0] M k n) : RN z 19 [l0, l1, l2, l3, l4] [.ref a, s0] M k n := R_get X.1 inX3 rfl 4 (Nat.le_of_ble_eq_true rfl) wd_80 d_P_make_19 hM rfl h
theorem i_P_make_22 {z : zT} {ws0 : va_W} {mc ms : Nat} {Post : Option Value → mM → Prop} (X : B_P_make z ws0 mc ms Post) {a0 : Value} {b : Nat} {mc1 ms1 : Nat} {Po : Option Value → mM → Prop} {fs : List Value} {l0 l1 l2 l3 l4 : Option Value} {M : mM} {k n : Nat} (hM : M b = some (.inr (3, fs))) (hC : Ct (zl z) (zD z) (zty z) y_P_findPlaces w_P_findPlaces 1 22 mc1 ms1 [.ref b, a0] M Po) (hk : k + mc1 ≤ mc) (hn : n + ms1 ≤ ms) (h : ∀ v M1, Po v M1 → RN z 25 [l0, l1, l2, l3, l4] (v.toList ++ []) M1 (k + mc1) (n + ms1)) : RN z 22 [l0, l1, l2, l3, l4] [a0, .ref b] M k n := R_callV X.1 (av := [a0]) (nA := 1) wd_132 wd_129 wd_131 wd_2 wd_30 (by decide +kernel) rfl (Nat.le_of_ble_eq_true rfl) (Nat.le_of_ble_eq_true rfl) (Nat.le_of_ble_eq_true rfl) d_P_make_22 rfl (ci := 3) rfl hM hC (by rw [BM.rc1 X.2]; exact hk) (by rw [BM.rc2 X.2]; exact hn) h
theorem i_P_make_25 {z : zT} {ws0 : va_W} {mc ms : Nat} {Post : Option Value → mM → Prop} (X : B_P_make z ws0 mc ms Post) {v : Value} {l1 l2 l3 l4 : Option Value} {M : mM} {k n : Nat} (hv : mRf v := by first | exact mRf_r _ | exact mRf_n | exact mRf_rf _ | assumption) (h : RN z 26 [some v, l1, l2, l3, l4] [v] M k n) : RN z 25 [some v, l1, l2, l3, l4] [] M k n := R_aload_n X.1 d_P_make_25 rfl rfl hv h
theorem i_P_make_26 {z : zT} {ws0 : va_W} {mc ms : Nat} {Post : Option Value → mM → Prop} (X : B_P_make z ws0 mc ms Post) {x : Int32} {l0 l2 l3 l4 : Option Value} {s0 : Value} {M : mM} {k n : Nat}  (h : RN z 27 [l0, some (.int x), l2, l3, l4] [.int x, s0] M k n) : RN z 26 [l0, some (.int x), l2, l3, l4] [s0] M k n := R_iload_n X.1 d_P_make_26 rfl rfl h
theorem i_P_make_27 {z : zT} {ws0 : va_W} {mc ms : Nat} {Post : Option Value → mM → Prop} (X : B_P_make z ws0 mc ms Post) {x : Int32} {l0 l1 l3 l4 : Option Value} {s0 s1 : Value} {M : mM} {k n : Nat}  (h : RN z 28 [l0, l1, some (.int x), l3, l4] [.int x, s0, s1] M k n) : RN z 27 [l0, l1, some (.int x), l3, l4] [s0, s1] M k n := R_iload_n X.1 d_P_make_27 rfl rfl h
theorem i_P_make_28 {z : zT} {ws0 : va_W} {mc ms : Nat} {Post : Option Value → mM → Prop} (X : B_P_make z ws0 mc ms Post) {a0 a1 : Value} {b : Nat} {mc1 ms1 : Nat} {Po : Option Value → mM → Prop} {fs : List Value} {l0 l1 l2 l3 l4 : Option Value} {M : mM} {k n : Nat} (hM : M b = some (.inr (3, fs))) (hC : Ct (zl z) (zD z) (zty z) y_P_hasRoomFor w_P_hasRoomFor 2 45 mc1 ms1 [.ref b, a0, a1] M Po) (hk : k + mc1 ≤ mc) (hn : n + ms1 ≤ ms) (h : ∀ v M1, Po v M1 → RN z 31 [l0, l1, l2, l3, l4] (v.toList ++ []) M1 (k + mc1) (n + ms1)) : RN z 28 [l0, l1, l2, l3, l4] [a1, a0, .ref b] M k n := R_callV X.1 (av := [a0, a1]) (nA := 2) wd_140 wd_137 wd_139 wd_3 wd_30 (by decide +kernel) rfl (Nat.le_of_ble_eq_true rfl) (Nat.le_of_ble_eq_true rfl) (Nat.le_of_ble_eq_true rfl) d_P_make_28 rfl (ci := 3) rfl hM hC (by rw [BM.rc1 X.2]; exact hk) (by rw [BM.rc2 X.2]; exact hn) h
theorem i_P_make_31 {z : zT} {ws0 : va_W} {mc ms : Nat} {Post : Option Value → mM → Prop} (X : B_P_make z ws0 mc ms Post) {x : Int32} {l0 l1 l2 l3 l4 : Option Value} {M : mM} {k n : Nat}  (h1 : ¬ x = 0 → RN z 36 [l0, l1, l2, l3, l4] [] M k n) (h2 : x = 0 → RN z 34 [l0, l1, l2, l3, l4] [] M k n) : RN z 31 [l0, l1, l2, l3, l4] [.int x] M k n := R_if_ne X.1 d_P_make_31 (by decide) h1 h2
theorem i_P_make_34 {z : zT} {ws0 : va_W} {mc ms : Nat} {Post : Option Value → mM → Prop} (X : B_P_make z ws0 mc ms Post) {l0 l1 l2 l3 l4 : Option Value} {M : mM} {k n : Nat}  (h : RN z 35 [l0, l1, l2, l3, l4] [.int (-1)] M k n) : RN z 34 [l0, l1, l2, l3, l4] [] M k n := R_iconst X.1 d_P_make_34 (by decide) h
theorem i_P_make_35 {z : zT} {ws0 : va_W} {mc ms : Nat} {Post : Option Value → mM → Prop} (X : B_P_make z ws0 mc ms Post) {x : Int32} {l0 l1 l2 l3 l4 : Option Value} {M : mM} {k n : Nat} (hk : k ≤ mc) (hn : n ≤ ms) (hp : Post (some (.int x)) M) : RN z 35 [l0, l1, l2, l3, l4] [.int x] M k n := R_iret X.1 X.2 d_P_make_35 hk hn hp
theorem i_P_make_36 {z : zT} {ws0 : va_W} {mc ms : Nat} {Post : Option Value → mM → Prop} (X : B_P_make z ws0 mc ms Post) {v : Value} {l1 l2 l3 l4 : Option Value} {M : mM} {k n : Nat} (hv : mRf v := by first | exact mRf_r _ | exact mRf_n | exact mRf_rf _ | assumption) (h : RN z 37 [some v, l1, l2, l3, l4] [v] M k n) : RN z 36 [some v, l1, l2, l3, l4] [] M k n := R_aload_n X.1 d_P_make_36 rfl rfl hv h
theorem i_P_make_37 {z : zT} {ws0 : va_W} {mc ms : Nat} {Post : Option Value → mM → Prop} (X : B_P_make z ws0 mc ms Post) {a : Nat} {f0 f1 f2 f3 f4 f5 f6 f7 f8 f9 f10 : Value} {l0 l1 l2 l3 l4 : Option Value} {M : mM} {k n : Nat} (hM : M a = some (.inr (3, [f0, f1, f2, f3, f4, f5, f6, f7, f8, f9, f10]))) (h : RN z 40 [l0, l1, l2, l3, l4] [f5] M k n) : RN z 37 [l0, l1, l2, l3, l4] [.ref a] M k n := R_get X.1 inX3 rfl 5 (Nat.le_of_ble_eq_true rfl) wd_81 d_P_make_37 hM rfl h
theorem i_P_make_40 {z : zT} {ws0 : va_W} {mc ms : Nat} {Post : Option Value → mM → Prop} (X : B_P_make z ws0 mc ms Post) {l0 l1 l2 l3 l4 : Option Value} {s0 : Value} {M : mM} {k n : Nat}  (h : RN z 42 [l0, l1, l2, l3, l4] [.int 24, s0] M k n) : RN z 40 [l0, l1, l2, l3, l4] [s0] M k n := R_bipush X.1 d_P_make_40 (by decide) h
theorem i_P_make_42 {z : zT} {ws0 : va_W} {mc ms : Nat} {Post : Option Value → mM → Prop} (X : B_P_make z ws0 mc ms Post) {x y : Int32} {l0 l1 l2 l3 l4 : Option Value} {M : mM} {k n : Nat}  (h1 : y ≤ x → RN z 52 [l0, l1, l2, l3, l4] [] M k n) (h2 : ¬ (y ≤ x) → RN z 45 [l0, l1, l2, l3, l4] [] M k n) : RN z 42 [l0, l1, l2, l3, l4] [.int y, .int x] M k n := R_icmp_ge X.1 d_P_make_42 (by decide) h1 h2
theorem i_P_make_45 {z : zT} {ws0 : va_W} {mc ms : Nat} {Post : Option Value → mM → Prop} (X : B_P_make z ws0 mc ms Post) {v : Value} {l1 l2 l3 l4 : Option Value} {M : mM} {k n : Nat} (hv : mRf v := by first | exact mRf_r _ | exact mRf_n | exact mRf_rf _ | assumption) (h : RN z 46 [some v, l1, l2, l3, l4] [v] M k n) : RN z 45 [some v, l1, l2, l3, l4] [] M k n := R_aload_n X.1 d_P_make_45 rfl rfl hv h
theorem i_P_make_46 {z : zT} {ws0 : va_W} {mc ms : Nat} {Post : Option Value → mM → Prop} (X : B_P_make z ws0 mc ms Post) {b : Nat} {mc1 ms1 : Nat} {Po : Option Value → mM → Prop} {fs : List Value} {l0 l1 l2 l3 l4 : Option Value} {M : mM} {k n : Nat} (hM : M b = some (.inr (3, fs))) (hC : Ct (zl z) (zD z) (zty z) y_P_isUsedUp w_P_isUsedUp 0 0 mc1 ms1 [.ref b] M Po) (hk : k + mc1 ≤ mc) (hn : n + ms1 ≤ ms) (h : ∀ v M1, Po v M1 → RN z 49 [l0, l1, l2, l3, l4] (v.toList ++ []) M1 (k + mc1) (n + ms1)) : RN z 46 [l0, l1, l2, l3, l4] [.ref b] M k n := R_callV X.1 (av := []) (nA := 0) wd_151 wd_148 wd_150 wd_5 wd_30 (by decide +kernel) rfl (Nat.le_of_ble_eq_true rfl) (Nat.le_of_ble_eq_true rfl) (Nat.le_of_ble_eq_true rfl) d_P_make_46 rfl (ci := 3) rfl hM hC (by rw [BM.rc1 X.2]; exact hk) (by rw [BM.rc2 X.2]; exact hn) h
theorem i_P_make_49 {z : zT} {ws0 : va_W} {mc ms : Nat} {Post : Option Value → mM → Prop} (X : B_P_make z ws0 mc ms Post) {x : Int32} {l0 l1 l2 l3 l4 : Option Value} {M : mM} {k n : Nat}  (h1 : x = 0 → RN z 55 [l0, l1, l2, l3, l4] [] M k n) (h2 : ¬ (x = 0) → RN z 52 [l0, l1, l2, l3, l4] [] M k n) : RN z 49 [l0, l1, l2, l3, l4] [.int x] M k n := R_if_eq X.1 d_P_make_49 (by decide) h1 h2
theorem i_P_make_52 {z : zT} {ws0 : va_W} {mc ms : Nat} {Post : Option Value → mM → Prop} (X : B_P_make z ws0 mc ms Post) {l0 l1 l2 l3 l4 : Option Value} {M : mM} {k n : Nat}  (h : RN z 54 [l0, l1, l2, l3, l4] [.int (-2)] M k n) : RN z 52 [l0, l1, l2, l3, l4] [] M k n := R_bipush X.1 d_P_make_52 (by decide) h
theorem i_P_make_54 {z : zT} {ws0 : va_W} {mc ms : Nat} {Post : Option Value → mM → Prop} (X : B_P_make z ws0 mc ms Post) {x : Int32} {l0 l1 l2 l3 l4 : Option Value} {M : mM} {k n : Nat} (hk : k ≤ mc) (hn : n ≤ ms) (hp : Post (some (.int x)) M) : RN z 54 [l0, l1, l2, l3, l4] [.int x] M k n := R_iret X.1 X.2 d_P_make_54 hk hn hp
theorem i_P_make_55 {z : zT} {ws0 : va_W} {mc ms : Nat} {Post : Option Value → mM → Prop} (X : B_P_make z ws0 mc ms Post) {v : Value} {l1 l2 l3 l4 : Option Value} {M : mM} {k n : Nat} (hv : mRf v := by first | exact mRf_r _ | exact mRf_n | exact mRf_rf _ | assumption) (h : RN z 56 [some v, l1, l2, l3, l4] [v] M k n) : RN z 55 [some v, l1, l2, l3, l4] [] M k n := R_aload_n X.1 d_P_make_55 rfl rfl hv h
theorem i_P_make_56 {z : zT} {ws0 : va_W} {mc ms : Nat} {Post : Option Value → mM → Prop} (X : B_P_make z ws0 mc ms Post) {a : Nat} {f0 f1 f2 f3 f4 f5 f6 f7 f8 f9 f10 : Value} {l0 l1 l2 l3 l4 : Option Value} {M : mM} {k n : Nat} (hM : M a = some (.inr (3, [f0, f1, f2, f3, f4, f5, f6, f7, f8, f9, f10]))) (h : RN z 59 [l0, l1, l2, l3, l4] [f5] M k n) : RN z 56 [l0, l1, l2, l3, l4] [.ref a] M k n := R_get X.1 inX3 rfl 5 (Nat.le_of_ble_eq_true rfl) wd_81 d_P_make_56 hM rfl h
theorem i_P_make_59 {z : zT} {ws0 : va_W} {mc ms : Nat} {Post : Option Value → mM → Prop} (X : B_P_make z ws0 mc ms Post) {x : Int32} {l0 l1 l2 l3 l4 : Option Value} {M : mM} {k n : Nat}  (h : RN z 61 [l0, l1, l2, l3, some (.int x)] [] M k n) : RN z 59 [l0, l1, l2, l3, l4] [.int x] M k n := R_istore X.1 d_P_make_59 (Nat.le_of_ble_eq_true rfl) h
theorem i_P_make_61 {z : zT} {ws0 : va_W} {mc ms : Nat} {Post : Option Value → mM → Prop} (X : B_P_make z ws0 mc ms Post) {v : Value} {l1 l2 l3 l4 : Option Value} {M : mM} {k n : Nat} (hv : mRf v := by first | exact mRf_r _ | exact mRf_n | exact mRf_rf _ | assumption) (h : RN z 62 [some v, l1, l2, l3, l4] [v] M k n) : RN z 61 [some v, l1, l2, l3, l4] [] M k n := R_aload_n X.1 d_P_make_61 rfl rfl hv h
theorem i_P_make_62 {z : zT} {ws0 : va_W} {mc ms : Nat} {Post : Option Value → mM → Prop} (X : B_P_make z ws0 mc ms Post) {a : Nat} {l0 l1 l2 l3 l4 : Option Value} {M : mM} {k n : Nat}  (h : RN z 63 [l0, l1, l2, l3, l4] [.ref a, .ref a] M k n) : RN z 62 [l0, l1, l2, l3, l4] [.ref a] M k n := R_dup X.1 d_P_make_62 rfl h
theorem i_P_make_63 {z : zT} {ws0 : va_W} {mc ms : Nat} {Post : Option Value → mM → Prop} (X : B_P_make z ws0 mc ms Post) {a : Nat} {f0 f1 f2 f3 f4 f5 f6 f7 f8 f9 f10 : Value} {l0 l1 l2 l3 l4 : Option Value} {s0 : Value} {M : mM} {k n : Nat} (hM : M a = some (.inr (3, [f0, f1, f2, f3, f4, f5, f6, f7, f8, f9, f10]))) (h : RN z 66 [l0, l1, l2, l3, l4] [f5, s0] M k n) : RN z 63 [l0, l1, l2, l3, l4] [.ref a, s0] M k n := R_get X.1 inX3 rfl 5 (Nat.le_of_ble_eq_true rfl) wd_81 d_P_make_63 hM rfl h
theorem i_P_make_66 {z : zT} {ws0 : va_W} {mc ms : Nat} {Post : Option Value → mM → Prop} (X : B_P_make z ws0 mc ms Post) {l0 l1 l2 l3 l4 : Option Value} {s0 s1 : Value} {M : mM} {k n : Nat}  (h : RN z 67 [l0, l1, l2, l3, l4] [.int 1, s0, s1] M k n) : RN z 66 [l0, l1, l2, l3, l4] [s0, s1] M k n := R_iconst X.1 d_P_make_66 (by decide) h
theorem i_P_make_67 {z : zT} {ws0 : va_W} {mc ms : Nat} {Post : Option Value → mM → Prop} (X : B_P_make z ws0 mc ms Post) {x y : Int32} {l0 l1 l2 l3 l4 : Option Value} {s0 : Value} {M : mM} {k n : Nat}  (h : RN z 68 [l0, l1, l2, l3, l4] [.int (x + y), s0] M k n) : RN z 67 [l0, l1, l2, l3, l4] [.int y, .int x, s0] M k n := R_iadd X.1 d_P_make_67 h
theorem i_P_make_68 {z : zT} {ws0 : va_W} {mc ms : Nat} {Post : Option Value → mM → Prop} (X : B_P_make z ws0 mc ms Post) {a : Nat} {f0 f1 f2 f3 f4 f5 f6 f7 f8 f9 f10 : Value} {x : Int32} {l0 l1 l2 l3 l4 : Option Value} {M : mM} {k n : Nat} (hM : M a = some (.inr (3, [f0, f1, f2, f3, f4, f5, f6, f7, f8, f9, f10]))) (h : RN z 71 [l0, l1, l2, l3, l4] [] (mS M a (.inr (3, [f0, f1, f2, f3, f4, .int x, f6, f7, f8, f9, f10]))) k n) : RN z 68 [l0, l1, l2, l3, l4] [.int x, .ref a] M k n := R_put X.1 inX3 rfl 5 (Nat.le_of_ble_eq_true rfl) tyX3 tyX3_ok nmX3 wd_81 rfl (by decide +kernel : parseFieldDescriptor (TX3 5).2.2.1 = some (.int)) rfl rfl d_P_make_68 hM (Nat.le_of_ble_eq_true rfl) h
theorem i_P_make_71 {z : zT} {ws0 : va_W} {mc ms : Nat} {Post : Option Value → mM → Prop} (X : B_P_make z ws0 mc ms Post) {x : Int32} {l0 l1 l2 l4 : Option Value} {M : mM} {k n : Nat}  (h : RN z 72 [l0, l1, l2, some (.int x), l4] [.int x] M k n) : RN z 71 [l0, l1, l2, some (.int x), l4] [] M k n := R_iload_n X.1 d_P_make_71 rfl rfl h
theorem i_P_make_72 {z : zT} {ws0 : va_W} {mc ms : Nat} {Post : Option Value → mM → Prop} (X : B_P_make z ws0 mc ms Post) {x : Int32} {l0 l1 l2 l3 l4 : Option Value} {M : mM} {k n : Nat}  (h1 : ¬ x = 0 → RN z 101 [l0, l1, l2, l3, l4] [] M k n) (h2 : x = 0 → RN z 75 [l0, l1, l2, l3, l4] [] M k n) : RN z 72 [l0, l1, l2, l3, l4] [.int x] M k n := R_if_ne X.1 d_P_make_72 (by decide) h1 h2
theorem i_P_make_75 {z : zT} {ws0 : va_W} {mc ms : Nat} {Post : Option Value → mM → Prop} (X : B_P_make z ws0 mc ms Post) {v : Value} {l1 l2 l3 l4 : Option Value} {M : mM} {k n : Nat} (hv : mRf v := by first | exact mRf_r _ | exact mRf_n | exact mRf_rf _ | assumption) (h : RN z 76 [some v, l1, l2, l3, l4] [v] M k n) : RN z 75 [some v, l1, l2, l3, l4] [] M k n := R_aload_n X.1 d_P_make_75 rfl rfl hv h
theorem i_P_make_76 {z : zT} {ws0 : va_W} {mc ms : Nat} {Post : Option Value → mM → Prop} (X : B_P_make z ws0 mc ms Post) {a : Nat} {f0 f1 f2 f3 f4 f5 f6 f7 f8 f9 f10 : Value} {l0 l1 l2 l3 l4 : Option Value} {M : mM} {k n : Nat} (hM : M a = some (.inr (3, [f0, f1, f2, f3, f4, f5, f6, f7, f8, f9, f10]))) (h : RN z 79 [l0, l1, l2, l3, l4] [f2] M k n) : RN z 76 [l0, l1, l2, l3, l4] [.ref a] M k n := R_get X.1 inX3 rfl 2 (Nat.le_of_ble_eq_true rfl) wd_78 d_P_make_76 hM rfl h
theorem i_P_make_79 {z : zT} {ws0 : va_W} {mc ms : Nat} {Post : Option Value → mM → Prop} (X : B_P_make z ws0 mc ms Post) {x : Int32} {l0 l1 l2 l3 : Option Value} {s0 : Value} {M : mM} {k n : Nat}  (h : RN z 81 [l0, l1, l2, l3, some (.int x)] [.int x, s0] M k n) : RN z 79 [l0, l1, l2, l3, some (.int x)] [s0] M k n := R_iload X.1 d_P_make_79 rfl h
theorem i_P_make_81 {z : zT} {ws0 : va_W} {mc ms : Nat} {Post : Option Value → mM → Prop} (X : B_P_make z ws0 mc ms Post) {cI cB cN : ClassId} (G : GT z cI cB cN) {a w j : Nat} {i : Int32} {f : Nat → Option Nat} {l0 l1 l2 l3 l4 : Option Value} {M : mM} {k n : Nat} (hM : M a = some (.inl (cN, w, .inr (.inr (.inr (.inr f)))))) (hx : i = nI j) (hj : j < w) (hw : w < 2 ^ 31 := by decide) (h : RN z 82 [l0, l1, l2, l3, l4] [va_rf (f j)] M k n) : RN z 81 [l0, l1, l2, l3, l4] [.int i, .ref a] M k n := R_aald X.1 2 G.2.2 d_P_make_81 hM (by rw [hx]; exact vp_in_nI hj hw) (by rw [hx, nI_clamp (by omega)]; exact h)
theorem i_P_make_82 {z : zT} {ws0 : va_W} {mc ms : Nat} {Post : Option Value → mM → Prop} (X : B_P_make z ws0 mc ms Post) {l0 l1 l2 l3 l4 : Option Value} {s0 : Value} {M : mM} {k n : Nat} (hk : k + 1 ≤ mc) (hn : n + 5 ≤ ms) (h : ∀ q, M q = none → RN z 85 [l0, l1, l2, l3, l4] [.ref q, s0] (mS M q (.inr (2, [.int 0, .int 0, .null, .null, .int 0]))) (k + 1) (n + 5)) : RN z 82 [l0, l1, l2, l3, l4] [s0] M k n := R_new X.1 inX2 rfl tyX2 tyX2_ok wd_152 wd_153 wd_34 (fun j hj => by rcases (show j = 0 ∨ j = 1 ∨ j = 2 ∨ j = 3 ∨ j = 4 by omega) with rfl | rfl | rfl | rfl | rfl <;> rfl) d_P_make_82 (by rw [BM.rc1 X.2]; exact hk) (by rw [BM.rc2 X.2]; exact hn) h
theorem i_P_make_85 {z : zT} {ws0 : va_W} {mc ms : Nat} {Post : Option Value → mM → Prop} (X : B_P_make z ws0 mc ms Post) {a : Nat} {l0 l1 l2 l3 l4 : Option Value} {s0 : Value} {M : mM} {k n : Nat}  (h : RN z 86 [l0, l1, l2, l3, l4] [.ref a, .ref a, s0] M k n) : RN z 85 [l0, l1, l2, l3, l4] [.ref a, s0] M k n := R_dup X.1 d_P_make_85 rfl h
theorem i_P_make_86 {z : zT} {ws0 : va_W} {mc ms : Nat} {Post : Option Value → mM → Prop} (X : B_P_make z ws0 mc ms Post) {v : Value} {l1 l2 l3 l4 : Option Value} {s0 s1 s2 : Value} {M : mM} {k n : Nat} (hv : mRf v := by first | exact mRf_r _ | exact mRf_n | exact mRf_rf _ | assumption) (h : RN z 87 [some v, l1, l2, l3, l4] [v, s0, s1, s2] M k n) : RN z 86 [some v, l1, l2, l3, l4] [s0, s1, s2] M k n := R_aload_n X.1 d_P_make_86 rfl rfl hv h
theorem i_P_make_87 {z : zT} {ws0 : va_W} {mc ms : Nat} {Post : Option Value → mM → Prop} (X : B_P_make z ws0 mc ms Post) {a : Nat} {f0 f1 f2 f3 f4 f5 f6 f7 f8 f9 f10 : Value} {l0 l1 l2 l3 l4 : Option Value} {s0 s1 s2 : Value} {M : mM} {k n : Nat} (hM : M a = some (.inr (3, [f0, f1, f2, f3, f4, f5, f6, f7, f8, f9, f10]))) (h : RN z 90 [l0, l1, l2, l3, l4] [f4, s0, s1, s2] M k n) : RN z 87 [l0, l1, l2, l3, l4] [.ref a, s0, s1, s2] M k n := R_get X.1 inX3 rfl 4 (Nat.le_of_ble_eq_true rfl) wd_80 d_P_make_87 hM rfl h
theorem i_P_make_90 {z : zT} {ws0 : va_W} {mc ms : Nat} {Post : Option Value → mM → Prop} (X : B_P_make z ws0 mc ms Post) {l0 l1 l2 l3 l4 : Option Value} {s0 s1 s2 s3 : Value} {M : mM} {k n : Nat}  (h : RN z 91 [l0, l1, l2, l3, l4] [.int 0, s0, s1, s2, s3] M k n) : RN z 90 [l0, l1, l2, l3, l4] [s0, s1, s2, s3] M k n := R_iconst X.1 d_P_make_90 (by decide) h
theorem i_P_make_91 {z : zT} {ws0 : va_W} {mc ms : Nat} {Post : Option Value → mM → Prop} (X : B_P_make z ws0 mc ms Post) {l0 l1 l2 l3 l4 : Option Value} {s0 s1 s2 s3 s4 : Value} {M : mM} {k n : Nat}  (h : RN z 92 [l0, l1, l2, l3, l4] [.int 4, s0, s1, s2, s3, s4] M k n) : RN z 91 [l0, l1, l2, l3, l4] [s0, s1, s2, s3, s4] M k n := R_iconst X.1 d_P_make_91 (by decide) h
theorem i_P_make_92 {z : zT} {ws0 : va_W} {mc ms : Nat} {Post : Option Value → mM → Prop} (X : B_P_make z ws0 mc ms Post) {cI cB cN : ClassId} (G : GT z cI cB cN) {v : Int32} {w : Nat} {l0 l1 l2 l3 l4 : Option Value} {s0 s1 s2 s3 s4 : Value} {M : mM} {k n : Nat} (hv0 : ¬ v < 0) (hv : v.toNatClampNeg = w) (hb : w * 4 ≤ 536870912) (hk : k + 1 ≤ mc) (hn : n + w ≤ ms) (h : ∀ q, M q = none → RN z 94 [l0, l1, l2, l3, l4] [.ref q, s0, s1, s2, s3, s4] (mS M q (.inl (cI, w, .inl (fun _ => 0)))) (k + 1) (n + w)) : RN z 92 [l0, l1, l2, l3, l4] [.int v, s0, s1, s2, s3, s4] M k n := R_newi X.1 0 G.1 wd_75 d_P_make_92 hv0 hv hb (by rw [BM.rc1 X.2]; exact hk) (by rw [BM.rc2 X.2]; exact hn) h
theorem i_P_make_94 {z : zT} {ws0 : va_W} {mc ms : Nat} {Post : Option Value → mM → Prop} (X : B_P_make z ws0 mc ms Post) {l0 l1 l2 l3 l4 : Option Value} {s0 s1 s2 s3 s4 s5 : Value} {M : mM} {k n : Nat}  (h : RN z 95 [l0, l1, l2, l3, l4] [.null, s0, s1, s2, s3, s4, s5] M k n) : RN z 94 [l0, l1, l2, l3, l4] [s0, s1, s2, s3, s4, s5] M k n := R_null X.1 d_P_make_94 h
theorem i_P_make_95 {z : zT} {ws0 : va_W} {mc ms : Nat} {Post : Option Value → mM → Prop} (X : B_P_make z ws0 mc ms Post) {a0 a1 a2 a3 : Value} {b : Nat} {mc1 ms1 : Nat} {Po : Option Value → mM → Prop} {l0 l1 l2 l3 l4 : Option Value} {s0 s1 : Value} {M : mM} {k n : Nat} (hC : Ct (zl z) (zD z) (zty z) y_V_init w_V_init 1 12 mc1 ms1 [.ref b, a0, a1, a2, a3] M Po) (hk : k + mc1 ≤ mc) (hn : n + ms1 ≤ ms) (h : ∀ v M1, Po v M1 → RN z 98 [l0, l1, l2, l3, l4] (v.toList ++ [s0, s1]) M1 (k + mc1) (n + ms1)) : RN z 95 [l0, l1, l2, l3, l4] [a3, a2, a1, a0, .ref b, s0, s1] M k n := R_callI X.1 (av := [a0, a1, a2, a3]) (nA := 4) wd_156 wd_34 wd_154 wd_155 rfl (by decide +kernel) rfl (Nat.le_of_ble_eq_true rfl) (Nat.le_of_ble_eq_true rfl) (Nat.le_of_ble_eq_true rfl) d_P_make_95 rfl hC (by rw [BM.rc1 X.2]; exact hk) (by rw [BM.rc2 X.2]; exact hn) h
theorem i_P_make_98 {z : zT} {ws0 : va_W} {mc ms : Nat} {Post : Option Value → mM → Prop} (X : B_P_make z ws0 mc ms Post) {a : Nat} {f0 f1 f2 f3 : Value} {v : Value} {l0 l1 l2 l3 l4 : Option Value} {M : mM} {k n : Nat} (hv : mRf v := by first | exact mRf_r _ | exact mRf_n | exact mRf_rf _ | assumption) (hM : M a = some (.inr (0, [f0, f1, f2, f3]))) (h : RN z 101 [l0, l1, l2, l3, l4] [] (mS M a (.inr (0, [f0, v, f2, f3]))) k n) : RN z 98 [l0, l1, l2, l3, l4] [v, .ref a] M k n := R_put X.1 inX0 rfl 1 (Nat.le_of_ble_eq_true rfl) tyX0 tyX0_ok nmX0 wd_63 rfl (by decide +kernel : parseFieldDescriptor (TX0 1).2.2.1 = some (.object "PastTree$Version")) (by rcases hv with rfl | ⟨_, rfl⟩ <;> rfl) (by rcases hv with rfl | ⟨_, rfl⟩ <;> rfl) d_P_make_98 hM (Nat.le_of_ble_eq_true rfl) h
theorem i_P_make_101 {z : zT} {ws0 : va_W} {mc ms : Nat} {Post : Option Value → mM → Prop} (X : B_P_make z ws0 mc ms Post) {v : Value} {l1 l2 l3 l4 : Option Value} {M : mM} {k n : Nat} (hv : mRf v := by first | exact mRf_r _ | exact mRf_n | exact mRf_rf _ | assumption) (h : RN z 102 [some v, l1, l2, l3, l4] [v] M k n) : RN z 101 [some v, l1, l2, l3, l4] [] M k n := R_aload_n X.1 d_P_make_101 rfl rfl hv h
theorem i_P_make_102 {z : zT} {ws0 : va_W} {mc ms : Nat} {Post : Option Value → mM → Prop} (X : B_P_make z ws0 mc ms Post) {x : Int32} {l0 l1 l2 l3 : Option Value} {s0 : Value} {M : mM} {k n : Nat}  (h : RN z 104 [l0, l1, l2, l3, some (.int x)] [.int x, s0] M k n) : RN z 102 [l0, l1, l2, l3, some (.int x)] [s0] M k n := R_iload X.1 d_P_make_102 rfl h
theorem i_P_make_104 {z : zT} {ws0 : va_W} {mc ms : Nat} {Post : Option Value → mM → Prop} (X : B_P_make z ws0 mc ms Post) {x : Int32} {l0 l2 l3 l4 : Option Value} {s0 s1 : Value} {M : mM} {k n : Nat}  (h : RN z 105 [l0, some (.int x), l2, l3, l4] [.int x, s0, s1] M k n) : RN z 104 [l0, some (.int x), l2, l3, l4] [s0, s1] M k n := R_iload_n X.1 d_P_make_104 rfl rfl h
theorem i_P_make_105 {z : zT} {ws0 : va_W} {mc ms : Nat} {Post : Option Value → mM → Prop} (X : B_P_make z ws0 mc ms Post) {x : Int32} {l0 l1 l3 l4 : Option Value} {s0 s1 s2 : Value} {M : mM} {k n : Nat}  (h : RN z 106 [l0, l1, some (.int x), l3, l4] [.int x, s0, s1, s2] M k n) : RN z 105 [l0, l1, some (.int x), l3, l4] [s0, s1, s2] M k n := R_iload_n X.1 d_P_make_105 rfl rfl h
theorem i_P_make_106 {z : zT} {ws0 : va_W} {mc ms : Nat} {Post : Option Value → mM → Prop} (X : B_P_make z ws0 mc ms Post) {a0 a1 : Value} {mc1 ms1 : Nat} {Po : Option Value → mM → Prop} {l0 l1 l2 l3 l4 : Option Value} {s0 s1 : Value} {M : mM} {k n : Nat} (hC : Ct (zl z) (zD z) (zty z) y_P_placeOf w_P_placeOf 0 0 mc1 ms1 [a0, a1] M Po) (hk : k + mc1 ≤ mc) (hn : n + ms1 ≤ ms) (h : ∀ v M1, Po v M1 → RN z 109 [l0, l1, l2, l3, l4] (v.toList ++ [s0, s1]) M1 (k + mc1) (n + ms1)) : RN z 106 [l0, l1, l2, l3, l4] [a1, a0, s0, s1] M k n := R_callS X.1 (av := [a0, a1]) (nA := 2) wd_147 wd_145 wd_146 wd_30 (by decide +kernel) rfl (Nat.le_of_ble_eq_true rfl) (Nat.le_of_ble_eq_true rfl) (Nat.le_of_ble_eq_true rfl) d_P_make_106 rfl hC (by rw [BM.rc1 X.2]; exact hk) (by rw [BM.rc2 X.2]; exact hn) h
theorem i_P_make_109 {z : zT} {ws0 : va_W} {mc ms : Nat} {Post : Option Value → mM → Prop} (X : B_P_make z ws0 mc ms Post) {a0 a1 : Value} {b : Nat} {mc1 ms1 : Nat} {Po : Option Value → mM → Prop} {fs : List Value} {l0 l1 l2 l3 l4 : Option Value} {M : mM} {k n : Nat} (hM : M b = some (.inr (3, fs))) (hC : Ct (zl z) (zD z) (zty z) y_P_place w_P_place 2 35 mc1 ms1 [.ref b, a0, a1] M Po) (hk : k + mc1 ≤ mc) (hn : n + ms1 ≤ ms) (h : ∀ v M1, Po v M1 → RN z 112 [l0, l1, l2, l3, l4] (v.toList ++ []) M1 (k + mc1) (n + ms1)) : RN z 109 [l0, l1, l2, l3, l4] [a1, a0, .ref b] M k n := R_callV X.1 (av := [a0, a1]) (nA := 2) wd_182 wd_179 wd_181 wd_6 wd_30 (by decide +kernel) rfl (Nat.le_of_ble_eq_true rfl) (Nat.le_of_ble_eq_true rfl) (Nat.le_of_ble_eq_true rfl) d_P_make_109 rfl (ci := 3) rfl hM hC (by rw [BM.rc1 X.2]; exact hk) (by rw [BM.rc2 X.2]; exact hn) h
theorem i_P_make_112 {z : zT} {ws0 : va_W} {mc ms : Nat} {Post : Option Value → mM → Prop} (X : B_P_make z ws0 mc ms Post) {x : Int32} {l0 l1 l2 l3 : Option Value} {M : mM} {k n : Nat}  (h : RN z 114 [l0, l1, l2, l3, some (.int x)] [.int x] M k n) : RN z 112 [l0, l1, l2, l3, some (.int x)] [] M k n := R_iload X.1 d_P_make_112 rfl h
theorem i_P_make_114 {z : zT} {ws0 : va_W} {mc ms : Nat} {Post : Option Value → mM → Prop} (X : B_P_make z ws0 mc ms Post) {x : Int32} {l0 l1 l2 l3 l4 : Option Value} {M : mM} {k n : Nat} (hk : k ≤ mc) (hn : n ≤ ms) (hp : Post (some (.int x)) M) : RN z 114 [l0, l1, l2, l3, l4] [.int x] M k n := R_iret X.1 X.2 d_P_make_114 hk hn hp
theorem d_P_remove_0 : decode c_P_remove 0 = .ok (.aload_n 0, 1) := by decide +kernel
theorem d_P_remove_1 : decode c_P_remove 1 = .ok (.iload_n 1, 1) := by decide +kernel
theorem d_P_remove_2 : decode c_P_remove 2 = .ok (.invokevirtual 52, 3) := by decide +kernel
theorem d_P_remove_5 : decode c_P_remove 5 = .ok (.ifCond .eq 10, 3) := by decide +kernel
theorem d_P_remove_8 : decode c_P_remove 8 = .ok (.iload_n 2, 1) := by decide +kernel
theorem d_P_remove_9 : decode c_P_remove 9 = .ok (.invokestatic 56, 3) := by decide +kernel
theorem d_P_remove_12 : decode c_P_remove 12 = .ok (.ifCond .ne 5, 3) := by decide +kernel
theorem d_P_remove_15 : decode c_P_remove 15 = .ok (.iconst (-1), 1) := by decide +kernel
theorem d_P_remove_16 : decode c_P_remove 16 = .ok (.ireturn, 1) := by decide +kernel
theorem d_P_remove_17 : decode c_P_remove 17 = .ok (.aload_n 0, 1) := by decide +kernel
theorem d_P_remove_18 : decode c_P_remove 18 = .ok (.aload_n 0, 1) := by decide +kernel
theorem d_P_remove_19 : decode c_P_remove 19 = .ok (.getfield 19, 3) := by decide +kernel
theorem d_P_remove_22 : decode c_P_remove 22 = .ok (.invokevirtual 59, 3) := by decide +kernel
theorem d_P_remove_25 : decode c_P_remove 25 = .ok (.aload_n 0, 1) := by decide +kernel
theorem d_P_remove_26 : decode c_P_remove 26 = .ok (.iload_n 1, 1) := by decide +kernel
theorem d_P_remove_27 : decode c_P_remove 27 = .ok (.iload_n 2, 1) := by decide +kernel
theorem d_P_remove_28 : decode c_P_remove 28 = .ok (.invokevirtual 88, 3) := by decide +kernel
theorem d_P_remove_31 : decode c_P_remove 31 = .ok (.istore_n 3, 1) := by decide +kernel
theorem d_P_remove_32 : decode c_P_remove 32 = .ok (.iload_n 3, 1) := by decide +kernel
theorem d_P_remove_33 : decode c_P_remove 33 = .ok (.ifCond .eq 14, 3) := by decide +kernel
theorem d_P_remove_36 : decode c_P_remove 36 = .ok (.aload_n 0, 1) := by decide +kernel
theorem d_P_remove_37 : decode c_P_remove 37 = .ok (.iload_n 3, 1) := by decide +kernel
theorem d_P_remove_38 : decode c_P_remove 38 = .ok (.iconst 0, 1) := by decide +kernel
theorem d_P_remove_39 : decode c_P_remove 39 = .ok (.invokevirtual 91, 3) := by decide +kernel
theorem d_P_remove_42 : decode c_P_remove 42 = .ok (.bipush 8, 2) := by decide +kernel
theorem d_P_remove_44 : decode c_P_remove 44 = .ok (.if_icmp .ge 5, 3) := by decide +kernel
theorem d_P_remove_47 : decode c_P_remove 47 = .ok (.iconst (-1), 1) := by decide +kernel
theorem d_P_remove_48 : decode c_P_remove 48 = .ok (.ireturn, 1) := by decide +kernel
theorem d_P_remove_49 : decode c_P_remove 49 = .ok (.aload_n 0, 1) := by decide +kernel
theorem d_P_remove_50 : decode c_P_remove 50 = .ok (.invokevirtual 67, 3) := by decide +kernel
theorem d_P_remove_53 : decode c_P_remove 53 = .ok (.ifCond .eq 6, 3) := by decide +kernel
theorem d_P_remove_56 : decode c_P_remove 56 = .ok (.bipush (-2), 2) := by decide +kernel
theorem d_P_remove_58 : decode c_P_remove 58 = .ok (.ireturn, 1) := by decide +kernel
theorem d_P_remove_59 : decode c_P_remove 59 = .ok (.aload_n 0, 1) := by decide +kernel
theorem d_P_remove_60 : decode c_P_remove 60 = .ok (.iload_n 3, 1) := by decide +kernel
theorem d_P_remove_61 : decode c_P_remove 61 = .ok (.iconst (-1), 1) := by decide +kernel
theorem d_P_remove_62 : decode c_P_remove 62 = .ok (.invokevirtual 84, 3) := by decide +kernel
theorem d_P_remove_65 : decode c_P_remove 65 = .ok (.iconst 0, 1) := by decide +kernel
theorem d_P_remove_66 : decode c_P_remove 66 = .ok (.ireturn, 1) := by decide +kernel
abbrev B_P_remove (z : zT) (ws0 : va_W) (mc ms : Nat) (Post : Option Value → mM → Prop) : Prop := BX z c_P_remove 4 y_P_remove.cls y_P_remove.name 3 68 ∧ BQ z (some (.int)) ws0 mc ms Post
abbrev Ct_P_remove (l : Launch) (D : va_G) (tys : List (ClassId × FieldType)) (mc ms : Nat) (av : List Value) (M : mM) (Post : Option Value → mM → Prop) : Prop := Ct l D tys y_P_remove w_P_remove 3 68 mc ms av M Post
theorem i_P_remove_0 {z : zT} {ws0 : va_W} {mc ms : Nat} {Post : Option Value → mM → Prop} (X : B_P_remove z ws0 mc ms Post) {v : Value} {l1 l2 l3 : Option Value} {M : mM} {k n : Nat} (hv : mRf v := by first | exact mRf_r _ | exact mRf_n | exact mRf_rf _ | assumption) (h : RN z 1 [some v, l1, l2, l3] [v] M k n) : RN z 0 [some v, l1, l2, l3] [] M k n := R_aload_n X.1 d_P_remove_0 rfl rfl hv h
theorem i_P_remove_1 {z : zT} {ws0 : va_W} {mc ms : Nat} {Post : Option Value → mM → Prop} (X : B_P_remove z ws0 mc ms Post) {x : Int32} {l0 l2 l3 : Option Value} {s0 : Value} {M : mM} {k n : Nat}  (h : RN z 2 [l0, some (.int x), l2, l3] [.int x, s0] M k n) : RN z 1 [l0, some (.int x), l2, l3] [s0] M k n := R_iload_n X.1 d_P_remove_1 rfl rfl h
theorem i_P_remove_2 {z : zT} {ws0 : va_W} {mc ms : Nat} {Post : Option Value → mM → Prop} (X : B_P_remove z ws0 mc ms Post) {a0 : Value} {b : Nat} {mc1 ms1 : Nat} {Po : Option Value → mM → Prop} {fs : List Value} {l0 l1 l2 l3 : Option Value} {M : mM} {k n : Nat} (hM : M b = some (.inr (3, fs))) (hC : Ct (zl z) (zD z) (zty z) y_P_isMadeFolder w_P_isMadeFolder 1 21 mc1 ms1 [.ref b, a0] M Po) (hk : k + mc1 ≤ mc) (hn : n + ms1 ≤ ms) (h : ∀ v M1, Po v M1 → RN z 5 [l0, l1, l2, l3] (v.toList ++ []) M1 (k + mc1) (n + ms1)) : RN z 2 [l0, l1, l2, l3] [a0, .ref b] M k n := R_callV X.1 (av := [a0]) (nA := 1) wd_121 wd_118 wd_120 wd_0 wd_30 (by decide +kernel) rfl (Nat.le_of_ble_eq_true rfl) (Nat.le_of_ble_eq_true rfl) (Nat.le_of_ble_eq_true rfl) d_P_remove_2 rfl (ci := 3) rfl hM hC (by rw [BM.rc1 X.2]; exact hk) (by rw [BM.rc2 X.2]; exact hn) h
theorem i_P_remove_5 {z : zT} {ws0 : va_W} {mc ms : Nat} {Post : Option Value → mM → Prop} (X : B_P_remove z ws0 mc ms Post) {x : Int32} {l0 l1 l2 l3 : Option Value} {M : mM} {k n : Nat}  (h1 : x = 0 → RN z 15 [l0, l1, l2, l3] [] M k n) (h2 : ¬ (x = 0) → RN z 8 [l0, l1, l2, l3] [] M k n) : RN z 5 [l0, l1, l2, l3] [.int x] M k n := R_if_eq X.1 d_P_remove_5 (by decide) h1 h2
theorem i_P_remove_8 {z : zT} {ws0 : va_W} {mc ms : Nat} {Post : Option Value → mM → Prop} (X : B_P_remove z ws0 mc ms Post) {x : Int32} {l0 l1 l3 : Option Value} {M : mM} {k n : Nat}  (h : RN z 9 [l0, l1, some (.int x), l3] [.int x] M k n) : RN z 8 [l0, l1, some (.int x), l3] [] M k n := R_iload_n X.1 d_P_remove_8 rfl rfl h
theorem i_P_remove_9 {z : zT} {ws0 : va_W} {mc ms : Nat} {Post : Option Value → mM → Prop} (X : B_P_remove z ws0 mc ms Post) {a0 : Value} {mc1 ms1 : Nat} {Po : Option Value → mM → Prop} {l0 l1 l2 l3 : Option Value} {M : mM} {k n : Nat} (hC : Ct (zl z) (zD z) (zty z) y_P_isName w_P_isName 0 0 mc1 ms1 [a0] M Po) (hk : k + mc1 ≤ mc) (hn : n + ms1 ≤ ms) (h : ∀ v M1, Po v M1 → RN z 12 [l0, l1, l2, l3] (v.toList ++ []) M1 (k + mc1) (n + ms1)) : RN z 9 [l0, l1, l2, l3] [a0] M k n := R_callS X.1 (av := [a0]) (nA := 1) wd_128 wd_126 wd_127 wd_30 (by decide +kernel) rfl (Nat.le_of_ble_eq_true rfl) (Nat.le_of_ble_eq_true rfl) (Nat.le_of_ble_eq_true rfl) d_P_remove_9 rfl hC (by rw [BM.rc1 X.2]; exact hk) (by rw [BM.rc2 X.2]; exact hn) h
theorem i_P_remove_12 {z : zT} {ws0 : va_W} {mc ms : Nat} {Post : Option Value → mM → Prop} (X : B_P_remove z ws0 mc ms Post) {x : Int32} {l0 l1 l2 l3 : Option Value} {M : mM} {k n : Nat}  (h1 : ¬ x = 0 → RN z 17 [l0, l1, l2, l3] [] M k n) (h2 : x = 0 → RN z 15 [l0, l1, l2, l3] [] M k n) : RN z 12 [l0, l1, l2, l3] [.int x] M k n := R_if_ne X.1 d_P_remove_12 (by decide) h1 h2
theorem i_P_remove_15 {z : zT} {ws0 : va_W} {mc ms : Nat} {Post : Option Value → mM → Prop} (X : B_P_remove z ws0 mc ms Post) {l0 l1 l2 l3 : Option Value} {M : mM} {k n : Nat}  (h : RN z 16 [l0, l1, l2, l3] [.int (-1)] M k n) : RN z 15 [l0, l1, l2, l3] [] M k n := R_iconst X.1 d_P_remove_15 (by decide) h
theorem i_P_remove_16 {z : zT} {ws0 : va_W} {mc ms : Nat} {Post : Option Value → mM → Prop} (X : B_P_remove z ws0 mc ms Post) {x : Int32} {l0 l1 l2 l3 : Option Value} {M : mM} {k n : Nat} (hk : k ≤ mc) (hn : n ≤ ms) (hp : Post (some (.int x)) M) : RN z 16 [l0, l1, l2, l3] [.int x] M k n := R_iret X.1 X.2 d_P_remove_16 hk hn hp
theorem i_P_remove_17 {z : zT} {ws0 : va_W} {mc ms : Nat} {Post : Option Value → mM → Prop} (X : B_P_remove z ws0 mc ms Post) {v : Value} {l1 l2 l3 : Option Value} {M : mM} {k n : Nat} (hv : mRf v := by first | exact mRf_r _ | exact mRf_n | exact mRf_rf _ | assumption) (h : RN z 18 [some v, l1, l2, l3] [v] M k n) : RN z 17 [some v, l1, l2, l3] [] M k n := R_aload_n X.1 d_P_remove_17 rfl rfl hv h
theorem i_P_remove_18 {z : zT} {ws0 : va_W} {mc ms : Nat} {Post : Option Value → mM → Prop} (X : B_P_remove z ws0 mc ms Post) {v : Value} {l1 l2 l3 : Option Value} {s0 : Value} {M : mM} {k n : Nat} (hv : mRf v := by first | exact mRf_r _ | exact mRf_n | exact mRf_rf _ | assumption) (h : RN z 19 [some v, l1, l2, l3] [v, s0] M k n) : RN z 18 [some v, l1, l2, l3] [s0] M k n := R_aload_n X.1 d_P_remove_18 rfl rfl hv h
theorem i_P_remove_19 {z : zT} {ws0 : va_W} {mc ms : Nat} {Post : Option Value → mM → Prop} (X : B_P_remove z ws0 mc ms Post) {a : Nat} {f0 f1 f2 f3 f4 f5 f6 f7 f8 f9 f10 : Value} {l0 l1 l2 l3 : Option Value} {s0 : Value} {M : mM} {k n : Nat} (hM : M a = some (.inr (3, [f0, f1, f2, f3, f4, f5, f6, f7, f8, f9, f10]))) (h : RN z 22 [l0, l1, l2, l3] [f4, s0] M k n) : RN z 19 [l0, l1, l2, l3] [.ref a, s0] M k n := R_get X.1 inX3 rfl 4 (Nat.le_of_ble_eq_true rfl) wd_80 d_P_remove_19 hM rfl h
theorem i_P_remove_22 {z : zT} {ws0 : va_W} {mc ms : Nat} {Post : Option Value → mM → Prop} (X : B_P_remove z ws0 mc ms Post) {a0 : Value} {b : Nat} {mc1 ms1 : Nat} {Po : Option Value → mM → Prop} {fs : List Value} {l0 l1 l2 l3 : Option Value} {M : mM} {k n : Nat} (hM : M b = some (.inr (3, fs))) (hC : Ct (zl z) (zD z) (zty z) y_P_findPlaces w_P_findPlaces 1 22 mc1 ms1 [.ref b, a0] M Po) (hk : k + mc1 ≤ mc) (hn : n + ms1 ≤ ms) (h : ∀ v M1, Po v M1 → RN z 25 [l0, l1, l2, l3] (v.toList ++ []) M1 (k + mc1) (n + ms1)) : RN z 22 [l0, l1, l2, l3] [a0, .ref b] M k n := R_callV X.1 (av := [a0]) (nA := 1) wd_132 wd_129 wd_131 wd_2 wd_30 (by decide +kernel) rfl (Nat.le_of_ble_eq_true rfl) (Nat.le_of_ble_eq_true rfl) (Nat.le_of_ble_eq_true rfl) d_P_remove_22 rfl (ci := 3) rfl hM hC (by rw [BM.rc1 X.2]; exact hk) (by rw [BM.rc2 X.2]; exact hn) h
theorem i_P_remove_25 {z : zT} {ws0 : va_W} {mc ms : Nat} {Post : Option Value → mM → Prop} (X : B_P_remove z ws0 mc ms Post) {v : Value} {l1 l2 l3 : Option Value} {M : mM} {k n : Nat} (hv : mRf v := by first | exact mRf_r _ | exact mRf_n | exact mRf_rf _ | assumption) (h : RN z 26 [some v, l1, l2, l3] [v] M k n) : RN z 25 [some v, l1, l2, l3] [] M k n := R_aload_n X.1 d_P_remove_25 rfl rfl hv h
theorem i_P_remove_26 {z : zT} {ws0 : va_W} {mc ms : Nat} {Post : Option Value → mM → Prop} (X : B_P_remove z ws0 mc ms Post) {x : Int32} {l0 l2 l3 : Option Value} {s0 : Value} {M : mM} {k n : Nat}  (h : RN z 27 [l0, some (.int x), l2, l3] [.int x, s0] M k n) : RN z 26 [l0, some (.int x), l2, l3] [s0] M k n := R_iload_n X.1 d_P_remove_26 rfl rfl h
theorem i_P_remove_27 {z : zT} {ws0 : va_W} {mc ms : Nat} {Post : Option Value → mM → Prop} (X : B_P_remove z ws0 mc ms Post) {x : Int32} {l0 l1 l3 : Option Value} {s0 s1 : Value} {M : mM} {k n : Nat}  (h : RN z 28 [l0, l1, some (.int x), l3] [.int x, s0, s1] M k n) : RN z 27 [l0, l1, some (.int x), l3] [s0, s1] M k n := R_iload_n X.1 d_P_remove_27 rfl rfl h
theorem i_P_remove_28 {z : zT} {ws0 : va_W} {mc ms : Nat} {Post : Option Value → mM → Prop} (X : B_P_remove z ws0 mc ms Post) {a0 a1 : Value} {b : Nat} {mc1 ms1 : Nat} {Po : Option Value → mM → Prop} {fs : List Value} {l0 l1 l2 l3 : Option Value} {M : mM} {k n : Nat} (hM : M b = some (.inr (3, fs))) (hC : Ct (zl z) (zD z) (zty z) y_P_entryAt w_P_entryAt 1 21 mc1 ms1 [.ref b, a0, a1] M Po) (hk : k + mc1 ≤ mc) (hn : n + ms1 ≤ ms) (h : ∀ v M1, Po v M1 → RN z 31 [l0, l1, l2, l3] (v.toList ++ []) M1 (k + mc1) (n + ms1)) : RN z 28 [l0, l1, l2, l3] [a1, a0, .ref b] M k n := R_callV X.1 (av := [a0, a1]) (nA := 2) wd_144 wd_141 wd_143 wd_4 wd_30 (by decide +kernel) rfl (Nat.le_of_ble_eq_true rfl) (Nat.le_of_ble_eq_true rfl) (Nat.le_of_ble_eq_true rfl) d_P_remove_28 rfl (ci := 3) rfl hM hC (by rw [BM.rc1 X.2]; exact hk) (by rw [BM.rc2 X.2]; exact hn) h
theorem i_P_remove_31 {z : zT} {ws0 : va_W} {mc ms : Nat} {Post : Option Value → mM → Prop} (X : B_P_remove z ws0 mc ms Post) {x : Int32} {l0 l1 l2 l3 : Option Value} {M : mM} {k n : Nat}  (h : RN z 32 [l0, l1, l2, some (.int x)] [] M k n) : RN z 31 [l0, l1, l2, l3] [.int x] M k n := R_istore_n X.1 d_P_remove_31 rfl (Nat.le_of_ble_eq_true rfl) h
theorem i_P_remove_32 {z : zT} {ws0 : va_W} {mc ms : Nat} {Post : Option Value → mM → Prop} (X : B_P_remove z ws0 mc ms Post) {x : Int32} {l0 l1 l2 : Option Value} {M : mM} {k n : Nat}  (h : RN z 33 [l0, l1, l2, some (.int x)] [.int x] M k n) : RN z 32 [l0, l1, l2, some (.int x)] [] M k n := R_iload_n X.1 d_P_remove_32 rfl rfl h
theorem i_P_remove_33 {z : zT} {ws0 : va_W} {mc ms : Nat} {Post : Option Value → mM → Prop} (X : B_P_remove z ws0 mc ms Post) {x : Int32} {l0 l1 l2 l3 : Option Value} {M : mM} {k n : Nat}  (h1 : x = 0 → RN z 47 [l0, l1, l2, l3] [] M k n) (h2 : ¬ (x = 0) → RN z 36 [l0, l1, l2, l3] [] M k n) : RN z 33 [l0, l1, l2, l3] [.int x] M k n := R_if_eq X.1 d_P_remove_33 (by decide) h1 h2
theorem i_P_remove_36 {z : zT} {ws0 : va_W} {mc ms : Nat} {Post : Option Value → mM → Prop} (X : B_P_remove z ws0 mc ms Post) {v : Value} {l1 l2 l3 : Option Value} {M : mM} {k n : Nat} (hv : mRf v := by first | exact mRf_r _ | exact mRf_n | exact mRf_rf _ | assumption) (h : RN z 37 [some v, l1, l2, l3] [v] M k n) : RN z 36 [some v, l1, l2, l3] [] M k n := R_aload_n X.1 d_P_remove_36 rfl rfl hv h
theorem i_P_remove_37 {z : zT} {ws0 : va_W} {mc ms : Nat} {Post : Option Value → mM → Prop} (X : B_P_remove z ws0 mc ms Post) {x : Int32} {l0 l1 l2 : Option Value} {s0 : Value} {M : mM} {k n : Nat}  (h : RN z 38 [l0, l1, l2, some (.int x)] [.int x, s0] M k n) : RN z 37 [l0, l1, l2, some (.int x)] [s0] M k n := R_iload_n X.1 d_P_remove_37 rfl rfl h
theorem i_P_remove_38 {z : zT} {ws0 : va_W} {mc ms : Nat} {Post : Option Value → mM → Prop} (X : B_P_remove z ws0 mc ms Post) {l0 l1 l2 l3 : Option Value} {s0 s1 : Value} {M : mM} {k n : Nat}  (h : RN z 39 [l0, l1, l2, l3] [.int 0, s0, s1] M k n) : RN z 38 [l0, l1, l2, l3] [s0, s1] M k n := R_iconst X.1 d_P_remove_38 (by decide) h
theorem i_P_remove_39 {z : zT} {ws0 : va_W} {mc ms : Nat} {Post : Option Value → mM → Prop} (X : B_P_remove z ws0 mc ms Post) {a0 a1 : Value} {b : Nat} {mc1 ms1 : Nat} {Po : Option Value → mM → Prop} {fs : List Value} {l0 l1 l2 l3 : Option Value} {M : mM} {k n : Nat} (hM : M b = some (.inr (3, fs))) (hC : Ct (zl z) (zD z) (zty z) y_P_firstName w_P_firstName 2 45 mc1 ms1 [.ref b, a0, a1] M Po) (hk : k + mc1 ≤ mc) (hn : n + ms1 ≤ ms) (h : ∀ v M1, Po v M1 → RN z 42 [l0, l1, l2, l3] (v.toList ++ []) M1 (k + mc1) (n + ms1)) : RN z 39 [l0, l1, l2, l3] [a1, a0, .ref b] M k n := R_callV X.1 (av := [a0, a1]) (nA := 2) wd_213 wd_210 wd_212 wd_8 wd_30 (by decide +kernel) rfl (Nat.le_of_ble_eq_true rfl) (Nat.le_of_ble_eq_true rfl) (Nat.le_of_ble_eq_true rfl) d_P_remove_39 rfl (ci := 3) rfl hM hC (by rw [BM.rc1 X.2]; exact hk) (by rw [BM.rc2 X.2]; exact hn) h
theorem i_P_remove_42 {z : zT} {ws0 : va_W} {mc ms : Nat} {Post : Option Value → mM → Prop} (X : B_P_remove z ws0 mc ms Post) {l0 l1 l2 l3 : Option Value} {s0 : Value} {M : mM} {k n : Nat}  (h : RN z 44 [l0, l1, l2, l3] [.int 8, s0] M k n) : RN z 42 [l0, l1, l2, l3] [s0] M k n := R_bipush X.1 d_P_remove_42 (by decide) h
theorem i_P_remove_44 {z : zT} {ws0 : va_W} {mc ms : Nat} {Post : Option Value → mM → Prop} (X : B_P_remove z ws0 mc ms Post) {x y : Int32} {l0 l1 l2 l3 : Option Value} {M : mM} {k n : Nat}  (h1 : y ≤ x → RN z 49 [l0, l1, l2, l3] [] M k n) (h2 : ¬ (y ≤ x) → RN z 47 [l0, l1, l2, l3] [] M k n) : RN z 44 [l0, l1, l2, l3] [.int y, .int x] M k n := R_icmp_ge X.1 d_P_remove_44 (by decide) h1 h2
theorem i_P_remove_47 {z : zT} {ws0 : va_W} {mc ms : Nat} {Post : Option Value → mM → Prop} (X : B_P_remove z ws0 mc ms Post) {l0 l1 l2 l3 : Option Value} {M : mM} {k n : Nat}  (h : RN z 48 [l0, l1, l2, l3] [.int (-1)] M k n) : RN z 47 [l0, l1, l2, l3] [] M k n := R_iconst X.1 d_P_remove_47 (by decide) h
theorem i_P_remove_48 {z : zT} {ws0 : va_W} {mc ms : Nat} {Post : Option Value → mM → Prop} (X : B_P_remove z ws0 mc ms Post) {x : Int32} {l0 l1 l2 l3 : Option Value} {M : mM} {k n : Nat} (hk : k ≤ mc) (hn : n ≤ ms) (hp : Post (some (.int x)) M) : RN z 48 [l0, l1, l2, l3] [.int x] M k n := R_iret X.1 X.2 d_P_remove_48 hk hn hp
theorem i_P_remove_49 {z : zT} {ws0 : va_W} {mc ms : Nat} {Post : Option Value → mM → Prop} (X : B_P_remove z ws0 mc ms Post) {v : Value} {l1 l2 l3 : Option Value} {M : mM} {k n : Nat} (hv : mRf v := by first | exact mRf_r _ | exact mRf_n | exact mRf_rf _ | assumption) (h : RN z 50 [some v, l1, l2, l3] [v] M k n) : RN z 49 [some v, l1, l2, l3] [] M k n := R_aload_n X.1 d_P_remove_49 rfl rfl hv h
theorem i_P_remove_50 {z : zT} {ws0 : va_W} {mc ms : Nat} {Post : Option Value → mM → Prop} (X : B_P_remove z ws0 mc ms Post) {b : Nat} {mc1 ms1 : Nat} {Po : Option Value → mM → Prop} {fs : List Value} {l0 l1 l2 l3 : Option Value} {M : mM} {k n : Nat} (hM : M b = some (.inr (3, fs))) (hC : Ct (zl z) (zD z) (zty z) y_P_isUsedUp w_P_isUsedUp 0 0 mc1 ms1 [.ref b] M Po) (hk : k + mc1 ≤ mc) (hn : n + ms1 ≤ ms) (h : ∀ v M1, Po v M1 → RN z 53 [l0, l1, l2, l3] (v.toList ++ []) M1 (k + mc1) (n + ms1)) : RN z 50 [l0, l1, l2, l3] [.ref b] M k n := R_callV X.1 (av := []) (nA := 0) wd_151 wd_148 wd_150 wd_5 wd_30 (by decide +kernel) rfl (Nat.le_of_ble_eq_true rfl) (Nat.le_of_ble_eq_true rfl) (Nat.le_of_ble_eq_true rfl) d_P_remove_50 rfl (ci := 3) rfl hM hC (by rw [BM.rc1 X.2]; exact hk) (by rw [BM.rc2 X.2]; exact hn) h
theorem i_P_remove_53 {z : zT} {ws0 : va_W} {mc ms : Nat} {Post : Option Value → mM → Prop} (X : B_P_remove z ws0 mc ms Post) {x : Int32} {l0 l1 l2 l3 : Option Value} {M : mM} {k n : Nat}  (h1 : x = 0 → RN z 59 [l0, l1, l2, l3] [] M k n) (h2 : ¬ (x = 0) → RN z 56 [l0, l1, l2, l3] [] M k n) : RN z 53 [l0, l1, l2, l3] [.int x] M k n := R_if_eq X.1 d_P_remove_53 (by decide) h1 h2
theorem i_P_remove_56 {z : zT} {ws0 : va_W} {mc ms : Nat} {Post : Option Value → mM → Prop} (X : B_P_remove z ws0 mc ms Post) {l0 l1 l2 l3 : Option Value} {M : mM} {k n : Nat}  (h : RN z 58 [l0, l1, l2, l3] [.int (-2)] M k n) : RN z 56 [l0, l1, l2, l3] [] M k n := R_bipush X.1 d_P_remove_56 (by decide) h
theorem i_P_remove_58 {z : zT} {ws0 : va_W} {mc ms : Nat} {Post : Option Value → mM → Prop} (X : B_P_remove z ws0 mc ms Post) {x : Int32} {l0 l1 l2 l3 : Option Value} {M : mM} {k n : Nat} (hk : k ≤ mc) (hn : n ≤ ms) (hp : Post (some (.int x)) M) : RN z 58 [l0, l1, l2, l3] [.int x] M k n := R_iret X.1 X.2 d_P_remove_58 hk hn hp
theorem i_P_remove_59 {z : zT} {ws0 : va_W} {mc ms : Nat} {Post : Option Value → mM → Prop} (X : B_P_remove z ws0 mc ms Post) {v : Value} {l1 l2 l3 : Option Value} {M : mM} {k n : Nat} (hv : mRf v := by first | exact mRf_r _ | exact mRf_n | exact mRf_rf _ | assumption) (h : RN z 60 [some v, l1, l2, l3] [v] M k n) : RN z 59 [some v, l1, l2, l3] [] M k n := R_aload_n X.1 d_P_remove_59 rfl rfl hv h
theorem i_P_remove_60 {z : zT} {ws0 : va_W} {mc ms : Nat} {Post : Option Value → mM → Prop} (X : B_P_remove z ws0 mc ms Post) {x : Int32} {l0 l1 l2 : Option Value} {s0 : Value} {M : mM} {k n : Nat}  (h : RN z 61 [l0, l1, l2, some (.int x)] [.int x, s0] M k n) : RN z 60 [l0, l1, l2, some (.int x)] [s0] M k n := R_iload_n X.1 d_P_remove_60 rfl rfl h
theorem i_P_remove_61 {z : zT} {ws0 : va_W} {mc ms : Nat} {Post : Option Value → mM → Prop} (X : B_P_remove z ws0 mc ms Post) {l0 l1 l2 l3 : Option Value} {s0 s1 : Value} {M : mM} {k n : Nat}  (h : RN z 62 [l0, l1, l2, l3] [.int (-1), s0, s1] M k n) : RN z 61 [l0, l1, l2, l3] [s0, s1] M k n := R_iconst X.1 d_P_remove_61 (by decide) h
theorem i_P_remove_62 {z : zT} {ws0 : va_W} {mc ms : Nat} {Post : Option Value → mM → Prop} (X : B_P_remove z ws0 mc ms Post) {a0 a1 : Value} {b : Nat} {mc1 ms1 : Nat} {Po : Option Value → mM → Prop} {fs : List Value} {l0 l1 l2 l3 : Option Value} {M : mM} {k n : Nat} (hM : M b = some (.inr (3, fs))) (hC : Ct (zl z) (zD z) (zty z) y_P_place w_P_place 2 35 mc1 ms1 [.ref b, a0, a1] M Po) (hk : k + mc1 ≤ mc) (hn : n + ms1 ≤ ms) (h : ∀ v M1, Po v M1 → RN z 65 [l0, l1, l2, l3] (v.toList ++ []) M1 (k + mc1) (n + ms1)) : RN z 62 [l0, l1, l2, l3] [a1, a0, .ref b] M k n := R_callV X.1 (av := [a0, a1]) (nA := 2) wd_182 wd_179 wd_181 wd_6 wd_30 (by decide +kernel) rfl (Nat.le_of_ble_eq_true rfl) (Nat.le_of_ble_eq_true rfl) (Nat.le_of_ble_eq_true rfl) d_P_remove_62 rfl (ci := 3) rfl hM hC (by rw [BM.rc1 X.2]; exact hk) (by rw [BM.rc2 X.2]; exact hn) h
theorem i_P_remove_65 {z : zT} {ws0 : va_W} {mc ms : Nat} {Post : Option Value → mM → Prop} (X : B_P_remove z ws0 mc ms Post) {l0 l1 l2 l3 : Option Value} {M : mM} {k n : Nat}  (h : RN z 66 [l0, l1, l2, l3] [.int 0] M k n) : RN z 65 [l0, l1, l2, l3] [] M k n := R_iconst X.1 d_P_remove_65 (by decide) h
theorem i_P_remove_66 {z : zT} {ws0 : va_W} {mc ms : Nat} {Post : Option Value → mM → Prop} (X : B_P_remove z ws0 mc ms Post) {x : Int32} {l0 l1 l2 l3 : Option Value} {M : mM} {k n : Nat} (hk : k ≤ mc) (hn : n ≤ ms) (hp : Post (some (.int x)) M) : RN z 66 [l0, l1, l2, l3] [.int x] M k n := R_iret X.1 X.2 d_P_remove_66 hk hn hp
theorem d_P_move_0 : decode c_P_move 0 = .ok (.aload_n 0, 1) := by decide +kernel
theorem d_P_move_1 : decode c_P_move 1 = .ok (.iload_n 1, 1) := by decide +kernel
theorem d_P_move_2 : decode c_P_move 2 = .ok (.invokevirtual 52, 3) := by decide +kernel
theorem d_P_move_5 : decode c_P_move 5 = .ok (.ifCond .eq 26, 3) := by decide +kernel
theorem d_P_move_8 : decode c_P_move 8 = .ok (.iload_n 2, 1) := by decide +kernel
theorem d_P_move_9 : decode c_P_move 9 = .ok (.invokestatic 56, 3) := by decide +kernel
theorem d_P_move_12 : decode c_P_move 12 = .ok (.ifCond .eq 19, 3) := by decide +kernel
theorem d_P_move_15 : decode c_P_move 15 = .ok (.aload_n 0, 1) := by decide +kernel
theorem d_P_move_16 : decode c_P_move 16 = .ok (.iload_n 3, 1) := by decide +kernel
theorem d_P_move_17 : decode c_P_move 17 = .ok (.invokevirtual 52, 3) := by decide +kernel
theorem d_P_move_20 : decode c_P_move 20 = .ok (.ifCond .eq 11, 3) := by decide +kernel
theorem d_P_move_23 : decode c_P_move 23 = .ok (.iload 4, 2) := by decide +kernel
theorem d_P_move_25 : decode c_P_move 25 = .ok (.invokestatic 56, 3) := by decide +kernel
theorem d_P_move_28 : decode c_P_move 28 = .ok (.ifCond .ne 5, 3) := by decide +kernel
theorem d_P_move_31 : decode c_P_move 31 = .ok (.iconst (-1), 1) := by decide +kernel
theorem d_P_move_32 : decode c_P_move 32 = .ok (.ireturn, 1) := by decide +kernel
theorem d_P_move_33 : decode c_P_move 33 = .ok (.aload_n 0, 1) := by decide +kernel
theorem d_P_move_34 : decode c_P_move 34 = .ok (.aload_n 0, 1) := by decide +kernel
theorem d_P_move_35 : decode c_P_move 35 = .ok (.getfield 19, 3) := by decide +kernel
theorem d_P_move_38 : decode c_P_move 38 = .ok (.invokevirtual 59, 3) := by decide +kernel
theorem d_P_move_41 : decode c_P_move 41 = .ok (.aload_n 0, 1) := by decide +kernel
theorem d_P_move_42 : decode c_P_move 42 = .ok (.iload_n 1, 1) := by decide +kernel
theorem d_P_move_43 : decode c_P_move 43 = .ok (.iload_n 2, 1) := by decide +kernel
theorem d_P_move_44 : decode c_P_move 44 = .ok (.invokevirtual 88, 3) := by decide +kernel
theorem d_P_move_47 : decode c_P_move 47 = .ok (.istore 5, 2) := by decide +kernel
theorem d_P_move_49 : decode c_P_move 49 = .ok (.iload 5, 2) := by decide +kernel
theorem d_P_move_51 : decode c_P_move 51 = .ok (.ifCond .eq 23, 3) := by decide +kernel
theorem d_P_move_54 : decode c_P_move 54 = .ok (.aload_n 0, 1) := by decide +kernel
theorem d_P_move_55 : decode c_P_move 55 = .ok (.iload_n 3, 1) := by decide +kernel
theorem d_P_move_56 : decode c_P_move 56 = .ok (.iload 4, 2) := by decide +kernel
theorem d_P_move_58 : decode c_P_move 58 = .ok (.invokevirtual 63, 3) := by decide +kernel
theorem d_P_move_61 : decode c_P_move 61 = .ok (.ifCond .eq 13, 3) := by decide +kernel
theorem d_P_move_64 : decode c_P_move 64 = .ok (.aload_n 0, 1) := by decide +kernel
theorem d_P_move_65 : decode c_P_move 65 = .ok (.iload_n 3, 1) := by decide +kernel
theorem d_P_move_66 : decode c_P_move 66 = .ok (.iload 5, 2) := by decide +kernel
theorem d_P_move_68 : decode c_P_move 68 = .ok (.invokevirtual 94, 3) := by decide +kernel
theorem d_P_move_71 : decode c_P_move 71 = .ok (.ifCond .eq 5, 3) := by decide +kernel
theorem d_P_move_74 : decode c_P_move 74 = .ok (.iconst (-1), 1) := by decide +kernel
theorem d_P_move_75 : decode c_P_move 75 = .ok (.ireturn, 1) := by decide +kernel
theorem d_P_move_76 : decode c_P_move 76 = .ok (.aload_n 0, 1) := by decide +kernel
theorem d_P_move_77 : decode c_P_move 77 = .ok (.invokevirtual 67, 3) := by decide +kernel
theorem d_P_move_80 : decode c_P_move 80 = .ok (.ifCond .eq 6, 3) := by decide +kernel
theorem d_P_move_83 : decode c_P_move 83 = .ok (.bipush (-2), 2) := by decide +kernel
theorem d_P_move_85 : decode c_P_move 85 = .ok (.ireturn, 1) := by decide +kernel
theorem d_P_move_86 : decode c_P_move 86 = .ok (.aload_n 0, 1) := by decide +kernel
theorem d_P_move_87 : decode c_P_move 87 = .ok (.iload 5, 2) := by decide +kernel
theorem d_P_move_89 : decode c_P_move 89 = .ok (.iload_n 3, 1) := by decide +kernel
theorem d_P_move_90 : decode c_P_move 90 = .ok (.iload 4, 2) := by decide +kernel
theorem d_P_move_92 : decode c_P_move 92 = .ok (.invokestatic 80, 3) := by decide +kernel
theorem d_P_move_95 : decode c_P_move 95 = .ok (.invokevirtual 84, 3) := by decide +kernel
theorem d_P_move_98 : decode c_P_move 98 = .ok (.iconst 0, 1) := by decide +kernel
theorem d_P_move_99 : decode c_P_move 99 = .ok (.ireturn, 1) := by decide +kernel
abbrev B_P_move (z : zT) (ws0 : va_W) (mc ms : Nat) (Post : Option Value → mM → Prop) : Prop := BX z c_P_move 6 y_P_move.cls y_P_move.name 3 68 ∧ BQ z (some (.int)) ws0 mc ms Post
abbrev Ct_P_move (l : Launch) (D : va_G) (tys : List (ClassId × FieldType)) (mc ms : Nat) (av : List Value) (M : mM) (Post : Option Value → mM → Prop) : Prop := Ct l D tys y_P_move w_P_move 3 68 mc ms av M Post
theorem i_P_move_0 {z : zT} {ws0 : va_W} {mc ms : Nat} {Post : Option Value → mM → Prop} (X : B_P_move z ws0 mc ms Post) {v : Value} {l1 l2 l3 l4 l5 : Option Value} {M : mM} {k n : Nat} (hv : mRf v := by first | exact mRf_r _ | exact mRf_n | exact mRf_rf _ | assumption) (h : RN z 1 [some v, l1, l2, l3, l4, l5] [v] M k n) : RN z 0 [some v, l1, l2, l3, l4, l5] [] M k n := R_aload_n X.1 d_P_move_0 rfl rfl hv h
theorem i_P_move_1 {z : zT} {ws0 : va_W} {mc ms : Nat} {Post : Option Value → mM → Prop} (X : B_P_move z ws0 mc ms Post) {x : Int32} {l0 l2 l3 l4 l5 : Option Value} {s0 : Value} {M : mM} {k n : Nat}  (h : RN z 2 [l0, some (.int x), l2, l3, l4, l5] [.int x, s0] M k n) : RN z 1 [l0, some (.int x), l2, l3, l4, l5] [s0] M k n := R_iload_n X.1 d_P_move_1 rfl rfl h
theorem i_P_move_2 {z : zT} {ws0 : va_W} {mc ms : Nat} {Post : Option Value → mM → Prop} (X : B_P_move z ws0 mc ms Post) {a0 : Value} {b : Nat} {mc1 ms1 : Nat} {Po : Option Value → mM → Prop} {fs : List Value} {l0 l1 l2 l3 l4 l5 : Option Value} {M : mM} {k n : Nat} (hM : M b = some (.inr (3, fs))) (hC : Ct (zl z) (zD z) (zty z) y_P_isMadeFolder w_P_isMadeFolder 1 21 mc1 ms1 [.ref b, a0] M Po) (hk : k + mc1 ≤ mc) (hn : n + ms1 ≤ ms) (h : ∀ v M1, Po v M1 → RN z 5 [l0, l1, l2, l3, l4, l5] (v.toList ++ []) M1 (k + mc1) (n + ms1)) : RN z 2 [l0, l1, l2, l3, l4, l5] [a0, .ref b] M k n := R_callV X.1 (av := [a0]) (nA := 1) wd_121 wd_118 wd_120 wd_0 wd_30 (by decide +kernel) rfl (Nat.le_of_ble_eq_true rfl) (Nat.le_of_ble_eq_true rfl) (Nat.le_of_ble_eq_true rfl) d_P_move_2 rfl (ci := 3) rfl hM hC (by rw [BM.rc1 X.2]; exact hk) (by rw [BM.rc2 X.2]; exact hn) h
theorem i_P_move_5 {z : zT} {ws0 : va_W} {mc ms : Nat} {Post : Option Value → mM → Prop} (X : B_P_move z ws0 mc ms Post) {x : Int32} {l0 l1 l2 l3 l4 l5 : Option Value} {M : mM} {k n : Nat}  (h1 : x = 0 → RN z 31 [l0, l1, l2, l3, l4, l5] [] M k n) (h2 : ¬ (x = 0) → RN z 8 [l0, l1, l2, l3, l4, l5] [] M k n) : RN z 5 [l0, l1, l2, l3, l4, l5] [.int x] M k n := R_if_eq X.1 d_P_move_5 (by decide) h1 h2
theorem i_P_move_8 {z : zT} {ws0 : va_W} {mc ms : Nat} {Post : Option Value → mM → Prop} (X : B_P_move z ws0 mc ms Post) {x : Int32} {l0 l1 l3 l4 l5 : Option Value} {M : mM} {k n : Nat}  (h : RN z 9 [l0, l1, some (.int x), l3, l4, l5] [.int x] M k n) : RN z 8 [l0, l1, some (.int x), l3, l4, l5] [] M k n := R_iload_n X.1 d_P_move_8 rfl rfl h
theorem i_P_move_9 {z : zT} {ws0 : va_W} {mc ms : Nat} {Post : Option Value → mM → Prop} (X : B_P_move z ws0 mc ms Post) {a0 : Value} {mc1 ms1 : Nat} {Po : Option Value → mM → Prop} {l0 l1 l2 l3 l4 l5 : Option Value} {M : mM} {k n : Nat} (hC : Ct (zl z) (zD z) (zty z) y_P_isName w_P_isName 0 0 mc1 ms1 [a0] M Po) (hk : k + mc1 ≤ mc) (hn : n + ms1 ≤ ms) (h : ∀ v M1, Po v M1 → RN z 12 [l0, l1, l2, l3, l4, l5] (v.toList ++ []) M1 (k + mc1) (n + ms1)) : RN z 9 [l0, l1, l2, l3, l4, l5] [a0] M k n := R_callS X.1 (av := [a0]) (nA := 1) wd_128 wd_126 wd_127 wd_30 (by decide +kernel) rfl (Nat.le_of_ble_eq_true rfl) (Nat.le_of_ble_eq_true rfl) (Nat.le_of_ble_eq_true rfl) d_P_move_9 rfl hC (by rw [BM.rc1 X.2]; exact hk) (by rw [BM.rc2 X.2]; exact hn) h
theorem i_P_move_12 {z : zT} {ws0 : va_W} {mc ms : Nat} {Post : Option Value → mM → Prop} (X : B_P_move z ws0 mc ms Post) {x : Int32} {l0 l1 l2 l3 l4 l5 : Option Value} {M : mM} {k n : Nat}  (h1 : x = 0 → RN z 31 [l0, l1, l2, l3, l4, l5] [] M k n) (h2 : ¬ (x = 0) → RN z 15 [l0, l1, l2, l3, l4, l5] [] M k n) : RN z 12 [l0, l1, l2, l3, l4, l5] [.int x] M k n := R_if_eq X.1 d_P_move_12 (by decide) h1 h2
theorem i_P_move_15 {z : zT} {ws0 : va_W} {mc ms : Nat} {Post : Option Value → mM → Prop} (X : B_P_move z ws0 mc ms Post) {v : Value} {l1 l2 l3 l4 l5 : Option Value} {M : mM} {k n : Nat} (hv : mRf v := by first | exact mRf_r _ | exact mRf_n | exact mRf_rf _ | assumption) (h : RN z 16 [some v, l1, l2, l3, l4, l5] [v] M k n) : RN z 15 [some v, l1, l2, l3, l4, l5] [] M k n := R_aload_n X.1 d_P_move_15 rfl rfl hv h
theorem i_P_move_16 {z : zT} {ws0 : va_W} {mc ms : Nat} {Post : Option Value → mM → Prop} (X : B_P_move z ws0 mc ms Post) {x : Int32} {l0 l1 l2 l4 l5 : Option Value} {s0 : Value} {M : mM} {k n : Nat}  (h : RN z 17 [l0, l1, l2, some (.int x), l4, l5] [.int x, s0] M k n) : RN z 16 [l0, l1, l2, some (.int x), l4, l5] [s0] M k n := R_iload_n X.1 d_P_move_16 rfl rfl h
theorem i_P_move_17 {z : zT} {ws0 : va_W} {mc ms : Nat} {Post : Option Value → mM → Prop} (X : B_P_move z ws0 mc ms Post) {a0 : Value} {b : Nat} {mc1 ms1 : Nat} {Po : Option Value → mM → Prop} {fs : List Value} {l0 l1 l2 l3 l4 l5 : Option Value} {M : mM} {k n : Nat} (hM : M b = some (.inr (3, fs))) (hC : Ct (zl z) (zD z) (zty z) y_P_isMadeFolder w_P_isMadeFolder 1 21 mc1 ms1 [.ref b, a0] M Po) (hk : k + mc1 ≤ mc) (hn : n + ms1 ≤ ms) (h : ∀ v M1, Po v M1 → RN z 20 [l0, l1, l2, l3, l4, l5] (v.toList ++ []) M1 (k + mc1) (n + ms1)) : RN z 17 [l0, l1, l2, l3, l4, l5] [a0, .ref b] M k n := R_callV X.1 (av := [a0]) (nA := 1) wd_121 wd_118 wd_120 wd_0 wd_30 (by decide +kernel) rfl (Nat.le_of_ble_eq_true rfl) (Nat.le_of_ble_eq_true rfl) (Nat.le_of_ble_eq_true rfl) d_P_move_17 rfl (ci := 3) rfl hM hC (by rw [BM.rc1 X.2]; exact hk) (by rw [BM.rc2 X.2]; exact hn) h
theorem i_P_move_20 {z : zT} {ws0 : va_W} {mc ms : Nat} {Post : Option Value → mM → Prop} (X : B_P_move z ws0 mc ms Post) {x : Int32} {l0 l1 l2 l3 l4 l5 : Option Value} {M : mM} {k n : Nat}  (h1 : x = 0 → RN z 31 [l0, l1, l2, l3, l4, l5] [] M k n) (h2 : ¬ (x = 0) → RN z 23 [l0, l1, l2, l3, l4, l5] [] M k n) : RN z 20 [l0, l1, l2, l3, l4, l5] [.int x] M k n := R_if_eq X.1 d_P_move_20 (by decide) h1 h2
theorem i_P_move_23 {z : zT} {ws0 : va_W} {mc ms : Nat} {Post : Option Value → mM → Prop} (X : B_P_move z ws0 mc ms Post) {x : Int32} {l0 l1 l2 l3 l5 : Option Value} {M : mM} {k n : Nat}  (h : RN z 25 [l0, l1, l2, l3, some (.int x), l5] [.int x] M k n) : RN z 23 [l0, l1, l2, l3, some (.int x), l5] [] M k n := R_iload X.1 d_P_move_23 rfl h
theorem i_P_move_25 {z : zT} {ws0 : va_W} {mc ms : Nat} {Post : Option Value → mM → Prop} (X : B_P_move z ws0 mc ms Post) {a0 : Value} {mc1 ms1 : Nat} {Po : Option Value → mM → Prop} {l0 l1 l2 l3 l4 l5 : Option Value} {M : mM} {k n : Nat} (hC : Ct (zl z) (zD z) (zty z) y_P_isName w_P_isName 0 0 mc1 ms1 [a0] M Po) (hk : k + mc1 ≤ mc) (hn : n + ms1 ≤ ms) (h : ∀ v M1, Po v M1 → RN z 28 [l0, l1, l2, l3, l4, l5] (v.toList ++ []) M1 (k + mc1) (n + ms1)) : RN z 25 [l0, l1, l2, l3, l4, l5] [a0] M k n := R_callS X.1 (av := [a0]) (nA := 1) wd_128 wd_126 wd_127 wd_30 (by decide +kernel) rfl (Nat.le_of_ble_eq_true rfl) (Nat.le_of_ble_eq_true rfl) (Nat.le_of_ble_eq_true rfl) d_P_move_25 rfl hC (by rw [BM.rc1 X.2]; exact hk) (by rw [BM.rc2 X.2]; exact hn) h
theorem i_P_move_28 {z : zT} {ws0 : va_W} {mc ms : Nat} {Post : Option Value → mM → Prop} (X : B_P_move z ws0 mc ms Post) {x : Int32} {l0 l1 l2 l3 l4 l5 : Option Value} {M : mM} {k n : Nat}  (h1 : ¬ x = 0 → RN z 33 [l0, l1, l2, l3, l4, l5] [] M k n) (h2 : x = 0 → RN z 31 [l0, l1, l2, l3, l4, l5] [] M k n) : RN z 28 [l0, l1, l2, l3, l4, l5] [.int x] M k n := R_if_ne X.1 d_P_move_28 (by decide) h1 h2
theorem i_P_move_31 {z : zT} {ws0 : va_W} {mc ms : Nat} {Post : Option Value → mM → Prop} (X : B_P_move z ws0 mc ms Post) {l0 l1 l2 l3 l4 l5 : Option Value} {M : mM} {k n : Nat}  (h : RN z 32 [l0, l1, l2, l3, l4, l5] [.int (-1)] M k n) : RN z 31 [l0, l1, l2, l3, l4, l5] [] M k n := R_iconst X.1 d_P_move_31 (by decide) h
theorem i_P_move_32 {z : zT} {ws0 : va_W} {mc ms : Nat} {Post : Option Value → mM → Prop} (X : B_P_move z ws0 mc ms Post) {x : Int32} {l0 l1 l2 l3 l4 l5 : Option Value} {M : mM} {k n : Nat} (hk : k ≤ mc) (hn : n ≤ ms) (hp : Post (some (.int x)) M) : RN z 32 [l0, l1, l2, l3, l4, l5] [.int x] M k n := R_iret X.1 X.2 d_P_move_32 hk hn hp
theorem i_P_move_33 {z : zT} {ws0 : va_W} {mc ms : Nat} {Post : Option Value → mM → Prop} (X : B_P_move z ws0 mc ms Post) {v : Value} {l1 l2 l3 l4 l5 : Option Value} {M : mM} {k n : Nat} (hv : mRf v := by first | exact mRf_r _ | exact mRf_n | exact mRf_rf _ | assumption) (h : RN z 34 [some v, l1, l2, l3, l4, l5] [v] M k n) : RN z 33 [some v, l1, l2, l3, l4, l5] [] M k n := R_aload_n X.1 d_P_move_33 rfl rfl hv h
theorem i_P_move_34 {z : zT} {ws0 : va_W} {mc ms : Nat} {Post : Option Value → mM → Prop} (X : B_P_move z ws0 mc ms Post) {v : Value} {l1 l2 l3 l4 l5 : Option Value} {s0 : Value} {M : mM} {k n : Nat} (hv : mRf v := by first | exact mRf_r _ | exact mRf_n | exact mRf_rf _ | assumption) (h : RN z 35 [some v, l1, l2, l3, l4, l5] [v, s0] M k n) : RN z 34 [some v, l1, l2, l3, l4, l5] [s0] M k n := R_aload_n X.1 d_P_move_34 rfl rfl hv h
theorem i_P_move_35 {z : zT} {ws0 : va_W} {mc ms : Nat} {Post : Option Value → mM → Prop} (X : B_P_move z ws0 mc ms Post) {a : Nat} {f0 f1 f2 f3 f4 f5 f6 f7 f8 f9 f10 : Value} {l0 l1 l2 l3 l4 l5 : Option Value} {s0 : Value} {M : mM} {k n : Nat} (hM : M a = some (.inr (3, [f0, f1, f2, f3, f4, f5, f6, f7, f8, f9, f10]))) (h : RN z 38 [l0, l1, l2, l3, l4, l5] [f4, s0] M k n) : RN z 35 [l0, l1, l2, l3, l4, l5] [.ref a, s0] M k n := R_get X.1 inX3 rfl 4 (Nat.le_of_ble_eq_true rfl) wd_80 d_P_move_35 hM rfl h
theorem i_P_move_38 {z : zT} {ws0 : va_W} {mc ms : Nat} {Post : Option Value → mM → Prop} (X : B_P_move z ws0 mc ms Post) {a0 : Value} {b : Nat} {mc1 ms1 : Nat} {Po : Option Value → mM → Prop} {fs : List Value} {l0 l1 l2 l3 l4 l5 : Option Value} {M : mM} {k n : Nat} (hM : M b = some (.inr (3, fs))) (hC : Ct (zl z) (zD z) (zty z) y_P_findPlaces w_P_findPlaces 1 22 mc1 ms1 [.ref b, a0] M Po) (hk : k + mc1 ≤ mc) (hn : n + ms1 ≤ ms) (h : ∀ v M1, Po v M1 → RN z 41 [l0, l1, l2, l3, l4, l5] (v.toList ++ []) M1 (k + mc1) (n + ms1)) : RN z 38 [l0, l1, l2, l3, l4, l5] [a0, .ref b] M k n := R_callV X.1 (av := [a0]) (nA := 1) wd_132 wd_129 wd_131 wd_2 wd_30 (by decide +kernel) rfl (Nat.le_of_ble_eq_true rfl) (Nat.le_of_ble_eq_true rfl) (Nat.le_of_ble_eq_true rfl) d_P_move_38 rfl (ci := 3) rfl hM hC (by rw [BM.rc1 X.2]; exact hk) (by rw [BM.rc2 X.2]; exact hn) h
theorem i_P_move_41 {z : zT} {ws0 : va_W} {mc ms : Nat} {Post : Option Value → mM → Prop} (X : B_P_move z ws0 mc ms Post) {v : Value} {l1 l2 l3 l4 l5 : Option Value} {M : mM} {k n : Nat} (hv : mRf v := by first | exact mRf_r _ | exact mRf_n | exact mRf_rf _ | assumption) (h : RN z 42 [some v, l1, l2, l3, l4, l5] [v] M k n) : RN z 41 [some v, l1, l2, l3, l4, l5] [] M k n := R_aload_n X.1 d_P_move_41 rfl rfl hv h
theorem i_P_move_42 {z : zT} {ws0 : va_W} {mc ms : Nat} {Post : Option Value → mM → Prop} (X : B_P_move z ws0 mc ms Post) {x : Int32} {l0 l2 l3 l4 l5 : Option Value} {s0 : Value} {M : mM} {k n : Nat}  (h : RN z 43 [l0, some (.int x), l2, l3, l4, l5] [.int x, s0] M k n) : RN z 42 [l0, some (.int x), l2, l3, l4, l5] [s0] M k n := R_iload_n X.1 d_P_move_42 rfl rfl h
theorem i_P_move_43 {z : zT} {ws0 : va_W} {mc ms : Nat} {Post : Option Value → mM → Prop} (X : B_P_move z ws0 mc ms Post) {x : Int32} {l0 l1 l3 l4 l5 : Option Value} {s0 s1 : Value} {M : mM} {k n : Nat}  (h : RN z 44 [l0, l1, some (.int x), l3, l4, l5] [.int x, s0, s1] M k n) : RN z 43 [l0, l1, some (.int x), l3, l4, l5] [s0, s1] M k n := R_iload_n X.1 d_P_move_43 rfl rfl h
theorem i_P_move_44 {z : zT} {ws0 : va_W} {mc ms : Nat} {Post : Option Value → mM → Prop} (X : B_P_move z ws0 mc ms Post) {a0 a1 : Value} {b : Nat} {mc1 ms1 : Nat} {Po : Option Value → mM → Prop} {fs : List Value} {l0 l1 l2 l3 l4 l5 : Option Value} {M : mM} {k n : Nat} (hM : M b = some (.inr (3, fs))) (hC : Ct (zl z) (zD z) (zty z) y_P_entryAt w_P_entryAt 1 21 mc1 ms1 [.ref b, a0, a1] M Po) (hk : k + mc1 ≤ mc) (hn : n + ms1 ≤ ms) (h : ∀ v M1, Po v M1 → RN z 47 [l0, l1, l2, l3, l4, l5] (v.toList ++ []) M1 (k + mc1) (n + ms1)) : RN z 44 [l0, l1, l2, l3, l4, l5] [a1, a0, .ref b] M k n := R_callV X.1 (av := [a0, a1]) (nA := 2) wd_144 wd_141 wd_143 wd_4 wd_30 (by decide +kernel) rfl (Nat.le_of_ble_eq_true rfl) (Nat.le_of_ble_eq_true rfl) (Nat.le_of_ble_eq_true rfl) d_P_move_44 rfl (ci := 3) rfl hM hC (by rw [BM.rc1 X.2]; exact hk) (by rw [BM.rc2 X.2]; exact hn) h
theorem i_P_move_47 {z : zT} {ws0 : va_W} {mc ms : Nat} {Post : Option Value → mM → Prop} (X : B_P_move z ws0 mc ms Post) {x : Int32} {l0 l1 l2 l3 l4 l5 : Option Value} {M : mM} {k n : Nat}  (h : RN z 49 [l0, l1, l2, l3, l4, some (.int x)] [] M k n) : RN z 47 [l0, l1, l2, l3, l4, l5] [.int x] M k n := R_istore X.1 d_P_move_47 (Nat.le_of_ble_eq_true rfl) h
theorem i_P_move_49 {z : zT} {ws0 : va_W} {mc ms : Nat} {Post : Option Value → mM → Prop} (X : B_P_move z ws0 mc ms Post) {x : Int32} {l0 l1 l2 l3 l4 : Option Value} {M : mM} {k n : Nat}  (h : RN z 51 [l0, l1, l2, l3, l4, some (.int x)] [.int x] M k n) : RN z 49 [l0, l1, l2, l3, l4, some (.int x)] [] M k n := R_iload X.1 d_P_move_49 rfl h
theorem i_P_move_51 {z : zT} {ws0 : va_W} {mc ms : Nat} {Post : Option Value → mM → Prop} (X : B_P_move z ws0 mc ms Post) {x : Int32} {l0 l1 l2 l3 l4 l5 : Option Value} {M : mM} {k n : Nat}  (h1 : x = 0 → RN z 74 [l0, l1, l2, l3, l4, l5] [] M k n) (h2 : ¬ (x = 0) → RN z 54 [l0, l1, l2, l3, l4, l5] [] M k n) : RN z 51 [l0, l1, l2, l3, l4, l5] [.int x] M k n := R_if_eq X.1 d_P_move_51 (by decide) h1 h2
theorem i_P_move_54 {z : zT} {ws0 : va_W} {mc ms : Nat} {Post : Option Value → mM → Prop} (X : B_P_move z ws0 mc ms Post) {v : Value} {l1 l2 l3 l4 l5 : Option Value} {M : mM} {k n : Nat} (hv : mRf v := by first | exact mRf_r _ | exact mRf_n | exact mRf_rf _ | assumption) (h : RN z 55 [some v, l1, l2, l3, l4, l5] [v] M k n) : RN z 54 [some v, l1, l2, l3, l4, l5] [] M k n := R_aload_n X.1 d_P_move_54 rfl rfl hv h
theorem i_P_move_55 {z : zT} {ws0 : va_W} {mc ms : Nat} {Post : Option Value → mM → Prop} (X : B_P_move z ws0 mc ms Post) {x : Int32} {l0 l1 l2 l4 l5 : Option Value} {s0 : Value} {M : mM} {k n : Nat}  (h : RN z 56 [l0, l1, l2, some (.int x), l4, l5] [.int x, s0] M k n) : RN z 55 [l0, l1, l2, some (.int x), l4, l5] [s0] M k n := R_iload_n X.1 d_P_move_55 rfl rfl h
theorem i_P_move_56 {z : zT} {ws0 : va_W} {mc ms : Nat} {Post : Option Value → mM → Prop} (X : B_P_move z ws0 mc ms Post) {x : Int32} {l0 l1 l2 l3 l5 : Option Value} {s0 s1 : Value} {M : mM} {k n : Nat}  (h : RN z 58 [l0, l1, l2, l3, some (.int x), l5] [.int x, s0, s1] M k n) : RN z 56 [l0, l1, l2, l3, some (.int x), l5] [s0, s1] M k n := R_iload X.1 d_P_move_56 rfl h
theorem i_P_move_58 {z : zT} {ws0 : va_W} {mc ms : Nat} {Post : Option Value → mM → Prop} (X : B_P_move z ws0 mc ms Post) {a0 a1 : Value} {b : Nat} {mc1 ms1 : Nat} {Po : Option Value → mM → Prop} {fs : List Value} {l0 l1 l2 l3 l4 l5 : Option Value} {M : mM} {k n : Nat} (hM : M b = some (.inr (3, fs))) (hC : Ct (zl z) (zD z) (zty z) y_P_hasRoomFor w_P_hasRoomFor 2 45 mc1 ms1 [.ref b, a0, a1] M Po) (hk : k + mc1 ≤ mc) (hn : n + ms1 ≤ ms) (h : ∀ v M1, Po v M1 → RN z 61 [l0, l1, l2, l3, l4, l5] (v.toList ++ []) M1 (k + mc1) (n + ms1)) : RN z 58 [l0, l1, l2, l3, l4, l5] [a1, a0, .ref b] M k n := R_callV X.1 (av := [a0, a1]) (nA := 2) wd_140 wd_137 wd_139 wd_3 wd_30 (by decide +kernel) rfl (Nat.le_of_ble_eq_true rfl) (Nat.le_of_ble_eq_true rfl) (Nat.le_of_ble_eq_true rfl) d_P_move_58 rfl (ci := 3) rfl hM hC (by rw [BM.rc1 X.2]; exact hk) (by rw [BM.rc2 X.2]; exact hn) h
theorem i_P_move_61 {z : zT} {ws0 : va_W} {mc ms : Nat} {Post : Option Value → mM → Prop} (X : B_P_move z ws0 mc ms Post) {x : Int32} {l0 l1 l2 l3 l4 l5 : Option Value} {M : mM} {k n : Nat}  (h1 : x = 0 → RN z 74 [l0, l1, l2, l3, l4, l5] [] M k n) (h2 : ¬ (x = 0) → RN z 64 [l0, l1, l2, l3, l4, l5] [] M k n) : RN z 61 [l0, l1, l2, l3, l4, l5] [.int x] M k n := R_if_eq X.1 d_P_move_61 (by decide) h1 h2
theorem i_P_move_64 {z : zT} {ws0 : va_W} {mc ms : Nat} {Post : Option Value → mM → Prop} (X : B_P_move z ws0 mc ms Post) {v : Value} {l1 l2 l3 l4 l5 : Option Value} {M : mM} {k n : Nat} (hv : mRf v := by first | exact mRf_r _ | exact mRf_n | exact mRf_rf _ | assumption) (h : RN z 65 [some v, l1, l2, l3, l4, l5] [v] M k n) : RN z 64 [some v, l1, l2, l3, l4, l5] [] M k n := R_aload_n X.1 d_P_move_64 rfl rfl hv h
theorem i_P_move_65 {z : zT} {ws0 : va_W} {mc ms : Nat} {Post : Option Value → mM → Prop} (X : B_P_move z ws0 mc ms Post) {x : Int32} {l0 l1 l2 l4 l5 : Option Value} {s0 : Value} {M : mM} {k n : Nat}  (h : RN z 66 [l0, l1, l2, some (.int x), l4, l5] [.int x, s0] M k n) : RN z 65 [l0, l1, l2, some (.int x), l4, l5] [s0] M k n := R_iload_n X.1 d_P_move_65 rfl rfl h
theorem i_P_move_66 {z : zT} {ws0 : va_W} {mc ms : Nat} {Post : Option Value → mM → Prop} (X : B_P_move z ws0 mc ms Post) {x : Int32} {l0 l1 l2 l3 l4 : Option Value} {s0 s1 : Value} {M : mM} {k n : Nat}  (h : RN z 68 [l0, l1, l2, l3, l4, some (.int x)] [.int x, s0, s1] M k n) : RN z 66 [l0, l1, l2, l3, l4, some (.int x)] [s0, s1] M k n := R_iload X.1 d_P_move_66 rfl h
theorem i_P_move_68 {z : zT} {ws0 : va_W} {mc ms : Nat} {Post : Option Value → mM → Prop} (X : B_P_move z ws0 mc ms Post) {a0 a1 : Value} {b : Nat} {mc1 ms1 : Nat} {Po : Option Value → mM → Prop} {fs : List Value} {l0 l1 l2 l3 l4 l5 : Option Value} {M : mM} {k n : Nat} (hM : M b = some (.inr (3, fs))) (hC : Ct (zl z) (zD z) (zty z) y_P_isWithin w_P_isWithin 0 0 mc1 ms1 [.ref b, a0, a1] M Po) (hk : k + mc1 ≤ mc) (hn : n + ms1 ≤ ms) (h : ∀ v M1, Po v M1 → RN z 71 [l0, l1, l2, l3, l4, l5] (v.toList ++ []) M1 (k + mc1) (n + ms1)) : RN z 68 [l0, l1, l2, l3, l4, l5] [a1, a0, .ref b] M k n := R_callV X.1 (av := [a0, a1]) (nA := 2) wd_221 wd_218 wd_220 wd_9 wd_30 (by decide +kernel) rfl (Nat.le_of_ble_eq_true rfl) (Nat.le_of_ble_eq_true rfl) (Nat.le_of_ble_eq_true rfl) d_P_move_68 rfl (ci := 3) rfl hM hC (by rw [BM.rc1 X.2]; exact hk) (by rw [BM.rc2 X.2]; exact hn) h
theorem i_P_move_71 {z : zT} {ws0 : va_W} {mc ms : Nat} {Post : Option Value → mM → Prop} (X : B_P_move z ws0 mc ms Post) {x : Int32} {l0 l1 l2 l3 l4 l5 : Option Value} {M : mM} {k n : Nat}  (h1 : x = 0 → RN z 76 [l0, l1, l2, l3, l4, l5] [] M k n) (h2 : ¬ (x = 0) → RN z 74 [l0, l1, l2, l3, l4, l5] [] M k n) : RN z 71 [l0, l1, l2, l3, l4, l5] [.int x] M k n := R_if_eq X.1 d_P_move_71 (by decide) h1 h2
theorem i_P_move_74 {z : zT} {ws0 : va_W} {mc ms : Nat} {Post : Option Value → mM → Prop} (X : B_P_move z ws0 mc ms Post) {l0 l1 l2 l3 l4 l5 : Option Value} {M : mM} {k n : Nat}  (h : RN z 75 [l0, l1, l2, l3, l4, l5] [.int (-1)] M k n) : RN z 74 [l0, l1, l2, l3, l4, l5] [] M k n := R_iconst X.1 d_P_move_74 (by decide) h
theorem i_P_move_75 {z : zT} {ws0 : va_W} {mc ms : Nat} {Post : Option Value → mM → Prop} (X : B_P_move z ws0 mc ms Post) {x : Int32} {l0 l1 l2 l3 l4 l5 : Option Value} {M : mM} {k n : Nat} (hk : k ≤ mc) (hn : n ≤ ms) (hp : Post (some (.int x)) M) : RN z 75 [l0, l1, l2, l3, l4, l5] [.int x] M k n := R_iret X.1 X.2 d_P_move_75 hk hn hp
theorem i_P_move_76 {z : zT} {ws0 : va_W} {mc ms : Nat} {Post : Option Value → mM → Prop} (X : B_P_move z ws0 mc ms Post) {v : Value} {l1 l2 l3 l4 l5 : Option Value} {M : mM} {k n : Nat} (hv : mRf v := by first | exact mRf_r _ | exact mRf_n | exact mRf_rf _ | assumption) (h : RN z 77 [some v, l1, l2, l3, l4, l5] [v] M k n) : RN z 76 [some v, l1, l2, l3, l4, l5] [] M k n := R_aload_n X.1 d_P_move_76 rfl rfl hv h
theorem i_P_move_77 {z : zT} {ws0 : va_W} {mc ms : Nat} {Post : Option Value → mM → Prop} (X : B_P_move z ws0 mc ms Post) {b : Nat} {mc1 ms1 : Nat} {Po : Option Value → mM → Prop} {fs : List Value} {l0 l1 l2 l3 l4 l5 : Option Value} {M : mM} {k n : Nat} (hM : M b = some (.inr (3, fs))) (hC : Ct (zl z) (zD z) (zty z) y_P_isUsedUp w_P_isUsedUp 0 0 mc1 ms1 [.ref b] M Po) (hk : k + mc1 ≤ mc) (hn : n + ms1 ≤ ms) (h : ∀ v M1, Po v M1 → RN z 80 [l0, l1, l2, l3, l4, l5] (v.toList ++ []) M1 (k + mc1) (n + ms1)) : RN z 77 [l0, l1, l2, l3, l4, l5] [.ref b] M k n := R_callV X.1 (av := []) (nA := 0) wd_151 wd_148 wd_150 wd_5 wd_30 (by decide +kernel) rfl (Nat.le_of_ble_eq_true rfl) (Nat.le_of_ble_eq_true rfl) (Nat.le_of_ble_eq_true rfl) d_P_move_77 rfl (ci := 3) rfl hM hC (by rw [BM.rc1 X.2]; exact hk) (by rw [BM.rc2 X.2]; exact hn) h
theorem i_P_move_80 {z : zT} {ws0 : va_W} {mc ms : Nat} {Post : Option Value → mM → Prop} (X : B_P_move z ws0 mc ms Post) {x : Int32} {l0 l1 l2 l3 l4 l5 : Option Value} {M : mM} {k n : Nat}  (h1 : x = 0 → RN z 86 [l0, l1, l2, l3, l4, l5] [] M k n) (h2 : ¬ (x = 0) → RN z 83 [l0, l1, l2, l3, l4, l5] [] M k n) : RN z 80 [l0, l1, l2, l3, l4, l5] [.int x] M k n := R_if_eq X.1 d_P_move_80 (by decide) h1 h2
theorem i_P_move_83 {z : zT} {ws0 : va_W} {mc ms : Nat} {Post : Option Value → mM → Prop} (X : B_P_move z ws0 mc ms Post) {l0 l1 l2 l3 l4 l5 : Option Value} {M : mM} {k n : Nat}  (h : RN z 85 [l0, l1, l2, l3, l4, l5] [.int (-2)] M k n) : RN z 83 [l0, l1, l2, l3, l4, l5] [] M k n := R_bipush X.1 d_P_move_83 (by decide) h
theorem i_P_move_85 {z : zT} {ws0 : va_W} {mc ms : Nat} {Post : Option Value → mM → Prop} (X : B_P_move z ws0 mc ms Post) {x : Int32} {l0 l1 l2 l3 l4 l5 : Option Value} {M : mM} {k n : Nat} (hk : k ≤ mc) (hn : n ≤ ms) (hp : Post (some (.int x)) M) : RN z 85 [l0, l1, l2, l3, l4, l5] [.int x] M k n := R_iret X.1 X.2 d_P_move_85 hk hn hp
theorem i_P_move_86 {z : zT} {ws0 : va_W} {mc ms : Nat} {Post : Option Value → mM → Prop} (X : B_P_move z ws0 mc ms Post) {v : Value} {l1 l2 l3 l4 l5 : Option Value} {M : mM} {k n : Nat} (hv : mRf v := by first | exact mRf_r _ | exact mRf_n | exact mRf_rf _ | assumption) (h : RN z 87 [some v, l1, l2, l3, l4, l5] [v] M k n) : RN z 86 [some v, l1, l2, l3, l4, l5] [] M k n := R_aload_n X.1 d_P_move_86 rfl rfl hv h
theorem i_P_move_87 {z : zT} {ws0 : va_W} {mc ms : Nat} {Post : Option Value → mM → Prop} (X : B_P_move z ws0 mc ms Post) {x : Int32} {l0 l1 l2 l3 l4 : Option Value} {s0 : Value} {M : mM} {k n : Nat}  (h : RN z 89 [l0, l1, l2, l3, l4, some (.int x)] [.int x, s0] M k n) : RN z 87 [l0, l1, l2, l3, l4, some (.int x)] [s0] M k n := R_iload X.1 d_P_move_87 rfl h
theorem i_P_move_89 {z : zT} {ws0 : va_W} {mc ms : Nat} {Post : Option Value → mM → Prop} (X : B_P_move z ws0 mc ms Post) {x : Int32} {l0 l1 l2 l4 l5 : Option Value} {s0 s1 : Value} {M : mM} {k n : Nat}  (h : RN z 90 [l0, l1, l2, some (.int x), l4, l5] [.int x, s0, s1] M k n) : RN z 89 [l0, l1, l2, some (.int x), l4, l5] [s0, s1] M k n := R_iload_n X.1 d_P_move_89 rfl rfl h
theorem i_P_move_90 {z : zT} {ws0 : va_W} {mc ms : Nat} {Post : Option Value → mM → Prop} (X : B_P_move z ws0 mc ms Post) {x : Int32} {l0 l1 l2 l3 l5 : Option Value} {s0 s1 s2 : Value} {M : mM} {k n : Nat}  (h : RN z 92 [l0, l1, l2, l3, some (.int x), l5] [.int x, s0, s1, s2] M k n) : RN z 90 [l0, l1, l2, l3, some (.int x), l5] [s0, s1, s2] M k n := R_iload X.1 d_P_move_90 rfl h
theorem i_P_move_92 {z : zT} {ws0 : va_W} {mc ms : Nat} {Post : Option Value → mM → Prop} (X : B_P_move z ws0 mc ms Post) {a0 a1 : Value} {mc1 ms1 : Nat} {Po : Option Value → mM → Prop} {l0 l1 l2 l3 l4 l5 : Option Value} {s0 s1 : Value} {M : mM} {k n : Nat} (hC : Ct (zl z) (zD z) (zty z) y_P_placeOf w_P_placeOf 0 0 mc1 ms1 [a0, a1] M Po) (hk : k + mc1 ≤ mc) (hn : n + ms1 ≤ ms) (h : ∀ v M1, Po v M1 → RN z 95 [l0, l1, l2, l3, l4, l5] (v.toList ++ [s0, s1]) M1 (k + mc1) (n + ms1)) : RN z 92 [l0, l1, l2, l3, l4, l5] [a1, a0, s0, s1] M k n := R_callS X.1 (av := [a0, a1]) (nA := 2) wd_147 wd_145 wd_146 wd_30 (by decide +kernel) rfl (Nat.le_of_ble_eq_true rfl) (Nat.le_of_ble_eq_true rfl) (Nat.le_of_ble_eq_true rfl) d_P_move_92 rfl hC (by rw [BM.rc1 X.2]; exact hk) (by rw [BM.rc2 X.2]; exact hn) h
theorem i_P_move_95 {z : zT} {ws0 : va_W} {mc ms : Nat} {Post : Option Value → mM → Prop} (X : B_P_move z ws0 mc ms Post) {a0 a1 : Value} {b : Nat} {mc1 ms1 : Nat} {Po : Option Value → mM → Prop} {fs : List Value} {l0 l1 l2 l3 l4 l5 : Option Value} {M : mM} {k n : Nat} (hM : M b = some (.inr (3, fs))) (hC : Ct (zl z) (zD z) (zty z) y_P_place w_P_place 2 35 mc1 ms1 [.ref b, a0, a1] M Po) (hk : k + mc1 ≤ mc) (hn : n + ms1 ≤ ms) (h : ∀ v M1, Po v M1 → RN z 98 [l0, l1, l2, l3, l4, l5] (v.toList ++ []) M1 (k + mc1) (n + ms1)) : RN z 95 [l0, l1, l2, l3, l4, l5] [a1, a0, .ref b] M k n := R_callV X.1 (av := [a0, a1]) (nA := 2) wd_182 wd_179 wd_181 wd_6 wd_30 (by decide +kernel) rfl (Nat.le_of_ble_eq_true rfl) (Nat.le_of_ble_eq_true rfl) (Nat.le_of_ble_eq_true rfl) d_P_move_95 rfl (ci := 3) rfl hM hC (by rw [BM.rc1 X.2]; exact hk) (by rw [BM.rc2 X.2]; exact hn) h
theorem i_P_move_98 {z : zT} {ws0 : va_W} {mc ms : Nat} {Post : Option Value → mM → Prop} (X : B_P_move z ws0 mc ms Post) {l0 l1 l2 l3 l4 l5 : Option Value} {M : mM} {k n : Nat}  (h : RN z 99 [l0, l1, l2, l3, l4, l5] [.int 0] M k n) : RN z 98 [l0, l1, l2, l3, l4, l5] [] M k n := R_iconst X.1 d_P_move_98 (by decide) h
theorem i_P_move_99 {z : zT} {ws0 : va_W} {mc ms : Nat} {Post : Option Value → mM → Prop} (X : B_P_move z ws0 mc ms Post) {x : Int32} {l0 l1 l2 l3 l4 l5 : Option Value} {M : mM} {k n : Nat} (hk : k ≤ mc) (hn : n ≤ ms) (hp : Post (some (.int x)) M) : RN z 99 [l0, l1, l2, l3, l4, l5] [.int x] M k n := R_iret X.1 X.2 d_P_move_99 hk hn hp
theorem d_P_write_0 : decode c_P_write 0 = .ok (.aload_n 0, 1) := by decide +kernel
theorem d_P_write_1 : decode c_P_write 1 = .ok (.iload_n 1, 1) := by decide +kernel
theorem d_P_write_2 : decode c_P_write 2 = .ok (.invokevirtual 97, 3) := by decide +kernel
theorem d_P_write_5 : decode c_P_write 5 = .ok (.astore 4, 2) := by decide +kernel
theorem d_P_write_7 : decode c_P_write 7 = .ok (.aload 4, 2) := by decide +kernel
theorem d_P_write_9 : decode c_P_write 9 = .ok (.ifnull 10, 3) := by decide +kernel
theorem d_P_write_12 : decode c_P_write 12 = .ok (.iload_n 2, 1) := by decide +kernel
theorem d_P_write_13 : decode c_P_write 13 = .ok (.invokestatic 101, 3) := by decide +kernel
theorem d_P_write_16 : decode c_P_write 16 = .ok (.ifCond .ne 5, 3) := by decide +kernel
theorem d_P_write_19 : decode c_P_write 19 = .ok (.iconst (-1), 1) := by decide +kernel
theorem d_P_write_20 : decode c_P_write 20 = .ok (.ireturn, 1) := by decide +kernel
theorem d_P_write_21 : decode c_P_write 21 = .ok (.aload_n 0, 1) := by decide +kernel
theorem d_P_write_22 : decode c_P_write 22 = .ok (.invokevirtual 67, 3) := by decide +kernel
theorem d_P_write_25 : decode c_P_write 25 = .ok (.ifCond .eq 6, 3) := by decide +kernel
theorem d_P_write_28 : decode c_P_write 28 = .ok (.bipush (-2), 2) := by decide +kernel
theorem d_P_write_30 : decode c_P_write 30 = .ok (.ireturn, 1) := by decide +kernel
theorem d_P_write_31 : decode c_P_write 31 = .ok (.aload 4, 2) := by decide +kernel
theorem d_P_write_33 : decode c_P_write 33 = .ok (.getfield 104, 3) := by decide +kernel
theorem d_P_write_36 : decode c_P_write 36 = .ok (.invokevirtual 107, 3) := by decide +kernel
theorem d_P_write_39 : decode c_P_write 39 = .ok (.checkcast 108, 3) := by decide +kernel
theorem d_P_write_42 : decode c_P_write 42 = .ok (.astore 5, 2) := by decide +kernel
theorem d_P_write_44 : decode c_P_write 44 = .ok (.aload 5, 2) := by decide +kernel
theorem d_P_write_46 : decode c_P_write 46 = .ok (.iload_n 2, 1) := by decide +kernel
theorem d_P_write_47 : decode c_P_write 47 = .ok (.iload_n 3, 1) := by decide +kernel
theorem d_P_write_48 : decode c_P_write 48 = .ok (.iastore, 1) := by decide +kernel
theorem d_P_write_49 : decode c_P_write 49 = .ok (.aload_n 0, 1) := by decide +kernel
theorem d_P_write_50 : decode c_P_write 50 = .ok (.iload_n 1, 1) := by decide +kernel
theorem d_P_write_51 : decode c_P_write 51 = .ok (.aload 4, 2) := by decide +kernel
theorem d_P_write_53 : decode c_P_write 53 = .ok (.aload 5, 2) := by decide +kernel
theorem d_P_write_55 : decode c_P_write 55 = .ok (.invokevirtual 112, 3) := by decide +kernel
theorem d_P_write_58 : decode c_P_write 58 = .ok (.ireturn, 1) := by decide +kernel
abbrev B_P_write (z : zT) (ws0 : va_W) (mc ms : Nat) (Post : Option Value → mM → Prop) : Prop := BX z c_P_write 6 y_P_write.cls y_P_write.name 3 61 ∧ BQ z (some (.int)) ws0 mc ms Post
abbrev Ct_P_write (l : Launch) (D : va_G) (tys : List (ClassId × FieldType)) (mc ms : Nat) (av : List Value) (M : mM) (Post : Option Value → mM → Prop) : Prop := Ct l D tys y_P_write w_P_write 3 61 mc ms av M Post
theorem i_P_write_0 {z : zT} {ws0 : va_W} {mc ms : Nat} {Post : Option Value → mM → Prop} (X : B_P_write z ws0 mc ms Post) {v : Value} {l1 l2 l3 l4 l5 : Option Value} {M : mM} {k n : Nat} (hv : mRf v := by first | exact mRf_r _ | exact mRf_n | exact mRf_rf _ | assumption) (h : RN z 1 [some v, l1, l2, l3, l4, l5] [v] M k n) : RN z 0 [some v, l1, l2, l3, l4, l5] [] M k n := R_aload_n X.1 d_P_write_0 rfl rfl hv h
theorem i_P_write_1 {z : zT} {ws0 : va_W} {mc ms : Nat} {Post : Option Value → mM → Prop} (X : B_P_write z ws0 mc ms Post) {x : Int32} {l0 l2 l3 l4 l5 : Option Value} {s0 : Value} {M : mM} {k n : Nat}  (h : RN z 2 [l0, some (.int x), l2, l3, l4, l5] [.int x, s0] M k n) : RN z 1 [l0, some (.int x), l2, l3, l4, l5] [s0] M k n := R_iload_n X.1 d_P_write_1 rfl rfl h
theorem i_P_write_2 {z : zT} {ws0 : va_W} {mc ms : Nat} {Post : Option Value → mM → Prop} (X : B_P_write z ws0 mc ms Post) {a0 : Value} {b : Nat} {mc1 ms1 : Nat} {Po : Option Value → mM → Prop} {fs : List Value} {l0 l1 l2 l3 l4 l5 : Option Value} {M : mM} {k n : Nat} (hM : M b = some (.inr (3, fs))) (hC : Ct (zl z) (zD z) (zty z) y_P_latestVersion w_P_latestVersion 1 21 mc1 ms1 [.ref b, a0] M Po) (hk : k + mc1 ≤ mc) (hn : n + ms1 ≤ ms) (h : ∀ v M1, Po v M1 → RN z 5 [l0, l1, l2, l3, l4, l5] (v.toList ++ []) M1 (k + mc1) (n + ms1)) : RN z 2 [l0, l1, l2, l3, l4, l5] [a0, .ref b] M k n := R_callV X.1 (av := [a0]) (nA := 1) wd_229 wd_226 wd_228 wd_10 wd_30 (by decide +kernel) rfl (Nat.le_of_ble_eq_true rfl) (Nat.le_of_ble_eq_true rfl) (Nat.le_of_ble_eq_true rfl) d_P_write_2 rfl (ci := 3) rfl hM hC (by rw [BM.rc1 X.2]; exact hk) (by rw [BM.rc2 X.2]; exact hn) h
theorem i_P_write_5 {z : zT} {ws0 : va_W} {mc ms : Nat} {Post : Option Value → mM → Prop} (X : B_P_write z ws0 mc ms Post) {v : Value} {l0 l1 l2 l3 l4 l5 : Option Value} {M : mM} {k n : Nat} (hv : mRf v := by first | exact mRf_r _ | exact mRf_n | exact mRf_rf _ | assumption) (h : RN z 7 [l0, l1, l2, l3, some v, l5] [] M k n) : RN z 5 [l0, l1, l2, l3, l4, l5] [v] M k n := R_astore X.1 d_P_write_5 hv (Nat.le_of_ble_eq_true rfl) h
theorem i_P_write_7 {z : zT} {ws0 : va_W} {mc ms : Nat} {Post : Option Value → mM → Prop} (X : B_P_write z ws0 mc ms Post) {v : Value} {l0 l1 l2 l3 l5 : Option Value} {M : mM} {k n : Nat} (hv : mRf v := by first | exact mRf_r _ | exact mRf_n | exact mRf_rf _ | assumption) (h : RN z 9 [l0, l1, l2, l3, some v, l5] [v] M k n) : RN z 7 [l0, l1, l2, l3, some v, l5] [] M k n := R_aload X.1 d_P_write_7 rfl hv h
theorem i_P_write_9 {z : zT} {ws0 : va_W} {mc ms : Nat} {Post : Option Value → mM → Prop} (X : B_P_write z ws0 mc ms Post) {v : Value} {l0 l1 l2 l3 l4 l5 : Option Value} {M : mM} {k n : Nat} (hv : mRf v := by first | exact mRf_r _ | exact mRf_n | exact mRf_rf _ | assumption) (h1 : v = .null → RN z 19 [l0, l1, l2, l3, l4, l5] [] M k n) (h2 : ∀ a, v = .ref a → RN z 12 [l0, l1, l2, l3, l4, l5] [] M k n) : RN z 9 [l0, l1, l2, l3, l4, l5] [v] M k n := R_ifnull X.1 d_P_write_9 (by decide) hv h1 h2
theorem i_P_write_12 {z : zT} {ws0 : va_W} {mc ms : Nat} {Post : Option Value → mM → Prop} (X : B_P_write z ws0 mc ms Post) {x : Int32} {l0 l1 l3 l4 l5 : Option Value} {M : mM} {k n : Nat}  (h : RN z 13 [l0, l1, some (.int x), l3, l4, l5] [.int x] M k n) : RN z 12 [l0, l1, some (.int x), l3, l4, l5] [] M k n := R_iload_n X.1 d_P_write_12 rfl rfl h
theorem i_P_write_13 {z : zT} {ws0 : va_W} {mc ms : Nat} {Post : Option Value → mM → Prop} (X : B_P_write z ws0 mc ms Post) {a0 : Value} {mc1 ms1 : Nat} {Po : Option Value → mM → Prop} {l0 l1 l2 l3 l4 l5 : Option Value} {M : mM} {k n : Nat} (hC : Ct (zl z) (zD z) (zty z) y_P_isCell w_P_isCell 0 0 mc1 ms1 [a0] M Po) (hk : k + mc1 ≤ mc) (hn : n + ms1 ≤ ms) (h : ∀ v M1, Po v M1 → RN z 16 [l0, l1, l2, l3, l4, l5] (v.toList ++ []) M1 (k + mc1) (n + ms1)) : RN z 13 [l0, l1, l2, l3, l4, l5] [a0] M k n := R_callS X.1 (av := [a0]) (nA := 1) wd_232 wd_230 wd_231 wd_30 (by decide +kernel) rfl (Nat.le_of_ble_eq_true rfl) (Nat.le_of_ble_eq_true rfl) (Nat.le_of_ble_eq_true rfl) d_P_write_13 rfl hC (by rw [BM.rc1 X.2]; exact hk) (by rw [BM.rc2 X.2]; exact hn) h
theorem i_P_write_16 {z : zT} {ws0 : va_W} {mc ms : Nat} {Post : Option Value → mM → Prop} (X : B_P_write z ws0 mc ms Post) {x : Int32} {l0 l1 l2 l3 l4 l5 : Option Value} {M : mM} {k n : Nat}  (h1 : ¬ x = 0 → RN z 21 [l0, l1, l2, l3, l4, l5] [] M k n) (h2 : x = 0 → RN z 19 [l0, l1, l2, l3, l4, l5] [] M k n) : RN z 16 [l0, l1, l2, l3, l4, l5] [.int x] M k n := R_if_ne X.1 d_P_write_16 (by decide) h1 h2
theorem i_P_write_19 {z : zT} {ws0 : va_W} {mc ms : Nat} {Post : Option Value → mM → Prop} (X : B_P_write z ws0 mc ms Post) {l0 l1 l2 l3 l4 l5 : Option Value} {M : mM} {k n : Nat}  (h : RN z 20 [l0, l1, l2, l3, l4, l5] [.int (-1)] M k n) : RN z 19 [l0, l1, l2, l3, l4, l5] [] M k n := R_iconst X.1 d_P_write_19 (by decide) h
theorem i_P_write_20 {z : zT} {ws0 : va_W} {mc ms : Nat} {Post : Option Value → mM → Prop} (X : B_P_write z ws0 mc ms Post) {x : Int32} {l0 l1 l2 l3 l4 l5 : Option Value} {M : mM} {k n : Nat} (hk : k ≤ mc) (hn : n ≤ ms) (hp : Post (some (.int x)) M) : RN z 20 [l0, l1, l2, l3, l4, l5] [.int x] M k n := R_iret X.1 X.2 d_P_write_20 hk hn hp
theorem i_P_write_21 {z : zT} {ws0 : va_W} {mc ms : Nat} {Post : Option Value → mM → Prop} (X : B_P_write z ws0 mc ms Post) {v : Value} {l1 l2 l3 l4 l5 : Option Value} {M : mM} {k n : Nat} (hv : mRf v := by first | exact mRf_r _ | exact mRf_n | exact mRf_rf _ | assumption) (h : RN z 22 [some v, l1, l2, l3, l4, l5] [v] M k n) : RN z 21 [some v, l1, l2, l3, l4, l5] [] M k n := R_aload_n X.1 d_P_write_21 rfl rfl hv h
theorem i_P_write_22 {z : zT} {ws0 : va_W} {mc ms : Nat} {Post : Option Value → mM → Prop} (X : B_P_write z ws0 mc ms Post) {b : Nat} {mc1 ms1 : Nat} {Po : Option Value → mM → Prop} {fs : List Value} {l0 l1 l2 l3 l4 l5 : Option Value} {M : mM} {k n : Nat} (hM : M b = some (.inr (3, fs))) (hC : Ct (zl z) (zD z) (zty z) y_P_isUsedUp w_P_isUsedUp 0 0 mc1 ms1 [.ref b] M Po) (hk : k + mc1 ≤ mc) (hn : n + ms1 ≤ ms) (h : ∀ v M1, Po v M1 → RN z 25 [l0, l1, l2, l3, l4, l5] (v.toList ++ []) M1 (k + mc1) (n + ms1)) : RN z 22 [l0, l1, l2, l3, l4, l5] [.ref b] M k n := R_callV X.1 (av := []) (nA := 0) wd_151 wd_148 wd_150 wd_5 wd_30 (by decide +kernel) rfl (Nat.le_of_ble_eq_true rfl) (Nat.le_of_ble_eq_true rfl) (Nat.le_of_ble_eq_true rfl) d_P_write_22 rfl (ci := 3) rfl hM hC (by rw [BM.rc1 X.2]; exact hk) (by rw [BM.rc2 X.2]; exact hn) h
theorem i_P_write_25 {z : zT} {ws0 : va_W} {mc ms : Nat} {Post : Option Value → mM → Prop} (X : B_P_write z ws0 mc ms Post) {x : Int32} {l0 l1 l2 l3 l4 l5 : Option Value} {M : mM} {k n : Nat}  (h1 : x = 0 → RN z 31 [l0, l1, l2, l3, l4, l5] [] M k n) (h2 : ¬ (x = 0) → RN z 28 [l0, l1, l2, l3, l4, l5] [] M k n) : RN z 25 [l0, l1, l2, l3, l4, l5] [.int x] M k n := R_if_eq X.1 d_P_write_25 (by decide) h1 h2
theorem i_P_write_28 {z : zT} {ws0 : va_W} {mc ms : Nat} {Post : Option Value → mM → Prop} (X : B_P_write z ws0 mc ms Post) {l0 l1 l2 l3 l4 l5 : Option Value} {M : mM} {k n : Nat}  (h : RN z 30 [l0, l1, l2, l3, l4, l5] [.int (-2)] M k n) : RN z 28 [l0, l1, l2, l3, l4, l5] [] M k n := R_bipush X.1 d_P_write_28 (by decide) h
theorem i_P_write_30 {z : zT} {ws0 : va_W} {mc ms : Nat} {Post : Option Value → mM → Prop} (X : B_P_write z ws0 mc ms Post) {x : Int32} {l0 l1 l2 l3 l4 l5 : Option Value} {M : mM} {k n : Nat} (hk : k ≤ mc) (hn : n ≤ ms) (hp : Post (some (.int x)) M) : RN z 30 [l0, l1, l2, l3, l4, l5] [.int x] M k n := R_iret X.1 X.2 d_P_write_30 hk hn hp
theorem i_P_write_31 {z : zT} {ws0 : va_W} {mc ms : Nat} {Post : Option Value → mM → Prop} (X : B_P_write z ws0 mc ms Post) {v : Value} {l0 l1 l2 l3 l5 : Option Value} {M : mM} {k n : Nat} (hv : mRf v := by first | exact mRf_r _ | exact mRf_n | exact mRf_rf _ | assumption) (h : RN z 33 [l0, l1, l2, l3, some v, l5] [v] M k n) : RN z 31 [l0, l1, l2, l3, some v, l5] [] M k n := R_aload X.1 d_P_write_31 rfl hv h
theorem i_P_write_33 {z : zT} {ws0 : va_W} {mc ms : Nat} {Post : Option Value → mM → Prop} (X : B_P_write z ws0 mc ms Post) {a : Nat} {f0 f1 f2 f3 f4 : Value} {l0 l1 l2 l3 l4 l5 : Option Value} {M : mM} {k n : Nat} (hM : M a = some (.inr (2, [f0, f1, f2, f3, f4]))) (h : RN z 36 [l0, l1, l2, l3, l4, l5] [f2] M k n) : RN z 33 [l0, l1, l2, l3, l4, l5] [.ref a] M k n := R_get X.1 inX2 rfl 2 (Nat.le_of_ble_eq_true rfl) wd_163 d_P_write_33 hM rfl h
theorem i_P_write_36 {z : zT} {ws0 : va_W} {mc ms : Nat} {Post : Option Value → mM → Prop} (X : B_P_write z ws0 mc ms Post) {cI cB cN : ClassId} (G : GT z cI cB cN) {a w : Nat} {f : Nat → Int32} {l0 l1 l2 l3 l4 l5 : Option Value} {M : mM} {k n : Nat} (hM : M a = some (.inl (cI, w, .inl f))) (hk : k + 1 ≤ mc) (hn : n + w ≤ ms) (h : ∀ q, M q = none → RN z 39 [l0, l1, l2, l3, l4, l5] [.ref q] (mS M q (.inl (cI, w, .inl f))) (k + 1) (n + w)) : RN z 36 [l0, l1, l2, l3, l4, l5] [.ref a] M k n := R_clone X.1 0 G.1 wd_233 wd_234 wd_235 wd_236 wd_237 d_P_write_36 rfl hM (Nat.le_of_ble_eq_true rfl) (Nat.le_trans (Nat.add_le_add_right (cat_le _) 14) (Nat.le_of_ble_eq_true rfl)) (by rw [BM.rc1 X.2]; exact hk) (by rw [BM.rc2 X.2]; exact hn) h
theorem i_P_write_39 {z : zT} {ws0 : va_W} {mc ms : Nat} {Post : Option Value → mM → Prop} (X : B_P_write z ws0 mc ms Post) {cI cB cN : ClassId} (G : GT z cI cB cN) {a : Nat} {x : vp_A} {l0 l1 l2 l3 l4 l5 : Option Value} {M : mM} {k n : Nat} (hM : M a = some (.inl (cI, x))) (h : RN z 42 [l0, l1, l2, l3, l4, l5] [.ref a] M k n) : RN z 39 [l0, l1, l2, l3, l4, l5] [.ref a] M k n := R_castA X.1 0 G.1 wd_239 d_P_write_39 hM h
theorem i_P_write_42 {z : zT} {ws0 : va_W} {mc ms : Nat} {Post : Option Value → mM → Prop} (X : B_P_write z ws0 mc ms Post) {v : Value} {l0 l1 l2 l3 l4 l5 : Option Value} {M : mM} {k n : Nat} (hv : mRf v := by first | exact mRf_r _ | exact mRf_n | exact mRf_rf _ | assumption) (h : RN z 44 [l0, l1, l2, l3, l4, some v] [] M k n) : RN z 42 [l0, l1, l2, l3, l4, l5] [v] M k n := R_astore X.1 d_P_write_42 hv (Nat.le_of_ble_eq_true rfl) h
theorem i_P_write_44 {z : zT} {ws0 : va_W} {mc ms : Nat} {Post : Option Value → mM → Prop} (X : B_P_write z ws0 mc ms Post) {v : Value} {l0 l1 l2 l3 l4 : Option Value} {M : mM} {k n : Nat} (hv : mRf v := by first | exact mRf_r _ | exact mRf_n | exact mRf_rf _ | assumption) (h : RN z 46 [l0, l1, l2, l3, l4, some v] [v] M k n) : RN z 44 [l0, l1, l2, l3, l4, some v] [] M k n := R_aload X.1 d_P_write_44 rfl hv h
theorem i_P_write_46 {z : zT} {ws0 : va_W} {mc ms : Nat} {Post : Option Value → mM → Prop} (X : B_P_write z ws0 mc ms Post) {x : Int32} {l0 l1 l3 l4 l5 : Option Value} {s0 : Value} {M : mM} {k n : Nat}  (h : RN z 47 [l0, l1, some (.int x), l3, l4, l5] [.int x, s0] M k n) : RN z 46 [l0, l1, some (.int x), l3, l4, l5] [s0] M k n := R_iload_n X.1 d_P_write_46 rfl rfl h
theorem i_P_write_47 {z : zT} {ws0 : va_W} {mc ms : Nat} {Post : Option Value → mM → Prop} (X : B_P_write z ws0 mc ms Post) {x : Int32} {l0 l1 l2 l4 l5 : Option Value} {s0 s1 : Value} {M : mM} {k n : Nat}  (h : RN z 48 [l0, l1, l2, some (.int x), l4, l5] [.int x, s0, s1] M k n) : RN z 47 [l0, l1, l2, some (.int x), l4, l5] [s0, s1] M k n := R_iload_n X.1 d_P_write_47 rfl rfl h
theorem i_P_write_48 {z : zT} {ws0 : va_W} {mc ms : Nat} {Post : Option Value → mM → Prop} (X : B_P_write z ws0 mc ms Post) {cI cB cN : ClassId} (G : GT z cI cB cN) {a w j : Nat} {i : Int32} {f : Nat → Int32} {x : Int32} {l0 l1 l2 l3 l4 l5 : Option Value} {M : mM} {k n : Nat} (hM : M a = some (.inl (cI, w, .inl f))) (hx : i = nI j) (hj : j < w) (hw : w < 2 ^ 31 := by decide) (h : RN z 49 [l0, l1, l2, l3, l4, l5] [] (mS M a (.inl (cI, w, .inl (upd f j x)))) k n) : RN z 48 [l0, l1, l2, l3, l4, l5] [.int x, .int i, .ref a] M k n := R_iast X.1 0 G.1 d_P_write_48 hM (by rw [hx]; exact vp_in_nI hj hw) (by rw [hx, nI_clamp (by omega)]; exact h)
theorem i_P_write_49 {z : zT} {ws0 : va_W} {mc ms : Nat} {Post : Option Value → mM → Prop} (X : B_P_write z ws0 mc ms Post) {v : Value} {l1 l2 l3 l4 l5 : Option Value} {M : mM} {k n : Nat} (hv : mRf v := by first | exact mRf_r _ | exact mRf_n | exact mRf_rf _ | assumption) (h : RN z 50 [some v, l1, l2, l3, l4, l5] [v] M k n) : RN z 49 [some v, l1, l2, l3, l4, l5] [] M k n := R_aload_n X.1 d_P_write_49 rfl rfl hv h
theorem i_P_write_50 {z : zT} {ws0 : va_W} {mc ms : Nat} {Post : Option Value → mM → Prop} (X : B_P_write z ws0 mc ms Post) {x : Int32} {l0 l2 l3 l4 l5 : Option Value} {s0 : Value} {M : mM} {k n : Nat}  (h : RN z 51 [l0, some (.int x), l2, l3, l4, l5] [.int x, s0] M k n) : RN z 50 [l0, some (.int x), l2, l3, l4, l5] [s0] M k n := R_iload_n X.1 d_P_write_50 rfl rfl h
theorem i_P_write_51 {z : zT} {ws0 : va_W} {mc ms : Nat} {Post : Option Value → mM → Prop} (X : B_P_write z ws0 mc ms Post) {v : Value} {l0 l1 l2 l3 l5 : Option Value} {s0 s1 : Value} {M : mM} {k n : Nat} (hv : mRf v := by first | exact mRf_r _ | exact mRf_n | exact mRf_rf _ | assumption) (h : RN z 53 [l0, l1, l2, l3, some v, l5] [v, s0, s1] M k n) : RN z 51 [l0, l1, l2, l3, some v, l5] [s0, s1] M k n := R_aload X.1 d_P_write_51 rfl hv h
theorem i_P_write_53 {z : zT} {ws0 : va_W} {mc ms : Nat} {Post : Option Value → mM → Prop} (X : B_P_write z ws0 mc ms Post) {v : Value} {l0 l1 l2 l3 l4 : Option Value} {s0 s1 s2 : Value} {M : mM} {k n : Nat} (hv : mRf v := by first | exact mRf_r _ | exact mRf_n | exact mRf_rf _ | assumption) (h : RN z 55 [l0, l1, l2, l3, l4, some v] [v, s0, s1, s2] M k n) : RN z 53 [l0, l1, l2, l3, l4, some v] [s0, s1, s2] M k n := R_aload X.1 d_P_write_53 rfl hv h
theorem i_P_write_55 {z : zT} {ws0 : va_W} {mc ms : Nat} {Post : Option Value → mM → Prop} (X : B_P_write z ws0 mc ms Post) {a0 a1 a2 : Value} {b : Nat} {mc1 ms1 : Nat} {Po : Option Value → mM → Prop} {fs : List Value} {l0 l1 l2 l3 l4 l5 : Option Value} {M : mM} {k n : Nat} (hM : M b = some (.inr (3, fs))) (hC : Ct (zl z) (zD z) (zty z) y_P_addVersion w_P_addVersion 2 36 mc1 ms1 [.ref b, a0, a1, a2] M Po) (hk : k + mc1 ≤ mc) (hn : n + ms1 ≤ ms) (h : ∀ v M1, Po v M1 → RN z 58 [l0, l1, l2, l3, l4, l5] (v.toList ++ []) M1 (k + mc1) (n + ms1)) : RN z 55 [l0, l1, l2, l3, l4, l5] [a2, a1, a0, .ref b] M k n := R_callV X.1 (av := [a0, a1, a2]) (nA := 3) wd_243 wd_240 wd_242 wd_11 wd_30 (by decide +kernel) rfl (Nat.le_of_ble_eq_true rfl) (Nat.le_of_ble_eq_true rfl) (Nat.le_of_ble_eq_true rfl) d_P_write_55 rfl (ci := 3) rfl hM hC (by rw [BM.rc1 X.2]; exact hk) (by rw [BM.rc2 X.2]; exact hn) h
theorem i_P_write_58 {z : zT} {ws0 : va_W} {mc ms : Nat} {Post : Option Value → mM → Prop} (X : B_P_write z ws0 mc ms Post) {x : Int32} {l0 l1 l2 l3 l4 l5 : Option Value} {M : mM} {k n : Nat} (hk : k ≤ mc) (hn : n ≤ ms) (hp : Post (some (.int x)) M) : RN z 58 [l0, l1, l2, l3, l4, l5] [.int x] M k n := R_iret X.1 X.2 d_P_write_58 hk hn hp
theorem d_P_turnBack_0 : decode c_P_turnBack 0 = .ok (.aload_n 0, 1) := by decide +kernel
theorem d_P_turnBack_1 : decode c_P_turnBack 1 = .ok (.iload_n 1, 1) := by decide +kernel
theorem d_P_turnBack_2 : decode c_P_turnBack 2 = .ok (.invokevirtual 97, 3) := by decide +kernel
theorem d_P_turnBack_5 : decode c_P_turnBack 5 = .ok (.astore_n 3, 1) := by decide +kernel
theorem d_P_turnBack_6 : decode c_P_turnBack 6 = .ok (.aload_n 3, 1) := by decide +kernel
theorem d_P_turnBack_7 : decode c_P_turnBack 7 = .ok (.ifnull 7, 3) := by decide +kernel
theorem d_P_turnBack_10 : decode c_P_turnBack 10 = .ok (.iload_n 2, 1) := by decide +kernel
theorem d_P_turnBack_11 : decode c_P_turnBack 11 = .ok (.ifCond .ge 5, 3) := by decide +kernel
theorem d_P_turnBack_14 : decode c_P_turnBack 14 = .ok (.iconst (-1), 1) := by decide +kernel
theorem d_P_turnBack_15 : decode c_P_turnBack 15 = .ok (.ireturn, 1) := by decide +kernel
theorem d_P_turnBack_16 : decode c_P_turnBack 16 = .ok (.aload_n 3, 1) := by decide +kernel
theorem d_P_turnBack_17 : decode c_P_turnBack 17 = .ok (.iload_n 2, 1) := by decide +kernel
theorem d_P_turnBack_18 : decode c_P_turnBack 18 = .ok (.invokestatic 116, 3) := by decide +kernel
theorem d_P_turnBack_21 : decode c_P_turnBack 21 = .ok (.astore 4, 2) := by decide +kernel
theorem d_P_turnBack_23 : decode c_P_turnBack 23 = .ok (.aload 4, 2) := by decide +kernel
theorem d_P_turnBack_25 : decode c_P_turnBack 25 = .ok (.ifnull 11, 3) := by decide +kernel
theorem d_P_turnBack_28 : decode c_P_turnBack 28 = .ok (.aload 4, 2) := by decide +kernel
theorem d_P_turnBack_30 : decode c_P_turnBack 30 = .ok (.getfield 120, 3) := by decide +kernel
theorem d_P_turnBack_33 : decode c_P_turnBack 33 = .ok (.ifCond .eq 5, 3) := by decide +kernel
theorem d_P_turnBack_36 : decode c_P_turnBack 36 = .ok (.iconst (-1), 1) := by decide +kernel
theorem d_P_turnBack_37 : decode c_P_turnBack 37 = .ok (.ireturn, 1) := by decide +kernel
theorem d_P_turnBack_38 : decode c_P_turnBack 38 = .ok (.aload_n 0, 1) := by decide +kernel
theorem d_P_turnBack_39 : decode c_P_turnBack 39 = .ok (.invokevirtual 67, 3) := by decide +kernel
theorem d_P_turnBack_42 : decode c_P_turnBack 42 = .ok (.ifCond .eq 6, 3) := by decide +kernel
theorem d_P_turnBack_45 : decode c_P_turnBack 45 = .ok (.bipush (-2), 2) := by decide +kernel
theorem d_P_turnBack_47 : decode c_P_turnBack 47 = .ok (.ireturn, 1) := by decide +kernel
theorem d_P_turnBack_48 : decode c_P_turnBack 48 = .ok (.aload_n 0, 1) := by decide +kernel
theorem d_P_turnBack_49 : decode c_P_turnBack 49 = .ok (.iload_n 1, 1) := by decide +kernel
theorem d_P_turnBack_50 : decode c_P_turnBack 50 = .ok (.aload_n 3, 1) := by decide +kernel
theorem d_P_turnBack_51 : decode c_P_turnBack 51 = .ok (.aload 4, 2) := by decide +kernel
theorem d_P_turnBack_53 : decode c_P_turnBack 53 = .ok (.getfield 104, 3) := by decide +kernel
theorem d_P_turnBack_56 : decode c_P_turnBack 56 = .ok (.invokevirtual 112, 3) := by decide +kernel
theorem d_P_turnBack_59 : decode c_P_turnBack 59 = .ok (.ireturn, 1) := by decide +kernel
abbrev B_P_turnBack (z : zT) (ws0 : va_W) (mc ms : Nat) (Post : Option Value → mM → Prop) : Prop := BX z c_P_turnBack 5 y_P_turnBack.cls y_P_turnBack.name 3 61 ∧ BQ z (some (.int)) ws0 mc ms Post
abbrev Ct_P_turnBack (l : Launch) (D : va_G) (tys : List (ClassId × FieldType)) (mc ms : Nat) (av : List Value) (M : mM) (Post : Option Value → mM → Prop) : Prop := Ct l D tys y_P_turnBack w_P_turnBack 3 61 mc ms av M Post
theorem i_P_turnBack_0 {z : zT} {ws0 : va_W} {mc ms : Nat} {Post : Option Value → mM → Prop} (X : B_P_turnBack z ws0 mc ms Post) {v : Value} {l1 l2 l3 l4 : Option Value} {M : mM} {k n : Nat} (hv : mRf v := by first | exact mRf_r _ | exact mRf_n | exact mRf_rf _ | assumption) (h : RN z 1 [some v, l1, l2, l3, l4] [v] M k n) : RN z 0 [some v, l1, l2, l3, l4] [] M k n := R_aload_n X.1 d_P_turnBack_0 rfl rfl hv h
theorem i_P_turnBack_1 {z : zT} {ws0 : va_W} {mc ms : Nat} {Post : Option Value → mM → Prop} (X : B_P_turnBack z ws0 mc ms Post) {x : Int32} {l0 l2 l3 l4 : Option Value} {s0 : Value} {M : mM} {k n : Nat}  (h : RN z 2 [l0, some (.int x), l2, l3, l4] [.int x, s0] M k n) : RN z 1 [l0, some (.int x), l2, l3, l4] [s0] M k n := R_iload_n X.1 d_P_turnBack_1 rfl rfl h
theorem i_P_turnBack_2 {z : zT} {ws0 : va_W} {mc ms : Nat} {Post : Option Value → mM → Prop} (X : B_P_turnBack z ws0 mc ms Post) {a0 : Value} {b : Nat} {mc1 ms1 : Nat} {Po : Option Value → mM → Prop} {fs : List Value} {l0 l1 l2 l3 l4 : Option Value} {M : mM} {k n : Nat} (hM : M b = some (.inr (3, fs))) (hC : Ct (zl z) (zD z) (zty z) y_P_latestVersion w_P_latestVersion 1 21 mc1 ms1 [.ref b, a0] M Po) (hk : k + mc1 ≤ mc) (hn : n + ms1 ≤ ms) (h : ∀ v M1, Po v M1 → RN z 5 [l0, l1, l2, l3, l4] (v.toList ++ []) M1 (k + mc1) (n + ms1)) : RN z 2 [l0, l1, l2, l3, l4] [a0, .ref b] M k n := R_callV X.1 (av := [a0]) (nA := 1) wd_229 wd_226 wd_228 wd_10 wd_30 (by decide +kernel) rfl (Nat.le_of_ble_eq_true rfl) (Nat.le_of_ble_eq_true rfl) (Nat.le_of_ble_eq_true rfl) d_P_turnBack_2 rfl (ci := 3) rfl hM hC (by rw [BM.rc1 X.2]; exact hk) (by rw [BM.rc2 X.2]; exact hn) h
theorem i_P_turnBack_5 {z : zT} {ws0 : va_W} {mc ms : Nat} {Post : Option Value → mM → Prop} (X : B_P_turnBack z ws0 mc ms Post) {v : Value} {l0 l1 l2 l3 l4 : Option Value} {M : mM} {k n : Nat} (hv : mRf v := by first | exact mRf_r _ | exact mRf_n | exact mRf_rf _ | assumption) (h : RN z 6 [l0, l1, l2, some v, l4] [] M k n) : RN z 5 [l0, l1, l2, l3, l4] [v] M k n := R_astore_n X.1 d_P_turnBack_5 rfl hv (Nat.le_of_ble_eq_true rfl) h
theorem i_P_turnBack_6 {z : zT} {ws0 : va_W} {mc ms : Nat} {Post : Option Value → mM → Prop} (X : B_P_turnBack z ws0 mc ms Post) {v : Value} {l0 l1 l2 l4 : Option Value} {M : mM} {k n : Nat} (hv : mRf v := by first | exact mRf_r _ | exact mRf_n | exact mRf_rf _ | assumption) (h : RN z 7 [l0, l1, l2, some v, l4] [v] M k n) : RN z 6 [l0, l1, l2, some v, l4] [] M k n := R_aload_n X.1 d_P_turnBack_6 rfl rfl hv h
theorem i_P_turnBack_7 {z : zT} {ws0 : va_W} {mc ms : Nat} {Post : Option Value → mM → Prop} (X : B_P_turnBack z ws0 mc ms Post) {v : Value} {l0 l1 l2 l3 l4 : Option Value} {M : mM} {k n : Nat} (hv : mRf v := by first | exact mRf_r _ | exact mRf_n | exact mRf_rf _ | assumption) (h1 : v = .null → RN z 14 [l0, l1, l2, l3, l4] [] M k n) (h2 : ∀ a, v = .ref a → RN z 10 [l0, l1, l2, l3, l4] [] M k n) : RN z 7 [l0, l1, l2, l3, l4] [v] M k n := R_ifnull X.1 d_P_turnBack_7 (by decide) hv h1 h2
theorem i_P_turnBack_10 {z : zT} {ws0 : va_W} {mc ms : Nat} {Post : Option Value → mM → Prop} (X : B_P_turnBack z ws0 mc ms Post) {x : Int32} {l0 l1 l3 l4 : Option Value} {M : mM} {k n : Nat}  (h : RN z 11 [l0, l1, some (.int x), l3, l4] [.int x] M k n) : RN z 10 [l0, l1, some (.int x), l3, l4] [] M k n := R_iload_n X.1 d_P_turnBack_10 rfl rfl h
theorem i_P_turnBack_11 {z : zT} {ws0 : va_W} {mc ms : Nat} {Post : Option Value → mM → Prop} (X : B_P_turnBack z ws0 mc ms Post) {x : Int32} {l0 l1 l2 l3 l4 : Option Value} {M : mM} {k n : Nat}  (h1 : 0 ≤ x → RN z 16 [l0, l1, l2, l3, l4] [] M k n) (h2 : ¬ (0 ≤ x) → RN z 14 [l0, l1, l2, l3, l4] [] M k n) : RN z 11 [l0, l1, l2, l3, l4] [.int x] M k n := R_if_ge X.1 d_P_turnBack_11 (by decide) h1 h2
theorem i_P_turnBack_14 {z : zT} {ws0 : va_W} {mc ms : Nat} {Post : Option Value → mM → Prop} (X : B_P_turnBack z ws0 mc ms Post) {l0 l1 l2 l3 l4 : Option Value} {M : mM} {k n : Nat}  (h : RN z 15 [l0, l1, l2, l3, l4] [.int (-1)] M k n) : RN z 14 [l0, l1, l2, l3, l4] [] M k n := R_iconst X.1 d_P_turnBack_14 (by decide) h
theorem i_P_turnBack_15 {z : zT} {ws0 : va_W} {mc ms : Nat} {Post : Option Value → mM → Prop} (X : B_P_turnBack z ws0 mc ms Post) {x : Int32} {l0 l1 l2 l3 l4 : Option Value} {M : mM} {k n : Nat} (hk : k ≤ mc) (hn : n ≤ ms) (hp : Post (some (.int x)) M) : RN z 15 [l0, l1, l2, l3, l4] [.int x] M k n := R_iret X.1 X.2 d_P_turnBack_15 hk hn hp
theorem i_P_turnBack_16 {z : zT} {ws0 : va_W} {mc ms : Nat} {Post : Option Value → mM → Prop} (X : B_P_turnBack z ws0 mc ms Post) {v : Value} {l0 l1 l2 l4 : Option Value} {M : mM} {k n : Nat} (hv : mRf v := by first | exact mRf_r _ | exact mRf_n | exact mRf_rf _ | assumption) (h : RN z 17 [l0, l1, l2, some v, l4] [v] M k n) : RN z 16 [l0, l1, l2, some v, l4] [] M k n := R_aload_n X.1 d_P_turnBack_16 rfl rfl hv h
theorem i_P_turnBack_17 {z : zT} {ws0 : va_W} {mc ms : Nat} {Post : Option Value → mM → Prop} (X : B_P_turnBack z ws0 mc ms Post) {x : Int32} {l0 l1 l3 l4 : Option Value} {s0 : Value} {M : mM} {k n : Nat}  (h : RN z 18 [l0, l1, some (.int x), l3, l4] [.int x, s0] M k n) : RN z 17 [l0, l1, some (.int x), l3, l4] [s0] M k n := R_iload_n X.1 d_P_turnBack_17 rfl rfl h
theorem i_P_turnBack_18 {z : zT} {ws0 : va_W} {mc ms : Nat} {Post : Option Value → mM → Prop} (X : B_P_turnBack z ws0 mc ms Post) {a0 a1 : Value} {mc1 ms1 : Nat} {Po : Option Value → mM → Prop} {l0 l1 l2 l3 l4 : Option Value} {M : mM} {k n : Nat} (hC : Ct (zl z) (zD z) (zty z) y_P_versionAsOf w_P_versionAsOf 0 0 mc1 ms1 [a0, a1] M Po) (hk : k + mc1 ≤ mc) (hn : n + ms1 ≤ ms) (h : ∀ v M1, Po v M1 → RN z 21 [l0, l1, l2, l3, l4] (v.toList ++ []) M1 (k + mc1) (n + ms1)) : RN z 18 [l0, l1, l2, l3, l4] [a1, a0] M k n := R_callS X.1 (av := [a0, a1]) (nA := 2) wd_250 wd_248 wd_249 wd_30 (by decide +kernel) rfl (Nat.le_of_ble_eq_true rfl) (Nat.le_of_ble_eq_true rfl) (Nat.le_of_ble_eq_true rfl) d_P_turnBack_18 rfl hC (by rw [BM.rc1 X.2]; exact hk) (by rw [BM.rc2 X.2]; exact hn) h
theorem i_P_turnBack_21 {z : zT} {ws0 : va_W} {mc ms : Nat} {Post : Option Value → mM → Prop} (X : B_P_turnBack z ws0 mc ms Post) {v : Value} {l0 l1 l2 l3 l4 : Option Value} {M : mM} {k n : Nat} (hv : mRf v := by first | exact mRf_r _ | exact mRf_n | exact mRf_rf _ | assumption) (h : RN z 23 [l0, l1, l2, l3, some v] [] M k n) : RN z 21 [l0, l1, l2, l3, l4] [v] M k n := R_astore X.1 d_P_turnBack_21 hv (Nat.le_of_ble_eq_true rfl) h
theorem i_P_turnBack_23 {z : zT} {ws0 : va_W} {mc ms : Nat} {Post : Option Value → mM → Prop} (X : B_P_turnBack z ws0 mc ms Post) {v : Value} {l0 l1 l2 l3 : Option Value} {M : mM} {k n : Nat} (hv : mRf v := by first | exact mRf_r _ | exact mRf_n | exact mRf_rf _ | assumption) (h : RN z 25 [l0, l1, l2, l3, some v] [v] M k n) : RN z 23 [l0, l1, l2, l3, some v] [] M k n := R_aload X.1 d_P_turnBack_23 rfl hv h
theorem i_P_turnBack_25 {z : zT} {ws0 : va_W} {mc ms : Nat} {Post : Option Value → mM → Prop} (X : B_P_turnBack z ws0 mc ms Post) {v : Value} {l0 l1 l2 l3 l4 : Option Value} {M : mM} {k n : Nat} (hv : mRf v := by first | exact mRf_r _ | exact mRf_n | exact mRf_rf _ | assumption) (h1 : v = .null → RN z 36 [l0, l1, l2, l3, l4] [] M k n) (h2 : ∀ a, v = .ref a → RN z 28 [l0, l1, l2, l3, l4] [] M k n) : RN z 25 [l0, l1, l2, l3, l4] [v] M k n := R_ifnull X.1 d_P_turnBack_25 (by decide) hv h1 h2
theorem i_P_turnBack_28 {z : zT} {ws0 : va_W} {mc ms : Nat} {Post : Option Value → mM → Prop} (X : B_P_turnBack z ws0 mc ms Post) {v : Value} {l0 l1 l2 l3 : Option Value} {M : mM} {k n : Nat} (hv : mRf v := by first | exact mRf_r _ | exact mRf_n | exact mRf_rf _ | assumption) (h : RN z 30 [l0, l1, l2, l3, some v] [v] M k n) : RN z 28 [l0, l1, l2, l3, some v] [] M k n := R_aload X.1 d_P_turnBack_28 rfl hv h
theorem i_P_turnBack_30 {z : zT} {ws0 : va_W} {mc ms : Nat} {Post : Option Value → mM → Prop} (X : B_P_turnBack z ws0 mc ms Post) {a : Nat} {f0 f1 f2 f3 f4 : Value} {l0 l1 l2 l3 l4 : Option Value} {M : mM} {k n : Nat} (hM : M a = some (.inr (2, [f0, f1, f2, f3, f4]))) (h : RN z 33 [l0, l1, l2, l3, l4] [f4] M k n) : RN z 30 [l0, l1, l2, l3, l4] [.ref a] M k n := R_get X.1 inX2 rfl 4 (Nat.le_of_ble_eq_true rfl) wd_167 d_P_turnBack_30 hM rfl h
theorem i_P_turnBack_33 {z : zT} {ws0 : va_W} {mc ms : Nat} {Post : Option Value → mM → Prop} (X : B_P_turnBack z ws0 mc ms Post) {x : Int32} {l0 l1 l2 l3 l4 : Option Value} {M : mM} {k n : Nat}  (h1 : x = 0 → RN z 38 [l0, l1, l2, l3, l4] [] M k n) (h2 : ¬ (x = 0) → RN z 36 [l0, l1, l2, l3, l4] [] M k n) : RN z 33 [l0, l1, l2, l3, l4] [.int x] M k n := R_if_eq X.1 d_P_turnBack_33 (by decide) h1 h2
theorem i_P_turnBack_36 {z : zT} {ws0 : va_W} {mc ms : Nat} {Post : Option Value → mM → Prop} (X : B_P_turnBack z ws0 mc ms Post) {l0 l1 l2 l3 l4 : Option Value} {M : mM} {k n : Nat}  (h : RN z 37 [l0, l1, l2, l3, l4] [.int (-1)] M k n) : RN z 36 [l0, l1, l2, l3, l4] [] M k n := R_iconst X.1 d_P_turnBack_36 (by decide) h
theorem i_P_turnBack_37 {z : zT} {ws0 : va_W} {mc ms : Nat} {Post : Option Value → mM → Prop} (X : B_P_turnBack z ws0 mc ms Post) {x : Int32} {l0 l1 l2 l3 l4 : Option Value} {M : mM} {k n : Nat} (hk : k ≤ mc) (hn : n ≤ ms) (hp : Post (some (.int x)) M) : RN z 37 [l0, l1, l2, l3, l4] [.int x] M k n := R_iret X.1 X.2 d_P_turnBack_37 hk hn hp
theorem i_P_turnBack_38 {z : zT} {ws0 : va_W} {mc ms : Nat} {Post : Option Value → mM → Prop} (X : B_P_turnBack z ws0 mc ms Post) {v : Value} {l1 l2 l3 l4 : Option Value} {M : mM} {k n : Nat} (hv : mRf v := by first | exact mRf_r _ | exact mRf_n | exact mRf_rf _ | assumption) (h : RN z 39 [some v, l1, l2, l3, l4] [v] M k n) : RN z 38 [some v, l1, l2, l3, l4] [] M k n := R_aload_n X.1 d_P_turnBack_38 rfl rfl hv h
theorem i_P_turnBack_39 {z : zT} {ws0 : va_W} {mc ms : Nat} {Post : Option Value → mM → Prop} (X : B_P_turnBack z ws0 mc ms Post) {b : Nat} {mc1 ms1 : Nat} {Po : Option Value → mM → Prop} {fs : List Value} {l0 l1 l2 l3 l4 : Option Value} {M : mM} {k n : Nat} (hM : M b = some (.inr (3, fs))) (hC : Ct (zl z) (zD z) (zty z) y_P_isUsedUp w_P_isUsedUp 0 0 mc1 ms1 [.ref b] M Po) (hk : k + mc1 ≤ mc) (hn : n + ms1 ≤ ms) (h : ∀ v M1, Po v M1 → RN z 42 [l0, l1, l2, l3, l4] (v.toList ++ []) M1 (k + mc1) (n + ms1)) : RN z 39 [l0, l1, l2, l3, l4] [.ref b] M k n := R_callV X.1 (av := []) (nA := 0) wd_151 wd_148 wd_150 wd_5 wd_30 (by decide +kernel) rfl (Nat.le_of_ble_eq_true rfl) (Nat.le_of_ble_eq_true rfl) (Nat.le_of_ble_eq_true rfl) d_P_turnBack_39 rfl (ci := 3) rfl hM hC (by rw [BM.rc1 X.2]; exact hk) (by rw [BM.rc2 X.2]; exact hn) h
theorem i_P_turnBack_42 {z : zT} {ws0 : va_W} {mc ms : Nat} {Post : Option Value → mM → Prop} (X : B_P_turnBack z ws0 mc ms Post) {x : Int32} {l0 l1 l2 l3 l4 : Option Value} {M : mM} {k n : Nat}  (h1 : x = 0 → RN z 48 [l0, l1, l2, l3, l4] [] M k n) (h2 : ¬ (x = 0) → RN z 45 [l0, l1, l2, l3, l4] [] M k n) : RN z 42 [l0, l1, l2, l3, l4] [.int x] M k n := R_if_eq X.1 d_P_turnBack_42 (by decide) h1 h2
theorem i_P_turnBack_45 {z : zT} {ws0 : va_W} {mc ms : Nat} {Post : Option Value → mM → Prop} (X : B_P_turnBack z ws0 mc ms Post) {l0 l1 l2 l3 l4 : Option Value} {M : mM} {k n : Nat}  (h : RN z 47 [l0, l1, l2, l3, l4] [.int (-2)] M k n) : RN z 45 [l0, l1, l2, l3, l4] [] M k n := R_bipush X.1 d_P_turnBack_45 (by decide) h
theorem i_P_turnBack_47 {z : zT} {ws0 : va_W} {mc ms : Nat} {Post : Option Value → mM → Prop} (X : B_P_turnBack z ws0 mc ms Post) {x : Int32} {l0 l1 l2 l3 l4 : Option Value} {M : mM} {k n : Nat} (hk : k ≤ mc) (hn : n ≤ ms) (hp : Post (some (.int x)) M) : RN z 47 [l0, l1, l2, l3, l4] [.int x] M k n := R_iret X.1 X.2 d_P_turnBack_47 hk hn hp
theorem i_P_turnBack_48 {z : zT} {ws0 : va_W} {mc ms : Nat} {Post : Option Value → mM → Prop} (X : B_P_turnBack z ws0 mc ms Post) {v : Value} {l1 l2 l3 l4 : Option Value} {M : mM} {k n : Nat} (hv : mRf v := by first | exact mRf_r _ | exact mRf_n | exact mRf_rf _ | assumption) (h : RN z 49 [some v, l1, l2, l3, l4] [v] M k n) : RN z 48 [some v, l1, l2, l3, l4] [] M k n := R_aload_n X.1 d_P_turnBack_48 rfl rfl hv h
theorem i_P_turnBack_49 {z : zT} {ws0 : va_W} {mc ms : Nat} {Post : Option Value → mM → Prop} (X : B_P_turnBack z ws0 mc ms Post) {x : Int32} {l0 l2 l3 l4 : Option Value} {s0 : Value} {M : mM} {k n : Nat}  (h : RN z 50 [l0, some (.int x), l2, l3, l4] [.int x, s0] M k n) : RN z 49 [l0, some (.int x), l2, l3, l4] [s0] M k n := R_iload_n X.1 d_P_turnBack_49 rfl rfl h
theorem i_P_turnBack_50 {z : zT} {ws0 : va_W} {mc ms : Nat} {Post : Option Value → mM → Prop} (X : B_P_turnBack z ws0 mc ms Post) {v : Value} {l0 l1 l2 l4 : Option Value} {s0 s1 : Value} {M : mM} {k n : Nat} (hv : mRf v := by first | exact mRf_r _ | exact mRf_n | exact mRf_rf _ | assumption) (h : RN z 51 [l0, l1, l2, some v, l4] [v, s0, s1] M k n) : RN z 50 [l0, l1, l2, some v, l4] [s0, s1] M k n := R_aload_n X.1 d_P_turnBack_50 rfl rfl hv h
theorem i_P_turnBack_51 {z : zT} {ws0 : va_W} {mc ms : Nat} {Post : Option Value → mM → Prop} (X : B_P_turnBack z ws0 mc ms Post) {v : Value} {l0 l1 l2 l3 : Option Value} {s0 s1 s2 : Value} {M : mM} {k n : Nat} (hv : mRf v := by first | exact mRf_r _ | exact mRf_n | exact mRf_rf _ | assumption) (h : RN z 53 [l0, l1, l2, l3, some v] [v, s0, s1, s2] M k n) : RN z 51 [l0, l1, l2, l3, some v] [s0, s1, s2] M k n := R_aload X.1 d_P_turnBack_51 rfl hv h
theorem i_P_turnBack_53 {z : zT} {ws0 : va_W} {mc ms : Nat} {Post : Option Value → mM → Prop} (X : B_P_turnBack z ws0 mc ms Post) {a : Nat} {f0 f1 f2 f3 f4 : Value} {l0 l1 l2 l3 l4 : Option Value} {s0 s1 s2 : Value} {M : mM} {k n : Nat} (hM : M a = some (.inr (2, [f0, f1, f2, f3, f4]))) (h : RN z 56 [l0, l1, l2, l3, l4] [f2, s0, s1, s2] M k n) : RN z 53 [l0, l1, l2, l3, l4] [.ref a, s0, s1, s2] M k n := R_get X.1 inX2 rfl 2 (Nat.le_of_ble_eq_true rfl) wd_163 d_P_turnBack_53 hM rfl h
theorem i_P_turnBack_56 {z : zT} {ws0 : va_W} {mc ms : Nat} {Post : Option Value → mM → Prop} (X : B_P_turnBack z ws0 mc ms Post) {a0 a1 a2 : Value} {b : Nat} {mc1 ms1 : Nat} {Po : Option Value → mM → Prop} {fs : List Value} {l0 l1 l2 l3 l4 : Option Value} {M : mM} {k n : Nat} (hM : M b = some (.inr (3, fs))) (hC : Ct (zl z) (zD z) (zty z) y_P_addVersion w_P_addVersion 2 36 mc1 ms1 [.ref b, a0, a1, a2] M Po) (hk : k + mc1 ≤ mc) (hn : n + ms1 ≤ ms) (h : ∀ v M1, Po v M1 → RN z 59 [l0, l1, l2, l3, l4] (v.toList ++ []) M1 (k + mc1) (n + ms1)) : RN z 56 [l0, l1, l2, l3, l4] [a2, a1, a0, .ref b] M k n := R_callV X.1 (av := [a0, a1, a2]) (nA := 3) wd_243 wd_240 wd_242 wd_11 wd_30 (by decide +kernel) rfl (Nat.le_of_ble_eq_true rfl) (Nat.le_of_ble_eq_true rfl) (Nat.le_of_ble_eq_true rfl) d_P_turnBack_56 rfl (ci := 3) rfl hM hC (by rw [BM.rc1 X.2]; exact hk) (by rw [BM.rc2 X.2]; exact hn) h
theorem i_P_turnBack_59 {z : zT} {ws0 : va_W} {mc ms : Nat} {Post : Option Value → mM → Prop} (X : B_P_turnBack z ws0 mc ms Post) {x : Int32} {l0 l1 l2 l3 l4 : Option Value} {M : mM} {k n : Nat} (hk : k ≤ mc) (hn : n ≤ ms) (hp : Post (some (.int x)) M) : RN z 59 [l0, l1, l2, l3, l4] [.int x] M k n := R_iret X.1 X.2 d_P_turnBack_59 hk hn hp
theorem d_P_putBack_0 : decode c_P_putBack 0 = .ok (.aload_n 0, 1) := by decide +kernel
theorem d_P_putBack_1 : decode c_P_putBack 1 = .ok (.iload_n 1, 1) := by decide +kernel
theorem d_P_putBack_2 : decode c_P_putBack 2 = .ok (.invokevirtual 52, 3) := by decide +kernel
theorem d_P_putBack_5 : decode c_P_putBack 5 = .ok (.ifCond .eq 14, 3) := by decide +kernel
theorem d_P_putBack_8 : decode c_P_putBack 8 = .ok (.iload_n 2, 1) := by decide +kernel
theorem d_P_putBack_9 : decode c_P_putBack 9 = .ok (.invokestatic 56, 3) := by decide +kernel
theorem d_P_putBack_12 : decode c_P_putBack 12 = .ok (.ifCond .eq 7, 3) := by decide +kernel
theorem d_P_putBack_15 : decode c_P_putBack 15 = .ok (.iload_n 3, 1) := by decide +kernel
theorem d_P_putBack_16 : decode c_P_putBack 16 = .ok (.ifCond .ge 5, 3) := by decide +kernel
theorem d_P_putBack_19 : decode c_P_putBack 19 = .ok (.iconst (-1), 1) := by decide +kernel
theorem d_P_putBack_20 : decode c_P_putBack 20 = .ok (.ireturn, 1) := by decide +kernel
theorem d_P_putBack_21 : decode c_P_putBack 21 = .ok (.aload_n 0, 1) := by decide +kernel
theorem d_P_putBack_22 : decode c_P_putBack 22 = .ok (.iload_n 3, 1) := by decide +kernel
theorem d_P_putBack_23 : decode c_P_putBack 23 = .ok (.invokevirtual 59, 3) := by decide +kernel
theorem d_P_putBack_26 : decode c_P_putBack 26 = .ok (.aload_n 0, 1) := by decide +kernel
theorem d_P_putBack_27 : decode c_P_putBack 27 = .ok (.iload_n 1, 1) := by decide +kernel
theorem d_P_putBack_28 : decode c_P_putBack 28 = .ok (.iload_n 2, 1) := by decide +kernel
theorem d_P_putBack_29 : decode c_P_putBack 29 = .ok (.invokevirtual 88, 3) := by decide +kernel
theorem d_P_putBack_32 : decode c_P_putBack 32 = .ok (.istore 4, 2) := by decide +kernel
theorem d_P_putBack_34 : decode c_P_putBack 34 = .ok (.aload_n 0, 1) := by decide +kernel
theorem d_P_putBack_35 : decode c_P_putBack 35 = .ok (.aload_n 0, 1) := by decide +kernel
theorem d_P_putBack_36 : decode c_P_putBack 36 = .ok (.getfield 19, 3) := by decide +kernel
theorem d_P_putBack_39 : decode c_P_putBack 39 = .ok (.invokevirtual 59, 3) := by decide +kernel
theorem d_P_putBack_42 : decode c_P_putBack 42 = .ok (.iload 4, 2) := by decide +kernel
theorem d_P_putBack_44 : decode c_P_putBack 44 = .ok (.ifCond .eq 33, 3) := by decide +kernel
theorem d_P_putBack_47 : decode c_P_putBack 47 = .ok (.aload_n 0, 1) := by decide +kernel
theorem d_P_putBack_48 : decode c_P_putBack 48 = .ok (.getfield 15, 3) := by decide +kernel
theorem d_P_putBack_51 : decode c_P_putBack 51 = .ok (.iload 4, 2) := by decide +kernel
theorem d_P_putBack_53 : decode c_P_putBack 53 = .ok (.iaload, 1) := by decide +kernel
theorem d_P_putBack_54 : decode c_P_putBack 54 = .ok (.iconst (-1), 1) := by decide +kernel
theorem d_P_putBack_55 : decode c_P_putBack 55 = .ok (.if_icmp .ne 22, 3) := by decide +kernel
theorem d_P_putBack_58 : decode c_P_putBack 58 = .ok (.aload_n 0, 1) := by decide +kernel
theorem d_P_putBack_59 : decode c_P_putBack 59 = .ok (.iload_n 1, 1) := by decide +kernel
theorem d_P_putBack_60 : decode c_P_putBack 60 = .ok (.iload_n 2, 1) := by decide +kernel
theorem d_P_putBack_61 : decode c_P_putBack 61 = .ok (.invokevirtual 63, 3) := by decide +kernel
theorem d_P_putBack_64 : decode c_P_putBack 64 = .ok (.ifCond .eq 13, 3) := by decide +kernel
theorem d_P_putBack_67 : decode c_P_putBack 67 = .ok (.aload_n 0, 1) := by decide +kernel
theorem d_P_putBack_68 : decode c_P_putBack 68 = .ok (.iload_n 1, 1) := by decide +kernel
theorem d_P_putBack_69 : decode c_P_putBack 69 = .ok (.iload 4, 2) := by decide +kernel
theorem d_P_putBack_71 : decode c_P_putBack 71 = .ok (.invokevirtual 94, 3) := by decide +kernel
theorem d_P_putBack_74 : decode c_P_putBack 74 = .ok (.ifCond .eq 5, 3) := by decide +kernel
theorem d_P_putBack_77 : decode c_P_putBack 77 = .ok (.iconst (-1), 1) := by decide +kernel
theorem d_P_putBack_78 : decode c_P_putBack 78 = .ok (.ireturn, 1) := by decide +kernel
theorem d_P_putBack_79 : decode c_P_putBack 79 = .ok (.aload_n 0, 1) := by decide +kernel
theorem d_P_putBack_80 : decode c_P_putBack 80 = .ok (.invokevirtual 67, 3) := by decide +kernel
theorem d_P_putBack_83 : decode c_P_putBack 83 = .ok (.ifCond .eq 6, 3) := by decide +kernel
theorem d_P_putBack_86 : decode c_P_putBack 86 = .ok (.bipush (-2), 2) := by decide +kernel
theorem d_P_putBack_88 : decode c_P_putBack 88 = .ok (.ireturn, 1) := by decide +kernel
theorem d_P_putBack_89 : decode c_P_putBack 89 = .ok (.aload_n 0, 1) := by decide +kernel
theorem d_P_putBack_90 : decode c_P_putBack 90 = .ok (.iload 4, 2) := by decide +kernel
theorem d_P_putBack_92 : decode c_P_putBack 92 = .ok (.iload_n 1, 1) := by decide +kernel
theorem d_P_putBack_93 : decode c_P_putBack 93 = .ok (.iload_n 2, 1) := by decide +kernel
theorem d_P_putBack_94 : decode c_P_putBack 94 = .ok (.invokestatic 80, 3) := by decide +kernel
theorem d_P_putBack_97 : decode c_P_putBack 97 = .ok (.invokevirtual 84, 3) := by decide +kernel
theorem d_P_putBack_100 : decode c_P_putBack 100 = .ok (.iload 4, 2) := by decide +kernel
theorem d_P_putBack_102 : decode c_P_putBack 102 = .ok (.ireturn, 1) := by decide +kernel
abbrev B_P_putBack (z : zT) (ws0 : va_W) (mc ms : Nat) (Post : Option Value → mM → Prop) : Prop := BX z c_P_putBack 5 y_P_putBack.cls y_P_putBack.name 3 68 ∧ BQ z (some (.int)) ws0 mc ms Post
abbrev Ct_P_putBack (l : Launch) (D : va_G) (tys : List (ClassId × FieldType)) (mc ms : Nat) (av : List Value) (M : mM) (Post : Option Value → mM → Prop) : Prop := Ct l D tys y_P_putBack w_P_putBack 3 68 mc ms av M Post
theorem i_P_putBack_0 {z : zT} {ws0 : va_W} {mc ms : Nat} {Post : Option Value → mM → Prop} (X : B_P_putBack z ws0 mc ms Post) {v : Value} {l1 l2 l3 l4 : Option Value} {M : mM} {k n : Nat} (hv : mRf v := by first | exact mRf_r _ | exact mRf_n | exact mRf_rf _ | assumption) (h : RN z 1 [some v, l1, l2, l3, l4] [v] M k n) : RN z 0 [some v, l1, l2, l3, l4] [] M k n := R_aload_n X.1 d_P_putBack_0 rfl rfl hv h
theorem i_P_putBack_1 {z : zT} {ws0 : va_W} {mc ms : Nat} {Post : Option Value → mM → Prop} (X : B_P_putBack z ws0 mc ms Post) {x : Int32} {l0 l2 l3 l4 : Option Value} {s0 : Value} {M : mM} {k n : Nat}  (h : RN z 2 [l0, some (.int x), l2, l3, l4] [.int x, s0] M k n) : RN z 1 [l0, some (.int x), l2, l3, l4] [s0] M k n := R_iload_n X.1 d_P_putBack_1 rfl rfl h
theorem i_P_putBack_2 {z : zT} {ws0 : va_W} {mc ms : Nat} {Post : Option Value → mM → Prop} (X : B_P_putBack z ws0 mc ms Post) {a0 : Value} {b : Nat} {mc1 ms1 : Nat} {Po : Option Value → mM → Prop} {fs : List Value} {l0 l1 l2 l3 l4 : Option Value} {M : mM} {k n : Nat} (hM : M b = some (.inr (3, fs))) (hC : Ct (zl z) (zD z) (zty z) y_P_isMadeFolder w_P_isMadeFolder 1 21 mc1 ms1 [.ref b, a0] M Po) (hk : k + mc1 ≤ mc) (hn : n + ms1 ≤ ms) (h : ∀ v M1, Po v M1 → RN z 5 [l0, l1, l2, l3, l4] (v.toList ++ []) M1 (k + mc1) (n + ms1)) : RN z 2 [l0, l1, l2, l3, l4] [a0, .ref b] M k n := R_callV X.1 (av := [a0]) (nA := 1) wd_121 wd_118 wd_120 wd_0 wd_30 (by decide +kernel) rfl (Nat.le_of_ble_eq_true rfl) (Nat.le_of_ble_eq_true rfl) (Nat.le_of_ble_eq_true rfl) d_P_putBack_2 rfl (ci := 3) rfl hM hC (by rw [BM.rc1 X.2]; exact hk) (by rw [BM.rc2 X.2]; exact hn) h
theorem i_P_putBack_5 {z : zT} {ws0 : va_W} {mc ms : Nat} {Post : Option Value → mM → Prop} (X : B_P_putBack z ws0 mc ms Post) {x : Int32} {l0 l1 l2 l3 l4 : Option Value} {M : mM} {k n : Nat}  (h1 : x = 0 → RN z 19 [l0, l1, l2, l3, l4] [] M k n) (h2 : ¬ (x = 0) → RN z 8 [l0, l1, l2, l3, l4] [] M k n) : RN z 5 [l0, l1, l2, l3, l4] [.int x] M k n := R_if_eq X.1 d_P_putBack_5 (by decide) h1 h2
theorem i_P_putBack_8 {z : zT} {ws0 : va_W} {mc ms : Nat} {Post : Option Value → mM → Prop} (X : B_P_putBack z ws0 mc ms Post) {x : Int32} {l0 l1 l3 l4 : Option Value} {M : mM} {k n : Nat}  (h : RN z 9 [l0, l1, some (.int x), l3, l4] [.int x] M k n) : RN z 8 [l0, l1, some (.int x), l3, l4] [] M k n := R_iload_n X.1 d_P_putBack_8 rfl rfl h
theorem i_P_putBack_9 {z : zT} {ws0 : va_W} {mc ms : Nat} {Post : Option Value → mM → Prop} (X : B_P_putBack z ws0 mc ms Post) {a0 : Value} {mc1 ms1 : Nat} {Po : Option Value → mM → Prop} {l0 l1 l2 l3 l4 : Option Value} {M : mM} {k n : Nat} (hC : Ct (zl z) (zD z) (zty z) y_P_isName w_P_isName 0 0 mc1 ms1 [a0] M Po) (hk : k + mc1 ≤ mc) (hn : n + ms1 ≤ ms) (h : ∀ v M1, Po v M1 → RN z 12 [l0, l1, l2, l3, l4] (v.toList ++ []) M1 (k + mc1) (n + ms1)) : RN z 9 [l0, l1, l2, l3, l4] [a0] M k n := R_callS X.1 (av := [a0]) (nA := 1) wd_128 wd_126 wd_127 wd_30 (by decide +kernel) rfl (Nat.le_of_ble_eq_true rfl) (Nat.le_of_ble_eq_true rfl) (Nat.le_of_ble_eq_true rfl) d_P_putBack_9 rfl hC (by rw [BM.rc1 X.2]; exact hk) (by rw [BM.rc2 X.2]; exact hn) h
theorem i_P_putBack_12 {z : zT} {ws0 : va_W} {mc ms : Nat} {Post : Option Value → mM → Prop} (X : B_P_putBack z ws0 mc ms Post) {x : Int32} {l0 l1 l2 l3 l4 : Option Value} {M : mM} {k n : Nat}  (h1 : x = 0 → RN z 19 [l0, l1, l2, l3, l4] [] M k n) (h2 : ¬ (x = 0) → RN z 15 [l0, l1, l2, l3, l4] [] M k n) : RN z 12 [l0, l1, l2, l3, l4] [.int x] M k n := R_if_eq X.1 d_P_putBack_12 (by decide) h1 h2
theorem i_P_putBack_15 {z : zT} {ws0 : va_W} {mc ms : Nat} {Post : Option Value → mM → Prop} (X : B_P_putBack z ws0 mc ms Post) {x : Int32} {l0 l1 l2 l4 : Option Value} {M : mM} {k n : Nat}  (h : RN z 16 [l0, l1, l2, some (.int x), l4] [.int x] M k n) : RN z 15 [l0, l1, l2, some (.int x), l4] [] M k n := R_iload_n X.1 d_P_putBack_15 rfl rfl h
theorem i_P_putBack_16 {z : zT} {ws0 : va_W} {mc ms : Nat} {Post : Option Value → mM → Prop} (X : B_P_putBack z ws0 mc ms Post) {x : Int32} {l0 l1 l2 l3 l4 : Option Value} {M : mM} {k n : Nat}  (h1 : 0 ≤ x → RN z 21 [l0, l1, l2, l3, l4] [] M k n) (h2 : ¬ (0 ≤ x) → RN z 19 [l0, l1, l2, l3, l4] [] M k n) : RN z 16 [l0, l1, l2, l3, l4] [.int x] M k n := R_if_ge X.1 d_P_putBack_16 (by decide) h1 h2
theorem i_P_putBack_19 {z : zT} {ws0 : va_W} {mc ms : Nat} {Post : Option Value → mM → Prop} (X : B_P_putBack z ws0 mc ms Post) {l0 l1 l2 l3 l4 : Option Value} {M : mM} {k n : Nat}  (h : RN z 20 [l0, l1, l2, l3, l4] [.int (-1)] M k n) : RN z 19 [l0, l1, l2, l3, l4] [] M k n := R_iconst X.1 d_P_putBack_19 (by decide) h
theorem i_P_putBack_20 {z : zT} {ws0 : va_W} {mc ms : Nat} {Post : Option Value → mM → Prop} (X : B_P_putBack z ws0 mc ms Post) {x : Int32} {l0 l1 l2 l3 l4 : Option Value} {M : mM} {k n : Nat} (hk : k ≤ mc) (hn : n ≤ ms) (hp : Post (some (.int x)) M) : RN z 20 [l0, l1, l2, l3, l4] [.int x] M k n := R_iret X.1 X.2 d_P_putBack_20 hk hn hp
theorem i_P_putBack_21 {z : zT} {ws0 : va_W} {mc ms : Nat} {Post : Option Value → mM → Prop} (X : B_P_putBack z ws0 mc ms Post) {v : Value} {l1 l2 l3 l4 : Option Value} {M : mM} {k n : Nat} (hv : mRf v := by first | exact mRf_r _ | exact mRf_n | exact mRf_rf _ | assumption) (h : RN z 22 [some v, l1, l2, l3, l4] [v] M k n) : RN z 21 [some v, l1, l2, l3, l4] [] M k n := R_aload_n X.1 d_P_putBack_21 rfl rfl hv h
theorem i_P_putBack_22 {z : zT} {ws0 : va_W} {mc ms : Nat} {Post : Option Value → mM → Prop} (X : B_P_putBack z ws0 mc ms Post) {x : Int32} {l0 l1 l2 l4 : Option Value} {s0 : Value} {M : mM} {k n : Nat}  (h : RN z 23 [l0, l1, l2, some (.int x), l4] [.int x, s0] M k n) : RN z 22 [l0, l1, l2, some (.int x), l4] [s0] M k n := R_iload_n X.1 d_P_putBack_22 rfl rfl h
theorem i_P_putBack_23 {z : zT} {ws0 : va_W} {mc ms : Nat} {Post : Option Value → mM → Prop} (X : B_P_putBack z ws0 mc ms Post) {a0 : Value} {b : Nat} {mc1 ms1 : Nat} {Po : Option Value → mM → Prop} {fs : List Value} {l0 l1 l2 l3 l4 : Option Value} {M : mM} {k n : Nat} (hM : M b = some (.inr (3, fs))) (hC : Ct (zl z) (zD z) (zty z) y_P_findPlaces w_P_findPlaces 1 22 mc1 ms1 [.ref b, a0] M Po) (hk : k + mc1 ≤ mc) (hn : n + ms1 ≤ ms) (h : ∀ v M1, Po v M1 → RN z 26 [l0, l1, l2, l3, l4] (v.toList ++ []) M1 (k + mc1) (n + ms1)) : RN z 23 [l0, l1, l2, l3, l4] [a0, .ref b] M k n := R_callV X.1 (av := [a0]) (nA := 1) wd_132 wd_129 wd_131 wd_2 wd_30 (by decide +kernel) rfl (Nat.le_of_ble_eq_true rfl) (Nat.le_of_ble_eq_true rfl) (Nat.le_of_ble_eq_true rfl) d_P_putBack_23 rfl (ci := 3) rfl hM hC (by rw [BM.rc1 X.2]; exact hk) (by rw [BM.rc2 X.2]; exact hn) h
theorem i_P_putBack_26 {z : zT} {ws0 : va_W} {mc ms : Nat} {Post : Option Value → mM → Prop} (X : B_P_putBack z ws0 mc ms Post) {v : Value} {l1 l2 l3 l4 : Option Value} {M : mM} {k n : Nat} (hv : mRf v := by first | exact mRf_r _ | exact mRf_n | exact mRf_rf _ | assumption) (h : RN z 27 [some v, l1, l2, l3, l4] [v] M k n) : RN z 26 [some v, l1, l2, l3, l4] [] M k n := R_aload_n X.1 d_P_putBack_26 rfl rfl hv h
theorem i_P_putBack_27 {z : zT} {ws0 : va_W} {mc ms : Nat} {Post : Option Value → mM → Prop} (X : B_P_putBack z ws0 mc ms Post) {x : Int32} {l0 l2 l3 l4 : Option Value} {s0 : Value} {M : mM} {k n : Nat}  (h : RN z 28 [l0, some (.int x), l2, l3, l4] [.int x, s0] M k n) : RN z 27 [l0, some (.int x), l2, l3, l4] [s0] M k n := R_iload_n X.1 d_P_putBack_27 rfl rfl h
theorem i_P_putBack_28 {z : zT} {ws0 : va_W} {mc ms : Nat} {Post : Option Value → mM → Prop} (X : B_P_putBack z ws0 mc ms Post) {x : Int32} {l0 l1 l3 l4 : Option Value} {s0 s1 : Value} {M : mM} {k n : Nat}  (h : RN z 29 [l0, l1, some (.int x), l3, l4] [.int x, s0, s1] M k n) : RN z 28 [l0, l1, some (.int x), l3, l4] [s0, s1] M k n := R_iload_n X.1 d_P_putBack_28 rfl rfl h
theorem i_P_putBack_29 {z : zT} {ws0 : va_W} {mc ms : Nat} {Post : Option Value → mM → Prop} (X : B_P_putBack z ws0 mc ms Post) {a0 a1 : Value} {b : Nat} {mc1 ms1 : Nat} {Po : Option Value → mM → Prop} {fs : List Value} {l0 l1 l2 l3 l4 : Option Value} {M : mM} {k n : Nat} (hM : M b = some (.inr (3, fs))) (hC : Ct (zl z) (zD z) (zty z) y_P_entryAt w_P_entryAt 1 21 mc1 ms1 [.ref b, a0, a1] M Po) (hk : k + mc1 ≤ mc) (hn : n + ms1 ≤ ms) (h : ∀ v M1, Po v M1 → RN z 32 [l0, l1, l2, l3, l4] (v.toList ++ []) M1 (k + mc1) (n + ms1)) : RN z 29 [l0, l1, l2, l3, l4] [a1, a0, .ref b] M k n := R_callV X.1 (av := [a0, a1]) (nA := 2) wd_144 wd_141 wd_143 wd_4 wd_30 (by decide +kernel) rfl (Nat.le_of_ble_eq_true rfl) (Nat.le_of_ble_eq_true rfl) (Nat.le_of_ble_eq_true rfl) d_P_putBack_29 rfl (ci := 3) rfl hM hC (by rw [BM.rc1 X.2]; exact hk) (by rw [BM.rc2 X.2]; exact hn) h
theorem i_P_putBack_32 {z : zT} {ws0 : va_W} {mc ms : Nat} {Post : Option Value → mM → Prop} (X : B_P_putBack z ws0 mc ms Post) {x : Int32} {l0 l1 l2 l3 l4 : Option Value} {M : mM} {k n : Nat}  (h : RN z 34 [l0, l1, l2, l3, some (.int x)] [] M k n) : RN z 32 [l0, l1, l2, l3, l4] [.int x] M k n := R_istore X.1 d_P_putBack_32 (Nat.le_of_ble_eq_true rfl) h
theorem i_P_putBack_34 {z : zT} {ws0 : va_W} {mc ms : Nat} {Post : Option Value → mM → Prop} (X : B_P_putBack z ws0 mc ms Post) {v : Value} {l1 l2 l3 l4 : Option Value} {M : mM} {k n : Nat} (hv : mRf v := by first | exact mRf_r _ | exact mRf_n | exact mRf_rf _ | assumption) (h : RN z 35 [some v, l1, l2, l3, l4] [v] M k n) : RN z 34 [some v, l1, l2, l3, l4] [] M k n := R_aload_n X.1 d_P_putBack_34 rfl rfl hv h
theorem i_P_putBack_35 {z : zT} {ws0 : va_W} {mc ms : Nat} {Post : Option Value → mM → Prop} (X : B_P_putBack z ws0 mc ms Post) {v : Value} {l1 l2 l3 l4 : Option Value} {s0 : Value} {M : mM} {k n : Nat} (hv : mRf v := by first | exact mRf_r _ | exact mRf_n | exact mRf_rf _ | assumption) (h : RN z 36 [some v, l1, l2, l3, l4] [v, s0] M k n) : RN z 35 [some v, l1, l2, l3, l4] [s0] M k n := R_aload_n X.1 d_P_putBack_35 rfl rfl hv h
theorem i_P_putBack_36 {z : zT} {ws0 : va_W} {mc ms : Nat} {Post : Option Value → mM → Prop} (X : B_P_putBack z ws0 mc ms Post) {a : Nat} {f0 f1 f2 f3 f4 f5 f6 f7 f8 f9 f10 : Value} {l0 l1 l2 l3 l4 : Option Value} {s0 : Value} {M : mM} {k n : Nat} (hM : M a = some (.inr (3, [f0, f1, f2, f3, f4, f5, f6, f7, f8, f9, f10]))) (h : RN z 39 [l0, l1, l2, l3, l4] [f4, s0] M k n) : RN z 36 [l0, l1, l2, l3, l4] [.ref a, s0] M k n := R_get X.1 inX3 rfl 4 (Nat.le_of_ble_eq_true rfl) wd_80 d_P_putBack_36 hM rfl h
theorem i_P_putBack_39 {z : zT} {ws0 : va_W} {mc ms : Nat} {Post : Option Value → mM → Prop} (X : B_P_putBack z ws0 mc ms Post) {a0 : Value} {b : Nat} {mc1 ms1 : Nat} {Po : Option Value → mM → Prop} {fs : List Value} {l0 l1 l2 l3 l4 : Option Value} {M : mM} {k n : Nat} (hM : M b = some (.inr (3, fs))) (hC : Ct (zl z) (zD z) (zty z) y_P_findPlaces w_P_findPlaces 1 22 mc1 ms1 [.ref b, a0] M Po) (hk : k + mc1 ≤ mc) (hn : n + ms1 ≤ ms) (h : ∀ v M1, Po v M1 → RN z 42 [l0, l1, l2, l3, l4] (v.toList ++ []) M1 (k + mc1) (n + ms1)) : RN z 39 [l0, l1, l2, l3, l4] [a0, .ref b] M k n := R_callV X.1 (av := [a0]) (nA := 1) wd_132 wd_129 wd_131 wd_2 wd_30 (by decide +kernel) rfl (Nat.le_of_ble_eq_true rfl) (Nat.le_of_ble_eq_true rfl) (Nat.le_of_ble_eq_true rfl) d_P_putBack_39 rfl (ci := 3) rfl hM hC (by rw [BM.rc1 X.2]; exact hk) (by rw [BM.rc2 X.2]; exact hn) h
theorem i_P_putBack_42 {z : zT} {ws0 : va_W} {mc ms : Nat} {Post : Option Value → mM → Prop} (X : B_P_putBack z ws0 mc ms Post) {x : Int32} {l0 l1 l2 l3 : Option Value} {M : mM} {k n : Nat}  (h : RN z 44 [l0, l1, l2, l3, some (.int x)] [.int x] M k n) : RN z 42 [l0, l1, l2, l3, some (.int x)] [] M k n := R_iload X.1 d_P_putBack_42 rfl h
theorem i_P_putBack_44 {z : zT} {ws0 : va_W} {mc ms : Nat} {Post : Option Value → mM → Prop} (X : B_P_putBack z ws0 mc ms Post) {x : Int32} {l0 l1 l2 l3 l4 : Option Value} {M : mM} {k n : Nat}  (h1 : x = 0 → RN z 77 [l0, l1, l2, l3, l4] [] M k n) (h2 : ¬ (x = 0) → RN z 47 [l0, l1, l2, l3, l4] [] M k n) : RN z 44 [l0, l1, l2, l3, l4] [.int x] M k n := R_if_eq X.1 d_P_putBack_44 (by decide) h1 h2
theorem i_P_putBack_47 {z : zT} {ws0 : va_W} {mc ms : Nat} {Post : Option Value → mM → Prop} (X : B_P_putBack z ws0 mc ms Post) {v : Value} {l1 l2 l3 l4 : Option Value} {M : mM} {k n : Nat} (hv : mRf v := by first | exact mRf_r _ | exact mRf_n | exact mRf_rf _ | assumption) (h : RN z 48 [some v, l1, l2, l3, l4] [v] M k n) : RN z 47 [some v, l1, l2, l3, l4] [] M k n := R_aload_n X.1 d_P_putBack_47 rfl rfl hv h
theorem i_P_putBack_48 {z : zT} {ws0 : va_W} {mc ms : Nat} {Post : Option Value → mM → Prop} (X : B_P_putBack z ws0 mc ms Post) {a : Nat} {f0 f1 f2 f3 f4 f5 f6 f7 f8 f9 f10 : Value} {l0 l1 l2 l3 l4 : Option Value} {M : mM} {k n : Nat} (hM : M a = some (.inr (3, [f0, f1, f2, f3, f4, f5, f6, f7, f8, f9, f10]))) (h : RN z 51 [l0, l1, l2, l3, l4] [f3] M k n) : RN z 48 [l0, l1, l2, l3, l4] [.ref a] M k n := R_get X.1 inX3 rfl 3 (Nat.le_of_ble_eq_true rfl) wd_79 d_P_putBack_48 hM rfl h
theorem i_P_putBack_51 {z : zT} {ws0 : va_W} {mc ms : Nat} {Post : Option Value → mM → Prop} (X : B_P_putBack z ws0 mc ms Post) {x : Int32} {l0 l1 l2 l3 : Option Value} {s0 : Value} {M : mM} {k n : Nat}  (h : RN z 53 [l0, l1, l2, l3, some (.int x)] [.int x, s0] M k n) : RN z 51 [l0, l1, l2, l3, some (.int x)] [s0] M k n := R_iload X.1 d_P_putBack_51 rfl h
theorem i_P_putBack_53 {z : zT} {ws0 : va_W} {mc ms : Nat} {Post : Option Value → mM → Prop} (X : B_P_putBack z ws0 mc ms Post) {cI cB cN : ClassId} (G : GT z cI cB cN) {a w j : Nat} {i : Int32} {f : Nat → Int32} {l0 l1 l2 l3 l4 : Option Value} {M : mM} {k n : Nat} (hM : M a = some (.inl (cI, w, .inl f))) (hx : i = nI j) (hj : j < w) (hw : w < 2 ^ 31 := by decide) (h : RN z 54 [l0, l1, l2, l3, l4] [.int (f j)] M k n) : RN z 53 [l0, l1, l2, l3, l4] [.int i, .ref a] M k n := R_iald X.1 0 G.1 d_P_putBack_53 hM (by rw [hx]; exact vp_in_nI hj hw) (by rw [hx, nI_clamp (by omega)]; exact h)
theorem i_P_putBack_54 {z : zT} {ws0 : va_W} {mc ms : Nat} {Post : Option Value → mM → Prop} (X : B_P_putBack z ws0 mc ms Post) {l0 l1 l2 l3 l4 : Option Value} {s0 : Value} {M : mM} {k n : Nat}  (h : RN z 55 [l0, l1, l2, l3, l4] [.int (-1), s0] M k n) : RN z 54 [l0, l1, l2, l3, l4] [s0] M k n := R_iconst X.1 d_P_putBack_54 (by decide) h
theorem i_P_putBack_55 {z : zT} {ws0 : va_W} {mc ms : Nat} {Post : Option Value → mM → Prop} (X : B_P_putBack z ws0 mc ms Post) {x y : Int32} {l0 l1 l2 l3 l4 : Option Value} {M : mM} {k n : Nat}  (h1 : ¬ x = y → RN z 77 [l0, l1, l2, l3, l4] [] M k n) (h2 : x = y → RN z 58 [l0, l1, l2, l3, l4] [] M k n) : RN z 55 [l0, l1, l2, l3, l4] [.int y, .int x] M k n := R_icmp_ne X.1 d_P_putBack_55 (by decide) h1 h2
theorem i_P_putBack_58 {z : zT} {ws0 : va_W} {mc ms : Nat} {Post : Option Value → mM → Prop} (X : B_P_putBack z ws0 mc ms Post) {v : Value} {l1 l2 l3 l4 : Option Value} {M : mM} {k n : Nat} (hv : mRf v := by first | exact mRf_r _ | exact mRf_n | exact mRf_rf _ | assumption) (h : RN z 59 [some v, l1, l2, l3, l4] [v] M k n) : RN z 58 [some v, l1, l2, l3, l4] [] M k n := R_aload_n X.1 d_P_putBack_58 rfl rfl hv h
theorem i_P_putBack_59 {z : zT} {ws0 : va_W} {mc ms : Nat} {Post : Option Value → mM → Prop} (X : B_P_putBack z ws0 mc ms Post) {x : Int32} {l0 l2 l3 l4 : Option Value} {s0 : Value} {M : mM} {k n : Nat}  (h : RN z 60 [l0, some (.int x), l2, l3, l4] [.int x, s0] M k n) : RN z 59 [l0, some (.int x), l2, l3, l4] [s0] M k n := R_iload_n X.1 d_P_putBack_59 rfl rfl h
theorem i_P_putBack_60 {z : zT} {ws0 : va_W} {mc ms : Nat} {Post : Option Value → mM → Prop} (X : B_P_putBack z ws0 mc ms Post) {x : Int32} {l0 l1 l3 l4 : Option Value} {s0 s1 : Value} {M : mM} {k n : Nat}  (h : RN z 61 [l0, l1, some (.int x), l3, l4] [.int x, s0, s1] M k n) : RN z 60 [l0, l1, some (.int x), l3, l4] [s0, s1] M k n := R_iload_n X.1 d_P_putBack_60 rfl rfl h
theorem i_P_putBack_61 {z : zT} {ws0 : va_W} {mc ms : Nat} {Post : Option Value → mM → Prop} (X : B_P_putBack z ws0 mc ms Post) {a0 a1 : Value} {b : Nat} {mc1 ms1 : Nat} {Po : Option Value → mM → Prop} {fs : List Value} {l0 l1 l2 l3 l4 : Option Value} {M : mM} {k n : Nat} (hM : M b = some (.inr (3, fs))) (hC : Ct (zl z) (zD z) (zty z) y_P_hasRoomFor w_P_hasRoomFor 2 45 mc1 ms1 [.ref b, a0, a1] M Po) (hk : k + mc1 ≤ mc) (hn : n + ms1 ≤ ms) (h : ∀ v M1, Po v M1 → RN z 64 [l0, l1, l2, l3, l4] (v.toList ++ []) M1 (k + mc1) (n + ms1)) : RN z 61 [l0, l1, l2, l3, l4] [a1, a0, .ref b] M k n := R_callV X.1 (av := [a0, a1]) (nA := 2) wd_140 wd_137 wd_139 wd_3 wd_30 (by decide +kernel) rfl (Nat.le_of_ble_eq_true rfl) (Nat.le_of_ble_eq_true rfl) (Nat.le_of_ble_eq_true rfl) d_P_putBack_61 rfl (ci := 3) rfl hM hC (by rw [BM.rc1 X.2]; exact hk) (by rw [BM.rc2 X.2]; exact hn) h
theorem i_P_putBack_64 {z : zT} {ws0 : va_W} {mc ms : Nat} {Post : Option Value → mM → Prop} (X : B_P_putBack z ws0 mc ms Post) {x : Int32} {l0 l1 l2 l3 l4 : Option Value} {M : mM} {k n : Nat}  (h1 : x = 0 → RN z 77 [l0, l1, l2, l3, l4] [] M k n) (h2 : ¬ (x = 0) → RN z 67 [l0, l1, l2, l3, l4] [] M k n) : RN z 64 [l0, l1, l2, l3, l4] [.int x] M k n := R_if_eq X.1 d_P_putBack_64 (by decide) h1 h2
theorem i_P_putBack_67 {z : zT} {ws0 : va_W} {mc ms : Nat} {Post : Option Value → mM → Prop} (X : B_P_putBack z ws0 mc ms Post) {v : Value} {l1 l2 l3 l4 : Option Value} {M : mM} {k n : Nat} (hv : mRf v := by first | exact mRf_r _ | exact mRf_n | exact mRf_rf _ | assumption) (h : RN z 68 [some v, l1, l2, l3, l4] [v] M k n) : RN z 67 [some v, l1, l2, l3, l4] [] M k n := R_aload_n X.1 d_P_putBack_67 rfl rfl hv h
theorem i_P_putBack_68 {z : zT} {ws0 : va_W} {mc ms : Nat} {Post : Option Value → mM → Prop} (X : B_P_putBack z ws0 mc ms Post) {x : Int32} {l0 l2 l3 l4 : Option Value} {s0 : Value} {M : mM} {k n : Nat}  (h : RN z 69 [l0, some (.int x), l2, l3, l4] [.int x, s0] M k n) : RN z 68 [l0, some (.int x), l2, l3, l4] [s0] M k n := R_iload_n X.1 d_P_putBack_68 rfl rfl h
theorem i_P_putBack_69 {z : zT} {ws0 : va_W} {mc ms : Nat} {Post : Option Value → mM → Prop} (X : B_P_putBack z ws0 mc ms Post) {x : Int32} {l0 l1 l2 l3 : Option Value} {s0 s1 : Value} {M : mM} {k n : Nat}  (h : RN z 71 [l0, l1, l2, l3, some (.int x)] [.int x, s0, s1] M k n) : RN z 69 [l0, l1, l2, l3, some (.int x)] [s0, s1] M k n := R_iload X.1 d_P_putBack_69 rfl h
theorem i_P_putBack_71 {z : zT} {ws0 : va_W} {mc ms : Nat} {Post : Option Value → mM → Prop} (X : B_P_putBack z ws0 mc ms Post) {a0 a1 : Value} {b : Nat} {mc1 ms1 : Nat} {Po : Option Value → mM → Prop} {fs : List Value} {l0 l1 l2 l3 l4 : Option Value} {M : mM} {k n : Nat} (hM : M b = some (.inr (3, fs))) (hC : Ct (zl z) (zD z) (zty z) y_P_isWithin w_P_isWithin 0 0 mc1 ms1 [.ref b, a0, a1] M Po) (hk : k + mc1 ≤ mc) (hn : n + ms1 ≤ ms) (h : ∀ v M1, Po v M1 → RN z 74 [l0, l1, l2, l3, l4] (v.toList ++ []) M1 (k + mc1) (n + ms1)) : RN z 71 [l0, l1, l2, l3, l4] [a1, a0, .ref b] M k n := R_callV X.1 (av := [a0, a1]) (nA := 2) wd_221 wd_218 wd_220 wd_9 wd_30 (by decide +kernel) rfl (Nat.le_of_ble_eq_true rfl) (Nat.le_of_ble_eq_true rfl) (Nat.le_of_ble_eq_true rfl) d_P_putBack_71 rfl (ci := 3) rfl hM hC (by rw [BM.rc1 X.2]; exact hk) (by rw [BM.rc2 X.2]; exact hn) h
theorem i_P_putBack_74 {z : zT} {ws0 : va_W} {mc ms : Nat} {Post : Option Value → mM → Prop} (X : B_P_putBack z ws0 mc ms Post) {x : Int32} {l0 l1 l2 l3 l4 : Option Value} {M : mM} {k n : Nat}  (h1 : x = 0 → RN z 79 [l0, l1, l2, l3, l4] [] M k n) (h2 : ¬ (x = 0) → RN z 77 [l0, l1, l2, l3, l4] [] M k n) : RN z 74 [l0, l1, l2, l3, l4] [.int x] M k n := R_if_eq X.1 d_P_putBack_74 (by decide) h1 h2
theorem i_P_putBack_77 {z : zT} {ws0 : va_W} {mc ms : Nat} {Post : Option Value → mM → Prop} (X : B_P_putBack z ws0 mc ms Post) {l0 l1 l2 l3 l4 : Option Value} {M : mM} {k n : Nat}  (h : RN z 78 [l0, l1, l2, l3, l4] [.int (-1)] M k n) : RN z 77 [l0, l1, l2, l3, l4] [] M k n := R_iconst X.1 d_P_putBack_77 (by decide) h
theorem i_P_putBack_78 {z : zT} {ws0 : va_W} {mc ms : Nat} {Post : Option Value → mM → Prop} (X : B_P_putBack z ws0 mc ms Post) {x : Int32} {l0 l1 l2 l3 l4 : Option Value} {M : mM} {k n : Nat} (hk : k ≤ mc) (hn : n ≤ ms) (hp : Post (some (.int x)) M) : RN z 78 [l0, l1, l2, l3, l4] [.int x] M k n := R_iret X.1 X.2 d_P_putBack_78 hk hn hp
theorem i_P_putBack_79 {z : zT} {ws0 : va_W} {mc ms : Nat} {Post : Option Value → mM → Prop} (X : B_P_putBack z ws0 mc ms Post) {v : Value} {l1 l2 l3 l4 : Option Value} {M : mM} {k n : Nat} (hv : mRf v := by first | exact mRf_r _ | exact mRf_n | exact mRf_rf _ | assumption) (h : RN z 80 [some v, l1, l2, l3, l4] [v] M k n) : RN z 79 [some v, l1, l2, l3, l4] [] M k n := R_aload_n X.1 d_P_putBack_79 rfl rfl hv h
theorem i_P_putBack_80 {z : zT} {ws0 : va_W} {mc ms : Nat} {Post : Option Value → mM → Prop} (X : B_P_putBack z ws0 mc ms Post) {b : Nat} {mc1 ms1 : Nat} {Po : Option Value → mM → Prop} {fs : List Value} {l0 l1 l2 l3 l4 : Option Value} {M : mM} {k n : Nat} (hM : M b = some (.inr (3, fs))) (hC : Ct (zl z) (zD z) (zty z) y_P_isUsedUp w_P_isUsedUp 0 0 mc1 ms1 [.ref b] M Po) (hk : k + mc1 ≤ mc) (hn : n + ms1 ≤ ms) (h : ∀ v M1, Po v M1 → RN z 83 [l0, l1, l2, l3, l4] (v.toList ++ []) M1 (k + mc1) (n + ms1)) : RN z 80 [l0, l1, l2, l3, l4] [.ref b] M k n := R_callV X.1 (av := []) (nA := 0) wd_151 wd_148 wd_150 wd_5 wd_30 (by decide +kernel) rfl (Nat.le_of_ble_eq_true rfl) (Nat.le_of_ble_eq_true rfl) (Nat.le_of_ble_eq_true rfl) d_P_putBack_80 rfl (ci := 3) rfl hM hC (by rw [BM.rc1 X.2]; exact hk) (by rw [BM.rc2 X.2]; exact hn) h
theorem i_P_putBack_83 {z : zT} {ws0 : va_W} {mc ms : Nat} {Post : Option Value → mM → Prop} (X : B_P_putBack z ws0 mc ms Post) {x : Int32} {l0 l1 l2 l3 l4 : Option Value} {M : mM} {k n : Nat}  (h1 : x = 0 → RN z 89 [l0, l1, l2, l3, l4] [] M k n) (h2 : ¬ (x = 0) → RN z 86 [l0, l1, l2, l3, l4] [] M k n) : RN z 83 [l0, l1, l2, l3, l4] [.int x] M k n := R_if_eq X.1 d_P_putBack_83 (by decide) h1 h2
theorem i_P_putBack_86 {z : zT} {ws0 : va_W} {mc ms : Nat} {Post : Option Value → mM → Prop} (X : B_P_putBack z ws0 mc ms Post) {l0 l1 l2 l3 l4 : Option Value} {M : mM} {k n : Nat}  (h : RN z 88 [l0, l1, l2, l3, l4] [.int (-2)] M k n) : RN z 86 [l0, l1, l2, l3, l4] [] M k n := R_bipush X.1 d_P_putBack_86 (by decide) h
theorem i_P_putBack_88 {z : zT} {ws0 : va_W} {mc ms : Nat} {Post : Option Value → mM → Prop} (X : B_P_putBack z ws0 mc ms Post) {x : Int32} {l0 l1 l2 l3 l4 : Option Value} {M : mM} {k n : Nat} (hk : k ≤ mc) (hn : n ≤ ms) (hp : Post (some (.int x)) M) : RN z 88 [l0, l1, l2, l3, l4] [.int x] M k n := R_iret X.1 X.2 d_P_putBack_88 hk hn hp
theorem i_P_putBack_89 {z : zT} {ws0 : va_W} {mc ms : Nat} {Post : Option Value → mM → Prop} (X : B_P_putBack z ws0 mc ms Post) {v : Value} {l1 l2 l3 l4 : Option Value} {M : mM} {k n : Nat} (hv : mRf v := by first | exact mRf_r _ | exact mRf_n | exact mRf_rf _ | assumption) (h : RN z 90 [some v, l1, l2, l3, l4] [v] M k n) : RN z 89 [some v, l1, l2, l3, l4] [] M k n := R_aload_n X.1 d_P_putBack_89 rfl rfl hv h
theorem i_P_putBack_90 {z : zT} {ws0 : va_W} {mc ms : Nat} {Post : Option Value → mM → Prop} (X : B_P_putBack z ws0 mc ms Post) {x : Int32} {l0 l1 l2 l3 : Option Value} {s0 : Value} {M : mM} {k n : Nat}  (h : RN z 92 [l0, l1, l2, l3, some (.int x)] [.int x, s0] M k n) : RN z 90 [l0, l1, l2, l3, some (.int x)] [s0] M k n := R_iload X.1 d_P_putBack_90 rfl h
theorem i_P_putBack_92 {z : zT} {ws0 : va_W} {mc ms : Nat} {Post : Option Value → mM → Prop} (X : B_P_putBack z ws0 mc ms Post) {x : Int32} {l0 l2 l3 l4 : Option Value} {s0 s1 : Value} {M : mM} {k n : Nat}  (h : RN z 93 [l0, some (.int x), l2, l3, l4] [.int x, s0, s1] M k n) : RN z 92 [l0, some (.int x), l2, l3, l4] [s0, s1] M k n := R_iload_n X.1 d_P_putBack_92 rfl rfl h
theorem i_P_putBack_93 {z : zT} {ws0 : va_W} {mc ms : Nat} {Post : Option Value → mM → Prop} (X : B_P_putBack z ws0 mc ms Post) {x : Int32} {l0 l1 l3 l4 : Option Value} {s0 s1 s2 : Value} {M : mM} {k n : Nat}  (h : RN z 94 [l0, l1, some (.int x), l3, l4] [.int x, s0, s1, s2] M k n) : RN z 93 [l0, l1, some (.int x), l3, l4] [s0, s1, s2] M k n := R_iload_n X.1 d_P_putBack_93 rfl rfl h
theorem i_P_putBack_94 {z : zT} {ws0 : va_W} {mc ms : Nat} {Post : Option Value → mM → Prop} (X : B_P_putBack z ws0 mc ms Post) {a0 a1 : Value} {mc1 ms1 : Nat} {Po : Option Value → mM → Prop} {l0 l1 l2 l3 l4 : Option Value} {s0 s1 : Value} {M : mM} {k n : Nat} (hC : Ct (zl z) (zD z) (zty z) y_P_placeOf w_P_placeOf 0 0 mc1 ms1 [a0, a1] M Po) (hk : k + mc1 ≤ mc) (hn : n + ms1 ≤ ms) (h : ∀ v M1, Po v M1 → RN z 97 [l0, l1, l2, l3, l4] (v.toList ++ [s0, s1]) M1 (k + mc1) (n + ms1)) : RN z 94 [l0, l1, l2, l3, l4] [a1, a0, s0, s1] M k n := R_callS X.1 (av := [a0, a1]) (nA := 2) wd_147 wd_145 wd_146 wd_30 (by decide +kernel) rfl (Nat.le_of_ble_eq_true rfl) (Nat.le_of_ble_eq_true rfl) (Nat.le_of_ble_eq_true rfl) d_P_putBack_94 rfl hC (by rw [BM.rc1 X.2]; exact hk) (by rw [BM.rc2 X.2]; exact hn) h
theorem i_P_putBack_97 {z : zT} {ws0 : va_W} {mc ms : Nat} {Post : Option Value → mM → Prop} (X : B_P_putBack z ws0 mc ms Post) {a0 a1 : Value} {b : Nat} {mc1 ms1 : Nat} {Po : Option Value → mM → Prop} {fs : List Value} {l0 l1 l2 l3 l4 : Option Value} {M : mM} {k n : Nat} (hM : M b = some (.inr (3, fs))) (hC : Ct (zl z) (zD z) (zty z) y_P_place w_P_place 2 35 mc1 ms1 [.ref b, a0, a1] M Po) (hk : k + mc1 ≤ mc) (hn : n + ms1 ≤ ms) (h : ∀ v M1, Po v M1 → RN z 100 [l0, l1, l2, l3, l4] (v.toList ++ []) M1 (k + mc1) (n + ms1)) : RN z 97 [l0, l1, l2, l3, l4] [a1, a0, .ref b] M k n := R_callV X.1 (av := [a0, a1]) (nA := 2) wd_182 wd_179 wd_181 wd_6 wd_30 (by decide +kernel) rfl (Nat.le_of_ble_eq_true rfl) (Nat.le_of_ble_eq_true rfl) (Nat.le_of_ble_eq_true rfl) d_P_putBack_97 rfl (ci := 3) rfl hM hC (by rw [BM.rc1 X.2]; exact hk) (by rw [BM.rc2 X.2]; exact hn) h
theorem i_P_putBack_100 {z : zT} {ws0 : va_W} {mc ms : Nat} {Post : Option Value → mM → Prop} (X : B_P_putBack z ws0 mc ms Post) {x : Int32} {l0 l1 l2 l3 : Option Value} {M : mM} {k n : Nat}  (h : RN z 102 [l0, l1, l2, l3, some (.int x)] [.int x] M k n) : RN z 100 [l0, l1, l2, l3, some (.int x)] [] M k n := R_iload X.1 d_P_putBack_100 rfl h
theorem i_P_putBack_102 {z : zT} {ws0 : va_W} {mc ms : Nat} {Post : Option Value → mM → Prop} (X : B_P_putBack z ws0 mc ms Post) {x : Int32} {l0 l1 l2 l3 l4 : Option Value} {M : mM} {k n : Nat} (hk : k ≤ mc) (hn : n ≤ ms) (hp : Post (some (.int x)) M) : RN z 102 [l0, l1, l2, l3, l4] [.int x] M k n := R_iret X.1 X.2 d_P_putBack_102 hk hn hp
end
section
theorem d_P_look_0 : decode c_P_look 0 = .ok (.iload_n 1, 1) := by decide +kernel
theorem d_P_look_1 : decode c_P_look 1 = .ok (.ifCond .lt 18, 3) := by decide +kernel
theorem d_P_look_4 : decode c_P_look 4 = .ok (.aload_n 0, 1) := by decide +kernel
theorem d_P_look_5 : decode c_P_look 5 = .ok (.iload_n 2, 1) := by decide +kernel
theorem d_P_look_6 : decode c_P_look 6 = .ok (.invokevirtual 52, 3) := by decide +kernel
theorem d_P_look_9 : decode c_P_look 9 = .ok (.ifCond .eq 10, 3) := by decide +kernel
theorem d_P_look_12 : decode c_P_look 12 = .ok (.iload_n 3, 1) := by decide +kernel
theorem d_P_look_13 : decode c_P_look 13 = .ok (.invokestatic 56, 3) := by decide +kernel
theorem d_P_look_16 : decode c_P_look 16 = .ok (.ifCond .ne 5, 3) := by decide +kernel
theorem d_P_look_19 : decode c_P_look 19 = .ok (.iconst (-1), 1) := by decide +kernel
theorem d_P_look_20 : decode c_P_look 20 = .ok (.ireturn, 1) := by decide +kernel
theorem d_P_look_21 : decode c_P_look 21 = .ok (.aload_n 0, 1) := by decide +kernel
theorem d_P_look_22 : decode c_P_look 22 = .ok (.iload_n 1, 1) := by decide +kernel
theorem d_P_look_23 : decode c_P_look 23 = .ok (.invokevirtual 59, 3) := by decide +kernel
theorem d_P_look_26 : decode c_P_look 26 = .ok (.aload_n 0, 1) := by decide +kernel
theorem d_P_look_27 : decode c_P_look 27 = .ok (.iload_n 2, 1) := by decide +kernel
theorem d_P_look_28 : decode c_P_look 28 = .ok (.iload_n 3, 1) := by decide +kernel
theorem d_P_look_29 : decode c_P_look 29 = .ok (.invokevirtual 88, 3) := by decide +kernel
theorem d_P_look_32 : decode c_P_look 32 = .ok (.ireturn, 1) := by decide +kernel
abbrev B_P_look (z : zT) (ws0 : va_W) (mc ms : Nat) (Post : Option Value → mM → Prop) : Prop := BX z c_P_look 4 y_P_look.cls y_P_look.name 2 45 ∧ BQ z (some (.int)) ws0 mc ms Post
abbrev Ct_P_look (l : Launch) (D : va_G) (tys : List (ClassId × FieldType)) (mc ms : Nat) (av : List Value) (M : mM) (Post : Option Value → mM → Prop) : Prop := Ct l D tys y_P_look w_P_look 2 45 mc ms av M Post
theorem i_P_look_0 {z : zT} {ws0 : va_W} {mc ms : Nat} {Post : Option Value → mM → Prop} (X : B_P_look z ws0 mc ms Post) {x : Int32} {l0 l2 l3 : Option Value} {M : mM} {k n : Nat}  (h : RN z 1 [l0, some (.int x), l2, l3] [.int x] M k n) : RN z 0 [l0, some (.int x), l2, l3] [] M k n := R_iload_n X.1 d_P_look_0 rfl rfl h
theorem i_P_look_1 {z : zT} {ws0 : va_W} {mc ms : Nat} {Post : Option Value → mM → Prop} (X : B_P_look z ws0 mc ms Post) {x : Int32} {l0 l1 l2 l3 : Option Value} {M : mM} {k n : Nat}  (h1 : x < 0 → RN z 19 [l0, l1, l2, l3] [] M k n) (h2 : ¬ (x < 0) → RN z 4 [l0, l1, l2, l3] [] M k n) : RN z 1 [l0, l1, l2, l3] [.int x] M k n := R_if_lt X.1 d_P_look_1 (by decide) h1 h2
theorem i_P_look_4 {z : zT} {ws0 : va_W} {mc ms : Nat} {Post : Option Value → mM → Prop} (X : B_P_look z ws0 mc ms Post) {v : Value} {l1 l2 l3 : Option Value} {M : mM} {k n : Nat} (hv : mRf v := by first | exact mRf_r _ | exact mRf_n | exact mRf_rf _ | assumption) (h : RN z 5 [some v, l1, l2, l3] [v] M k n) : RN z 4 [some v, l1, l2, l3] [] M k n := R_aload_n X.1 d_P_look_4 rfl rfl hv h
theorem i_P_look_5 {z : zT} {ws0 : va_W} {mc ms : Nat} {Post : Option Value → mM → Prop} (X : B_P_look z ws0 mc ms Post) {x : Int32} {l0 l1 l3 : Option Value} {s0 : Value} {M : mM} {k n : Nat}  (h : RN z 6 [l0, l1, some (.int x), l3] [.int x, s0] M k n) : RN z 5 [l0, l1, some (.int x), l3] [s0] M k n := R_iload_n X.1 d_P_look_5 rfl rfl h
theorem i_P_look_6 {z : zT} {ws0 : va_W} {mc ms : Nat} {Post : Option Value → mM → Prop} (X : B_P_look z ws0 mc ms Post) {a0 : Value} {b : Nat} {mc1 ms1 : Nat} {Po : Option Value → mM → Prop} {fs : List Value} {l0 l1 l2 l3 : Option Value} {M : mM} {k n : Nat} (hM : M b = some (.inr (3, fs))) (hC : Ct (zl z) (zD z) (zty z) y_P_isMadeFolder w_P_isMadeFolder 1 21 mc1 ms1 [.ref b, a0] M Po) (hk : k + mc1 ≤ mc) (hn : n + ms1 ≤ ms) (h : ∀ v M1, Po v M1 → RN z 9 [l0, l1, l2, l3] (v.toList ++ []) M1 (k + mc1) (n + ms1)) : RN z 6 [l0, l1, l2, l3] [a0, .ref b] M k n := R_callV X.1 (av := [a0]) (nA := 1) wd_121 wd_118 wd_120 wd_0 wd_30 (by decide +kernel) rfl (Nat.le_of_ble_eq_true rfl) (Nat.le_of_ble_eq_true rfl) (Nat.le_of_ble_eq_true rfl) d_P_look_6 rfl (ci := 3) rfl hM hC (by rw [BM.rc1 X.2]; exact hk) (by rw [BM.rc2 X.2]; exact hn) h
theorem i_P_look_9 {z : zT} {ws0 : va_W} {mc ms : Nat} {Post : Option Value → mM → Prop} (X : B_P_look z ws0 mc ms Post) {x : Int32} {l0 l1 l2 l3 : Option Value} {M : mM} {k n : Nat}  (h1 : x = 0 → RN z 19 [l0, l1, l2, l3] [] M k n) (h2 : ¬ (x = 0) → RN z 12 [l0, l1, l2, l3] [] M k n) : RN z 9 [l0, l1, l2, l3] [.int x] M k n := R_if_eq X.1 d_P_look_9 (by decide) h1 h2
theorem i_P_look_12 {z : zT} {ws0 : va_W} {mc ms : Nat} {Post : Option Value → mM → Prop} (X : B_P_look z ws0 mc ms Post) {x : Int32} {l0 l1 l2 : Option Value} {M : mM} {k n : Nat}  (h : RN z 13 [l0, l1, l2, some (.int x)] [.int x] M k n) : RN z 12 [l0, l1, l2, some (.int x)] [] M k n := R_iload_n X.1 d_P_look_12 rfl rfl h
theorem i_P_look_13 {z : zT} {ws0 : va_W} {mc ms : Nat} {Post : Option Value → mM → Prop} (X : B_P_look z ws0 mc ms Post) {a0 : Value} {mc1 ms1 : Nat} {Po : Option Value → mM → Prop} {l0 l1 l2 l3 : Option Value} {M : mM} {k n : Nat} (hC : Ct (zl z) (zD z) (zty z) y_P_isName w_P_isName 0 0 mc1 ms1 [a0] M Po) (hk : k + mc1 ≤ mc) (hn : n + ms1 ≤ ms) (h : ∀ v M1, Po v M1 → RN z 16 [l0, l1, l2, l3] (v.toList ++ []) M1 (k + mc1) (n + ms1)) : RN z 13 [l0, l1, l2, l3] [a0] M k n := R_callS X.1 (av := [a0]) (nA := 1) wd_128 wd_126 wd_127 wd_30 (by decide +kernel) rfl (Nat.le_of_ble_eq_true rfl) (Nat.le_of_ble_eq_true rfl) (Nat.le_of_ble_eq_true rfl) d_P_look_13 rfl hC (by rw [BM.rc1 X.2]; exact hk) (by rw [BM.rc2 X.2]; exact hn) h
theorem i_P_look_16 {z : zT} {ws0 : va_W} {mc ms : Nat} {Post : Option Value → mM → Prop} (X : B_P_look z ws0 mc ms Post) {x : Int32} {l0 l1 l2 l3 : Option Value} {M : mM} {k n : Nat}  (h1 : ¬ x = 0 → RN z 21 [l0, l1, l2, l3] [] M k n) (h2 : x = 0 → RN z 19 [l0, l1, l2, l3] [] M k n) : RN z 16 [l0, l1, l2, l3] [.int x] M k n := R_if_ne X.1 d_P_look_16 (by decide) h1 h2
theorem i_P_look_19 {z : zT} {ws0 : va_W} {mc ms : Nat} {Post : Option Value → mM → Prop} (X : B_P_look z ws0 mc ms Post) {l0 l1 l2 l3 : Option Value} {M : mM} {k n : Nat}  (h : RN z 20 [l0, l1, l2, l3] [.int (-1)] M k n) : RN z 19 [l0, l1, l2, l3] [] M k n := R_iconst X.1 d_P_look_19 (by decide) h
theorem i_P_look_20 {z : zT} {ws0 : va_W} {mc ms : Nat} {Post : Option Value → mM → Prop} (X : B_P_look z ws0 mc ms Post) {x : Int32} {l0 l1 l2 l3 : Option Value} {M : mM} {k n : Nat} (hk : k ≤ mc) (hn : n ≤ ms) (hp : Post (some (.int x)) M) : RN z 20 [l0, l1, l2, l3] [.int x] M k n := R_iret X.1 X.2 d_P_look_20 hk hn hp
theorem i_P_look_21 {z : zT} {ws0 : va_W} {mc ms : Nat} {Post : Option Value → mM → Prop} (X : B_P_look z ws0 mc ms Post) {v : Value} {l1 l2 l3 : Option Value} {M : mM} {k n : Nat} (hv : mRf v := by first | exact mRf_r _ | exact mRf_n | exact mRf_rf _ | assumption) (h : RN z 22 [some v, l1, l2, l3] [v] M k n) : RN z 21 [some v, l1, l2, l3] [] M k n := R_aload_n X.1 d_P_look_21 rfl rfl hv h
theorem i_P_look_22 {z : zT} {ws0 : va_W} {mc ms : Nat} {Post : Option Value → mM → Prop} (X : B_P_look z ws0 mc ms Post) {x : Int32} {l0 l2 l3 : Option Value} {s0 : Value} {M : mM} {k n : Nat}  (h : RN z 23 [l0, some (.int x), l2, l3] [.int x, s0] M k n) : RN z 22 [l0, some (.int x), l2, l3] [s0] M k n := R_iload_n X.1 d_P_look_22 rfl rfl h
theorem i_P_look_23 {z : zT} {ws0 : va_W} {mc ms : Nat} {Post : Option Value → mM → Prop} (X : B_P_look z ws0 mc ms Post) {a0 : Value} {b : Nat} {mc1 ms1 : Nat} {Po : Option Value → mM → Prop} {fs : List Value} {l0 l1 l2 l3 : Option Value} {M : mM} {k n : Nat} (hM : M b = some (.inr (3, fs))) (hC : Ct (zl z) (zD z) (zty z) y_P_findPlaces w_P_findPlaces 1 22 mc1 ms1 [.ref b, a0] M Po) (hk : k + mc1 ≤ mc) (hn : n + ms1 ≤ ms) (h : ∀ v M1, Po v M1 → RN z 26 [l0, l1, l2, l3] (v.toList ++ []) M1 (k + mc1) (n + ms1)) : RN z 23 [l0, l1, l2, l3] [a0, .ref b] M k n := R_callV X.1 (av := [a0]) (nA := 1) wd_132 wd_129 wd_131 wd_2 wd_30 (by decide +kernel) rfl (Nat.le_of_ble_eq_true rfl) (Nat.le_of_ble_eq_true rfl) (Nat.le_of_ble_eq_true rfl) d_P_look_23 rfl (ci := 3) rfl hM hC (by rw [BM.rc1 X.2]; exact hk) (by rw [BM.rc2 X.2]; exact hn) h
theorem i_P_look_26 {z : zT} {ws0 : va_W} {mc ms : Nat} {Post : Option Value → mM → Prop} (X : B_P_look z ws0 mc ms Post) {v : Value} {l1 l2 l3 : Option Value} {M : mM} {k n : Nat} (hv : mRf v := by first | exact mRf_r _ | exact mRf_n | exact mRf_rf _ | assumption) (h : RN z 27 [some v, l1, l2, l3] [v] M k n) : RN z 26 [some v, l1, l2, l3] [] M k n := R_aload_n X.1 d_P_look_26 rfl rfl hv h
theorem i_P_look_27 {z : zT} {ws0 : va_W} {mc ms : Nat} {Post : Option Value → mM → Prop} (X : B_P_look z ws0 mc ms Post) {x : Int32} {l0 l1 l3 : Option Value} {s0 : Value} {M : mM} {k n : Nat}  (h : RN z 28 [l0, l1, some (.int x), l3] [.int x, s0] M k n) : RN z 27 [l0, l1, some (.int x), l3] [s0] M k n := R_iload_n X.1 d_P_look_27 rfl rfl h
theorem i_P_look_28 {z : zT} {ws0 : va_W} {mc ms : Nat} {Post : Option Value → mM → Prop} (X : B_P_look z ws0 mc ms Post) {x : Int32} {l0 l1 l2 : Option Value} {s0 s1 : Value} {M : mM} {k n : Nat}  (h : RN z 29 [l0, l1, l2, some (.int x)] [.int x, s0, s1] M k n) : RN z 28 [l0, l1, l2, some (.int x)] [s0, s1] M k n := R_iload_n X.1 d_P_look_28 rfl rfl h
theorem i_P_look_29 {z : zT} {ws0 : va_W} {mc ms : Nat} {Post : Option Value → mM → Prop} (X : B_P_look z ws0 mc ms Post) {a0 a1 : Value} {b : Nat} {mc1 ms1 : Nat} {Po : Option Value → mM → Prop} {fs : List Value} {l0 l1 l2 l3 : Option Value} {M : mM} {k n : Nat} (hM : M b = some (.inr (3, fs))) (hC : Ct (zl z) (zD z) (zty z) y_P_entryAt w_P_entryAt 1 21 mc1 ms1 [.ref b, a0, a1] M Po) (hk : k + mc1 ≤ mc) (hn : n + ms1 ≤ ms) (h : ∀ v M1, Po v M1 → RN z 32 [l0, l1, l2, l3] (v.toList ++ []) M1 (k + mc1) (n + ms1)) : RN z 29 [l0, l1, l2, l3] [a1, a0, .ref b] M k n := R_callV X.1 (av := [a0, a1]) (nA := 2) wd_144 wd_141 wd_143 wd_4 wd_30 (by decide +kernel) rfl (Nat.le_of_ble_eq_true rfl) (Nat.le_of_ble_eq_true rfl) (Nat.le_of_ble_eq_true rfl) d_P_look_29 rfl (ci := 3) rfl hM hC (by rw [BM.rc1 X.2]; exact hk) (by rw [BM.rc2 X.2]; exact hn) h
theorem i_P_look_32 {z : zT} {ws0 : va_W} {mc ms : Nat} {Post : Option Value → mM → Prop} (X : B_P_look z ws0 mc ms Post) {x : Int32} {l0 l1 l2 l3 : Option Value} {M : mM} {k n : Nat} (hk : k ≤ mc) (hn : n ≤ ms) (hp : Post (some (.int x)) M) : RN z 32 [l0, l1, l2, l3] [.int x] M k n := R_iret X.1 X.2 d_P_look_32 hk hn hp
theorem d_P_next_0 : decode c_P_next 0 = .ok (.iload_n 1, 1) := by decide +kernel
theorem d_P_next_1 : decode c_P_next 1 = .ok (.ifCond .lt 18, 3) := by decide +kernel
theorem d_P_next_4 : decode c_P_next 4 = .ok (.aload_n 0, 1) := by decide +kernel
theorem d_P_next_5 : decode c_P_next 5 = .ok (.iload_n 2, 1) := by decide +kernel
theorem d_P_next_6 : decode c_P_next 6 = .ok (.invokevirtual 52, 3) := by decide +kernel
theorem d_P_next_9 : decode c_P_next 9 = .ok (.ifCond .eq 10, 3) := by decide +kernel
theorem d_P_next_12 : decode c_P_next 12 = .ok (.iload_n 3, 1) := by decide +kernel
theorem d_P_next_13 : decode c_P_next 13 = .ok (.invokestatic 56, 3) := by decide +kernel
theorem d_P_next_16 : decode c_P_next 16 = .ok (.ifCond .ne 5, 3) := by decide +kernel
theorem d_P_next_19 : decode c_P_next 19 = .ok (.iconst (-1), 1) := by decide +kernel
theorem d_P_next_20 : decode c_P_next 20 = .ok (.ireturn, 1) := by decide +kernel
theorem d_P_next_21 : decode c_P_next 21 = .ok (.aload_n 0, 1) := by decide +kernel
theorem d_P_next_22 : decode c_P_next 22 = .ok (.iload_n 1, 1) := by decide +kernel
theorem d_P_next_23 : decode c_P_next 23 = .ok (.invokevirtual 59, 3) := by decide +kernel
theorem d_P_next_26 : decode c_P_next 26 = .ok (.aload_n 0, 1) := by decide +kernel
theorem d_P_next_27 : decode c_P_next 27 = .ok (.iload_n 2, 1) := by decide +kernel
theorem d_P_next_28 : decode c_P_next 28 = .ok (.iload_n 3, 1) := by decide +kernel
theorem d_P_next_29 : decode c_P_next 29 = .ok (.invokevirtual 91, 3) := by decide +kernel
theorem d_P_next_32 : decode c_P_next 32 = .ok (.ireturn, 1) := by decide +kernel
abbrev B_P_next (z : zT) (ws0 : va_W) (mc ms : Nat) (Post : Option Value → mM → Prop) : Prop := BX z c_P_next 4 y_P_next.cls y_P_next.name 3 68 ∧ BQ z (some (.int)) ws0 mc ms Post
abbrev Ct_P_next (l : Launch) (D : va_G) (tys : List (ClassId × FieldType)) (mc ms : Nat) (av : List Value) (M : mM) (Post : Option Value → mM → Prop) : Prop := Ct l D tys y_P_next w_P_next 3 68 mc ms av M Post
theorem i_P_next_0 {z : zT} {ws0 : va_W} {mc ms : Nat} {Post : Option Value → mM → Prop} (X : B_P_next z ws0 mc ms Post) {x : Int32} {l0 l2 l3 : Option Value} {M : mM} {k n : Nat}  (h : RN z 1 [l0, some (.int x), l2, l3] [.int x] M k n) : RN z 0 [l0, some (.int x), l2, l3] [] M k n := R_iload_n X.1 d_P_next_0 rfl rfl h
theorem i_P_next_1 {z : zT} {ws0 : va_W} {mc ms : Nat} {Post : Option Value → mM → Prop} (X : B_P_next z ws0 mc ms Post) {x : Int32} {l0 l1 l2 l3 : Option Value} {M : mM} {k n : Nat}  (h1 : x < 0 → RN z 19 [l0, l1, l2, l3] [] M k n) (h2 : ¬ (x < 0) → RN z 4 [l0, l1, l2, l3] [] M k n) : RN z 1 [l0, l1, l2, l3] [.int x] M k n := R_if_lt X.1 d_P_next_1 (by decide) h1 h2
theorem i_P_next_4 {z : zT} {ws0 : va_W} {mc ms : Nat} {Post : Option Value → mM → Prop} (X : B_P_next z ws0 mc ms Post) {v : Value} {l1 l2 l3 : Option Value} {M : mM} {k n : Nat} (hv : mRf v := by first | exact mRf_r _ | exact mRf_n | exact mRf_rf _ | assumption) (h : RN z 5 [some v, l1, l2, l3] [v] M k n) : RN z 4 [some v, l1, l2, l3] [] M k n := R_aload_n X.1 d_P_next_4 rfl rfl hv h
theorem i_P_next_5 {z : zT} {ws0 : va_W} {mc ms : Nat} {Post : Option Value → mM → Prop} (X : B_P_next z ws0 mc ms Post) {x : Int32} {l0 l1 l3 : Option Value} {s0 : Value} {M : mM} {k n : Nat}  (h : RN z 6 [l0, l1, some (.int x), l3] [.int x, s0] M k n) : RN z 5 [l0, l1, some (.int x), l3] [s0] M k n := R_iload_n X.1 d_P_next_5 rfl rfl h
theorem i_P_next_6 {z : zT} {ws0 : va_W} {mc ms : Nat} {Post : Option Value → mM → Prop} (X : B_P_next z ws0 mc ms Post) {a0 : Value} {b : Nat} {mc1 ms1 : Nat} {Po : Option Value → mM → Prop} {fs : List Value} {l0 l1 l2 l3 : Option Value} {M : mM} {k n : Nat} (hM : M b = some (.inr (3, fs))) (hC : Ct (zl z) (zD z) (zty z) y_P_isMadeFolder w_P_isMadeFolder 1 21 mc1 ms1 [.ref b, a0] M Po) (hk : k + mc1 ≤ mc) (hn : n + ms1 ≤ ms) (h : ∀ v M1, Po v M1 → RN z 9 [l0, l1, l2, l3] (v.toList ++ []) M1 (k + mc1) (n + ms1)) : RN z 6 [l0, l1, l2, l3] [a0, .ref b] M k n := R_callV X.1 (av := [a0]) (nA := 1) wd_121 wd_118 wd_120 wd_0 wd_30 (by decide +kernel) rfl (Nat.le_of_ble_eq_true rfl) (Nat.le_of_ble_eq_true rfl) (Nat.le_of_ble_eq_true rfl) d_P_next_6 rfl (ci := 3) rfl hM hC (by rw [BM.rc1 X.2]; exact hk) (by rw [BM.rc2 X.2]; exact hn) h
theorem i_P_next_9 {z : zT} {ws0 : va_W} {mc ms : Nat} {Post : Option Value → mM → Prop} (X : B_P_next z ws0 mc ms Post) {x : Int32} {l0 l1 l2 l3 : Option Value} {M : mM} {k n : Nat}  (h1 : x = 0 → RN z 19 [l0, l1, l2, l3] [] M k n) (h2 : ¬ (x = 0) → RN z 12 [l0, l1, l2, l3] [] M k n) : RN z 9 [l0, l1, l2, l3] [.int x] M k n := R_if_eq X.1 d_P_next_9 (by decide) h1 h2
theorem i_P_next_12 {z : zT} {ws0 : va_W} {mc ms : Nat} {Post : Option Value → mM → Prop} (X : B_P_next z ws0 mc ms Post) {x : Int32} {l0 l1 l2 : Option Value} {M : mM} {k n : Nat}  (h : RN z 13 [l0, l1, l2, some (.int x)] [.int x] M k n) : RN z 12 [l0, l1, l2, some (.int x)] [] M k n := R_iload_n X.1 d_P_next_12 rfl rfl h
theorem i_P_next_13 {z : zT} {ws0 : va_W} {mc ms : Nat} {Post : Option Value → mM → Prop} (X : B_P_next z ws0 mc ms Post) {a0 : Value} {mc1 ms1 : Nat} {Po : Option Value → mM → Prop} {l0 l1 l2 l3 : Option Value} {M : mM} {k n : Nat} (hC : Ct (zl z) (zD z) (zty z) y_P_isName w_P_isName 0 0 mc1 ms1 [a0] M Po) (hk : k + mc1 ≤ mc) (hn : n + ms1 ≤ ms) (h : ∀ v M1, Po v M1 → RN z 16 [l0, l1, l2, l3] (v.toList ++ []) M1 (k + mc1) (n + ms1)) : RN z 13 [l0, l1, l2, l3] [a0] M k n := R_callS X.1 (av := [a0]) (nA := 1) wd_128 wd_126 wd_127 wd_30 (by decide +kernel) rfl (Nat.le_of_ble_eq_true rfl) (Nat.le_of_ble_eq_true rfl) (Nat.le_of_ble_eq_true rfl) d_P_next_13 rfl hC (by rw [BM.rc1 X.2]; exact hk) (by rw [BM.rc2 X.2]; exact hn) h
theorem i_P_next_16 {z : zT} {ws0 : va_W} {mc ms : Nat} {Post : Option Value → mM → Prop} (X : B_P_next z ws0 mc ms Post) {x : Int32} {l0 l1 l2 l3 : Option Value} {M : mM} {k n : Nat}  (h1 : ¬ x = 0 → RN z 21 [l0, l1, l2, l3] [] M k n) (h2 : x = 0 → RN z 19 [l0, l1, l2, l3] [] M k n) : RN z 16 [l0, l1, l2, l3] [.int x] M k n := R_if_ne X.1 d_P_next_16 (by decide) h1 h2
theorem i_P_next_19 {z : zT} {ws0 : va_W} {mc ms : Nat} {Post : Option Value → mM → Prop} (X : B_P_next z ws0 mc ms Post) {l0 l1 l2 l3 : Option Value} {M : mM} {k n : Nat}  (h : RN z 20 [l0, l1, l2, l3] [.int (-1)] M k n) : RN z 19 [l0, l1, l2, l3] [] M k n := R_iconst X.1 d_P_next_19 (by decide) h
theorem i_P_next_20 {z : zT} {ws0 : va_W} {mc ms : Nat} {Post : Option Value → mM → Prop} (X : B_P_next z ws0 mc ms Post) {x : Int32} {l0 l1 l2 l3 : Option Value} {M : mM} {k n : Nat} (hk : k ≤ mc) (hn : n ≤ ms) (hp : Post (some (.int x)) M) : RN z 20 [l0, l1, l2, l3] [.int x] M k n := R_iret X.1 X.2 d_P_next_20 hk hn hp
theorem i_P_next_21 {z : zT} {ws0 : va_W} {mc ms : Nat} {Post : Option Value → mM → Prop} (X : B_P_next z ws0 mc ms Post) {v : Value} {l1 l2 l3 : Option Value} {M : mM} {k n : Nat} (hv : mRf v := by first | exact mRf_r _ | exact mRf_n | exact mRf_rf _ | assumption) (h : RN z 22 [some v, l1, l2, l3] [v] M k n) : RN z 21 [some v, l1, l2, l3] [] M k n := R_aload_n X.1 d_P_next_21 rfl rfl hv h
theorem i_P_next_22 {z : zT} {ws0 : va_W} {mc ms : Nat} {Post : Option Value → mM → Prop} (X : B_P_next z ws0 mc ms Post) {x : Int32} {l0 l2 l3 : Option Value} {s0 : Value} {M : mM} {k n : Nat}  (h : RN z 23 [l0, some (.int x), l2, l3] [.int x, s0] M k n) : RN z 22 [l0, some (.int x), l2, l3] [s0] M k n := R_iload_n X.1 d_P_next_22 rfl rfl h
theorem i_P_next_23 {z : zT} {ws0 : va_W} {mc ms : Nat} {Post : Option Value → mM → Prop} (X : B_P_next z ws0 mc ms Post) {a0 : Value} {b : Nat} {mc1 ms1 : Nat} {Po : Option Value → mM → Prop} {fs : List Value} {l0 l1 l2 l3 : Option Value} {M : mM} {k n : Nat} (hM : M b = some (.inr (3, fs))) (hC : Ct (zl z) (zD z) (zty z) y_P_findPlaces w_P_findPlaces 1 22 mc1 ms1 [.ref b, a0] M Po) (hk : k + mc1 ≤ mc) (hn : n + ms1 ≤ ms) (h : ∀ v M1, Po v M1 → RN z 26 [l0, l1, l2, l3] (v.toList ++ []) M1 (k + mc1) (n + ms1)) : RN z 23 [l0, l1, l2, l3] [a0, .ref b] M k n := R_callV X.1 (av := [a0]) (nA := 1) wd_132 wd_129 wd_131 wd_2 wd_30 (by decide +kernel) rfl (Nat.le_of_ble_eq_true rfl) (Nat.le_of_ble_eq_true rfl) (Nat.le_of_ble_eq_true rfl) d_P_next_23 rfl (ci := 3) rfl hM hC (by rw [BM.rc1 X.2]; exact hk) (by rw [BM.rc2 X.2]; exact hn) h
theorem i_P_next_26 {z : zT} {ws0 : va_W} {mc ms : Nat} {Post : Option Value → mM → Prop} (X : B_P_next z ws0 mc ms Post) {v : Value} {l1 l2 l3 : Option Value} {M : mM} {k n : Nat} (hv : mRf v := by first | exact mRf_r _ | exact mRf_n | exact mRf_rf _ | assumption) (h : RN z 27 [some v, l1, l2, l3] [v] M k n) : RN z 26 [some v, l1, l2, l3] [] M k n := R_aload_n X.1 d_P_next_26 rfl rfl hv h
theorem i_P_next_27 {z : zT} {ws0 : va_W} {mc ms : Nat} {Post : Option Value → mM → Prop} (X : B_P_next z ws0 mc ms Post) {x : Int32} {l0 l1 l3 : Option Value} {s0 : Value} {M : mM} {k n : Nat}  (h : RN z 28 [l0, l1, some (.int x), l3] [.int x, s0] M k n) : RN z 27 [l0, l1, some (.int x), l3] [s0] M k n := R_iload_n X.1 d_P_next_27 rfl rfl h
theorem i_P_next_28 {z : zT} {ws0 : va_W} {mc ms : Nat} {Post : Option Value → mM → Prop} (X : B_P_next z ws0 mc ms Post) {x : Int32} {l0 l1 l2 : Option Value} {s0 s1 : Value} {M : mM} {k n : Nat}  (h : RN z 29 [l0, l1, l2, some (.int x)] [.int x, s0, s1] M k n) : RN z 28 [l0, l1, l2, some (.int x)] [s0, s1] M k n := R_iload_n X.1 d_P_next_28 rfl rfl h
theorem i_P_next_29 {z : zT} {ws0 : va_W} {mc ms : Nat} {Post : Option Value → mM → Prop} (X : B_P_next z ws0 mc ms Post) {a0 a1 : Value} {b : Nat} {mc1 ms1 : Nat} {Po : Option Value → mM → Prop} {fs : List Value} {l0 l1 l2 l3 : Option Value} {M : mM} {k n : Nat} (hM : M b = some (.inr (3, fs))) (hC : Ct (zl z) (zD z) (zty z) y_P_firstName w_P_firstName 2 45 mc1 ms1 [.ref b, a0, a1] M Po) (hk : k + mc1 ≤ mc) (hn : n + ms1 ≤ ms) (h : ∀ v M1, Po v M1 → RN z 32 [l0, l1, l2, l3] (v.toList ++ []) M1 (k + mc1) (n + ms1)) : RN z 29 [l0, l1, l2, l3] [a1, a0, .ref b] M k n := R_callV X.1 (av := [a0, a1]) (nA := 2) wd_213 wd_210 wd_212 wd_8 wd_30 (by decide +kernel) rfl (Nat.le_of_ble_eq_true rfl) (Nat.le_of_ble_eq_true rfl) (Nat.le_of_ble_eq_true rfl) d_P_next_29 rfl (ci := 3) rfl hM hC (by rw [BM.rc1 X.2]; exact hk) (by rw [BM.rc2 X.2]; exact hn) h
theorem i_P_next_32 {z : zT} {ws0 : va_W} {mc ms : Nat} {Post : Option Value → mM → Prop} (X : B_P_next z ws0 mc ms Post) {x : Int32} {l0 l1 l2 l3 : Option Value} {M : mM} {k n : Nat} (hk : k ≤ mc) (hn : n ≤ ms) (hp : Post (some (.int x)) M) : RN z 32 [l0, l1, l2, l3] [.int x] M k n := R_iret X.1 X.2 d_P_next_32 hk hn hp
theorem d_P_read_0 : decode c_P_read 0 = .ok (.aload_n 0, 1) := by decide +kernel
theorem d_P_read_1 : decode c_P_read 1 = .ok (.iload_n 2, 1) := by decide +kernel
theorem d_P_read_2 : decode c_P_read 2 = .ok (.invokevirtual 97, 3) := by decide +kernel
theorem d_P_read_5 : decode c_P_read 5 = .ok (.astore 4, 2) := by decide +kernel
theorem d_P_read_7 : decode c_P_read 7 = .ok (.iload_n 1, 1) := by decide +kernel
theorem d_P_read_8 : decode c_P_read 8 = .ok (.ifCond .lt 15, 3) := by decide +kernel
theorem d_P_read_11 : decode c_P_read 11 = .ok (.aload 4, 2) := by decide +kernel
theorem d_P_read_13 : decode c_P_read 13 = .ok (.ifnull 10, 3) := by decide +kernel
theorem d_P_read_16 : decode c_P_read 16 = .ok (.iload_n 3, 1) := by decide +kernel
theorem d_P_read_17 : decode c_P_read 17 = .ok (.invokestatic 101, 3) := by decide +kernel
theorem d_P_read_20 : decode c_P_read 20 = .ok (.ifCond .ne 7, 3) := by decide +kernel
theorem d_P_read_23 : decode c_P_read 23 = .ok (.ldc2_w 124, 3) := by decide +kernel
theorem d_P_read_26 : decode c_P_read 26 = .ok (.lreturn, 1) := by decide +kernel
theorem d_P_read_27 : decode c_P_read 27 = .ok (.aload 4, 2) := by decide +kernel
theorem d_P_read_29 : decode c_P_read 29 = .ok (.iload_n 1, 1) := by decide +kernel
theorem d_P_read_30 : decode c_P_read 30 = .ok (.invokestatic 116, 3) := by decide +kernel
theorem d_P_read_33 : decode c_P_read 33 = .ok (.astore 5, 2) := by decide +kernel
theorem d_P_read_35 : decode c_P_read 35 = .ok (.aload 5, 2) := by decide +kernel
theorem d_P_read_37 : decode c_P_read 37 = .ok (.ifnonnull 7, 3) := by decide +kernel
theorem d_P_read_40 : decode c_P_read 40 = .ok (.ldc2_w 124, 3) := by decide +kernel
theorem d_P_read_43 : decode c_P_read 43 = .ok (.lreturn, 1) := by decide +kernel
theorem d_P_read_44 : decode c_P_read 44 = .ok (.aload 5, 2) := by decide +kernel
theorem d_P_read_46 : decode c_P_read 46 = .ok (.getfield 120, 3) := by decide +kernel
theorem d_P_read_49 : decode c_P_read 49 = .ok (.ifCond .eq 9, 3) := by decide +kernel
theorem d_P_read_52 : decode c_P_read 52 = .ok (.ldc2_w 126, 3) := by decide +kernel
theorem d_P_read_55 : decode c_P_read 55 = .ok (.goto 11, 3) := by decide +kernel
theorem d_P_read_58 : decode c_P_read 58 = .ok (.aload 5, 2) := by decide +kernel
theorem d_P_read_60 : decode c_P_read 60 = .ok (.getfield 104, 3) := by decide +kernel
theorem d_P_read_63 : decode c_P_read 63 = .ok (.iload_n 3, 1) := by decide +kernel
theorem d_P_read_64 : decode c_P_read 64 = .ok (.iaload, 1) := by decide +kernel
theorem d_P_read_65 : decode c_P_read 65 = .ok (.i2l, 1) := by decide +kernel
theorem d_P_read_66 : decode c_P_read 66 = .ok (.lreturn, 1) := by decide +kernel
abbrev B_P_read (z : zT) (ws0 : va_W) (mc ms : Nat) (Post : Option Value → mM → Prop) : Prop := BX z c_P_read 6 y_P_read.cls y_P_read.name 2 42 ∧ BQ z (some (.long)) ws0 mc ms Post
abbrev Ct_P_read (l : Launch) (D : va_G) (tys : List (ClassId × FieldType)) (mc ms : Nat) (av : List Value) (M : mM) (Post : Option Value → mM → Prop) : Prop := Ct l D tys y_P_read w_P_read 2 42 mc ms av M Post
theorem i_P_read_0 {z : zT} {ws0 : va_W} {mc ms : Nat} {Post : Option Value → mM → Prop} (X : B_P_read z ws0 mc ms Post) {v : Value} {l1 l2 l3 l4 l5 : Option Value} {M : mM} {k n : Nat} (hv : mRf v := by first | exact mRf_r _ | exact mRf_n | exact mRf_rf _ | assumption) (h : RN z 1 [some v, l1, l2, l3, l4, l5] [v] M k n) : RN z 0 [some v, l1, l2, l3, l4, l5] [] M k n := R_aload_n X.1 d_P_read_0 rfl rfl hv h
theorem i_P_read_1 {z : zT} {ws0 : va_W} {mc ms : Nat} {Post : Option Value → mM → Prop} (X : B_P_read z ws0 mc ms Post) {x : Int32} {l0 l1 l3 l4 l5 : Option Value} {s0 : Value} {M : mM} {k n : Nat}  (h : RN z 2 [l0, l1, some (.int x), l3, l4, l5] [.int x, s0] M k n) : RN z 1 [l0, l1, some (.int x), l3, l4, l5] [s0] M k n := R_iload_n X.1 d_P_read_1 rfl rfl h
theorem i_P_read_2 {z : zT} {ws0 : va_W} {mc ms : Nat} {Post : Option Value → mM → Prop} (X : B_P_read z ws0 mc ms Post) {a0 : Value} {b : Nat} {mc1 ms1 : Nat} {Po : Option Value → mM → Prop} {fs : List Value} {l0 l1 l2 l3 l4 l5 : Option Value} {M : mM} {k n : Nat} (hM : M b = some (.inr (3, fs))) (hC : Ct (zl z) (zD z) (zty z) y_P_latestVersion w_P_latestVersion 1 21 mc1 ms1 [.ref b, a0] M Po) (hk : k + mc1 ≤ mc) (hn : n + ms1 ≤ ms) (h : ∀ v M1, Po v M1 → RN z 5 [l0, l1, l2, l3, l4, l5] (v.toList ++ []) M1 (k + mc1) (n + ms1)) : RN z 2 [l0, l1, l2, l3, l4, l5] [a0, .ref b] M k n := R_callV X.1 (av := [a0]) (nA := 1) wd_229 wd_226 wd_228 wd_10 wd_30 (by decide +kernel) rfl (Nat.le_of_ble_eq_true rfl) (Nat.le_of_ble_eq_true rfl) (Nat.le_of_ble_eq_true rfl) d_P_read_2 rfl (ci := 3) rfl hM hC (by rw [BM.rc1 X.2]; exact hk) (by rw [BM.rc2 X.2]; exact hn) h
theorem i_P_read_5 {z : zT} {ws0 : va_W} {mc ms : Nat} {Post : Option Value → mM → Prop} (X : B_P_read z ws0 mc ms Post) {v : Value} {l0 l1 l2 l3 l4 l5 : Option Value} {M : mM} {k n : Nat} (hv : mRf v := by first | exact mRf_r _ | exact mRf_n | exact mRf_rf _ | assumption) (h : RN z 7 [l0, l1, l2, l3, some v, l5] [] M k n) : RN z 5 [l0, l1, l2, l3, l4, l5] [v] M k n := R_astore X.1 d_P_read_5 hv (Nat.le_of_ble_eq_true rfl) h
theorem i_P_read_7 {z : zT} {ws0 : va_W} {mc ms : Nat} {Post : Option Value → mM → Prop} (X : B_P_read z ws0 mc ms Post) {x : Int32} {l0 l2 l3 l4 l5 : Option Value} {M : mM} {k n : Nat}  (h : RN z 8 [l0, some (.int x), l2, l3, l4, l5] [.int x] M k n) : RN z 7 [l0, some (.int x), l2, l3, l4, l5] [] M k n := R_iload_n X.1 d_P_read_7 rfl rfl h
theorem i_P_read_8 {z : zT} {ws0 : va_W} {mc ms : Nat} {Post : Option Value → mM → Prop} (X : B_P_read z ws0 mc ms Post) {x : Int32} {l0 l1 l2 l3 l4 l5 : Option Value} {M : mM} {k n : Nat}  (h1 : x < 0 → RN z 23 [l0, l1, l2, l3, l4, l5] [] M k n) (h2 : ¬ (x < 0) → RN z 11 [l0, l1, l2, l3, l4, l5] [] M k n) : RN z 8 [l0, l1, l2, l3, l4, l5] [.int x] M k n := R_if_lt X.1 d_P_read_8 (by decide) h1 h2
theorem i_P_read_11 {z : zT} {ws0 : va_W} {mc ms : Nat} {Post : Option Value → mM → Prop} (X : B_P_read z ws0 mc ms Post) {v : Value} {l0 l1 l2 l3 l5 : Option Value} {M : mM} {k n : Nat} (hv : mRf v := by first | exact mRf_r _ | exact mRf_n | exact mRf_rf _ | assumption) (h : RN z 13 [l0, l1, l2, l3, some v, l5] [v] M k n) : RN z 11 [l0, l1, l2, l3, some v, l5] [] M k n := R_aload X.1 d_P_read_11 rfl hv h
theorem i_P_read_13 {z : zT} {ws0 : va_W} {mc ms : Nat} {Post : Option Value → mM → Prop} (X : B_P_read z ws0 mc ms Post) {v : Value} {l0 l1 l2 l3 l4 l5 : Option Value} {M : mM} {k n : Nat} (hv : mRf v := by first | exact mRf_r _ | exact mRf_n | exact mRf_rf _ | assumption) (h1 : v = .null → RN z 23 [l0, l1, l2, l3, l4, l5] [] M k n) (h2 : ∀ a, v = .ref a → RN z 16 [l0, l1, l2, l3, l4, l5] [] M k n) : RN z 13 [l0, l1, l2, l3, l4, l5] [v] M k n := R_ifnull X.1 d_P_read_13 (by decide) hv h1 h2
theorem i_P_read_16 {z : zT} {ws0 : va_W} {mc ms : Nat} {Post : Option Value → mM → Prop} (X : B_P_read z ws0 mc ms Post) {x : Int32} {l0 l1 l2 l4 l5 : Option Value} {M : mM} {k n : Nat}  (h : RN z 17 [l0, l1, l2, some (.int x), l4, l5] [.int x] M k n) : RN z 16 [l0, l1, l2, some (.int x), l4, l5] [] M k n := R_iload_n X.1 d_P_read_16 rfl rfl h
theorem i_P_read_17 {z : zT} {ws0 : va_W} {mc ms : Nat} {Post : Option Value → mM → Prop} (X : B_P_read z ws0 mc ms Post) {a0 : Value} {mc1 ms1 : Nat} {Po : Option Value → mM → Prop} {l0 l1 l2 l3 l4 l5 : Option Value} {M : mM} {k n : Nat} (hC : Ct (zl z) (zD z) (zty z) y_P_isCell w_P_isCell 0 0 mc1 ms1 [a0] M Po) (hk : k + mc1 ≤ mc) (hn : n + ms1 ≤ ms) (h : ∀ v M1, Po v M1 → RN z 20 [l0, l1, l2, l3, l4, l5] (v.toList ++ []) M1 (k + mc1) (n + ms1)) : RN z 17 [l0, l1, l2, l3, l4, l5] [a0] M k n := R_callS X.1 (av := [a0]) (nA := 1) wd_232 wd_230 wd_231 wd_30 (by decide +kernel) rfl (Nat.le_of_ble_eq_true rfl) (Nat.le_of_ble_eq_true rfl) (Nat.le_of_ble_eq_true rfl) d_P_read_17 rfl hC (by rw [BM.rc1 X.2]; exact hk) (by rw [BM.rc2 X.2]; exact hn) h
theorem i_P_read_20 {z : zT} {ws0 : va_W} {mc ms : Nat} {Post : Option Value → mM → Prop} (X : B_P_read z ws0 mc ms Post) {x : Int32} {l0 l1 l2 l3 l4 l5 : Option Value} {M : mM} {k n : Nat}  (h1 : ¬ x = 0 → RN z 27 [l0, l1, l2, l3, l4, l5] [] M k n) (h2 : x = 0 → RN z 23 [l0, l1, l2, l3, l4, l5] [] M k n) : RN z 20 [l0, l1, l2, l3, l4, l5] [.int x] M k n := R_if_ne X.1 d_P_read_20 (by decide) h1 h2
theorem i_P_read_23 {z : zT} {ws0 : va_W} {mc ms : Nat} {Post : Option Value → mM → Prop} (X : B_P_read z ws0 mc ms Post) {l0 l1 l2 l3 l4 l5 : Option Value} {M : mM} {k n : Nat}  (h : RN z 26 [l0, l1, l2, l3, l4, l5] [.long (-1000000000000)] M k n) : RN z 23 [l0, l1, l2, l3, l4, l5] [] M k n := R_ldc2 X.1 d_P_read_23 wd_267 h
theorem i_P_read_26 {z : zT} {ws0 : va_W} {mc ms : Nat} {Post : Option Value → mM → Prop} (X : B_P_read z ws0 mc ms Post) {x : Int64} {l0 l1 l2 l3 l4 l5 : Option Value} {M : mM} {k n : Nat} (hk : k ≤ mc) (hn : n ≤ ms) (hp : Post (some (.long x)) M) : RN z 26 [l0, l1, l2, l3, l4, l5] [.long x] M k n := R_lret X.1 X.2 d_P_read_26 hk hn hp
theorem i_P_read_27 {z : zT} {ws0 : va_W} {mc ms : Nat} {Post : Option Value → mM → Prop} (X : B_P_read z ws0 mc ms Post) {v : Value} {l0 l1 l2 l3 l5 : Option Value} {M : mM} {k n : Nat} (hv : mRf v := by first | exact mRf_r _ | exact mRf_n | exact mRf_rf _ | assumption) (h : RN z 29 [l0, l1, l2, l3, some v, l5] [v] M k n) : RN z 27 [l0, l1, l2, l3, some v, l5] [] M k n := R_aload X.1 d_P_read_27 rfl hv h
theorem i_P_read_29 {z : zT} {ws0 : va_W} {mc ms : Nat} {Post : Option Value → mM → Prop} (X : B_P_read z ws0 mc ms Post) {x : Int32} {l0 l2 l3 l4 l5 : Option Value} {s0 : Value} {M : mM} {k n : Nat}  (h : RN z 30 [l0, some (.int x), l2, l3, l4, l5] [.int x, s0] M k n) : RN z 29 [l0, some (.int x), l2, l3, l4, l5] [s0] M k n := R_iload_n X.1 d_P_read_29 rfl rfl h
theorem i_P_read_30 {z : zT} {ws0 : va_W} {mc ms : Nat} {Post : Option Value → mM → Prop} (X : B_P_read z ws0 mc ms Post) {a0 a1 : Value} {mc1 ms1 : Nat} {Po : Option Value → mM → Prop} {l0 l1 l2 l3 l4 l5 : Option Value} {M : mM} {k n : Nat} (hC : Ct (zl z) (zD z) (zty z) y_P_versionAsOf w_P_versionAsOf 0 0 mc1 ms1 [a0, a1] M Po) (hk : k + mc1 ≤ mc) (hn : n + ms1 ≤ ms) (h : ∀ v M1, Po v M1 → RN z 33 [l0, l1, l2, l3, l4, l5] (v.toList ++ []) M1 (k + mc1) (n + ms1)) : RN z 30 [l0, l1, l2, l3, l4, l5] [a1, a0] M k n := R_callS X.1 (av := [a0, a1]) (nA := 2) wd_250 wd_248 wd_249 wd_30 (by decide +kernel) rfl (Nat.le_of_ble_eq_true rfl) (Nat.le_of_ble_eq_true rfl) (Nat.le_of_ble_eq_true rfl) d_P_read_30 rfl hC (by rw [BM.rc1 X.2]; exact hk) (by rw [BM.rc2 X.2]; exact hn) h
theorem i_P_read_33 {z : zT} {ws0 : va_W} {mc ms : Nat} {Post : Option Value → mM → Prop} (X : B_P_read z ws0 mc ms Post) {v : Value} {l0 l1 l2 l3 l4 l5 : Option Value} {M : mM} {k n : Nat} (hv : mRf v := by first | exact mRf_r _ | exact mRf_n | exact mRf_rf _ | assumption) (h : RN z 35 [l0, l1, l2, l3, l4, some v] [] M k n) : RN z 33 [l0, l1, l2, l3, l4, l5] [v] M k n := R_astore X.1 d_P_read_33 hv (Nat.le_of_ble_eq_true rfl) h
theorem i_P_read_35 {z : zT} {ws0 : va_W} {mc ms : Nat} {Post : Option Value → mM → Prop} (X : B_P_read z ws0 mc ms Post) {v : Value} {l0 l1 l2 l3 l4 : Option Value} {M : mM} {k n : Nat} (hv : mRf v := by first | exact mRf_r _ | exact mRf_n | exact mRf_rf _ | assumption) (h : RN z 37 [l0, l1, l2, l3, l4, some v] [v] M k n) : RN z 35 [l0, l1, l2, l3, l4, some v] [] M k n := R_aload X.1 d_P_read_35 rfl hv h
theorem i_P_read_37 {z : zT} {ws0 : va_W} {mc ms : Nat} {Post : Option Value → mM → Prop} (X : B_P_read z ws0 mc ms Post) {v : Value} {l0 l1 l2 l3 l4 l5 : Option Value} {M : mM} {k n : Nat} (hv : mRf v := by first | exact mRf_r _ | exact mRf_n | exact mRf_rf _ | assumption) (h1 : ∀ a, v = .ref a → RN z 44 [l0, l1, l2, l3, l4, l5] [] M k n) (h2 : v = .null → RN z 40 [l0, l1, l2, l3, l4, l5] [] M k n) : RN z 37 [l0, l1, l2, l3, l4, l5] [v] M k n := R_ifnonnull X.1 d_P_read_37 (by decide) hv h1 h2
theorem i_P_read_40 {z : zT} {ws0 : va_W} {mc ms : Nat} {Post : Option Value → mM → Prop} (X : B_P_read z ws0 mc ms Post) {l0 l1 l2 l3 l4 l5 : Option Value} {M : mM} {k n : Nat}  (h : RN z 43 [l0, l1, l2, l3, l4, l5] [.long (-1000000000000)] M k n) : RN z 40 [l0, l1, l2, l3, l4, l5] [] M k n := R_ldc2 X.1 d_P_read_40 wd_267 h
theorem i_P_read_43 {z : zT} {ws0 : va_W} {mc ms : Nat} {Post : Option Value → mM → Prop} (X : B_P_read z ws0 mc ms Post) {x : Int64} {l0 l1 l2 l3 l4 l5 : Option Value} {M : mM} {k n : Nat} (hk : k ≤ mc) (hn : n ≤ ms) (hp : Post (some (.long x)) M) : RN z 43 [l0, l1, l2, l3, l4, l5] [.long x] M k n := R_lret X.1 X.2 d_P_read_43 hk hn hp
theorem i_P_read_44 {z : zT} {ws0 : va_W} {mc ms : Nat} {Post : Option Value → mM → Prop} (X : B_P_read z ws0 mc ms Post) {v : Value} {l0 l1 l2 l3 l4 : Option Value} {M : mM} {k n : Nat} (hv : mRf v := by first | exact mRf_r _ | exact mRf_n | exact mRf_rf _ | assumption) (h : RN z 46 [l0, l1, l2, l3, l4, some v] [v] M k n) : RN z 44 [l0, l1, l2, l3, l4, some v] [] M k n := R_aload X.1 d_P_read_44 rfl hv h
theorem i_P_read_46 {z : zT} {ws0 : va_W} {mc ms : Nat} {Post : Option Value → mM → Prop} (X : B_P_read z ws0 mc ms Post) {a : Nat} {f0 f1 f2 f3 f4 : Value} {l0 l1 l2 l3 l4 l5 : Option Value} {M : mM} {k n : Nat} (hM : M a = some (.inr (2, [f0, f1, f2, f3, f4]))) (h : RN z 49 [l0, l1, l2, l3, l4, l5] [f4] M k n) : RN z 46 [l0, l1, l2, l3, l4, l5] [.ref a] M k n := R_get X.1 inX2 rfl 4 (Nat.le_of_ble_eq_true rfl) wd_167 d_P_read_46 hM rfl h
theorem i_P_read_49 {z : zT} {ws0 : va_W} {mc ms : Nat} {Post : Option Value → mM → Prop} (X : B_P_read z ws0 mc ms Post) {x : Int32} {l0 l1 l2 l3 l4 l5 : Option Value} {M : mM} {k n : Nat}  (h1 : x = 0 → RN z 58 [l0, l1, l2, l3, l4, l5] [] M k n) (h2 : ¬ (x = 0) → RN z 52 [l0, l1, l2, l3, l4, l5] [] M k n) : RN z 49 [l0, l1, l2, l3, l4, l5] [.int x] M k n := R_if_eq X.1 d_P_read_49 (by decide) h1 h2
theorem i_P_read_52 {z : zT} {ws0 : va_W} {mc ms : Nat} {Post : Option Value → mM → Prop} (X : B_P_read z ws0 mc ms Post) {l0 l1 l2 l3 l4 l5 : Option Value} {M : mM} {k n : Nat}  (h : RN z 55 [l0, l1, l2, l3, l4, l5] [.long (-2000000000000)] M k n) : RN z 52 [l0, l1, l2, l3, l4, l5] [] M k n := R_ldc2 X.1 d_P_read_52 wd_268 h
theorem i_P_read_55 {z : zT} {ws0 : va_W} {mc ms : Nat} {Post : Option Value → mM → Prop} (X : B_P_read z ws0 mc ms Post) {l0 l1 l2 l3 l4 l5 : Option Value} {s0 : Value} {M : mM} {k n : Nat}  (h : RN z 66 [l0, l1, l2, l3, l4, l5] [s0] M k n) : RN z 55 [l0, l1, l2, l3, l4, l5] [s0] M k n := R_goto X.1 d_P_read_55 (by decide) h
theorem i_P_read_58 {z : zT} {ws0 : va_W} {mc ms : Nat} {Post : Option Value → mM → Prop} (X : B_P_read z ws0 mc ms Post) {v : Value} {l0 l1 l2 l3 l4 : Option Value} {M : mM} {k n : Nat} (hv : mRf v := by first | exact mRf_r _ | exact mRf_n | exact mRf_rf _ | assumption) (h : RN z 60 [l0, l1, l2, l3, l4, some v] [v] M k n) : RN z 58 [l0, l1, l2, l3, l4, some v] [] M k n := R_aload X.1 d_P_read_58 rfl hv h
theorem i_P_read_60 {z : zT} {ws0 : va_W} {mc ms : Nat} {Post : Option Value → mM → Prop} (X : B_P_read z ws0 mc ms Post) {a : Nat} {f0 f1 f2 f3 f4 : Value} {l0 l1 l2 l3 l4 l5 : Option Value} {M : mM} {k n : Nat} (hM : M a = some (.inr (2, [f0, f1, f2, f3, f4]))) (h : RN z 63 [l0, l1, l2, l3, l4, l5] [f2] M k n) : RN z 60 [l0, l1, l2, l3, l4, l5] [.ref a] M k n := R_get X.1 inX2 rfl 2 (Nat.le_of_ble_eq_true rfl) wd_163 d_P_read_60 hM rfl h
theorem i_P_read_63 {z : zT} {ws0 : va_W} {mc ms : Nat} {Post : Option Value → mM → Prop} (X : B_P_read z ws0 mc ms Post) {x : Int32} {l0 l1 l2 l4 l5 : Option Value} {s0 : Value} {M : mM} {k n : Nat}  (h : RN z 64 [l0, l1, l2, some (.int x), l4, l5] [.int x, s0] M k n) : RN z 63 [l0, l1, l2, some (.int x), l4, l5] [s0] M k n := R_iload_n X.1 d_P_read_63 rfl rfl h
theorem i_P_read_64 {z : zT} {ws0 : va_W} {mc ms : Nat} {Post : Option Value → mM → Prop} (X : B_P_read z ws0 mc ms Post) {cI cB cN : ClassId} (G : GT z cI cB cN) {a w j : Nat} {i : Int32} {f : Nat → Int32} {l0 l1 l2 l3 l4 l5 : Option Value} {M : mM} {k n : Nat} (hM : M a = some (.inl (cI, w, .inl f))) (hx : i = nI j) (hj : j < w) (hw : w < 2 ^ 31 := by decide) (h : RN z 65 [l0, l1, l2, l3, l4, l5] [.int (f j)] M k n) : RN z 64 [l0, l1, l2, l3, l4, l5] [.int i, .ref a] M k n := R_iald X.1 0 G.1 d_P_read_64 hM (by rw [hx]; exact vp_in_nI hj hw) (by rw [hx, nI_clamp (by omega)]; exact h)
theorem i_P_read_65 {z : zT} {ws0 : va_W} {mc ms : Nat} {Post : Option Value → mM → Prop} (X : B_P_read z ws0 mc ms Post) {x : Int32} {l0 l1 l2 l3 l4 l5 : Option Value} {M : mM} {k n : Nat}  (h : RN z 66 [l0, l1, l2, l3, l4, l5] [.long x.toInt64] M k n) : RN z 65 [l0, l1, l2, l3, l4, l5] [.int x] M k n := R_i2l X.1 d_P_read_65 h
theorem i_P_read_66 {z : zT} {ws0 : va_W} {mc ms : Nat} {Post : Option Value → mM → Prop} (X : B_P_read z ws0 mc ms Post) {x : Int64} {l0 l1 l2 l3 l4 l5 : Option Value} {M : mM} {k n : Nat} (hk : k ≤ mc) (hn : n ≤ ms) (hp : Post (some (.long x)) M) : RN z 66 [l0, l1, l2, l3, l4, l5] [.long x] M k n := R_lret X.1 X.2 d_P_read_66 hk hn hp
theorem d_P_below_0 : decode c_P_below 0 = .ok (.iload_n 1, 1) := by decide +kernel
theorem d_P_below_1 : decode c_P_below 1 = .ok (.ifCond .lt 11, 3) := by decide +kernel
theorem d_P_below_4 : decode c_P_below 4 = .ok (.aload_n 0, 1) := by decide +kernel
theorem d_P_below_5 : decode c_P_below 5 = .ok (.iload_n 2, 1) := by decide +kernel
theorem d_P_below_6 : decode c_P_below 6 = .ok (.invokevirtual 52, 3) := by decide +kernel
theorem d_P_below_9 : decode c_P_below 9 = .ok (.ifCond .ne 5, 3) := by decide +kernel
theorem d_P_below_12 : decode c_P_below 12 = .ok (.iconst (-1), 1) := by decide +kernel
theorem d_P_below_13 : decode c_P_below 13 = .ok (.ireturn, 1) := by decide +kernel
theorem d_P_below_14 : decode c_P_below 14 = .ok (.aload_n 0, 1) := by decide +kernel
theorem d_P_below_15 : decode c_P_below 15 = .ok (.iload_n 1, 1) := by decide +kernel
theorem d_P_below_16 : decode c_P_below 16 = .ok (.invokevirtual 59, 3) := by decide +kernel
theorem d_P_below_19 : decode c_P_below 19 = .ok (.iconst 0, 1) := by decide +kernel
theorem d_P_below_20 : decode c_P_below 20 = .ok (.istore_n 3, 1) := by decide +kernel
theorem d_P_below_21 : decode c_P_below 21 = .ok (.iconst 0, 1) := by decide +kernel
theorem d_P_below_22 : decode c_P_below 22 = .ok (.istore 4, 2) := by decide +kernel
theorem d_P_below_24 : decode c_P_below 24 = .ok (.iload 4, 2) := by decide +kernel
theorem d_P_below_26 : decode c_P_below 26 = .ok (.bipush 24, 2) := by decide +kernel
theorem d_P_below_28 : decode c_P_below 28 = .ok (.if_icmp .ge 28, 3) := by decide +kernel
theorem d_P_below_31 : decode c_P_below 31 = .ok (.iload 4, 2) := by decide +kernel
theorem d_P_below_33 : decode c_P_below 33 = .ok (.iload_n 2, 1) := by decide +kernel
theorem d_P_below_34 : decode c_P_below 34 = .ok (.if_icmp .eq 16, 3) := by decide +kernel
theorem d_P_below_37 : decode c_P_below 37 = .ok (.aload_n 0, 1) := by decide +kernel
theorem d_P_below_38 : decode c_P_below 38 = .ok (.iload 4, 2) := by decide +kernel
theorem d_P_below_40 : decode c_P_below 40 = .ok (.iload_n 2, 1) := by decide +kernel
theorem d_P_below_41 : decode c_P_below 41 = .ok (.invokevirtual 94, 3) := by decide +kernel
theorem d_P_below_44 : decode c_P_below 44 = .ok (.ifCond .eq 6, 3) := by decide +kernel
theorem d_P_below_47 : decode c_P_below 47 = .ok (.iinc 3 1, 3) := by decide +kernel
theorem d_P_below_50 : decode c_P_below 50 = .ok (.iinc 4 1, 3) := by decide +kernel
theorem d_P_below_53 : decode c_P_below 53 = .ok (.goto (-29), 3) := by decide +kernel
theorem d_P_below_56 : decode c_P_below 56 = .ok (.iload_n 3, 1) := by decide +kernel
theorem d_P_below_57 : decode c_P_below 57 = .ok (.ireturn, 1) := by decide +kernel
abbrev B_P_below (z : zT) (ws0 : va_W) (mc ms : Nat) (Post : Option Value → mM → Prop) : Prop := BX z c_P_below 5 y_P_below.cls y_P_below.name 2 44 ∧ BQ z (some (.int)) ws0 mc ms Post
abbrev Ct_P_below (l : Launch) (D : va_G) (tys : List (ClassId × FieldType)) (mc ms : Nat) (av : List Value) (M : mM) (Post : Option Value → mM → Prop) : Prop := Ct l D tys y_P_below w_P_below 2 44 mc ms av M Post
theorem i_P_below_0 {z : zT} {ws0 : va_W} {mc ms : Nat} {Post : Option Value → mM → Prop} (X : B_P_below z ws0 mc ms Post) {x : Int32} {l0 l2 l3 l4 : Option Value} {M : mM} {k n : Nat}  (h : RN z 1 [l0, some (.int x), l2, l3, l4] [.int x] M k n) : RN z 0 [l0, some (.int x), l2, l3, l4] [] M k n := R_iload_n X.1 d_P_below_0 rfl rfl h
theorem i_P_below_1 {z : zT} {ws0 : va_W} {mc ms : Nat} {Post : Option Value → mM → Prop} (X : B_P_below z ws0 mc ms Post) {x : Int32} {l0 l1 l2 l3 l4 : Option Value} {M : mM} {k n : Nat}  (h1 : x < 0 → RN z 12 [l0, l1, l2, l3, l4] [] M k n) (h2 : ¬ (x < 0) → RN z 4 [l0, l1, l2, l3, l4] [] M k n) : RN z 1 [l0, l1, l2, l3, l4] [.int x] M k n := R_if_lt X.1 d_P_below_1 (by decide) h1 h2
theorem i_P_below_4 {z : zT} {ws0 : va_W} {mc ms : Nat} {Post : Option Value → mM → Prop} (X : B_P_below z ws0 mc ms Post) {v : Value} {l1 l2 l3 l4 : Option Value} {M : mM} {k n : Nat} (hv : mRf v := by first | exact mRf_r _ | exact mRf_n | exact mRf_rf _ | assumption) (h : RN z 5 [some v, l1, l2, l3, l4] [v] M k n) : RN z 4 [some v, l1, l2, l3, l4] [] M k n := R_aload_n X.1 d_P_below_4 rfl rfl hv h
theorem i_P_below_5 {z : zT} {ws0 : va_W} {mc ms : Nat} {Post : Option Value → mM → Prop} (X : B_P_below z ws0 mc ms Post) {x : Int32} {l0 l1 l3 l4 : Option Value} {s0 : Value} {M : mM} {k n : Nat}  (h : RN z 6 [l0, l1, some (.int x), l3, l4] [.int x, s0] M k n) : RN z 5 [l0, l1, some (.int x), l3, l4] [s0] M k n := R_iload_n X.1 d_P_below_5 rfl rfl h
theorem i_P_below_6 {z : zT} {ws0 : va_W} {mc ms : Nat} {Post : Option Value → mM → Prop} (X : B_P_below z ws0 mc ms Post) {a0 : Value} {b : Nat} {mc1 ms1 : Nat} {Po : Option Value → mM → Prop} {fs : List Value} {l0 l1 l2 l3 l4 : Option Value} {M : mM} {k n : Nat} (hM : M b = some (.inr (3, fs))) (hC : Ct (zl z) (zD z) (zty z) y_P_isMadeFolder w_P_isMadeFolder 1 21 mc1 ms1 [.ref b, a0] M Po) (hk : k + mc1 ≤ mc) (hn : n + ms1 ≤ ms) (h : ∀ v M1, Po v M1 → RN z 9 [l0, l1, l2, l3, l4] (v.toList ++ []) M1 (k + mc1) (n + ms1)) : RN z 6 [l0, l1, l2, l3, l4] [a0, .ref b] M k n := R_callV X.1 (av := [a0]) (nA := 1) wd_121 wd_118 wd_120 wd_0 wd_30 (by decide +kernel) rfl (Nat.le_of_ble_eq_true rfl) (Nat.le_of_ble_eq_true rfl) (Nat.le_of_ble_eq_true rfl) d_P_below_6 rfl (ci := 3) rfl hM hC (by rw [BM.rc1 X.2]; exact hk) (by rw [BM.rc2 X.2]; exact hn) h
theorem i_P_below_9 {z : zT} {ws0 : va_W} {mc ms : Nat} {Post : Option Value → mM → Prop} (X : B_P_below z ws0 mc ms Post) {x : Int32} {l0 l1 l2 l3 l4 : Option Value} {M : mM} {k n : Nat}  (h1 : ¬ x = 0 → RN z 14 [l0, l1, l2, l3, l4] [] M k n) (h2 : x = 0 → RN z 12 [l0, l1, l2, l3, l4] [] M k n) : RN z 9 [l0, l1, l2, l3, l4] [.int x] M k n := R_if_ne X.1 d_P_below_9 (by decide) h1 h2
theorem i_P_below_12 {z : zT} {ws0 : va_W} {mc ms : Nat} {Post : Option Value → mM → Prop} (X : B_P_below z ws0 mc ms Post) {l0 l1 l2 l3 l4 : Option Value} {M : mM} {k n : Nat}  (h : RN z 13 [l0, l1, l2, l3, l4] [.int (-1)] M k n) : RN z 12 [l0, l1, l2, l3, l4] [] M k n := R_iconst X.1 d_P_below_12 (by decide) h
theorem i_P_below_13 {z : zT} {ws0 : va_W} {mc ms : Nat} {Post : Option Value → mM → Prop} (X : B_P_below z ws0 mc ms Post) {x : Int32} {l0 l1 l2 l3 l4 : Option Value} {M : mM} {k n : Nat} (hk : k ≤ mc) (hn : n ≤ ms) (hp : Post (some (.int x)) M) : RN z 13 [l0, l1, l2, l3, l4] [.int x] M k n := R_iret X.1 X.2 d_P_below_13 hk hn hp
theorem i_P_below_14 {z : zT} {ws0 : va_W} {mc ms : Nat} {Post : Option Value → mM → Prop} (X : B_P_below z ws0 mc ms Post) {v : Value} {l1 l2 l3 l4 : Option Value} {M : mM} {k n : Nat} (hv : mRf v := by first | exact mRf_r _ | exact mRf_n | exact mRf_rf _ | assumption) (h : RN z 15 [some v, l1, l2, l3, l4] [v] M k n) : RN z 14 [some v, l1, l2, l3, l4] [] M k n := R_aload_n X.1 d_P_below_14 rfl rfl hv h
theorem i_P_below_15 {z : zT} {ws0 : va_W} {mc ms : Nat} {Post : Option Value → mM → Prop} (X : B_P_below z ws0 mc ms Post) {x : Int32} {l0 l2 l3 l4 : Option Value} {s0 : Value} {M : mM} {k n : Nat}  (h : RN z 16 [l0, some (.int x), l2, l3, l4] [.int x, s0] M k n) : RN z 15 [l0, some (.int x), l2, l3, l4] [s0] M k n := R_iload_n X.1 d_P_below_15 rfl rfl h
theorem i_P_below_16 {z : zT} {ws0 : va_W} {mc ms : Nat} {Post : Option Value → mM → Prop} (X : B_P_below z ws0 mc ms Post) {a0 : Value} {b : Nat} {mc1 ms1 : Nat} {Po : Option Value → mM → Prop} {fs : List Value} {l0 l1 l2 l3 l4 : Option Value} {M : mM} {k n : Nat} (hM : M b = some (.inr (3, fs))) (hC : Ct (zl z) (zD z) (zty z) y_P_findPlaces w_P_findPlaces 1 22 mc1 ms1 [.ref b, a0] M Po) (hk : k + mc1 ≤ mc) (hn : n + ms1 ≤ ms) (h : ∀ v M1, Po v M1 → RN z 19 [l0, l1, l2, l3, l4] (v.toList ++ []) M1 (k + mc1) (n + ms1)) : RN z 16 [l0, l1, l2, l3, l4] [a0, .ref b] M k n := R_callV X.1 (av := [a0]) (nA := 1) wd_132 wd_129 wd_131 wd_2 wd_30 (by decide +kernel) rfl (Nat.le_of_ble_eq_true rfl) (Nat.le_of_ble_eq_true rfl) (Nat.le_of_ble_eq_true rfl) d_P_below_16 rfl (ci := 3) rfl hM hC (by rw [BM.rc1 X.2]; exact hk) (by rw [BM.rc2 X.2]; exact hn) h
theorem i_P_below_19 {z : zT} {ws0 : va_W} {mc ms : Nat} {Post : Option Value → mM → Prop} (X : B_P_below z ws0 mc ms Post) {l0 l1 l2 l3 l4 : Option Value} {M : mM} {k n : Nat}  (h : RN z 20 [l0, l1, l2, l3, l4] [.int 0] M k n) : RN z 19 [l0, l1, l2, l3, l4] [] M k n := R_iconst X.1 d_P_below_19 (by decide) h
theorem i_P_below_20 {z : zT} {ws0 : va_W} {mc ms : Nat} {Post : Option Value → mM → Prop} (X : B_P_below z ws0 mc ms Post) {x : Int32} {l0 l1 l2 l3 l4 : Option Value} {M : mM} {k n : Nat}  (h : RN z 21 [l0, l1, l2, some (.int x), l4] [] M k n) : RN z 20 [l0, l1, l2, l3, l4] [.int x] M k n := R_istore_n X.1 d_P_below_20 rfl (Nat.le_of_ble_eq_true rfl) h
theorem i_P_below_21 {z : zT} {ws0 : va_W} {mc ms : Nat} {Post : Option Value → mM → Prop} (X : B_P_below z ws0 mc ms Post) {l0 l1 l2 l3 l4 : Option Value} {M : mM} {k n : Nat}  (h : RN z 22 [l0, l1, l2, l3, l4] [.int 0] M k n) : RN z 21 [l0, l1, l2, l3, l4] [] M k n := R_iconst X.1 d_P_below_21 (by decide) h
theorem i_P_below_22 {z : zT} {ws0 : va_W} {mc ms : Nat} {Post : Option Value → mM → Prop} (X : B_P_below z ws0 mc ms Post) {x : Int32} {l0 l1 l2 l3 l4 : Option Value} {M : mM} {k n : Nat}  (h : RN z 24 [l0, l1, l2, l3, some (.int x)] [] M k n) : RN z 22 [l0, l1, l2, l3, l4] [.int x] M k n := R_istore X.1 d_P_below_22 (Nat.le_of_ble_eq_true rfl) h
theorem i_P_below_24 {z : zT} {ws0 : va_W} {mc ms : Nat} {Post : Option Value → mM → Prop} (X : B_P_below z ws0 mc ms Post) {x : Int32} {l0 l1 l2 l3 : Option Value} {M : mM} {k n : Nat}  (h : RN z 26 [l0, l1, l2, l3, some (.int x)] [.int x] M k n) : RN z 24 [l0, l1, l2, l3, some (.int x)] [] M k n := R_iload X.1 d_P_below_24 rfl h
theorem i_P_below_26 {z : zT} {ws0 : va_W} {mc ms : Nat} {Post : Option Value → mM → Prop} (X : B_P_below z ws0 mc ms Post) {l0 l1 l2 l3 l4 : Option Value} {s0 : Value} {M : mM} {k n : Nat}  (h : RN z 28 [l0, l1, l2, l3, l4] [.int 24, s0] M k n) : RN z 26 [l0, l1, l2, l3, l4] [s0] M k n := R_bipush X.1 d_P_below_26 (by decide) h
theorem i_P_below_28 {z : zT} {ws0 : va_W} {mc ms : Nat} {Post : Option Value → mM → Prop} (X : B_P_below z ws0 mc ms Post) {x y : Int32} {l0 l1 l2 l3 l4 : Option Value} {M : mM} {k n : Nat}  (h1 : y ≤ x → RN z 56 [l0, l1, l2, l3, l4] [] M k n) (h2 : ¬ (y ≤ x) → RN z 31 [l0, l1, l2, l3, l4] [] M k n) : RN z 28 [l0, l1, l2, l3, l4] [.int y, .int x] M k n := R_icmp_ge X.1 d_P_below_28 (by decide) h1 h2
theorem i_P_below_31 {z : zT} {ws0 : va_W} {mc ms : Nat} {Post : Option Value → mM → Prop} (X : B_P_below z ws0 mc ms Post) {x : Int32} {l0 l1 l2 l3 : Option Value} {M : mM} {k n : Nat}  (h : RN z 33 [l0, l1, l2, l3, some (.int x)] [.int x] M k n) : RN z 31 [l0, l1, l2, l3, some (.int x)] [] M k n := R_iload X.1 d_P_below_31 rfl h
theorem i_P_below_33 {z : zT} {ws0 : va_W} {mc ms : Nat} {Post : Option Value → mM → Prop} (X : B_P_below z ws0 mc ms Post) {x : Int32} {l0 l1 l3 l4 : Option Value} {s0 : Value} {M : mM} {k n : Nat}  (h : RN z 34 [l0, l1, some (.int x), l3, l4] [.int x, s0] M k n) : RN z 33 [l0, l1, some (.int x), l3, l4] [s0] M k n := R_iload_n X.1 d_P_below_33 rfl rfl h
theorem i_P_below_34 {z : zT} {ws0 : va_W} {mc ms : Nat} {Post : Option Value → mM → Prop} (X : B_P_below z ws0 mc ms Post) {x y : Int32} {l0 l1 l2 l3 l4 : Option Value} {M : mM} {k n : Nat}  (h1 : x = y → RN z 50 [l0, l1, l2, l3, l4] [] M k n) (h2 : ¬ (x = y) → RN z 37 [l0, l1, l2, l3, l4] [] M k n) : RN z 34 [l0, l1, l2, l3, l4] [.int y, .int x] M k n := R_icmp_eq X.1 d_P_below_34 (by decide) h1 h2
theorem i_P_below_37 {z : zT} {ws0 : va_W} {mc ms : Nat} {Post : Option Value → mM → Prop} (X : B_P_below z ws0 mc ms Post) {v : Value} {l1 l2 l3 l4 : Option Value} {M : mM} {k n : Nat} (hv : mRf v := by first | exact mRf_r _ | exact mRf_n | exact mRf_rf _ | assumption) (h : RN z 38 [some v, l1, l2, l3, l4] [v] M k n) : RN z 37 [some v, l1, l2, l3, l4] [] M k n := R_aload_n X.1 d_P_below_37 rfl rfl hv h
theorem i_P_below_38 {z : zT} {ws0 : va_W} {mc ms : Nat} {Post : Option Value → mM → Prop} (X : B_P_below z ws0 mc ms Post) {x : Int32} {l0 l1 l2 l3 : Option Value} {s0 : Value} {M : mM} {k n : Nat}  (h : RN z 40 [l0, l1, l2, l3, some (.int x)] [.int x, s0] M k n) : RN z 38 [l0, l1, l2, l3, some (.int x)] [s0] M k n := R_iload X.1 d_P_below_38 rfl h
theorem i_P_below_40 {z : zT} {ws0 : va_W} {mc ms : Nat} {Post : Option Value → mM → Prop} (X : B_P_below z ws0 mc ms Post) {x : Int32} {l0 l1 l3 l4 : Option Value} {s0 s1 : Value} {M : mM} {k n : Nat}  (h : RN z 41 [l0, l1, some (.int x), l3, l4] [.int x, s0, s1] M k n) : RN z 40 [l0, l1, some (.int x), l3, l4] [s0, s1] M k n := R_iload_n X.1 d_P_below_40 rfl rfl h
theorem i_P_below_41 {z : zT} {ws0 : va_W} {mc ms : Nat} {Post : Option Value → mM → Prop} (X : B_P_below z ws0 mc ms Post) {a0 a1 : Value} {b : Nat} {mc1 ms1 : Nat} {Po : Option Value → mM → Prop} {fs : List Value} {l0 l1 l2 l3 l4 : Option Value} {M : mM} {k n : Nat} (hM : M b = some (.inr (3, fs))) (hC : Ct (zl z) (zD z) (zty z) y_P_isWithin w_P_isWithin 0 0 mc1 ms1 [.ref b, a0, a1] M Po) (hk : k + mc1 ≤ mc) (hn : n + ms1 ≤ ms) (h : ∀ v M1, Po v M1 → RN z 44 [l0, l1, l2, l3, l4] (v.toList ++ []) M1 (k + mc1) (n + ms1)) : RN z 41 [l0, l1, l2, l3, l4] [a1, a0, .ref b] M k n := R_callV X.1 (av := [a0, a1]) (nA := 2) wd_221 wd_218 wd_220 wd_9 wd_30 (by decide +kernel) rfl (Nat.le_of_ble_eq_true rfl) (Nat.le_of_ble_eq_true rfl) (Nat.le_of_ble_eq_true rfl) d_P_below_41 rfl (ci := 3) rfl hM hC (by rw [BM.rc1 X.2]; exact hk) (by rw [BM.rc2 X.2]; exact hn) h
theorem i_P_below_44 {z : zT} {ws0 : va_W} {mc ms : Nat} {Post : Option Value → mM → Prop} (X : B_P_below z ws0 mc ms Post) {x : Int32} {l0 l1 l2 l3 l4 : Option Value} {M : mM} {k n : Nat}  (h1 : x = 0 → RN z 50 [l0, l1, l2, l3, l4] [] M k n) (h2 : ¬ (x = 0) → RN z 47 [l0, l1, l2, l3, l4] [] M k n) : RN z 44 [l0, l1, l2, l3, l4] [.int x] M k n := R_if_eq X.1 d_P_below_44 (by decide) h1 h2
theorem i_P_below_47 {z : zT} {ws0 : va_W} {mc ms : Nat} {Post : Option Value → mM → Prop} (X : B_P_below z ws0 mc ms Post) {x : Int32} {l0 l1 l2 l4 : Option Value} {M : mM} {k n : Nat}  (h : RN z 50 [l0, l1, l2, some (.int (x + 1)), l4] [] M k n) : RN z 47 [l0, l1, l2, some (.int x), l4] [] M k n := R_iinc X.1 d_P_below_47 rfl rfl h
theorem i_P_below_50 {z : zT} {ws0 : va_W} {mc ms : Nat} {Post : Option Value → mM → Prop} (X : B_P_below z ws0 mc ms Post) {x : Int32} {l0 l1 l2 l3 : Option Value} {M : mM} {k n : Nat}  (h : RN z 53 [l0, l1, l2, l3, some (.int (x + 1))] [] M k n) : RN z 50 [l0, l1, l2, l3, some (.int x)] [] M k n := R_iinc X.1 d_P_below_50 rfl rfl h
theorem i_P_below_53 {z : zT} {ws0 : va_W} {mc ms : Nat} {Post : Option Value → mM → Prop} (X : B_P_below z ws0 mc ms Post) {l0 l1 l2 l3 l4 : Option Value} {M : mM} {k n : Nat}  (h : RN z 24 [l0, l1, l2, l3, l4] [] M k n) : RN z 53 [l0, l1, l2, l3, l4] [] M k n := R_goto X.1 d_P_below_53 (by decide) h
theorem i_P_below_56 {z : zT} {ws0 : va_W} {mc ms : Nat} {Post : Option Value → mM → Prop} (X : B_P_below z ws0 mc ms Post) {x : Int32} {l0 l1 l2 l4 : Option Value} {M : mM} {k n : Nat}  (h : RN z 57 [l0, l1, l2, some (.int x), l4] [.int x] M k n) : RN z 56 [l0, l1, l2, some (.int x), l4] [] M k n := R_iload_n X.1 d_P_below_56 rfl rfl h
theorem i_P_below_57 {z : zT} {ws0 : va_W} {mc ms : Nat} {Post : Option Value → mM → Prop} (X : B_P_below z ws0 mc ms Post) {x : Int32} {l0 l1 l2 l3 l4 : Option Value} {M : mM} {k n : Nat} (hk : k ≤ mc) (hn : n ≤ ms) (hp : Post (some (.int x)) M) : RN z 57 [l0, l1, l2, l3, l4] [.int x] M k n := R_iret X.1 X.2 d_P_below_57 hk hn hp
theorem d_P_thin_0 : decode c_P_thin 0 = .ok (.aload_n 0, 1) := by decide +kernel
theorem d_P_thin_1 : decode c_P_thin 1 = .ok (.iload_n 1, 1) := by decide +kernel
theorem d_P_thin_2 : decode c_P_thin 2 = .ok (.invokevirtual 97, 3) := by decide +kernel
theorem d_P_thin_5 : decode c_P_thin 5 = .ok (.astore_n 2, 1) := by decide +kernel
theorem d_P_thin_6 : decode c_P_thin 6 = .ok (.aload_n 2, 1) := by decide +kernel
theorem d_P_thin_7 : decode c_P_thin 7 = .ok (.ifnonnull 5, 3) := by decide +kernel
theorem d_P_thin_10 : decode c_P_thin 10 = .ok (.iconst (-1), 1) := by decide +kernel
theorem d_P_thin_11 : decode c_P_thin 11 = .ok (.ireturn, 1) := by decide +kernel
theorem d_P_thin_12 : decode c_P_thin 12 = .ok (.aload_n 0, 1) := by decide +kernel
theorem d_P_thin_13 : decode c_P_thin 13 = .ok (.invokevirtual 128, 3) := by decide +kernel
theorem d_P_thin_16 : decode c_P_thin 16 = .ok (.aload_n 0, 1) := by decide +kernel
theorem d_P_thin_17 : decode c_P_thin 17 = .ok (.aload_n 2, 1) := by decide +kernel
theorem d_P_thin_18 : decode c_P_thin 18 = .ok (.invokevirtual 131, 3) := by decide +kernel
theorem d_P_thin_21 : decode c_P_thin 21 = .ok (.ireturn, 1) := by decide +kernel
abbrev B_P_thin (z : zT) (ws0 : va_W) (mc ms : Nat) (Post : Option Value → mM → Prop) : Prop := BX z c_P_thin 3 y_P_thin.cls y_P_thin.name 2 42 ∧ BQ z (some (.int)) ws0 mc ms Post
abbrev Ct_P_thin (l : Launch) (D : va_G) (tys : List (ClassId × FieldType)) (mc ms : Nat) (av : List Value) (M : mM) (Post : Option Value → mM → Prop) : Prop := Ct l D tys y_P_thin w_P_thin 2 42 mc ms av M Post
theorem i_P_thin_0 {z : zT} {ws0 : va_W} {mc ms : Nat} {Post : Option Value → mM → Prop} (X : B_P_thin z ws0 mc ms Post) {v : Value} {l1 l2 : Option Value} {M : mM} {k n : Nat} (hv : mRf v := by first | exact mRf_r _ | exact mRf_n | exact mRf_rf _ | assumption) (h : RN z 1 [some v, l1, l2] [v] M k n) : RN z 0 [some v, l1, l2] [] M k n := R_aload_n X.1 d_P_thin_0 rfl rfl hv h
theorem i_P_thin_1 {z : zT} {ws0 : va_W} {mc ms : Nat} {Post : Option Value → mM → Prop} (X : B_P_thin z ws0 mc ms Post) {x : Int32} {l0 l2 : Option Value} {s0 : Value} {M : mM} {k n : Nat}  (h : RN z 2 [l0, some (.int x), l2] [.int x, s0] M k n) : RN z 1 [l0, some (.int x), l2] [s0] M k n := R_iload_n X.1 d_P_thin_1 rfl rfl h
theorem i_P_thin_2 {z : zT} {ws0 : va_W} {mc ms : Nat} {Post : Option Value → mM → Prop} (X : B_P_thin z ws0 mc ms Post) {a0 : Value} {b : Nat} {mc1 ms1 : Nat} {Po : Option Value → mM → Prop} {fs : List Value} {l0 l1 l2 : Option Value} {M : mM} {k n : Nat} (hM : M b = some (.inr (3, fs))) (hC : Ct (zl z) (zD z) (zty z) y_P_latestVersion w_P_latestVersion 1 21 mc1 ms1 [.ref b, a0] M Po) (hk : k + mc1 ≤ mc) (hn : n + ms1 ≤ ms) (h : ∀ v M1, Po v M1 → RN z 5 [l0, l1, l2] (v.toList ++ []) M1 (k + mc1) (n + ms1)) : RN z 2 [l0, l1, l2] [a0, .ref b] M k n := R_callV X.1 (av := [a0]) (nA := 1) wd_229 wd_226 wd_228 wd_10 wd_30 (by decide +kernel) rfl (Nat.le_of_ble_eq_true rfl) (Nat.le_of_ble_eq_true rfl) (Nat.le_of_ble_eq_true rfl) d_P_thin_2 rfl (ci := 3) rfl hM hC (by rw [BM.rc1 X.2]; exact hk) (by rw [BM.rc2 X.2]; exact hn) h
theorem i_P_thin_5 {z : zT} {ws0 : va_W} {mc ms : Nat} {Post : Option Value → mM → Prop} (X : B_P_thin z ws0 mc ms Post) {v : Value} {l0 l1 l2 : Option Value} {M : mM} {k n : Nat} (hv : mRf v := by first | exact mRf_r _ | exact mRf_n | exact mRf_rf _ | assumption) (h : RN z 6 [l0, l1, some v] [] M k n) : RN z 5 [l0, l1, l2] [v] M k n := R_astore_n X.1 d_P_thin_5 rfl hv (Nat.le_of_ble_eq_true rfl) h
theorem i_P_thin_6 {z : zT} {ws0 : va_W} {mc ms : Nat} {Post : Option Value → mM → Prop} (X : B_P_thin z ws0 mc ms Post) {v : Value} {l0 l1 : Option Value} {M : mM} {k n : Nat} (hv : mRf v := by first | exact mRf_r _ | exact mRf_n | exact mRf_rf _ | assumption) (h : RN z 7 [l0, l1, some v] [v] M k n) : RN z 6 [l0, l1, some v] [] M k n := R_aload_n X.1 d_P_thin_6 rfl rfl hv h
theorem i_P_thin_7 {z : zT} {ws0 : va_W} {mc ms : Nat} {Post : Option Value → mM → Prop} (X : B_P_thin z ws0 mc ms Post) {v : Value} {l0 l1 l2 : Option Value} {M : mM} {k n : Nat} (hv : mRf v := by first | exact mRf_r _ | exact mRf_n | exact mRf_rf _ | assumption) (h1 : ∀ a, v = .ref a → RN z 12 [l0, l1, l2] [] M k n) (h2 : v = .null → RN z 10 [l0, l1, l2] [] M k n) : RN z 7 [l0, l1, l2] [v] M k n := R_ifnonnull X.1 d_P_thin_7 (by decide) hv h1 h2
theorem i_P_thin_10 {z : zT} {ws0 : va_W} {mc ms : Nat} {Post : Option Value → mM → Prop} (X : B_P_thin z ws0 mc ms Post) {l0 l1 l2 : Option Value} {M : mM} {k n : Nat}  (h : RN z 11 [l0, l1, l2] [.int (-1)] M k n) : RN z 10 [l0, l1, l2] [] M k n := R_iconst X.1 d_P_thin_10 (by decide) h
theorem i_P_thin_11 {z : zT} {ws0 : va_W} {mc ms : Nat} {Post : Option Value → mM → Prop} (X : B_P_thin z ws0 mc ms Post) {x : Int32} {l0 l1 l2 : Option Value} {M : mM} {k n : Nat} (hk : k ≤ mc) (hn : n ≤ ms) (hp : Post (some (.int x)) M) : RN z 11 [l0, l1, l2] [.int x] M k n := R_iret X.1 X.2 d_P_thin_11 hk hn hp
theorem i_P_thin_12 {z : zT} {ws0 : va_W} {mc ms : Nat} {Post : Option Value → mM → Prop} (X : B_P_thin z ws0 mc ms Post) {v : Value} {l1 l2 : Option Value} {M : mM} {k n : Nat} (hv : mRf v := by first | exact mRf_r _ | exact mRf_n | exact mRf_rf _ | assumption) (h : RN z 13 [some v, l1, l2] [v] M k n) : RN z 12 [some v, l1, l2] [] M k n := R_aload_n X.1 d_P_thin_12 rfl rfl hv h
theorem i_P_thin_13 {z : zT} {ws0 : va_W} {mc ms : Nat} {Post : Option Value → mM → Prop} (X : B_P_thin z ws0 mc ms Post) {b : Nat} {mc1 ms1 : Nat} {Po : Option Value → mM → Prop} {fs : List Value} {l0 l1 l2 : Option Value} {M : mM} {k n : Nat} (hM : M b = some (.inr (3, fs))) (hC : Ct (zl z) (zD z) (zty z) y_P_makeDurable w_P_makeDurable 1 20 mc1 ms1 [.ref b] M Po) (hk : k + mc1 ≤ mc) (hn : n + ms1 ≤ ms) (h : ∀ v M1, Po v M1 → RN z 16 [l0, l1, l2] (v.toList ++ []) M1 (k + mc1) (n + ms1)) : RN z 13 [l0, l1, l2] [.ref b] M k n := R_callV X.1 (av := []) (nA := 0) wd_280 wd_277 wd_279 wd_12 wd_30 (by decide +kernel) rfl (Nat.le_of_ble_eq_true rfl) (Nat.le_of_ble_eq_true rfl) (Nat.le_of_ble_eq_true rfl) d_P_thin_13 rfl (ci := 3) rfl hM hC (by rw [BM.rc1 X.2]; exact hk) (by rw [BM.rc2 X.2]; exact hn) h
theorem i_P_thin_16 {z : zT} {ws0 : va_W} {mc ms : Nat} {Post : Option Value → mM → Prop} (X : B_P_thin z ws0 mc ms Post) {v : Value} {l1 l2 : Option Value} {M : mM} {k n : Nat} (hv : mRf v := by first | exact mRf_r _ | exact mRf_n | exact mRf_rf _ | assumption) (h : RN z 17 [some v, l1, l2] [v] M k n) : RN z 16 [some v, l1, l2] [] M k n := R_aload_n X.1 d_P_thin_16 rfl rfl hv h
theorem i_P_thin_17 {z : zT} {ws0 : va_W} {mc ms : Nat} {Post : Option Value → mM → Prop} (X : B_P_thin z ws0 mc ms Post) {v : Value} {l0 l1 : Option Value} {s0 : Value} {M : mM} {k n : Nat} (hv : mRf v := by first | exact mRf_r _ | exact mRf_n | exact mRf_rf _ | assumption) (h : RN z 18 [l0, l1, some v] [v, s0] M k n) : RN z 17 [l0, l1, some v] [s0] M k n := R_aload_n X.1 d_P_thin_17 rfl rfl hv h
theorem i_P_thin_18 {z : zT} {ws0 : va_W} {mc ms : Nat} {Post : Option Value → mM → Prop} (X : B_P_thin z ws0 mc ms Post) {a0 : Value} {b : Nat} {mc1 ms1 : Nat} {Po : Option Value → mM → Prop} {fs : List Value} {l0 l1 l2 : Option Value} {M : mM} {k n : Nat} (hM : M b = some (.inr (3, fs))) (hC : Ct (zl z) (zD z) (zty z) y_P_dropThinned w_P_dropThinned 0 0 mc1 ms1 [.ref b, a0] M Po) (hk : k + mc1 ≤ mc) (hn : n + ms1 ≤ ms) (h : ∀ v M1, Po v M1 → RN z 21 [l0, l1, l2] (v.toList ++ []) M1 (k + mc1) (n + ms1)) : RN z 18 [l0, l1, l2] [a0, .ref b] M k n := R_callV X.1 (av := [a0]) (nA := 1) wd_288 wd_285 wd_287 wd_13 wd_30 (by decide +kernel) rfl (Nat.le_of_ble_eq_true rfl) (Nat.le_of_ble_eq_true rfl) (Nat.le_of_ble_eq_true rfl) d_P_thin_18 rfl (ci := 3) rfl hM hC (by rw [BM.rc1 X.2]; exact hk) (by rw [BM.rc2 X.2]; exact hn) h
theorem i_P_thin_21 {z : zT} {ws0 : va_W} {mc ms : Nat} {Post : Option Value → mM → Prop} (X : B_P_thin z ws0 mc ms Post) {x : Int32} {l0 l1 l2 : Option Value} {M : mM} {k n : Nat} (hk : k ≤ mc) (hn : n ≤ ms) (hp : Post (some (.int x)) M) : RN z 21 [l0, l1, l2] [.int x] M k n := R_iret X.1 X.2 d_P_thin_21 hk hn hp
theorem d_P_sync_0 : decode c_P_sync 0 = .ok (.aload_n 0, 1) := by decide +kernel
theorem d_P_sync_1 : decode c_P_sync 1 = .ok (.invokevirtual 128, 3) := by decide +kernel
theorem d_P_sync_4 : decode c_P_sync 4 = .ok (.aload_n 0, 1) := by decide +kernel
theorem d_P_sync_5 : decode c_P_sync 5 = .ok (.getfield 26, 3) := by decide +kernel
theorem d_P_sync_8 : decode c_P_sync 8 = .ok (.ireturn, 1) := by decide +kernel
abbrev B_P_sync (z : zT) (ws0 : va_W) (mc ms : Nat) (Post : Option Value → mM → Prop) : Prop := BX z c_P_sync 1 y_P_sync.cls y_P_sync.name 2 41 ∧ BQ z (some (.int)) ws0 mc ms Post
abbrev Ct_P_sync (l : Launch) (D : va_G) (tys : List (ClassId × FieldType)) (mc ms : Nat) (av : List Value) (M : mM) (Post : Option Value → mM → Prop) : Prop := Ct l D tys y_P_sync w_P_sync 2 41 mc ms av M Post
theorem i_P_sync_0 {z : zT} {ws0 : va_W} {mc ms : Nat} {Post : Option Value → mM → Prop} (X : B_P_sync z ws0 mc ms Post) {v : Value} {M : mM} {k n : Nat} (hv : mRf v := by first | exact mRf_r _ | exact mRf_n | exact mRf_rf _ | assumption) (h : RN z 1 [some v] [v] M k n) : RN z 0 [some v] [] M k n := R_aload_n X.1 d_P_sync_0 rfl rfl hv h
theorem i_P_sync_1 {z : zT} {ws0 : va_W} {mc ms : Nat} {Post : Option Value → mM → Prop} (X : B_P_sync z ws0 mc ms Post) {b : Nat} {mc1 ms1 : Nat} {Po : Option Value → mM → Prop} {fs : List Value} {l0 : Option Value} {M : mM} {k n : Nat} (hM : M b = some (.inr (3, fs))) (hC : Ct (zl z) (zD z) (zty z) y_P_makeDurable w_P_makeDurable 1 20 mc1 ms1 [.ref b] M Po) (hk : k + mc1 ≤ mc) (hn : n + ms1 ≤ ms) (h : ∀ v M1, Po v M1 → RN z 4 [l0] (v.toList ++ []) M1 (k + mc1) (n + ms1)) : RN z 1 [l0] [.ref b] M k n := R_callV X.1 (av := []) (nA := 0) wd_280 wd_277 wd_279 wd_12 wd_30 (by decide +kernel) rfl (Nat.le_of_ble_eq_true rfl) (Nat.le_of_ble_eq_true rfl) (Nat.le_of_ble_eq_true rfl) d_P_sync_1 rfl (ci := 3) rfl hM hC (by rw [BM.rc1 X.2]; exact hk) (by rw [BM.rc2 X.2]; exact hn) h
theorem i_P_sync_4 {z : zT} {ws0 : va_W} {mc ms : Nat} {Post : Option Value → mM → Prop} (X : B_P_sync z ws0 mc ms Post) {v : Value} {M : mM} {k n : Nat} (hv : mRf v := by first | exact mRf_r _ | exact mRf_n | exact mRf_rf _ | assumption) (h : RN z 5 [some v] [v] M k n) : RN z 4 [some v] [] M k n := R_aload_n X.1 d_P_sync_4 rfl rfl hv h
theorem i_P_sync_5 {z : zT} {ws0 : va_W} {mc ms : Nat} {Post : Option Value → mM → Prop} (X : B_P_sync z ws0 mc ms Post) {a : Nat} {f0 f1 f2 f3 f4 f5 f6 f7 f8 f9 f10 : Value} {l0 : Option Value} {M : mM} {k n : Nat} (hM : M a = some (.inr (3, [f0, f1, f2, f3, f4, f5, f6, f7, f8, f9, f10]))) (h : RN z 8 [l0] [f6] M k n) : RN z 5 [l0] [.ref a] M k n := R_get X.1 inX3 rfl 6 (Nat.le_of_ble_eq_true rfl) wd_82 d_P_sync_5 hM rfl h
theorem i_P_sync_8 {z : zT} {ws0 : va_W} {mc ms : Nat} {Post : Option Value → mM → Prop} (X : B_P_sync z ws0 mc ms Post) {x : Int32} {l0 : Option Value} {M : mM} {k n : Nat} (hk : k ≤ mc) (hn : n ≤ ms) (hp : Post (some (.int x)) M) : RN z 8 [l0] [.int x] M k n := R_iret X.1 X.2 d_P_sync_8 hk hn hp
theorem d_P_crash_0 : decode c_P_crash 0 = .ok (.aload_n 0, 1) := by decide +kernel
theorem d_P_crash_1 : decode c_P_crash 1 = .ok (.getfield 26, 3) := by decide +kernel
theorem d_P_crash_4 : decode c_P_crash 4 = .ok (.aload_n 0, 1) := by decide +kernel
theorem d_P_crash_5 : decode c_P_crash 5 = .ok (.getfield 35, 3) := by decide +kernel
theorem d_P_crash_8 : decode c_P_crash 8 = .ok (.isub, 1) := by decide +kernel
theorem d_P_crash_9 : decode c_P_crash 9 = .ok (.istore_n 1, 1) := by decide +kernel
theorem d_P_crash_10 : decode c_P_crash 10 = .ok (.aload_n 0, 1) := by decide +kernel
theorem d_P_crash_11 : decode c_P_crash 11 = .ok (.aload_n 0, 1) := by decide +kernel
theorem d_P_crash_12 : decode c_P_crash 12 = .ok (.getfield 29, 3) := by decide +kernel
theorem d_P_crash_15 : decode c_P_crash 15 = .ok (.putfield 19, 3) := by decide +kernel
theorem d_P_crash_18 : decode c_P_crash 18 = .ok (.aload_n 0, 1) := by decide +kernel
theorem d_P_crash_19 : decode c_P_crash 19 = .ok (.aload_n 0, 1) := by decide +kernel
theorem d_P_crash_20 : decode c_P_crash 20 = .ok (.getfield 32, 3) := by decide +kernel
theorem d_P_crash_23 : decode c_P_crash 23 = .ok (.putfield 23, 3) := by decide +kernel
theorem d_P_crash_26 : decode c_P_crash 26 = .ok (.aload_n 0, 1) := by decide +kernel
theorem d_P_crash_27 : decode c_P_crash 27 = .ok (.aload_n 0, 1) := by decide +kernel
theorem d_P_crash_28 : decode c_P_crash 28 = .ok (.getfield 35, 3) := by decide +kernel
theorem d_P_crash_31 : decode c_P_crash 31 = .ok (.putfield 26, 3) := by decide +kernel
theorem d_P_crash_34 : decode c_P_crash 34 = .ok (.iconst 0, 1) := by decide +kernel
theorem d_P_crash_35 : decode c_P_crash 35 = .ok (.istore_n 2, 1) := by decide +kernel
theorem d_P_crash_36 : decode c_P_crash 36 = .ok (.iload_n 2, 1) := by decide +kernel
theorem d_P_crash_37 : decode c_P_crash 37 = .ok (.bipush 24, 2) := by decide +kernel
theorem d_P_crash_39 : decode c_P_crash 39 = .ok (.if_icmp .ge 18, 3) := by decide +kernel
theorem d_P_crash_42 : decode c_P_crash 42 = .ok (.aload_n 0, 1) := by decide +kernel
theorem d_P_crash_43 : decode c_P_crash 43 = .ok (.getfield 11, 3) := by decide +kernel
theorem d_P_crash_46 : decode c_P_crash 46 = .ok (.iload_n 2, 1) := by decide +kernel
theorem d_P_crash_47 : decode c_P_crash 47 = .ok (.aaload, 1) := by decide +kernel
theorem d_P_crash_48 : decode c_P_crash 48 = .ok (.invokevirtual 135, 3) := by decide +kernel
theorem d_P_crash_51 : decode c_P_crash 51 = .ok (.iinc 2 1, 3) := by decide +kernel
theorem d_P_crash_54 : decode c_P_crash 54 = .ok (.goto (-18), 3) := by decide +kernel
theorem d_P_crash_57 : decode c_P_crash 57 = .ok (.iload_n 1, 1) := by decide +kernel
theorem d_P_crash_58 : decode c_P_crash 58 = .ok (.ireturn, 1) := by decide +kernel
abbrev B_P_crash (z : zT) (ws0 : va_W) (mc ms : Nat) (Post : Option Value → mM → Prop) : Prop := BX z c_P_crash 3 y_P_crash.cls y_P_crash.name 1 20 ∧ BQ z (some (.int)) ws0 mc ms Post
abbrev Ct_P_crash (l : Launch) (D : va_G) (tys : List (ClassId × FieldType)) (mc ms : Nat) (av : List Value) (M : mM) (Post : Option Value → mM → Prop) : Prop := Ct l D tys y_P_crash w_P_crash 1 20 mc ms av M Post
theorem i_P_crash_0 {z : zT} {ws0 : va_W} {mc ms : Nat} {Post : Option Value → mM → Prop} (X : B_P_crash z ws0 mc ms Post) {v : Value} {l1 l2 : Option Value} {M : mM} {k n : Nat} (hv : mRf v := by first | exact mRf_r _ | exact mRf_n | exact mRf_rf _ | assumption) (h : RN z 1 [some v, l1, l2] [v] M k n) : RN z 0 [some v, l1, l2] [] M k n := R_aload_n X.1 d_P_crash_0 rfl rfl hv h
theorem i_P_crash_1 {z : zT} {ws0 : va_W} {mc ms : Nat} {Post : Option Value → mM → Prop} (X : B_P_crash z ws0 mc ms Post) {a : Nat} {f0 f1 f2 f3 f4 f5 f6 f7 f8 f9 f10 : Value} {l0 l1 l2 : Option Value} {M : mM} {k n : Nat} (hM : M a = some (.inr (3, [f0, f1, f2, f3, f4, f5, f6, f7, f8, f9, f10]))) (h : RN z 4 [l0, l1, l2] [f6] M k n) : RN z 1 [l0, l1, l2] [.ref a] M k n := R_get X.1 inX3 rfl 6 (Nat.le_of_ble_eq_true rfl) wd_82 d_P_crash_1 hM rfl h
theorem i_P_crash_4 {z : zT} {ws0 : va_W} {mc ms : Nat} {Post : Option Value → mM → Prop} (X : B_P_crash z ws0 mc ms Post) {v : Value} {l1 l2 : Option Value} {s0 : Value} {M : mM} {k n : Nat} (hv : mRf v := by first | exact mRf_r _ | exact mRf_n | exact mRf_rf _ | assumption) (h : RN z 5 [some v, l1, l2] [v, s0] M k n) : RN z 4 [some v, l1, l2] [s0] M k n := R_aload_n X.1 d_P_crash_4 rfl rfl hv h
theorem i_P_crash_5 {z : zT} {ws0 : va_W} {mc ms : Nat} {Post : Option Value → mM → Prop} (X : B_P_crash z ws0 mc ms Post) {a : Nat} {f0 f1 f2 f3 f4 f5 f6 f7 f8 f9 f10 : Value} {l0 l1 l2 : Option Value} {s0 : Value} {M : mM} {k n : Nat} (hM : M a = some (.inr (3, [f0, f1, f2, f3, f4, f5, f6, f7, f8, f9, f10]))) (h : RN z 8 [l0, l1, l2] [f9, s0] M k n) : RN z 5 [l0, l1, l2] [.ref a, s0] M k n := R_get X.1 inX3 rfl 9 (Nat.le_of_ble_eq_true rfl) wd_85 d_P_crash_5 hM rfl h
theorem i_P_crash_8 {z : zT} {ws0 : va_W} {mc ms : Nat} {Post : Option Value → mM → Prop} (X : B_P_crash z ws0 mc ms Post) {x y : Int32} {l0 l1 l2 : Option Value} {M : mM} {k n : Nat}  (h : RN z 9 [l0, l1, l2] [.int (x - y)] M k n) : RN z 8 [l0, l1, l2] [.int y, .int x] M k n := R_isub X.1 d_P_crash_8 h
theorem i_P_crash_9 {z : zT} {ws0 : va_W} {mc ms : Nat} {Post : Option Value → mM → Prop} (X : B_P_crash z ws0 mc ms Post) {x : Int32} {l0 l1 l2 : Option Value} {M : mM} {k n : Nat}  (h : RN z 10 [l0, some (.int x), l2] [] M k n) : RN z 9 [l0, l1, l2] [.int x] M k n := R_istore_n X.1 d_P_crash_9 rfl (Nat.le_of_ble_eq_true rfl) h
theorem i_P_crash_10 {z : zT} {ws0 : va_W} {mc ms : Nat} {Post : Option Value → mM → Prop} (X : B_P_crash z ws0 mc ms Post) {v : Value} {l1 l2 : Option Value} {M : mM} {k n : Nat} (hv : mRf v := by first | exact mRf_r _ | exact mRf_n | exact mRf_rf _ | assumption) (h : RN z 11 [some v, l1, l2] [v] M k n) : RN z 10 [some v, l1, l2] [] M k n := R_aload_n X.1 d_P_crash_10 rfl rfl hv h
theorem i_P_crash_11 {z : zT} {ws0 : va_W} {mc ms : Nat} {Post : Option Value → mM → Prop} (X : B_P_crash z ws0 mc ms Post) {v : Value} {l1 l2 : Option Value} {s0 : Value} {M : mM} {k n : Nat} (hv : mRf v := by first | exact mRf_r _ | exact mRf_n | exact mRf_rf _ | assumption) (h : RN z 12 [some v, l1, l2] [v, s0] M k n) : RN z 11 [some v, l1, l2] [s0] M k n := R_aload_n X.1 d_P_crash_11 rfl rfl hv h
theorem i_P_crash_12 {z : zT} {ws0 : va_W} {mc ms : Nat} {Post : Option Value → mM → Prop} (X : B_P_crash z ws0 mc ms Post) {a : Nat} {f0 f1 f2 f3 f4 f5 f6 f7 f8 f9 f10 : Value} {l0 l1 l2 : Option Value} {s0 : Value} {M : mM} {k n : Nat} (hM : M a = some (.inr (3, [f0, f1, f2, f3, f4, f5, f6, f7, f8, f9, f10]))) (h : RN z 15 [l0, l1, l2] [f7, s0] M k n) : RN z 12 [l0, l1, l2] [.ref a, s0] M k n := R_get X.1 inX3 rfl 7 (Nat.le_of_ble_eq_true rfl) wd_83 d_P_crash_12 hM rfl h
theorem i_P_crash_15 {z : zT} {ws0 : va_W} {mc ms : Nat} {Post : Option Value → mM → Prop} (X : B_P_crash z ws0 mc ms Post) {a : Nat} {f0 f1 f2 f3 f4 f5 f6 f7 f8 f9 f10 : Value} {x : Int32} {l0 l1 l2 : Option Value} {M : mM} {k n : Nat} (hM : M a = some (.inr (3, [f0, f1, f2, f3, f4, f5, f6, f7, f8, f9, f10]))) (h : RN z 18 [l0, l1, l2] [] (mS M a (.inr (3, [f0, f1, f2, f3, .int x, f5, f6, f7, f8, f9, f10]))) k n) : RN z 15 [l0, l1, l2] [.int x, .ref a] M k n := R_put X.1 inX3 rfl 4 (Nat.le_of_ble_eq_true rfl) tyX3 tyX3_ok nmX3 wd_80 rfl (by decide +kernel : parseFieldDescriptor (TX3 4).2.2.1 = some (.int)) rfl rfl d_P_crash_15 hM (Nat.le_of_ble_eq_true rfl) h
theorem i_P_crash_18 {z : zT} {ws0 : va_W} {mc ms : Nat} {Post : Option Value → mM → Prop} (X : B_P_crash z ws0 mc ms Post) {v : Value} {l1 l2 : Option Value} {M : mM} {k n : Nat} (hv : mRf v := by first | exact mRf_r _ | exact mRf_n | exact mRf_rf _ | assumption) (h : RN z 19 [some v, l1, l2] [v] M k n) : RN z 18 [some v, l1, l2] [] M k n := R_aload_n X.1 d_P_crash_18 rfl rfl hv h
theorem i_P_crash_19 {z : zT} {ws0 : va_W} {mc ms : Nat} {Post : Option Value → mM → Prop} (X : B_P_crash z ws0 mc ms Post) {v : Value} {l1 l2 : Option Value} {s0 : Value} {M : mM} {k n : Nat} (hv : mRf v := by first | exact mRf_r _ | exact mRf_n | exact mRf_rf _ | assumption) (h : RN z 20 [some v, l1, l2] [v, s0] M k n) : RN z 19 [some v, l1, l2] [s0] M k n := R_aload_n X.1 d_P_crash_19 rfl rfl hv h
theorem i_P_crash_20 {z : zT} {ws0 : va_W} {mc ms : Nat} {Post : Option Value → mM → Prop} (X : B_P_crash z ws0 mc ms Post) {a : Nat} {f0 f1 f2 f3 f4 f5 f6 f7 f8 f9 f10 : Value} {l0 l1 l2 : Option Value} {s0 : Value} {M : mM} {k n : Nat} (hM : M a = some (.inr (3, [f0, f1, f2, f3, f4, f5, f6, f7, f8, f9, f10]))) (h : RN z 23 [l0, l1, l2] [f8, s0] M k n) : RN z 20 [l0, l1, l2] [.ref a, s0] M k n := R_get X.1 inX3 rfl 8 (Nat.le_of_ble_eq_true rfl) wd_84 d_P_crash_20 hM rfl h
theorem i_P_crash_23 {z : zT} {ws0 : va_W} {mc ms : Nat} {Post : Option Value → mM → Prop} (X : B_P_crash z ws0 mc ms Post) {a : Nat} {f0 f1 f2 f3 f4 f5 f6 f7 f8 f9 f10 : Value} {x : Int32} {l0 l1 l2 : Option Value} {M : mM} {k n : Nat} (hM : M a = some (.inr (3, [f0, f1, f2, f3, f4, f5, f6, f7, f8, f9, f10]))) (h : RN z 26 [l0, l1, l2] [] (mS M a (.inr (3, [f0, f1, f2, f3, f4, .int x, f6, f7, f8, f9, f10]))) k n) : RN z 23 [l0, l1, l2] [.int x, .ref a] M k n := R_put X.1 inX3 rfl 5 (Nat.le_of_ble_eq_true rfl) tyX3 tyX3_ok nmX3 wd_81 rfl (by decide +kernel : parseFieldDescriptor (TX3 5).2.2.1 = some (.int)) rfl rfl d_P_crash_23 hM (Nat.le_of_ble_eq_true rfl) h
theorem i_P_crash_26 {z : zT} {ws0 : va_W} {mc ms : Nat} {Post : Option Value → mM → Prop} (X : B_P_crash z ws0 mc ms Post) {v : Value} {l1 l2 : Option Value} {M : mM} {k n : Nat} (hv : mRf v := by first | exact mRf_r _ | exact mRf_n | exact mRf_rf _ | assumption) (h : RN z 27 [some v, l1, l2] [v] M k n) : RN z 26 [some v, l1, l2] [] M k n := R_aload_n X.1 d_P_crash_26 rfl rfl hv h
theorem i_P_crash_27 {z : zT} {ws0 : va_W} {mc ms : Nat} {Post : Option Value → mM → Prop} (X : B_P_crash z ws0 mc ms Post) {v : Value} {l1 l2 : Option Value} {s0 : Value} {M : mM} {k n : Nat} (hv : mRf v := by first | exact mRf_r _ | exact mRf_n | exact mRf_rf _ | assumption) (h : RN z 28 [some v, l1, l2] [v, s0] M k n) : RN z 27 [some v, l1, l2] [s0] M k n := R_aload_n X.1 d_P_crash_27 rfl rfl hv h
theorem i_P_crash_28 {z : zT} {ws0 : va_W} {mc ms : Nat} {Post : Option Value → mM → Prop} (X : B_P_crash z ws0 mc ms Post) {a : Nat} {f0 f1 f2 f3 f4 f5 f6 f7 f8 f9 f10 : Value} {l0 l1 l2 : Option Value} {s0 : Value} {M : mM} {k n : Nat} (hM : M a = some (.inr (3, [f0, f1, f2, f3, f4, f5, f6, f7, f8, f9, f10]))) (h : RN z 31 [l0, l1, l2] [f9, s0] M k n) : RN z 28 [l0, l1, l2] [.ref a, s0] M k n := R_get X.1 inX3 rfl 9 (Nat.le_of_ble_eq_true rfl) wd_85 d_P_crash_28 hM rfl h
theorem i_P_crash_31 {z : zT} {ws0 : va_W} {mc ms : Nat} {Post : Option Value → mM → Prop} (X : B_P_crash z ws0 mc ms Post) {a : Nat} {f0 f1 f2 f3 f4 f5 f6 f7 f8 f9 f10 : Value} {x : Int32} {l0 l1 l2 : Option Value} {M : mM} {k n : Nat} (hM : M a = some (.inr (3, [f0, f1, f2, f3, f4, f5, f6, f7, f8, f9, f10]))) (h : RN z 34 [l0, l1, l2] [] (mS M a (.inr (3, [f0, f1, f2, f3, f4, f5, .int x, f7, f8, f9, f10]))) k n) : RN z 31 [l0, l1, l2] [.int x, .ref a] M k n := R_put X.1 inX3 rfl 6 (Nat.le_of_ble_eq_true rfl) tyX3 tyX3_ok nmX3 wd_82 rfl (by decide +kernel : parseFieldDescriptor (TX3 6).2.2.1 = some (.int)) rfl rfl d_P_crash_31 hM (Nat.le_of_ble_eq_true rfl) h
theorem i_P_crash_34 {z : zT} {ws0 : va_W} {mc ms : Nat} {Post : Option Value → mM → Prop} (X : B_P_crash z ws0 mc ms Post) {l0 l1 l2 : Option Value} {M : mM} {k n : Nat}  (h : RN z 35 [l0, l1, l2] [.int 0] M k n) : RN z 34 [l0, l1, l2] [] M k n := R_iconst X.1 d_P_crash_34 (by decide) h
theorem i_P_crash_35 {z : zT} {ws0 : va_W} {mc ms : Nat} {Post : Option Value → mM → Prop} (X : B_P_crash z ws0 mc ms Post) {x : Int32} {l0 l1 l2 : Option Value} {M : mM} {k n : Nat}  (h : RN z 36 [l0, l1, some (.int x)] [] M k n) : RN z 35 [l0, l1, l2] [.int x] M k n := R_istore_n X.1 d_P_crash_35 rfl (Nat.le_of_ble_eq_true rfl) h
theorem i_P_crash_36 {z : zT} {ws0 : va_W} {mc ms : Nat} {Post : Option Value → mM → Prop} (X : B_P_crash z ws0 mc ms Post) {x : Int32} {l0 l1 : Option Value} {M : mM} {k n : Nat}  (h : RN z 37 [l0, l1, some (.int x)] [.int x] M k n) : RN z 36 [l0, l1, some (.int x)] [] M k n := R_iload_n X.1 d_P_crash_36 rfl rfl h
theorem i_P_crash_37 {z : zT} {ws0 : va_W} {mc ms : Nat} {Post : Option Value → mM → Prop} (X : B_P_crash z ws0 mc ms Post) {l0 l1 l2 : Option Value} {s0 : Value} {M : mM} {k n : Nat}  (h : RN z 39 [l0, l1, l2] [.int 24, s0] M k n) : RN z 37 [l0, l1, l2] [s0] M k n := R_bipush X.1 d_P_crash_37 (by decide) h
theorem i_P_crash_39 {z : zT} {ws0 : va_W} {mc ms : Nat} {Post : Option Value → mM → Prop} (X : B_P_crash z ws0 mc ms Post) {x y : Int32} {l0 l1 l2 : Option Value} {M : mM} {k n : Nat}  (h1 : y ≤ x → RN z 57 [l0, l1, l2] [] M k n) (h2 : ¬ (y ≤ x) → RN z 42 [l0, l1, l2] [] M k n) : RN z 39 [l0, l1, l2] [.int y, .int x] M k n := R_icmp_ge X.1 d_P_crash_39 (by decide) h1 h2
theorem i_P_crash_42 {z : zT} {ws0 : va_W} {mc ms : Nat} {Post : Option Value → mM → Prop} (X : B_P_crash z ws0 mc ms Post) {v : Value} {l1 l2 : Option Value} {M : mM} {k n : Nat} (hv : mRf v := by first | exact mRf_r _ | exact mRf_n | exact mRf_rf _ | assumption) (h : RN z 43 [some v, l1, l2] [v] M k n) : RN z 42 [some v, l1, l2] [] M k n := R_aload_n X.1 d_P_crash_42 rfl rfl hv h
theorem i_P_crash_43 {z : zT} {ws0 : va_W} {mc ms : Nat} {Post : Option Value → mM → Prop} (X : B_P_crash z ws0 mc ms Post) {a : Nat} {f0 f1 f2 f3 f4 f5 f6 f7 f8 f9 f10 : Value} {l0 l1 l2 : Option Value} {M : mM} {k n : Nat} (hM : M a = some (.inr (3, [f0, f1, f2, f3, f4, f5, f6, f7, f8, f9, f10]))) (h : RN z 46 [l0, l1, l2] [f2] M k n) : RN z 43 [l0, l1, l2] [.ref a] M k n := R_get X.1 inX3 rfl 2 (Nat.le_of_ble_eq_true rfl) wd_78 d_P_crash_43 hM rfl h
theorem i_P_crash_46 {z : zT} {ws0 : va_W} {mc ms : Nat} {Post : Option Value → mM → Prop} (X : B_P_crash z ws0 mc ms Post) {x : Int32} {l0 l1 : Option Value} {s0 : Value} {M : mM} {k n : Nat}  (h : RN z 47 [l0, l1, some (.int x)] [.int x, s0] M k n) : RN z 46 [l0, l1, some (.int x)] [s0] M k n := R_iload_n X.1 d_P_crash_46 rfl rfl h
theorem i_P_crash_47 {z : zT} {ws0 : va_W} {mc ms : Nat} {Post : Option Value → mM → Prop} (X : B_P_crash z ws0 mc ms Post) {cI cB cN : ClassId} (G : GT z cI cB cN) {a w j : Nat} {i : Int32} {f : Nat → Option Nat} {l0 l1 l2 : Option Value} {M : mM} {k n : Nat} (hM : M a = some (.inl (cN, w, .inr (.inr (.inr (.inr f)))))) (hx : i = nI j) (hj : j < w) (hw : w < 2 ^ 31 := by decide) (h : RN z 48 [l0, l1, l2] [va_rf (f j)] M k n) : RN z 47 [l0, l1, l2] [.int i, .ref a] M k n := R_aald X.1 2 G.2.2 d_P_crash_47 hM (by rw [hx]; exact vp_in_nI hj hw) (by rw [hx, nI_clamp (by omega)]; exact h)
theorem i_P_crash_48 {z : zT} {ws0 : va_W} {mc ms : Nat} {Post : Option Value → mM → Prop} (X : B_P_crash z ws0 mc ms Post) {b : Nat} {mc1 ms1 : Nat} {Po : Option Value → mM → Prop} {fs : List Value} {l0 l1 l2 : Option Value} {M : mM} {k n : Nat} (hM : M b = some (.inr (0, fs))) (hC : Ct (zl z) (zD z) (zty z) y_N_goBack w_N_goBack 0 0 mc1 ms1 [.ref b] M Po) (hk : k + mc1 ≤ mc) (hn : n + ms1 ≤ ms) (h : ∀ v M1, Po v M1 → RN z 51 [l0, l1, l2] (v.toList ++ []) M1 (k + mc1) (n + ms1)) : RN z 48 [l0, l1, l2] [.ref b] M k n := R_callV X.1 (av := []) (nA := 0) wd_300 wd_297 wd_298 wd_299 wd_32 (by decide +kernel) rfl (Nat.le_of_ble_eq_true rfl) (Nat.le_of_ble_eq_true rfl) (Nat.le_of_ble_eq_true rfl) d_P_crash_48 rfl (ci := 0) rfl hM hC (by rw [BM.rc1 X.2]; exact hk) (by rw [BM.rc2 X.2]; exact hn) h
theorem i_P_crash_51 {z : zT} {ws0 : va_W} {mc ms : Nat} {Post : Option Value → mM → Prop} (X : B_P_crash z ws0 mc ms Post) {x : Int32} {l0 l1 : Option Value} {M : mM} {k n : Nat}  (h : RN z 54 [l0, l1, some (.int (x + 1))] [] M k n) : RN z 51 [l0, l1, some (.int x)] [] M k n := R_iinc X.1 d_P_crash_51 rfl rfl h
theorem i_P_crash_54 {z : zT} {ws0 : va_W} {mc ms : Nat} {Post : Option Value → mM → Prop} (X : B_P_crash z ws0 mc ms Post) {l0 l1 l2 : Option Value} {M : mM} {k n : Nat}  (h : RN z 36 [l0, l1, l2] [] M k n) : RN z 54 [l0, l1, l2] [] M k n := R_goto X.1 d_P_crash_54 (by decide) h
theorem i_P_crash_57 {z : zT} {ws0 : va_W} {mc ms : Nat} {Post : Option Value → mM → Prop} (X : B_P_crash z ws0 mc ms Post) {x : Int32} {l0 l2 : Option Value} {M : mM} {k n : Nat}  (h : RN z 58 [l0, some (.int x), l2] [.int x] M k n) : RN z 57 [l0, some (.int x), l2] [] M k n := R_iload_n X.1 d_P_crash_57 rfl rfl h
theorem i_P_crash_58 {z : zT} {ws0 : va_W} {mc ms : Nat} {Post : Option Value → mM → Prop} (X : B_P_crash z ws0 mc ms Post) {x : Int32} {l0 l1 l2 : Option Value} {M : mM} {k n : Nat} (hk : k ≤ mc) (hn : n ≤ ms) (hp : Post (some (.int x)) M) : RN z 58 [l0, l1, l2] [.int x] M k n := R_iret X.1 X.2 d_P_crash_58 hk hn hp
theorem d_P_node_0 : decode c_P_node 0 = .ok (.iload_n 1, 1) := by decide +kernel
theorem d_P_node_1 : decode c_P_node 1 = .ok (.ifCond .lt 9, 3) := by decide +kernel
theorem d_P_node_4 : decode c_P_node 4 = .ok (.iload_n 1, 1) := by decide +kernel
theorem d_P_node_5 : decode c_P_node 5 = .ok (.bipush 24, 2) := by decide +kernel
theorem d_P_node_7 : decode c_P_node 7 = .ok (.if_icmp .lt 5, 3) := by decide +kernel
theorem d_P_node_10 : decode c_P_node 10 = .ok (.iconst (-1), 1) := by decide +kernel
theorem d_P_node_11 : decode c_P_node 11 = .ok (.ireturn, 1) := by decide +kernel
theorem d_P_node_12 : decode c_P_node 12 = .ok (.iload_n 2, 1) := by decide +kernel
theorem d_P_node_13 : decode c_P_node 13 = .ok (.ifCond .ne 9, 3) := by decide +kernel
theorem d_P_node_16 : decode c_P_node 16 = .ok (.aload_n 0, 1) := by decide +kernel
theorem d_P_node_17 : decode c_P_node 17 = .ok (.iload_n 1, 1) := by decide +kernel
theorem d_P_node_18 : decode c_P_node 18 = .ok (.invokevirtual 138, 3) := by decide +kernel
theorem d_P_node_21 : decode c_P_node 21 = .ok (.ireturn, 1) := by decide +kernel
theorem d_P_node_22 : decode c_P_node 22 = .ok (.iload_n 2, 1) := by decide +kernel
theorem d_P_node_23 : decode c_P_node 23 = .ok (.iconst 1, 1) := by decide +kernel
theorem d_P_node_24 : decode c_P_node 24 = .ok (.if_icmp .ne 26, 3) := by decide +kernel
theorem d_P_node_27 : decode c_P_node 27 = .ok (.aload_n 0, 1) := by decide +kernel
theorem d_P_node_28 : decode c_P_node 28 = .ok (.getfield 11, 3) := by decide +kernel
theorem d_P_node_31 : decode c_P_node 31 = .ok (.iload_n 1, 1) := by decide +kernel
theorem d_P_node_32 : decode c_P_node 32 = .ok (.aaload, 1) := by decide +kernel
theorem d_P_node_33 : decode c_P_node 33 = .ok (.aload_n 0, 1) := by decide +kernel
theorem d_P_node_34 : decode c_P_node 34 = .ok (.getfield 19, 3) := by decide +kernel
theorem d_P_node_37 : decode c_P_node 37 = .ok (.invokevirtual 141, 3) := by decide +kernel
theorem d_P_node_40 : decode c_P_node 40 = .ok (.iconst (-1), 1) := by decide +kernel
theorem d_P_node_41 : decode c_P_node 41 = .ok (.if_icmp .ne 7, 3) := by decide +kernel
theorem d_P_node_44 : decode c_P_node 44 = .ok (.iconst 0, 1) := by decide +kernel
theorem d_P_node_45 : decode c_P_node 45 = .ok (.goto 4, 3) := by decide +kernel
theorem d_P_node_48 : decode c_P_node 48 = .ok (.iconst 1, 1) := by decide +kernel
theorem d_P_node_49 : decode c_P_node 49 = .ok (.ireturn, 1) := by decide +kernel
theorem d_P_node_50 : decode c_P_node 50 = .ok (.aload_n 0, 1) := by decide +kernel
theorem d_P_node_51 : decode c_P_node 51 = .ok (.iload_n 1, 1) := by decide +kernel
theorem d_P_node_52 : decode c_P_node 52 = .ok (.invokevirtual 97, 3) := by decide +kernel
theorem d_P_node_55 : decode c_P_node 55 = .ok (.astore_n 3, 1) := by decide +kernel
theorem d_P_node_56 : decode c_P_node 56 = .ok (.aload_n 3, 1) := by decide +kernel
theorem d_P_node_57 : decode c_P_node 57 = .ok (.ifnonnull 5, 3) := by decide +kernel
theorem d_P_node_60 : decode c_P_node 60 = .ok (.iconst (-1), 1) := by decide +kernel
theorem d_P_node_61 : decode c_P_node 61 = .ok (.ireturn, 1) := by decide +kernel
theorem d_P_node_62 : decode c_P_node 62 = .ok (.iload_n 2, 1) := by decide +kernel
theorem d_P_node_63 : decode c_P_node 63 = .ok (.tableswitch 42 2 4 #[25, 32, 37], 25) := by decide +kernel
theorem d_P_node_88 : decode c_P_node 88 = .ok (.aload_n 3, 1) := by decide +kernel
theorem d_P_node_89 : decode c_P_node 89 = .ok (.getfield 144, 3) := by decide +kernel
theorem d_P_node_92 : decode c_P_node 92 = .ok (.iconst 1, 1) := by decide +kernel
theorem d_P_node_93 : decode c_P_node 93 = .ok (.iadd, 1) := by decide +kernel
theorem d_P_node_94 : decode c_P_node 94 = .ok (.ireturn, 1) := by decide +kernel
theorem d_P_node_95 : decode c_P_node 95 = .ok (.aload_n 3, 1) := by decide +kernel
theorem d_P_node_96 : decode c_P_node 96 = .ok (.invokestatic 147, 3) := by decide +kernel
theorem d_P_node_99 : decode c_P_node 99 = .ok (.ireturn, 1) := by decide +kernel
theorem d_P_node_100 : decode c_P_node 100 = .ok (.aload_n 3, 1) := by decide +kernel
theorem d_P_node_101 : decode c_P_node 101 = .ok (.getfield 150, 3) := by decide +kernel
theorem d_P_node_104 : decode c_P_node 104 = .ok (.ireturn, 1) := by decide +kernel
theorem d_P_node_105 : decode c_P_node 105 = .ok (.iconst (-1), 1) := by decide +kernel
theorem d_P_node_106 : decode c_P_node 106 = .ok (.ireturn, 1) := by decide +kernel
abbrev B_P_node (z : zT) (ws0 : va_W) (mc ms : Nat) (Post : Option Value → mM → Prop) : Prop := BX z c_P_node 4 y_P_node.cls y_P_node.name 3 63 ∧ BQ z (some (.int)) ws0 mc ms Post
abbrev Ct_P_node (l : Launch) (D : va_G) (tys : List (ClassId × FieldType)) (mc ms : Nat) (av : List Value) (M : mM) (Post : Option Value → mM → Prop) : Prop := Ct l D tys y_P_node w_P_node 3 63 mc ms av M Post
theorem i_P_node_0 {z : zT} {ws0 : va_W} {mc ms : Nat} {Post : Option Value → mM → Prop} (X : B_P_node z ws0 mc ms Post) {x : Int32} {l0 l2 l3 : Option Value} {M : mM} {k n : Nat}  (h : RN z 1 [l0, some (.int x), l2, l3] [.int x] M k n) : RN z 0 [l0, some (.int x), l2, l3] [] M k n := R_iload_n X.1 d_P_node_0 rfl rfl h
theorem i_P_node_1 {z : zT} {ws0 : va_W} {mc ms : Nat} {Post : Option Value → mM → Prop} (X : B_P_node z ws0 mc ms Post) {x : Int32} {l0 l1 l2 l3 : Option Value} {M : mM} {k n : Nat}  (h1 : x < 0 → RN z 10 [l0, l1, l2, l3] [] M k n) (h2 : ¬ (x < 0) → RN z 4 [l0, l1, l2, l3] [] M k n) : RN z 1 [l0, l1, l2, l3] [.int x] M k n := R_if_lt X.1 d_P_node_1 (by decide) h1 h2
theorem i_P_node_4 {z : zT} {ws0 : va_W} {mc ms : Nat} {Post : Option Value → mM → Prop} (X : B_P_node z ws0 mc ms Post) {x : Int32} {l0 l2 l3 : Option Value} {M : mM} {k n : Nat}  (h : RN z 5 [l0, some (.int x), l2, l3] [.int x] M k n) : RN z 4 [l0, some (.int x), l2, l3] [] M k n := R_iload_n X.1 d_P_node_4 rfl rfl h
theorem i_P_node_5 {z : zT} {ws0 : va_W} {mc ms : Nat} {Post : Option Value → mM → Prop} (X : B_P_node z ws0 mc ms Post) {l0 l1 l2 l3 : Option Value} {s0 : Value} {M : mM} {k n : Nat}  (h : RN z 7 [l0, l1, l2, l3] [.int 24, s0] M k n) : RN z 5 [l0, l1, l2, l3] [s0] M k n := R_bipush X.1 d_P_node_5 (by decide) h
theorem i_P_node_7 {z : zT} {ws0 : va_W} {mc ms : Nat} {Post : Option Value → mM → Prop} (X : B_P_node z ws0 mc ms Post) {x y : Int32} {l0 l1 l2 l3 : Option Value} {M : mM} {k n : Nat}  (h1 : x < y → RN z 12 [l0, l1, l2, l3] [] M k n) (h2 : ¬ (x < y) → RN z 10 [l0, l1, l2, l3] [] M k n) : RN z 7 [l0, l1, l2, l3] [.int y, .int x] M k n := R_icmp_lt X.1 d_P_node_7 (by decide) h1 h2
theorem i_P_node_10 {z : zT} {ws0 : va_W} {mc ms : Nat} {Post : Option Value → mM → Prop} (X : B_P_node z ws0 mc ms Post) {l0 l1 l2 l3 : Option Value} {M : mM} {k n : Nat}  (h : RN z 11 [l0, l1, l2, l3] [.int (-1)] M k n) : RN z 10 [l0, l1, l2, l3] [] M k n := R_iconst X.1 d_P_node_10 (by decide) h
theorem i_P_node_11 {z : zT} {ws0 : va_W} {mc ms : Nat} {Post : Option Value → mM → Prop} (X : B_P_node z ws0 mc ms Post) {x : Int32} {l0 l1 l2 l3 : Option Value} {M : mM} {k n : Nat} (hk : k ≤ mc) (hn : n ≤ ms) (hp : Post (some (.int x)) M) : RN z 11 [l0, l1, l2, l3] [.int x] M k n := R_iret X.1 X.2 d_P_node_11 hk hn hp
theorem i_P_node_12 {z : zT} {ws0 : va_W} {mc ms : Nat} {Post : Option Value → mM → Prop} (X : B_P_node z ws0 mc ms Post) {x : Int32} {l0 l1 l3 : Option Value} {M : mM} {k n : Nat}  (h : RN z 13 [l0, l1, some (.int x), l3] [.int x] M k n) : RN z 12 [l0, l1, some (.int x), l3] [] M k n := R_iload_n X.1 d_P_node_12 rfl rfl h
theorem i_P_node_13 {z : zT} {ws0 : va_W} {mc ms : Nat} {Post : Option Value → mM → Prop} (X : B_P_node z ws0 mc ms Post) {x : Int32} {l0 l1 l2 l3 : Option Value} {M : mM} {k n : Nat}  (h1 : ¬ x = 0 → RN z 22 [l0, l1, l2, l3] [] M k n) (h2 : x = 0 → RN z 16 [l0, l1, l2, l3] [] M k n) : RN z 13 [l0, l1, l2, l3] [.int x] M k n := R_if_ne X.1 d_P_node_13 (by decide) h1 h2
theorem i_P_node_16 {z : zT} {ws0 : va_W} {mc ms : Nat} {Post : Option Value → mM → Prop} (X : B_P_node z ws0 mc ms Post) {v : Value} {l1 l2 l3 : Option Value} {M : mM} {k n : Nat} (hv : mRf v := by first | exact mRf_r _ | exact mRf_n | exact mRf_rf _ | assumption) (h : RN z 17 [some v, l1, l2, l3] [v] M k n) : RN z 16 [some v, l1, l2, l3] [] M k n := R_aload_n X.1 d_P_node_16 rfl rfl hv h
theorem i_P_node_17 {z : zT} {ws0 : va_W} {mc ms : Nat} {Post : Option Value → mM → Prop} (X : B_P_node z ws0 mc ms Post) {x : Int32} {l0 l2 l3 : Option Value} {s0 : Value} {M : mM} {k n : Nat}  (h : RN z 18 [l0, some (.int x), l2, l3] [.int x, s0] M k n) : RN z 17 [l0, some (.int x), l2, l3] [s0] M k n := R_iload_n X.1 d_P_node_17 rfl rfl h
theorem i_P_node_18 {z : zT} {ws0 : va_W} {mc ms : Nat} {Post : Option Value → mM → Prop} (X : B_P_node z ws0 mc ms Post) {a0 : Value} {b : Nat} {mc1 ms1 : Nat} {Po : Option Value → mM → Prop} {fs : List Value} {l0 l1 l2 l3 : Option Value} {M : mM} {k n : Nat} (hM : M b = some (.inr (3, fs))) (hC : Ct (zl z) (zD z) (zty z) y_P_kindOf w_P_kindOf 2 42 mc1 ms1 [.ref b, a0] M Po) (hk : k + mc1 ≤ mc) (hn : n + ms1 ≤ ms) (h : ∀ v M1, Po v M1 → RN z 21 [l0, l1, l2, l3] (v.toList ++ []) M1 (k + mc1) (n + ms1)) : RN z 18 [l0, l1, l2, l3] [a0, .ref b] M k n := R_callV X.1 (av := [a0]) (nA := 1) wd_308 wd_305 wd_307 wd_14 wd_30 (by decide +kernel) rfl (Nat.le_of_ble_eq_true rfl) (Nat.le_of_ble_eq_true rfl) (Nat.le_of_ble_eq_true rfl) d_P_node_18 rfl (ci := 3) rfl hM hC (by rw [BM.rc1 X.2]; exact hk) (by rw [BM.rc2 X.2]; exact hn) h
theorem i_P_node_21 {z : zT} {ws0 : va_W} {mc ms : Nat} {Post : Option Value → mM → Prop} (X : B_P_node z ws0 mc ms Post) {x : Int32} {l0 l1 l2 l3 : Option Value} {M : mM} {k n : Nat} (hk : k ≤ mc) (hn : n ≤ ms) (hp : Post (some (.int x)) M) : RN z 21 [l0, l1, l2, l3] [.int x] M k n := R_iret X.1 X.2 d_P_node_21 hk hn hp
theorem i_P_node_22 {z : zT} {ws0 : va_W} {mc ms : Nat} {Post : Option Value → mM → Prop} (X : B_P_node z ws0 mc ms Post) {x : Int32} {l0 l1 l3 : Option Value} {M : mM} {k n : Nat}  (h : RN z 23 [l0, l1, some (.int x), l3] [.int x] M k n) : RN z 22 [l0, l1, some (.int x), l3] [] M k n := R_iload_n X.1 d_P_node_22 rfl rfl h
theorem i_P_node_23 {z : zT} {ws0 : va_W} {mc ms : Nat} {Post : Option Value → mM → Prop} (X : B_P_node z ws0 mc ms Post) {l0 l1 l2 l3 : Option Value} {s0 : Value} {M : mM} {k n : Nat}  (h : RN z 24 [l0, l1, l2, l3] [.int 1, s0] M k n) : RN z 23 [l0, l1, l2, l3] [s0] M k n := R_iconst X.1 d_P_node_23 (by decide) h
theorem i_P_node_24 {z : zT} {ws0 : va_W} {mc ms : Nat} {Post : Option Value → mM → Prop} (X : B_P_node z ws0 mc ms Post) {x y : Int32} {l0 l1 l2 l3 : Option Value} {M : mM} {k n : Nat}  (h1 : ¬ x = y → RN z 50 [l0, l1, l2, l3] [] M k n) (h2 : x = y → RN z 27 [l0, l1, l2, l3] [] M k n) : RN z 24 [l0, l1, l2, l3] [.int y, .int x] M k n := R_icmp_ne X.1 d_P_node_24 (by decide) h1 h2
theorem i_P_node_27 {z : zT} {ws0 : va_W} {mc ms : Nat} {Post : Option Value → mM → Prop} (X : B_P_node z ws0 mc ms Post) {v : Value} {l1 l2 l3 : Option Value} {M : mM} {k n : Nat} (hv : mRf v := by first | exact mRf_r _ | exact mRf_n | exact mRf_rf _ | assumption) (h : RN z 28 [some v, l1, l2, l3] [v] M k n) : RN z 27 [some v, l1, l2, l3] [] M k n := R_aload_n X.1 d_P_node_27 rfl rfl hv h
theorem i_P_node_28 {z : zT} {ws0 : va_W} {mc ms : Nat} {Post : Option Value → mM → Prop} (X : B_P_node z ws0 mc ms Post) {a : Nat} {f0 f1 f2 f3 f4 f5 f6 f7 f8 f9 f10 : Value} {l0 l1 l2 l3 : Option Value} {M : mM} {k n : Nat} (hM : M a = some (.inr (3, [f0, f1, f2, f3, f4, f5, f6, f7, f8, f9, f10]))) (h : RN z 31 [l0, l1, l2, l3] [f2] M k n) : RN z 28 [l0, l1, l2, l3] [.ref a] M k n := R_get X.1 inX3 rfl 2 (Nat.le_of_ble_eq_true rfl) wd_78 d_P_node_28 hM rfl h
theorem i_P_node_31 {z : zT} {ws0 : va_W} {mc ms : Nat} {Post : Option Value → mM → Prop} (X : B_P_node z ws0 mc ms Post) {x : Int32} {l0 l2 l3 : Option Value} {s0 : Value} {M : mM} {k n : Nat}  (h : RN z 32 [l0, some (.int x), l2, l3] [.int x, s0] M k n) : RN z 31 [l0, some (.int x), l2, l3] [s0] M k n := R_iload_n X.1 d_P_node_31 rfl rfl h
theorem i_P_node_32 {z : zT} {ws0 : va_W} {mc ms : Nat} {Post : Option Value → mM → Prop} (X : B_P_node z ws0 mc ms Post) {cI cB cN : ClassId} (G : GT z cI cB cN) {a w j : Nat} {i : Int32} {f : Nat → Option Nat} {l0 l1 l2 l3 : Option Value} {M : mM} {k n : Nat} (hM : M a = some (.inl (cN, w, .inr (.inr (.inr (.inr f)))))) (hx : i = nI j) (hj : j < w) (hw : w < 2 ^ 31 := by decide) (h : RN z 33 [l0, l1, l2, l3] [va_rf (f j)] M k n) : RN z 32 [l0, l1, l2, l3] [.int i, .ref a] M k n := R_aald X.1 2 G.2.2 d_P_node_32 hM (by rw [hx]; exact vp_in_nI hj hw) (by rw [hx, nI_clamp (by omega)]; exact h)
theorem i_P_node_33 {z : zT} {ws0 : va_W} {mc ms : Nat} {Post : Option Value → mM → Prop} (X : B_P_node z ws0 mc ms Post) {v : Value} {l1 l2 l3 : Option Value} {s0 : Value} {M : mM} {k n : Nat} (hv : mRf v := by first | exact mRf_r _ | exact mRf_n | exact mRf_rf _ | assumption) (h : RN z 34 [some v, l1, l2, l3] [v, s0] M k n) : RN z 33 [some v, l1, l2, l3] [s0] M k n := R_aload_n X.1 d_P_node_33 rfl rfl hv h
theorem i_P_node_34 {z : zT} {ws0 : va_W} {mc ms : Nat} {Post : Option Value → mM → Prop} (X : B_P_node z ws0 mc ms Post) {a : Nat} {f0 f1 f2 f3 f4 f5 f6 f7 f8 f9 f10 : Value} {l0 l1 l2 l3 : Option Value} {s0 : Value} {M : mM} {k n : Nat} (hM : M a = some (.inr (3, [f0, f1, f2, f3, f4, f5, f6, f7, f8, f9, f10]))) (h : RN z 37 [l0, l1, l2, l3] [f4, s0] M k n) : RN z 34 [l0, l1, l2, l3] [.ref a, s0] M k n := R_get X.1 inX3 rfl 4 (Nat.le_of_ble_eq_true rfl) wd_80 d_P_node_34 hM rfl h
theorem i_P_node_37 {z : zT} {ws0 : va_W} {mc ms : Nat} {Post : Option Value → mM → Prop} (X : B_P_node z ws0 mc ms Post) {a0 : Value} {b : Nat} {mc1 ms1 : Nat} {Po : Option Value → mM → Prop} {fs : List Value} {l0 l1 l2 l3 : Option Value} {M : mM} {k n : Nat} (hM : M b = some (.inr (0, fs))) (hC : Ct (zl z) (zD z) (zty z) y_N_placeAsOf w_N_placeAsOf 0 0 mc1 ms1 [.ref b, a0] M Po) (hk : k + mc1 ≤ mc) (hn : n + ms1 ≤ ms) (h : ∀ v M1, Po v M1 → RN z 40 [l0, l1, l2, l3] (v.toList ++ []) M1 (k + mc1) (n + ms1)) : RN z 37 [l0, l1, l2, l3] [a0, .ref b] M k n := R_callV X.1 (av := [a0]) (nA := 1) wd_136 wd_133 wd_134 wd_135 wd_32 (by decide +kernel) rfl (Nat.le_of_ble_eq_true rfl) (Nat.le_of_ble_eq_true rfl) (Nat.le_of_ble_eq_true rfl) d_P_node_37 rfl (ci := 0) rfl hM hC (by rw [BM.rc1 X.2]; exact hk) (by rw [BM.rc2 X.2]; exact hn) h
theorem i_P_node_40 {z : zT} {ws0 : va_W} {mc ms : Nat} {Post : Option Value → mM → Prop} (X : B_P_node z ws0 mc ms Post) {l0 l1 l2 l3 : Option Value} {s0 : Value} {M : mM} {k n : Nat}  (h : RN z 41 [l0, l1, l2, l3] [.int (-1), s0] M k n) : RN z 40 [l0, l1, l2, l3] [s0] M k n := R_iconst X.1 d_P_node_40 (by decide) h
theorem i_P_node_41 {z : zT} {ws0 : va_W} {mc ms : Nat} {Post : Option Value → mM → Prop} (X : B_P_node z ws0 mc ms Post) {x y : Int32} {l0 l1 l2 l3 : Option Value} {M : mM} {k n : Nat}  (h1 : ¬ x = y → RN z 48 [l0, l1, l2, l3] [] M k n) (h2 : x = y → RN z 44 [l0, l1, l2, l3] [] M k n) : RN z 41 [l0, l1, l2, l3] [.int y, .int x] M k n := R_icmp_ne X.1 d_P_node_41 (by decide) h1 h2
theorem i_P_node_44 {z : zT} {ws0 : va_W} {mc ms : Nat} {Post : Option Value → mM → Prop} (X : B_P_node z ws0 mc ms Post) {l0 l1 l2 l3 : Option Value} {M : mM} {k n : Nat}  (h : RN z 45 [l0, l1, l2, l3] [.int 0] M k n) : RN z 44 [l0, l1, l2, l3] [] M k n := R_iconst X.1 d_P_node_44 (by decide) h
theorem i_P_node_45 {z : zT} {ws0 : va_W} {mc ms : Nat} {Post : Option Value → mM → Prop} (X : B_P_node z ws0 mc ms Post) {l0 l1 l2 l3 : Option Value} {s0 : Value} {M : mM} {k n : Nat}  (h : RN z 49 [l0, l1, l2, l3] [s0] M k n) : RN z 45 [l0, l1, l2, l3] [s0] M k n := R_goto X.1 d_P_node_45 (by decide) h
theorem i_P_node_48 {z : zT} {ws0 : va_W} {mc ms : Nat} {Post : Option Value → mM → Prop} (X : B_P_node z ws0 mc ms Post) {l0 l1 l2 l3 : Option Value} {M : mM} {k n : Nat}  (h : RN z 49 [l0, l1, l2, l3] [.int 1] M k n) : RN z 48 [l0, l1, l2, l3] [] M k n := R_iconst X.1 d_P_node_48 (by decide) h
theorem i_P_node_49 {z : zT} {ws0 : va_W} {mc ms : Nat} {Post : Option Value → mM → Prop} (X : B_P_node z ws0 mc ms Post) {x : Int32} {l0 l1 l2 l3 : Option Value} {M : mM} {k n : Nat} (hk : k ≤ mc) (hn : n ≤ ms) (hp : Post (some (.int x)) M) : RN z 49 [l0, l1, l2, l3] [.int x] M k n := R_iret X.1 X.2 d_P_node_49 hk hn hp
theorem i_P_node_50 {z : zT} {ws0 : va_W} {mc ms : Nat} {Post : Option Value → mM → Prop} (X : B_P_node z ws0 mc ms Post) {v : Value} {l1 l2 l3 : Option Value} {M : mM} {k n : Nat} (hv : mRf v := by first | exact mRf_r _ | exact mRf_n | exact mRf_rf _ | assumption) (h : RN z 51 [some v, l1, l2, l3] [v] M k n) : RN z 50 [some v, l1, l2, l3] [] M k n := R_aload_n X.1 d_P_node_50 rfl rfl hv h
theorem i_P_node_51 {z : zT} {ws0 : va_W} {mc ms : Nat} {Post : Option Value → mM → Prop} (X : B_P_node z ws0 mc ms Post) {x : Int32} {l0 l2 l3 : Option Value} {s0 : Value} {M : mM} {k n : Nat}  (h : RN z 52 [l0, some (.int x), l2, l3] [.int x, s0] M k n) : RN z 51 [l0, some (.int x), l2, l3] [s0] M k n := R_iload_n X.1 d_P_node_51 rfl rfl h
theorem i_P_node_52 {z : zT} {ws0 : va_W} {mc ms : Nat} {Post : Option Value → mM → Prop} (X : B_P_node z ws0 mc ms Post) {a0 : Value} {b : Nat} {mc1 ms1 : Nat} {Po : Option Value → mM → Prop} {fs : List Value} {l0 l1 l2 l3 : Option Value} {M : mM} {k n : Nat} (hM : M b = some (.inr (3, fs))) (hC : Ct (zl z) (zD z) (zty z) y_P_latestVersion w_P_latestVersion 1 21 mc1 ms1 [.ref b, a0] M Po) (hk : k + mc1 ≤ mc) (hn : n + ms1 ≤ ms) (h : ∀ v M1, Po v M1 → RN z 55 [l0, l1, l2, l3] (v.toList ++ []) M1 (k + mc1) (n + ms1)) : RN z 52 [l0, l1, l2, l3] [a0, .ref b] M k n := R_callV X.1 (av := [a0]) (nA := 1) wd_229 wd_226 wd_228 wd_10 wd_30 (by decide +kernel) rfl (Nat.le_of_ble_eq_true rfl) (Nat.le_of_ble_eq_true rfl) (Nat.le_of_ble_eq_true rfl) d_P_node_52 rfl (ci := 3) rfl hM hC (by rw [BM.rc1 X.2]; exact hk) (by rw [BM.rc2 X.2]; exact hn) h
theorem i_P_node_55 {z : zT} {ws0 : va_W} {mc ms : Nat} {Post : Option Value → mM → Prop} (X : B_P_node z ws0 mc ms Post) {v : Value} {l0 l1 l2 l3 : Option Value} {M : mM} {k n : Nat} (hv : mRf v := by first | exact mRf_r _ | exact mRf_n | exact mRf_rf _ | assumption) (h : RN z 56 [l0, l1, l2, some v] [] M k n) : RN z 55 [l0, l1, l2, l3] [v] M k n := R_astore_n X.1 d_P_node_55 rfl hv (Nat.le_of_ble_eq_true rfl) h
theorem i_P_node_56 {z : zT} {ws0 : va_W} {mc ms : Nat} {Post : Option Value → mM → Prop} (X : B_P_node z ws0 mc ms Post) {v : Value} {l0 l1 l2 : Option Value} {M : mM} {k n : Nat} (hv : mRf v := by first | exact mRf_r _ | exact mRf_n | exact mRf_rf _ | assumption) (h : RN z 57 [l0, l1, l2, some v] [v] M k n) : RN z 56 [l0, l1, l2, some v] [] M k n := R_aload_n X.1 d_P_node_56 rfl rfl hv h
theorem i_P_node_57 {z : zT} {ws0 : va_W} {mc ms : Nat} {Post : Option Value → mM → Prop} (X : B_P_node z ws0 mc ms Post) {v : Value} {l0 l1 l2 l3 : Option Value} {M : mM} {k n : Nat} (hv : mRf v := by first | exact mRf_r _ | exact mRf_n | exact mRf_rf _ | assumption) (h1 : ∀ a, v = .ref a → RN z 62 [l0, l1, l2, l3] [] M k n) (h2 : v = .null → RN z 60 [l0, l1, l2, l3] [] M k n) : RN z 57 [l0, l1, l2, l3] [v] M k n := R_ifnonnull X.1 d_P_node_57 (by decide) hv h1 h2
theorem i_P_node_60 {z : zT} {ws0 : va_W} {mc ms : Nat} {Post : Option Value → mM → Prop} (X : B_P_node z ws0 mc ms Post) {l0 l1 l2 l3 : Option Value} {M : mM} {k n : Nat}  (h : RN z 61 [l0, l1, l2, l3] [.int (-1)] M k n) : RN z 60 [l0, l1, l2, l3] [] M k n := R_iconst X.1 d_P_node_60 (by decide) h
theorem i_P_node_61 {z : zT} {ws0 : va_W} {mc ms : Nat} {Post : Option Value → mM → Prop} (X : B_P_node z ws0 mc ms Post) {x : Int32} {l0 l1 l2 l3 : Option Value} {M : mM} {k n : Nat} (hk : k ≤ mc) (hn : n ≤ ms) (hp : Post (some (.int x)) M) : RN z 61 [l0, l1, l2, l3] [.int x] M k n := R_iret X.1 X.2 d_P_node_61 hk hn hp
theorem i_P_node_62 {z : zT} {ws0 : va_W} {mc ms : Nat} {Post : Option Value → mM → Prop} (X : B_P_node z ws0 mc ms Post) {x : Int32} {l0 l1 l3 : Option Value} {M : mM} {k n : Nat}  (h : RN z 63 [l0, l1, some (.int x), l3] [.int x] M k n) : RN z 62 [l0, l1, some (.int x), l3] [] M k n := R_iload_n X.1 d_P_node_62 rfl rfl h
theorem i_P_node_63 {z : zT} {ws0 : va_W} {mc ms : Nat} {Post : Option Value → mM → Prop} (X : B_P_node z ws0 mc ms Post) {x : Int32} {l0 l1 l2 l3 : Option Value} {M : mM} {k n : Nat}  (h2 : x = 2 → RN z 88 [l0, l1, l2, l3] [] M k n) (h3 : x = 3 → RN z 95 [l0, l1, l2, l3] [] M k n) (h4 : x = 4 → RN z 100 [l0, l1, l2, l3] [] M k n) (hd : ¬ x = 2 → ¬ x = 3 → ¬ x = 4 → RN z 105 [l0, l1, l2, l3] [] M k n) : RN z 63 [l0, l1, l2, l3] [.int x] M k n := by
  by_cases e2 : x = 2
  · subst e2
    exact R_tableIn X.1 d_P_node_63 (by decide) (by decide) rfl (by decide) (h2 rfl)
  by_cases e3 : x = 3
  · subst e3
    exact R_tableIn X.1 d_P_node_63 (by decide) (by decide) rfl (by decide) (h3 rfl)
  by_cases e4 : x = 4
  · subst e4
    exact R_tableIn X.1 d_P_node_63 (by decide) (by decide) rfl (by decide) (h4 rfl)
  refine R_tableOut X.1 d_P_node_63 ?_ (by decide) (hd e2 e3 e4)
  have t2 : ¬ x.toInt = 2 := lv_neT e2 (by decide)
  have t3 : ¬ x.toInt = 3 := lv_neT e3 (by decide)
  have t4 : ¬ x.toInt = 4 := lv_neT e4 (by decide)
  omega
theorem i_P_node_88 {z : zT} {ws0 : va_W} {mc ms : Nat} {Post : Option Value → mM → Prop} (X : B_P_node z ws0 mc ms Post) {v : Value} {l0 l1 l2 : Option Value} {M : mM} {k n : Nat} (hv : mRf v := by first | exact mRf_r _ | exact mRf_n | exact mRf_rf _ | assumption) (h : RN z 89 [l0, l1, l2, some v] [v] M k n) : RN z 88 [l0, l1, l2, some v] [] M k n := R_aload_n X.1 d_P_node_88 rfl rfl hv h
theorem i_P_node_89 {z : zT} {ws0 : va_W} {mc ms : Nat} {Post : Option Value → mM → Prop} (X : B_P_node z ws0 mc ms Post) {a : Nat} {f0 f1 f2 f3 f4 : Value} {l0 l1 l2 l3 : Option Value} {M : mM} {k n : Nat} (hM : M a = some (.inr (2, [f0, f1, f2, f3, f4]))) (h : RN z 92 [l0, l1, l2, l3] [f1] M k n) : RN z 89 [l0, l1, l2, l3] [.ref a] M k n := R_get X.1 inX2 rfl 1 (Nat.le_of_ble_eq_true rfl) wd_161 d_P_node_89 hM rfl h
theorem i_P_node_92 {z : zT} {ws0 : va_W} {mc ms : Nat} {Post : Option Value → mM → Prop} (X : B_P_node z ws0 mc ms Post) {l0 l1 l2 l3 : Option Value} {s0 : Value} {M : mM} {k n : Nat}  (h : RN z 93 [l0, l1, l2, l3] [.int 1, s0] M k n) : RN z 92 [l0, l1, l2, l3] [s0] M k n := R_iconst X.1 d_P_node_92 (by decide) h
theorem i_P_node_93 {z : zT} {ws0 : va_W} {mc ms : Nat} {Post : Option Value → mM → Prop} (X : B_P_node z ws0 mc ms Post) {x y : Int32} {l0 l1 l2 l3 : Option Value} {M : mM} {k n : Nat}  (h : RN z 94 [l0, l1, l2, l3] [.int (x + y)] M k n) : RN z 93 [l0, l1, l2, l3] [.int y, .int x] M k n := R_iadd X.1 d_P_node_93 h
theorem i_P_node_94 {z : zT} {ws0 : va_W} {mc ms : Nat} {Post : Option Value → mM → Prop} (X : B_P_node z ws0 mc ms Post) {x : Int32} {l0 l1 l2 l3 : Option Value} {M : mM} {k n : Nat} (hk : k ≤ mc) (hn : n ≤ ms) (hp : Post (some (.int x)) M) : RN z 94 [l0, l1, l2, l3] [.int x] M k n := R_iret X.1 X.2 d_P_node_94 hk hn hp
theorem i_P_node_95 {z : zT} {ws0 : va_W} {mc ms : Nat} {Post : Option Value → mM → Prop} (X : B_P_node z ws0 mc ms Post) {v : Value} {l0 l1 l2 : Option Value} {M : mM} {k n : Nat} (hv : mRf v := by first | exact mRf_r _ | exact mRf_n | exact mRf_rf _ | assumption) (h : RN z 96 [l0, l1, l2, some v] [v] M k n) : RN z 95 [l0, l1, l2, some v] [] M k n := R_aload_n X.1 d_P_node_95 rfl rfl hv h
theorem i_P_node_96 {z : zT} {ws0 : va_W} {mc ms : Nat} {Post : Option Value → mM → Prop} (X : B_P_node z ws0 mc ms Post) {a0 : Value} {mc1 ms1 : Nat} {Po : Option Value → mM → Prop} {l0 l1 l2 l3 : Option Value} {M : mM} {k n : Nat} (hC : Ct (zl z) (zD z) (zty z) y_P_countGone w_P_countGone 0 0 mc1 ms1 [a0] M Po) (hk : k + mc1 ≤ mc) (hn : n + ms1 ≤ ms) (h : ∀ v M1, Po v M1 → RN z 99 [l0, l1, l2, l3] (v.toList ++ []) M1 (k + mc1) (n + ms1)) : RN z 96 [l0, l1, l2, l3] [a0] M k n := R_callS X.1 (av := [a0]) (nA := 1) wd_311 wd_309 wd_310 wd_30 (by decide +kernel) rfl (Nat.le_of_ble_eq_true rfl) (Nat.le_of_ble_eq_true rfl) (Nat.le_of_ble_eq_true rfl) d_P_node_96 rfl hC (by rw [BM.rc1 X.2]; exact hk) (by rw [BM.rc2 X.2]; exact hn) h
theorem i_P_node_99 {z : zT} {ws0 : va_W} {mc ms : Nat} {Post : Option Value → mM → Prop} (X : B_P_node z ws0 mc ms Post) {x : Int32} {l0 l1 l2 l3 : Option Value} {M : mM} {k n : Nat} (hk : k ≤ mc) (hn : n ≤ ms) (hp : Post (some (.int x)) M) : RN z 99 [l0, l1, l2, l3] [.int x] M k n := R_iret X.1 X.2 d_P_node_99 hk hn hp
theorem i_P_node_100 {z : zT} {ws0 : va_W} {mc ms : Nat} {Post : Option Value → mM → Prop} (X : B_P_node z ws0 mc ms Post) {v : Value} {l0 l1 l2 : Option Value} {M : mM} {k n : Nat} (hv : mRf v := by first | exact mRf_r _ | exact mRf_n | exact mRf_rf _ | assumption) (h : RN z 101 [l0, l1, l2, some v] [v] M k n) : RN z 100 [l0, l1, l2, some v] [] M k n := R_aload_n X.1 d_P_node_100 rfl rfl hv h
theorem i_P_node_101 {z : zT} {ws0 : va_W} {mc ms : Nat} {Post : Option Value → mM → Prop} (X : B_P_node z ws0 mc ms Post) {a : Nat} {f0 f1 f2 f3 f4 : Value} {l0 l1 l2 l3 : Option Value} {M : mM} {k n : Nat} (hM : M a = some (.inr (2, [f0, f1, f2, f3, f4]))) (h : RN z 104 [l0, l1, l2, l3] [f0] M k n) : RN z 101 [l0, l1, l2, l3] [.ref a] M k n := R_get X.1 inX2 rfl 0 (Nat.le_of_ble_eq_true rfl) wd_159 d_P_node_101 hM rfl h
theorem i_P_node_104 {z : zT} {ws0 : va_W} {mc ms : Nat} {Post : Option Value → mM → Prop} (X : B_P_node z ws0 mc ms Post) {x : Int32} {l0 l1 l2 l3 : Option Value} {M : mM} {k n : Nat} (hk : k ≤ mc) (hn : n ≤ ms) (hp : Post (some (.int x)) M) : RN z 104 [l0, l1, l2, l3] [.int x] M k n := R_iret X.1 X.2 d_P_node_104 hk hn hp
theorem i_P_node_105 {z : zT} {ws0 : va_W} {mc ms : Nat} {Post : Option Value → mM → Prop} (X : B_P_node z ws0 mc ms Post) {l0 l1 l2 l3 : Option Value} {M : mM} {k n : Nat}  (h : RN z 106 [l0, l1, l2, l3] [.int (-1)] M k n) : RN z 105 [l0, l1, l2, l3] [] M k n := R_iconst X.1 d_P_node_105 (by decide) h
theorem i_P_node_106 {z : zT} {ws0 : va_W} {mc ms : Nat} {Post : Option Value → mM → Prop} (X : B_P_node z ws0 mc ms Post) {x : Int32} {l0 l1 l2 l3 : Option Value} {M : mM} {k n : Nat} (hk : k ≤ mc) (hn : n ≤ ms) (hp : Post (some (.int x)) M) : RN z 106 [l0, l1, l2, l3] [.int x] M k n := R_iret X.1 X.2 d_P_node_106 hk hn hp
theorem d_P_versionTime_0 : decode c_P_versionTime 0 = .ok (.aload_n 0, 1) := by decide +kernel
theorem d_P_versionTime_1 : decode c_P_versionTime 1 = .ok (.iload_n 1, 1) := by decide +kernel
theorem d_P_versionTime_2 : decode c_P_versionTime 2 = .ok (.invokevirtual 97, 3) := by decide +kernel
theorem d_P_versionTime_5 : decode c_P_versionTime 5 = .ok (.astore_n 3, 1) := by decide +kernel
theorem d_P_versionTime_6 : decode c_P_versionTime 6 = .ok (.aload_n 3, 1) := by decide +kernel
theorem d_P_versionTime_7 : decode c_P_versionTime 7 = .ok (.ifnull 19, 3) := by decide +kernel
theorem d_P_versionTime_10 : decode c_P_versionTime 10 = .ok (.aload_n 3, 1) := by decide +kernel
theorem d_P_versionTime_11 : decode c_P_versionTime 11 = .ok (.getfield 144, 3) := by decide +kernel
theorem d_P_versionTime_14 : decode c_P_versionTime 14 = .ok (.iload_n 2, 1) := by decide +kernel
theorem d_P_versionTime_15 : decode c_P_versionTime 15 = .ok (.if_icmp .eq 11, 3) := by decide +kernel
theorem d_P_versionTime_18 : decode c_P_versionTime 18 = .ok (.aload_n 3, 1) := by decide +kernel
theorem d_P_versionTime_19 : decode c_P_versionTime 19 = .ok (.getfield 153, 3) := by decide +kernel
theorem d_P_versionTime_22 : decode c_P_versionTime 22 = .ok (.astore_n 3, 1) := by decide +kernel
theorem d_P_versionTime_23 : decode c_P_versionTime 23 = .ok (.goto (-17), 3) := by decide +kernel
theorem d_P_versionTime_26 : decode c_P_versionTime 26 = .ok (.aload_n 3, 1) := by decide +kernel
theorem d_P_versionTime_27 : decode c_P_versionTime 27 = .ok (.ifnonnull 7, 3) := by decide +kernel
theorem d_P_versionTime_30 : decode c_P_versionTime 30 = .ok (.iconst (-1), 1) := by decide +kernel
theorem d_P_versionTime_31 : decode c_P_versionTime 31 = .ok (.goto 7, 3) := by decide +kernel
theorem d_P_versionTime_34 : decode c_P_versionTime 34 = .ok (.aload_n 3, 1) := by decide +kernel
theorem d_P_versionTime_35 : decode c_P_versionTime 35 = .ok (.getfield 150, 3) := by decide +kernel
theorem d_P_versionTime_38 : decode c_P_versionTime 38 = .ok (.ireturn, 1) := by decide +kernel
abbrev B_P_versionTime (z : zT) (ws0 : va_W) (mc ms : Nat) (Post : Option Value → mM → Prop) : Prop := BX z c_P_versionTime 4 y_P_versionTime.cls y_P_versionTime.name 2 42 ∧ BQ z (some (.int)) ws0 mc ms Post
abbrev Ct_P_versionTime (l : Launch) (D : va_G) (tys : List (ClassId × FieldType)) (mc ms : Nat) (av : List Value) (M : mM) (Post : Option Value → mM → Prop) : Prop := Ct l D tys y_P_versionTime w_P_versionTime 2 42 mc ms av M Post
theorem i_P_versionTime_0 {z : zT} {ws0 : va_W} {mc ms : Nat} {Post : Option Value → mM → Prop} (X : B_P_versionTime z ws0 mc ms Post) {v : Value} {l1 l2 l3 : Option Value} {M : mM} {k n : Nat} (hv : mRf v := by first | exact mRf_r _ | exact mRf_n | exact mRf_rf _ | assumption) (h : RN z 1 [some v, l1, l2, l3] [v] M k n) : RN z 0 [some v, l1, l2, l3] [] M k n := R_aload_n X.1 d_P_versionTime_0 rfl rfl hv h
theorem i_P_versionTime_1 {z : zT} {ws0 : va_W} {mc ms : Nat} {Post : Option Value → mM → Prop} (X : B_P_versionTime z ws0 mc ms Post) {x : Int32} {l0 l2 l3 : Option Value} {s0 : Value} {M : mM} {k n : Nat}  (h : RN z 2 [l0, some (.int x), l2, l3] [.int x, s0] M k n) : RN z 1 [l0, some (.int x), l2, l3] [s0] M k n := R_iload_n X.1 d_P_versionTime_1 rfl rfl h
theorem i_P_versionTime_2 {z : zT} {ws0 : va_W} {mc ms : Nat} {Post : Option Value → mM → Prop} (X : B_P_versionTime z ws0 mc ms Post) {a0 : Value} {b : Nat} {mc1 ms1 : Nat} {Po : Option Value → mM → Prop} {fs : List Value} {l0 l1 l2 l3 : Option Value} {M : mM} {k n : Nat} (hM : M b = some (.inr (3, fs))) (hC : Ct (zl z) (zD z) (zty z) y_P_latestVersion w_P_latestVersion 1 21 mc1 ms1 [.ref b, a0] M Po) (hk : k + mc1 ≤ mc) (hn : n + ms1 ≤ ms) (h : ∀ v M1, Po v M1 → RN z 5 [l0, l1, l2, l3] (v.toList ++ []) M1 (k + mc1) (n + ms1)) : RN z 2 [l0, l1, l2, l3] [a0, .ref b] M k n := R_callV X.1 (av := [a0]) (nA := 1) wd_229 wd_226 wd_228 wd_10 wd_30 (by decide +kernel) rfl (Nat.le_of_ble_eq_true rfl) (Nat.le_of_ble_eq_true rfl) (Nat.le_of_ble_eq_true rfl) d_P_versionTime_2 rfl (ci := 3) rfl hM hC (by rw [BM.rc1 X.2]; exact hk) (by rw [BM.rc2 X.2]; exact hn) h
theorem i_P_versionTime_5 {z : zT} {ws0 : va_W} {mc ms : Nat} {Post : Option Value → mM → Prop} (X : B_P_versionTime z ws0 mc ms Post) {v : Value} {l0 l1 l2 l3 : Option Value} {M : mM} {k n : Nat} (hv : mRf v := by first | exact mRf_r _ | exact mRf_n | exact mRf_rf _ | assumption) (h : RN z 6 [l0, l1, l2, some v] [] M k n) : RN z 5 [l0, l1, l2, l3] [v] M k n := R_astore_n X.1 d_P_versionTime_5 rfl hv (Nat.le_of_ble_eq_true rfl) h
theorem i_P_versionTime_6 {z : zT} {ws0 : va_W} {mc ms : Nat} {Post : Option Value → mM → Prop} (X : B_P_versionTime z ws0 mc ms Post) {v : Value} {l0 l1 l2 : Option Value} {M : mM} {k n : Nat} (hv : mRf v := by first | exact mRf_r _ | exact mRf_n | exact mRf_rf _ | assumption) (h : RN z 7 [l0, l1, l2, some v] [v] M k n) : RN z 6 [l0, l1, l2, some v] [] M k n := R_aload_n X.1 d_P_versionTime_6 rfl rfl hv h
theorem i_P_versionTime_7 {z : zT} {ws0 : va_W} {mc ms : Nat} {Post : Option Value → mM → Prop} (X : B_P_versionTime z ws0 mc ms Post) {v : Value} {l0 l1 l2 l3 : Option Value} {M : mM} {k n : Nat} (hv : mRf v := by first | exact mRf_r _ | exact mRf_n | exact mRf_rf _ | assumption) (h1 : v = .null → RN z 26 [l0, l1, l2, l3] [] M k n) (h2 : ∀ a, v = .ref a → RN z 10 [l0, l1, l2, l3] [] M k n) : RN z 7 [l0, l1, l2, l3] [v] M k n := R_ifnull X.1 d_P_versionTime_7 (by decide) hv h1 h2
theorem i_P_versionTime_10 {z : zT} {ws0 : va_W} {mc ms : Nat} {Post : Option Value → mM → Prop} (X : B_P_versionTime z ws0 mc ms Post) {v : Value} {l0 l1 l2 : Option Value} {M : mM} {k n : Nat} (hv : mRf v := by first | exact mRf_r _ | exact mRf_n | exact mRf_rf _ | assumption) (h : RN z 11 [l0, l1, l2, some v] [v] M k n) : RN z 10 [l0, l1, l2, some v] [] M k n := R_aload_n X.1 d_P_versionTime_10 rfl rfl hv h
theorem i_P_versionTime_11 {z : zT} {ws0 : va_W} {mc ms : Nat} {Post : Option Value → mM → Prop} (X : B_P_versionTime z ws0 mc ms Post) {a : Nat} {f0 f1 f2 f3 f4 : Value} {l0 l1 l2 l3 : Option Value} {M : mM} {k n : Nat} (hM : M a = some (.inr (2, [f0, f1, f2, f3, f4]))) (h : RN z 14 [l0, l1, l2, l3] [f1] M k n) : RN z 11 [l0, l1, l2, l3] [.ref a] M k n := R_get X.1 inX2 rfl 1 (Nat.le_of_ble_eq_true rfl) wd_161 d_P_versionTime_11 hM rfl h
theorem i_P_versionTime_14 {z : zT} {ws0 : va_W} {mc ms : Nat} {Post : Option Value → mM → Prop} (X : B_P_versionTime z ws0 mc ms Post) {x : Int32} {l0 l1 l3 : Option Value} {s0 : Value} {M : mM} {k n : Nat}  (h : RN z 15 [l0, l1, some (.int x), l3] [.int x, s0] M k n) : RN z 14 [l0, l1, some (.int x), l3] [s0] M k n := R_iload_n X.1 d_P_versionTime_14 rfl rfl h
theorem i_P_versionTime_15 {z : zT} {ws0 : va_W} {mc ms : Nat} {Post : Option Value → mM → Prop} (X : B_P_versionTime z ws0 mc ms Post) {x y : Int32} {l0 l1 l2 l3 : Option Value} {M : mM} {k n : Nat}  (h1 : x = y → RN z 26 [l0, l1, l2, l3] [] M k n) (h2 : ¬ (x = y) → RN z 18 [l0, l1, l2, l3] [] M k n) : RN z 15 [l0, l1, l2, l3] [.int y, .int x] M k n := R_icmp_eq X.1 d_P_versionTime_15 (by decide) h1 h2
theorem i_P_versionTime_18 {z : zT} {ws0 : va_W} {mc ms : Nat} {Post : Option Value → mM → Prop} (X : B_P_versionTime z ws0 mc ms Post) {v : Value} {l0 l1 l2 : Option Value} {M : mM} {k n : Nat} (hv : mRf v := by first | exact mRf_r _ | exact mRf_n | exact mRf_rf _ | assumption) (h : RN z 19 [l0, l1, l2, some v] [v] M k n) : RN z 18 [l0, l1, l2, some v] [] M k n := R_aload_n X.1 d_P_versionTime_18 rfl rfl hv h
theorem i_P_versionTime_19 {z : zT} {ws0 : va_W} {mc ms : Nat} {Post : Option Value → mM → Prop} (X : B_P_versionTime z ws0 mc ms Post) {a : Nat} {f0 f1 f2 f3 f4 : Value} {l0 l1 l2 l3 : Option Value} {M : mM} {k n : Nat} (hM : M a = some (.inr (2, [f0, f1, f2, f3, f4]))) (h : RN z 22 [l0, l1, l2, l3] [f3] M k n) : RN z 19 [l0, l1, l2, l3] [.ref a] M k n := R_get X.1 inX2 rfl 3 (Nat.le_of_ble_eq_true rfl) wd_165 d_P_versionTime_19 hM rfl h
theorem i_P_versionTime_22 {z : zT} {ws0 : va_W} {mc ms : Nat} {Post : Option Value → mM → Prop} (X : B_P_versionTime z ws0 mc ms Post) {v : Value} {l0 l1 l2 l3 : Option Value} {M : mM} {k n : Nat} (hv : mRf v := by first | exact mRf_r _ | exact mRf_n | exact mRf_rf _ | assumption) (h : RN z 23 [l0, l1, l2, some v] [] M k n) : RN z 22 [l0, l1, l2, l3] [v] M k n := R_astore_n X.1 d_P_versionTime_22 rfl hv (Nat.le_of_ble_eq_true rfl) h
theorem i_P_versionTime_23 {z : zT} {ws0 : va_W} {mc ms : Nat} {Post : Option Value → mM → Prop} (X : B_P_versionTime z ws0 mc ms Post) {l0 l1 l2 l3 : Option Value} {M : mM} {k n : Nat}  (h : RN z 6 [l0, l1, l2, l3] [] M k n) : RN z 23 [l0, l1, l2, l3] [] M k n := R_goto X.1 d_P_versionTime_23 (by decide) h
theorem i_P_versionTime_26 {z : zT} {ws0 : va_W} {mc ms : Nat} {Post : Option Value → mM → Prop} (X : B_P_versionTime z ws0 mc ms Post) {v : Value} {l0 l1 l2 : Option Value} {M : mM} {k n : Nat} (hv : mRf v := by first | exact mRf_r _ | exact mRf_n | exact mRf_rf _ | assumption) (h : RN z 27 [l0, l1, l2, some v] [v] M k n) : RN z 26 [l0, l1, l2, some v] [] M k n := R_aload_n X.1 d_P_versionTime_26 rfl rfl hv h
theorem i_P_versionTime_27 {z : zT} {ws0 : va_W} {mc ms : Nat} {Post : Option Value → mM → Prop} (X : B_P_versionTime z ws0 mc ms Post) {v : Value} {l0 l1 l2 l3 : Option Value} {M : mM} {k n : Nat} (hv : mRf v := by first | exact mRf_r _ | exact mRf_n | exact mRf_rf _ | assumption) (h1 : ∀ a, v = .ref a → RN z 34 [l0, l1, l2, l3] [] M k n) (h2 : v = .null → RN z 30 [l0, l1, l2, l3] [] M k n) : RN z 27 [l0, l1, l2, l3] [v] M k n := R_ifnonnull X.1 d_P_versionTime_27 (by decide) hv h1 h2
theorem i_P_versionTime_30 {z : zT} {ws0 : va_W} {mc ms : Nat} {Post : Option Value → mM → Prop} (X : B_P_versionTime z ws0 mc ms Post) {l0 l1 l2 l3 : Option Value} {M : mM} {k n : Nat}  (h : RN z 31 [l0, l1, l2, l3] [.int (-1)] M k n) : RN z 30 [l0, l1, l2, l3] [] M k n := R_iconst X.1 d_P_versionTime_30 (by decide) h
theorem i_P_versionTime_31 {z : zT} {ws0 : va_W} {mc ms : Nat} {Post : Option Value → mM → Prop} (X : B_P_versionTime z ws0 mc ms Post) {l0 l1 l2 l3 : Option Value} {s0 : Value} {M : mM} {k n : Nat}  (h : RN z 38 [l0, l1, l2, l3] [s0] M k n) : RN z 31 [l0, l1, l2, l3] [s0] M k n := R_goto X.1 d_P_versionTime_31 (by decide) h
theorem i_P_versionTime_34 {z : zT} {ws0 : va_W} {mc ms : Nat} {Post : Option Value → mM → Prop} (X : B_P_versionTime z ws0 mc ms Post) {v : Value} {l0 l1 l2 : Option Value} {M : mM} {k n : Nat} (hv : mRf v := by first | exact mRf_r _ | exact mRf_n | exact mRf_rf _ | assumption) (h : RN z 35 [l0, l1, l2, some v] [v] M k n) : RN z 34 [l0, l1, l2, some v] [] M k n := R_aload_n X.1 d_P_versionTime_34 rfl rfl hv h
theorem i_P_versionTime_35 {z : zT} {ws0 : va_W} {mc ms : Nat} {Post : Option Value → mM → Prop} (X : B_P_versionTime z ws0 mc ms Post) {a : Nat} {f0 f1 f2 f3 f4 : Value} {l0 l1 l2 l3 : Option Value} {M : mM} {k n : Nat} (hM : M a = some (.inr (2, [f0, f1, f2, f3, f4]))) (h : RN z 38 [l0, l1, l2, l3] [f0] M k n) : RN z 35 [l0, l1, l2, l3] [.ref a] M k n := R_get X.1 inX2 rfl 0 (Nat.le_of_ble_eq_true rfl) wd_159 d_P_versionTime_35 hM rfl h
theorem i_P_versionTime_38 {z : zT} {ws0 : va_W} {mc ms : Nat} {Post : Option Value → mM → Prop} (X : B_P_versionTime z ws0 mc ms Post) {x : Int32} {l0 l1 l2 l3 : Option Value} {M : mM} {k n : Nat} (hk : k ≤ mc) (hn : n ≤ ms) (hp : Post (some (.int x)) M) : RN z 38 [l0, l1, l2, l3] [.int x] M k n := R_iret X.1 X.2 d_P_versionTime_38 hk hn hp
theorem d_P_count_0 : decode c_P_count 0 = .ok (.iload_n 1, 1) := by decide +kernel
theorem d_P_count_1 : decode c_P_count 1 = .ok (.tableswitch 56 0 3 #[31, 36, 41, 46], 31) := by decide +kernel
theorem d_P_count_32 : decode c_P_count 32 = .ok (.aload_n 0, 1) := by decide +kernel
theorem d_P_count_33 : decode c_P_count 33 = .ok (.getfield 19, 3) := by decide +kernel
theorem d_P_count_36 : decode c_P_count 36 = .ok (.ireturn, 1) := by decide +kernel
theorem d_P_count_37 : decode c_P_count 37 = .ok (.aload_n 0, 1) := by decide +kernel
theorem d_P_count_38 : decode c_P_count 38 = .ok (.getfield 23, 3) := by decide +kernel
theorem d_P_count_41 : decode c_P_count 41 = .ok (.ireturn, 1) := by decide +kernel
theorem d_P_count_42 : decode c_P_count 42 = .ok (.aload_n 0, 1) := by decide +kernel
theorem d_P_count_43 : decode c_P_count 43 = .ok (.getfield 26, 3) := by decide +kernel
theorem d_P_count_46 : decode c_P_count 46 = .ok (.ireturn, 1) := by decide +kernel
theorem d_P_count_47 : decode c_P_count 47 = .ok (.aload_n 0, 1) := by decide +kernel
theorem d_P_count_48 : decode c_P_count 48 = .ok (.getfield 26, 3) := by decide +kernel
theorem d_P_count_51 : decode c_P_count 51 = .ok (.aload_n 0, 1) := by decide +kernel
theorem d_P_count_52 : decode c_P_count 52 = .ok (.getfield 35, 3) := by decide +kernel
theorem d_P_count_55 : decode c_P_count 55 = .ok (.isub, 1) := by decide +kernel
theorem d_P_count_56 : decode c_P_count 56 = .ok (.ireturn, 1) := by decide +kernel
theorem d_P_count_57 : decode c_P_count 57 = .ok (.iconst (-1), 1) := by decide +kernel
theorem d_P_count_58 : decode c_P_count 58 = .ok (.ireturn, 1) := by decide +kernel
abbrev B_P_count (z : zT) (ws0 : va_W) (mc ms : Nat) (Post : Option Value → mM → Prop) : Prop := BX z c_P_count 2 y_P_count.cls y_P_count.name 0 0 ∧ BQ z (some (.int)) ws0 mc ms Post
abbrev Ct_P_count (l : Launch) (D : va_G) (tys : List (ClassId × FieldType)) (mc ms : Nat) (av : List Value) (M : mM) (Post : Option Value → mM → Prop) : Prop := Ct l D tys y_P_count w_P_count 0 0 mc ms av M Post
theorem i_P_count_0 {z : zT} {ws0 : va_W} {mc ms : Nat} {Post : Option Value → mM → Prop} (X : B_P_count z ws0 mc ms Post) {x : Int32} {l0 : Option Value} {M : mM} {k n : Nat}  (h : RN z 1 [l0, some (.int x)] [.int x] M k n) : RN z 0 [l0, some (.int x)] [] M k n := R_iload_n X.1 d_P_count_0 rfl rfl h
theorem i_P_count_1 {z : zT} {ws0 : va_W} {mc ms : Nat} {Post : Option Value → mM → Prop} (X : B_P_count z ws0 mc ms Post) {x : Int32} {l0 l1 : Option Value} {M : mM} {k n : Nat}  (h0 : x = 0 → RN z 32 [l0, l1] [] M k n) (h1 : x = 1 → RN z 37 [l0, l1] [] M k n) (h2 : x = 2 → RN z 42 [l0, l1] [] M k n) (h3 : x = 3 → RN z 47 [l0, l1] [] M k n) (hd : ¬ x = 0 → ¬ x = 1 → ¬ x = 2 → ¬ x = 3 → RN z 57 [l0, l1] [] M k n) : RN z 1 [l0, l1] [.int x] M k n := by
  by_cases e0 : x = 0
  · subst e0
    exact R_tableIn X.1 d_P_count_1 (by decide) (by decide) rfl (by decide) (h0 rfl)
  by_cases e1 : x = 1
  · subst e1
    exact R_tableIn X.1 d_P_count_1 (by decide) (by decide) rfl (by decide) (h1 rfl)
  by_cases e2 : x = 2
  · subst e2
    exact R_tableIn X.1 d_P_count_1 (by decide) (by decide) rfl (by decide) (h2 rfl)
  by_cases e3 : x = 3
  · subst e3
    exact R_tableIn X.1 d_P_count_1 (by decide) (by decide) rfl (by decide) (h3 rfl)
  refine R_tableOut X.1 d_P_count_1 ?_ (by decide) (hd e0 e1 e2 e3)
  have t0 : ¬ x.toInt = 0 := lv_neT e0 (by decide)
  have t1 : ¬ x.toInt = 1 := lv_neT e1 (by decide)
  have t2 : ¬ x.toInt = 2 := lv_neT e2 (by decide)
  have t3 : ¬ x.toInt = 3 := lv_neT e3 (by decide)
  omega
theorem i_P_count_32 {z : zT} {ws0 : va_W} {mc ms : Nat} {Post : Option Value → mM → Prop} (X : B_P_count z ws0 mc ms Post) {v : Value} {l1 : Option Value} {M : mM} {k n : Nat} (hv : mRf v := by first | exact mRf_r _ | exact mRf_n | exact mRf_rf _ | assumption) (h : RN z 33 [some v, l1] [v] M k n) : RN z 32 [some v, l1] [] M k n := R_aload_n X.1 d_P_count_32 rfl rfl hv h
theorem i_P_count_33 {z : zT} {ws0 : va_W} {mc ms : Nat} {Post : Option Value → mM → Prop} (X : B_P_count z ws0 mc ms Post) {a : Nat} {f0 f1 f2 f3 f4 f5 f6 f7 f8 f9 f10 : Value} {l0 l1 : Option Value} {M : mM} {k n : Nat} (hM : M a = some (.inr (3, [f0, f1, f2, f3, f4, f5, f6, f7, f8, f9, f10]))) (h : RN z 36 [l0, l1] [f4] M k n) : RN z 33 [l0, l1] [.ref a] M k n := R_get X.1 inX3 rfl 4 (Nat.le_of_ble_eq_true rfl) wd_80 d_P_count_33 hM rfl h
theorem i_P_count_36 {z : zT} {ws0 : va_W} {mc ms : Nat} {Post : Option Value → mM → Prop} (X : B_P_count z ws0 mc ms Post) {x : Int32} {l0 l1 : Option Value} {M : mM} {k n : Nat} (hk : k ≤ mc) (hn : n ≤ ms) (hp : Post (some (.int x)) M) : RN z 36 [l0, l1] [.int x] M k n := R_iret X.1 X.2 d_P_count_36 hk hn hp
theorem i_P_count_37 {z : zT} {ws0 : va_W} {mc ms : Nat} {Post : Option Value → mM → Prop} (X : B_P_count z ws0 mc ms Post) {v : Value} {l1 : Option Value} {M : mM} {k n : Nat} (hv : mRf v := by first | exact mRf_r _ | exact mRf_n | exact mRf_rf _ | assumption) (h : RN z 38 [some v, l1] [v] M k n) : RN z 37 [some v, l1] [] M k n := R_aload_n X.1 d_P_count_37 rfl rfl hv h
theorem i_P_count_38 {z : zT} {ws0 : va_W} {mc ms : Nat} {Post : Option Value → mM → Prop} (X : B_P_count z ws0 mc ms Post) {a : Nat} {f0 f1 f2 f3 f4 f5 f6 f7 f8 f9 f10 : Value} {l0 l1 : Option Value} {M : mM} {k n : Nat} (hM : M a = some (.inr (3, [f0, f1, f2, f3, f4, f5, f6, f7, f8, f9, f10]))) (h : RN z 41 [l0, l1] [f5] M k n) : RN z 38 [l0, l1] [.ref a] M k n := R_get X.1 inX3 rfl 5 (Nat.le_of_ble_eq_true rfl) wd_81 d_P_count_38 hM rfl h
theorem i_P_count_41 {z : zT} {ws0 : va_W} {mc ms : Nat} {Post : Option Value → mM → Prop} (X : B_P_count z ws0 mc ms Post) {x : Int32} {l0 l1 : Option Value} {M : mM} {k n : Nat} (hk : k ≤ mc) (hn : n ≤ ms) (hp : Post (some (.int x)) M) : RN z 41 [l0, l1] [.int x] M k n := R_iret X.1 X.2 d_P_count_41 hk hn hp
theorem i_P_count_42 {z : zT} {ws0 : va_W} {mc ms : Nat} {Post : Option Value → mM → Prop} (X : B_P_count z ws0 mc ms Post) {v : Value} {l1 : Option Value} {M : mM} {k n : Nat} (hv : mRf v := by first | exact mRf_r _ | exact mRf_n | exact mRf_rf _ | assumption) (h : RN z 43 [some v, l1] [v] M k n) : RN z 42 [some v, l1] [] M k n := R_aload_n X.1 d_P_count_42 rfl rfl hv h
theorem i_P_count_43 {z : zT} {ws0 : va_W} {mc ms : Nat} {Post : Option Value → mM → Prop} (X : B_P_count z ws0 mc ms Post) {a : Nat} {f0 f1 f2 f3 f4 f5 f6 f7 f8 f9 f10 : Value} {l0 l1 : Option Value} {M : mM} {k n : Nat} (hM : M a = some (.inr (3, [f0, f1, f2, f3, f4, f5, f6, f7, f8, f9, f10]))) (h : RN z 46 [l0, l1] [f6] M k n) : RN z 43 [l0, l1] [.ref a] M k n := R_get X.1 inX3 rfl 6 (Nat.le_of_ble_eq_true rfl) wd_82 d_P_count_43 hM rfl h
theorem i_P_count_46 {z : zT} {ws0 : va_W} {mc ms : Nat} {Post : Option Value → mM → Prop} (X : B_P_count z ws0 mc ms Post) {x : Int32} {l0 l1 : Option Value} {M : mM} {k n : Nat} (hk : k ≤ mc) (hn : n ≤ ms) (hp : Post (some (.int x)) M) : RN z 46 [l0, l1] [.int x] M k n := R_iret X.1 X.2 d_P_count_46 hk hn hp
theorem i_P_count_47 {z : zT} {ws0 : va_W} {mc ms : Nat} {Post : Option Value → mM → Prop} (X : B_P_count z ws0 mc ms Post) {v : Value} {l1 : Option Value} {M : mM} {k n : Nat} (hv : mRf v := by first | exact mRf_r _ | exact mRf_n | exact mRf_rf _ | assumption) (h : RN z 48 [some v, l1] [v] M k n) : RN z 47 [some v, l1] [] M k n := R_aload_n X.1 d_P_count_47 rfl rfl hv h
theorem i_P_count_48 {z : zT} {ws0 : va_W} {mc ms : Nat} {Post : Option Value → mM → Prop} (X : B_P_count z ws0 mc ms Post) {a : Nat} {f0 f1 f2 f3 f4 f5 f6 f7 f8 f9 f10 : Value} {l0 l1 : Option Value} {M : mM} {k n : Nat} (hM : M a = some (.inr (3, [f0, f1, f2, f3, f4, f5, f6, f7, f8, f9, f10]))) (h : RN z 51 [l0, l1] [f6] M k n) : RN z 48 [l0, l1] [.ref a] M k n := R_get X.1 inX3 rfl 6 (Nat.le_of_ble_eq_true rfl) wd_82 d_P_count_48 hM rfl h
theorem i_P_count_51 {z : zT} {ws0 : va_W} {mc ms : Nat} {Post : Option Value → mM → Prop} (X : B_P_count z ws0 mc ms Post) {v : Value} {l1 : Option Value} {s0 : Value} {M : mM} {k n : Nat} (hv : mRf v := by first | exact mRf_r _ | exact mRf_n | exact mRf_rf _ | assumption) (h : RN z 52 [some v, l1] [v, s0] M k n) : RN z 51 [some v, l1] [s0] M k n := R_aload_n X.1 d_P_count_51 rfl rfl hv h
theorem i_P_count_52 {z : zT} {ws0 : va_W} {mc ms : Nat} {Post : Option Value → mM → Prop} (X : B_P_count z ws0 mc ms Post) {a : Nat} {f0 f1 f2 f3 f4 f5 f6 f7 f8 f9 f10 : Value} {l0 l1 : Option Value} {s0 : Value} {M : mM} {k n : Nat} (hM : M a = some (.inr (3, [f0, f1, f2, f3, f4, f5, f6, f7, f8, f9, f10]))) (h : RN z 55 [l0, l1] [f9, s0] M k n) : RN z 52 [l0, l1] [.ref a, s0] M k n := R_get X.1 inX3 rfl 9 (Nat.le_of_ble_eq_true rfl) wd_85 d_P_count_52 hM rfl h
theorem i_P_count_55 {z : zT} {ws0 : va_W} {mc ms : Nat} {Post : Option Value → mM → Prop} (X : B_P_count z ws0 mc ms Post) {x y : Int32} {l0 l1 : Option Value} {M : mM} {k n : Nat}  (h : RN z 56 [l0, l1] [.int (x - y)] M k n) : RN z 55 [l0, l1] [.int y, .int x] M k n := R_isub X.1 d_P_count_55 h
theorem i_P_count_56 {z : zT} {ws0 : va_W} {mc ms : Nat} {Post : Option Value → mM → Prop} (X : B_P_count z ws0 mc ms Post) {x : Int32} {l0 l1 : Option Value} {M : mM} {k n : Nat} (hk : k ≤ mc) (hn : n ≤ ms) (hp : Post (some (.int x)) M) : RN z 56 [l0, l1] [.int x] M k n := R_iret X.1 X.2 d_P_count_56 hk hn hp
theorem i_P_count_57 {z : zT} {ws0 : va_W} {mc ms : Nat} {Post : Option Value → mM → Prop} (X : B_P_count z ws0 mc ms Post) {l0 l1 : Option Value} {M : mM} {k n : Nat}  (h : RN z 58 [l0, l1] [.int (-1)] M k n) : RN z 57 [l0, l1] [] M k n := R_iconst X.1 d_P_count_57 (by decide) h
theorem i_P_count_58 {z : zT} {ws0 : va_W} {mc ms : Nat} {Post : Option Value → mM → Prop} (X : B_P_count z ws0 mc ms Post) {x : Int32} {l0 l1 : Option Value} {M : mM} {k n : Nat} (hk : k ≤ mc) (hn : n ≤ ms) (hp : Post (some (.int x)) M) : RN z 58 [l0, l1] [.int x] M k n := R_iret X.1 X.2 d_P_count_58 hk hn hp
end

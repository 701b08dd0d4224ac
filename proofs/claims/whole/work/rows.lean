section
-- ===== PART A: goes FIRST, ahead of the names: the tables' words, and 'selects' of the private methods out of them =====
/-- a private method of a class that the tables say can be made, by its rows of tables_1 -/
def lw_okq (q : MethodName × Nat) : Prop := (q.1.cls ≠ "java/lang/invoke/MethodHandle" ∧ q.1.cls ≠ "java/lang/invoke/VarHandle") ∧ Cond.instantiable q.1.cls q.2 ∈ tables_1 ∧ Cond.privateMethod q.1 ∈ tables_1 ∧ Cond.instanceMethod q.1 ∈ tables_1
theorem lw_p0 : lw_okq (⟨"PastTree", "isMadeFolder", "(I)Z"⟩, 11) := ⟨⟨by decide +kernel, by decide +kernel⟩, List.mem_of_getElem? (i := 8) (by decide +kernel), List.mem_of_getElem? (i := 90) (by decide +kernel), List.mem_of_getElem? (i := 91) (by decide +kernel)⟩
theorem lw_p1 : lw_okq (⟨"PastTree", "isMade", "(I)Z"⟩, 11) := ⟨⟨by decide +kernel, by decide +kernel⟩, List.mem_of_getElem? (i := 8) (by decide +kernel), List.mem_of_getElem? (i := 94) (by decide +kernel), List.mem_of_getElem? (i := 95) (by decide +kernel)⟩
theorem lw_p2 : lw_okq (⟨"PastTree", "findPlaces", "(I)V"⟩, 11) := ⟨⟨by decide +kernel, by decide +kernel⟩, List.mem_of_getElem? (i := 8) (by decide +kernel), List.mem_of_getElem? (i := 101) (by decide +kernel), List.mem_of_getElem? (i := 102) (by decide +kernel)⟩
theorem lw_p3 : lw_okq (⟨"PastTree", "hasRoomFor", "(II)Z"⟩, 11) := ⟨⟨by decide +kernel, by decide +kernel⟩, List.mem_of_getElem? (i := 8) (by decide +kernel), List.mem_of_getElem? (i := 109) (by decide +kernel), List.mem_of_getElem? (i := 110) (by decide +kernel)⟩
theorem lw_p4 : lw_okq (⟨"PastTree", "entryAt", "(II)I"⟩, 11) := ⟨⟨by decide +kernel, by decide +kernel⟩, List.mem_of_getElem? (i := 8) (by decide +kernel), List.mem_of_getElem? (i := 113) (by decide +kernel), List.mem_of_getElem? (i := 114) (by decide +kernel)⟩
theorem lw_p5 : lw_okq (⟨"PastTree", "isUsedUp", "()Z"⟩, 11) := ⟨⟨by decide +kernel, by decide +kernel⟩, List.mem_of_getElem? (i := 8) (by decide +kernel), List.mem_of_getElem? (i := 120) (by decide +kernel), List.mem_of_getElem? (i := 121) (by decide +kernel)⟩
theorem lw_p6 : lw_okq (⟨"PastTree", "place", "(II)V"⟩, 11) := ⟨⟨by decide +kernel, by decide +kernel⟩, List.mem_of_getElem? (i := 8) (by decide +kernel), List.mem_of_getElem? (i := 151) (by decide +kernel), List.mem_of_getElem? (i := 152) (by decide +kernel)⟩
theorem lw_p7 : lw_okq (⟨"PastTree", "noteChange", "()V"⟩, 11) := ⟨⟨by decide +kernel, by decide +kernel⟩, List.mem_of_getElem? (i := 8) (by decide +kernel), List.mem_of_getElem? (i := 174) (by decide +kernel), List.mem_of_getElem? (i := 175) (by decide +kernel)⟩
theorem lw_p8 : lw_okq (⟨"PastTree", "firstName", "(II)I"⟩, 11) := ⟨⟨by decide +kernel, by decide +kernel⟩, List.mem_of_getElem? (i := 8) (by decide +kernel), List.mem_of_getElem? (i := 182) (by decide +kernel), List.mem_of_getElem? (i := 183) (by decide +kernel)⟩
theorem lw_p9 : lw_okq (⟨"PastTree", "isWithin", "(II)Z"⟩, 11) := ⟨⟨by decide +kernel, by decide +kernel⟩, List.mem_of_getElem? (i := 8) (by decide +kernel), List.mem_of_getElem? (i := 190) (by decide +kernel), List.mem_of_getElem? (i := 191) (by decide +kernel)⟩
theorem lw_p10 : lw_okq (⟨"PastTree", "latestVersion", "(I)LPastTree$Version;"⟩, 11) := ⟨⟨by decide +kernel, by decide +kernel⟩, List.mem_of_getElem? (i := 8) (by decide +kernel), List.mem_of_getElem? (i := 198) (by decide +kernel), List.mem_of_getElem? (i := 199) (by decide +kernel)⟩
theorem lw_p11 : lw_okq (⟨"PastTree", "addVersion", "(ILPastTree$Version;[I)I"⟩, 11) := ⟨⟨by decide +kernel, by decide +kernel⟩, List.mem_of_getElem? (i := 8) (by decide +kernel), List.mem_of_getElem? (i := 212) (by decide +kernel), List.mem_of_getElem? (i := 213) (by decide +kernel)⟩
theorem lw_p12 : lw_okq (⟨"PastTree", "makeDurable", "()V"⟩, 11) := ⟨⟨by decide +kernel, by decide +kernel⟩, List.mem_of_getElem? (i := 8) (by decide +kernel), List.mem_of_getElem? (i := 249) (by decide +kernel), List.mem_of_getElem? (i := 250) (by decide +kernel)⟩
theorem lw_p13 : lw_okq (⟨"PastTree", "dropThinned", "(LPastTree$Version;)I"⟩, 11) := ⟨⟨by decide +kernel, by decide +kernel⟩, List.mem_of_getElem? (i := 8) (by decide +kernel), List.mem_of_getElem? (i := 257) (by decide +kernel), List.mem_of_getElem? (i := 258) (by decide +kernel)⟩
theorem lw_p14 : lw_okq (⟨"PastTree", "kindOf", "(I)I"⟩, 11) := ⟨⟨by decide +kernel, by decide +kernel⟩, List.mem_of_getElem? (i := 8) (by decide +kernel), List.mem_of_getElem? (i := 277) (by decide +kernel), List.mem_of_getElem? (i := 278) (by decide +kernel)⟩
theorem lw_p15 : lw_okq (⟨"PastTreeModel", "asOf", "(I)V"⟩, 18) := ⟨⟨by decide +kernel, by decide +kernel⟩, List.mem_of_getElem? (i := 295) (by decide +kernel), List.mem_of_getElem? (i := 368) (by decide +kernel), List.mem_of_getElem? (i := 369) (by decide +kernel)⟩
def lw_privs_1 : List (MethodName × Nat) := [(⟨"PastTree", "isMadeFolder", "(I)Z"⟩, 11), (⟨"PastTree", "isMade", "(I)Z"⟩, 11), (⟨"PastTree", "findPlaces", "(I)V"⟩, 11), (⟨"PastTree", "hasRoomFor", "(II)Z"⟩, 11), (⟨"PastTree", "entryAt", "(II)I"⟩, 11), (⟨"PastTree", "isUsedUp", "()Z"⟩, 11), (⟨"PastTree", "place", "(II)V"⟩, 11), (⟨"PastTree", "noteChange", "()V"⟩, 11), (⟨"PastTree", "firstName", "(II)I"⟩, 11), (⟨"PastTree", "isWithin", "(II)Z"⟩, 11), (⟨"PastTree", "latestVersion", "(I)LPastTree$Version;"⟩, 11), (⟨"PastTree", "addVersion", "(ILPastTree$Version;[I)I"⟩, 11), (⟨"PastTree", "makeDurable", "()V"⟩, 11), (⟨"PastTree", "dropThinned", "(LPastTree$Version;)I"⟩, 11), (⟨"PastTree", "kindOf", "(I)I"⟩, 11), (⟨"PastTreeModel", "asOf", "(I)V"⟩, 18)]
theorem lw_r1 : ∀ q ∈ lw_privs_1, lw_okq q := List.forall_mem_cons.mpr ⟨lw_p0, List.forall_mem_cons.mpr ⟨lw_p1, List.forall_mem_cons.mpr ⟨lw_p2, List.forall_mem_cons.mpr ⟨lw_p3, List.forall_mem_cons.mpr ⟨lw_p4, List.forall_mem_cons.mpr ⟨lw_p5, List.forall_mem_cons.mpr ⟨lw_p6, List.forall_mem_cons.mpr ⟨lw_p7, List.forall_mem_cons.mpr ⟨lw_p8, List.forall_mem_cons.mpr ⟨lw_p9, List.forall_mem_cons.mpr ⟨lw_p10, List.forall_mem_cons.mpr ⟨lw_p11, List.forall_mem_cons.mpr ⟨lw_p12, List.forall_mem_cons.mpr ⟨lw_p13, List.forall_mem_cons.mpr ⟨lw_p14, List.forall_mem_cons.mpr ⟨lw_p15, fun _ h => absurd h List.not_mem_nil⟩⟩⟩⟩⟩⟩⟩⟩⟩⟩⟩⟩⟩⟩⟩⟩
theorem lw_p16 : lw_okq (⟨"PastTreeModel", "kind", "(I)I"⟩, 18) := ⟨⟨by decide +kernel, by decide +kernel⟩, List.mem_of_getElem? (i := 295) (by decide +kernel), List.mem_of_getElem? (i := 372) (by decide +kernel), List.mem_of_getElem? (i := 373) (by decide +kernel)⟩
theorem lw_p17 : lw_okq (⟨"PastTreeModel", "open", "(I)Z"⟩, 18) := ⟨⟨by decide +kernel, by decide +kernel⟩, List.mem_of_getElem? (i := 295) (by decide +kernel), List.mem_of_getElem? (i := 376) (by decide +kernel), List.mem_of_getElem? (i := 377) (by decide +kernel)⟩
theorem lw_p18 : lw_okq (⟨"PastTreeModel", "placed", "(I)Z"⟩, 18) := ⟨⟨by decide +kernel, by decide +kernel⟩, List.mem_of_getElem? (i := 295) (by decide +kernel), List.mem_of_getElem? (i := 380) (by decide +kernel), List.mem_of_getElem? (i := 381) (by decide +kernel)⟩
theorem lw_p19 : lw_okq (⟨"PastTreeModel", "nodes", "()I"⟩, 18) := ⟨⟨by decide +kernel, by decide +kernel⟩, List.mem_of_getElem? (i := 295) (by decide +kernel), List.mem_of_getElem? (i := 384) (by decide +kernel), List.mem_of_getElem? (i := 385) (by decide +kernel)⟩
theorem lw_p20 : lw_okq (⟨"PastTreeModel", "change", "(IIIII)I"⟩, 18) := ⟨⟨by decide +kernel, by decide +kernel⟩, List.mem_of_getElem? (i := 295) (by decide +kernel), List.mem_of_getElem? (i := 388) (by decide +kernel), List.mem_of_getElem? (i := 389) (by decide +kernel)⟩
theorem lw_p21 : lw_okq (⟨"PastTreeModel", "copyCells", "(II)V"⟩, 18) := ⟨⟨by decide +kernel, by decide +kernel⟩, List.mem_of_getElem? (i := 295) (by decide +kernel), List.mem_of_getElem? (i := 392) (by decide +kernel), List.mem_of_getElem? (i := 393) (by decide +kernel)⟩
theorem lw_p22 : lw_okq (⟨"PastTreeModel", "hasEntries", "(I)Z"⟩, 18) := ⟨⟨by decide +kernel, by decide +kernel⟩, List.mem_of_getElem? (i := 295) (by decide +kernel), List.mem_of_getElem? (i := 400) (by decide +kernel), List.mem_of_getElem? (i := 401) (by decide +kernel)⟩
theorem lw_p23 : lw_okq (⟨"PastTreeModel", "reach", "(I)V"⟩, 18) := ⟨⟨by decide +kernel, by decide +kernel⟩, List.mem_of_getElem? (i := 295) (by decide +kernel), List.mem_of_getElem? (i := 408) (by decide +kernel), List.mem_of_getElem? (i := 409) (by decide +kernel)⟩
theorem lw_p24 : lw_okq (⟨"PastTreeModel", "version", "(II)I"⟩, 18) := ⟨⟨by decide +kernel, by decide +kernel⟩, List.mem_of_getElem? (i := 295) (by decide +kernel), List.mem_of_getElem? (i := 416) (by decide +kernel), List.mem_of_getElem? (i := 417) (by decide +kernel)⟩
theorem lw_p25 : lw_okq (⟨"PastTreeModel", "versions", "(I)I"⟩, 18) := ⟨⟨by decide +kernel, by decide +kernel⟩, List.mem_of_getElem? (i := 295) (by decide +kernel), List.mem_of_getElem? (i := 420) (by decide +kernel), List.mem_of_getElem? (i := 421) (by decide +kernel)⟩
theorem lw_p26 : lw_okq (⟨"PastTreeModel", "timeOf", "(II)I"⟩, 18) := ⟨⟨by decide +kernel, by decide +kernel⟩, List.mem_of_getElem? (i := 295) (by decide +kernel), List.mem_of_getElem? (i := 424) (by decide +kernel), List.mem_of_getElem? (i := 425) (by decide +kernel)⟩
theorem lw_p27 : lw_okq (⟨"PastTreeModel", "isGone", "(II)Z"⟩, 18) := ⟨⟨by decide +kernel, by decide +kernel⟩, List.mem_of_getElem? (i := 295) (by decide +kernel), List.mem_of_getElem? (i := 432) (by decide +kernel), List.mem_of_getElem? (i := 433) (by decide +kernel)⟩
theorem lw_p28 : lw_okq (⟨"PastTreeModel", "asked", "(III)Z"⟩, 18) := ⟨⟨by decide +kernel, by decide +kernel⟩, List.mem_of_getElem? (i := 295) (by decide +kernel), List.mem_of_getElem? (i := 440) (by decide +kernel), List.mem_of_getElem? (i := 441) (by decide +kernel)⟩
def lw_privs_2 : List (MethodName × Nat) := [(⟨"PastTreeModel", "kind", "(I)I"⟩, 18), (⟨"PastTreeModel", "open", "(I)Z"⟩, 18), (⟨"PastTreeModel", "placed", "(I)Z"⟩, 18), (⟨"PastTreeModel", "nodes", "()I"⟩, 18), (⟨"PastTreeModel", "change", "(IIIII)I"⟩, 18), (⟨"PastTreeModel", "copyCells", "(II)V"⟩, 18), (⟨"PastTreeModel", "hasEntries", "(I)Z"⟩, 18), (⟨"PastTreeModel", "reach", "(I)V"⟩, 18), (⟨"PastTreeModel", "version", "(II)I"⟩, 18), (⟨"PastTreeModel", "versions", "(I)I"⟩, 18), (⟨"PastTreeModel", "timeOf", "(II)I"⟩, 18), (⟨"PastTreeModel", "isGone", "(II)Z"⟩, 18), (⟨"PastTreeModel", "asked", "(III)Z"⟩, 18)]
theorem lw_r2 : ∀ q ∈ lw_privs_2, lw_okq q := List.forall_mem_cons.mpr ⟨lw_p16, List.forall_mem_cons.mpr ⟨lw_p17, List.forall_mem_cons.mpr ⟨lw_p18, List.forall_mem_cons.mpr ⟨lw_p19, List.forall_mem_cons.mpr ⟨lw_p20, List.forall_mem_cons.mpr ⟨lw_p21, List.forall_mem_cons.mpr ⟨lw_p22, List.forall_mem_cons.mpr ⟨lw_p23, List.forall_mem_cons.mpr ⟨lw_p24, List.forall_mem_cons.mpr ⟨lw_p25, List.forall_mem_cons.mpr ⟨lw_p26, List.forall_mem_cons.mpr ⟨lw_p27, List.forall_mem_cons.mpr ⟨lw_p28, fun _ h => absurd h List.not_mem_nil⟩⟩⟩⟩⟩⟩⟩⟩⟩⟩⟩⟩⟩
def lw_privs : List (MethodName × Nat) := lw_privs_1 ++ (lw_privs_2)
def lw_tbl : List Cond := k2_sels lw_privs ++ tables_1
theorem lw_privs_ok : ∀ q ∈ lw_privs, lw_okq q := by
  show ∀ q ∈ lw_privs_1 ++ (lw_privs_2), lw_okq q
  exact List.forall_mem_append.mpr ⟨lw_r1, lw_r2⟩
end
section
/-- those of the words that a callee may be given -/
def lw_big : List Cond := lw_tbl.filter goodWord
def RX0 : String := "PastTree$Node"
def TX0 : u_T := fun k => match k with
  | 0 => ("PastTree$Node", "spot", "LPastTree$Spot;", false)
  | 1 => ("PastTree$Node", "version", "LPastTree$Version;", false)
  | 2 => ("PastTree$Node", "durableSpot", "LPastTree$Spot;", false)
  | _ => ("PastTree$Node", "durableVersion", "LPastTree$Version;", false)
def tyX0 : Nat → FieldType := fun k => match k with
  | 0 => .object "PastTree$Spot"
  | 1 => .object "PastTree$Version"
  | 2 => .object "PastTree$Spot"
  | _ => .object "PastTree$Version"
theorem nmX0 : ∀ a, a < 4 → ∀ b, b < 4 → a ≠ b → (TX0 a).2.1 ≠ (TX0 b).2.1 := by decide +kernel
theorem tyX0_ok : ∀ k, k < 4 → parseFieldDescriptor (TX0 k).2.2.1 = some (tyX0 k) := by decide +kernel
theorem inX0 : ∀ w ∈ u_ws RX0 TX0 4, w ∈ lw_big := by decide +kernel
def RX1 : String := "PastTree$Spot"
def TX1 : u_T := fun k => match k with
  | 0 => ("PastTree$Spot", "time", "I", true)
  | 1 => ("PastTree$Spot", "place", "I", true)
  | _ => ("PastTree$Spot", "before", "LPastTree$Spot;", true)
def tyX1 : Nat → FieldType := fun k => match k with
  | 0 => .int
  | 1 => .int
  | _ => .object "PastTree$Spot"
theorem nmX1 : ∀ a, a < 3 → ∀ b, b < 3 → a ≠ b → (TX1 a).2.1 ≠ (TX1 b).2.1 := by decide +kernel
theorem tyX1_ok : ∀ k, k < 3 → parseFieldDescriptor (TX1 k).2.2.1 = some (tyX1 k) := by decide +kernel
theorem inX1 : ∀ w ∈ u_ws RX1 TX1 3, w ∈ lw_big := by decide +kernel
def RX2 : String := "PastTree$Version"
def TX2 : u_T := fun k => match k with
  | 0 => ("PastTree$Version", "time", "I", true)
  | 1 => ("PastTree$Version", "index", "I", true)
  | 2 => ("PastTree$Version", "cells", "[I", true)
  | 3 => ("PastTree$Version", "before", "LPastTree$Version;", true)
  | _ => ("PastTree$Version", "gone", "Z", false)
def tyX2 : Nat → FieldType := fun k => match k with
  | 0 => .int
  | 1 => .int
  | 2 => .array .int
  | 3 => .object "PastTree$Version"
  | _ => .boolean
theorem nmX2 : ∀ a, a < 5 → ∀ b, b < 5 → a ≠ b → (TX2 a).2.1 ≠ (TX2 b).2.1 := by decide +kernel
theorem tyX2_ok : ∀ k, k < 5 → parseFieldDescriptor (TX2 k).2.2.1 = some (tyX2 k) := by decide +kernel
theorem inX2 : ∀ w ∈ u_ws RX2 TX2 5, w ∈ lw_big := by decide +kernel
def RX3 : String := "PastTree"
def TX3 : u_T := fun k => match k with
  | 0 => ("PastTree", "window", "I", true)
  | 1 => ("PastTree", "gap", "I", true)
  | 2 => ("PastTree", "nodes", "[LPastTree$Node;", true)
  | 3 => ("PastTree", "places", "[I", true)
  | 4 => ("PastTree", "clock", "I", false)
  | 5 => ("PastTree", "made", "I", false)
  | 6 => ("PastTree", "changes", "I", false)
  | 7 => ("PastTree", "durableClock", "I", false)
  | 8 => ("PastTree", "durableMade", "I", false)
  | 9 => ("PastTree", "durableChanges", "I", false)
  | _ => ("PastTree", "changesEver", "I", false)
def tyX3 : Nat → FieldType := fun k => match k with
  | 0 => .int
  | 1 => .int
  | 2 => .array (.object "PastTree$Node")
  | 3 => .array .int
  | 4 => .int
  | 5 => .int
  | 6 => .int
  | 7 => .int
  | 8 => .int
  | 9 => .int
  | _ => .int
theorem nmX3 : ∀ a, a < 11 → ∀ b, b < 11 → a ≠ b → (TX3 a).2.1 ≠ (TX3 b).2.1 := by decide +kernel
theorem tyX3_ok : ∀ k, k < 11 → parseFieldDescriptor (TX3 k).2.2.1 = some (tyX3 k) := by decide +kernel
theorem inX3 : ∀ w ∈ u_ws RX3 TX3 11, w ∈ lw_big := by decide +kernel
def RX4 : String := "PastTreeModel"
def TX4 : u_T := fun k => match k with
  | 0 => ("PastTreeModel", "window", "I", true)
  | 1 => ("PastTreeModel", "gap", "I", true)
  | 2 => ("PastTreeModel", "when", "[I", true)
  | 3 => ("PastTreeModel", "set", "[I", true)
  | 4 => ("PastTreeModel", "node", "[I", true)
  | 5 => ("PastTreeModel", "unset", "[I", true)
  | 6 => ("PastTreeModel", "file", "[I", true)
  | 7 => ("PastTreeModel", "made", "[I", true)
  | 8 => ("PastTreeModel", "cell", "[I", true)
  | 9 => ("PastTreeModel", "changes", "I", false)
  | 10 => ("PastTreeModel", "durable", "I", false)
  | 11 => ("PastTreeModel", "clock", "I", false)
  | 12 => ("PastTreeModel", "durableClock", "I", false)
  | 13 => ("PastTreeModel", "goneFile", "[I", true)
  | 14 => ("PastTreeModel", "goneTime", "[I", true)
  | 15 => ("PastTreeModel", "gone", "I", false)
  | 16 => ("PastTreeModel", "entry", "[I", true)
  | _ => ("PastTreeModel", "reached", "[Z", true)
def tyX4 : Nat → FieldType := fun k => match k with
  | 0 => .int
  | 1 => .int
  | 2 => .array .int
  | 3 => .array .int
  | 4 => .array .int
  | 5 => .array .int
  | 6 => .array .int
  | 7 => .array .int
  | 8 => .array .int
  | 9 => .int
  | 10 => .int
  | 11 => .int
  | 12 => .int
  | 13 => .array .int
  | 14 => .array .int
  | 15 => .int
  | 16 => .array .int
  | _ => .array .boolean
theorem nmX4 : ∀ a, a < 18 → ∀ b, b < 18 → a ≠ b → (TX4 a).2.1 ≠ (TX4 b).2.1 := by decide +kernel
theorem tyX4_ok : ∀ k, k < 18 → parseFieldDescriptor (TX4 k).2.2.1 = some (tyX4 k) := by decide +kernel
theorem inX4 : ∀ w ∈ u_ws RX4 TX4 18, w ∈ lw_big := by decide +kernel
def RL : String := "PastTreeLaw"
abbrev vwCl : List vw_C := [(RX0, TX0, 4), (RX1, TX1, 3), (RX2, TX2, 5), (RX3, TX3, 11), (RX4, TX4, 18)]
abbrev c_P_init : ByteArray := prog_1_method_1_code
def y_P_init : MethodName := ⟨RX3, "<init>", "(II)V"⟩
abbrev k_P_init : Cond := .code y_P_init c_P_init 4 none
abbrev w_P_init : List Cond := k_P_init :: lw_big
abbrev c_P_tick : ByteArray := prog_1_method_2_code
def y_P_tick : MethodName := ⟨RX3, "tick", "(I)I"⟩
abbrev k_P_tick : Cond := .code y_P_tick c_P_tick 2 (some (.int))
abbrev w_P_tick : List Cond := k_P_tick :: lw_big
abbrev c_P_make : ByteArray := prog_1_method_3_code
def y_P_make : MethodName := ⟨RX3, "make", "(IIZ)I"⟩
abbrev k_P_make : Cond := .code y_P_make c_P_make 5 (some (.int))
abbrev w_P_make : List Cond := k_P_make :: lw_big
abbrev c_P_remove : ByteArray := prog_1_method_4_code
def y_P_remove : MethodName := ⟨RX3, "remove", "(II)I"⟩
abbrev k_P_remove : Cond := .code y_P_remove c_P_remove 4 (some (.int))
abbrev w_P_remove : List Cond := k_P_remove :: lw_big
abbrev c_P_move : ByteArray := prog_1_method_5_code
def y_P_move : MethodName := ⟨RX3, "move", "(IIII)I"⟩
abbrev k_P_move : Cond := .code y_P_move c_P_move 6 (some (.int))
abbrev w_P_move : List Cond := k_P_move :: lw_big
abbrev c_P_write : ByteArray := prog_1_method_6_code
def y_P_write : MethodName := ⟨RX3, "write", "(III)I"⟩
abbrev k_P_write : Cond := .code y_P_write c_P_write 6 (some (.int))
abbrev w_P_write : List Cond := k_P_write :: lw_big
abbrev c_P_turnBack : ByteArray := prog_1_method_7_code
def y_P_turnBack : MethodName := ⟨RX3, "turnBack", "(II)I"⟩
abbrev k_P_turnBack : Cond := .code y_P_turnBack c_P_turnBack 5 (some (.int))
abbrev w_P_turnBack : List Cond := k_P_turnBack :: lw_big
abbrev c_P_putBack : ByteArray := prog_1_method_8_code
def y_P_putBack : MethodName := ⟨RX3, "putBack", "(III)I"⟩
abbrev k_P_putBack : Cond := .code y_P_putBack c_P_putBack 5 (some (.int))
abbrev w_P_putBack : List Cond := k_P_putBack :: lw_big
abbrev c_P_look : ByteArray := prog_1_method_9_code
def y_P_look : MethodName := ⟨RX3, "look", "(III)I"⟩
abbrev k_P_look : Cond := .code y_P_look c_P_look 4 (some (.int))
abbrev w_P_look : List Cond := k_P_look :: lw_big
abbrev c_P_next : ByteArray := prog_1_method_10_code
def y_P_next : MethodName := ⟨RX3, "next", "(III)I"⟩
abbrev k_P_next : Cond := .code y_P_next c_P_next 4 (some (.int))
abbrev w_P_next : List Cond := k_P_next :: lw_big
abbrev c_P_read : ByteArray := prog_1_method_11_code
def y_P_read : MethodName := ⟨RX3, "read", "(III)J"⟩
abbrev k_P_read : Cond := .code y_P_read c_P_read 6 (some (.long))
abbrev w_P_read : List Cond := k_P_read :: lw_big
abbrev c_P_below : ByteArray := prog_1_method_12_code
def y_P_below : MethodName := ⟨RX3, "below", "(II)I"⟩
abbrev k_P_below : Cond := .code y_P_below c_P_below 5 (some (.int))
abbrev w_P_below : List Cond := k_P_below :: lw_big
abbrev c_P_thin : ByteArray := prog_1_method_13_code
def y_P_thin : MethodName := ⟨RX3, "thin", "(I)I"⟩
abbrev k_P_thin : Cond := .code y_P_thin c_P_thin 3 (some (.int))
abbrev w_P_thin : List Cond := k_P_thin :: lw_big
abbrev c_P_sync : ByteArray := prog_1_method_14_code
def y_P_sync : MethodName := ⟨RX3, "sync", "()I"⟩
abbrev k_P_sync : Cond := .code y_P_sync c_P_sync 1 (some (.int))
abbrev w_P_sync : List Cond := k_P_sync :: lw_big
abbrev c_P_crash : ByteArray := prog_1_method_15_code
def y_P_crash : MethodName := ⟨RX3, "crash", "()I"⟩
abbrev k_P_crash : Cond := .code y_P_crash c_P_crash 3 (some (.int))
abbrev w_P_crash : List Cond := k_P_crash :: lw_big
abbrev c_P_node : ByteArray := prog_1_method_16_code
def y_P_node : MethodName := ⟨RX3, "node", "(II)I"⟩
abbrev k_P_node : Cond := .code y_P_node c_P_node 4 (some (.int))
abbrev w_P_node : List Cond := k_P_node :: lw_big
abbrev c_P_versionTime : ByteArray := prog_1_method_17_code
def y_P_versionTime : MethodName := ⟨RX3, "versionTime", "(II)I"⟩
abbrev k_P_versionTime : Cond := .code y_P_versionTime c_P_versionTime 4 (some (.int))
abbrev w_P_versionTime : List Cond := k_P_versionTime :: lw_big
abbrev c_P_count : ByteArray := prog_1_method_18_code
def y_P_count : MethodName := ⟨RX3, "count", "(I)I"⟩
abbrev k_P_count : Cond := .code y_P_count c_P_count 2 (some (.int))
abbrev w_P_count : List Cond := k_P_count :: lw_big
abbrev c_P_clamp : ByteArray := prog_1_method_19_code
def y_P_clamp : MethodName := ⟨RX3, "clamp", "(I)I"⟩
abbrev k_P_clamp : Cond := .code y_P_clamp c_P_clamp 1 (some (.int))
abbrev w_P_clamp : List Cond := k_P_clamp :: lw_big
abbrev c_P_isName : ByteArray := prog_1_method_20_code
def y_P_isName : MethodName := ⟨RX3, "isName", "(I)Z"⟩
abbrev k_P_isName : Cond := .code y_P_isName c_P_isName 1 (some (.boolean))
abbrev w_P_isName : List Cond := k_P_isName :: lw_big
abbrev c_P_isCell : ByteArray := prog_1_method_21_code
def y_P_isCell : MethodName := ⟨RX3, "isCell", "(I)Z"⟩
abbrev k_P_isCell : Cond := .code y_P_isCell c_P_isCell 1 (some (.boolean))
abbrev w_P_isCell : List Cond := k_P_isCell :: lw_big
abbrev c_P_placeOf : ByteArray := prog_1_method_22_code
def y_P_placeOf : MethodName := ⟨RX3, "placeOf", "(II)I"⟩
abbrev k_P_placeOf : Cond := .code y_P_placeOf c_P_placeOf 2 (some (.int))
abbrev w_P_placeOf : List Cond := k_P_placeOf :: lw_big
abbrev c_P_isMade : ByteArray := prog_1_method_23_code
def y_P_isMade : MethodName := ⟨RX3, "isMade", "(I)Z"⟩
abbrev k_P_isMade : Cond := .code y_P_isMade c_P_isMade 2 (some (.boolean))
abbrev w_P_isMade : List Cond := k_P_isMade :: lw_big
abbrev c_P_isMadeFolder : ByteArray := prog_1_method_24_code
def y_P_isMadeFolder : MethodName := ⟨RX3, "isMadeFolder", "(I)Z"⟩
abbrev k_P_isMadeFolder : Cond := .code y_P_isMadeFolder c_P_isMadeFolder 2 (some (.boolean))
abbrev w_P_isMadeFolder : List Cond := k_P_isMadeFolder :: lw_big
abbrev c_P_latestVersion : ByteArray := prog_1_method_25_code
def y_P_latestVersion : MethodName := ⟨RX3, "latestVersion", "(I)LPastTree$Version;"⟩
abbrev k_P_latestVersion : Cond := .code y_P_latestVersion c_P_latestVersion 2 (some (.object "PastTree$Version"))
abbrev w_P_latestVersion : List Cond := k_P_latestVersion :: lw_big
abbrev c_P_kindOf : ByteArray := prog_1_method_26_code
def y_P_kindOf : MethodName := ⟨RX3, "kindOf", "(I)I"⟩
abbrev k_P_kindOf : Cond := .code y_P_kindOf c_P_kindOf 2 (some (.int))
abbrev w_P_kindOf : List Cond := k_P_kindOf :: lw_big
abbrev c_P_isUsedUp : ByteArray := prog_1_method_27_code
def y_P_isUsedUp : MethodName := ⟨RX3, "isUsedUp", "()Z"⟩
abbrev k_P_isUsedUp : Cond := .code y_P_isUsedUp c_P_isUsedUp 1 (some (.boolean))
abbrev w_P_isUsedUp : List Cond := k_P_isUsedUp :: lw_big
abbrev c_P_noteChange : ByteArray := prog_1_method_28_code
def y_P_noteChange : MethodName := ⟨RX3, "noteChange", "()V"⟩
abbrev k_P_noteChange : Cond := .code y_P_noteChange c_P_noteChange 1 none
abbrev w_P_noteChange : List Cond := k_P_noteChange :: lw_big
abbrev c_P_place : ByteArray := prog_1_method_29_code
def y_P_place : MethodName := ⟨RX3, "place", "(II)V"⟩
abbrev k_P_place : Cond := .code y_P_place c_P_place 3 none
abbrev w_P_place : List Cond := k_P_place :: lw_big
abbrev c_P_addVersion : ByteArray := prog_1_method_30_code
def y_P_addVersion : MethodName := ⟨RX3, "addVersion", "(ILPastTree$Version;[I)I"⟩
abbrev k_P_addVersion : Cond := .code y_P_addVersion c_P_addVersion 6 (some (.int))
abbrev w_P_addVersion : List Cond := k_P_addVersion :: lw_big
abbrev c_P_findPlaces : ByteArray := prog_1_method_31_code
def y_P_findPlaces : MethodName := ⟨RX3, "findPlaces", "(I)V"⟩
abbrev k_P_findPlaces : Cond := .code y_P_findPlaces c_P_findPlaces 3 none
abbrev w_P_findPlaces : List Cond := k_P_findPlaces :: lw_big
abbrev c_P_entryAt : ByteArray := prog_1_method_32_code
def y_P_entryAt : MethodName := ⟨RX3, "entryAt", "(II)I"⟩
abbrev k_P_entryAt : Cond := .code y_P_entryAt c_P_entryAt 5 (some (.int))
abbrev w_P_entryAt : List Cond := k_P_entryAt :: lw_big
abbrev c_P_firstName : ByteArray := prog_1_method_33_code
def y_P_firstName : MethodName := ⟨RX3, "firstName", "(II)I"⟩
abbrev k_P_firstName : Cond := .code y_P_firstName c_P_firstName 4 (some (.int))
abbrev w_P_firstName : List Cond := k_P_firstName :: lw_big
abbrev c_P_hasRoomFor : ByteArray := prog_1_method_34_code
def y_P_hasRoomFor : MethodName := ⟨RX3, "hasRoomFor", "(II)Z"⟩
abbrev k_P_hasRoomFor : Cond := .code y_P_hasRoomFor c_P_hasRoomFor 4 (some (.boolean))
abbrev w_P_hasRoomFor : List Cond := k_P_hasRoomFor :: lw_big
abbrev c_P_isWithin : ByteArray := prog_1_method_35_code
def y_P_isWithin : MethodName := ⟨RX3, "isWithin", "(II)Z"⟩
abbrev k_P_isWithin : Cond := .code y_P_isWithin c_P_isWithin 5 (some (.boolean))
abbrev w_P_isWithin : List Cond := k_P_isWithin :: lw_big
abbrev c_P_makeDurable : ByteArray := prog_1_method_36_code
def y_P_makeDurable : MethodName := ⟨RX3, "makeDurable", "()V"⟩
abbrev k_P_makeDurable : Cond := .code y_P_makeDurable c_P_makeDurable 2 none
abbrev w_P_makeDurable : List Cond := k_P_makeDurable :: lw_big
abbrev c_P_dropThinned : ByteArray := prog_1_method_37_code
def y_P_dropThinned : MethodName := ⟨RX3, "dropThinned", "(LPastTree$Version;)I"⟩
abbrev k_P_dropThinned : Cond := .code y_P_dropThinned c_P_dropThinned 7 (some (.int))
abbrev w_P_dropThinned : List Cond := k_P_dropThinned :: lw_big
abbrev c_P_versionAsOf : ByteArray := prog_1_method_38_code
def y_P_versionAsOf : MethodName := ⟨RX3, "versionAsOf", "(LPastTree$Version;I)LPastTree$Version;"⟩
abbrev k_P_versionAsOf : Cond := .code y_P_versionAsOf c_P_versionAsOf 3 (some (.object "PastTree$Version"))
abbrev w_P_versionAsOf : List Cond := k_P_versionAsOf :: lw_big
abbrev c_P_countGone : ByteArray := prog_1_method_39_code
def y_P_countGone : MethodName := ⟨RX3, "countGone", "(LPastTree$Version;)I"⟩
abbrev k_P_countGone : Cond := .code y_P_countGone c_P_countGone 3 (some (.int))
abbrev w_P_countGone : List Cond := k_P_countGone :: lw_big
abbrev c_T_init : ByteArray := prog_6_method_1_code
def y_T_init : MethodName := ⟨RX4, "<init>", "(II)V"⟩
abbrev k_T_init : Cond := .code y_T_init c_T_init 3 none
abbrev w_T_init : List Cond := k_T_init :: lw_big
abbrev c_T_isin : ByteArray := prog_6_method_2_code
def y_T_isin : MethodName := ⟨RX4, "in", "(II)Z"⟩
abbrev k_T_isin : Cond := .code y_T_isin c_T_isin 2 (some (.boolean))
abbrev w_T_isin : List Cond := k_T_isin :: lw_big
abbrev c_T_nodes : ByteArray := prog_6_method_3_code
def y_T_nodes : MethodName := ⟨RX4, "nodes", "()I"⟩
abbrev k_T_nodes : Cond := .code y_T_nodes c_T_nodes 3 (some (.int))
abbrev w_T_nodes : List Cond := k_T_nodes :: lw_big
abbrev c_T_kind : ByteArray := prog_6_method_4_code
def y_T_kind : MethodName := ⟨RX4, "kind", "(I)I"⟩
abbrev k_T_kind : Cond := .code y_T_kind c_T_kind 3 (some (.int))
abbrev w_T_kind : List Cond := k_T_kind :: lw_big
abbrev c_T_asOf : ByteArray := prog_6_method_5_code
def y_T_asOf : MethodName := ⟨RX4, "asOf", "(I)V"⟩
abbrev k_T_asOf : Cond := .code y_T_asOf c_T_asOf 3 none
abbrev w_T_asOf : List Cond := k_T_asOf :: lw_big
abbrev c_T_placed : ByteArray := prog_6_method_6_code
def y_T_placed : MethodName := ⟨RX4, "placed", "(I)Z"⟩
abbrev k_T_placed : Cond := .code y_T_placed c_T_placed 3 (some (.boolean))
abbrev w_T_placed : List Cond := k_T_placed :: lw_big
abbrev c_T_opn : ByteArray := prog_6_method_7_code
def y_T_opn : MethodName := ⟨RX4, "open", "(I)Z"⟩
abbrev k_T_opn : Cond := .code y_T_opn c_T_opn 2 (some (.boolean))
abbrev w_T_opn : List Cond := k_T_opn :: lw_big
abbrev c_T_reach : ByteArray := prog_6_method_8_code
def y_T_reach : MethodName := ⟨RX4, "reach", "(I)V"⟩
abbrev k_T_reach : Cond := .code y_T_reach c_T_reach 4 none
abbrev w_T_reach : List Cond := k_T_reach :: lw_big
abbrev c_T_hasEntries : ByteArray := prog_6_method_9_code
def y_T_hasEntries : MethodName := ⟨RX4, "hasEntries", "(I)Z"⟩
abbrev k_T_hasEntries : Cond := .code y_T_hasEntries c_T_hasEntries 3 (some (.boolean))
abbrev w_T_hasEntries : List Cond := k_T_hasEntries :: lw_big
abbrev c_T_change : ByteArray := prog_6_method_10_code
def y_T_change : MethodName := ⟨RX4, "change", "(IIIII)I"⟩
abbrev k_T_change : Cond := .code y_T_change c_T_change 7 (some (.int))
abbrev w_T_change : List Cond := k_T_change :: lw_big
abbrev c_T_version : ByteArray := prog_6_method_11_code
def y_T_version : MethodName := ⟨RX4, "version", "(II)I"⟩
abbrev k_T_version : Cond := .code y_T_version c_T_version 4 (some (.int))
abbrev w_T_version : List Cond := k_T_version :: lw_big
abbrev c_T_isGone : ByteArray := prog_6_method_12_code
def y_T_isGone : MethodName := ⟨RX4, "isGone", "(II)Z"⟩
abbrev k_T_isGone : Cond := .code y_T_isGone c_T_isGone 4 (some (.boolean))
abbrev w_T_isGone : List Cond := k_T_isGone :: lw_big
abbrev c_T_timeOf : ByteArray := prog_6_method_13_code
def y_T_timeOf : MethodName := ⟨RX4, "timeOf", "(II)I"⟩
abbrev k_T_timeOf : Cond := .code y_T_timeOf c_T_timeOf 6 (some (.int))
abbrev w_T_timeOf : List Cond := k_T_timeOf :: lw_big
abbrev c_T_versions : ByteArray := prog_6_method_14_code
def y_T_versions : MethodName := ⟨RX4, "versions", "(I)I"⟩
abbrev k_T_versions : Cond := .code y_T_versions c_T_versions 3 (some (.int))
abbrev w_T_versions : List Cond := k_T_versions :: lw_big
abbrev c_T_copyCells : ByteArray := prog_6_method_15_code
def y_T_copyCells : MethodName := ⟨RX4, "copyCells", "(II)V"⟩
abbrev k_T_copyCells : Cond := .code y_T_copyCells c_T_copyCells 4 none
abbrev w_T_copyCells : List Cond := k_T_copyCells :: lw_big
abbrev c_T_tick : ByteArray := prog_6_method_16_code
def y_T_tick : MethodName := ⟨RX4, "tick", "(I)I"⟩
abbrev k_T_tick : Cond := .code y_T_tick c_T_tick 2 (some (.int))
abbrev w_T_tick : List Cond := k_T_tick :: lw_big
abbrev c_T_make : ByteArray := prog_6_method_17_code
def y_T_make : MethodName := ⟨RX4, "make", "(IIZ)I"⟩
abbrev k_T_make : Cond := .code y_T_make c_T_make 6 (some (.int))
abbrev w_T_make : List Cond := k_T_make :: lw_big
abbrev c_T_remove : ByteArray := prog_6_method_18_code
def y_T_remove : MethodName := ⟨RX4, "remove", "(II)I"⟩
abbrev k_T_remove : Cond := .code y_T_remove c_T_remove 5 (some (.int))
abbrev w_T_remove : List Cond := k_T_remove :: lw_big
abbrev c_T_move : ByteArray := prog_6_method_19_code
def y_T_move : MethodName := ⟨RX4, "move", "(IIII)I"⟩
abbrev k_T_move : Cond := .code y_T_move c_T_move 7 (some (.int))
abbrev w_T_move : List Cond := k_T_move :: lw_big
abbrev c_T_write : ByteArray := prog_6_method_20_code
def y_T_write : MethodName := ⟨RX4, "write", "(III)I"⟩
abbrev k_T_write : Cond := .code y_T_write c_T_write 6 (some (.int))
abbrev w_T_write : List Cond := k_T_write :: lw_big
abbrev c_T_turnBack : ByteArray := prog_6_method_21_code
def y_T_turnBack : MethodName := ⟨RX4, "turnBack", "(II)I"⟩
abbrev k_T_turnBack : Cond := .code y_T_turnBack c_T_turnBack 5 (some (.int))
abbrev w_T_turnBack : List Cond := k_T_turnBack :: lw_big
abbrev c_T_asked : ByteArray := prog_6_method_22_code
def y_T_asked : MethodName := ⟨RX4, "asked", "(III)Z"⟩
abbrev k_T_asked : Cond := .code y_T_asked c_T_asked 4 (some (.boolean))
abbrev w_T_asked : List Cond := k_T_asked :: lw_big
abbrev c_T_putBack : ByteArray := prog_6_method_23_code
def y_T_putBack : MethodName := ⟨RX4, "putBack", "(III)I"⟩
abbrev k_T_putBack : Cond := .code y_T_putBack c_T_putBack 6 (some (.int))
abbrev w_T_putBack : List Cond := k_T_putBack :: lw_big
abbrev c_T_look : ByteArray := prog_6_method_24_code
def y_T_look : MethodName := ⟨RX4, "look", "(III)I"⟩
abbrev k_T_look : Cond := .code y_T_look c_T_look 4 (some (.int))
abbrev w_T_look : List Cond := k_T_look :: lw_big
abbrev c_T_next : ByteArray := prog_6_method_25_code
def y_T_next : MethodName := ⟨RX4, "next", "(III)I"⟩
abbrev k_T_next : Cond := .code y_T_next c_T_next 5 (some (.int))
abbrev w_T_next : List Cond := k_T_next :: lw_big
abbrev c_T_read : ByteArray := prog_6_method_26_code
def y_T_read : MethodName := ⟨RX4, "read", "(III)J"⟩
abbrev k_T_read : Cond := .code y_T_read c_T_read 5 (some (.long))
abbrev w_T_read : List Cond := k_T_read :: lw_big
abbrev c_T_below : ByteArray := prog_6_method_27_code
def y_T_below : MethodName := ⟨RX4, "below", "(II)I"⟩
abbrev k_T_below : Cond := .code y_T_below c_T_below 5 (some (.int))
abbrev w_T_below : List Cond := k_T_below :: lw_big
abbrev c_T_thin : ByteArray := prog_6_method_28_code
def y_T_thin : MethodName := ⟨RX4, "thin", "(I)I"⟩
abbrev k_T_thin : Cond := .code y_T_thin c_T_thin 8 (some (.int))
abbrev w_T_thin : List Cond := k_T_thin :: lw_big
abbrev c_T_sync : ByteArray := prog_6_method_29_code
def y_T_sync : MethodName := ⟨RX4, "sync", "()I"⟩
abbrev k_T_sync : Cond := .code y_T_sync c_T_sync 1 (some (.int))
abbrev w_T_sync : List Cond := k_T_sync :: lw_big
abbrev c_T_crash : ByteArray := prog_6_method_30_code
def y_T_crash : MethodName := ⟨RX4, "crash", "()I"⟩
abbrev k_T_crash : Cond := .code y_T_crash c_T_crash 2 (some (.int))
abbrev w_T_crash : List Cond := k_T_crash :: lw_big
abbrev c_T_node : ByteArray := prog_6_method_31_code
def y_T_node : MethodName := ⟨RX4, "node", "(II)I"⟩
abbrev k_T_node : Cond := .code y_T_node c_T_node 7 (some (.int))
abbrev w_T_node : List Cond := k_T_node :: lw_big
abbrev c_T_versionTime : ByteArray := prog_6_method_32_code
def y_T_versionTime : MethodName := ⟨RX4, "versionTime", "(II)I"⟩
abbrev k_T_versionTime : Cond := .code y_T_versionTime c_T_versionTime 3 (some (.int))
abbrev w_T_versionTime : List Cond := k_T_versionTime :: lw_big
abbrev c_T_count : ByteArray := prog_6_method_33_code
def y_T_count : MethodName := ⟨RX4, "count", "(I)I"⟩
abbrev k_T_count : Cond := .code y_T_count c_T_count 2 (some (.int))
abbrev w_T_count : List Cond := k_T_count :: lw_big
abbrev c_N_init : ByteArray := prog_2_method_1_code
def y_N_init : MethodName := ⟨RX0, "<init>", "()V"⟩
abbrev k_N_init : Cond := .code y_N_init c_N_init 1 none
abbrev w_N_init : List Cond := k_N_init :: lw_big
abbrev c_N_keep : ByteArray := prog_2_method_2_code
def y_N_keep : MethodName := ⟨RX0, "keep", "()V"⟩
abbrev k_N_keep : Cond := .code y_N_keep c_N_keep 1 none
abbrev w_N_keep : List Cond := k_N_keep :: lw_big
abbrev c_N_goBack : ByteArray := prog_2_method_3_code
def y_N_goBack : MethodName := ⟨RX0, "goBack", "()V"⟩
abbrev k_N_goBack : Cond := .code y_N_goBack c_N_goBack 1 none
abbrev w_N_goBack : List Cond := k_N_goBack :: lw_big
abbrev c_N_placeAsOf : ByteArray := prog_2_method_4_code
def y_N_placeAsOf : MethodName := ⟨RX0, "placeAsOf", "(I)I"⟩
abbrev k_N_placeAsOf : Cond := .code y_N_placeAsOf c_N_placeAsOf 3 (some (.int))
abbrev w_N_placeAsOf : List Cond := k_N_placeAsOf :: lw_big
abbrev c_S_init : ByteArray := prog_3_method_1_code
def y_S_init : MethodName := ⟨RX1, "<init>", "(IILPastTree$Spot;)V"⟩
abbrev k_S_init : Cond := .code y_S_init c_S_init 4 none
abbrev w_S_init : List Cond := k_S_init :: lw_big
abbrev c_V_init : ByteArray := prog_4_method_1_code
def y_V_init : MethodName := ⟨RX2, "<init>", "(II[ILPastTree$Version;)V"⟩
abbrev k_V_init : Cond := .code y_V_init c_V_init 5 none
abbrev w_V_init : List Cond := k_V_init :: lw_big
abbrev c_L_cell : ByteArray := method_2_code
def y_L_cell : MethodName := ⟨RL, "cell", "([II)I"⟩
abbrev k_L_cell : Cond := .code y_L_cell c_L_cell 2 (some (.int))
abbrev w_L_cell : List Cond := k_L_cell :: lw_big
abbrev c_L_law : ByteArray := code
def y_L_law : MethodName := ⟨RL, "law", "([I)Z"⟩
set_option maxRecDepth 20000 in
theorem wd_0 : Cond.selects RX3 y_P_isMadeFolder y_P_isMadeFolder ∈ lw_big := List.mem_filter.mpr ⟨List.mem_of_getElem? (i := 0) (by decide +kernel), by decide +kernel⟩
set_option maxRecDepth 20000 in
theorem wd_1 : Cond.selects RX3 y_P_isMade y_P_isMade ∈ lw_big := List.mem_filter.mpr ⟨List.mem_of_getElem? (i := 1) (by decide +kernel), by decide +kernel⟩
set_option maxRecDepth 20000 in
theorem wd_2 : Cond.selects RX3 y_P_findPlaces y_P_findPlaces ∈ lw_big := List.mem_filter.mpr ⟨List.mem_of_getElem? (i := 2) (by decide +kernel), by decide +kernel⟩
set_option maxRecDepth 20000 in
theorem wd_3 : Cond.selects RX3 y_P_hasRoomFor y_P_hasRoomFor ∈ lw_big := List.mem_filter.mpr ⟨List.mem_of_getElem? (i := 3) (by decide +kernel), by decide +kernel⟩
set_option maxRecDepth 20000 in
theorem wd_4 : Cond.selects RX3 y_P_entryAt y_P_entryAt ∈ lw_big := List.mem_filter.mpr ⟨List.mem_of_getElem? (i := 4) (by decide +kernel), by decide +kernel⟩
set_option maxRecDepth 20000 in
theorem wd_5 : Cond.selects RX3 y_P_isUsedUp y_P_isUsedUp ∈ lw_big := List.mem_filter.mpr ⟨List.mem_of_getElem? (i := 5) (by decide +kernel), by decide +kernel⟩
set_option maxRecDepth 20000 in
theorem wd_6 : Cond.selects RX3 y_P_place y_P_place ∈ lw_big := List.mem_filter.mpr ⟨List.mem_of_getElem? (i := 6) (by decide +kernel), by decide +kernel⟩
set_option maxRecDepth 20000 in
theorem wd_7 : Cond.selects RX3 y_P_noteChange y_P_noteChange ∈ lw_big := List.mem_filter.mpr ⟨List.mem_of_getElem? (i := 7) (by decide +kernel), by decide +kernel⟩
set_option maxRecDepth 20000 in
theorem wd_8 : Cond.selects RX3 y_P_firstName y_P_firstName ∈ lw_big := List.mem_filter.mpr ⟨List.mem_of_getElem? (i := 8) (by decide +kernel), by decide +kernel⟩
set_option maxRecDepth 20000 in
theorem wd_9 : Cond.selects RX3 y_P_isWithin y_P_isWithin ∈ lw_big := List.mem_filter.mpr ⟨List.mem_of_getElem? (i := 9) (by decide +kernel), by decide +kernel⟩
set_option maxRecDepth 20000 in
theorem wd_10 : Cond.selects RX3 y_P_latestVersion y_P_latestVersion ∈ lw_big := List.mem_filter.mpr ⟨List.mem_of_getElem? (i := 10) (by decide +kernel), by decide +kernel⟩
set_option maxRecDepth 20000 in
theorem wd_11 : Cond.selects RX3 y_P_addVersion y_P_addVersion ∈ lw_big := List.mem_filter.mpr ⟨List.mem_of_getElem? (i := 11) (by decide +kernel), by decide +kernel⟩
set_option maxRecDepth 20000 in
theorem wd_12 : Cond.selects RX3 y_P_makeDurable y_P_makeDurable ∈ lw_big := List.mem_filter.mpr ⟨List.mem_of_getElem? (i := 12) (by decide +kernel), by decide +kernel⟩
set_option maxRecDepth 20000 in
theorem wd_13 : Cond.selects RX3 y_P_dropThinned y_P_dropThinned ∈ lw_big := List.mem_filter.mpr ⟨List.mem_of_getElem? (i := 13) (by decide +kernel), by decide +kernel⟩
set_option maxRecDepth 20000 in
theorem wd_14 : Cond.selects RX3 y_P_kindOf y_P_kindOf ∈ lw_big := List.mem_filter.mpr ⟨List.mem_of_getElem? (i := 14) (by decide +kernel), by decide +kernel⟩
set_option maxRecDepth 20000 in
theorem wd_15 : Cond.selects RX4 y_T_asOf y_T_asOf ∈ lw_big := List.mem_filter.mpr ⟨List.mem_of_getElem? (i := 15) (by decide +kernel), by decide +kernel⟩
set_option maxRecDepth 20000 in
theorem wd_16 : Cond.selects RX4 y_T_kind y_T_kind ∈ lw_big := List.mem_filter.mpr ⟨List.mem_of_getElem? (i := 16) (by decide +kernel), by decide +kernel⟩
set_option maxRecDepth 20000 in
theorem wd_17 : Cond.selects RX4 y_T_opn y_T_opn ∈ lw_big := List.mem_filter.mpr ⟨List.mem_of_getElem? (i := 17) (by decide +kernel), by decide +kernel⟩
set_option maxRecDepth 20000 in
theorem wd_18 : Cond.selects RX4 y_T_placed y_T_placed ∈ lw_big := List.mem_filter.mpr ⟨List.mem_of_getElem? (i := 18) (by decide +kernel), by decide +kernel⟩
set_option maxRecDepth 20000 in
theorem wd_19 : Cond.selects RX4 y_T_nodes y_T_nodes ∈ lw_big := List.mem_filter.mpr ⟨List.mem_of_getElem? (i := 19) (by decide +kernel), by decide +kernel⟩
set_option maxRecDepth 20000 in
theorem wd_20 : Cond.selects RX4 y_T_change y_T_change ∈ lw_big := List.mem_filter.mpr ⟨List.mem_of_getElem? (i := 20) (by decide +kernel), by decide +kernel⟩
set_option maxRecDepth 20000 in
theorem wd_21 : Cond.selects RX4 y_T_copyCells y_T_copyCells ∈ lw_big := List.mem_filter.mpr ⟨List.mem_of_getElem? (i := 21) (by decide +kernel), by decide +kernel⟩
set_option maxRecDepth 20000 in
theorem wd_22 : Cond.selects RX4 y_T_hasEntries y_T_hasEntries ∈ lw_big := List.mem_filter.mpr ⟨List.mem_of_getElem? (i := 22) (by decide +kernel), by decide +kernel⟩
set_option maxRecDepth 20000 in
theorem wd_23 : Cond.selects RX4 y_T_reach y_T_reach ∈ lw_big := List.mem_filter.mpr ⟨List.mem_of_getElem? (i := 23) (by decide +kernel), by decide +kernel⟩
set_option maxRecDepth 20000 in
theorem wd_24 : Cond.selects RX4 y_T_version y_T_version ∈ lw_big := List.mem_filter.mpr ⟨List.mem_of_getElem? (i := 24) (by decide +kernel), by decide +kernel⟩
set_option maxRecDepth 20000 in
theorem wd_25 : Cond.selects RX4 y_T_versions y_T_versions ∈ lw_big := List.mem_filter.mpr ⟨List.mem_of_getElem? (i := 25) (by decide +kernel), by decide +kernel⟩
set_option maxRecDepth 20000 in
theorem wd_26 : Cond.selects RX4 y_T_timeOf y_T_timeOf ∈ lw_big := List.mem_filter.mpr ⟨List.mem_of_getElem? (i := 26) (by decide +kernel), by decide +kernel⟩
set_option maxRecDepth 20000 in
theorem wd_27 : Cond.selects RX4 y_T_isGone y_T_isGone ∈ lw_big := List.mem_filter.mpr ⟨List.mem_of_getElem? (i := 27) (by decide +kernel), by decide +kernel⟩
set_option maxRecDepth 20000 in
theorem wd_28 : Cond.selects RX4 y_T_asked y_T_asked ∈ lw_big := List.mem_filter.mpr ⟨List.mem_of_getElem? (i := 28) (by decide +kernel), by decide +kernel⟩
set_option maxRecDepth 20000 in
theorem wd_29 : Cond.initialized RL ∈ lw_big := List.mem_filter.mpr ⟨List.mem_of_getElem? (i := 29) (by decide +kernel), by decide +kernel⟩
set_option maxRecDepth 20000 in
theorem wd_30 : Cond.initialized RX3 ∈ lw_big := List.mem_filter.mpr ⟨List.mem_of_getElem? (i := 30) (by decide +kernel), by decide +kernel⟩
set_option maxRecDepth 20000 in
theorem wd_31 : Cond.initialized "java/lang/Math" ∈ lw_big := List.mem_filter.mpr ⟨List.mem_of_getElem? (i := 31) (by decide +kernel), by decide +kernel⟩
set_option maxRecDepth 20000 in
theorem wd_32 : Cond.initialized RX0 ∈ lw_big := List.mem_filter.mpr ⟨List.mem_of_getElem? (i := 32) (by decide +kernel), by decide +kernel⟩
set_option maxRecDepth 20000 in
theorem wd_33 : Cond.initialized RX4 ∈ lw_big := List.mem_filter.mpr ⟨List.mem_of_getElem? (i := 33) (by decide +kernel), by decide +kernel⟩
set_option maxRecDepth 20000 in
theorem wd_34 : Cond.initialized RX2 ∈ lw_big := List.mem_filter.mpr ⟨List.mem_of_getElem? (i := 34) (by decide +kernel), by decide +kernel⟩
set_option maxRecDepth 20000 in
theorem wd_35 : Cond.initialized RX1 ∈ lw_big := List.mem_filter.mpr ⟨List.mem_of_getElem? (i := 35) (by decide +kernel), by decide +kernel⟩
set_option maxRecDepth 20000 in
theorem wd_36 : Cond.classLink RL 7 RX3 ∈ lw_big := List.mem_filter.mpr ⟨List.mem_of_getElem? (i := 36) (by decide +kernel), by decide +kernel⟩
set_option maxRecDepth 20000 in
theorem wd_37 : Cond.instantiable RX3 11 ∈ lw_big := List.mem_filter.mpr ⟨List.mem_of_getElem? (i := 37) (by decide +kernel), by decide +kernel⟩
set_option maxRecDepth 20000 in
theorem wd_38 : Cond.methodLink RL 15 y_P_init ∈ lw_big := List.mem_filter.mpr ⟨List.mem_of_getElem? (i := 38) (by decide +kernel), by decide +kernel⟩
set_option maxRecDepth 20000 in
theorem wd_39 : Cond.instanceMethod y_P_init ∈ lw_big := List.mem_filter.mpr ⟨List.mem_of_getElem? (i := 39) (by decide +kernel), by decide +kernel⟩
set_option maxRecDepth 20000 in
theorem wd_40 : k_P_init ∈ lw_big := List.mem_filter.mpr ⟨List.mem_of_getElem? (i := 40) rfl, by decide +kernel⟩
set_option maxRecDepth 20000 in
theorem wd_41 : Cond.methodLink RX3 1 objectInit ∈ lw_big := List.mem_filter.mpr ⟨List.mem_of_getElem? (i := 41) (by decide +kernel), by decide +kernel⟩
set_option maxRecDepth 20000 in
theorem wd_42 : Cond.instanceMethod objectInit ∈ lw_big := List.mem_filter.mpr ⟨List.mem_of_getElem? (i := 42) (by decide +kernel), by decide +kernel⟩
set_option maxRecDepth 20000 in
theorem wd_43 : Cond.code objectInit ⟨#[0xb1]⟩ 1 none ∈ lw_big := List.mem_filter.mpr ⟨List.mem_of_getElem? (i := 43) rfl, by decide +kernel⟩
set_option maxRecDepth 20000 in
theorem wd_44 : Cond.classLink RX3 9 RX0 ∈ lw_big := List.mem_filter.mpr ⟨List.mem_of_getElem? (i := 44) (by decide +kernel), by decide +kernel⟩
set_option maxRecDepth 20000 in
theorem wd_46 : Cond.methodLink RX3 41 y_P_clamp ∈ lw_big := List.mem_filter.mpr ⟨List.mem_of_getElem? (i := 46) (by decide +kernel), by decide +kernel⟩
set_option maxRecDepth 20000 in
theorem wd_47 : Cond.static y_P_clamp ∈ lw_big := List.mem_filter.mpr ⟨List.mem_of_getElem? (i := 47) (by decide +kernel), by decide +kernel⟩
set_option maxRecDepth 20000 in
theorem wd_48 : k_P_clamp ∈ lw_big := List.mem_filter.mpr ⟨List.mem_of_getElem? (i := 48) rfl, by decide +kernel⟩
set_option maxRecDepth 20000 in
theorem wd_49 : Cond.methodLink RX3 156 Lib.Math.min.name ∈ lw_big := List.mem_filter.mpr ⟨List.mem_of_getElem? (i := 49) (by decide +kernel), by decide +kernel⟩
set_option maxRecDepth 20000 in
theorem wd_50 : Cond.static Lib.Math.min.name ∈ lw_big := List.mem_filter.mpr ⟨List.mem_of_getElem? (i := 50) (by decide +kernel), by decide +kernel⟩
set_option maxRecDepth 20000 in
theorem wd_51 : Cond.code Lib.Math.min.name Lib.Math.min.code 2 (some .int) ∈ lw_big := List.mem_filter.mpr ⟨List.mem_of_getElem? (i := 51) rfl, by decide +kernel⟩
set_option maxRecDepth 20000 in
theorem wd_52 : Cond.methodLink RX3 161 Lib.Math.max.name ∈ lw_big := List.mem_filter.mpr ⟨List.mem_of_getElem? (i := 52) (by decide +kernel), by decide +kernel⟩
set_option maxRecDepth 20000 in
theorem wd_53 : Cond.static Lib.Math.max.name ∈ lw_big := List.mem_filter.mpr ⟨List.mem_of_getElem? (i := 53) (by decide +kernel), by decide +kernel⟩
set_option maxRecDepth 20000 in
theorem wd_54 : Cond.code Lib.Math.max.name Lib.Math.max.code 2 (some .int) ∈ lw_big := List.mem_filter.mpr ⟨List.mem_of_getElem? (i := 54) rfl, by decide +kernel⟩
set_option maxRecDepth 20000 in
theorem wd_55 : Cond.instantiable RX0 4 ∈ lw_big := List.mem_filter.mpr ⟨List.mem_of_getElem? (i := 55) (by decide +kernel), by decide +kernel⟩
set_option maxRecDepth 20000 in
theorem wd_57 : Cond.instanceMethod y_N_init ∈ lw_big := List.mem_filter.mpr ⟨List.mem_of_getElem? (i := 57) (by decide +kernel), by decide +kernel⟩
set_option maxRecDepth 20000 in
theorem wd_58 : k_N_init ∈ lw_big := List.mem_filter.mpr ⟨List.mem_of_getElem? (i := 58) rfl, by decide +kernel⟩
set_option maxRecDepth 20000 in
theorem wd_59 : Cond.methodLink RX0 3 objectInit ∈ lw_big := List.mem_filter.mpr ⟨List.mem_of_getElem? (i := 59) (by decide +kernel), by decide +kernel⟩
set_option maxRecDepth 20000 in
theorem wd_60 : Cond.fieldLink RX0 9 "PastTree$Node" "spot" "LPastTree$Spot;" ∈ lw_big := List.mem_filter.mpr ⟨List.mem_of_getElem? (i := 60) (by decide +kernel), by decide +kernel⟩
set_option maxRecDepth 20000 in
theorem wd_61 : Cond.fieldLink RX3 169 "PastTree$Node" "spot" "LPastTree$Spot;" ∈ lw_big := List.mem_filter.mpr ⟨List.mem_of_getElem? (i := 61) (by decide +kernel), by decide +kernel⟩
set_option maxRecDepth 20000 in
theorem wd_62 : Cond.fieldLink RX0 15 "PastTree$Node" "version" "LPastTree$Version;" ∈ lw_big := List.mem_filter.mpr ⟨List.mem_of_getElem? (i := 62) (by decide +kernel), by decide +kernel⟩
set_option maxRecDepth 20000 in
theorem wd_63 : Cond.fieldLink RX3 76 "PastTree$Node" "version" "LPastTree$Version;" ∈ lw_big := List.mem_filter.mpr ⟨List.mem_of_getElem? (i := 63) (by decide +kernel), by decide +kernel⟩
set_option maxRecDepth 20000 in
theorem wd_64 : Cond.fieldLink RX0 19 "PastTree$Node" "durableSpot" "LPastTree$Spot;" ∈ lw_big := List.mem_filter.mpr ⟨List.mem_of_getElem? (i := 64) (by decide +kernel), by decide +kernel⟩
set_option maxRecDepth 20000 in
theorem wd_65 : Cond.fieldLink RX0 22 "PastTree$Node" "durableVersion" "LPastTree$Version;" ∈ lw_big := List.mem_filter.mpr ⟨List.mem_of_getElem? (i := 65) (by decide +kernel), by decide +kernel⟩
set_option maxRecDepth 20000 in
theorem wd_75 : Cond.arrayClass .int ∈ lw_big := List.mem_filter.mpr ⟨List.mem_of_getElem? (i := 75) (by decide +kernel), by decide +kernel⟩
set_option maxRecDepth 20000 in
theorem wd_76 : Cond.fieldLink RX3 45 "PastTree" "window" "I" ∈ lw_big := List.mem_filter.mpr ⟨List.mem_of_getElem? (i := 76) (by decide +kernel), by decide +kernel⟩
set_option maxRecDepth 20000 in
theorem wd_77 : Cond.fieldLink RX3 48 "PastTree" "gap" "I" ∈ lw_big := List.mem_filter.mpr ⟨List.mem_of_getElem? (i := 77) (by decide +kernel), by decide +kernel⟩
set_option maxRecDepth 20000 in
theorem wd_78 : Cond.fieldLink RX3 11 "PastTree" "nodes" "[LPastTree$Node;" ∈ lw_big := List.mem_filter.mpr ⟨List.mem_of_getElem? (i := 78) (by decide +kernel), by decide +kernel⟩
set_option maxRecDepth 20000 in
theorem wd_79 : Cond.fieldLink RX3 15 "PastTree" "places" "[I" ∈ lw_big := List.mem_filter.mpr ⟨List.mem_of_getElem? (i := 79) (by decide +kernel), by decide +kernel⟩
set_option maxRecDepth 20000 in
theorem wd_80 : Cond.fieldLink RX3 19 "PastTree" "clock" "I" ∈ lw_big := List.mem_filter.mpr ⟨List.mem_of_getElem? (i := 80) (by decide +kernel), by decide +kernel⟩
set_option maxRecDepth 20000 in
theorem wd_81 : Cond.fieldLink RX3 23 "PastTree" "made" "I" ∈ lw_big := List.mem_filter.mpr ⟨List.mem_of_getElem? (i := 81) (by decide +kernel), by decide +kernel⟩
set_option maxRecDepth 20000 in
theorem wd_82 : Cond.fieldLink RX3 26 "PastTree" "changes" "I" ∈ lw_big := List.mem_filter.mpr ⟨List.mem_of_getElem? (i := 82) (by decide +kernel), by decide +kernel⟩
set_option maxRecDepth 20000 in
theorem wd_83 : Cond.fieldLink RX3 29 "PastTree" "durableClock" "I" ∈ lw_big := List.mem_filter.mpr ⟨List.mem_of_getElem? (i := 83) (by decide +kernel), by decide +kernel⟩
set_option maxRecDepth 20000 in
theorem wd_84 : Cond.fieldLink RX3 32 "PastTree" "durableMade" "I" ∈ lw_big := List.mem_filter.mpr ⟨List.mem_of_getElem? (i := 84) (by decide +kernel), by decide +kernel⟩
set_option maxRecDepth 20000 in
theorem wd_85 : Cond.fieldLink RX3 35 "PastTree" "durableChanges" "I" ∈ lw_big := List.mem_filter.mpr ⟨List.mem_of_getElem? (i := 85) (by decide +kernel), by decide +kernel⟩
set_option maxRecDepth 20000 in
theorem wd_86 : Cond.fieldLink RX3 38 "PastTree" "changesEver" "I" ∈ lw_big := List.mem_filter.mpr ⟨List.mem_of_getElem? (i := 86) (by decide +kernel), by decide +kernel⟩
set_option maxRecDepth 20000 in
theorem wd_110 : Cond.methodLink RL 21 y_P_tick ∈ lw_big := List.mem_filter.mpr ⟨List.mem_of_getElem? (i := 110) (by decide +kernel), by decide +kernel⟩
set_option maxRecDepth 20000 in
theorem wd_111 : Cond.instanceMethod y_P_tick ∈ lw_big := List.mem_filter.mpr ⟨List.mem_of_getElem? (i := 111) (by decide +kernel), by decide +kernel⟩
set_option maxRecDepth 20000 in
theorem wd_112 : Cond.selects RX3 y_P_tick y_P_tick ∈ lw_big := List.mem_filter.mpr ⟨List.mem_of_getElem? (i := 112) (by decide +kernel), by decide +kernel⟩
set_option maxRecDepth 20000 in
theorem wd_113 : k_P_tick ∈ lw_big := List.mem_filter.mpr ⟨List.mem_of_getElem? (i := 113) rfl, by decide +kernel⟩
set_option maxRecDepth 20000 in
theorem wd_114 : Cond.methodLink RL 26 y_P_make ∈ lw_big := List.mem_filter.mpr ⟨List.mem_of_getElem? (i := 114) (by decide +kernel), by decide +kernel⟩
set_option maxRecDepth 20000 in
theorem wd_115 : Cond.instanceMethod y_P_make ∈ lw_big := List.mem_filter.mpr ⟨List.mem_of_getElem? (i := 115) (by decide +kernel), by decide +kernel⟩
set_option maxRecDepth 20000 in
theorem wd_116 : Cond.selects RX3 y_P_make y_P_make ∈ lw_big := List.mem_filter.mpr ⟨List.mem_of_getElem? (i := 116) (by decide +kernel), by decide +kernel⟩
set_option maxRecDepth 20000 in
theorem wd_117 : k_P_make ∈ lw_big := List.mem_filter.mpr ⟨List.mem_of_getElem? (i := 117) rfl, by decide +kernel⟩
set_option maxRecDepth 20000 in
theorem wd_118 : Cond.methodLink RX3 52 y_P_isMadeFolder ∈ lw_big := List.mem_filter.mpr ⟨List.mem_of_getElem? (i := 118) (by decide +kernel), by decide +kernel⟩
set_option maxRecDepth 20000 in
theorem wd_120 : Cond.instanceMethod y_P_isMadeFolder ∈ lw_big := List.mem_filter.mpr ⟨List.mem_of_getElem? (i := 120) (by decide +kernel), by decide +kernel⟩
set_option maxRecDepth 20000 in
theorem wd_121 : k_P_isMadeFolder ∈ lw_big := List.mem_filter.mpr ⟨List.mem_of_getElem? (i := 121) rfl, by decide +kernel⟩
set_option maxRecDepth 20000 in
theorem wd_122 : Cond.methodLink RX3 164 y_P_isMade ∈ lw_big := List.mem_filter.mpr ⟨List.mem_of_getElem? (i := 122) (by decide +kernel), by decide +kernel⟩
set_option maxRecDepth 20000 in
theorem wd_124 : Cond.instanceMethod y_P_isMade ∈ lw_big := List.mem_filter.mpr ⟨List.mem_of_getElem? (i := 124) (by decide +kernel), by decide +kernel⟩
set_option maxRecDepth 20000 in
theorem wd_125 : k_P_isMade ∈ lw_big := List.mem_filter.mpr ⟨List.mem_of_getElem? (i := 125) rfl, by decide +kernel⟩
set_option maxRecDepth 20000 in
theorem wd_126 : Cond.methodLink RX3 56 y_P_isName ∈ lw_big := List.mem_filter.mpr ⟨List.mem_of_getElem? (i := 126) (by decide +kernel), by decide +kernel⟩
set_option maxRecDepth 20000 in
theorem wd_127 : Cond.static y_P_isName ∈ lw_big := List.mem_filter.mpr ⟨List.mem_of_getElem? (i := 127) (by decide +kernel), by decide +kernel⟩
set_option maxRecDepth 20000 in
theorem wd_128 : k_P_isName ∈ lw_big := List.mem_filter.mpr ⟨List.mem_of_getElem? (i := 128) rfl, by decide +kernel⟩
set_option maxRecDepth 20000 in
theorem wd_129 : Cond.methodLink RX3 59 y_P_findPlaces ∈ lw_big := List.mem_filter.mpr ⟨List.mem_of_getElem? (i := 129) (by decide +kernel), by decide +kernel⟩
set_option maxRecDepth 20000 in
theorem wd_131 : Cond.instanceMethod y_P_findPlaces ∈ lw_big := List.mem_filter.mpr ⟨List.mem_of_getElem? (i := 131) (by decide +kernel), by decide +kernel⟩
set_option maxRecDepth 20000 in
theorem wd_132 : k_P_findPlaces ∈ lw_big := List.mem_filter.mpr ⟨List.mem_of_getElem? (i := 132) rfl, by decide +kernel⟩
set_option maxRecDepth 20000 in
theorem wd_133 : Cond.methodLink RX3 141 y_N_placeAsOf ∈ lw_big := List.mem_filter.mpr ⟨List.mem_of_getElem? (i := 133) (by decide +kernel), by decide +kernel⟩
set_option maxRecDepth 20000 in
theorem wd_134 : Cond.instanceMethod y_N_placeAsOf ∈ lw_big := List.mem_filter.mpr ⟨List.mem_of_getElem? (i := 134) (by decide +kernel), by decide +kernel⟩
set_option maxRecDepth 20000 in
theorem wd_135 : Cond.selects RX0 y_N_placeAsOf y_N_placeAsOf ∈ lw_big := List.mem_filter.mpr ⟨List.mem_of_getElem? (i := 135) (by decide +kernel), by decide +kernel⟩
set_option maxRecDepth 20000 in
theorem wd_136 : k_N_placeAsOf ∈ lw_big := List.mem_filter.mpr ⟨List.mem_of_getElem? (i := 136) rfl, by decide +kernel⟩
set_option maxRecDepth 20000 in
theorem wd_137 : Cond.methodLink RX3 63 y_P_hasRoomFor ∈ lw_big := List.mem_filter.mpr ⟨List.mem_of_getElem? (i := 137) (by decide +kernel), by decide +kernel⟩
set_option maxRecDepth 20000 in
theorem wd_139 : Cond.instanceMethod y_P_hasRoomFor ∈ lw_big := List.mem_filter.mpr ⟨List.mem_of_getElem? (i := 139) (by decide +kernel), by decide +kernel⟩
set_option maxRecDepth 20000 in
theorem wd_140 : k_P_hasRoomFor ∈ lw_big := List.mem_filter.mpr ⟨List.mem_of_getElem? (i := 140) rfl, by decide +kernel⟩
set_option maxRecDepth 20000 in
theorem wd_141 : Cond.methodLink RX3 88 y_P_entryAt ∈ lw_big := List.mem_filter.mpr ⟨List.mem_of_getElem? (i := 141) (by decide +kernel), by decide +kernel⟩
set_option maxRecDepth 20000 in
theorem wd_143 : Cond.instanceMethod y_P_entryAt ∈ lw_big := List.mem_filter.mpr ⟨List.mem_of_getElem? (i := 143) (by decide +kernel), by decide +kernel⟩
set_option maxRecDepth 20000 in
theorem wd_144 : k_P_entryAt ∈ lw_big := List.mem_filter.mpr ⟨List.mem_of_getElem? (i := 144) rfl, by decide +kernel⟩
set_option maxRecDepth 20000 in
theorem wd_145 : Cond.methodLink RX3 80 y_P_placeOf ∈ lw_big := List.mem_filter.mpr ⟨List.mem_of_getElem? (i := 145) (by decide +kernel), by decide +kernel⟩
set_option maxRecDepth 20000 in
theorem wd_146 : Cond.static y_P_placeOf ∈ lw_big := List.mem_filter.mpr ⟨List.mem_of_getElem? (i := 146) (by decide +kernel), by decide +kernel⟩
set_option maxRecDepth 20000 in
theorem wd_147 : k_P_placeOf ∈ lw_big := List.mem_filter.mpr ⟨List.mem_of_getElem? (i := 147) rfl, by decide +kernel⟩
set_option maxRecDepth 20000 in
theorem wd_148 : Cond.methodLink RX3 67 y_P_isUsedUp ∈ lw_big := List.mem_filter.mpr ⟨List.mem_of_getElem? (i := 148) (by decide +kernel), by decide +kernel⟩
set_option maxRecDepth 20000 in
theorem wd_150 : Cond.instanceMethod y_P_isUsedUp ∈ lw_big := List.mem_filter.mpr ⟨List.mem_of_getElem? (i := 150) (by decide +kernel), by decide +kernel⟩
set_option maxRecDepth 20000 in
theorem wd_151 : k_P_isUsedUp ∈ lw_big := List.mem_filter.mpr ⟨List.mem_of_getElem? (i := 151) rfl, by decide +kernel⟩
set_option maxRecDepth 20000 in
theorem wd_152 : Cond.classLink RX3 71 RX2 ∈ lw_big := List.mem_filter.mpr ⟨List.mem_of_getElem? (i := 152) (by decide +kernel), by decide +kernel⟩
set_option maxRecDepth 20000 in
theorem wd_153 : Cond.instantiable RX2 5 ∈ lw_big := List.mem_filter.mpr ⟨List.mem_of_getElem? (i := 153) (by decide +kernel), by decide +kernel⟩
set_option maxRecDepth 20000 in
theorem wd_154 : Cond.methodLink RX3 73 y_V_init ∈ lw_big := List.mem_filter.mpr ⟨List.mem_of_getElem? (i := 154) (by decide +kernel), by decide +kernel⟩
set_option maxRecDepth 20000 in
theorem wd_155 : Cond.instanceMethod y_V_init ∈ lw_big := List.mem_filter.mpr ⟨List.mem_of_getElem? (i := 155) (by decide +kernel), by decide +kernel⟩
set_option maxRecDepth 20000 in
theorem wd_156 : k_V_init ∈ lw_big := List.mem_filter.mpr ⟨List.mem_of_getElem? (i := 156) rfl, by decide +kernel⟩
set_option maxRecDepth 20000 in
theorem wd_157 : Cond.methodLink RX2 1 objectInit ∈ lw_big := List.mem_filter.mpr ⟨List.mem_of_getElem? (i := 157) (by decide +kernel), by decide +kernel⟩
set_option maxRecDepth 20000 in
theorem wd_158 : Cond.fieldLink RX2 13 "PastTree$Version" "time" "I" ∈ lw_big := List.mem_filter.mpr ⟨List.mem_of_getElem? (i := 158) (by decide +kernel), by decide +kernel⟩
set_option maxRecDepth 20000 in
theorem wd_159 : Cond.fieldLink RX3 150 "PastTree$Version" "time" "I" ∈ lw_big := List.mem_filter.mpr ⟨List.mem_of_getElem? (i := 159) (by decide +kernel), by decide +kernel⟩
set_option maxRecDepth 20000 in
theorem wd_160 : Cond.fieldLink RX2 17 "PastTree$Version" "index" "I" ∈ lw_big := List.mem_filter.mpr ⟨List.mem_of_getElem? (i := 160) (by decide +kernel), by decide +kernel⟩
set_option maxRecDepth 20000 in
theorem wd_161 : Cond.fieldLink RX3 144 "PastTree$Version" "index" "I" ∈ lw_big := List.mem_filter.mpr ⟨List.mem_of_getElem? (i := 161) (by decide +kernel), by decide +kernel⟩
set_option maxRecDepth 20000 in
theorem wd_162 : Cond.fieldLink RX2 20 "PastTree$Version" "cells" "[I" ∈ lw_big := List.mem_filter.mpr ⟨List.mem_of_getElem? (i := 162) (by decide +kernel), by decide +kernel⟩
set_option maxRecDepth 20000 in
theorem wd_163 : Cond.fieldLink RX3 104 "PastTree$Version" "cells" "[I" ∈ lw_big := List.mem_filter.mpr ⟨List.mem_of_getElem? (i := 163) (by decide +kernel), by decide +kernel⟩
set_option maxRecDepth 20000 in
theorem wd_164 : Cond.fieldLink RX2 24 "PastTree$Version" "before" "LPastTree$Version;" ∈ lw_big := List.mem_filter.mpr ⟨List.mem_of_getElem? (i := 164) (by decide +kernel), by decide +kernel⟩
set_option maxRecDepth 20000 in
theorem wd_165 : Cond.fieldLink RX3 153 "PastTree$Version" "before" "LPastTree$Version;" ∈ lw_big := List.mem_filter.mpr ⟨List.mem_of_getElem? (i := 165) (by decide +kernel), by decide +kernel⟩
set_option maxRecDepth 20000 in
theorem wd_166 : Cond.fieldLink RX2 7 "PastTree$Version" "gone" "Z" ∈ lw_big := List.mem_filter.mpr ⟨List.mem_of_getElem? (i := 166) (by decide +kernel), by decide +kernel⟩
set_option maxRecDepth 20000 in
theorem wd_167 : Cond.fieldLink RX3 120 "PastTree$Version" "gone" "Z" ∈ lw_big := List.mem_filter.mpr ⟨List.mem_of_getElem? (i := 167) (by decide +kernel), by decide +kernel⟩
set_option maxRecDepth 20000 in
theorem wd_179 : Cond.methodLink RX3 84 y_P_place ∈ lw_big := List.mem_filter.mpr ⟨List.mem_of_getElem? (i := 179) (by decide +kernel), by decide +kernel⟩
set_option maxRecDepth 20000 in
theorem wd_181 : Cond.instanceMethod y_P_place ∈ lw_big := List.mem_filter.mpr ⟨List.mem_of_getElem? (i := 181) (by decide +kernel), by decide +kernel⟩
set_option maxRecDepth 20000 in
theorem wd_182 : k_P_place ∈ lw_big := List.mem_filter.mpr ⟨List.mem_of_getElem? (i := 182) rfl, by decide +kernel⟩
set_option maxRecDepth 20000 in
theorem wd_183 : Cond.classLink RX3 167 RX1 ∈ lw_big := List.mem_filter.mpr ⟨List.mem_of_getElem? (i := 183) (by decide +kernel), by decide +kernel⟩
set_option maxRecDepth 20000 in
theorem wd_184 : Cond.instantiable RX1 3 ∈ lw_big := List.mem_filter.mpr ⟨List.mem_of_getElem? (i := 184) (by decide +kernel), by decide +kernel⟩
set_option maxRecDepth 20000 in
theorem wd_185 : Cond.methodLink RX3 173 y_S_init ∈ lw_big := List.mem_filter.mpr ⟨List.mem_of_getElem? (i := 185) (by decide +kernel), by decide +kernel⟩
set_option maxRecDepth 20000 in
theorem wd_186 : Cond.instanceMethod y_S_init ∈ lw_big := List.mem_filter.mpr ⟨List.mem_of_getElem? (i := 186) (by decide +kernel), by decide +kernel⟩
set_option maxRecDepth 20000 in
theorem wd_187 : k_S_init ∈ lw_big := List.mem_filter.mpr ⟨List.mem_of_getElem? (i := 187) rfl, by decide +kernel⟩
set_option maxRecDepth 20000 in
theorem wd_188 : Cond.methodLink RX1 1 objectInit ∈ lw_big := List.mem_filter.mpr ⟨List.mem_of_getElem? (i := 188) (by decide +kernel), by decide +kernel⟩
set_option maxRecDepth 20000 in
theorem wd_189 : Cond.fieldLink RX1 7 "PastTree$Spot" "time" "I" ∈ lw_big := List.mem_filter.mpr ⟨List.mem_of_getElem? (i := 189) (by decide +kernel), by decide +kernel⟩
set_option maxRecDepth 20000 in
theorem wd_190 : Cond.fieldLink RX0 25 "PastTree$Spot" "time" "I" ∈ lw_big := List.mem_filter.mpr ⟨List.mem_of_getElem? (i := 190) (by decide +kernel), by decide +kernel⟩
set_option maxRecDepth 20000 in
theorem wd_191 : Cond.fieldLink RX1 13 "PastTree$Spot" "place" "I" ∈ lw_big := List.mem_filter.mpr ⟨List.mem_of_getElem? (i := 191) (by decide +kernel), by decide +kernel⟩
set_option maxRecDepth 20000 in
theorem wd_192 : Cond.fieldLink RX0 34 "PastTree$Spot" "place" "I" ∈ lw_big := List.mem_filter.mpr ⟨List.mem_of_getElem? (i := 192) (by decide +kernel), by decide +kernel⟩
set_option maxRecDepth 20000 in
theorem wd_193 : Cond.fieldLink RX1 16 "PastTree$Spot" "before" "LPastTree$Spot;" ∈ lw_big := List.mem_filter.mpr ⟨List.mem_of_getElem? (i := 193) (by decide +kernel), by decide +kernel⟩
set_option maxRecDepth 20000 in
theorem wd_194 : Cond.fieldLink RX0 31 "PastTree$Spot" "before" "LPastTree$Spot;" ∈ lw_big := List.mem_filter.mpr ⟨List.mem_of_getElem? (i := 194) (by decide +kernel), by decide +kernel⟩
set_option maxRecDepth 20000 in
theorem wd_202 : Cond.methodLink RX3 176 y_P_noteChange ∈ lw_big := List.mem_filter.mpr ⟨List.mem_of_getElem? (i := 202) (by decide +kernel), by decide +kernel⟩
set_option maxRecDepth 20000 in
theorem wd_204 : Cond.instanceMethod y_P_noteChange ∈ lw_big := List.mem_filter.mpr ⟨List.mem_of_getElem? (i := 204) (by decide +kernel), by decide +kernel⟩
set_option maxRecDepth 20000 in
theorem wd_205 : k_P_noteChange ∈ lw_big := List.mem_filter.mpr ⟨List.mem_of_getElem? (i := 205) rfl, by decide +kernel⟩
set_option maxRecDepth 20000 in
theorem wd_206 : Cond.methodLink RL 31 y_P_remove ∈ lw_big := List.mem_filter.mpr ⟨List.mem_of_getElem? (i := 206) (by decide +kernel), by decide +kernel⟩
set_option maxRecDepth 20000 in
theorem wd_207 : Cond.instanceMethod y_P_remove ∈ lw_big := List.mem_filter.mpr ⟨List.mem_of_getElem? (i := 207) (by decide +kernel), by decide +kernel⟩
set_option maxRecDepth 20000 in
theorem wd_208 : Cond.selects RX3 y_P_remove y_P_remove ∈ lw_big := List.mem_filter.mpr ⟨List.mem_of_getElem? (i := 208) (by decide +kernel), by decide +kernel⟩
set_option maxRecDepth 20000 in
theorem wd_209 : k_P_remove ∈ lw_big := List.mem_filter.mpr ⟨List.mem_of_getElem? (i := 209) rfl, by decide +kernel⟩
set_option maxRecDepth 20000 in
theorem wd_210 : Cond.methodLink RX3 91 y_P_firstName ∈ lw_big := List.mem_filter.mpr ⟨List.mem_of_getElem? (i := 210) (by decide +kernel), by decide +kernel⟩
set_option maxRecDepth 20000 in
theorem wd_212 : Cond.instanceMethod y_P_firstName ∈ lw_big := List.mem_filter.mpr ⟨List.mem_of_getElem? (i := 212) (by decide +kernel), by decide +kernel⟩
set_option maxRecDepth 20000 in
theorem wd_213 : k_P_firstName ∈ lw_big := List.mem_filter.mpr ⟨List.mem_of_getElem? (i := 213) rfl, by decide +kernel⟩
set_option maxRecDepth 20000 in
theorem wd_214 : Cond.methodLink RL 36 y_P_move ∈ lw_big := List.mem_filter.mpr ⟨List.mem_of_getElem? (i := 214) (by decide +kernel), by decide +kernel⟩
set_option maxRecDepth 20000 in
theorem wd_215 : Cond.instanceMethod y_P_move ∈ lw_big := List.mem_filter.mpr ⟨List.mem_of_getElem? (i := 215) (by decide +kernel), by decide +kernel⟩
set_option maxRecDepth 20000 in
theorem wd_216 : Cond.selects RX3 y_P_move y_P_move ∈ lw_big := List.mem_filter.mpr ⟨List.mem_of_getElem? (i := 216) (by decide +kernel), by decide +kernel⟩
set_option maxRecDepth 20000 in
theorem wd_217 : k_P_move ∈ lw_big := List.mem_filter.mpr ⟨List.mem_of_getElem? (i := 217) rfl, by decide +kernel⟩
set_option maxRecDepth 20000 in
theorem wd_218 : Cond.methodLink RX3 94 y_P_isWithin ∈ lw_big := List.mem_filter.mpr ⟨List.mem_of_getElem? (i := 218) (by decide +kernel), by decide +kernel⟩
set_option maxRecDepth 20000 in
theorem wd_220 : Cond.instanceMethod y_P_isWithin ∈ lw_big := List.mem_filter.mpr ⟨List.mem_of_getElem? (i := 220) (by decide +kernel), by decide +kernel⟩
set_option maxRecDepth 20000 in
theorem wd_221 : k_P_isWithin ∈ lw_big := List.mem_filter.mpr ⟨List.mem_of_getElem? (i := 221) rfl, by decide +kernel⟩
set_option maxRecDepth 20000 in
theorem wd_222 : Cond.methodLink RL 41 y_P_write ∈ lw_big := List.mem_filter.mpr ⟨List.mem_of_getElem? (i := 222) (by decide +kernel), by decide +kernel⟩
set_option maxRecDepth 20000 in
theorem wd_223 : Cond.instanceMethod y_P_write ∈ lw_big := List.mem_filter.mpr ⟨List.mem_of_getElem? (i := 223) (by decide +kernel), by decide +kernel⟩
set_option maxRecDepth 20000 in
theorem wd_224 : Cond.selects RX3 y_P_write y_P_write ∈ lw_big := List.mem_filter.mpr ⟨List.mem_of_getElem? (i := 224) (by decide +kernel), by decide +kernel⟩
set_option maxRecDepth 20000 in
theorem wd_225 : k_P_write ∈ lw_big := List.mem_filter.mpr ⟨List.mem_of_getElem? (i := 225) rfl, by decide +kernel⟩
set_option maxRecDepth 20000 in
theorem wd_226 : Cond.methodLink RX3 97 y_P_latestVersion ∈ lw_big := List.mem_filter.mpr ⟨List.mem_of_getElem? (i := 226) (by decide +kernel), by decide +kernel⟩
set_option maxRecDepth 20000 in
theorem wd_228 : Cond.instanceMethod y_P_latestVersion ∈ lw_big := List.mem_filter.mpr ⟨List.mem_of_getElem? (i := 228) (by decide +kernel), by decide +kernel⟩
set_option maxRecDepth 20000 in
theorem wd_229 : k_P_latestVersion ∈ lw_big := List.mem_filter.mpr ⟨List.mem_of_getElem? (i := 229) rfl, by decide +kernel⟩
set_option maxRecDepth 20000 in
theorem wd_230 : Cond.methodLink RX3 101 y_P_isCell ∈ lw_big := List.mem_filter.mpr ⟨List.mem_of_getElem? (i := 230) (by decide +kernel), by decide +kernel⟩
set_option maxRecDepth 20000 in
theorem wd_231 : Cond.static y_P_isCell ∈ lw_big := List.mem_filter.mpr ⟨List.mem_of_getElem? (i := 231) (by decide +kernel), by decide +kernel⟩
set_option maxRecDepth 20000 in
theorem wd_232 : k_P_isCell ∈ lw_big := List.mem_filter.mpr ⟨List.mem_of_getElem? (i := 232) rfl, by decide +kernel⟩
set_option maxRecDepth 20000 in
theorem wd_233 : Cond.methodLink RX3 107 ⟨"[I", "clone", "()Ljava/lang/Object;"⟩ ∈ lw_big := List.mem_filter.mpr ⟨List.mem_of_getElem? (i := 233) (by decide +kernel), by decide +kernel⟩
set_option maxRecDepth 20000 in
theorem wd_234 : Cond.sameMethod "[I" "java/lang/Object" "clone" "()Ljava/lang/Object;" ∈ lw_big := List.mem_filter.mpr ⟨List.mem_of_getElem? (i := 234) (by decide +kernel), by decide +kernel⟩
set_option maxRecDepth 20000 in
theorem wd_235 : Cond.native ⟨"java/lang/Object", "clone", "()Ljava/lang/Object;"⟩ ∈ lw_big := List.mem_filter.mpr ⟨List.mem_of_getElem? (i := 235) (by decide +kernel), by decide +kernel⟩
set_option maxRecDepth 20000 in
theorem wd_236 : Cond.instanceMethod ⟨"java/lang/Object", "clone", "()Ljava/lang/Object;"⟩ ∈ lw_big := List.mem_filter.mpr ⟨List.mem_of_getElem? (i := 236) (by decide +kernel), by decide +kernel⟩
set_option maxRecDepth 20000 in
theorem wd_237 : Cond.selects "[I" ⟨"[I", "clone", "()Ljava/lang/Object;"⟩ ⟨"java/lang/Object", "clone", "()Ljava/lang/Object;"⟩ ∈ lw_big := List.mem_filter.mpr ⟨List.mem_of_getElem? (i := 237) (by decide +kernel), by decide +kernel⟩
set_option maxRecDepth 20000 in
theorem wd_239 : Cond.classLink RX3 108 "[I" ∈ lw_big := List.mem_filter.mpr ⟨List.mem_of_getElem? (i := 239) (by decide +kernel), by decide +kernel⟩
set_option maxRecDepth 20000 in
theorem wd_240 : Cond.methodLink RX3 112 y_P_addVersion ∈ lw_big := List.mem_filter.mpr ⟨List.mem_of_getElem? (i := 240) (by decide +kernel), by decide +kernel⟩
set_option maxRecDepth 20000 in
theorem wd_242 : Cond.instanceMethod y_P_addVersion ∈ lw_big := List.mem_filter.mpr ⟨List.mem_of_getElem? (i := 242) (by decide +kernel), by decide +kernel⟩
set_option maxRecDepth 20000 in
theorem wd_243 : k_P_addVersion ∈ lw_big := List.mem_filter.mpr ⟨List.mem_of_getElem? (i := 243) rfl, by decide +kernel⟩
set_option maxRecDepth 20000 in
theorem wd_244 : Cond.methodLink RL 46 y_P_turnBack ∈ lw_big := List.mem_filter.mpr ⟨List.mem_of_getElem? (i := 244) (by decide +kernel), by decide +kernel⟩
set_option maxRecDepth 20000 in
theorem wd_245 : Cond.instanceMethod y_P_turnBack ∈ lw_big := List.mem_filter.mpr ⟨List.mem_of_getElem? (i := 245) (by decide +kernel), by decide +kernel⟩
set_option maxRecDepth 20000 in
theorem wd_246 : Cond.selects RX3 y_P_turnBack y_P_turnBack ∈ lw_big := List.mem_filter.mpr ⟨List.mem_of_getElem? (i := 246) (by decide +kernel), by decide +kernel⟩
set_option maxRecDepth 20000 in
theorem wd_247 : k_P_turnBack ∈ lw_big := List.mem_filter.mpr ⟨List.mem_of_getElem? (i := 247) rfl, by decide +kernel⟩
set_option maxRecDepth 20000 in
theorem wd_248 : Cond.methodLink RX3 116 y_P_versionAsOf ∈ lw_big := List.mem_filter.mpr ⟨List.mem_of_getElem? (i := 248) (by decide +kernel), by decide +kernel⟩
set_option maxRecDepth 20000 in
theorem wd_249 : Cond.static y_P_versionAsOf ∈ lw_big := List.mem_filter.mpr ⟨List.mem_of_getElem? (i := 249) (by decide +kernel), by decide +kernel⟩
set_option maxRecDepth 20000 in
theorem wd_250 : k_P_versionAsOf ∈ lw_big := List.mem_filter.mpr ⟨List.mem_of_getElem? (i := 250) rfl, by decide +kernel⟩
set_option maxRecDepth 20000 in
theorem wd_251 : Cond.methodLink RL 50 y_P_putBack ∈ lw_big := List.mem_filter.mpr ⟨List.mem_of_getElem? (i := 251) (by decide +kernel), by decide +kernel⟩
set_option maxRecDepth 20000 in
theorem wd_252 : Cond.instanceMethod y_P_putBack ∈ lw_big := List.mem_filter.mpr ⟨List.mem_of_getElem? (i := 252) (by decide +kernel), by decide +kernel⟩
set_option maxRecDepth 20000 in
theorem wd_253 : Cond.selects RX3 y_P_putBack y_P_putBack ∈ lw_big := List.mem_filter.mpr ⟨List.mem_of_getElem? (i := 253) (by decide +kernel), by decide +kernel⟩
set_option maxRecDepth 20000 in
theorem wd_254 : k_P_putBack ∈ lw_big := List.mem_filter.mpr ⟨List.mem_of_getElem? (i := 254) rfl, by decide +kernel⟩
set_option maxRecDepth 20000 in
theorem wd_255 : Cond.methodLink RL 54 y_P_look ∈ lw_big := List.mem_filter.mpr ⟨List.mem_of_getElem? (i := 255) (by decide +kernel), by decide +kernel⟩
set_option maxRecDepth 20000 in
theorem wd_256 : Cond.instanceMethod y_P_look ∈ lw_big := List.mem_filter.mpr ⟨List.mem_of_getElem? (i := 256) (by decide +kernel), by decide +kernel⟩
set_option maxRecDepth 20000 in
theorem wd_257 : Cond.selects RX3 y_P_look y_P_look ∈ lw_big := List.mem_filter.mpr ⟨List.mem_of_getElem? (i := 257) (by decide +kernel), by decide +kernel⟩
set_option maxRecDepth 20000 in
theorem wd_258 : k_P_look ∈ lw_big := List.mem_filter.mpr ⟨List.mem_of_getElem? (i := 258) rfl, by decide +kernel⟩
set_option maxRecDepth 20000 in
theorem wd_259 : Cond.methodLink RL 58 y_P_next ∈ lw_big := List.mem_filter.mpr ⟨List.mem_of_getElem? (i := 259) (by decide +kernel), by decide +kernel⟩
set_option maxRecDepth 20000 in
theorem wd_260 : Cond.instanceMethod y_P_next ∈ lw_big := List.mem_filter.mpr ⟨List.mem_of_getElem? (i := 260) (by decide +kernel), by decide +kernel⟩
set_option maxRecDepth 20000 in
theorem wd_261 : Cond.selects RX3 y_P_next y_P_next ∈ lw_big := List.mem_filter.mpr ⟨List.mem_of_getElem? (i := 261) (by decide +kernel), by decide +kernel⟩
set_option maxRecDepth 20000 in
theorem wd_262 : k_P_next ∈ lw_big := List.mem_filter.mpr ⟨List.mem_of_getElem? (i := 262) rfl, by decide +kernel⟩
set_option maxRecDepth 20000 in
theorem wd_263 : Cond.methodLink RL 62 y_P_read ∈ lw_big := List.mem_filter.mpr ⟨List.mem_of_getElem? (i := 263) (by decide +kernel), by decide +kernel⟩
set_option maxRecDepth 20000 in
theorem wd_264 : Cond.instanceMethod y_P_read ∈ lw_big := List.mem_filter.mpr ⟨List.mem_of_getElem? (i := 264) (by decide +kernel), by decide +kernel⟩
set_option maxRecDepth 20000 in
theorem wd_265 : Cond.selects RX3 y_P_read y_P_read ∈ lw_big := List.mem_filter.mpr ⟨List.mem_of_getElem? (i := 265) (by decide +kernel), by decide +kernel⟩
set_option maxRecDepth 20000 in
theorem wd_266 : k_P_read ∈ lw_big := List.mem_filter.mpr ⟨List.mem_of_getElem? (i := 266) rfl, by decide +kernel⟩
set_option maxRecDepth 20000 in
theorem wd_267 : Cond.constantLong RX3 124 (-1000000000000) ∈ lw_big := List.mem_filter.mpr ⟨List.mem_of_getElem? (i := 267) (by decide +kernel), by decide +kernel⟩
set_option maxRecDepth 20000 in
theorem wd_268 : Cond.constantLong RX3 126 (-2000000000000) ∈ lw_big := List.mem_filter.mpr ⟨List.mem_of_getElem? (i := 268) (by decide +kernel), by decide +kernel⟩
set_option maxRecDepth 20000 in
theorem wd_269 : Cond.methodLink RL 67 y_P_below ∈ lw_big := List.mem_filter.mpr ⟨List.mem_of_getElem? (i := 269) (by decide +kernel), by decide +kernel⟩
set_option maxRecDepth 20000 in
theorem wd_270 : Cond.instanceMethod y_P_below ∈ lw_big := List.mem_filter.mpr ⟨List.mem_of_getElem? (i := 270) (by decide +kernel), by decide +kernel⟩
set_option maxRecDepth 20000 in
theorem wd_271 : Cond.selects RX3 y_P_below y_P_below ∈ lw_big := List.mem_filter.mpr ⟨List.mem_of_getElem? (i := 271) (by decide +kernel), by decide +kernel⟩
set_option maxRecDepth 20000 in
theorem wd_272 : k_P_below ∈ lw_big := List.mem_filter.mpr ⟨List.mem_of_getElem? (i := 272) rfl, by decide +kernel⟩
set_option maxRecDepth 20000 in
theorem wd_273 : Cond.methodLink RL 71 y_P_thin ∈ lw_big := List.mem_filter.mpr ⟨List.mem_of_getElem? (i := 273) (by decide +kernel), by decide +kernel⟩
set_option maxRecDepth 20000 in
theorem wd_274 : Cond.instanceMethod y_P_thin ∈ lw_big := List.mem_filter.mpr ⟨List.mem_of_getElem? (i := 274) (by decide +kernel), by decide +kernel⟩
set_option maxRecDepth 20000 in
theorem wd_275 : Cond.selects RX3 y_P_thin y_P_thin ∈ lw_big := List.mem_filter.mpr ⟨List.mem_of_getElem? (i := 275) (by decide +kernel), by decide +kernel⟩
set_option maxRecDepth 20000 in
theorem wd_276 : k_P_thin ∈ lw_big := List.mem_filter.mpr ⟨List.mem_of_getElem? (i := 276) rfl, by decide +kernel⟩
set_option maxRecDepth 20000 in
theorem wd_277 : Cond.methodLink RX3 128 y_P_makeDurable ∈ lw_big := List.mem_filter.mpr ⟨List.mem_of_getElem? (i := 277) (by decide +kernel), by decide +kernel⟩
set_option maxRecDepth 20000 in
theorem wd_279 : Cond.instanceMethod y_P_makeDurable ∈ lw_big := List.mem_filter.mpr ⟨List.mem_of_getElem? (i := 279) (by decide +kernel), by decide +kernel⟩
set_option maxRecDepth 20000 in
theorem wd_280 : k_P_makeDurable ∈ lw_big := List.mem_filter.mpr ⟨List.mem_of_getElem? (i := 280) rfl, by decide +kernel⟩
set_option maxRecDepth 20000 in
theorem wd_281 : Cond.methodLink RX3 179 y_N_keep ∈ lw_big := List.mem_filter.mpr ⟨List.mem_of_getElem? (i := 281) (by decide +kernel), by decide +kernel⟩
set_option maxRecDepth 20000 in
theorem wd_282 : Cond.instanceMethod y_N_keep ∈ lw_big := List.mem_filter.mpr ⟨List.mem_of_getElem? (i := 282) (by decide +kernel), by decide +kernel⟩
set_option maxRecDepth 20000 in
theorem wd_283 : Cond.selects RX0 y_N_keep y_N_keep ∈ lw_big := List.mem_filter.mpr ⟨List.mem_of_getElem? (i := 283) (by decide +kernel), by decide +kernel⟩
set_option maxRecDepth 20000 in
theorem wd_284 : k_N_keep ∈ lw_big := List.mem_filter.mpr ⟨List.mem_of_getElem? (i := 284) rfl, by decide +kernel⟩
set_option maxRecDepth 20000 in
theorem wd_285 : Cond.methodLink RX3 131 y_P_dropThinned ∈ lw_big := List.mem_filter.mpr ⟨List.mem_of_getElem? (i := 285) (by decide +kernel), by decide +kernel⟩
set_option maxRecDepth 20000 in
theorem wd_287 : Cond.instanceMethod y_P_dropThinned ∈ lw_big := List.mem_filter.mpr ⟨List.mem_of_getElem? (i := 287) (by decide +kernel), by decide +kernel⟩
set_option maxRecDepth 20000 in
theorem wd_288 : k_P_dropThinned ∈ lw_big := List.mem_filter.mpr ⟨List.mem_of_getElem? (i := 288) rfl, by decide +kernel⟩
set_option maxRecDepth 20000 in
theorem wd_289 : Cond.methodLink RL 75 y_P_sync ∈ lw_big := List.mem_filter.mpr ⟨List.mem_of_getElem? (i := 289) (by decide +kernel), by decide +kernel⟩
set_option maxRecDepth 20000 in
theorem wd_290 : Cond.instanceMethod y_P_sync ∈ lw_big := List.mem_filter.mpr ⟨List.mem_of_getElem? (i := 290) (by decide +kernel), by decide +kernel⟩
set_option maxRecDepth 20000 in
theorem wd_291 : Cond.selects RX3 y_P_sync y_P_sync ∈ lw_big := List.mem_filter.mpr ⟨List.mem_of_getElem? (i := 291) (by decide +kernel), by decide +kernel⟩
set_option maxRecDepth 20000 in
theorem wd_292 : k_P_sync ∈ lw_big := List.mem_filter.mpr ⟨List.mem_of_getElem? (i := 292) rfl, by decide +kernel⟩
set_option maxRecDepth 20000 in
theorem wd_293 : Cond.methodLink RL 80 y_P_crash ∈ lw_big := List.mem_filter.mpr ⟨List.mem_of_getElem? (i := 293) (by decide +kernel), by decide +kernel⟩
set_option maxRecDepth 20000 in
theorem wd_294 : Cond.instanceMethod y_P_crash ∈ lw_big := List.mem_filter.mpr ⟨List.mem_of_getElem? (i := 294) (by decide +kernel), by decide +kernel⟩
set_option maxRecDepth 20000 in
theorem wd_295 : Cond.selects RX3 y_P_crash y_P_crash ∈ lw_big := List.mem_filter.mpr ⟨List.mem_of_getElem? (i := 295) (by decide +kernel), by decide +kernel⟩
set_option maxRecDepth 20000 in
theorem wd_296 : k_P_crash ∈ lw_big := List.mem_filter.mpr ⟨List.mem_of_getElem? (i := 296) rfl, by decide +kernel⟩
set_option maxRecDepth 20000 in
theorem wd_297 : Cond.methodLink RX3 135 y_N_goBack ∈ lw_big := List.mem_filter.mpr ⟨List.mem_of_getElem? (i := 297) (by decide +kernel), by decide +kernel⟩
set_option maxRecDepth 20000 in
theorem wd_298 : Cond.instanceMethod y_N_goBack ∈ lw_big := List.mem_filter.mpr ⟨List.mem_of_getElem? (i := 298) (by decide +kernel), by decide +kernel⟩
set_option maxRecDepth 20000 in
theorem wd_299 : Cond.selects RX0 y_N_goBack y_N_goBack ∈ lw_big := List.mem_filter.mpr ⟨List.mem_of_getElem? (i := 299) (by decide +kernel), by decide +kernel⟩
set_option maxRecDepth 20000 in
theorem wd_300 : k_N_goBack ∈ lw_big := List.mem_filter.mpr ⟨List.mem_of_getElem? (i := 300) rfl, by decide +kernel⟩
set_option maxRecDepth 20000 in
theorem wd_301 : Cond.methodLink RL 84 y_P_node ∈ lw_big := List.mem_filter.mpr ⟨List.mem_of_getElem? (i := 301) (by decide +kernel), by decide +kernel⟩
set_option maxRecDepth 20000 in
theorem wd_302 : Cond.instanceMethod y_P_node ∈ lw_big := List.mem_filter.mpr ⟨List.mem_of_getElem? (i := 302) (by decide +kernel), by decide +kernel⟩
set_option maxRecDepth 20000 in
theorem wd_303 : Cond.selects RX3 y_P_node y_P_node ∈ lw_big := List.mem_filter.mpr ⟨List.mem_of_getElem? (i := 303) (by decide +kernel), by decide +kernel⟩
set_option maxRecDepth 20000 in
theorem wd_304 : k_P_node ∈ lw_big := List.mem_filter.mpr ⟨List.mem_of_getElem? (i := 304) rfl, by decide +kernel⟩
set_option maxRecDepth 20000 in
theorem wd_305 : Cond.methodLink RX3 138 y_P_kindOf ∈ lw_big := List.mem_filter.mpr ⟨List.mem_of_getElem? (i := 305) (by decide +kernel), by decide +kernel⟩
set_option maxRecDepth 20000 in
theorem wd_307 : Cond.instanceMethod y_P_kindOf ∈ lw_big := List.mem_filter.mpr ⟨List.mem_of_getElem? (i := 307) (by decide +kernel), by decide +kernel⟩
set_option maxRecDepth 20000 in
theorem wd_308 : k_P_kindOf ∈ lw_big := List.mem_filter.mpr ⟨List.mem_of_getElem? (i := 308) rfl, by decide +kernel⟩
set_option maxRecDepth 20000 in
theorem wd_309 : Cond.methodLink RX3 147 y_P_countGone ∈ lw_big := List.mem_filter.mpr ⟨List.mem_of_getElem? (i := 309) (by decide +kernel), by decide +kernel⟩
set_option maxRecDepth 20000 in
theorem wd_310 : Cond.static y_P_countGone ∈ lw_big := List.mem_filter.mpr ⟨List.mem_of_getElem? (i := 310) (by decide +kernel), by decide +kernel⟩
set_option maxRecDepth 20000 in
theorem wd_311 : k_P_countGone ∈ lw_big := List.mem_filter.mpr ⟨List.mem_of_getElem? (i := 311) rfl, by decide +kernel⟩
set_option maxRecDepth 20000 in
theorem wd_312 : Cond.methodLink RL 88 y_P_versionTime ∈ lw_big := List.mem_filter.mpr ⟨List.mem_of_getElem? (i := 312) (by decide +kernel), by decide +kernel⟩
set_option maxRecDepth 20000 in
theorem wd_313 : Cond.instanceMethod y_P_versionTime ∈ lw_big := List.mem_filter.mpr ⟨List.mem_of_getElem? (i := 313) (by decide +kernel), by decide +kernel⟩
set_option maxRecDepth 20000 in
theorem wd_314 : Cond.selects RX3 y_P_versionTime y_P_versionTime ∈ lw_big := List.mem_filter.mpr ⟨List.mem_of_getElem? (i := 314) (by decide +kernel), by decide +kernel⟩
set_option maxRecDepth 20000 in
theorem wd_315 : k_P_versionTime ∈ lw_big := List.mem_filter.mpr ⟨List.mem_of_getElem? (i := 315) rfl, by decide +kernel⟩
set_option maxRecDepth 20000 in
theorem wd_316 : Cond.methodLink RL 92 y_P_count ∈ lw_big := List.mem_filter.mpr ⟨List.mem_of_getElem? (i := 316) (by decide +kernel), by decide +kernel⟩
set_option maxRecDepth 20000 in
theorem wd_317 : Cond.instanceMethod y_P_count ∈ lw_big := List.mem_filter.mpr ⟨List.mem_of_getElem? (i := 317) (by decide +kernel), by decide +kernel⟩
set_option maxRecDepth 20000 in
theorem wd_318 : Cond.selects RX3 y_P_count y_P_count ∈ lw_big := List.mem_filter.mpr ⟨List.mem_of_getElem? (i := 318) (by decide +kernel), by decide +kernel⟩
set_option maxRecDepth 20000 in
theorem wd_319 : k_P_count ∈ lw_big := List.mem_filter.mpr ⟨List.mem_of_getElem? (i := 319) rfl, by decide +kernel⟩
set_option maxRecDepth 20000 in
theorem wd_320 : Cond.methodLink RL 9 y_L_cell ∈ lw_big := List.mem_filter.mpr ⟨List.mem_of_getElem? (i := 320) (by decide +kernel), by decide +kernel⟩
set_option maxRecDepth 20000 in
theorem wd_321 : Cond.static y_L_cell ∈ lw_big := List.mem_filter.mpr ⟨List.mem_of_getElem? (i := 321) (by decide +kernel), by decide +kernel⟩
set_option maxRecDepth 20000 in
theorem wd_322 : k_L_cell ∈ lw_big := List.mem_filter.mpr ⟨List.mem_of_getElem? (i := 322) rfl, by decide +kernel⟩
set_option maxRecDepth 20000 in
theorem wd_323 : Cond.classLink RL 18 RX4 ∈ lw_big := List.mem_filter.mpr ⟨List.mem_of_getElem? (i := 323) (by decide +kernel), by decide +kernel⟩
set_option maxRecDepth 20000 in
theorem wd_324 : Cond.instantiable RX4 18 ∈ lw_big := List.mem_filter.mpr ⟨List.mem_of_getElem? (i := 324) (by decide +kernel), by decide +kernel⟩
set_option maxRecDepth 20000 in
theorem wd_325 : Cond.methodLink RL 20 y_T_init ∈ lw_big := List.mem_filter.mpr ⟨List.mem_of_getElem? (i := 325) (by decide +kernel), by decide +kernel⟩
set_option maxRecDepth 20000 in
theorem wd_326 : Cond.instanceMethod y_T_init ∈ lw_big := List.mem_filter.mpr ⟨List.mem_of_getElem? (i := 326) (by decide +kernel), by decide +kernel⟩
set_option maxRecDepth 20000 in
theorem wd_327 : k_T_init ∈ lw_big := List.mem_filter.mpr ⟨List.mem_of_getElem? (i := 327) rfl, by decide +kernel⟩
set_option maxRecDepth 20000 in
theorem wd_328 : Cond.methodLink RX4 1 objectInit ∈ lw_big := List.mem_filter.mpr ⟨List.mem_of_getElem? (i := 328) (by decide +kernel), by decide +kernel⟩
set_option maxRecDepth 20000 in
theorem wd_329 : Cond.fieldLink RX4 44 "PastTreeModel" "window" "I" ∈ lw_big := List.mem_filter.mpr ⟨List.mem_of_getElem? (i := 329) (by decide +kernel), by decide +kernel⟩
set_option maxRecDepth 20000 in
theorem wd_330 : Cond.fieldLink RX4 48 "PastTreeModel" "gap" "I" ∈ lw_big := List.mem_filter.mpr ⟨List.mem_of_getElem? (i := 330) (by decide +kernel), by decide +kernel⟩
set_option maxRecDepth 20000 in
theorem wd_331 : Cond.fieldLink RX4 7 "PastTreeModel" "when" "[I" ∈ lw_big := List.mem_filter.mpr ⟨List.mem_of_getElem? (i := 331) (by decide +kernel), by decide +kernel⟩
set_option maxRecDepth 20000 in
theorem wd_332 : Cond.fieldLink RX4 13 "PastTreeModel" "set" "[I" ∈ lw_big := List.mem_filter.mpr ⟨List.mem_of_getElem? (i := 332) (by decide +kernel), by decide +kernel⟩
set_option maxRecDepth 20000 in
theorem wd_333 : Cond.fieldLink RX4 16 "PastTreeModel" "node" "[I" ∈ lw_big := List.mem_filter.mpr ⟨List.mem_of_getElem? (i := 333) (by decide +kernel), by decide +kernel⟩
set_option maxRecDepth 20000 in
theorem wd_334 : Cond.fieldLink RX4 19 "PastTreeModel" "unset" "[I" ∈ lw_big := List.mem_filter.mpr ⟨List.mem_of_getElem? (i := 334) (by decide +kernel), by decide +kernel⟩
set_option maxRecDepth 20000 in
theorem wd_335 : Cond.fieldLink RX4 22 "PastTreeModel" "file" "[I" ∈ lw_big := List.mem_filter.mpr ⟨List.mem_of_getElem? (i := 335) (by decide +kernel), by decide +kernel⟩
set_option maxRecDepth 20000 in
theorem wd_336 : Cond.fieldLink RX4 25 "PastTreeModel" "made" "[I" ∈ lw_big := List.mem_filter.mpr ⟨List.mem_of_getElem? (i := 336) (by decide +kernel), by decide +kernel⟩
set_option maxRecDepth 20000 in
theorem wd_337 : Cond.fieldLink RX4 28 "PastTreeModel" "cell" "[I" ∈ lw_big := List.mem_filter.mpr ⟨List.mem_of_getElem? (i := 337) (by decide +kernel), by decide +kernel⟩
set_option maxRecDepth 20000 in
theorem wd_338 : Cond.fieldLink RX4 51 "PastTreeModel" "changes" "I" ∈ lw_big := List.mem_filter.mpr ⟨List.mem_of_getElem? (i := 338) (by decide +kernel), by decide +kernel⟩
set_option maxRecDepth 20000 in
theorem wd_339 : Cond.fieldLink RX4 121 "PastTreeModel" "durable" "I" ∈ lw_big := List.mem_filter.mpr ⟨List.mem_of_getElem? (i := 339) (by decide +kernel), by decide +kernel⟩
set_option maxRecDepth 20000 in
theorem wd_340 : Cond.fieldLink RX4 58 "PastTreeModel" "clock" "I" ∈ lw_big := List.mem_filter.mpr ⟨List.mem_of_getElem? (i := 340) (by decide +kernel), by decide +kernel⟩
set_option maxRecDepth 20000 in
theorem wd_341 : Cond.fieldLink RX4 124 "PastTreeModel" "durableClock" "I" ∈ lw_big := List.mem_filter.mpr ⟨List.mem_of_getElem? (i := 341) (by decide +kernel), by decide +kernel⟩
set_option maxRecDepth 20000 in
theorem wd_342 : Cond.fieldLink RX4 31 "PastTreeModel" "goneFile" "[I" ∈ lw_big := List.mem_filter.mpr ⟨List.mem_of_getElem? (i := 342) (by decide +kernel), by decide +kernel⟩
set_option maxRecDepth 20000 in
theorem wd_343 : Cond.fieldLink RX4 34 "PastTreeModel" "goneTime" "[I" ∈ lw_big := List.mem_filter.mpr ⟨List.mem_of_getElem? (i := 343) (by decide +kernel), by decide +kernel⟩
set_option maxRecDepth 20000 in
theorem wd_344 : Cond.fieldLink RX4 61 "PastTreeModel" "gone" "I" ∈ lw_big := List.mem_filter.mpr ⟨List.mem_of_getElem? (i := 344) (by decide +kernel), by decide +kernel⟩
set_option maxRecDepth 20000 in
theorem wd_345 : Cond.fieldLink RX4 37 "PastTreeModel" "entry" "[I" ∈ lw_big := List.mem_filter.mpr ⟨List.mem_of_getElem? (i := 345) (by decide +kernel), by decide +kernel⟩
set_option maxRecDepth 20000 in
theorem wd_346 : Cond.fieldLink RX4 40 "PastTreeModel" "reached" "[Z" ∈ lw_big := List.mem_filter.mpr ⟨List.mem_of_getElem? (i := 346) (by decide +kernel), by decide +kernel⟩
set_option maxRecDepth 20000 in
theorem wd_384 : Cond.arrayClass .boolean ∈ lw_big := List.mem_filter.mpr ⟨List.mem_of_getElem? (i := 384) (by decide +kernel), by decide +kernel⟩
set_option maxRecDepth 20000 in
theorem wd_385 : Cond.methodLink RL 25 y_T_tick ∈ lw_big := List.mem_filter.mpr ⟨List.mem_of_getElem? (i := 385) (by decide +kernel), by decide +kernel⟩
set_option maxRecDepth 20000 in
theorem wd_386 : Cond.instanceMethod y_T_tick ∈ lw_big := List.mem_filter.mpr ⟨List.mem_of_getElem? (i := 386) (by decide +kernel), by decide +kernel⟩
set_option maxRecDepth 20000 in
theorem wd_387 : Cond.selects RX4 y_T_tick y_T_tick ∈ lw_big := List.mem_filter.mpr ⟨List.mem_of_getElem? (i := 387) (by decide +kernel), by decide +kernel⟩
set_option maxRecDepth 20000 in
theorem wd_388 : k_T_tick ∈ lw_big := List.mem_filter.mpr ⟨List.mem_of_getElem? (i := 388) rfl, by decide +kernel⟩
set_option maxRecDepth 20000 in
theorem wd_389 : Cond.methodLink RX4 68 y_T_isin ∈ lw_big := List.mem_filter.mpr ⟨List.mem_of_getElem? (i := 389) (by decide +kernel), by decide +kernel⟩
set_option maxRecDepth 20000 in
theorem wd_390 : Cond.static y_T_isin ∈ lw_big := List.mem_filter.mpr ⟨List.mem_of_getElem? (i := 390) (by decide +kernel), by decide +kernel⟩
set_option maxRecDepth 20000 in
theorem wd_391 : k_T_isin ∈ lw_big := List.mem_filter.mpr ⟨List.mem_of_getElem? (i := 391) rfl, by decide +kernel⟩
set_option maxRecDepth 20000 in
theorem wd_392 : Cond.methodLink RL 30 y_T_make ∈ lw_big := List.mem_filter.mpr ⟨List.mem_of_getElem? (i := 392) (by decide +kernel), by decide +kernel⟩
set_option maxRecDepth 20000 in
theorem wd_393 : Cond.instanceMethod y_T_make ∈ lw_big := List.mem_filter.mpr ⟨List.mem_of_getElem? (i := 393) (by decide +kernel), by decide +kernel⟩
set_option maxRecDepth 20000 in
theorem wd_394 : Cond.selects RX4 y_T_make y_T_make ∈ lw_big := List.mem_filter.mpr ⟨List.mem_of_getElem? (i := 394) (by decide +kernel), by decide +kernel⟩
set_option maxRecDepth 20000 in
theorem wd_395 : k_T_make ∈ lw_big := List.mem_filter.mpr ⟨List.mem_of_getElem? (i := 395) rfl, by decide +kernel⟩
set_option maxRecDepth 20000 in
theorem wd_396 : Cond.methodLink RX4 72 y_T_asOf ∈ lw_big := List.mem_filter.mpr ⟨List.mem_of_getElem? (i := 396) (by decide +kernel), by decide +kernel⟩
set_option maxRecDepth 20000 in
theorem wd_398 : Cond.instanceMethod y_T_asOf ∈ lw_big := List.mem_filter.mpr ⟨List.mem_of_getElem? (i := 398) (by decide +kernel), by decide +kernel⟩
set_option maxRecDepth 20000 in
theorem wd_399 : k_T_asOf ∈ lw_big := List.mem_filter.mpr ⟨List.mem_of_getElem? (i := 399) rfl, by decide +kernel⟩
set_option maxRecDepth 20000 in
theorem wd_400 : Cond.methodLink RX4 76 y_T_kind ∈ lw_big := List.mem_filter.mpr ⟨List.mem_of_getElem? (i := 400) (by decide +kernel), by decide +kernel⟩
set_option maxRecDepth 20000 in
theorem wd_402 : Cond.instanceMethod y_T_kind ∈ lw_big := List.mem_filter.mpr ⟨List.mem_of_getElem? (i := 402) (by decide +kernel), by decide +kernel⟩
set_option maxRecDepth 20000 in
theorem wd_403 : k_T_kind ∈ lw_big := List.mem_filter.mpr ⟨List.mem_of_getElem? (i := 403) rfl, by decide +kernel⟩
set_option maxRecDepth 20000 in
theorem wd_404 : Cond.methodLink RX4 80 y_T_opn ∈ lw_big := List.mem_filter.mpr ⟨List.mem_of_getElem? (i := 404) (by decide +kernel), by decide +kernel⟩
set_option maxRecDepth 20000 in
theorem wd_406 : Cond.instanceMethod y_T_opn ∈ lw_big := List.mem_filter.mpr ⟨List.mem_of_getElem? (i := 406) (by decide +kernel), by decide +kernel⟩
set_option maxRecDepth 20000 in
theorem wd_407 : k_T_opn ∈ lw_big := List.mem_filter.mpr ⟨List.mem_of_getElem? (i := 407) rfl, by decide +kernel⟩
set_option maxRecDepth 20000 in
theorem wd_408 : Cond.methodLink RX4 54 y_T_placed ∈ lw_big := List.mem_filter.mpr ⟨List.mem_of_getElem? (i := 408) (by decide +kernel), by decide +kernel⟩
set_option maxRecDepth 20000 in
theorem wd_410 : Cond.instanceMethod y_T_placed ∈ lw_big := List.mem_filter.mpr ⟨List.mem_of_getElem? (i := 410) (by decide +kernel), by decide +kernel⟩
set_option maxRecDepth 20000 in
theorem wd_411 : k_T_placed ∈ lw_big := List.mem_filter.mpr ⟨List.mem_of_getElem? (i := 411) rfl, by decide +kernel⟩
set_option maxRecDepth 20000 in
theorem wd_412 : Cond.methodLink RX4 83 y_T_nodes ∈ lw_big := List.mem_filter.mpr ⟨List.mem_of_getElem? (i := 412) (by decide +kernel), by decide +kernel⟩
set_option maxRecDepth 20000 in
theorem wd_414 : Cond.instanceMethod y_T_nodes ∈ lw_big := List.mem_filter.mpr ⟨List.mem_of_getElem? (i := 414) (by decide +kernel), by decide +kernel⟩
set_option maxRecDepth 20000 in
theorem wd_415 : k_T_nodes ∈ lw_big := List.mem_filter.mpr ⟨List.mem_of_getElem? (i := 415) rfl, by decide +kernel⟩
set_option maxRecDepth 20000 in
theorem wd_416 : Cond.methodLink RX4 87 y_T_change ∈ lw_big := List.mem_filter.mpr ⟨List.mem_of_getElem? (i := 416) (by decide +kernel), by decide +kernel⟩
set_option maxRecDepth 20000 in
theorem wd_418 : Cond.instanceMethod y_T_change ∈ lw_big := List.mem_filter.mpr ⟨List.mem_of_getElem? (i := 418) (by decide +kernel), by decide +kernel⟩
set_option maxRecDepth 20000 in
theorem wd_419 : k_T_change ∈ lw_big := List.mem_filter.mpr ⟨List.mem_of_getElem? (i := 419) rfl, by decide +kernel⟩
set_option maxRecDepth 20000 in
theorem wd_420 : Cond.methodLink RX4 91 y_T_copyCells ∈ lw_big := List.mem_filter.mpr ⟨List.mem_of_getElem? (i := 420) (by decide +kernel), by decide +kernel⟩
set_option maxRecDepth 20000 in
theorem wd_422 : Cond.instanceMethod y_T_copyCells ∈ lw_big := List.mem_filter.mpr ⟨List.mem_of_getElem? (i := 422) (by decide +kernel), by decide +kernel⟩
set_option maxRecDepth 20000 in
theorem wd_423 : k_T_copyCells ∈ lw_big := List.mem_filter.mpr ⟨List.mem_of_getElem? (i := 423) rfl, by decide +kernel⟩
set_option maxRecDepth 20000 in
theorem wd_424 : Cond.methodLink RL 35 y_T_remove ∈ lw_big := List.mem_filter.mpr ⟨List.mem_of_getElem? (i := 424) (by decide +kernel), by decide +kernel⟩
set_option maxRecDepth 20000 in
theorem wd_425 : Cond.instanceMethod y_T_remove ∈ lw_big := List.mem_filter.mpr ⟨List.mem_of_getElem? (i := 425) (by decide +kernel), by decide +kernel⟩
set_option maxRecDepth 20000 in
theorem wd_426 : Cond.selects RX4 y_T_remove y_T_remove ∈ lw_big := List.mem_filter.mpr ⟨List.mem_of_getElem? (i := 426) (by decide +kernel), by decide +kernel⟩
set_option maxRecDepth 20000 in
theorem wd_427 : k_T_remove ∈ lw_big := List.mem_filter.mpr ⟨List.mem_of_getElem? (i := 427) rfl, by decide +kernel⟩
set_option maxRecDepth 20000 in
theorem wd_428 : Cond.methodLink RX4 95 y_T_hasEntries ∈ lw_big := List.mem_filter.mpr ⟨List.mem_of_getElem? (i := 428) (by decide +kernel), by decide +kernel⟩
set_option maxRecDepth 20000 in
theorem wd_430 : Cond.instanceMethod y_T_hasEntries ∈ lw_big := List.mem_filter.mpr ⟨List.mem_of_getElem? (i := 430) (by decide +kernel), by decide +kernel⟩
set_option maxRecDepth 20000 in
theorem wd_431 : k_T_hasEntries ∈ lw_big := List.mem_filter.mpr ⟨List.mem_of_getElem? (i := 431) rfl, by decide +kernel⟩
set_option maxRecDepth 20000 in
theorem wd_432 : Cond.methodLink RL 40 y_T_move ∈ lw_big := List.mem_filter.mpr ⟨List.mem_of_getElem? (i := 432) (by decide +kernel), by decide +kernel⟩
set_option maxRecDepth 20000 in
theorem wd_433 : Cond.instanceMethod y_T_move ∈ lw_big := List.mem_filter.mpr ⟨List.mem_of_getElem? (i := 433) (by decide +kernel), by decide +kernel⟩
set_option maxRecDepth 20000 in
theorem wd_434 : Cond.selects RX4 y_T_move y_T_move ∈ lw_big := List.mem_filter.mpr ⟨List.mem_of_getElem? (i := 434) (by decide +kernel), by decide +kernel⟩
set_option maxRecDepth 20000 in
theorem wd_435 : k_T_move ∈ lw_big := List.mem_filter.mpr ⟨List.mem_of_getElem? (i := 435) rfl, by decide +kernel⟩
set_option maxRecDepth 20000 in
theorem wd_436 : Cond.methodLink RX4 98 y_T_reach ∈ lw_big := List.mem_filter.mpr ⟨List.mem_of_getElem? (i := 436) (by decide +kernel), by decide +kernel⟩
set_option maxRecDepth 20000 in
theorem wd_438 : Cond.instanceMethod y_T_reach ∈ lw_big := List.mem_filter.mpr ⟨List.mem_of_getElem? (i := 438) (by decide +kernel), by decide +kernel⟩
set_option maxRecDepth 20000 in
theorem wd_439 : k_T_reach ∈ lw_big := List.mem_filter.mpr ⟨List.mem_of_getElem? (i := 439) rfl, by decide +kernel⟩
set_option maxRecDepth 20000 in
theorem wd_440 : Cond.methodLink RL 45 y_T_write ∈ lw_big := List.mem_filter.mpr ⟨List.mem_of_getElem? (i := 440) (by decide +kernel), by decide +kernel⟩
set_option maxRecDepth 20000 in
theorem wd_441 : Cond.instanceMethod y_T_write ∈ lw_big := List.mem_filter.mpr ⟨List.mem_of_getElem? (i := 441) (by decide +kernel), by decide +kernel⟩
set_option maxRecDepth 20000 in
theorem wd_442 : Cond.selects RX4 y_T_write y_T_write ∈ lw_big := List.mem_filter.mpr ⟨List.mem_of_getElem? (i := 442) (by decide +kernel), by decide +kernel⟩
set_option maxRecDepth 20000 in
theorem wd_443 : k_T_write ∈ lw_big := List.mem_filter.mpr ⟨List.mem_of_getElem? (i := 443) rfl, by decide +kernel⟩
set_option maxRecDepth 20000 in
theorem wd_444 : Cond.methodLink RX4 101 y_T_version ∈ lw_big := List.mem_filter.mpr ⟨List.mem_of_getElem? (i := 444) (by decide +kernel), by decide +kernel⟩
set_option maxRecDepth 20000 in
theorem wd_446 : Cond.instanceMethod y_T_version ∈ lw_big := List.mem_filter.mpr ⟨List.mem_of_getElem? (i := 446) (by decide +kernel), by decide +kernel⟩
set_option maxRecDepth 20000 in
theorem wd_447 : k_T_version ∈ lw_big := List.mem_filter.mpr ⟨List.mem_of_getElem? (i := 447) rfl, by decide +kernel⟩
set_option maxRecDepth 20000 in
theorem wd_448 : Cond.methodLink RX4 104 y_T_versions ∈ lw_big := List.mem_filter.mpr ⟨List.mem_of_getElem? (i := 448) (by decide +kernel), by decide +kernel⟩
set_option maxRecDepth 20000 in
theorem wd_450 : Cond.instanceMethod y_T_versions ∈ lw_big := List.mem_filter.mpr ⟨List.mem_of_getElem? (i := 450) (by decide +kernel), by decide +kernel⟩
set_option maxRecDepth 20000 in
theorem wd_451 : k_T_versions ∈ lw_big := List.mem_filter.mpr ⟨List.mem_of_getElem? (i := 451) rfl, by decide +kernel⟩
set_option maxRecDepth 20000 in
theorem wd_452 : Cond.methodLink RX4 64 y_T_timeOf ∈ lw_big := List.mem_filter.mpr ⟨List.mem_of_getElem? (i := 452) (by decide +kernel), by decide +kernel⟩
set_option maxRecDepth 20000 in
theorem wd_454 : Cond.instanceMethod y_T_timeOf ∈ lw_big := List.mem_filter.mpr ⟨List.mem_of_getElem? (i := 454) (by decide +kernel), by decide +kernel⟩
set_option maxRecDepth 20000 in
theorem wd_455 : k_T_timeOf ∈ lw_big := List.mem_filter.mpr ⟨List.mem_of_getElem? (i := 455) rfl, by decide +kernel⟩
set_option maxRecDepth 20000 in
theorem wd_456 : Cond.methodLink RL 49 y_T_turnBack ∈ lw_big := List.mem_filter.mpr ⟨List.mem_of_getElem? (i := 456) (by decide +kernel), by decide +kernel⟩
set_option maxRecDepth 20000 in
theorem wd_457 : Cond.instanceMethod y_T_turnBack ∈ lw_big := List.mem_filter.mpr ⟨List.mem_of_getElem? (i := 457) (by decide +kernel), by decide +kernel⟩
set_option maxRecDepth 20000 in
theorem wd_458 : Cond.selects RX4 y_T_turnBack y_T_turnBack ∈ lw_big := List.mem_filter.mpr ⟨List.mem_of_getElem? (i := 458) (by decide +kernel), by decide +kernel⟩
set_option maxRecDepth 20000 in
theorem wd_459 : k_T_turnBack ∈ lw_big := List.mem_filter.mpr ⟨List.mem_of_getElem? (i := 459) rfl, by decide +kernel⟩
set_option maxRecDepth 20000 in
theorem wd_460 : Cond.methodLink RX4 107 y_T_isGone ∈ lw_big := List.mem_filter.mpr ⟨List.mem_of_getElem? (i := 460) (by decide +kernel), by decide +kernel⟩
set_option maxRecDepth 20000 in
theorem wd_462 : Cond.instanceMethod y_T_isGone ∈ lw_big := List.mem_filter.mpr ⟨List.mem_of_getElem? (i := 462) (by decide +kernel), by decide +kernel⟩
set_option maxRecDepth 20000 in
theorem wd_463 : k_T_isGone ∈ lw_big := List.mem_filter.mpr ⟨List.mem_of_getElem? (i := 463) rfl, by decide +kernel⟩
set_option maxRecDepth 20000 in
theorem wd_464 : Cond.methodLink RL 53 y_T_putBack ∈ lw_big := List.mem_filter.mpr ⟨List.mem_of_getElem? (i := 464) (by decide +kernel), by decide +kernel⟩
set_option maxRecDepth 20000 in
theorem wd_465 : Cond.instanceMethod y_T_putBack ∈ lw_big := List.mem_filter.mpr ⟨List.mem_of_getElem? (i := 465) (by decide +kernel), by decide +kernel⟩
set_option maxRecDepth 20000 in
theorem wd_466 : Cond.selects RX4 y_T_putBack y_T_putBack ∈ lw_big := List.mem_filter.mpr ⟨List.mem_of_getElem? (i := 466) (by decide +kernel), by decide +kernel⟩
set_option maxRecDepth 20000 in
theorem wd_467 : k_T_putBack ∈ lw_big := List.mem_filter.mpr ⟨List.mem_of_getElem? (i := 467) rfl, by decide +kernel⟩
set_option maxRecDepth 20000 in
theorem wd_468 : Cond.methodLink RX4 110 y_T_asked ∈ lw_big := List.mem_filter.mpr ⟨List.mem_of_getElem? (i := 468) (by decide +kernel), by decide +kernel⟩
set_option maxRecDepth 20000 in
theorem wd_470 : Cond.instanceMethod y_T_asked ∈ lw_big := List.mem_filter.mpr ⟨List.mem_of_getElem? (i := 470) (by decide +kernel), by decide +kernel⟩
set_option maxRecDepth 20000 in
theorem wd_471 : k_T_asked ∈ lw_big := List.mem_filter.mpr ⟨List.mem_of_getElem? (i := 471) rfl, by decide +kernel⟩
set_option maxRecDepth 20000 in
theorem wd_472 : Cond.methodLink RL 57 y_T_look ∈ lw_big := List.mem_filter.mpr ⟨List.mem_of_getElem? (i := 472) (by decide +kernel), by decide +kernel⟩
set_option maxRecDepth 20000 in
theorem wd_473 : Cond.instanceMethod y_T_look ∈ lw_big := List.mem_filter.mpr ⟨List.mem_of_getElem? (i := 473) (by decide +kernel), by decide +kernel⟩
set_option maxRecDepth 20000 in
theorem wd_474 : Cond.selects RX4 y_T_look y_T_look ∈ lw_big := List.mem_filter.mpr ⟨List.mem_of_getElem? (i := 474) (by decide +kernel), by decide +kernel⟩
set_option maxRecDepth 20000 in
theorem wd_475 : k_T_look ∈ lw_big := List.mem_filter.mpr ⟨List.mem_of_getElem? (i := 475) rfl, by decide +kernel⟩
set_option maxRecDepth 20000 in
theorem wd_476 : Cond.methodLink RL 61 y_T_next ∈ lw_big := List.mem_filter.mpr ⟨List.mem_of_getElem? (i := 476) (by decide +kernel), by decide +kernel⟩
set_option maxRecDepth 20000 in
theorem wd_477 : Cond.instanceMethod y_T_next ∈ lw_big := List.mem_filter.mpr ⟨List.mem_of_getElem? (i := 477) (by decide +kernel), by decide +kernel⟩
set_option maxRecDepth 20000 in
theorem wd_478 : Cond.selects RX4 y_T_next y_T_next ∈ lw_big := List.mem_filter.mpr ⟨List.mem_of_getElem? (i := 478) (by decide +kernel), by decide +kernel⟩
set_option maxRecDepth 20000 in
theorem wd_479 : k_T_next ∈ lw_big := List.mem_filter.mpr ⟨List.mem_of_getElem? (i := 479) rfl, by decide +kernel⟩
set_option maxRecDepth 20000 in
theorem wd_480 : Cond.methodLink RL 66 y_T_read ∈ lw_big := List.mem_filter.mpr ⟨List.mem_of_getElem? (i := 480) (by decide +kernel), by decide +kernel⟩
set_option maxRecDepth 20000 in
theorem wd_481 : Cond.instanceMethod y_T_read ∈ lw_big := List.mem_filter.mpr ⟨List.mem_of_getElem? (i := 481) (by decide +kernel), by decide +kernel⟩
set_option maxRecDepth 20000 in
theorem wd_482 : Cond.selects RX4 y_T_read y_T_read ∈ lw_big := List.mem_filter.mpr ⟨List.mem_of_getElem? (i := 482) (by decide +kernel), by decide +kernel⟩
set_option maxRecDepth 20000 in
theorem wd_483 : k_T_read ∈ lw_big := List.mem_filter.mpr ⟨List.mem_of_getElem? (i := 483) rfl, by decide +kernel⟩
set_option maxRecDepth 20000 in
theorem wd_484 : Cond.constantLong RX4 114 (-1000000000000) ∈ lw_big := List.mem_filter.mpr ⟨List.mem_of_getElem? (i := 484) (by decide +kernel), by decide +kernel⟩
set_option maxRecDepth 20000 in
theorem wd_485 : Cond.constantLong RX4 116 (-2000000000000) ∈ lw_big := List.mem_filter.mpr ⟨List.mem_of_getElem? (i := 485) (by decide +kernel), by decide +kernel⟩
set_option maxRecDepth 20000 in
theorem wd_486 : Cond.methodLink RL 70 y_T_below ∈ lw_big := List.mem_filter.mpr ⟨List.mem_of_getElem? (i := 486) (by decide +kernel), by decide +kernel⟩
set_option maxRecDepth 20000 in
theorem wd_487 : Cond.instanceMethod y_T_below ∈ lw_big := List.mem_filter.mpr ⟨List.mem_of_getElem? (i := 487) (by decide +kernel), by decide +kernel⟩
set_option maxRecDepth 20000 in
theorem wd_488 : Cond.selects RX4 y_T_below y_T_below ∈ lw_big := List.mem_filter.mpr ⟨List.mem_of_getElem? (i := 488) (by decide +kernel), by decide +kernel⟩
set_option maxRecDepth 20000 in
theorem wd_489 : k_T_below ∈ lw_big := List.mem_filter.mpr ⟨List.mem_of_getElem? (i := 489) rfl, by decide +kernel⟩
set_option maxRecDepth 20000 in
theorem wd_490 : Cond.methodLink RL 74 y_T_thin ∈ lw_big := List.mem_filter.mpr ⟨List.mem_of_getElem? (i := 490) (by decide +kernel), by decide +kernel⟩
set_option maxRecDepth 20000 in
theorem wd_491 : Cond.instanceMethod y_T_thin ∈ lw_big := List.mem_filter.mpr ⟨List.mem_of_getElem? (i := 491) (by decide +kernel), by decide +kernel⟩
set_option maxRecDepth 20000 in
theorem wd_492 : Cond.selects RX4 y_T_thin y_T_thin ∈ lw_big := List.mem_filter.mpr ⟨List.mem_of_getElem? (i := 492) (by decide +kernel), by decide +kernel⟩
set_option maxRecDepth 20000 in
theorem wd_493 : k_T_thin ∈ lw_big := List.mem_filter.mpr ⟨List.mem_of_getElem? (i := 493) rfl, by decide +kernel⟩
set_option maxRecDepth 20000 in
theorem wd_494 : Cond.methodLink RX4 118 y_T_sync ∈ lw_big := List.mem_filter.mpr ⟨List.mem_of_getElem? (i := 494) (by decide +kernel), by decide +kernel⟩
set_option maxRecDepth 20000 in
theorem wd_495 : Cond.instanceMethod y_T_sync ∈ lw_big := List.mem_filter.mpr ⟨List.mem_of_getElem? (i := 495) (by decide +kernel), by decide +kernel⟩
set_option maxRecDepth 20000 in
theorem wd_496 : Cond.selects RX4 y_T_sync y_T_sync ∈ lw_big := List.mem_filter.mpr ⟨List.mem_of_getElem? (i := 496) (by decide +kernel), by decide +kernel⟩
set_option maxRecDepth 20000 in
theorem wd_497 : k_T_sync ∈ lw_big := List.mem_filter.mpr ⟨List.mem_of_getElem? (i := 497) rfl, by decide +kernel⟩
set_option maxRecDepth 20000 in
theorem wd_498 : Cond.methodLink RL 79 y_T_sync ∈ lw_big := List.mem_filter.mpr ⟨List.mem_of_getElem? (i := 498) (by decide +kernel), by decide +kernel⟩
set_option maxRecDepth 20000 in
theorem wd_499 : Cond.methodLink RL 83 y_T_crash ∈ lw_big := List.mem_filter.mpr ⟨List.mem_of_getElem? (i := 499) (by decide +kernel), by decide +kernel⟩
set_option maxRecDepth 20000 in
theorem wd_500 : Cond.instanceMethod y_T_crash ∈ lw_big := List.mem_filter.mpr ⟨List.mem_of_getElem? (i := 500) (by decide +kernel), by decide +kernel⟩
set_option maxRecDepth 20000 in
theorem wd_501 : Cond.selects RX4 y_T_crash y_T_crash ∈ lw_big := List.mem_filter.mpr ⟨List.mem_of_getElem? (i := 501) (by decide +kernel), by decide +kernel⟩
set_option maxRecDepth 20000 in
theorem wd_502 : k_T_crash ∈ lw_big := List.mem_filter.mpr ⟨List.mem_of_getElem? (i := 502) rfl, by decide +kernel⟩
set_option maxRecDepth 20000 in
theorem wd_503 : Cond.methodLink RL 87 y_T_node ∈ lw_big := List.mem_filter.mpr ⟨List.mem_of_getElem? (i := 503) (by decide +kernel), by decide +kernel⟩
set_option maxRecDepth 20000 in
theorem wd_504 : Cond.instanceMethod y_T_node ∈ lw_big := List.mem_filter.mpr ⟨List.mem_of_getElem? (i := 504) (by decide +kernel), by decide +kernel⟩
set_option maxRecDepth 20000 in
theorem wd_505 : Cond.selects RX4 y_T_node y_T_node ∈ lw_big := List.mem_filter.mpr ⟨List.mem_of_getElem? (i := 505) (by decide +kernel), by decide +kernel⟩
set_option maxRecDepth 20000 in
theorem wd_506 : k_T_node ∈ lw_big := List.mem_filter.mpr ⟨List.mem_of_getElem? (i := 506) rfl, by decide +kernel⟩
set_option maxRecDepth 20000 in
theorem wd_507 : Cond.methodLink RL 91 y_T_versionTime ∈ lw_big := List.mem_filter.mpr ⟨List.mem_of_getElem? (i := 507) (by decide +kernel), by decide +kernel⟩
set_option maxRecDepth 20000 in
theorem wd_508 : Cond.instanceMethod y_T_versionTime ∈ lw_big := List.mem_filter.mpr ⟨List.mem_of_getElem? (i := 508) (by decide +kernel), by decide +kernel⟩
set_option maxRecDepth 20000 in
theorem wd_509 : Cond.selects RX4 y_T_versionTime y_T_versionTime ∈ lw_big := List.mem_filter.mpr ⟨List.mem_of_getElem? (i := 509) (by decide +kernel), by decide +kernel⟩
set_option maxRecDepth 20000 in
theorem wd_510 : k_T_versionTime ∈ lw_big := List.mem_filter.mpr ⟨List.mem_of_getElem? (i := 510) rfl, by decide +kernel⟩
set_option maxRecDepth 20000 in
theorem wd_511 : Cond.methodLink RL 95 y_T_count ∈ lw_big := List.mem_filter.mpr ⟨List.mem_of_getElem? (i := 511) (by decide +kernel), by decide +kernel⟩
set_option maxRecDepth 20000 in
theorem wd_512 : Cond.instanceMethod y_T_count ∈ lw_big := List.mem_filter.mpr ⟨List.mem_of_getElem? (i := 512) (by decide +kernel), by decide +kernel⟩
set_option maxRecDepth 20000 in
theorem wd_513 : Cond.selects RX4 y_T_count y_T_count ∈ lw_big := List.mem_filter.mpr ⟨List.mem_of_getElem? (i := 513) (by decide +kernel), by decide +kernel⟩
set_option maxRecDepth 20000 in
theorem wd_514 : k_T_count ∈ lw_big := List.mem_filter.mpr ⟨List.mem_of_getElem? (i := 514) rfl, by decide +kernel⟩
theorem gd_all : GoodIn lw_big lw_big := fun w h => ⟨h, good_of_word (List.mem_filter.mp h).2⟩
end
section
/-- memory as a map from addresses to what lies there -/
abbrev mM : Type := Nat → Option va_E
def mS (M : mM) (a : Nat) (e : va_E) : mM := fun b => if b = a then some e else M b
theorem mS_self (M : mM) (a : Nat) (e : va_E) : mS M a e a = some e := by simp [mS]
theorem mS_ne (M : mM) {a b : Nat} (e : va_E) (h : b ≠ a) : mS M a e b = M b := by simp [mS, h]
theorem mS_mS (M : mM) (a : Nat) (e e' : va_E) : mS (mS M a e) a e' = mS M a e' := by
  funext b
  by_cases h : b = a <;> simp [mS, h]
def mR (M : mM) (ws : va_W) : Prop := ∀ (a : Nat) (e : va_E), M a = some e ↔ ∃ k : Nat, ws[k]? = some (a, e)
theorem mR_set {A : Nat → Prop} {M : mM} {ws : va_W} {k a : Nat} {e0 e : va_E} (hR : mR M ws) (hD : va_D A ws) (hk : ws[k]? = some (a, e0)) : mR (mS M a e) (ws.set k (a, e)) := by
  have hkl : k < ws.length := (List.getElem?_eq_some_iff.mp hk).1
  intro b f
  by_cases hb : b = a
  · subst hb
    rw [mS_self]
    constructor
    · intro h
      cases h
      exact ⟨k, by rw [List.getElem?_set_self hkl]⟩
    · rintro ⟨j, hj⟩
      by_cases hjk : k = j
      · subst hjk
        rw [List.getElem?_set_self hkl] at hj
        cases hj
        rfl
      · rw [List.getElem?_set_ne hjk] at hj
        exact absurd (hD.1 k j _ _ hk hj rfl) hjk
  · rw [mS_ne _ _ hb, hR b f]
    constructor
    · rintro ⟨j, hj⟩
      refine ⟨j, ?_⟩
      have hjk : k ≠ j := by
        intro h
        subst h
        rw [hk] at hj
        cases hj
        exact hb rfl
      rw [List.getElem?_set_ne hjk]
      exact hj
    · rintro ⟨j, hj⟩
      refine ⟨j, ?_⟩
      by_cases hjk : k = j
      · subst hjk
        rw [List.getElem?_set_self hkl] at hj
        cases hj
        exact absurd rfl hb
      · rw [List.getElem?_set_ne hjk] at hj
        exact hj
theorem mR_fresh {A : Nat → Prop} {M : mM} {ws : va_W} {q : Nat} {e : va_E} (hR : mR M ws) (hD : va_D A (ws ++ [(q, e)])) : M q = none := by
  cases h : M q with
  | none => rfl
  | some f =>
    obtain ⟨j, hj⟩ := (hR q f).mp h
    have hjl : j < ws.length := (List.getElem?_eq_some_iff.mp hj).1
    have h1 : (ws ++ [(q, e)])[j]? = some (q, f) := by rw [List.getElem?_append_left hjl]; exact hj
    have h2 : (ws ++ [(q, e)])[ws.length]? = some (q, e) := by simp
    exact absurd (hD.1 j ws.length _ _ h1 h2 rfl) (by omega)
theorem mR_push {A : Nat → Prop} {M : mM} {ws : va_W} {q : Nat} {e : va_E} (hR : mR M ws) (hD : va_D A (ws ++ [(q, e)])) : mR (mS M q e) (ws ++ [(q, e)]) := by
  have hq := mR_fresh hR hD
  intro b f
  by_cases hb : b = q
  · subst hb
    rw [mS_self]
    constructor
    · intro h
      cases h
      exact ⟨ws.length, by simp⟩
    · rintro ⟨j, hj⟩
      by_cases hjl : j < ws.length
      · rw [List.getElem?_append_left hjl] at hj
        have h2 := (hR b f).mpr ⟨j, hj⟩
        rw [hq] at h2
        cases h2
      · rw [List.getElem?_append_right (by omega)] at hj
        have hz : j - ws.length < 1 := (List.getElem?_eq_some_iff.mp hj).1
        rw [show j - ws.length = 0 by omega] at hj
        cases hj
        rfl
  · rw [mS_ne _ _ hb, hR b f]
    constructor
    · rintro ⟨j, hj⟩
      exact ⟨j, by rw [List.getElem?_append_left (List.getElem?_eq_some_iff.mp hj).1]; exact hj⟩
    · rintro ⟨j, hj⟩
      by_cases hjl : j < ws.length
      · rw [List.getElem?_append_left hjl] at hj
        exact ⟨j, hj⟩
      · rw [List.getElem?_append_right (by omega)] at hj
        have hz : j - ws.length < 1 := (List.getElem?_eq_some_iff.mp hj).1
        rw [show j - ws.length = 0 by omega] at hj
        cases hj
        exact absurd rfl hb
/-- the locals by their places; values of one slot alone -/
def lL (ls : Array Slot) (L : List (Option Value)) : Prop := ls.size = L.length ∧ lv_wf ls ∧ ∀ (i : Nat) (v : Value), L[i]? = some (some v) → ls[i]? = some (.val v) ∧ v.category = 1
def lA (L : List (Option Value)) : List (Nat × Value) := (List.range L.length).filterMap (fun i => (L[i]?).join.map (fun v => (i, v)))
theorem lA_mem {L : List (Option Value)} {q : Nat × Value} : q ∈ lA L ↔ L[q.1]? = some (some q.2) := by
  obtain ⟨i, v⟩ := q
  unfold lA
  rw [List.mem_filterMap]
  constructor
  · rintro ⟨j, hj, h⟩
    cases hL : L[j]? with
    | none => rw [hL] at h; simp at h
    | some w =>
      cases w with
      | none => rw [hL] at h; simp at h
      | some u =>
        rw [hL] at h
        simp at h
        obtain ⟨rfl, rfl⟩ := h
        exact hL
  · intro h
    have h : L[i]? = some (some v) := h
    refine ⟨i, List.mem_range.mpr (List.getElem?_eq_some_iff.mp h).1, ?_⟩
    rw [h]
    rfl
theorem lL_has {ls : Array Slot} {L : List (Option Value)} (h : lL ls L) : lv_has ls L.length (lA L) := ⟨h.1, h.2.1, fun q hq => (h.2.2 _ _ (lA_mem.mp hq)).1⟩
theorem lL_store {ls ls' : Array Slot} {L : List (Option Value)} {i : Nat} {x : Value} (h0 : lL ls L) (hi : i < L.length) (hx : x.category = 1) (h : lv_has ls' L.length ((i, x) :: (lA L).filter (fun q => !(q.1 == i) && !(q.1 + 1 == i && q.2.category == 2)))) : lL ls' (L.set i (some x)) := by
  refine ⟨by rw [h.1, List.length_set], h.2.1, fun j v hj => ?_⟩
  by_cases hji : i = j
  · subst hji
    rw [List.getElem?_set_self hi] at hj
    cases hj
    exact ⟨h.2.2 (i, x) List.mem_cons_self, hx⟩
  · rw [List.getElem?_set_ne hji] at hj
    have hc := (h0.2.2 j v hj).2
    refine ⟨h.2.2 (j, v) (List.mem_cons_of_mem _ (List.mem_filter.mpr ⟨lA_mem.mpr hj, ?_⟩)), hc⟩
    simp [Ne.symm hji, hc]
def mRf (v : Value) : Prop := v = .null ∨ ∃ a, v = .ref a
theorem mRf_rf (r : Option Nat) : mRf (va_rf r) := va_rf_or r
theorem mRf_n : mRf .null := Or.inl rfl
theorem mRf_r (a : Nat) : mRf (.ref a) := Or.inr ⟨a, rfl⟩
theorem mRf_cat {v : Value} (h : mRf v) : v.category = 1 := by
  rcases h with rfl | ⟨a, rfl⟩ <;> rfl
end
section
/-- the classes, and what the tables say that no word may carry along -/
def mN (U : State) : Prop := va_AO RX0 U ∧ va_Nw (.methodLinkNest RX3 51 y_N_init RX3) U ∧ va_Nw (.castable "[I" "java/lang/Cloneable") U
def mK (D : va_G) (tys : List (ClassId × FieldType)) (U : State) : Prop := va_K D vwCl tys U ∧ mN U
theorem mK.warm {D : va_G} {tys : List (ClassId × FieldType)} {s U : State} (hW : s.WarmedH U.vm) (h : mK D tys s) : mK D tys U := ⟨va_K.moved hW.alike h.1, va_AO.moved hW.alike h.2.1, va_Nw.warmM hW h.2.2.1, va_Nw.warmC hW h.2.2.2⟩
theorem mK.same {D : va_G} {tys : List (ClassId × FieldType)} {s U : State} (hW : s.vm = U.vm) (h : mK D tys s) : mK D tys U := ⟨va_K.moved (by rw [hW]; exact Vm.Alike.refl _) h.1, va_AO.moved (by rw [hW]; exact Vm.Alike.refl _) h.2.1, va_Nw.same rfl hW h.2.2.1, va_Nw.same rfl hW h.2.2.2⟩
abbrev zT : Type := Program × Launch × Env × Room × State × MethodId × Array Value × List Frame × Method × Code × (State → Prop) × (Nat → Prop) × va_G × List (ClassId × FieldType)
/-- the walk's goal: from pc, locals L, operands st, memory M, with k cells of n slots made so far, the machine comes to its end -/
def RN : zT → Nat → List (Option Value) → List Value → mM → Nat → Nat → Prop
  | (p, l, e, R, s, m, args, below, meth, c, Q, A, D, _), pc, L, st, M, k, n =>
    ∀ (H : Heap) (locs : List Loc) (ls : Array Slot) (ws : va_W), mR M ws → va_P D vwCl ws H → va_D A ws → va_S A s.heap H locs → lL ls L → W p l e R s m args below meth c H locs k n Q (F0 m pc ls st)
/-- what a method's walk stands on -/
def BX : zT → ByteArray → Nat → String → String → Nat → Nat → Prop
  | (p, _, _, R, s, m, args, _, meth, c, _, A, D, tys), cc, nL, own, nm, F, Lo =>
    p.tables.exec = Jvm.exec ∧ c.code = cc ∧ c.maxLocals = nL ∧ s.vm.findClass own = some m.cls ∧ meth.name = nm ∧ (∀ w ∈ lw_big, w.before args s = true) ∧ mK D tys s ∧ (∀ q, s.heap.size ≤ q → A q) ∧ R.frames = F ∧ R.locals = Lo
theorem R_iconst {z : zT} {cc : ByteArray} {nL : Nat} {own nm : String} {F Lo : Nat} (X : BX z cc nL own nm F Lo) {pc : Nat} {L : List (Option Value)} {st : List Value} {M : mM} {k n : Nat} {i : Int} {v : Int32} (hd : decode cc pc = .ok (.iconst i, 1)) (hv : Int32.ofInt i = v) (h : RN z (pc + 1) L (.int v :: st) M k n) : RN z pc L (st) M k n := by
  obtain ⟨p, l, e, R, s, m, args, below, meth, c, Q, A, D, tys⟩ := z
  intro H locs ls ws hR hP hD hS hL
  exact lv_iconst X.1 X.2.1 hd hv (h H locs ls ws hR hP hD hS hL)
theorem R_bipush {z : zT} {cc : ByteArray} {nL : Nat} {own nm : String} {F Lo : Nat} (X : BX z cc nL own nm F Lo) {pc : Nat} {L : List (Option Value)} {st : List Value} {M : mM} {k n : Nat} {i : Int} {v : Int32} (hd : decode cc pc = .ok (.bipush i, 2)) (hv : (Int8.ofInt i).toInt32 = v) (h : RN z (pc + 2) L (.int v :: st) M k n) : RN z pc L (st) M k n := by
  obtain ⟨p, l, e, R, s, m, args, below, meth, c, Q, A, D, tys⟩ := z
  intro H locs ls ws hR hP hD hS hL
  exact lv_bipush X.1 X.2.1 hd hv (h H locs ls ws hR hP hD hS hL)
theorem R_sipush {z : zT} {cc : ByteArray} {nL : Nat} {own nm : String} {F Lo : Nat} (X : BX z cc nL own nm F Lo) {pc : Nat} {L : List (Option Value)} {st : List Value} {M : mM} {k n : Nat} {i : Int} {v : Int32} (hd : decode cc pc = .ok (.sipush i, 3)) (hv : (Int16.ofInt i).toInt32 = v) (h : RN z (pc + 3) L (.int v :: st) M k n) : RN z pc L (st) M k n := by
  obtain ⟨p, l, e, R, s, m, args, below, meth, c, Q, A, D, tys⟩ := z
  intro H locs ls ws hR hP hD hS hL
  exact lv_sipush X.1 X.2.1 hd hv (h H locs ls ws hR hP hD hS hL)
theorem R_lconst {z : zT} {cc : ByteArray} {nL : Nat} {own nm : String} {F Lo : Nat} (X : BX z cc nL own nm F Lo) {pc : Nat} {L : List (Option Value)} {st : List Value} {M : mM} {k n : Nat} {i : Fin 2} {v : Int64} (hd : decode cc pc = .ok (.lconst i, 1)) (hv : Int64.ofNat (i : Nat) = v) (h : RN z (pc + 1) L (.long v :: st) M k n) : RN z pc L (st) M k n := by
  obtain ⟨p, l, e, R, s, m, args, below, meth, c, Q, A, D, tys⟩ := z
  intro H locs ls ws hR hP hD hS hL
  exact lv_lconst X.1 X.2.1 hd hv (h H locs ls ws hR hP hD hS hL)
theorem R_null {z : zT} {cc : ByteArray} {nL : Nat} {own nm : String} {F Lo : Nat} (X : BX z cc nL own nm F Lo) {pc : Nat} {L : List (Option Value)} {st : List Value} {M : mM} {k n : Nat}  (hd : decode cc pc = .ok (.aconst_null, 1))  (h : RN z (pc + 1) L (.null :: st) M k n) : RN z pc L (st) M k n := by
  obtain ⟨p, l, e, R, s, m, args, below, meth, c, Q, A, D, tys⟩ := z
  intro H locs ls ws hR hP hD hS hL
  exact lv_null X.1 X.2.1 hd (h H locs ls ws hR hP hD hS hL)
theorem R_ldc {z : zT} {cc : ByteArray} {nL : Nat} {own nm : String} {F Lo : Nat} (X : BX z cc nL own nm F Lo) {pc : Nat} {L : List (Option Value)} {st : List Value} {M : mM} {k n : Nat} {i : Nat} {v : Int32} (hd : decode cc pc = .ok (.ldc i, 2)) (hw : Jvm.Cond.constant own i v ∈ lw_big) (h : RN z (pc + 2) L (.int v :: st) M k n) : RN z pc L (st) M k n := by
  obtain ⟨p, l, e, R, s, m, args, below, meth, c, Q, A, D, tys⟩ := z
  intro H locs ls ws hR hP hD hS hL
  exact lv_ldc X.1 X.2.1 X.2.2.2.1 (X.2.2.2.2.2.1 _ hw) hd (h H locs ls ws hR hP hD hS hL)
theorem R_ldc2 {z : zT} {cc : ByteArray} {nL : Nat} {own nm : String} {F Lo : Nat} (X : BX z cc nL own nm F Lo) {pc : Nat} {L : List (Option Value)} {st : List Value} {M : mM} {k n : Nat} {i : Nat} {v : Int64} (hd : decode cc pc = .ok (.ldc2_w i, 3)) (hw : Jvm.Cond.constantLong own i v ∈ lw_big) (h : RN z (pc + 3) L (.long v :: st) M k n) : RN z pc L (st) M k n := by
  obtain ⟨p, l, e, R, s, m, args, below, meth, c, Q, A, D, tys⟩ := z
  intro H locs ls ws hR hP hD hS hL
  exact lv_ldc2 X.1 X.2.1 X.2.2.2.1 (X.2.2.2.2.2.1 _ hw) hd (h H locs ls ws hR hP hD hS hL)
theorem R_iload_n {z : zT} {cc : ByteArray} {nL : Nat} {own nm : String} {F Lo : Nat} (X : BX z cc nL own nm F Lo) {pc : Nat} {L : List (Option Value)} {st : List Value} {M : mM} {k n : Nat} {j : Fin 4} {i : Nat} {x : Int32} (hd : decode cc pc = .ok (.iload_n j, 1)) (hj : (j : Nat) = i) (hl : L[i]? = some (some (.int x))) (h : RN z (pc + 1) L (.int x :: st) M k n) : RN z pc L (st) M k n := by
  obtain ⟨p, l, e, R, s, m, args, below, meth, c, Q, A, D, tys⟩ := z
  intro H locs ls ws hR hP hD hS hL
  exact lv_iload_n X.1 X.2.1 hd hj (hL.2.2 _ _ hl).1 (h H locs ls ws hR hP hD hS hL)
theorem R_iload {z : zT} {cc : ByteArray} {nL : Nat} {own nm : String} {F Lo : Nat} (X : BX z cc nL own nm F Lo) {pc : Nat} {L : List (Option Value)} {st : List Value} {M : mM} {k n : Nat} {i : Nat} {x : Int32} (hd : decode cc pc = .ok (.iload i, 2)) (hl : L[i]? = some (some (.int x))) (h : RN z (pc + 2) L (.int x :: st) M k n) : RN z pc L (st) M k n := by
  obtain ⟨p, l, e, R, s, m, args, below, meth, c, Q, A, D, tys⟩ := z
  intro H locs ls ws hR hP hD hS hL
  exact lv_iload X.1 X.2.1 hd (hL.2.2 _ _ hl).1 (h H locs ls ws hR hP hD hS hL)
theorem R_aload_n {z : zT} {cc : ByteArray} {nL : Nat} {own nm : String} {F Lo : Nat} (X : BX z cc nL own nm F Lo) {pc : Nat} {L : List (Option Value)} {st : List Value} {M : mM} {k n : Nat} {j : Fin 4} {i : Nat} {v : Value} (hd : decode cc pc = .ok (.aload_n j, 1)) (hj : (j : Nat) = i) (hl : L[i]? = some (some v)) (hv : mRf v) (h : RN z (pc + 1) L (v :: st) M k n) : RN z pc L (st) M k n := by
  obtain ⟨p, l, e, R, s, m, args, below, meth, c, Q, A, D, tys⟩ := z
  intro H locs ls ws hR hP hD hS hL
  rcases hv with rfl | ⟨a, rfl⟩
  · exact lv_aload_nN X.1 X.2.1 hd hj (hL.2.2 _ _ hl).1 (h H locs ls ws hR hP hD hS hL)
  · exact lv_aload_n X.1 X.2.1 hd hj (hL.2.2 _ _ hl).1 (h H locs ls ws hR hP hD hS hL)
theorem R_aload {z : zT} {cc : ByteArray} {nL : Nat} {own nm : String} {F Lo : Nat} (X : BX z cc nL own nm F Lo) {pc : Nat} {L : List (Option Value)} {st : List Value} {M : mM} {k n : Nat} {i : Nat} {v : Value} (hd : decode cc pc = .ok (.aload i, 2)) (hl : L[i]? = some (some v)) (hv : mRf v) (h : RN z (pc + 2) L (v :: st) M k n) : RN z pc L (st) M k n := by
  obtain ⟨p, l, e, R, s, m, args, below, meth, c, Q, A, D, tys⟩ := z
  intro H locs ls ws hR hP hD hS hL
  rcases hv with rfl | ⟨a, rfl⟩
  · exact lv_aloadN X.1 X.2.1 hd (hL.2.2 _ _ hl).1 (h H locs ls ws hR hP hD hS hL)
  · exact lv_aload X.1 X.2.1 hd (hL.2.2 _ _ hl).1 (h H locs ls ws hR hP hD hS hL)
theorem R_istore_n {z : zT} {cc : ByteArray} {nL : Nat} {own nm : String} {F Lo : Nat} (X : BX z cc nL own nm F Lo) {pc : Nat} {L : List (Option Value)} {st : List Value} {M : mM} {k n : Nat} {j : Fin 4} {i : Nat} {x : Int32} (hd : decode cc pc = .ok (.istore_n j, 1)) (hj : (j : Nat) = i) (hi : i < L.length) (h : RN z (pc + 1) (L.set i (some (.int x))) st M k n) : RN z pc L (.int x :: st) M k n := by
  obtain ⟨p, l, e, R, s, m, args, below, meth, c, Q, A, D, tys⟩ := z
  intro H locs ls ws hR hP hD hS hL
  exact lv_istore_n X.1 X.2.1 hd hj (lL_has hL) hi rfl (fun ls' hl' => h H locs ls' ws hR hP hD hS (lL_store hL hi rfl hl'))
theorem R_istore {z : zT} {cc : ByteArray} {nL : Nat} {own nm : String} {F Lo : Nat} (X : BX z cc nL own nm F Lo) {pc : Nat} {L : List (Option Value)} {st : List Value} {M : mM} {k n : Nat} {i : Nat} {x : Int32} (hd : decode cc pc = .ok (.istore i, 2))  (hi : i < L.length) (h : RN z (pc + 2) (L.set i (some (.int x))) st M k n) : RN z pc L (.int x :: st) M k n := by
  obtain ⟨p, l, e, R, s, m, args, below, meth, c, Q, A, D, tys⟩ := z
  intro H locs ls ws hR hP hD hS hL
  exact lv_istore X.1 X.2.1 hd (lL_has hL) hi rfl (fun ls' hl' => h H locs ls' ws hR hP hD hS (lL_store hL hi rfl hl'))
theorem R_astore_n {z : zT} {cc : ByteArray} {nL : Nat} {own nm : String} {F Lo : Nat} (X : BX z cc nL own nm F Lo) {pc : Nat} {L : List (Option Value)} {st : List Value} {M : mM} {k n : Nat} {j : Fin 4} {i : Nat} {v : Value} (hd : decode cc pc = .ok (.astore_n j, 1)) (hj : (j : Nat) = i) (hv : mRf v) (hi : i < L.length) (h : RN z (pc + 1) (L.set i (some (v))) st M k n) : RN z pc L (v :: st) M k n := by
  obtain ⟨p, l, e, R, s, m, args, below, meth, c, Q, A, D, tys⟩ := z
  intro H locs ls ws hR hP hD hS hL
  rcases hv with rfl | ⟨a, rfl⟩
  · exact lv_astore_nN X.1 X.2.1 hd hj (lL_has hL) hi rfl (fun ls' hl' => h H locs ls' ws hR hP hD hS (lL_store hL hi rfl hl'))
  · exact lv_astore_n X.1 X.2.1 hd hj (lL_has hL) hi rfl (fun ls' hl' => h H locs ls' ws hR hP hD hS (lL_store hL hi rfl hl'))
theorem R_astore {z : zT} {cc : ByteArray} {nL : Nat} {own nm : String} {F Lo : Nat} (X : BX z cc nL own nm F Lo) {pc : Nat} {L : List (Option Value)} {st : List Value} {M : mM} {k n : Nat} {i : Nat} {v : Value} (hd : decode cc pc = .ok (.astore i, 2)) (hv : mRf v) (hi : i < L.length) (h : RN z (pc + 2) (L.set i (some (v))) st M k n) : RN z pc L (v :: st) M k n := by
  obtain ⟨p, l, e, R, s, m, args, below, meth, c, Q, A, D, tys⟩ := z
  intro H locs ls ws hR hP hD hS hL
  rcases hv with rfl | ⟨a, rfl⟩
  · exact lv_astoreN X.1 X.2.1 hd (lL_has hL) hi rfl (fun ls' hl' => h H locs ls' ws hR hP hD hS (lL_store hL hi rfl hl'))
  · exact lv_astore X.1 X.2.1 hd (lL_has hL) hi rfl (fun ls' hl' => h H locs ls' ws hR hP hD hS (lL_store hL hi rfl hl'))
theorem R_iinc {z : zT} {cc : ByteArray} {nL : Nat} {own nm : String} {F Lo : Nat} (X : BX z cc nL own nm F Lo) {pc : Nat} {L : List (Option Value)} {st : List Value} {M : mM} {k n : Nat} {i : Nat} {d : Int} {x v : Int32} (hd : decode cc pc = .ok (.iinc i d, 3)) (hl : L[i]? = some (some (.int x))) (hv : x + Int32.ofInt d = v) (h : RN z (pc + 3) (L.set i (some (.int v))) st M k n) : RN z pc L st M k n := by
  obtain ⟨p, l, e, R, s, m, args, below, meth, c, Q, A, D, tys⟩ := z
  intro H locs ls ws hR hP hD hS hL
  have hi : i < L.length := (List.getElem?_eq_some_iff.mp hl).1
  obtain ⟨q, hq⟩ := List.getElem?_of_mem (lA_mem (q := (i, Value.int x)) |>.mpr hl)
  exact lv_iinc X.1 X.2.1 hd (lL_has hL) hq hv hi rfl (fun ls' hl' => h H locs ls' ws hR hP hD hS (lL_store hL hi rfl hl'))
theorem R_iadd {z : zT} {cc : ByteArray} {nL : Nat} {own nm : String} {F Lo : Nat} (X : BX z cc nL own nm F Lo) {pc : Nat} {L : List (Option Value)} {st : List Value} {M : mM} {k n : Nat} {x y : Int32} (hd : decode cc pc = .ok (.iadd, 1))  (h : RN z (pc + 1) L (.int (x + y) :: st) M k n) : RN z pc L (.int y :: .int x :: st) M k n := by
  obtain ⟨p, l, e, R, s, m, args, below, meth, c, Q, A, D, tys⟩ := z
  intro H locs ls ws hR hP hD hS hL
  exact lv_iadd X.1 X.2.1 hd (h H locs ls ws hR hP hD hS hL)
theorem R_isub {z : zT} {cc : ByteArray} {nL : Nat} {own nm : String} {F Lo : Nat} (X : BX z cc nL own nm F Lo) {pc : Nat} {L : List (Option Value)} {st : List Value} {M : mM} {k n : Nat} {x y : Int32} (hd : decode cc pc = .ok (.isub, 1))  (h : RN z (pc + 1) L (.int (x - y) :: st) M k n) : RN z pc L (.int y :: .int x :: st) M k n := by
  obtain ⟨p, l, e, R, s, m, args, below, meth, c, Q, A, D, tys⟩ := z
  intro H locs ls ws hR hP hD hS hL
  exact lv_isub X.1 X.2.1 hd (h H locs ls ws hR hP hD hS hL)
theorem R_imul {z : zT} {cc : ByteArray} {nL : Nat} {own nm : String} {F Lo : Nat} (X : BX z cc nL own nm F Lo) {pc : Nat} {L : List (Option Value)} {st : List Value} {M : mM} {k n : Nat} {x y : Int32} (hd : decode cc pc = .ok (.imul, 1))  (h : RN z (pc + 1) L (.int (x * y) :: st) M k n) : RN z pc L (.int y :: .int x :: st) M k n := by
  obtain ⟨p, l, e, R, s, m, args, below, meth, c, Q, A, D, tys⟩ := z
  intro H locs ls ws hR hP hD hS hL
  exact lv_imul X.1 X.2.1 hd (h H locs ls ws hR hP hD hS hL)
theorem R_iand {z : zT} {cc : ByteArray} {nL : Nat} {own nm : String} {F Lo : Nat} (X : BX z cc nL own nm F Lo) {pc : Nat} {L : List (Option Value)} {st : List Value} {M : mM} {k n : Nat} {x y : Int32} (hd : decode cc pc = .ok (.iand, 1))  (h : RN z (pc + 1) L (.int (x &&& y) :: st) M k n) : RN z pc L (.int y :: .int x :: st) M k n := by
  obtain ⟨p, l, e, R, s, m, args, below, meth, c, Q, A, D, tys⟩ := z
  intro H locs ls ws hR hP hD hS hL
  exact lv_iand X.1 X.2.1 hd (h H locs ls ws hR hP hD hS hL)
theorem R_ior {z : zT} {cc : ByteArray} {nL : Nat} {own nm : String} {F Lo : Nat} (X : BX z cc nL own nm F Lo) {pc : Nat} {L : List (Option Value)} {st : List Value} {M : mM} {k n : Nat} {x y : Int32} (hd : decode cc pc = .ok (.ior, 1))  (h : RN z (pc + 1) L (.int (x ||| y) :: st) M k n) : RN z pc L (.int y :: .int x :: st) M k n := by
  obtain ⟨p, l, e, R, s, m, args, below, meth, c, Q, A, D, tys⟩ := z
  intro H locs ls ws hR hP hD hS hL
  exact lv_ior X.1 X.2.1 hd (h H locs ls ws hR hP hD hS hL)
theorem R_ixor {z : zT} {cc : ByteArray} {nL : Nat} {own nm : String} {F Lo : Nat} (X : BX z cc nL own nm F Lo) {pc : Nat} {L : List (Option Value)} {st : List Value} {M : mM} {k n : Nat} {x y : Int32} (hd : decode cc pc = .ok (.ixor, 1))  (h : RN z (pc + 1) L (.int (x ^^^ y) :: st) M k n) : RN z pc L (.int y :: .int x :: st) M k n := by
  obtain ⟨p, l, e, R, s, m, args, below, meth, c, Q, A, D, tys⟩ := z
  intro H locs ls ws hR hP hD hS hL
  exact lv_ixor X.1 X.2.1 hd (h H locs ls ws hR hP hD hS hL)
theorem R_idiv {z : zT} {cc : ByteArray} {nL : Nat} {own nm : String} {F Lo : Nat} (X : BX z cc nL own nm F Lo) {pc : Nat} {L : List (Option Value)} {st : List Value} {M : mM} {k n : Nat} {x y : Int32} (hd : decode cc pc = .ok (.idiv, 1)) (hy : ¬ y = 0) (h : RN z (pc + 1) L (.int (x / y) :: st) M k n) : RN z pc L (.int y :: .int x :: st) M k n := by
  obtain ⟨p, l, e, R, s, m, args, below, meth, c, Q, A, D, tys⟩ := z
  intro H locs ls ws hR hP hD hS hL
  exact lv_idiv X.1 X.2.1 hd hy (h H locs ls ws hR hP hD hS hL)
theorem R_irem {z : zT} {cc : ByteArray} {nL : Nat} {own nm : String} {F Lo : Nat} (X : BX z cc nL own nm F Lo) {pc : Nat} {L : List (Option Value)} {st : List Value} {M : mM} {k n : Nat} {x y : Int32} (hd : decode cc pc = .ok (.irem, 1)) (hy : ¬ y = 0) (h : RN z (pc + 1) L (.int (x - x / y * y) :: st) M k n) : RN z pc L (.int y :: .int x :: st) M k n := by
  obtain ⟨p, l, e, R, s, m, args, below, meth, c, Q, A, D, tys⟩ := z
  intro H locs ls ws hR hP hD hS hL
  exact lv_irem X.1 X.2.1 hd hy (h H locs ls ws hR hP hD hS hL)
theorem R_ineg {z : zT} {cc : ByteArray} {nL : Nat} {own nm : String} {F Lo : Nat} (X : BX z cc nL own nm F Lo) {pc : Nat} {L : List (Option Value)} {st : List Value} {M : mM} {k n : Nat} {x : Int32} (hd : decode cc pc = .ok (.ineg, 1))  (h : RN z (pc + 1) L (.int (-x) :: st) M k n) : RN z pc L (.int x :: st) M k n := by
  obtain ⟨p, l, e, R, s, m, args, below, meth, c, Q, A, D, tys⟩ := z
  intro H locs ls ws hR hP hD hS hL
  exact lv_ineg X.1 X.2.1 hd (h H locs ls ws hR hP hD hS hL)
theorem R_i2l {z : zT} {cc : ByteArray} {nL : Nat} {own nm : String} {F Lo : Nat} (X : BX z cc nL own nm F Lo) {pc : Nat} {L : List (Option Value)} {st : List Value} {M : mM} {k n : Nat} {x : Int32} (hd : decode cc pc = .ok (.i2l, 1))  (h : RN z (pc + 1) L (.long x.toInt64 :: st) M k n) : RN z pc L (.int x :: st) M k n := by
  obtain ⟨p, l, e, R, s, m, args, below, meth, c, Q, A, D, tys⟩ := z
  intro H locs ls ws hR hP hD hS hL
  exact lv_i2l X.1 X.2.1 hd rfl (h H locs ls ws hR hP hD hS hL)
theorem R_l2i {z : zT} {cc : ByteArray} {nL : Nat} {own nm : String} {F Lo : Nat} (X : BX z cc nL own nm F Lo) {pc : Nat} {L : List (Option Value)} {st : List Value} {M : mM} {k n : Nat} {x : Int64} (hd : decode cc pc = .ok (.l2i, 1))  (h : RN z (pc + 1) L (.int x.toInt32 :: st) M k n) : RN z pc L (.long x :: st) M k n := by
  obtain ⟨p, l, e, R, s, m, args, below, meth, c, Q, A, D, tys⟩ := z
  intro H locs ls ws hR hP hD hS hL
  exact lv_l2i X.1 X.2.1 hd rfl (h H locs ls ws hR hP hD hS hL)
theorem R_lcmp {z : zT} {cc : ByteArray} {nL : Nat} {own nm : String} {F Lo : Nat} (X : BX z cc nL own nm F Lo) {pc : Nat} {L : List (Option Value)} {st : List Value} {M : mM} {k n : Nat} {x y : Int64} (hd : decode cc pc = .ok (.lcmp, 1))  (h : RN z (pc + 1) L (.int (lg_cmp x y) :: st) M k n) : RN z pc L (.long y :: .long x :: st) M k n := by
  obtain ⟨p, l, e, R, s, m, args, below, meth, c, Q, A, D, tys⟩ := z
  intro H locs ls ws hR hP hD hS hL
  exact W.lcmp X.1 X.2.1 hd (h H locs ls ws hR hP hD hS hL)
theorem R_dup {z : zT} {cc : ByteArray} {nL : Nat} {own nm : String} {F Lo : Nat} (X : BX z cc nL own nm F Lo) {pc : Nat} {L : List (Option Value)} {st : List Value} {M : mM} {k n : Nat} {v : Value} (hd : decode cc pc = .ok (.dup, 1)) (hv : v.category = 1) (h : RN z (pc + 1) L (v :: v :: st) M k n) : RN z pc L (v :: st) M k n := by
  obtain ⟨p, l, e, R, s, m, args, below, meth, c, Q, A, D, tys⟩ := z
  intro H locs ls ws hR hP hD hS hL
  exact lv_dup X.1 X.2.1 hd hv (h H locs ls ws hR hP hD hS hL)
theorem R_pop {z : zT} {cc : ByteArray} {nL : Nat} {own nm : String} {F Lo : Nat} (X : BX z cc nL own nm F Lo) {pc : Nat} {L : List (Option Value)} {st : List Value} {M : mM} {k n : Nat} {v : Value} (hd : decode cc pc = .ok (.pop, 1)) (hv : v.category = 1) (h : RN z (pc + 1) L (st) M k n) : RN z pc L (v :: st) M k n := by
  obtain ⟨p, l, e, R, s, m, args, below, meth, c, Q, A, D, tys⟩ := z
  intro H locs ls ws hR hP hD hS hL
  exact lv_pop X.1 X.2.1 hd hv (h H locs ls ws hR hP hD hS hL)
theorem R_dup_x1 {z : zT} {cc : ByteArray} {nL : Nat} {own nm : String} {F Lo : Nat} (X : BX z cc nL own nm F Lo) {pc : Nat} {L : List (Option Value)} {st : List Value} {M : mM} {k n : Nat} {v w : Value} (hd : decode cc pc = .ok (.dup_x1, 1)) (hv : v.category = 1) (hw : w.category = 1) (h : RN z (pc + 1) L (v :: w :: v :: st) M k n) : RN z pc L (v :: w :: st) M k n := by
  obtain ⟨p, l, e, R, s, m, args, below, meth, c, Q, A, D, tys⟩ := z
  intro H locs ls ws hR hP hD hS hL
  exact lv_dup_x1 X.1 X.2.1 hd hv hw (h H locs ls ws hR hP hD hS hL)
theorem R_dup_x2 {z : zT} {cc : ByteArray} {nL : Nat} {own nm : String} {F Lo : Nat} (X : BX z cc nL own nm F Lo) {pc : Nat} {L : List (Option Value)} {st : List Value} {M : mM} {k n : Nat} {v w u : Value} (hd : decode cc pc = .ok (.dup_x2, 1)) (hv : v.category = 1) (hw : w.category = 1) (hu : u.category = 1) (h : RN z (pc + 1) L (v :: w :: u :: v :: st) M k n) : RN z pc L (v :: w :: u :: st) M k n := by
  obtain ⟨p, l, e, R, s, m, args, below, meth, c, Q, A, D, tys⟩ := z
  intro H locs ls ws hR hP hD hS hL
  exact lv_dup_x2 X.1 X.2.1 hd hv hw hu (h H locs ls ws hR hP hD hS hL)
theorem R_dup2 {z : zT} {cc : ByteArray} {nL : Nat} {own nm : String} {F Lo : Nat} (X : BX z cc nL own nm F Lo) {pc : Nat} {L : List (Option Value)} {st : List Value} {M : mM} {k n : Nat} {v w : Value} (hd : decode cc pc = .ok (.dup2, 1)) (hv : v.category = 1) (hw : w.category = 1) (h : RN z (pc + 1) L (v :: w :: v :: w :: st) M k n) : RN z pc L (v :: w :: st) M k n := by
  obtain ⟨p, l, e, R, s, m, args, below, meth, c, Q, A, D, tys⟩ := z
  intro H locs ls ws hR hP hD hS hL
  exact lv_dup2_11 X.1 X.2.1 hd hv hw (h H locs ls ws hR hP hD hS hL)
theorem R_if_eq {z : zT} {cc : ByteArray} {nL : Nat} {own nm : String} {F Lo : Nat} (X : BX z cc nL own nm F Lo) {pc : Nat} {L : List (Option Value)} {st : List Value} {M : mM} {k n : Nat} {off : Int} {tgt : Nat} {x : Int32} (hd : decode cc pc = .ok (.ifCond .eq off, 3)) (ht : (pc : Int) + off = (tgt : Int)) (h1 : x = 0 → RN z tgt L st M k n) (h2 : ¬ (x = 0) → RN z (pc + 3) L st M k n) : RN z pc L (.int x :: st) M k n := by
  obtain ⟨p, l, e, R, s, m, args, below, meth, c, Q, A, D, tys⟩ := z
  intro H locs ls ws hR hP hD hS hL
  exact lv_if_eq X.1 X.2.1 hd ht (fun q => h1 q H locs ls ws hR hP hD hS hL) (fun q => h2 q H locs ls ws hR hP hD hS hL)
theorem R_if_ne {z : zT} {cc : ByteArray} {nL : Nat} {own nm : String} {F Lo : Nat} (X : BX z cc nL own nm F Lo) {pc : Nat} {L : List (Option Value)} {st : List Value} {M : mM} {k n : Nat} {off : Int} {tgt : Nat} {x : Int32} (hd : decode cc pc = .ok (.ifCond .ne off, 3)) (ht : (pc : Int) + off = (tgt : Int)) (h1 : ¬ x = 0 → RN z tgt L st M k n) (h2 : x = 0 → RN z (pc + 3) L st M k n) : RN z pc L (.int x :: st) M k n := by
  obtain ⟨p, l, e, R, s, m, args, below, meth, c, Q, A, D, tys⟩ := z
  intro H locs ls ws hR hP hD hS hL
  exact lv_if_ne X.1 X.2.1 hd ht (fun q => h1 q H locs ls ws hR hP hD hS hL) (fun q => h2 q H locs ls ws hR hP hD hS hL)
theorem R_if_lt {z : zT} {cc : ByteArray} {nL : Nat} {own nm : String} {F Lo : Nat} (X : BX z cc nL own nm F Lo) {pc : Nat} {L : List (Option Value)} {st : List Value} {M : mM} {k n : Nat} {off : Int} {tgt : Nat} {x : Int32} (hd : decode cc pc = .ok (.ifCond .lt off, 3)) (ht : (pc : Int) + off = (tgt : Int)) (h1 : x < 0 → RN z tgt L st M k n) (h2 : ¬ (x < 0) → RN z (pc + 3) L st M k n) : RN z pc L (.int x :: st) M k n := by
  obtain ⟨p, l, e, R, s, m, args, below, meth, c, Q, A, D, tys⟩ := z
  intro H locs ls ws hR hP hD hS hL
  exact lv_if_lt X.1 X.2.1 hd ht (fun q => h1 q H locs ls ws hR hP hD hS hL) (fun q => h2 q H locs ls ws hR hP hD hS hL)
theorem R_if_ge {z : zT} {cc : ByteArray} {nL : Nat} {own nm : String} {F Lo : Nat} (X : BX z cc nL own nm F Lo) {pc : Nat} {L : List (Option Value)} {st : List Value} {M : mM} {k n : Nat} {off : Int} {tgt : Nat} {x : Int32} (hd : decode cc pc = .ok (.ifCond .ge off, 3)) (ht : (pc : Int) + off = (tgt : Int)) (h1 : 0 ≤ x → RN z tgt L st M k n) (h2 : ¬ (0 ≤ x) → RN z (pc + 3) L st M k n) : RN z pc L (.int x :: st) M k n := by
  obtain ⟨p, l, e, R, s, m, args, below, meth, c, Q, A, D, tys⟩ := z
  intro H locs ls ws hR hP hD hS hL
  exact lv_if_ge X.1 X.2.1 hd ht (fun q => h1 q H locs ls ws hR hP hD hS hL) (fun q => h2 q H locs ls ws hR hP hD hS hL)
theorem R_if_gt {z : zT} {cc : ByteArray} {nL : Nat} {own nm : String} {F Lo : Nat} (X : BX z cc nL own nm F Lo) {pc : Nat} {L : List (Option Value)} {st : List Value} {M : mM} {k n : Nat} {off : Int} {tgt : Nat} {x : Int32} (hd : decode cc pc = .ok (.ifCond .gt off, 3)) (ht : (pc : Int) + off = (tgt : Int)) (h1 : 0 < x → RN z tgt L st M k n) (h2 : ¬ (0 < x) → RN z (pc + 3) L st M k n) : RN z pc L (.int x :: st) M k n := by
  obtain ⟨p, l, e, R, s, m, args, below, meth, c, Q, A, D, tys⟩ := z
  intro H locs ls ws hR hP hD hS hL
  exact lv_if_gt X.1 X.2.1 hd ht (fun q => h1 q H locs ls ws hR hP hD hS hL) (fun q => h2 q H locs ls ws hR hP hD hS hL)
theorem R_if_le {z : zT} {cc : ByteArray} {nL : Nat} {own nm : String} {F Lo : Nat} (X : BX z cc nL own nm F Lo) {pc : Nat} {L : List (Option Value)} {st : List Value} {M : mM} {k n : Nat} {off : Int} {tgt : Nat} {x : Int32} (hd : decode cc pc = .ok (.ifCond .le off, 3)) (ht : (pc : Int) + off = (tgt : Int)) (h1 : x ≤ 0 → RN z tgt L st M k n) (h2 : ¬ (x ≤ 0) → RN z (pc + 3) L st M k n) : RN z pc L (.int x :: st) M k n := by
  obtain ⟨p, l, e, R, s, m, args, below, meth, c, Q, A, D, tys⟩ := z
  intro H locs ls ws hR hP hD hS hL
  exact lv_if_le X.1 X.2.1 hd ht (fun q => h1 q H locs ls ws hR hP hD hS hL) (fun q => h2 q H locs ls ws hR hP hD hS hL)
theorem R_icmp_eq {z : zT} {cc : ByteArray} {nL : Nat} {own nm : String} {F Lo : Nat} (X : BX z cc nL own nm F Lo) {pc : Nat} {L : List (Option Value)} {st : List Value} {M : mM} {k n : Nat} {off : Int} {tgt : Nat} {x y : Int32} (hd : decode cc pc = .ok (.if_icmp .eq off, 3)) (ht : (pc : Int) + off = (tgt : Int)) (h1 : x = y → RN z tgt L st M k n) (h2 : ¬ (x = y) → RN z (pc + 3) L st M k n) : RN z pc L (.int y :: .int x :: st) M k n := by
  obtain ⟨p, l, e, R, s, m, args, below, meth, c, Q, A, D, tys⟩ := z
  intro H locs ls ws hR hP hD hS hL
  exact lv_icmp_eq X.1 X.2.1 hd ht (fun q => h1 q H locs ls ws hR hP hD hS hL) (fun q => h2 q H locs ls ws hR hP hD hS hL)
theorem R_icmp_ne {z : zT} {cc : ByteArray} {nL : Nat} {own nm : String} {F Lo : Nat} (X : BX z cc nL own nm F Lo) {pc : Nat} {L : List (Option Value)} {st : List Value} {M : mM} {k n : Nat} {off : Int} {tgt : Nat} {x y : Int32} (hd : decode cc pc = .ok (.if_icmp .ne off, 3)) (ht : (pc : Int) + off = (tgt : Int)) (h1 : ¬ x = y → RN z tgt L st M k n) (h2 : x = y → RN z (pc + 3) L st M k n) : RN z pc L (.int y :: .int x :: st) M k n := by
  obtain ⟨p, l, e, R, s, m, args, below, meth, c, Q, A, D, tys⟩ := z
  intro H locs ls ws hR hP hD hS hL
  exact lv_icmp_ne X.1 X.2.1 hd ht (fun q => h1 q H locs ls ws hR hP hD hS hL) (fun q => h2 q H locs ls ws hR hP hD hS hL)
theorem R_icmp_lt {z : zT} {cc : ByteArray} {nL : Nat} {own nm : String} {F Lo : Nat} (X : BX z cc nL own nm F Lo) {pc : Nat} {L : List (Option Value)} {st : List Value} {M : mM} {k n : Nat} {off : Int} {tgt : Nat} {x y : Int32} (hd : decode cc pc = .ok (.if_icmp .lt off, 3)) (ht : (pc : Int) + off = (tgt : Int)) (h1 : x < y → RN z tgt L st M k n) (h2 : ¬ (x < y) → RN z (pc + 3) L st M k n) : RN z pc L (.int y :: .int x :: st) M k n := by
  obtain ⟨p, l, e, R, s, m, args, below, meth, c, Q, A, D, tys⟩ := z
  intro H locs ls ws hR hP hD hS hL
  exact lv_icmp_lt X.1 X.2.1 hd ht (fun q => h1 q H locs ls ws hR hP hD hS hL) (fun q => h2 q H locs ls ws hR hP hD hS hL)
theorem R_icmp_ge {z : zT} {cc : ByteArray} {nL : Nat} {own nm : String} {F Lo : Nat} (X : BX z cc nL own nm F Lo) {pc : Nat} {L : List (Option Value)} {st : List Value} {M : mM} {k n : Nat} {off : Int} {tgt : Nat} {x y : Int32} (hd : decode cc pc = .ok (.if_icmp .ge off, 3)) (ht : (pc : Int) + off = (tgt : Int)) (h1 : y ≤ x → RN z tgt L st M k n) (h2 : ¬ (y ≤ x) → RN z (pc + 3) L st M k n) : RN z pc L (.int y :: .int x :: st) M k n := by
  obtain ⟨p, l, e, R, s, m, args, below, meth, c, Q, A, D, tys⟩ := z
  intro H locs ls ws hR hP hD hS hL
  exact lv_icmp_ge X.1 X.2.1 hd ht (fun q => h1 q H locs ls ws hR hP hD hS hL) (fun q => h2 q H locs ls ws hR hP hD hS hL)
theorem R_icmp_gt {z : zT} {cc : ByteArray} {nL : Nat} {own nm : String} {F Lo : Nat} (X : BX z cc nL own nm F Lo) {pc : Nat} {L : List (Option Value)} {st : List Value} {M : mM} {k n : Nat} {off : Int} {tgt : Nat} {x y : Int32} (hd : decode cc pc = .ok (.if_icmp .gt off, 3)) (ht : (pc : Int) + off = (tgt : Int)) (h1 : y < x → RN z tgt L st M k n) (h2 : ¬ (y < x) → RN z (pc + 3) L st M k n) : RN z pc L (.int y :: .int x :: st) M k n := by
  obtain ⟨p, l, e, R, s, m, args, below, meth, c, Q, A, D, tys⟩ := z
  intro H locs ls ws hR hP hD hS hL
  exact lv_icmp_gt X.1 X.2.1 hd ht (fun q => h1 q H locs ls ws hR hP hD hS hL) (fun q => h2 q H locs ls ws hR hP hD hS hL)
theorem R_icmp_le {z : zT} {cc : ByteArray} {nL : Nat} {own nm : String} {F Lo : Nat} (X : BX z cc nL own nm F Lo) {pc : Nat} {L : List (Option Value)} {st : List Value} {M : mM} {k n : Nat} {off : Int} {tgt : Nat} {x y : Int32} (hd : decode cc pc = .ok (.if_icmp .le off, 3)) (ht : (pc : Int) + off = (tgt : Int)) (h1 : x ≤ y → RN z tgt L st M k n) (h2 : ¬ (x ≤ y) → RN z (pc + 3) L st M k n) : RN z pc L (.int y :: .int x :: st) M k n := by
  obtain ⟨p, l, e, R, s, m, args, below, meth, c, Q, A, D, tys⟩ := z
  intro H locs ls ws hR hP hD hS hL
  exact lv_icmp_le X.1 X.2.1 hd ht (fun q => h1 q H locs ls ws hR hP hD hS hL) (fun q => h2 q H locs ls ws hR hP hD hS hL)
theorem R_goto {z : zT} {cc : ByteArray} {nL : Nat} {own nm : String} {F Lo : Nat} (X : BX z cc nL own nm F Lo) {pc : Nat} {L : List (Option Value)} {st : List Value} {M : mM} {k n : Nat} {off : Int} {tgt : Nat} (hd : decode cc pc = .ok (.goto off, 3)) (ht : (pc : Int) + off = (tgt : Int)) (h : RN z tgt L st M k n) : RN z pc L st M k n := by
  obtain ⟨p, l, e, R, s, m, args, below, meth, c, Q, A, D, tys⟩ := z
  intro H locs ls ws hR hP hD hS hL
  exact lv_goto X.1 X.2.1 hd ht (h H locs ls ws hR hP hD hS hL)
theorem R_ifnull {z : zT} {cc : ByteArray} {nL : Nat} {own nm : String} {F Lo : Nat} (X : BX z cc nL own nm F Lo) {pc : Nat} {L : List (Option Value)} {st : List Value} {M : mM} {k n : Nat} {off : Int} {tgt : Nat} {v : Value} (hd : decode cc pc = .ok (.ifnull off, 3)) (ht : (pc : Int) + off = (tgt : Int)) (hv : mRf v) (h1 : v = .null → RN z tgt L st M k n) (h2 : ∀ a, v = .ref a → RN z (pc + 3) L st M k n) : RN z pc L (v :: st) M k n := by
  obtain ⟨p, l, e, R, s, m, args, below, meth, c, Q, A, D, tys⟩ := z
  intro H locs ls ws hR hP hD hS hL
  rcases hv with rfl | ⟨a, rfl⟩
  · exact lv_ifnullN X.1 X.2.1 hd ht (h1 rfl H locs ls ws hR hP hD hS hL)
  · exact lv_ifnull X.1 X.2.1 hd (h2 a rfl H locs ls ws hR hP hD hS hL)
theorem R_ifnonnull {z : zT} {cc : ByteArray} {nL : Nat} {own nm : String} {F Lo : Nat} (X : BX z cc nL own nm F Lo) {pc : Nat} {L : List (Option Value)} {st : List Value} {M : mM} {k n : Nat} {off : Int} {tgt : Nat} {v : Value} (hd : decode cc pc = .ok (.ifnonnull off, 3)) (ht : (pc : Int) + off = (tgt : Int)) (hv : mRf v) (h1 : ∀ a, v = .ref a → RN z tgt L st M k n) (h2 : v = .null → RN z (pc + 3) L st M k n) : RN z pc L (v :: st) M k n := by
  obtain ⟨p, l, e, R, s, m, args, below, meth, c, Q, A, D, tys⟩ := z
  intro H locs ls ws hR hP hD hS hL
  rcases hv with rfl | ⟨a, rfl⟩
  · exact lv_ifnonnullN X.1 X.2.1 hd (h2 rfl H locs ls ws hR hP hD hS hL)
  · exact lv_ifnonnull X.1 X.2.1 hd ht (h1 a rfl H locs ls ws hR hP hD hS hL)
theorem R_tableOut {z : zT} {cc : ByteArray} {nL : Nat} {own nm : String} {F Lo : Nat} (X : BX z cc nL own nm F Lo) {pc : Nat} {L : List (Option Value)} {st : List Value} {M : mM} {k n : Nat} {dflt lo hi : Int} {offs : Array Int} {len tgt : Nat} {x : Int32} (hd : decode cc pc = .ok (.tableswitch dflt lo hi offs, len)) (hx : x.toInt < lo ∨ hi < x.toInt) (ht : (pc : Int) + dflt = (tgt : Int)) (h : RN z tgt L st M k n) : RN z pc L (.int x :: st) M k n := by
  obtain ⟨p, l, e, R, s, m, args, below, meth, c, Q, A, D, tys⟩ := z
  intro H locs ls ws hR hP hD hS hL
  exact lv_tableOut X.1 X.2.1 hd hx ht (h H locs ls ws hR hP hD hS hL)
theorem R_tableIn {z : zT} {cc : ByteArray} {nL : Nat} {own nm : String} {F Lo : Nat} (X : BX z cc nL own nm F Lo) {pc : Nat} {L : List (Option Value)} {st : List Value} {M : mM} {k n : Nat} {dflt lo hi off : Int} {offs : Array Int} {len tgt : Nat} {x : Int32} (hd : decode cc pc = .ok (.tableswitch dflt lo hi offs, len)) (h1 : ¬ x.toInt < lo) (h2 : ¬ hi < x.toInt) (ho : offs[(x.toInt - lo).toNat]? = some off) (ht : (pc : Int) + off = (tgt : Int)) (h : RN z tgt L st M k n) : RN z pc L (.int x :: st) M k n := by
  obtain ⟨p, l, e, R, s, m, args, below, meth, c, Q, A, D, tys⟩ := z
  intro H locs ls ws hR hP hD hS hL
  exact lv_tableIn X.1 X.2.1 hd h1 h2 ho ht (h H locs ls ws hR hP hD hS hL)
theorem R_widen {z : zT} {cc : ByteArray} {nL : Nat} {own nm : String} {F Lo : Nat} (X : BX z cc nL own nm F Lo) {pc : Nat} {L : List (Option Value)} {st : List Value} {M : mM} {k n : Nat} {k1 n1 : Nat} (h1 : k ≤ k1) (h2 : n ≤ n1) (h : RN z pc L st M k1 n1) : RN z pc L st M k n := by
  obtain ⟨p, l, e, R, s, m, args, below, meth, c, Q, A, D, tys⟩ := z
  intro H locs ls ws hR hP hD hS hL
  exact W.widen h1 h2 (h H locs ls ws hR hP hD hS hL)
theorem R_get {z : zT} {cc : ByteArray} {nL : Nat} {own nm : String} {F Lo : Nat} (X : BX z cc nL own nm F Lo) {pc : Nat} {L : List (Option Value)} {st : List Value} {M : mM} {k n : Nat} {C : String} {T : u_T} {N ci index : Nat} {a : Nat} {fs : List Value} {v : Value} (hin : ∀ w ∈ u_ws C T N, w ∈ lw_big) (hc : vwCl[ci]? = some (C, T, N)) (j : Nat) (hj : j < N) (hw : Cond.fieldLink own index (T j).1 (T j).2.1 (T j).2.2.1 ∈ lw_big) (hd : decode cc pc = .ok (.getfield index, 3)) (hM : M a = some (.inr (ci, fs))) (hv : fs[j]? = some v) (h : RN z (pc + 3) L (v :: st) M k n) : RN z pc L (.ref a :: st) M k n := by
  obtain ⟨p, l, e, R, s, m, args, below, meth, c, Q, A, D, tys⟩ := z
  intro H locs ls ws hR hP hD hS hL
  obtain ⟨q, hq⟩ := (hR _ _).mp hM
  exact va_get (D := D) X.1 X.2.1 X.2.2.2.2.2.1 hin X.2.2.2.1 X.2.2.2.2.2.2.1.1 hP q hq hc j hj (X.2.2.2.2.2.1 _ hw) (fun _ h9 => h9) hv hd (h H locs ls ws hR hP hD hS hL)
theorem R_getN {z : zT} {cc : ByteArray} {nL : Nat} {own nm : String} {F Lo : Nat} (X : BX z cc nL own nm F Lo) {pc : Nat} {L : List (Option Value)} {st : List Value} {M : mM} {k n : Nat} {C : String} {T : u_T} {N ci index : Nat} {a : Nat} {fs : List Value} {v : Value} (hin : ∀ w ∈ u_ws C T N, w ∈ lw_big) (hc : vwCl[ci]? = some (C, T, N)) (j : Nat) (hj : j < N) {host : String} (hw : Cond.fieldLinkNest own index (T j).1 (T j).2.1 (T j).2.2.1 host ∈ lw_big) (hd : decode cc pc = .ok (.getfield index, 3)) (hM : M a = some (.inr (ci, fs))) (hv : fs[j]? = some v) (h : RN z (pc + 3) L (v :: st) M k n) : RN z pc L (.ref a :: st) M k n := by
  obtain ⟨p, l, e, R, s, m, args, below, meth, c, Q, A, D, tys⟩ := z
  intro H locs ls ws hR hP hD hS hL
  obtain ⟨q, hq⟩ := (hR _ _).mp hM
  exact va_getN (D := D) X.1 X.2.1 X.2.2.2.2.2.1 hin X.2.2.2.1 X.2.2.2.2.2.2.1.1 hP q hq hc j hj (X.2.2.2.2.2.1 _ hw) (fun _ h9 => h9) hv hd (h H locs ls ws hR hP hD hS hL)
theorem R_put {z : zT} {cc : ByteArray} {nL : Nat} {own nm : String} {F Lo : Nat} (X : BX z cc nL own nm F Lo) {pc : Nat} {L : List (Option Value)} {st : List Value} {M : mM} {k n : Nat} {C : String} {T : u_T} {N ci index : Nat} {a : Nat} {fs : List Value} {v : Value} (hin : ∀ w ∈ u_ws C T N, w ∈ lw_big) (hc : vwCl[ci]? = some (C, T, N)) (j : Nat) (hj : j < N) (ty0 : Nat → FieldType) (hty : ∀ i, i < N → parseFieldDescriptor (T i).2.2.1 = some (ty0 i)) (hnm : ∀ a, a < N → ∀ b, b < N → a ≠ b → (T a).2.1 ≠ (T b).2.1) (hw : Cond.fieldLink own index (T j).1 (T j).2.1 (T j).2.2.1 ∈ lw_big) (hfin : (T j).2.2.2 = false) {ty : FieldType} (ht : parseFieldDescriptor (T j).2.2.1 = some ty) (hn : narrow ty v = v) (hfit : fits ty v = true) (hd : decode cc pc = .ok (.putfield index, 3)) (hM : M a = some (.inr (ci, fs))) (hl : j < fs.length) (h : RN z (pc + 3) L st (mS M a (.inr (ci, fs.set j v))) k n) : RN z pc L (v :: .ref a :: st) M k n := by
  obtain ⟨p, l, e, R, s, m, args, below, meth, c, Q, A, D, tys⟩ := z
  intro H locs ls ws hR hP hD hS hL
  obtain ⟨q, hq⟩ := (hR _ _).mp hM
  exact va_put (D := D) X.1 X.2.1 X.2.2.2.2.2.1 hin ty0 hty hnm X.2.2.2.1 X.2.2.2.2.2.2.1.1 hP hD hS q hq hc j hj (X.2.2.2.2.2.1 _ hw) (fun _ h9 => h9) hfin ht hn hfit hl hd (fun H1 locs1 hP1 hD1 hS1 => h H1 locs1 ls _ (mR_set hR hD hq) hP1 hD1 hS1 hL)
theorem R_putN {z : zT} {cc : ByteArray} {nL : Nat} {own nm : String} {F Lo : Nat} (X : BX z cc nL own nm F Lo) {pc : Nat} {L : List (Option Value)} {st : List Value} {M : mM} {k n : Nat} {C : String} {T : u_T} {N ci index : Nat} {a : Nat} {fs : List Value} {v : Value} (hin : ∀ w ∈ u_ws C T N, w ∈ lw_big) (hc : vwCl[ci]? = some (C, T, N)) (j : Nat) (hj : j < N) (ty0 : Nat → FieldType) (hty : ∀ i, i < N → parseFieldDescriptor (T i).2.2.1 = some (ty0 i)) (hnm : ∀ a, a < N → ∀ b, b < N → a ≠ b → (T a).2.1 ≠ (T b).2.1) {host : String} (hw : Cond.fieldLinkNest own index (T j).1 (T j).2.1 (T j).2.2.1 host ∈ lw_big) (hfin : (T j).2.2.2 = false) {ty : FieldType} (ht : parseFieldDescriptor (T j).2.2.1 = some ty) (hn : narrow ty v = v) (hfit : fits ty v = true) (hd : decode cc pc = .ok (.putfield index, 3)) (hM : M a = some (.inr (ci, fs))) (hl : j < fs.length) (h : RN z (pc + 3) L st (mS M a (.inr (ci, fs.set j v))) k n) : RN z pc L (v :: .ref a :: st) M k n := by
  obtain ⟨p, l, e, R, s, m, args, below, meth, c, Q, A, D, tys⟩ := z
  intro H locs ls ws hR hP hD hS hL
  obtain ⟨q, hq⟩ := (hR _ _).mp hM
  exact va_putN (D := D) X.1 X.2.1 X.2.2.2.2.2.1 hin ty0 hty hnm X.2.2.2.1 X.2.2.2.2.2.2.1.1 hP hD hS q hq hc j hj (X.2.2.2.2.2.1 _ hw) (fun _ h9 => h9) hfin ht hn hfit hl hd (fun H1 locs1 hP1 hD1 hS1 => h H1 locs1 ls _ (mR_set hR hD hq) hP1 hD1 hS1 hL)
theorem R_putF {z : zT} {cc : ByteArray} {nL : Nat} {own nm : String} {F Lo : Nat} (X : BX z cc nL own nm F Lo) {pc : Nat} {L : List (Option Value)} {st : List Value} {M : mM} {k n : Nat} {C : String} {T : u_T} {N ci index : Nat} {a : Nat} {fs : List Value} {v : Value} (hin : ∀ w ∈ u_ws C T N, w ∈ lw_big) (hc : vwCl[ci]? = some (C, T, N)) (j : Nat) (hj : j < N) (ty0 : Nat → FieldType) (hty : ∀ i, i < N → parseFieldDescriptor (T i).2.2.1 = some (ty0 i)) (hnm : ∀ a, a < N → ∀ b, b < N → a ≠ b → (T a).2.1 ≠ (T b).2.1) (hw : Cond.fieldLink own index (T j).1 (T j).2.1 (T j).2.2.1 ∈ lw_big) (hfin : (T j).2.2.2 = true) (hini : nm = "<init>") (hdc : (T j).1 = own) {ty : FieldType} (ht : parseFieldDescriptor (T j).2.2.1 = some ty) (hn : narrow ty v = v) (hfit : fits ty v = true) (hd : decode cc pc = .ok (.putfield index, 3)) (hM : M a = some (.inr (ci, fs))) (hl : j < fs.length) (h : RN z (pc + 3) L st (mS M a (.inr (ci, fs.set j v))) k n) : RN z pc L (v :: .ref a :: st) M k n := by
  obtain ⟨p, l, e, R, s, m, args, below, meth, c, Q, A, D, tys⟩ := z
  intro H locs ls ws hR hP hD hS hL
  obtain ⟨q, hq⟩ := (hR _ _).mp hM
  exact va_putF (D := D) X.1 X.2.1 X.2.2.2.2.2.1 hin ty0 hty hnm X.2.2.2.1 X.2.2.2.2.2.2.1.1 hP hD hS q hq hc j hj (X.2.2.2.2.2.1 _ hw) (fun _ h9 => h9) hfin (X.2.2.2.2.1.trans hini) hdc ht hn hfit hl hd (fun H1 locs1 hP1 hD1 hS1 => h H1 locs1 ls _ (mR_set hR hD hq) hP1 hD1 hS1 hL)
/-- which array classes there are -/
def zty : zT → List (ClassId × FieldType)
  | (_, _, _, _, _, _, _, _, _, _, _, _, _, tys) => tys
theorem R_iald {z : zT} {cc : ByteArray} {nL : Nat} {own nm : String} {F Lo : Nat} (X : BX z cc nL own nm F Lo) {pc : Nat} {L : List (Option Value)} {st : List Value} {M : mM} {k n : Nat} {a : Nat} {cA : ClassId} {w : Nat} {f : Nat → Int32} {i : Int32} (t0 : Nat) (ht : (zty z)[t0]? = some (cA, .int)) (hd : decode cc pc = .ok (.iaload, 1)) (hM : M a = some (.inl (cA, w, .inl f))) (hi : vp_in i w) (h : RN z (pc + 1) L (.int (f i.toNatClampNeg) :: st) M k n) : RN z pc L (.int i :: .ref a :: st) M k n := by
  obtain ⟨p, l, e, R, s, m, args, below, meth, c, Q, A, D, tys⟩ := z
  intro H locs ls ws hR hP hD hS hL
  obtain ⟨q, hq⟩ := (hR _ _).mp hM
  exact va_iald (D := D) X.1 X.2.1 X.2.2.2.2.2.2.1.1 hP q t0 hq ht hi hd (h H locs ls ws hR hP hD hS hL)
theorem R_iast {z : zT} {cc : ByteArray} {nL : Nat} {own nm : String} {F Lo : Nat} (X : BX z cc nL own nm F Lo) {pc : Nat} {L : List (Option Value)} {st : List Value} {M : mM} {k n : Nat} {a : Nat} {cA : ClassId} {w : Nat} {f : Nat → Int32} {i x : Int32} (t0 : Nat) (ht : (zty z)[t0]? = some (cA, .int)) (hd : decode cc pc = .ok (.iastore, 1)) (hM : M a = some (.inl (cA, w, .inl f))) (hi : vp_in i w) (h : RN z (pc + 1) L st (mS M a (.inl (cA, w, .inl (upd f i.toNatClampNeg x)))) k n) : RN z pc L (.int x :: .int i :: .ref a :: st) M k n := by
  obtain ⟨p, l, e, R, s, m, args, below, meth, c, Q, A, D, tys⟩ := z
  intro H locs ls ws hR hP hD hS hL
  obtain ⟨q, hq⟩ := (hR _ _).mp hM
  exact va_iast (D := D) X.1 X.2.1 X.2.2.2.2.2.2.1.1 hP hD hS q t0 hq ht hi hd (fun H1 locs1 hP1 hD1 hS1 => h H1 locs1 ls _ (mR_set hR hD hq) hP1 hD1 hS1 hL)
theorem R_zald {z : zT} {cc : ByteArray} {nL : Nat} {own nm : String} {F Lo : Nat} (X : BX z cc nL own nm F Lo) {pc : Nat} {L : List (Option Value)} {st : List Value} {M : mM} {k n : Nat} {a : Nat} {cA : ClassId} {w : Nat} {f : Nat → Int32} {i : Int32} (t0 : Nat) (ht : (zty z)[t0]? = some (cA, .boolean)) (hd : decode cc pc = .ok (.baload, 1)) (hM : M a = some (.inl (cA, w, .inl f))) (hi : vp_in i w) (h : RN z (pc + 1) L (.int (f i.toNatClampNeg) :: st) M k n) : RN z pc L (.int i :: .ref a :: st) M k n := by
  obtain ⟨p, l, e, R, s, m, args, below, meth, c, Q, A, D, tys⟩ := z
  intro H locs ls ws hR hP hD hS hL
  obtain ⟨q, hq⟩ := (hR _ _).mp hM
  exact va_zald (D := D) X.1 X.2.1 X.2.2.2.2.2.2.1.1 hP q t0 hq ht hi hd (h H locs ls ws hR hP hD hS hL)
theorem R_zast {z : zT} {cc : ByteArray} {nL : Nat} {own nm : String} {F Lo : Nat} (X : BX z cc nL own nm F Lo) {pc : Nat} {L : List (Option Value)} {st : List Value} {M : mM} {k n : Nat} {a : Nat} {cA : ClassId} {w : Nat} {f : Nat → Int32} {i x : Int32} (t0 : Nat) (ht : (zty z)[t0]? = some (cA, .boolean)) (hd : decode cc pc = .ok (.bastore, 1)) (hM : M a = some (.inl (cA, w, .inl f))) (hi : vp_in i w) (hx : vp_nar .boolean x = x) (h : RN z (pc + 1) L st (mS M a (.inl (cA, w, .inl (upd f i.toNatClampNeg x)))) k n) : RN z pc L (.int x :: .int i :: .ref a :: st) M k n := by
  obtain ⟨p, l, e, R, s, m, args, below, meth, c, Q, A, D, tys⟩ := z
  intro H locs ls ws hR hP hD hS hL
  obtain ⟨q, hq⟩ := (hR _ _).mp hM
  refine va_zast (D := D) X.1 X.2.1 X.2.2.2.2.2.2.1.1 hP hD hS q t0 hq ht hi hd (fun H1 locs1 hP1 hD1 hS1 => ?_)
  rw [hx] at hP1 hD1
  exact h H1 locs1 ls _ (mR_set hR hD hq) hP1 hD1 hS1 hL
theorem R_aald {z : zT} {cc : ByteArray} {nL : Nat} {own nm : String} {F Lo : Nat} (X : BX z cc nL own nm F Lo) {pc : Nat} {L : List (Option Value)} {st : List Value} {M : mM} {k n : Nat} {a : Nat} {cA : ClassId} {w : Nat} {f : Nat → Option Nat} {C : String} {i : Int32} (t0 : Nat) (ht : (zty z)[t0]? = some (cA, .object C)) (hd : decode cc pc = .ok (.aaload, 1)) (hM : M a = some (.inl (cA, w, .inr (.inr (.inr (.inr f)))))) (hi : vp_in i w) (h : RN z (pc + 1) L (va_rf (f i.toNatClampNeg) :: st) M k n) : RN z pc L (.int i :: .ref a :: st) M k n := by
  obtain ⟨p, l, e, R, s, m, args, below, meth, c, Q, A, D, tys⟩ := z
  intro H locs ls ws hR hP hD hS hL
  obtain ⟨q, hq⟩ := (hR _ _).mp hM
  exact va_aldq (D := D) X.1 X.2.1 X.2.2.2.2.2.2.1.1 hP q t0 hq ht hi hd (h H locs ls ws hR hP hD hS hL)
theorem R_aast {z : zT} {cc : ByteArray} {nL : Nat} {own nm : String} {F Lo : Nat} (X : BX z cc nL own nm F Lo) {pc : Nat} {L : List (Option Value)} {st : List Value} {M : mM} {k n : Nat} {a : Nat} {cA : ClassId} {w : Nat} {f : Nat → Option Nat} {r : vw_C} {ci v : Nat} {vs : List Value} {i : Int32} (t0 : Nat) (ht : (zty z)[t0]? = some (cA, .object r.1)) (hc : vwCl[ci]? = some r) (hd : decode cc pc = .ok (.aastore, 1)) (hM : M a = some (.inl (cA, w, .inr (.inr (.inr (.inr f)))))) (hv : M v = some (.inr (ci, vs))) (hi : vp_in i w) (h : RN z (pc + 1) L st (mS M a (.inl (cA, w, .inr (.inr (.inr (.inr (va_up f i.toNatClampNeg (some v)))))))) k n) : RN z pc L (.ref v :: .int i :: .ref a :: st) M k n := by
  obtain ⟨p, l, e, R, s, m, args, below, meth, c, Q, A, D, tys⟩ := z
  intro H locs ls ws hR hP hD hS hL
  obtain ⟨q, hq⟩ := (hR _ _).mp hM
  obtain ⟨q2, hq2⟩ := (hR _ _).mp hv
  exact va_astq (D := D) X.1 X.2.1 X.2.2.2.2.2.2.1.1 hP hD hS q t0 q2 ci hq ht hq2 hc hi hd (fun H1 locs1 hP1 hD1 hS1 => h H1 locs1 ls _ (mR_set hR hD hq) hP1 hD1 hS1 hL)
theorem R_alen {z : zT} {cc : ByteArray} {nL : Nat} {own nm : String} {F Lo : Nat} (X : BX z cc nL own nm F Lo) {pc : Nat} {L : List (Option Value)} {st : List Value} {M : mM} {k n : Nat} {a : Nat} {cA : ClassId} {x : vp_A} {ty : FieldType} {v : Int32} (t0 : Nat) (ht : (zty z)[t0]? = some (cA, ty)) (hd : decode cc pc = .ok (.arraylength, 1)) (hM : M a = some (.inl (cA, x))) (hv : Int32.ofNat x.1 = v) (h : RN z (pc + 1) L (.int v :: st) M k n) : RN z pc L (.ref a :: st) M k n := by
  obtain ⟨p, l, e, R, s, m, args, below, meth, c, Q, A, D, tys⟩ := z
  intro H locs ls ws hR hP hD hS hL
  obtain ⟨q, hq⟩ := (hR _ _).mp hM
  exact va_alen (D := D) X.1 X.2.1 X.2.2.2.2.2.2.1.1 hP q t0 hq ht hv hd (h H locs ls ws hR hP hD hS hL)
def zR : zT → Room
  | (_, _, _, R, _) => R
theorem R_new {z : zT} {cc : ByteArray} {nL : Nat} {own nm : String} {F Lo : Nat} (X : BX z cc nL own nm F Lo) {pc : Nat} {L : List (Option Value)} {st : List Value} {M : mM} {k n : Nat} {C : String} {T : u_T} {N ci index : Nat} {fs : List Value} (hin : ∀ w ∈ u_ws C T N, w ∈ lw_big) (hc : vwCl[ci]? = some (C, T, N)) (ty : Nat → FieldType) (hty : ∀ i, i < N → parseFieldDescriptor (T i).2.2.1 = some (ty i)) (hw1 : Cond.classLink own index C ∈ lw_big) (hw2 : Cond.instantiable C N ∈ lw_big) (hw3 : Cond.initialized C ∈ lw_big) (hfs : ∀ j, j < N → defaultValue (ty j) = vp_V fs j) (hd : decode cc pc = .ok (.new index, 3)) (hk : k + 1 ≤ (zR z).cells) (hn : n + N ≤ (zR z).slots) (h : ∀ q, M q = none → RN z (pc + 3) L (.ref q :: st) (mS M q (.inr (ci, fs))) (k + 1) (n + N)) : RN z pc L st M k n := by
  obtain ⟨p, l, e, R, s, m, args, below, meth, c, Q, A, D, tys⟩ := z
  intro H locs ls ws hR hP hD hS hL
  exact va_new (D := D) X.1 X.2.1 X.2.2.2.2.2.1 hin ty hty X.2.2.2.1 (X.2.2.2.2.2.1 _ hw1) (X.2.2.2.2.2.1 _ hw2) (X.2.2.2.2.2.1 _ hw3) X.2.2.2.2.2.2.1.1 hP hD hS X.2.2.2.2.2.2.2.1 hc hfs hk hn hd (fun q H1 hP1 hD1 hS1 => h q (mR_fresh hR hD1) H1 locs ls _ (mR_push hR hD1) hP1 hD1 hS1 hL)
theorem R_newi {z : zT} {cc : ByteArray} {nL : Nat} {own nm : String} {F Lo : Nat} (X : BX z cc nL own nm F Lo) {pc : Nat} {L : List (Option Value)} {st : List Value} {M : mM} {k n : Nat} {cI : ClassId} {w : Nat} {v : Int32} (t0 : Nat) (ht : (zty z)[t0]? = some (cI, .int)) (hw : Cond.arrayClass .int ∈ lw_big) (hd : decode cc pc = .ok (.newarray .int, 2)) (hv0 : ¬ v < 0) (hv : v.toNatClampNeg = w) (hb : w * 4 ≤ 536870912) (hk : k + 1 ≤ (zR z).cells) (hn : n + w ≤ (zR z).slots) (h : ∀ q, M q = none → RN z (pc + 2) L (.ref q :: st) (mS M q (.inl (cI, w, .inl (fun _ => 0)))) (k + 1) (n + w)) : RN z pc L (.int v :: st) M k n := by
  obtain ⟨p, l, e, R, s, m, args, below, meth, c, Q, A, D, tys⟩ := z
  intro H locs ls ws hR hP hD hS hL
  refine va_newa (D := D) (atype := .int) (ty := .int) (a0 := (w, .inl (fun _ => 0))) X.1 X.2.1 (X.2.2.2.2.2.1 _ hw) rfl X.2.2.2.2.2.2.1.1 hP hD hS X.2.2.2.2.2.2.2.1 (fun _ => rfl) hv0 hv hb hk hn hd (fun q cA H1 hK1 hP1 hD1 hS1 => ?_)
  have e1 := va_nm_int (hK1.2 tys.length (cA, .int) (by simp)).2
  have e2 := va_nm_int (X.2.2.2.2.2.2.1.1.2 t0 _ ht).2
  cases e1.symm.trans e2
  exact h q (mR_fresh hR hD1) H1 locs ls _ (mR_push hR hD1) hP1 hD1 hS1 hL
theorem R_newz {z : zT} {cc : ByteArray} {nL : Nat} {own nm : String} {F Lo : Nat} (X : BX z cc nL own nm F Lo) {pc : Nat} {L : List (Option Value)} {st : List Value} {M : mM} {k n : Nat} {cI : ClassId} {w : Nat} {v : Int32} (t0 : Nat) (ht : (zty z)[t0]? = some (cI, .boolean)) (hw : Cond.arrayClass .boolean ∈ lw_big) (hd : decode cc pc = .ok (.newarray .boolean, 2)) (hv0 : ¬ v < 0) (hv : v.toNatClampNeg = w) (hb : w * 1 ≤ 536870912) (hk : k + 1 ≤ (zR z).cells) (hn : n + w ≤ (zR z).slots) (h : ∀ q, M q = none → RN z (pc + 2) L (.ref q :: st) (mS M q (.inl (cI, w, .inl (fun _ => 0)))) (k + 1) (n + w)) : RN z pc L (.int v :: st) M k n := by
  obtain ⟨p, l, e, R, s, m, args, below, meth, c, Q, A, D, tys⟩ := z
  intro H locs ls ws hR hP hD hS hL
  refine va_newa (D := D) (atype := .boolean) (ty := .boolean) (a0 := (w, .inl (fun _ => 0))) X.1 X.2.1 (X.2.2.2.2.2.1 _ hw) rfl X.2.2.2.2.2.2.1.1 hP hD hS X.2.2.2.2.2.2.2.1 (fun _ => rfl) hv0 hv hb hk hn hd (fun q cA H1 hK1 hP1 hD1 hS1 => ?_)
  have e1 := va_nm_boolean (hK1.2 tys.length (cA, .boolean) (by simp)).2
  have e2 := va_nm_boolean (X.2.2.2.2.2.2.1.1.2 t0 _ ht).2
  cases e1.symm.trans e2
  exact h q (mR_fresh hR hD1) H1 locs ls _ (mR_push hR hD1) hP1 hD1 hS1 hL
theorem va_RA_obj {s : State} {c1 c2 : ClassId} {C : String} (h1 : va_RA s c1 (.object C)) (h2 : va_RA s c2 (.object C)) : c1 = c2 := by
  obtain ⟨_, _, _, _, _, e1⟩ := h1
  obtain ⟨_, _, _, _, _, e2⟩ := h2
  cases e1.symm.trans e2
  rfl
theorem R_newq {z : zT} {cc : ByteArray} {nL : Nat} {own nm : String} {F Lo : Nat} (X : BX z cc nL own nm F Lo) {pc : Nat} {L : List (Option Value)} {st : List Value} {M : mM} {k n : Nat} {cA : ClassId} {C : String} {index w : Nat} {v : Int32} (t0 : Nat) (ht : (zty z)[t0]? = some (cA, .object C)) (hw1 : Cond.classLink own index C ∈ lw_big) (hC : C = RX0) (hd : decode cc pc = .ok (.anewarray index, 3)) (hv0 : ¬ v < 0) (hv : v.toNatClampNeg = w) (hb : w * 4 ≤ 536870912) (hk : k + 1 ≤ (zR z).cells) (hn : n + w ≤ (zR z).slots) (h : ∀ q, M q = none → RN z (pc + 3) L (.ref q :: st) (mS M q (.inl (cA, w, .inr (.inr (.inr (.inr (fun _ => none))))))) (k + 1) (n + w)) : RN z pc L (.int v :: st) M k n := by
  obtain ⟨p, l, e, R, s, m, args, below, meth, c, Q, A, D, tys⟩ := z
  intro H locs ls ws hR hP hD hS hL
  refine va_newq (D := D) X.1 X.2.1 X.2.2.2.1 (X.2.2.2.2.2.1 _ hw1) (hC ▸ X.2.2.2.2.2.2.1.2.1) X.2.2.2.2.2.2.1.1 hP hD hS X.2.2.2.2.2.2.2.1 hv0 hv hb hk hn hd (fun q cB H1 hK1 hP1 hD1 hS1 => ?_)
  cases va_RA_obj (hK1.2 tys.length (cB, .object C) (by simp)).2 (X.2.2.2.2.2.2.1.1.2 t0 _ ht).2
  exact h q (mR_fresh hR hD1) H1 locs ls _ (mR_push hR hD1) hP1 hD1 hS1 hL
theorem R_clone {z : zT} {cc : ByteArray} {nL : Nat} {own nm : String} {F Lo : Nat} (X : BX z cc nL own nm F Lo) {pc : Nat} {L : List (Option Value)} {st : List Value} {M : mM} {k n : Nat} {a : Nat} {cA : ClassId} {w : Nat} {f : Nat → Int32} {index : Nat} (t0 : Nat) (ht : (zty z)[t0]? = some (cA, .int)) (hw1 : Cond.methodLink own index ⟨"[I", "clone", "()Ljava/lang/Object;"⟩ ∈ lw_big) (hw2 : Cond.sameMethod "[I" "java/lang/Object" "clone" "()Ljava/lang/Object;" ∈ lw_big) (hw3 : Cond.native ⟨"java/lang/Object", "clone", "()Ljava/lang/Object;"⟩ ∈ lw_big) (hw4 : Cond.instanceMethod ⟨"java/lang/Object", "clone", "()Ljava/lang/Object;"⟩ ∈ lw_big) (hw5 : Cond.selects "[I" ⟨"[I", "clone", "()Ljava/lang/Object;"⟩ ⟨"java/lang/Object", "clone", "()Ljava/lang/Object;"⟩ ∈ lw_big) (hd : decode cc pc = .ok (.invokevirtual index, 3)) (hLn : L.length = nL) (hM : M a = some (.inl (cA, w, .inl f))) (hF : 1 ≤ F) (hLo : (st.map fun v => v.category).sum + 14 ≤ Lo) (hk : k + 1 ≤ (zR z).cells) (hn : n + w ≤ (zR z).slots) (h : ∀ q, M q = none → RN z (pc + 3) L (.ref q :: st) (mS M q (.inl (cA, w, .inl f))) (k + 1) (n + w)) : RN z pc L (.ref a :: st) M k n := by
  obtain ⟨p, l, e, R, s, m, args, below, meth, c, Q, A, D, tys⟩ := z
  intro H locs ls ws hR hP hD hS hL
  obtain ⟨q, hq⟩ := (hR _ _).mp hM
  have hx := X.2.2.2.2.2.1
  exact va_clone (D := D) (x := (w, .inl f)) X.1 X.2.1 (X.2.2.1.trans (hLn.symm.trans hL.1.symm)) X.2.2.2.1 (hx _ hw1) (hx _ hw2) (hx _ hw3) (hx _ hw4) (hx _ hw5) X.2.2.2.2.2.2.1.2.2.2 X.2.2.2.2.2.2.1.1 hP hD hS X.2.2.2.2.2.2.2.1 q t0 hq ht (va_nm_int (X.2.2.2.2.2.2.1.1.2 t0 _ ht).2) (va_fit (fun i _ => rfl)) (by rw [X.2.2.2.2.2.2.2.2.1]; exact hF) (by rw [X.2.2.2.2.2.2.2.2.2]; exact hLo) hk hn hd (fun q H1 _ hP1 hD1 hS1 => h q (mR_fresh hR hD1) H1 locs ls _ (mR_push hR hD1) hP1 hD1 hS1 hL)
theorem R_castA {z : zT} {cc : ByteArray} {nL : Nat} {own nm : String} {F Lo : Nat} (X : BX z cc nL own nm F Lo) {pc : Nat} {L : List (Option Value)} {st : List Value} {M : mM} {k n : Nat} {a : Nat} {cA : ClassId} {x : vp_A} {index : Nat} (t0 : Nat) (ht : (zty z)[t0]? = some (cA, .int)) (hw : Cond.classLink own index "[I" ∈ lw_big) (hd : decode cc pc = .ok (.checkcast index, 3)) (hM : M a = some (.inl (cA, x))) (h : RN z (pc + 3) L (.ref a :: st) M k n) : RN z pc L (.ref a :: st) M k n := by
  obtain ⟨p, l, e, R, s, m, args, below, meth, c, Q, A, D, tys⟩ := z
  intro H locs ls ws hR hP hD hS hL
  obtain ⟨q, hq⟩ := (hR _ _).mp hM
  exact va_castA (D := D) X.1 X.2.1 X.2.2.2.1 (X.2.2.2.2.2.1 _ hw) hP q hq (va_nm_int (X.2.2.2.2.2.2.1.1.2 t0 _ ht).2) hd (h H locs ls ws hR hP hD hS hL)
theorem R_mmax {z : zT} {cc : ByteArray} {nL : Nat} {own nm : String} {F Lo : Nat} (X : BX z cc nL own nm F Lo) {pc : Nat} {L : List (Option Value)} {st : List Value} {M : mM} {k n : Nat} {index : Nat} {x y : Int32} (hw1 : Cond.methodLink own index Lib.Math.max.name ∈ lw_big) (hw2 : Cond.static Lib.Math.max.name ∈ lw_big) (hw3 : Cond.initialized "java/lang/Math" ∈ lw_big) (hw4 : Cond.code Lib.Math.max.name Lib.Math.max.code 2 (some .int) ∈ lw_big) (hd : decode cc pc = .ok (.invokestatic index, 3)) (hLn : L.length = nL) (hF : 1 ≤ F) (hLo : (st.map fun v => v.category).sum + 13 ≤ Lo) (hk : k ≤ (zR z).cells) (hn : n ≤ (zR z).slots) (h : RN z (pc + 3) L (.int (if x < y then y else x) :: st) M k n) : RN z pc L (.int y :: .int x :: st) M k n := by
  obtain ⟨p, l, e, R, s, m, args, below, meth, c, Q, A, D, tys⟩ := z
  intro H locs ls ws hR hP hD hS hL
  have hx := X.2.2.2.2.2.1
  exact va_mmax (R := R) X.1 X.2.1 (X.2.2.1.trans (hLn.symm.trans hL.1.symm)) X.2.2.2.1 (hx _ hw1) (hx _ hw2) (hx _ hw3) (hx _ hw4) (by rw [X.2.2.2.2.2.2.2.2.1]; exact hF) (by rw [X.2.2.2.2.2.2.2.2.2]; exact hLo) hk hn hd (h H locs ls ws hR hP hD hS hL)
theorem R_mmin {z : zT} {cc : ByteArray} {nL : Nat} {own nm : String} {F Lo : Nat} (X : BX z cc nL own nm F Lo) {pc : Nat} {L : List (Option Value)} {st : List Value} {M : mM} {k n : Nat} {index : Nat} {x y : Int32} (hw1 : Cond.methodLink own index Lib.Math.min.name ∈ lw_big) (hw2 : Cond.static Lib.Math.min.name ∈ lw_big) (hw3 : Cond.initialized "java/lang/Math" ∈ lw_big) (hw4 : Cond.code Lib.Math.min.name Lib.Math.min.code 2 (some .int) ∈ lw_big) (hd : decode cc pc = .ok (.invokestatic index, 3)) (hLn : L.length = nL) (hF : 1 ≤ F) (hLo : (st.map fun v => v.category).sum + 13 ≤ Lo) (hk : k ≤ (zR z).cells) (hn : n ≤ (zR z).slots) (h : RN z (pc + 3) L (.int (if y < x then y else x) :: st) M k n) : RN z pc L (.int y :: .int x :: st) M k n := by
  obtain ⟨p, l, e, R, s, m, args, below, meth, c, Q, A, D, tys⟩ := z
  intro H locs ls ws hR hP hD hS hL
  have hx := X.2.2.2.2.2.1
  exact va_mmin (R := R) X.1 X.2.1 (X.2.2.1.trans (hLn.symm.trans hL.1.symm)) X.2.2.2.1 (hx _ hw1) (hx _ hw2) (hx _ hw3) (hx _ hw4) (by rw [X.2.2.2.2.2.2.2.2.1]; exact hF) (by rw [X.2.2.2.2.2.2.2.2.2]; exact hLo) hk hn hd (h H locs ls ws hR hP hD hS hL)
theorem R_objInit {z : zT} {cc : ByteArray} {nL : Nat} {own nm : String} {F Lo : Nat} (X : BX z cc nL own nm F Lo) {pc : Nat} {L : List (Option Value)} {st : List Value} {M : mM} {k n : Nat} {a : Nat} {index : Nat} (hw1 : Cond.methodLink own index objectInit ∈ lw_big) (hw2 : Cond.instanceMethod objectInit ∈ lw_big) (hw3 : Cond.code objectInit ⟨#[0xb1]⟩ 1 none ∈ lw_big) (hd : decode cc pc = .ok (.invokespecial index, 3)) (hLn : L.length = nL) (hF : 1 ≤ F) (hLo : (st.map fun v => v.category).sum + 12 ≤ Lo) (h : RN z (pc + 3) L st M k n) : RN z pc L (.ref a :: st) M k n := by
  obtain ⟨p, l, e, R, s, m, args, below, meth, c, Q, A, D, tys⟩ := z
  intro H locs ls ws hR hP hD hS hL
  have hx := X.2.2.2.2.2.1
  exact W.objInit X.1 X.2.1 X.2.2.2.1 (hx _ hw1) (hx _ hw2) (hx _ hw3) rfl (by show ls.size = _; rw [hL.1, hLn, X.2.2.1]) rfl hd (by rw [X.2.2.2.2.2.2.2.2.1]; exact hF) (by rw [X.2.2.2.2.2.2.2.2.2]; show 2 * 0 + _ + 12 ≤ _; omega) (h H locs ls ws hR hP hD hS hL)
end
section
theorem gd_I {k1 : Cond} (h1 : k1 ∈ lw_big) : GoodIn lw_big (k1 :: lw_big) := fun w h => (List.mem_cons.mp h).elim (fun e => e ▸ gd_all _ h1) (gd_all w)
theorem gd_S {k1 : Cond} {own : String} {index : Nat} {y : MethodName} (h1 : k1 ∈ lw_big) (h2 : Cond.methodLink own index y ∈ lw_big) (h3 : Cond.static y ∈ lw_big) (h4 : Cond.initialized own ∈ lw_big) : GoodIn lw_big (wsS own index y (k1 :: lw_big)) := by
  intro w h
  unfold wsS at h
  simp only [List.cons_append, List.nil_append, List.mem_cons] at h
  rcases h with rfl | rfl | rfl | rfl | h
  · exact gd_all _ h2
  · exact gd_all _ h3
  · exact gd_all _ h4
  · exact gd_all _ h1
  · exact gd_all _ h
theorem gd_V {k1 : Cond} {own C : String} {index : Nat} {y : MethodName} (h1 : k1 ∈ lw_big) (h2 : Cond.methodLink own index y ∈ lw_big) (h3 : Cond.instanceMethod y ∈ lw_big) (h4 : Cond.selects C y y ∈ lw_big) (h5 : Cond.initialized C ∈ lw_big) : GoodIn lw_big (wsV own index C y (k1 :: lw_big)) := by
  intro w h
  unfold wsV at h
  simp only [List.cons_append, List.nil_append, List.mem_cons] at h
  rcases h with rfl | rfl | rfl | rfl | rfl | h
  · exact gd_all _ h2
  · exact gd_all _ h3
  · exact gd_all _ h4
  · exact gd_all _ h5
  · exact gd_all _ h1
  · exact gd_all _ h
def zl : zT → Launch
  | (_, l, _) => l
def zD : zT → va_G
  | (_, _, _, _, _, _, _, _, _, _, _, _, D, _) => D
/-- a contract's end: the answer and the memory behind it -/
def mQ (D : va_G) (ws0 : va_W) (sz : Nat) (Post : Option Value → mM → Prop) : Array Value → State → Outcome → State → Prop := fun _ st oc t =>
  (∃ (v : Option Value) (M' : mM) (ws' : va_W), oc = .returned v ∧ Post v M' ∧ mR M' ws' ∧ va_P D vwCl ws' t.heap ∧ va_D (va_A ws0 sz) ws') ∧ va_F (va_A ws0 sz) st t
/-- the contract of a method at memory M, arguments av -/
def Ct (l : Launch) (D : va_G) (tys : List (ClassId × FieldType)) (y : MethodName) (wsC : List Cond) (F Lo mc ms : Nat) (av : List Value) (M : mM) (Post : Option Value → mM → Prop) : Prop :=
  ∀ (sz : Nat) (ws : va_W), mR M ws → Met l y wsC { frames := F, cells := mc, slots := ms, locals := Lo } (va_Pc av (fun U => U.heap.size = sz ∧ va_P D vwCl ws U.heap ∧ mK D tys U ∧ va_D (fun _ => True) ws)) (mQ D ws sz Post) mc ms (va_A ws sz)
def BQ : zT → Option FieldType → va_W → Nat → Nat → (Option Value → mM → Prop) → Prop
  | (_, _, _, R, s, _, args, below, meth, _, Q, A, D, tys), ret, ws0, mc, ms, Post =>
    meth.sig.returnType = ret ∧ meth.locks = false ∧ Q = MQ below (mQ D ws0 s.heap.size Post) args s mc ms (va_A ws0 s.heap.size) ∧ A = va_A ws0 s.heap.size ∧ R.cells = mc ∧ R.slots = ms
theorem BQ.rc {z : zT} {ret : Option FieldType} {ws0 : va_W} {mc ms : Nat} {Post : Option Value → mM → Prop} (Y : BQ z ret ws0 mc ms Post) : (zR z).cells = mc ∧ (zR z).slots = ms := by
  obtain ⟨p, l, e, R, s, m, args, below, meth, c, Q, A, D, tys⟩ := z
  exact ⟨Y.2.2.2.2.1, Y.2.2.2.2.2⟩
theorem R_iret {z : zT} {cc : ByteArray} {nL : Nat} {own nm : String} {F Lo : Nat} (X : BX z cc nL own nm F Lo) {pc : Nat} {L : List (Option Value)} {M : mM} {k n : Nat} {ws0 : va_W} {mc ms : Nat} {Post : Option Value → mM → Prop} (Y : BQ z (some .int) ws0 mc ms Post) {v : Int32} (hd : decode cc pc = .ok (.ireturn, 1)) (hk : k ≤ mc) (hn : n ≤ ms) (hp : Post (some (.int v)) M) : RN z pc L [.int v] M k n := by
  obtain ⟨p, l, e, R, s, m, args, below, meth, c, Q, A, D, tys⟩ := z
  obtain ⟨hr, hlk, rfl, rfl, hc1, hc2⟩ := Y
  intro H locs ls ws hR hP hD hS hL
  refine W.widen hk hn ?_
  exact W.iret X.1 X.2.1 hr (fun t ht hW => ⟨⟨some (.int v), M, ws, rfl, hp, hR, by rw [ht]; exact hP, hD⟩, hS.F ht⟩) hS.2.2 hd (hlocks := hlk)
theorem R_zret {z : zT} {cc : ByteArray} {nL : Nat} {own nm : String} {F Lo : Nat} (X : BX z cc nL own nm F Lo) {pc : Nat} {L : List (Option Value)} {M : mM} {k n : Nat} {ws0 : va_W} {mc ms : Nat} {Post : Option Value → mM → Prop} (Y : BQ z (some .boolean) ws0 mc ms Post) {v : Int32} (hd : decode cc pc = .ok (.ireturn, 1)) (hv : narrow .boolean (.int v) = .int v) (hk : k ≤ mc) (hn : n ≤ ms) (hp : Post (some (.int v)) M) : RN z pc L [.int v] M k n := by
  obtain ⟨p, l, e, R, s, m, args, below, meth, c, Q, A, D, tys⟩ := z
  obtain ⟨hr, hlk, rfl, rfl, hc1, hc2⟩ := Y
  intro H locs ls ws hR hP hD hS hL
  refine W.widen hk hn ?_
  exact W.zret X.1 X.2.1 hr hv (fun t ht hW => ⟨⟨some (.int v), M, ws, rfl, hp, hR, by rw [ht]; exact hP, hD⟩, hS.F ht⟩) hS.2.2 hd (hlocks := hlk)
theorem R_lret {z : zT} {cc : ByteArray} {nL : Nat} {own nm : String} {F Lo : Nat} (X : BX z cc nL own nm F Lo) {pc : Nat} {L : List (Option Value)} {M : mM} {k n : Nat} {ws0 : va_W} {mc ms : Nat} {Post : Option Value → mM → Prop} (Y : BQ z (some .long) ws0 mc ms Post) {v : Int64} (hd : decode cc pc = .ok (.lreturn, 1)) (hk : k ≤ mc) (hn : n ≤ ms) (hp : Post (some (.long v)) M) : RN z pc L [.long v] M k n := by
  obtain ⟨p, l, e, R, s, m, args, below, meth, c, Q, A, D, tys⟩ := z
  obtain ⟨hr, hlk, rfl, rfl, hc1, hc2⟩ := Y
  intro H locs ls ws hR hP hD hS hL
  refine W.widen hk hn ?_
  exact W.lret X.1 X.2.1 hr (fun t ht hW => ⟨⟨some (.long v), M, ws, rfl, hp, hR, by rw [ht]; exact hP, hD⟩, hS.F ht⟩) hS.2.2 hd (hlocks := hlk)
theorem R_aret {z : zT} {cc : ByteArray} {nL : Nat} {own nm : String} {F Lo : Nat} (X : BX z cc nL own nm F Lo) {pc : Nat} {L : List (Option Value)} {M : mM} {k n : Nat} {ws0 : va_W} {mc ms : Nat} {Post : Option Value → mM → Prop} {rt : FieldType} (Y : BQ z (some rt) ws0 mc ms Post) {v : Value} (hrt : (∃ n, rt = .object n) ∨ ∃ t, rt = .array t) (hd : decode cc pc = .ok (.areturn, 1)) (hv : mRf v) (hk : k ≤ mc) (hn : n ≤ ms) (hp : Post (some v) M) : RN z pc L [v] M k n := by
  obtain ⟨p, l, e, R, s, m, args, below, meth, c, Q, A, D, tys⟩ := z
  obtain ⟨hr, hlk, rfl, rfl, hc1, hc2⟩ := Y
  intro H locs ls ws hR hP hD hS hL
  refine W.widen hk hn ?_
  exact W.aret X.1 X.2.1 hr hrt hv (fun t ht hW => ⟨⟨some v, M, ws, rfl, hp, hR, by rw [ht]; exact hP, hD⟩, hS.F ht⟩) hS.2.2 hd (hlocks := hlk)
theorem R_vret {z : zT} {cc : ByteArray} {nL : Nat} {own nm : String} {F Lo : Nat} (X : BX z cc nL own nm F Lo) {pc : Nat} {L : List (Option Value)} {M : mM} {k n : Nat} {ws0 : va_W} {mc ms : Nat} {Post : Option Value → mM → Prop} (Y : BQ z none ws0 mc ms Post) (hd : decode cc pc = .ok (.return_, 1)) (hk : k ≤ mc) (hn : n ≤ ms) (hp : Post none M) : RN z pc L [] M k n := by
  obtain ⟨p, l, e, R, s, m, args, below, meth, c, Q, A, D, tys⟩ := z
  obtain ⟨hr, hlk, rfl, rfl, hc1, hc2⟩ := Y
  intro H locs ls ws hR hP hD hS hL
  refine W.widen hk hn ?_
  exact W.vret X.1 X.2.1 hr (fun t ht hW => ⟨⟨none, M, ws, rfl, hp, hR, by rw [ht]; exact hP, hD⟩, hS.F ht⟩) hS.2.2 hd (hlocks := hlk)
theorem lL_entry : ∀ (vs : List Value) (i : Nat), (∀ v ∈ vs, v.category = 1) → ∀ (j : Nat) (v : Value), vs[j]? = some v → (i + j, v) ∈ lv_args i vs
  | [], _, _, j, v, h => by simp at h
  | w :: vs, i, hc, j, v, h => by
    have hw : w.category = 1 := hc w List.mem_cons_self
    cases j with
    | zero =>
      simp at h
      subst h
      exact List.mem_cons_self
    | succ j =>
      have h2 := lL_entry vs (i + 1) (fun u hu => hc u (List.mem_cons_of_mem _ hu)) j v (by simpa using h)
      unfold lv_args
      rw [if_neg (by omega)]
      rw [show i + (j + 1) = i + 1 + j by omega]
      exact List.mem_cons_of_mem _ h2
theorem lg_sl_one : ∀ (vs : List Value), (∀ v ∈ vs, v.category = 1) → (lg_sl vs).length = vs.length
  | [], _ => rfl
  | w :: vs, hc => by
    have hw : w.category = 1 := hc w List.mem_cons_self
    have ih := lg_sl_one vs (fun u hu => hc u (List.mem_cons_of_mem _ hu))
    unfold lg_sl at ih ⊢
    rw [List.flatMap_cons, List.length_append, ih, if_neg (by omega)]
    simp
    omega
/-- a contract out of a walk -/
theorem Ct.of {l : Launch} {D : va_G} {tys : List (ClassId × FieldType)} {y : MethodName} {F Lo mc ms : Nat} {av : List Value} {M : mM} {Post : Option Value → mM → Prop} {cc : ByteArray} {maxL : Nat} {ret : Option FieldType} {L0 : List (Option Value)}
    (hy : plainName y.cls = true) (hav : ∀ v ∈ av, v.category = 1) (hl : av.length ≤ maxL) (hL0 : L0 = av.map some ++ List.replicate (maxL - av.length) none)
    (body : ∀ (z : zT) (ws0 : va_W), zl z = l → zD z = D → zty z = tys → BX z cc maxL y.cls y.name F Lo → BQ z ret ws0 mc ms Post → RN z 0 L0 [] M 0 0) : Ct l D tys y (Cond.code y cc maxL ret :: lw_big) F Lo mc ms av M Post := by
  intro sz ws hR
  refine Met.ofW (cc := cc) (maxL := maxL) (ret := ret) hy rfl ?_
  intro p e s m args below meth c s₁ B hml hv
  obtain ⟨rfl, hsz, hP, hK, hD0⟩ := hv
  subst hsz
  have hts := atoms_spec (ws := Cond.code y cc maxL ret :: lw_big) B.pre
  have hown : s.vm.findClass y.cls = some m.cls := findClass_of_methodNamed B.named
  have hin : meth.name = y.name := (name_of_methodNamed B.named B.method).1
  have hD := hD0.self (sz := s.heap.size)
  have hlen : (lg_sl av).length ≤ maxL := by rw [lg_sl_one av hav]; exact hl
  have hle := lv_entry av (n := maxL) hlen
  rw [lg_entry_eq]
  generalize (lg_sl av ++ List.replicate (maxL - (lg_sl av).length) Slot.unset).toArray = ls at hle ⊢
  have hll : lL ls L0 := by
    refine ⟨?_, hle.2.1, fun i v hi => ?_⟩
    · rw [hle.1, hL0]
      simp
      omega
    · rw [hL0] at hi
      by_cases hia : i < av.length
      · rw [List.getElem?_append_left (by simpa using hia), List.getElem?_map] at hi
        cases hq : av[i]? with
        | none => rw [hq] at hi; simp at hi
        | some w =>
          rw [hq] at hi
          simp at hi
          subst hi
          have h3 := lL_entry av 0 hav i w hq
          rw [Nat.zero_add] at h3
          exact ⟨hle.2.2 _ h3, hav w (List.mem_of_getElem? hq)⟩
      · rw [List.getElem?_append_right (by simp; omega), List.getElem?_replicate] at hi
        split at hi <;> simp at hi
  exact body (p, l, e, (headSpec (Cond.code y cc maxL ret :: lw_big) { frames := F, cells := mc, slots := ms, locals := Lo }).room, s, m, av.toArray, below, meth, c, _, va_A ws s.heap.size, D, tys) ws rfl rfl rfl ⟨B.exec, B.bytes, hml, hown, hin, fun w h => hts w (List.mem_cons_of_mem _ h), hK, fun q h => Or.inr h, rfl, rfl⟩ ⟨B.returns, B.notSynchronized, rfl, rfl, rfl, rfl⟩ s.heap [] ls ws hR hP hD va_S.rf hll
/-- behind a call -/
theorem m_call {p : Program} {l : Launch} {e : Env} {R : Room} {s : State} {m : MethodId} {args : Array Value} {below : List Frame} {meth : Method} {c : Code} {H : Heap} {locs : List Loc} {cells slots : Nat} {Q : State → Prop} {pc : Nat} {ls : Array Slot} {rest st0 : List Value} {a : Array Value} {A : Nat → Prop} {H0 : Heap} {mc ms : Nat} {D : va_G} {ws : va_W} {Post : Option Value → mM → Prop}
    (hr : va_Run p l e R s m args below meth c H locs cells slots mc ms (F0 m pc ls st0) rest (mQ D ws H.size Post a) (va_A ws H.size)) (hD : va_D A ws) (hS : va_S A H0 H locs) (hA : ∀ q, H0.size ≤ q → A q)
    (kk : ∀ (v : Option Value) (M' : mM) (ws' : va_W) (H1 : Heap) (locs1 : List Loc), Post v M' → mR M' ws' → va_P D vwCl ws' H1 → va_D A ws' → va_S A H0 H1 locs1 → W p l e R s m args below meth c H1 locs1 (cells + mc) (slots + ms) Q (F0 m (pc + 3) ls (v.toList ++ rest))) : W p l e R s m args below meth c H locs cells slots Q (F0 m pc ls st0) := by
  intro T hT X
  obtain ⟨v, st₀, t, T', L, h0, X', hL, e1, e2, ⟨⟨v', M', ws', hv, hp, hR', hP', hD'⟩, hz, hk⟩, st⟩ := hr T hT X
  cases hv
  rw [h0] at hz hk
  have hAA : ∀ q, va_A ws H.size q → A q := fun q hq => by
    rcases hq with ⟨j, f, hj⟩ | hq
    · exact hD.2 j _ hj
    · exact hA q (Nat.le_trans hS.1 hq)
  obtain ⟨t2, a1, b1⟩ := kk v M' ws' T'.heap (locs ++ L) hp hR' (by rw [e1]; exact hP') (hD'.weaken (fun _ q _ h => hAA _ h))
    ⟨Nat.le_trans hS.1 (by rw [e1]; exact hz), fun q h1 h2 => by rw [e1, hk q (Nat.lt_of_lt_of_le h1 hS.1) (fun z => h2 (hAA q z))]; exact hS.2.1 q h1 h2, fun q hq => by
      rcases List.mem_append.mp hq with h | h
      · exact hS.2.2 q h
      · exact hAA _ (hL q h)⟩ T' rfl X'
  exact ⟨t2, st t2 a1, b1⟩
theorem m_blind {av : List Value} {sz : Nat} {D : va_G} {tys : List (ClassId × FieldType)} {ws : va_W} : FrameBlind (va_Pc av (fun U => U.heap.size = sz ∧ va_P D vwCl ws U.heap ∧ mK D tys U ∧ va_D (fun _ => True) ws)) := fun a U g mk q => by
  obtain ⟨q0, q1, qP, qK, qD⟩ := q
  exact ⟨q0, q1, qP, mK.same (s := U) (U := U.calling g mk a) rfl qK, qD⟩
theorem cat_le : ∀ (st : List Value), (st.map fun v => v.category).sum ≤ 2 * st.length
  | [] => by simp
  | v :: st => by
    have := cat_le st
    have hv : v.category ≤ 2 := by rcases lv_cat v with h | h <;> omega
    simp only [List.map_cons, List.sum_cons, List.length_cons]
    omega
theorem R_callS {z : zT} {cc : ByteArray} {nL : Nat} {own nm : String} {F Lo : Nat} (X : BX z cc nL own nm F Lo) {pc : Nat} {L : List (Option Value)} {st : List Value} {M : mM} {k n : Nat} {y : MethodName} {F1 Lo1 mc1 ms1 nA index maxL : Nat} {bytes : ByteArray} {ret : Option FieldType} {av : List Value} {Post : Option Value → mM → Prop}
    (hk1 : Cond.code y bytes maxL ret ∈ lw_big) (hw1 : Cond.methodLink own index y ∈ lw_big) (hw2 : Cond.static y ∈ lw_big) (hw3 : Cond.initialized own ∈ lw_big) (hdd : y.cls = own ∧ y.cls ≠ "java/lang/invoke/MethodHandle" ∧ y.cls ≠ "java/lang/invoke/VarHandle" ∧ (parseMethodDescriptor y.desc).map (fun d => d.parameters.length) = some nA) (hav : av.length = nA) (hF : F1 + 1 ≤ F) (hLo : 8 + (maxL + 11) + Lo1 ≤ Lo) (hst : st.length ≤ 4) (hd : decode cc pc = .ok (.invokestatic index, 3)) (hLn : L.length = nL)
    (hC : Ct (zl z) (zD z) (zty z) y (Cond.code y bytes maxL ret :: lw_big) F1 Lo1 mc1 ms1 av M Post) (hk : k + mc1 ≤ (zR z).cells) (hn : n + ms1 ≤ (zR z).slots) (h : ∀ (v : Option Value) (M' : mM), Post v M' → RN z (pc + 3) L (v.toList ++ st) M' (k + mc1) (n + ms1)) : RN z pc L (av.reverse ++ st) M k n := by
  obtain ⟨p, l, e, R, s, m, args, below, meth, c, Q, A, D, tys⟩ := z
  intro H locs ls ws hR hP hD hS hL
  have hcat := cat_le st
  obtain ⟨hx, hb, hml, hown, hnm, hts, hK, hA, hRF, hRL⟩ := X
  have hrun := va_runS (l := l) (e := e) (below := below) (meth := meth) (As := av) (rest := st) (g := F0 m pc ls (av.reverse ++ st)) (locs := locs) (cells := k) (slots := n) ⟨hx, hb, hml, hown, hts⟩ (hC H.size ws hR) (cwS (R := R) nA hts (gd_S hk1 hw1 hw2 hw3) rfl rfl rfl hdd ⟨by rw [hRF]; exact hF, by rw [hRL]; exact hLo⟩)
    ⟨m_blind, fun U hU hW => ⟨rfl, by rw [hU], by rw [hU]; exact hP, mK.warm hW hK, hD.weaken (fun _ _ _ _ => trivial)⟩⟩ rfl hav (hL.1.trans hLn) rfl (lv_room (by omega)) hd ⟨hk, hn⟩
  exact m_call hrun hD hS hA (fun v M' ws' H1 locs1 hp hR' hP' hD' hS' => h v M' hp H1 locs1 ls ws' hR' hP' hD' hS' hL)
theorem R_callV {z : zT} {cc : ByteArray} {nL : Nat} {own nm : String} {F Lo : Nat} (X : BX z cc nL own nm F Lo) {pc : Nat} {L : List (Option Value)} {st : List Value} {M : mM} {k n : Nat} {C : String} {T : u_T} {N ci b : Nat} {fs : List Value} {y : MethodName} {F1 Lo1 mc1 ms1 nA index maxL : Nat} {bytes : ByteArray} {ret : Option FieldType} {av : List Value} {Post : Option Value → mM → Prop}
    (hk1 : Cond.code y bytes maxL ret ∈ lw_big) (hw1 : Cond.methodLink own index y ∈ lw_big) (hw2 : Cond.instanceMethod y ∈ lw_big) (hw3 : Cond.selects C y y ∈ lw_big) (hw4 : Cond.initialized C ∈ lw_big) (hdd : y.cls = C ∧ y.cls ≠ "java/lang/invoke/MethodHandle" ∧ y.cls ≠ "java/lang/invoke/VarHandle" ∧ (parseMethodDescriptor y.desc).map (fun d => d.parameters.length) = some nA) (hav : av.length = nA) (hF : F1 + 1 ≤ F) (hLo : 8 + (maxL + 11) + Lo1 ≤ Lo) (hst : st.length ≤ 4) (hd : decode cc pc = .ok (.invokevirtual index, 3)) (hLn : L.length = nL) (hc : vwCl[ci]? = some (C, T, N))
    (hM : M b = some (.inr (ci, fs))) (hC : Ct (zl z) (zD z) (zty z) y (Cond.code y bytes maxL ret :: lw_big) F1 Lo1 mc1 ms1 (.ref b :: av) M Post) (hk : k + mc1 ≤ (zR z).cells) (hn : n + ms1 ≤ (zR z).slots) (h : ∀ (v : Option Value) (M' : mM), Post v M' → RN z (pc + 3) L (v.toList ++ st) M' (k + mc1) (n + ms1)) : RN z pc L (av.reverse ++ .ref b :: st) M k n := by
  obtain ⟨p, l, e, R, s, m, args, below, meth, c, Q, A, D, tys⟩ := z
  intro H locs ls ws hR hP hD hS hL
  have hcat := cat_le st
  obtain ⟨hx, hb, hml, hown, hnm, hts, hK, hA, hRF, hRL⟩ := X
  obtain ⟨q, hq⟩ := (hR _ _).mp hM
  have hrun := va_runV (l := l) (e := e) (below := below) (meth := meth) (As := av) (rest := st) (g := F0 m pc ls (av.reverse ++ .ref b :: st)) (locs := locs) (cells := k) (slots := n) ⟨hx, hb, hml, hown, hts⟩ (hC H.size ws hR) (cwV (R := R) nA hts (gd_V hk1 hw1 hw2 hw3 hw4) rfl rfl rfl hdd ⟨by rw [hRF]; exact hF, by rw [hRL]; exact hLo⟩)
    ⟨m_blind, va_recv hK.1 hP hc hq, fun U hU hW => ⟨rfl, by rw [hU], by rw [hU]; exact hP, mK.warm hW hK, hD.weaken (fun _ _ _ _ => trivial)⟩⟩ rfl hav (hL.1.trans hLn) rfl (lv_room (by omega)) hd ⟨hk, hn⟩
  exact m_call hrun hD hS hA (fun v M' ws' H1 locs1 hp hR' hP' hD' hS' => h v M' hp H1 locs1 ls ws' hR' hP' hD' hS' hL)
theorem R_callI {z : zT} {cc : ByteArray} {nL : Nat} {own nm : String} {F Lo : Nat} (X : BX z cc nL own nm F Lo) {pc : Nat} {L : List (Option Value)} {st : List Value} {M : mM} {k n : Nat} {b : Nat} {y : MethodName} {F1 Lo1 mc1 ms1 nA index maxL : Nat} {bytes : ByteArray} {av : List Value} {Post : Option Value → mM → Prop}
    (hk1 : Cond.code y bytes maxL none ∈ lw_big) (hw1 : Cond.initialized y.cls ∈ lw_big) (hw2 : Cond.methodLink own index y ∈ lw_big) (hw3 : Cond.instanceMethod y ∈ lw_big) (hy : y.name = "<init>") (hdd : y.cls ≠ "java/lang/invoke/MethodHandle" ∧ y.cls ≠ "java/lang/invoke/VarHandle" ∧ (parseMethodDescriptor y.desc).map (fun d => d.parameters.length) = some nA) (hav : av.length = nA) (hF : F1 + 1 ≤ F) (hLo : 8 + (maxL + 11) + Lo1 ≤ Lo) (hst : st.length ≤ 4) (hd : decode cc pc = .ok (.invokespecial index, 3)) (hLn : L.length = nL)
    (hC : Ct (zl z) (zD z) (zty z) y (Cond.code y bytes maxL none :: lw_big) F1 Lo1 mc1 ms1 (.ref b :: av) M Post) (hk : k + mc1 ≤ (zR z).cells) (hn : n + ms1 ≤ (zR z).slots) (h : ∀ (v : Option Value) (M' : mM), Post v M' → RN z (pc + 3) L (v.toList ++ st) M' (k + mc1) (n + ms1)) : RN z pc L (av.reverse ++ .ref b :: st) M k n := by
  obtain ⟨p, l, e, R, s, m, args, below, meth, c, Q, A, D, tys⟩ := z
  intro H locs ls ws hR hP hD hS hL
  have hcat := cat_le st
  obtain ⟨hx, hb, hml, hown, hnm, hts, hK, hA, hRF, hRL⟩ := X
  have hrun := va_runI (l := l) (e := e) (below := below) (meth := meth) (As := av) (rest := st) (g := F0 m pc ls (av.reverse ++ .ref b :: st)) (locs := locs) (cells := k) (slots := n) ⟨hx, hb, hml, hown, hts⟩ (hC H.size ws hR) (cwI (R := R) nA hts (gd_I hk1) rfl rfl rfl (hts _ hw1) (hts _ hw2) (hts _ hw3) hy hdd ⟨by rw [hRF]; exact hF, by rw [hRL]; exact hLo⟩)
    ⟨m_blind, fun U hU hW => ⟨rfl, by rw [hU], by rw [hU]; exact hP, mK.warm hW hK, hD.weaken (fun _ _ _ _ => trivial)⟩⟩ rfl hav (hL.1.trans hLn) rfl (lv_room (by omega)) hd ⟨hk, hn⟩
  exact m_call hrun hD hS hA (fun v M' ws' H1 locs1 hp hR' hP' hD' hS' => h v M' hp H1 locs1 ls ws' hR' hP' hD' hS' hL)
theorem R_callIN {z : zT} {cc : ByteArray} {nL : Nat} {own nm : String} {F Lo : Nat} (X : BX z cc nL own nm F Lo) {pc : Nat} {L : List (Option Value)} {st : List Value} {M : mM} {k n : Nat} {b : Nat} {host : String} {y : MethodName} {F1 Lo1 mc1 ms1 nA index maxL : Nat} {bytes : ByteArray} {av : List Value} {Post : Option Value → mM → Prop}
    (hk1 : Cond.code y bytes maxL none ∈ lw_big) (hw1 : Cond.initialized y.cls ∈ lw_big) (hw2 : own = RX3 ∧ index = 51 ∧ y = y_N_init ∧ host = RX3) (hw3 : Cond.instanceMethod y ∈ lw_big) (hy : y.name = "<init>") (hdd : y.cls ≠ "java/lang/invoke/MethodHandle" ∧ y.cls ≠ "java/lang/invoke/VarHandle" ∧ (parseMethodDescriptor y.desc).map (fun d => d.parameters.length) = some nA) (hav : av.length = nA) (hF : F1 + 1 ≤ F) (hLo : 8 + (maxL + 11) + Lo1 ≤ Lo) (hst : st.length ≤ 4) (hd : decode cc pc = .ok (.invokespecial index, 3)) (hLn : L.length = nL)
    (hC : Ct (zl z) (zD z) (zty z) y (Cond.code y bytes maxL none :: lw_big) F1 Lo1 mc1 ms1 (.ref b :: av) M Post) (hk : k + mc1 ≤ (zR z).cells) (hn : n + ms1 ≤ (zR z).slots) (h : ∀ (v : Option Value) (M' : mM), Post v M' → RN z (pc + 3) L (v.toList ++ st) M' (k + mc1) (n + ms1)) : RN z pc L (av.reverse ++ .ref b :: st) M k n := by
  obtain ⟨p, l, e, R, s, m, args, below, meth, c, Q, A, D, tys⟩ := z
  intro H locs ls ws hR hP hD hS hL
  have hcat := cat_le st
  obtain ⟨hx, hb, hml, hown, hnm, hts, hK, hA, hRF, hRL⟩ := X
  have hrun := va_runIN (l := l) (e := e) (below := below) (meth := meth) (As := av) (rest := st) (g := F0 m pc ls (av.reverse ++ .ref b :: st)) (locs := locs) (cells := k) (slots := n) ⟨hx, hb, hml, hown, hts⟩ (hC H.size ws hR) ⟨va_cnB (R := R) nA hts (gd_I hk1) rfl rfl rfl (by obtain ⟨rfl, rfl, rfl, rfl⟩ := hw2; exact hK.2.2.1) (hts _ hw1) hdd ⟨by rw [hRF]; exact hF, by rw [hRL]; exact hLo⟩, hy, hts _ hw3⟩
    ⟨m_blind, fun U hU hW => ⟨rfl, by rw [hU], by rw [hU]; exact hP, mK.warm hW hK, hD.weaken (fun _ _ _ _ => trivial)⟩⟩ rfl hav (hL.1.trans hLn) rfl (lv_room (by omega)) hd ⟨hk, hn⟩
  exact m_call hrun hD hS hA (fun v M' ws' H1 locs1 hp hR' hP' hD' hS' => h v M' hp H1 locs1 ls ws' hR' hP' hD' hS' hL)
end

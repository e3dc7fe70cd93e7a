section
-- ===== PART A: goes FIRST, ahead of the names: the tables' words, and 'selects' of the private methods out of them =====
/-- a private method of a class that the tables say can be made, by its rows of tables_1 -/
def lw_okq (q : MethodName × Nat) : Prop := (q.1.cls ≠ "java/lang/invoke/MethodHandle" ∧ q.1.cls ≠ "java/lang/invoke/VarHandle") ∧ Cond.instantiable q.1.cls q.2 ∈ tables_1 ∧ Cond.privateMethod q.1 ∈ tables_1 ∧ Cond.instanceMethod q.1 ∈ tables_1
theorem lw_p0 : lw_okq (⟨"CheapProofs$History", "stateAt", "(I)LCheapProofs$State;"⟩, 2) := ⟨⟨by decide +kernel, by decide +kernel⟩, List.mem_of_getElem? (i := 145) (by decide +kernel), List.mem_of_getElem? (i := 250) (by decide +kernel), List.mem_of_getElem? (i := 251) (by decide +kernel)⟩
theorem lw_p1 : lw_okq (⟨"CheapProofs$History", "dropOldest", "()V"⟩, 2) := ⟨⟨by decide +kernel, by decide +kernel⟩, List.mem_of_getElem? (i := 145) (by decide +kernel), List.mem_of_getElem? (i := 297) (by decide +kernel), List.mem_of_getElem? (i := 298) (by decide +kernel)⟩
theorem lw_p2 : lw_okq (⟨"CheapProofs$Rounds", "playRound", "(LCheapProofs$Game;I)V"⟩, 1) := ⟨⟨by decide +kernel, by decide +kernel⟩, List.mem_of_getElem? (i := 193) (by decide +kernel), List.mem_of_getElem? (i := 353) (by decide +kernel), List.mem_of_getElem? (i := 354) (by decide +kernel)⟩
theorem lw_p3 : lw_okq (⟨"CheapProofs$Rounds", "isWonBy", "(LCheapProofs$Game;II)Z"⟩, 1) := ⟨⟨by decide +kernel, by decide +kernel⟩, List.mem_of_getElem? (i := 193) (by decide +kernel), List.mem_of_getElem? (i := 366) (by decide +kernel), List.mem_of_getElem? (i := 367) (by decide +kernel)⟩
theorem lw_p4 : lw_okq (⟨"CheapProofs$Tree", "addLeaf", "(II)V"⟩, 10) := ⟨⟨by decide +kernel, by decide +kernel⟩, List.mem_of_getElem? (i := 86) (by decide +kernel), List.mem_of_getElem? (i := 467) (by decide +kernel), List.mem_of_getElem? (i := 468) (by decide +kernel)⟩
theorem lw_p5 : lw_okq (⟨"CheapProofs$Tree", "setLeafCosts", "(III)V"⟩, 10) := ⟨⟨by decide +kernel, by decide +kernel⟩, List.mem_of_getElem? (i := 86) (by decide +kernel), List.mem_of_getElem? (i := 473) (by decide +kernel), List.mem_of_getElem? (i := 474) (by decide +kernel)⟩
theorem lw_p6 : lw_okq (⟨"CheapProofs$Tree", "setCosts", "(III)V"⟩, 10) := ⟨⟨by decide +kernel, by decide +kernel⟩, List.mem_of_getElem? (i := 86) (by decide +kernel), List.mem_of_getElem? (i := 479) (by decide +kernel), List.mem_of_getElem? (i := 480) (by decide +kernel)⟩
theorem lw_p7 : lw_okq (⟨"CheapProofs$Tree", "isOnWayTo", "(II)Z"⟩, 10) := ⟨⟨by decide +kernel, by decide +kernel⟩, List.mem_of_getElem? (i := 86) (by decide +kernel), List.mem_of_getElem? (i := 483) (by decide +kernel), List.mem_of_getElem? (i := 484) (by decide +kernel)⟩
theorem lw_p8 : lw_okq (⟨"CheapProofs$Tree", "leafOnWay", "()I"⟩, 10) := ⟨⟨by decide +kernel, by decide +kernel⟩, List.mem_of_getElem? (i := 86) (by decide +kernel), List.mem_of_getElem? (i := 496) (by decide +kernel), List.mem_of_getElem? (i := 497) (by decide +kernel)⟩
theorem lw_p9 : lw_okq (⟨"CheapProofs$Tree", "workOutFrom", "(I)V"⟩, 10) := ⟨⟨by decide +kernel, by decide +kernel⟩, List.mem_of_getElem? (i := 86) (by decide +kernel), List.mem_of_getElem? (i := 517) (by decide +kernel), List.mem_of_getElem? (i := 518) (by decide +kernel)⟩
theorem lw_p10 : lw_okq (⟨"CheapProofs$Tree", "workOut", "(I)V"⟩, 10) := ⟨⟨by decide +kernel, by decide +kernel⟩, List.mem_of_getElem? (i := 86) (by decide +kernel), List.mem_of_getElem? (i := 521) (by decide +kernel), List.mem_of_getElem? (i := 522) (by decide +kernel)⟩
theorem lw_p11 : lw_okq (⟨"CheapProofs$Tree", "leastOfChildren", "(ILCheapProofs$Row;)I"⟩, 10) := ⟨⟨by decide +kernel, by decide +kernel⟩, List.mem_of_getElem? (i := 86) (by decide +kernel), List.mem_of_getElem? (i := 525) (by decide +kernel), List.mem_of_getElem? (i := 526) (by decide +kernel)⟩
theorem lw_p12 : lw_okq (⟨"CheapProofs$Tree", "sumOfChildren", "(ILCheapProofs$Row;)I"⟩, 10) := ⟨⟨by decide +kernel, by decide +kernel⟩, List.mem_of_getElem? (i := 86) (by decide +kernel), List.mem_of_getElem? (i := 530) (by decide +kernel), List.mem_of_getElem? (i := 531) (by decide +kernel)⟩
theorem lw_p13 : lw_okq (⟨"CheapProofs$Proof", "takeChildren", "(LCheapProofs$Tree;II)V"⟩, 1) := ⟨⟨by decide +kernel, by decide +kernel⟩, List.mem_of_getElem? (i := 205) (by decide +kernel), List.mem_of_getElem? (i := 560) (by decide +kernel), List.mem_of_getElem? (i := 561) (by decide +kernel)⟩
def lw_privs_1 : List (MethodName × Nat) := [(⟨"CheapProofs$History", "stateAt", "(I)LCheapProofs$State;"⟩, 2), (⟨"CheapProofs$History", "dropOldest", "()V"⟩, 2), (⟨"CheapProofs$Rounds", "playRound", "(LCheapProofs$Game;I)V"⟩, 1), (⟨"CheapProofs$Rounds", "isWonBy", "(LCheapProofs$Game;II)Z"⟩, 1), (⟨"CheapProofs$Tree", "addLeaf", "(II)V"⟩, 10), (⟨"CheapProofs$Tree", "setLeafCosts", "(III)V"⟩, 10), (⟨"CheapProofs$Tree", "setCosts", "(III)V"⟩, 10), (⟨"CheapProofs$Tree", "isOnWayTo", "(II)Z"⟩, 10), (⟨"CheapProofs$Tree", "leafOnWay", "()I"⟩, 10), (⟨"CheapProofs$Tree", "workOutFrom", "(I)V"⟩, 10), (⟨"CheapProofs$Tree", "workOut", "(I)V"⟩, 10), (⟨"CheapProofs$Tree", "leastOfChildren", "(ILCheapProofs$Row;)I"⟩, 10), (⟨"CheapProofs$Tree", "sumOfChildren", "(ILCheapProofs$Row;)I"⟩, 10), (⟨"CheapProofs$Proof", "takeChildren", "(LCheapProofs$Tree;II)V"⟩, 1)]
theorem lw_r1 : ∀ q ∈ lw_privs_1, lw_okq q := List.forall_mem_cons.mpr ⟨lw_p0, List.forall_mem_cons.mpr ⟨lw_p1, List.forall_mem_cons.mpr ⟨lw_p2, List.forall_mem_cons.mpr ⟨lw_p3, List.forall_mem_cons.mpr ⟨lw_p4, List.forall_mem_cons.mpr ⟨lw_p5, List.forall_mem_cons.mpr ⟨lw_p6, List.forall_mem_cons.mpr ⟨lw_p7, List.forall_mem_cons.mpr ⟨lw_p8, List.forall_mem_cons.mpr ⟨lw_p9, List.forall_mem_cons.mpr ⟨lw_p10, List.forall_mem_cons.mpr ⟨lw_p11, List.forall_mem_cons.mpr ⟨lw_p12, List.forall_mem_cons.mpr ⟨lw_p13, fun _ h => absurd h List.not_mem_nil⟩⟩⟩⟩⟩⟩⟩⟩⟩⟩⟩⟩⟩⟩
def lw_privs : List (MethodName × Nat) := lw_privs_1
def lw_tbl : List Cond := k2_sels lw_privs ++ tables_1
theorem lw_privs_ok : ∀ q ∈ lw_privs, lw_okq q := lw_r1
-- ===== end of PART A; then your names; then what follows =====
end
section
def RX0 : String := "CheapProofs$Game"
def TX0 : u_T := fun k => match k with
  | 0 => ("CheapProofs$Game", "turns", "LCheapProofs$Row;", true)
  | 1 => ("CheapProofs$Game", "marks", "LCheapProofs$Row;", true)
  | 2 => ("CheapProofs$Game", "proveGuesses", "LCheapProofs$Row;", true)
  | 3 => ("CheapProofs$Game", "disproveGuesses", "LCheapProofs$Row;", true)
  | 4 => ("CheapProofs$Game", "moveCounts", "LCheapProofs$Row;", true)
  | 5 => ("CheapProofs$Game", "targets", "LCheapProofs$Row;", true)
  | _ => ("CheapProofs$Game", "moves", "I", false)
def tyX0 : Nat → FieldType := fun k => match k with
  | 0 => .object "CheapProofs$Row"
  | 1 => .object "CheapProofs$Row"
  | 2 => .object "CheapProofs$Row"
  | 3 => .object "CheapProofs$Row"
  | 4 => .object "CheapProofs$Row"
  | 5 => .object "CheapProofs$Row"
  | _ => .int
abbrev wsX00 : List Cond := u_ws RX0 TX0 7
theorem nmX0 : ∀ a, a < 7 → ∀ b, b < 7 → a ≠ b → (TX0 a).2.1 ≠ (TX0 b).2.1 := by decide +kernel
theorem tyX0_ok : ∀ k, k < 7 → parseFieldDescriptor (TX0 k).2.2.1 = some (tyX0 k) := by decide +kernel
abbrev cX0_init : ByteArray := prog_2_method_1_code
def yX0_init : MethodName := ⟨RX0, "<init>", "()V"⟩
abbrev cX0_copyFrom : ByteArray := prog_2_method_2_code
def yX0_copyFrom : MethodName := ⟨RX0, "copyFrom", "(LCheapProofs$Game;)V"⟩
abbrev cX0_copyAllButGuesses : ByteArray := prog_2_method_3_code
def yX0_copyAllButGuesses : MethodName := ⟨RX0, "copyAllButGuesses", "(LCheapProofs$Game;)V"⟩
abbrev cX0_isEnd : ByteArray := prog_2_method_5_code
def yX0_isEnd : MethodName := ⟨RX0, "isEnd", "(I)Z"⟩
abbrev cX0_isWonEnd : ByteArray := prog_2_method_6_code
def yX0_isWonEnd : MethodName := ⟨RX0, "isWonEnd", "(I)Z"⟩
abbrev cX0_targetOf : ByteArray := prog_2_method_7_code
def yX0_targetOf : MethodName := ⟨RX0, "targetOf", "(II)I"⟩
abbrev cX0_rankOf : ByteArray := prog_2_method_8_code
def yX0_rankOf : MethodName := ⟨RX0, "rankOf", "(II)I"⟩
abbrev cX0_append : ByteArray := prog_2_method_9_code
def yX0_append : MethodName := ⟨RX0, "append", "(II)V"⟩
abbrev cX0_removeAt : ByteArray := prog_2_method_10_code
def yX0_removeAt : MethodName := ⟨RX0, "removeAt", "(II)V"⟩
def RX1 : String := "CheapProofs$History"
def TX1 : u_T := fun k => match k with
  | 0 => ("CheapProofs$History", "states", "[LCheapProofs$State;", true)
  | _ => ("CheapProofs$History", "size", "I", false)
def tyX1 : Nat → FieldType := fun k => match k with
  | 0 => .array (.object "CheapProofs$State")
  | _ => .int
abbrev wsX10 : List Cond := u_ws RX1 TX1 2
theorem nmX1 : ∀ a, a < 2 → ∀ b, b < 2 → a ≠ b → (TX1 a).2.1 ≠ (TX1 b).2.1 := by decide +kernel
theorem tyX1_ok : ∀ k, k < 2 → parseFieldDescriptor (TX1 k).2.2.1 = some (tyX1 k) := by decide +kernel
abbrev cX1_init : ByteArray := prog_3_method_1_code
def yX1_init : MethodName := ⟨RX1, "<init>", "()V"⟩
abbrev cX1_remember : ByteArray := prog_3_method_2_code
def yX1_remember : MethodName := ⟨RX1, "remember", "(LCheapProofs$State;)V"⟩
abbrev cX1_takeLatest : ByteArray := prog_3_method_3_code
def yX1_takeLatest : MethodName := ⟨RX1, "takeLatest", "(LCheapProofs$State;)V"⟩
abbrev cX1_stateAt : ByteArray := prog_3_method_4_code
def yX1_stateAt : MethodName := ⟨RX1, "stateAt", "(I)LCheapProofs$State;"⟩
abbrev cX1_copy : ByteArray := prog_3_method_5_code
def yX1_copy : MethodName := ⟨RX1, "copy", "(LCheapProofs$State;LCheapProofs$State;)V"⟩
abbrev cX1_dropOldest : ByteArray := prog_3_method_6_code
def yX1_dropOldest : MethodName := ⟨RX1, "dropOldest", "()V"⟩
def RX2 : String := "CheapProofs$Proof"
def TX2 : u_T := fun k => match k with
  | _ => ("CheapProofs$Proof", "members", "LCheapProofs$Row;", true)
def tyX2 : Nat → FieldType := fun k => match k with
  | _ => .object "CheapProofs$Row"
abbrev wsX20 : List Cond := u_ws RX2 TX2 1
theorem nmX2 : ∀ a, a < 1 → ∀ b, b < 1 → a ≠ b → (TX2 a).2.1 ≠ (TX2 b).2.1 := by decide +kernel
theorem tyX2_ok : ∀ k, k < 1 → parseFieldDescriptor (TX2 k).2.2.1 = some (tyX2 k) := by decide +kernel
abbrev cX2_init : ByteArray := prog_4_method_1_code
def yX2_init : MethodName := ⟨RX2, "<init>", "()V"⟩
abbrev cX2_winnerOf : ByteArray := prog_4_method_2_code
def yX2_winnerOf : MethodName := ⟨RX2, "winnerOf", "(LCheapProofs$Tree;)I"⟩
abbrev cX2_sizeOf : ByteArray := prog_4_method_4_code
def yX2_sizeOf : MethodName := ⟨RX2, "sizeOf", "(LCheapProofs$Tree;)I"⟩
abbrev cX2_takeChildren : ByteArray := prog_4_method_5_code
def yX2_takeChildren : MethodName := ⟨RX2, "takeChildren", "(LCheapProofs$Tree;II)V"⟩
def RX3 : String := "CheapProofs$Reader"
def TX3 : u_T := fun k => match k with
  | 0 => ("CheapProofs$Reader", "text", "LCheapProofs$Text;", true)
  | 1 => ("CheapProofs$Reader", "draft", "LCheapProofs$Game;", true)
  | _ => ("CheapProofs$Reader", "at", "I", false)
def tyX3 : Nat → FieldType := fun k => match k with
  | 0 => .object "CheapProofs$Text"
  | 1 => .object "CheapProofs$Game"
  | _ => .int
abbrev wsX30 : List Cond := u_ws RX3 TX3 3
theorem nmX3 : ∀ a, a < 3 → ∀ b, b < 3 → a ≠ b → (TX3 a).2.1 ≠ (TX3 b).2.1 := by decide +kernel
theorem tyX3_ok : ∀ k, k < 3 → parseFieldDescriptor (TX3 k).2.2.1 = some (tyX3 k) := by decide +kernel
abbrev cX3_init : ByteArray := prog_5_method_1_code
def yX3_init : MethodName := ⟨RX3, "<init>", "(LCheapProofs$Text;)V"⟩
def RX4 : String := "CheapProofs$Rounds"
def TX4 : u_T := fun k => match k with
  | _ => ("CheapProofs$Rounds", "wonIn", "LCheapProofs$Row;", true)
def tyX4 : Nat → FieldType := fun k => match k with
  | _ => .object "CheapProofs$Row"
abbrev wsX40 : List Cond := u_ws RX4 TX4 1
theorem nmX4 : ∀ a, a < 1 → ∀ b, b < 1 → a ≠ b → (TX4 a).2.1 ≠ (TX4 b).2.1 := by decide +kernel
theorem tyX4_ok : ∀ k, k < 1 → parseFieldDescriptor (TX4 k).2.2.1 = some (tyX4 k) := by decide +kernel
abbrev cX4_init : ByteArray := prog_6_method_1_code
def yX4_init : MethodName := ⟨RX4, "<init>", "()V"⟩
abbrev cX4_workOut : ByteArray := prog_6_method_2_code
def yX4_workOut : MethodName := ⟨RX4, "workOut", "(LCheapProofs$Game;)V"⟩
abbrev cX4_playRound : ByteArray := prog_6_method_3_code
def yX4_playRound : MethodName := ⟨RX4, "playRound", "(LCheapProofs$Game;I)V"⟩
abbrev cX4_isWonBy : ByteArray := prog_6_method_4_code
def yX4_isWonBy : MethodName := ⟨RX4, "isWonBy", "(LCheapProofs$Game;II)Z"⟩
abbrev cX4_isWon : ByteArray := prog_6_method_5_code
def yX4_isWon : MethodName := ⟨RX4, "isWon", "(I)Z"⟩
abbrev cX4_roundOf : ByteArray := prog_6_method_6_code
def yX4_roundOf : MethodName := ⟨RX4, "roundOf", "(I)I"⟩
abbrev cX4_wonPositions : ByteArray := prog_6_method_7_code
def yX4_wonPositions : MethodName := ⟨RX4, "wonPositions", "()I"⟩
def RX5 : String := "CheapProofs$Row"
def TX5 : u_T := fun k => match k with
  | _ => ("CheapProofs$Row", "cells", "[I", true)
def tyX5 : Nat → FieldType := fun k => match k with
  | _ => .array .int
abbrev wsX50 : List Cond := u_ws RX5 TX5 1
theorem nmX5 : ∀ a, a < 1 → ∀ b, b < 1 → a ≠ b → (TX5 a).2.1 ≠ (TX5 b).2.1 := by decide +kernel
theorem tyX5_ok : ∀ k, k < 1 → parseFieldDescriptor (TX5 k).2.2.1 = some (tyX5 k) := by decide +kernel
abbrev cX5_init : ByteArray := prog_7_method_1_code
def yX5_init : MethodName := ⟨RX5, "<init>", "(I)V"⟩
abbrev cX5_get : ByteArray := prog_7_method_2_code
def yX5_get : MethodName := ⟨RX5, "get", "(I)I"⟩
abbrev cX5_set : ByteArray := prog_7_method_3_code
def yX5_set : MethodName := ⟨RX5, "set", "(II)V"⟩
abbrev cX5_fill : ByteArray := prog_7_method_4_code
def yX5_fill : MethodName := ⟨RX5, "fill", "(I)V"⟩
abbrev cX5_copyFrom : ByteArray := prog_7_method_5_code
def yX5_copyFrom : MethodName := ⟨RX5, "copyFrom", "(LCheapProofs$Row;)V"⟩
def RX6 : String := "CheapProofs$State"
def TX6 : u_T := fun k => match k with
  | 0 => ("CheapProofs$State", "game", "LCheapProofs$Game;", true)
  | _ => ("CheapProofs$State", "tree", "LCheapProofs$Tree;", true)
def tyX6 : Nat → FieldType := fun k => match k with
  | 0 => .object "CheapProofs$Game"
  | _ => .object "CheapProofs$Tree"
abbrev wsX60 : List Cond := u_ws RX6 TX6 2
theorem nmX6 : ∀ a, a < 2 → ∀ b, b < 2 → a ≠ b → (TX6 a).2.1 ≠ (TX6 b).2.1 := by decide +kernel
theorem tyX6_ok : ∀ k, k < 2 → parseFieldDescriptor (TX6 k).2.2.1 = some (tyX6 k) := by decide +kernel
abbrev cX6_init : ByteArray := prog_8_method_1_code
def yX6_init : MethodName := ⟨RX6, "<init>", "()V"⟩
abbrev cX6_copyFrom : ByteArray := prog_8_method_2_code
def yX6_copyFrom : MethodName := ⟨RX6, "copyFrom", "(LCheapProofs$State;)V"⟩
def RX7 : String := "CheapProofs$Text"
def TX7 : u_T := fun k => match k with
  | 0 => ("CheapProofs$Text", "signs", "[C", true)
  | _ => ("CheapProofs$Text", "length", "I", false)
def tyX7 : Nat → FieldType := fun k => match k with
  | 0 => .array .char
  | _ => .int
abbrev wsX70 : List Cond := u_ws RX7 TX7 2
theorem nmX7 : ∀ a, a < 2 → ∀ b, b < 2 → a ≠ b → (TX7 a).2.1 ≠ (TX7 b).2.1 := by decide +kernel
theorem tyX7_ok : ∀ k, k < 2 → parseFieldDescriptor (TX7 k).2.2.1 = some (tyX7 k) := by decide +kernel
abbrev cX7_init : ByteArray := prog_9_method_1_code
def yX7_init : MethodName := ⟨RX7, "<init>", "()V"⟩
def RX8 : String := "CheapProofs$Tree"
def TX8 : u_T := fun k => match k with
  | 0 => ("CheapProofs$Tree", "game", "LCheapProofs$Game;", true)
  | 1 => ("CheapProofs$Tree", "positions", "LCheapProofs$Row;", true)
  | 2 => ("CheapProofs$Tree", "parents", "LCheapProofs$Row;", true)
  | 3 => ("CheapProofs$Tree", "depths", "LCheapProofs$Row;", true)
  | 4 => ("CheapProofs$Tree", "proves", "LCheapProofs$Row;", true)
  | 5 => ("CheapProofs$Tree", "disproves", "LCheapProofs$Row;", true)
  | 6 => ("CheapProofs$Tree", "childCounts", "LCheapProofs$Row;", true)
  | 7 => ("CheapProofs$Tree", "firstChildren", "LCheapProofs$Row;", true)
  | 8 => ("CheapProofs$Tree", "loops", "LCheapProofs$Row;", true)
  | _ => ("CheapProofs$Tree", "size", "I", false)
def tyX8 : Nat → FieldType := fun k => match k with
  | 0 => .object "CheapProofs$Game"
  | 1 => .object "CheapProofs$Row"
  | 2 => .object "CheapProofs$Row"
  | 3 => .object "CheapProofs$Row"
  | 4 => .object "CheapProofs$Row"
  | 5 => .object "CheapProofs$Row"
  | 6 => .object "CheapProofs$Row"
  | 7 => .object "CheapProofs$Row"
  | 8 => .object "CheapProofs$Row"
  | _ => .int
abbrev wsX80 : List Cond := u_ws RX8 TX8 10
theorem nmX8 : ∀ a, a < 10 → ∀ b, b < 10 → a ≠ b → (TX8 a).2.1 ≠ (TX8 b).2.1 := by decide +kernel
theorem tyX8_ok : ∀ k, k < 10 → parseFieldDescriptor (TX8 k).2.2.1 = some (tyX8 k) := by decide +kernel
abbrev cX8_init : ByteArray := prog_10_method_1_code
def yX8_init : MethodName := ⟨RX8, "<init>", "(LCheapProofs$Game;)V"⟩
abbrev cX8_copyFrom : ByteArray := prog_10_method_2_code
def yX8_copyFrom : MethodName := ⟨RX8, "copyFrom", "(LCheapProofs$Tree;)V"⟩
abbrev cX8_clear : ByteArray := prog_10_method_3_code
def yX8_clear : MethodName := ⟨RX8, "clear", "()V"⟩
abbrev cX8_isEmpty : ByteArray := prog_10_method_4_code
def yX8_isEmpty : MethodName := ⟨RX8, "isEmpty", "()Z"⟩
abbrev cX8_has : ByteArray := prog_10_method_5_code
def yX8_has : MethodName := ⟨RX8, "has", "(I)Z"⟩
abbrev cX8_isLeaf : ByteArray := prog_10_method_6_code
def yX8_isLeaf : MethodName := ⟨RX8, "isLeaf", "(I)Z"⟩
abbrev cX8_endOfChildren : ByteArray := prog_10_method_7_code
def yX8_endOfChildren : MethodName := ⟨RX8, "endOfChildren", "(I)I"⟩
abbrev cX8_turnAt : ByteArray := prog_10_method_8_code
def yX8_turnAt : MethodName := ⟨RX8, "turnAt", "(I)I"⟩
abbrev cX8_outcome : ByteArray := prog_10_method_9_code
def yX8_outcome : MethodName := ⟨RX8, "outcome", "()I"⟩
abbrev cX8_plant : ByteArray := prog_10_method_10_code
def yX8_plant : MethodName := ⟨RX8, "plant", "(I)V"⟩
abbrev cX8_addLeaf : ByteArray := prog_10_method_11_code
def yX8_addLeaf : MethodName := ⟨RX8, "addLeaf", "(II)V"⟩
abbrev cX8_setLeafCosts : ByteArray := prog_10_method_12_code
def yX8_setLeafCosts : MethodName := ⟨RX8, "setLeafCosts", "(III)V"⟩
abbrev cX8_setCosts : ByteArray := prog_10_method_13_code
def yX8_setCosts : MethodName := ⟨RX8, "setCosts", "(III)V"⟩
abbrev cX8_isOnWayTo : ByteArray := prog_10_method_14_code
def yX8_isOnWayTo : MethodName := ⟨RX8, "isOnWayTo", "(II)Z"⟩
abbrev cX8_cheapestChild : ByteArray := prog_10_method_15_code
def yX8_cheapestChild : MethodName := ⟨RX8, "cheapestChild", "(I)I"⟩
abbrev cX8_leafOnWay : ByteArray := prog_10_method_16_code
def yX8_leafOnWay : MethodName := ⟨RX8, "leafOnWay", "()I"⟩
abbrev cX8_nodeOnWay : ByteArray := prog_10_method_17_code
def yX8_nodeOnWay : MethodName := ⟨RX8, "nodeOnWay", "(I)I"⟩
abbrev cX8_canGrow : ByteArray := prog_10_method_18_code
def yX8_canGrow : MethodName := ⟨RX8, "canGrow", "()Z"⟩
abbrev cX8_grow : ByteArray := prog_10_method_19_code
def yX8_grow : MethodName := ⟨RX8, "grow", "()V"⟩
abbrev cX8_workOutFrom : ByteArray := prog_10_method_20_code
def yX8_workOutFrom : MethodName := ⟨RX8, "workOutFrom", "(I)V"⟩
abbrev cX8_workOut : ByteArray := prog_10_method_21_code
def yX8_workOut : MethodName := ⟨RX8, "workOut", "(I)V"⟩
abbrev cX8_leastOfChildren : ByteArray := prog_10_method_22_code
def yX8_leastOfChildren : MethodName := ⟨RX8, "leastOfChildren", "(ILCheapProofs$Row;)I"⟩
abbrev cX8_sumOfChildren : ByteArray := prog_10_method_23_code
def yX8_sumOfChildren : MethodName := ⟨RX8, "sumOfChildren", "(ILCheapProofs$Row;)I"⟩
abbrev cX8_loopCount : ByteArray := prog_10_method_24_code
def yX8_loopCount : MethodName := ⟨RX8, "loopCount", "()I"⟩
abbrev cX8_openedCount : ByteArray := prog_10_method_25_code
def yX8_openedCount : MethodName := ⟨RX8, "openedCount", "()I"⟩
abbrev cX8_greatestDepth : ByteArray := prog_10_method_26_code
def yX8_greatestDepth : MethodName := ⟨RX8, "greatestDepth", "()I"⟩
def RX9 : String := "CheapProofs"
def TX9 : u_T := fun k => match k with
  | 0 => ("CheapProofs", "now", "LCheapProofs$State;", true)
  | 1 => ("CheapProofs", "snapshot", "LCheapProofs$State;", true)
  | 2 => ("CheapProofs", "hasSnapshot", "Z", false)
  | 3 => ("CheapProofs", "history", "LCheapProofs$History;", true)
  | 4 => ("CheapProofs", "text", "LCheapProofs$Text;", true)
  | 5 => ("CheapProofs", "reader", "LCheapProofs$Reader;", true)
  | 6 => ("CheapProofs", "rounds", "LCheapProofs$Rounds;", true)
  | _ => ("CheapProofs", "proof", "LCheapProofs$Proof;", true)
def tyX9 : Nat → FieldType := fun k => match k with
  | 0 => .object "CheapProofs$State"
  | 1 => .object "CheapProofs$State"
  | 2 => .boolean
  | 3 => .object "CheapProofs$History"
  | 4 => .object "CheapProofs$Text"
  | 5 => .object "CheapProofs$Reader"
  | 6 => .object "CheapProofs$Rounds"
  | _ => .object "CheapProofs$Proof"
abbrev wsX90 : List Cond := u_ws RX9 TX9 8
theorem nmX9 : ∀ a, a < 8 → ∀ b, b < 8 → a ≠ b → (TX9 a).2.1 ≠ (TX9 b).2.1 := by decide +kernel
theorem tyX9_ok : ∀ k, k < 8 → parseFieldDescriptor (TX9 k).2.2.1 = some (tyX9 k) := by decide +kernel
abbrev cX9_init : ByteArray := prog_1_method_1_code
def yX9_init : MethodName := ⟨RX9, "<init>", "()V"⟩
abbrev cX9_setPosition : ByteArray := prog_1_method_2_code
def yX9_setPosition : MethodName := ⟨RX9, "setPosition", "(III)I"⟩
abbrev cX9_guess : ByteArray := prog_1_method_3_code
def yX9_guess : MethodName := ⟨RX9, "guess", "(III)I"⟩
abbrev cX9_addMove : ByteArray := prog_1_method_4_code
def yX9_addMove : MethodName := ⟨RX9, "addMove", "(II)I"⟩
abbrev cX9_removeMove : ByteArray := prog_1_method_5_code
def yX9_removeMove : MethodName := ⟨RX9, "removeMove", "(II)I"⟩
abbrev cX9_begin : ByteArray := prog_1_method_7_code
def yX9_begin : MethodName := ⟨RX9, "begin", "(I)I"⟩
abbrev cX9_open : ByteArray := prog_1_method_8_code
def yX9_open : MethodName := ⟨RX9, "open", "(I)I"⟩
abbrev cX9_undo : ByteArray := prog_1_method_11_code
def yX9_undo : MethodName := ⟨RX9, "undo", "()I"⟩
abbrev cX9_keep : ByteArray := prog_1_method_12_code
def yX9_keep : MethodName := ⟨RX9, "keep", "()I"⟩
abbrev cX9_restore : ByteArray := prog_1_method_13_code
def yX9_restore : MethodName := ⟨RX9, "restore", "()I"⟩
abbrev cX9_position : ByteArray := prog_1_method_14_code
def yX9_position : MethodName := ⟨RX9, "position", "(II)I"⟩
abbrev cX9_move : ByteArray := prog_1_method_15_code
def yX9_move : MethodName := ⟨RX9, "move", "(II)I"⟩
abbrev cX9_node : ByteArray := prog_1_method_16_code
def yX9_node : MethodName := ⟨RX9, "node", "(II)I"⟩
abbrev cX9_way : ByteArray := prog_1_method_17_code
def yX9_way : MethodName := ⟨RX9, "way", "(I)I"⟩
abbrev cX9_proofSize : ByteArray := prog_1_method_19_code
def yX9_proofSize : MethodName := ⟨RX9, "proofSize", "()I"⟩
abbrev cX9_count : ByteArray := prog_1_method_20_code
def yX9_count : MethodName := ⟨RX9, "count", "(I)I"⟩
abbrev cX9_tellTree : ByteArray := prog_1_method_21_code
def yX9_tellTree : MethodName := ⟨RX9, "tellTree", "(LCheapProofs$Tree;I)I"⟩
abbrev cX9_isPosition : ByteArray := prog_1_method_22_code
def yX9_isPosition : MethodName := ⟨RX9, "isPosition", "(I)Z"⟩
abbrev cX9_isGuess : ByteArray := prog_1_method_23_code
def yX9_isGuess : MethodName := ⟨RX9, "isGuess", "(I)Z"⟩
def RX10 : String := "CheapProofsModel"
def TX10 : u_T := fun k => match k with
  | _ => ("", "", "", false)
def tyX10 : Nat → FieldType := fun k => match k with
  | _ => .int
abbrev wsX100 : List Cond := u_ws RX10 TX10 0
theorem nmX10 : ∀ a, a < 0 → ∀ b, b < 0 → a ≠ b → (TX10 a).2.1 ≠ (TX10 b).2.1 := by decide +kernel
theorem tyX10_ok : ∀ k, k < 0 → parseFieldDescriptor (TX10 k).2.2.1 = some (tyX10 k) := by decide +kernel
def RJ9 : String := "java/lang/Math"
def TJ9 : u_T := fun k => match k with
  | _ => ("", "", "", false)
def tyJ9 : Nat → FieldType := fun k => match k with
  | _ => .int
abbrev wsJ90 : List Cond := u_ws RJ9 TJ9 0
theorem nmJ9 : ∀ a, a < 0 → ∀ b, b < 0 → a ≠ b → (TJ9 a).2.1 ≠ (TJ9 b).2.1 := by decide +kernel
theorem tyJ9_ok : ∀ k, k < 0 → parseFieldDescriptor (TJ9 k).2.2.1 = some (tyJ9 k) := by decide +kernel
abbrev cJ9_max_7cf53 : ByteArray := prog_13_method_65_code
def yJ9_max_7cf53 : MethodName := ⟨RJ9, "max", "(II)I"⟩
abbrev cJ9_min_7cf53 : ByteArray := prog_13_method_69_code
def yJ9_min_7cf53 : MethodName := ⟨RJ9, "min", "(II)I"⟩
def RJ10 : String := "java/lang/System"
def TJ10 : u_T := fun k => match k with
  | _ => ("", "", "", false)
def tyJ10 : Nat → FieldType := fun k => match k with
  | _ => .int
abbrev wsJ100 : List Cond := u_ws RJ10 TJ10 0
theorem nmJ10 : ∀ a, a < 0 → ∀ b, b < 0 → a ≠ b → (TJ10 a).2.1 ≠ (TJ10 b).2.1 := by decide +kernel
theorem tyJ10_ok : ∀ k, k < 0 → parseFieldDescriptor (TJ10 k).2.2.1 = some (tyJ10 k) := by decide +kernel
def RL : String := "CheapProofsLaw"
abbrev cL_cell : ByteArray := method_2_code
def yL_cell : MethodName := ⟨RL, "cell", "([II)I"⟩
abbrev cL_low : ByteArray := method_3_code
def yL_low : MethodName := ⟨RL, "low", "(II)I"⟩
abbrev cL_digest : ByteArray := method_4_code
def yL_digest : MethodName := ⟨RL, "digest", "(LCheapProofs;)J"⟩
abbrev cL_act : ByteArray := method_5_code
def yL_act : MethodName := ⟨RL, "act", "(LCheapProofs;II)I"⟩
abbrev cL_holds : ByteArray := method_6_code
def yL_holds : MethodName := ⟨RL, "holds", "(LCheapProofs;)Z"⟩
abbrev cL_law : ByteArray := code
def yL_law : MethodName := ⟨RL, "law", "([I)Z"⟩
abbrev vwCl : List vw_C := [(RX0, TX0, 7), (RX1, TX1, 2), (RX2, TX2, 1), (RX3, TX3, 3), (RX4, TX4, 1), (RX5, TX5, 1), (RX6, TX6, 2), (RX7, TX7, 2), (RX8, TX8, 10), (RX9, TX9, 8)]
/-! the methods: class, name, bytes, locals, what is returned -/
abbrev MR : Type := String × MethodName × ByteArray × Nat × Option FieldType
def dec (my : MR) (pc : Nat) := decode my.2.2.1 pc
abbrev gw : List Cond := lw_tbl.filter goodWord
theorem gw_of {w : Cond} (i : Nat) (h : lw_tbl[i]? = some w) (hg : goodWord w = true) : w ∈ gw := List.mem_filter.mpr ⟨List.mem_of_getElem? h, hg⟩
def m_Gm_init : MR := (RX0, yX0_init, cX0_init, 1, (Option.none : Option Jvm.ClassFile.FieldType))
def m_Gm_copyFrom : MR := (RX0, yX0_copyFrom, cX0_copyFrom, 2, (Option.none : Option Jvm.ClassFile.FieldType))
def m_Gm_copyAllButGuesses : MR := (RX0, yX0_copyAllButGuesses, cX0_copyAllButGuesses, 2, (Option.none : Option Jvm.ClassFile.FieldType))
def m_Gm_isEnd : MR := (RX0, yX0_isEnd, cX0_isEnd, 2, (Option.some Jvm.ClassFile.FieldType.boolean))
def m_Gm_isWonEnd : MR := (RX0, yX0_isWonEnd, cX0_isWonEnd, 2, (Option.some Jvm.ClassFile.FieldType.boolean))
def m_Gm_targetOf : MR := (RX0, yX0_targetOf, cX0_targetOf, 3, (Option.some Jvm.ClassFile.FieldType.int))
def m_Gm_rankOf : MR := (RX0, yX0_rankOf, cX0_rankOf, 5, (Option.some Jvm.ClassFile.FieldType.int))
def m_Gm_append : MR := (RX0, yX0_append, cX0_append, 4, (Option.none : Option Jvm.ClassFile.FieldType))
def m_Gm_removeAt : MR := (RX0, yX0_removeAt, cX0_removeAt, 5, (Option.none : Option Jvm.ClassFile.FieldType))
def m_Hi_init : MR := (RX1, yX1_init, cX1_init, 2, (Option.none : Option Jvm.ClassFile.FieldType))
def m_Hi_remember : MR := (RX1, yX1_remember, cX1_remember, 2, (Option.none : Option Jvm.ClassFile.FieldType))
def m_Hi_takeLatest : MR := (RX1, yX1_takeLatest, cX1_takeLatest, 2, (Option.none : Option Jvm.ClassFile.FieldType))
def m_Hi_stateAt : MR := (RX1, yX1_stateAt, cX1_stateAt, 2, (Option.some (Jvm.ClassFile.FieldType.object "CheapProofs$State")))
def m_Hi_copy : MR := (RX1, yX1_copy, cX1_copy, 2, (Option.none : Option Jvm.ClassFile.FieldType))
def m_Hi_dropOldest : MR := (RX1, yX1_dropOldest, cX1_dropOldest, 3, (Option.none : Option Jvm.ClassFile.FieldType))
def m_Pf_init : MR := (RX2, yX2_init, cX2_init, 1, (Option.none : Option Jvm.ClassFile.FieldType))
def m_Pf_winnerOf : MR := (RX2, yX2_winnerOf, cX2_winnerOf, 1, (Option.some Jvm.ClassFile.FieldType.int))
def m_Pf_sizeOf : MR := (RX2, yX2_sizeOf, cX2_sizeOf, 5, (Option.some Jvm.ClassFile.FieldType.int))
def m_Pf_takeChildren : MR := (RX2, yX2_takeChildren, cX2_takeChildren, 6, (Option.none : Option Jvm.ClassFile.FieldType))
def m_Rd_init : MR := (RX3, yX3_init, cX3_init, 2, (Option.none : Option Jvm.ClassFile.FieldType))
def m_Ro_init : MR := (RX4, yX4_init, cX4_init, 1, (Option.none : Option Jvm.ClassFile.FieldType))
def m_Ro_workOut : MR := (RX4, yX4_workOut, cX4_workOut, 3, (Option.none : Option Jvm.ClassFile.FieldType))
def m_Ro_playRound : MR := (RX4, yX4_playRound, cX4_playRound, 4, (Option.none : Option Jvm.ClassFile.FieldType))
def m_Ro_isWonBy : MR := (RX4, yX4_isWonBy, cX4_isWonBy, 8, (Option.some Jvm.ClassFile.FieldType.boolean))
def m_Ro_isWon : MR := (RX4, yX4_isWon, cX4_isWon, 2, (Option.some Jvm.ClassFile.FieldType.boolean))
def m_Ro_roundOf : MR := (RX4, yX4_roundOf, cX4_roundOf, 2, (Option.some Jvm.ClassFile.FieldType.int))
def m_Ro_wonPositions : MR := (RX4, yX4_wonPositions, cX4_wonPositions, 3, (Option.some Jvm.ClassFile.FieldType.int))
def m_Rw_init : MR := (RX5, yX5_init, cX5_init, 2, (Option.none : Option Jvm.ClassFile.FieldType))
def m_Rw_get : MR := (RX5, yX5_get, cX5_get, 2, (Option.some Jvm.ClassFile.FieldType.int))
def m_Rw_set : MR := (RX5, yX5_set, cX5_set, 3, (Option.none : Option Jvm.ClassFile.FieldType))
def m_Rw_fill : MR := (RX5, yX5_fill, cX5_fill, 3, (Option.none : Option Jvm.ClassFile.FieldType))
def m_Rw_copyFrom : MR := (RX5, yX5_copyFrom, cX5_copyFrom, 2, (Option.none : Option Jvm.ClassFile.FieldType))
def m_St_init : MR := (RX6, yX6_init, cX6_init, 1, (Option.none : Option Jvm.ClassFile.FieldType))
def m_St_copyFrom : MR := (RX6, yX6_copyFrom, cX6_copyFrom, 2, (Option.none : Option Jvm.ClassFile.FieldType))
def m_Tx_init : MR := (RX7, yX7_init, cX7_init, 1, (Option.none : Option Jvm.ClassFile.FieldType))
def m_Tr_init : MR := (RX8, yX8_init, cX8_init, 2, (Option.none : Option Jvm.ClassFile.FieldType))
def m_Tr_copyFrom : MR := (RX8, yX8_copyFrom, cX8_copyFrom, 2, (Option.none : Option Jvm.ClassFile.FieldType))
def m_Tr_clear : MR := (RX8, yX8_clear, cX8_clear, 1, (Option.none : Option Jvm.ClassFile.FieldType))
def m_Tr_isEmpty : MR := (RX8, yX8_isEmpty, cX8_isEmpty, 1, (Option.some Jvm.ClassFile.FieldType.boolean))
def m_Tr_has : MR := (RX8, yX8_has, cX8_has, 2, (Option.some Jvm.ClassFile.FieldType.boolean))
def m_Tr_isLeaf : MR := (RX8, yX8_isLeaf, cX8_isLeaf, 2, (Option.some Jvm.ClassFile.FieldType.boolean))
def m_Tr_endOfChildren : MR := (RX8, yX8_endOfChildren, cX8_endOfChildren, 2, (Option.some Jvm.ClassFile.FieldType.int))
def m_Tr_turnAt : MR := (RX8, yX8_turnAt, cX8_turnAt, 2, (Option.some Jvm.ClassFile.FieldType.int))
def m_Tr_outcome : MR := (RX8, yX8_outcome, cX8_outcome, 1, (Option.some Jvm.ClassFile.FieldType.int))
def m_Tr_plant : MR := (RX8, yX8_plant, cX8_plant, 2, (Option.none : Option Jvm.ClassFile.FieldType))
def m_Tr_addLeaf : MR := (RX8, yX8_addLeaf, cX8_addLeaf, 4, (Option.none : Option Jvm.ClassFile.FieldType))
def m_Tr_setLeafCosts : MR := (RX8, yX8_setLeafCosts, cX8_setLeafCosts, 5, (Option.none : Option Jvm.ClassFile.FieldType))
def m_Tr_setCosts : MR := (RX8, yX8_setCosts, cX8_setCosts, 4, (Option.none : Option Jvm.ClassFile.FieldType))
def m_Tr_isOnWayTo : MR := (RX8, yX8_isOnWayTo, cX8_isOnWayTo, 5, (Option.some Jvm.ClassFile.FieldType.boolean))
def m_Tr_cheapestChild : MR := (RX8, yX8_cheapestChild, cX8_cheapestChild, 6, (Option.some Jvm.ClassFile.FieldType.int))
def m_Tr_leafOnWay : MR := (RX8, yX8_leafOnWay, cX8_leafOnWay, 3, (Option.some Jvm.ClassFile.FieldType.int))
def m_Tr_nodeOnWay : MR := (RX8, yX8_nodeOnWay, cX8_nodeOnWay, 4, (Option.some Jvm.ClassFile.FieldType.int))
def m_Tr_canGrow : MR := (RX8, yX8_canGrow, cX8_canGrow, 1, (Option.some Jvm.ClassFile.FieldType.boolean))
def m_Tr_grow : MR := (RX8, yX8_grow, cX8_grow, 5, (Option.none : Option Jvm.ClassFile.FieldType))
def m_Tr_workOutFrom : MR := (RX8, yX8_workOutFrom, cX8_workOutFrom, 4, (Option.none : Option Jvm.ClassFile.FieldType))
def m_Tr_workOut : MR := (RX8, yX8_workOut, cX8_workOut, 2, (Option.none : Option Jvm.ClassFile.FieldType))
def m_Tr_leastOfChildren : MR := (RX8, yX8_leastOfChildren, cX8_leastOfChildren, 6, (Option.some Jvm.ClassFile.FieldType.int))
def m_Tr_sumOfChildren : MR := (RX8, yX8_sumOfChildren, cX8_sumOfChildren, 6, (Option.some Jvm.ClassFile.FieldType.int))
def m_Tr_loopCount : MR := (RX8, yX8_loopCount, cX8_loopCount, 3, (Option.some Jvm.ClassFile.FieldType.int))
def m_Tr_openedCount : MR := (RX8, yX8_openedCount, cX8_openedCount, 3, (Option.some Jvm.ClassFile.FieldType.int))
def m_Tr_greatestDepth : MR := (RX8, yX8_greatestDepth, cX8_greatestDepth, 3, (Option.some Jvm.ClassFile.FieldType.int))
def m_Cp_init : MR := (RX9, yX9_init, cX9_init, 1, (Option.none : Option Jvm.ClassFile.FieldType))
def m_Cp_setPosition : MR := (RX9, yX9_setPosition, cX9_setPosition, 6, (Option.some Jvm.ClassFile.FieldType.int))
def m_Cp_guess : MR := (RX9, yX9_guess, cX9_guess, 6, (Option.some Jvm.ClassFile.FieldType.int))
def m_Cp_addMove : MR := (RX9, yX9_addMove, cX9_addMove, 4, (Option.some Jvm.ClassFile.FieldType.int))
def m_Cp_removeMove : MR := (RX9, yX9_removeMove, cX9_removeMove, 5, (Option.some Jvm.ClassFile.FieldType.int))
def m_Cp_begin : MR := (RX9, yX9_begin, cX9_begin, 2, (Option.some Jvm.ClassFile.FieldType.int))
def m_Cp_open : MR := (RX9, yX9_open, cX9_open, 4, (Option.some Jvm.ClassFile.FieldType.int))
def m_Cp_undo : MR := (RX9, yX9_undo, cX9_undo, 1, (Option.some Jvm.ClassFile.FieldType.int))
def m_Cp_keep : MR := (RX9, yX9_keep, cX9_keep, 1, (Option.some Jvm.ClassFile.FieldType.int))
def m_Cp_restore : MR := (RX9, yX9_restore, cX9_restore, 1, (Option.some Jvm.ClassFile.FieldType.int))
def m_Cp_position : MR := (RX9, yX9_position, cX9_position, 4, (Option.some Jvm.ClassFile.FieldType.int))
def m_Cp_move : MR := (RX9, yX9_move, cX9_move, 3, (Option.some Jvm.ClassFile.FieldType.int))
def m_Cp_node : MR := (RX9, yX9_node, cX9_node, 4, (Option.some Jvm.ClassFile.FieldType.int))
def m_Cp_way : MR := (RX9, yX9_way, cX9_way, 2, (Option.some Jvm.ClassFile.FieldType.int))
def m_Cp_proofSize : MR := (RX9, yX9_proofSize, cX9_proofSize, 1, (Option.some Jvm.ClassFile.FieldType.int))
def m_Cp_count : MR := (RX9, yX9_count, cX9_count, 2, (Option.some Jvm.ClassFile.FieldType.int))
def m_Cp_tellTree : MR := (RX9, yX9_tellTree, cX9_tellTree, 2, (Option.some Jvm.ClassFile.FieldType.int))
def m_Cp_isPosition : MR := (RX9, yX9_isPosition, cX9_isPosition, 1, (Option.some Jvm.ClassFile.FieldType.boolean))
def m_Cp_isGuess : MR := (RX9, yX9_isGuess, cX9_isGuess, 1, (Option.some Jvm.ClassFile.FieldType.boolean))
def m_Lw_cell : MR := (RL, yL_cell, cL_cell, 2, (Option.some Jvm.ClassFile.FieldType.int))
def m_Lw_low : MR := (RL, yL_low, cL_low, 2, (Option.some Jvm.ClassFile.FieldType.int))
def m_Lw_digest : MR := (RL, yL_digest, cL_digest, 5, (Option.some Jvm.ClassFile.FieldType.long))
def m_Lw_act : MR := (RL, yL_act, cL_act, 5, (Option.some Jvm.ClassFile.FieldType.int))
def m_Lw_holds : MR := (RL, yL_holds, cL_holds, 10, (Option.some Jvm.ClassFile.FieldType.boolean))
def m_Lw_law : MR := (RL, yL_law, cL_law, 14, ret)
end
section
theorem d_Gm_init_0 : dec m_Gm_init 0 = .ok (.aload_n 0, 1) := by decide +kernel
theorem d_Gm_init_1 : dec m_Gm_init 1 = .ok (.invokespecial 3, 3) := by decide +kernel
theorem d_Gm_init_4 : dec m_Gm_init 4 = .ok (.aload_n 0, 1) := by decide +kernel
theorem d_Gm_init_5 : dec m_Gm_init 5 = .ok (.new 9, 3) := by decide +kernel
theorem d_Gm_init_8 : dec m_Gm_init 8 = .ok (.dup, 1) := by decide +kernel
theorem d_Gm_init_9 : dec m_Gm_init 9 = .ok (.bipush 20, 2) := by decide +kernel
theorem d_Gm_init_11 : dec m_Gm_init 11 = .ok (.invokespecial 11, 3) := by decide +kernel
theorem d_Gm_init_14 : dec m_Gm_init 14 = .ok (.putfield 14, 3) := by decide +kernel
theorem d_Gm_init_17 : dec m_Gm_init 17 = .ok (.aload_n 0, 1) := by decide +kernel
theorem d_Gm_init_18 : dec m_Gm_init 18 = .ok (.new 9, 3) := by decide +kernel
theorem d_Gm_init_21 : dec m_Gm_init 21 = .ok (.dup, 1) := by decide +kernel
theorem d_Gm_init_22 : dec m_Gm_init 22 = .ok (.bipush 20, 2) := by decide +kernel
theorem d_Gm_init_24 : dec m_Gm_init 24 = .ok (.invokespecial 11, 3) := by decide +kernel
theorem d_Gm_init_27 : dec m_Gm_init 27 = .ok (.putfield 20, 3) := by decide +kernel
theorem d_Gm_init_30 : dec m_Gm_init 30 = .ok (.aload_n 0, 1) := by decide +kernel
theorem d_Gm_init_31 : dec m_Gm_init 31 = .ok (.new 9, 3) := by decide +kernel
theorem d_Gm_init_34 : dec m_Gm_init 34 = .ok (.dup, 1) := by decide +kernel
theorem d_Gm_init_35 : dec m_Gm_init 35 = .ok (.bipush 20, 2) := by decide +kernel
theorem d_Gm_init_37 : dec m_Gm_init 37 = .ok (.invokespecial 11, 3) := by decide +kernel
theorem d_Gm_init_40 : dec m_Gm_init 40 = .ok (.putfield 23, 3) := by decide +kernel
theorem d_Gm_init_43 : dec m_Gm_init 43 = .ok (.aload_n 0, 1) := by decide +kernel
theorem d_Gm_init_44 : dec m_Gm_init 44 = .ok (.new 9, 3) := by decide +kernel
theorem d_Gm_init_47 : dec m_Gm_init 47 = .ok (.dup, 1) := by decide +kernel
theorem d_Gm_init_48 : dec m_Gm_init 48 = .ok (.bipush 20, 2) := by decide +kernel
theorem d_Gm_init_50 : dec m_Gm_init 50 = .ok (.invokespecial 11, 3) := by decide +kernel
theorem d_Gm_init_53 : dec m_Gm_init 53 = .ok (.putfield 26, 3) := by decide +kernel
theorem d_Gm_init_56 : dec m_Gm_init 56 = .ok (.aload_n 0, 1) := by decide +kernel
theorem d_Gm_init_57 : dec m_Gm_init 57 = .ok (.new 9, 3) := by decide +kernel
theorem d_Gm_init_60 : dec m_Gm_init 60 = .ok (.dup, 1) := by decide +kernel
theorem d_Gm_init_61 : dec m_Gm_init 61 = .ok (.bipush 20, 2) := by decide +kernel
theorem d_Gm_init_63 : dec m_Gm_init 63 = .ok (.invokespecial 11, 3) := by decide +kernel
theorem d_Gm_init_66 : dec m_Gm_init 66 = .ok (.putfield 29, 3) := by decide +kernel
theorem d_Gm_init_69 : dec m_Gm_init 69 = .ok (.aload_n 0, 1) := by decide +kernel
theorem d_Gm_init_70 : dec m_Gm_init 70 = .ok (.new 9, 3) := by decide +kernel
theorem d_Gm_init_73 : dec m_Gm_init 73 = .ok (.dup, 1) := by decide +kernel
theorem d_Gm_init_74 : dec m_Gm_init 74 = .ok (.sipush 400, 3) := by decide +kernel
theorem d_Gm_init_77 : dec m_Gm_init 77 = .ok (.invokespecial 11, 3) := by decide +kernel
theorem d_Gm_init_80 : dec m_Gm_init 80 = .ok (.putfield 32, 3) := by decide +kernel
theorem d_Gm_init_83 : dec m_Gm_init 83 = .ok (.aload_n 0, 1) := by decide +kernel
theorem d_Gm_init_84 : dec m_Gm_init 84 = .ok (.getfield 23, 3) := by decide +kernel
theorem d_Gm_init_87 : dec m_Gm_init 87 = .ok (.iconst 1, 1) := by decide +kernel
theorem d_Gm_init_88 : dec m_Gm_init 88 = .ok (.invokevirtual 35, 3) := by decide +kernel
theorem d_Gm_init_91 : dec m_Gm_init 91 = .ok (.aload_n 0, 1) := by decide +kernel
theorem d_Gm_init_92 : dec m_Gm_init 92 = .ok (.getfield 26, 3) := by decide +kernel
theorem d_Gm_init_95 : dec m_Gm_init 95 = .ok (.iconst 1, 1) := by decide +kernel
theorem d_Gm_init_96 : dec m_Gm_init 96 = .ok (.invokevirtual 35, 3) := by decide +kernel
theorem d_Gm_init_99 : dec m_Gm_init 99 = .ok (.return_, 1) := by decide +kernel
theorem d_Gm_copyFrom_0 : dec m_Gm_copyFrom 0 = .ok (.aload_n 0, 1) := by decide +kernel
theorem d_Gm_copyFrom_1 : dec m_Gm_copyFrom 1 = .ok (.aload_n 1, 1) := by decide +kernel
theorem d_Gm_copyFrom_2 : dec m_Gm_copyFrom 2 = .ok (.invokevirtual 38, 3) := by decide +kernel
theorem d_Gm_copyFrom_5 : dec m_Gm_copyFrom 5 = .ok (.aload_n 0, 1) := by decide +kernel
theorem d_Gm_copyFrom_6 : dec m_Gm_copyFrom 6 = .ok (.getfield 23, 3) := by decide +kernel
theorem d_Gm_copyFrom_9 : dec m_Gm_copyFrom 9 = .ok (.aload_n 1, 1) := by decide +kernel
theorem d_Gm_copyFrom_10 : dec m_Gm_copyFrom 10 = .ok (.getfield 23, 3) := by decide +kernel
theorem d_Gm_copyFrom_13 : dec m_Gm_copyFrom 13 = .ok (.invokevirtual 42, 3) := by decide +kernel
theorem d_Gm_copyFrom_16 : dec m_Gm_copyFrom 16 = .ok (.aload_n 0, 1) := by decide +kernel
theorem d_Gm_copyFrom_17 : dec m_Gm_copyFrom 17 = .ok (.getfield 26, 3) := by decide +kernel
theorem d_Gm_copyFrom_20 : dec m_Gm_copyFrom 20 = .ok (.aload_n 1, 1) := by decide +kernel
theorem d_Gm_copyFrom_21 : dec m_Gm_copyFrom 21 = .ok (.getfield 26, 3) := by decide +kernel
theorem d_Gm_copyFrom_24 : dec m_Gm_copyFrom 24 = .ok (.invokevirtual 42, 3) := by decide +kernel
theorem d_Gm_copyFrom_27 : dec m_Gm_copyFrom 27 = .ok (.return_, 1) := by decide +kernel
theorem d_Gm_copyAllButGuesses_0 : dec m_Gm_copyAllButGuesses 0 = .ok (.aload_n 0, 1) := by decide +kernel
theorem d_Gm_copyAllButGuesses_1 : dec m_Gm_copyAllButGuesses 1 = .ok (.getfield 14, 3) := by decide +kernel
theorem d_Gm_copyAllButGuesses_4 : dec m_Gm_copyAllButGuesses 4 = .ok (.aload_n 1, 1) := by decide +kernel
theorem d_Gm_copyAllButGuesses_5 : dec m_Gm_copyAllButGuesses 5 = .ok (.getfield 14, 3) := by decide +kernel
theorem d_Gm_copyAllButGuesses_8 : dec m_Gm_copyAllButGuesses 8 = .ok (.invokevirtual 42, 3) := by decide +kernel
theorem d_Gm_copyAllButGuesses_11 : dec m_Gm_copyAllButGuesses 11 = .ok (.aload_n 0, 1) := by decide +kernel
theorem d_Gm_copyAllButGuesses_12 : dec m_Gm_copyAllButGuesses 12 = .ok (.getfield 20, 3) := by decide +kernel
theorem d_Gm_copyAllButGuesses_15 : dec m_Gm_copyAllButGuesses 15 = .ok (.aload_n 1, 1) := by decide +kernel
theorem d_Gm_copyAllButGuesses_16 : dec m_Gm_copyAllButGuesses 16 = .ok (.getfield 20, 3) := by decide +kernel
theorem d_Gm_copyAllButGuesses_19 : dec m_Gm_copyAllButGuesses 19 = .ok (.invokevirtual 42, 3) := by decide +kernel
theorem d_Gm_copyAllButGuesses_22 : dec m_Gm_copyAllButGuesses 22 = .ok (.aload_n 0, 1) := by decide +kernel
theorem d_Gm_copyAllButGuesses_23 : dec m_Gm_copyAllButGuesses 23 = .ok (.getfield 29, 3) := by decide +kernel
theorem d_Gm_copyAllButGuesses_26 : dec m_Gm_copyAllButGuesses 26 = .ok (.aload_n 1, 1) := by decide +kernel
theorem d_Gm_copyAllButGuesses_27 : dec m_Gm_copyAllButGuesses 27 = .ok (.getfield 29, 3) := by decide +kernel
theorem d_Gm_copyAllButGuesses_30 : dec m_Gm_copyAllButGuesses 30 = .ok (.invokevirtual 42, 3) := by decide +kernel
theorem d_Gm_copyAllButGuesses_33 : dec m_Gm_copyAllButGuesses 33 = .ok (.aload_n 0, 1) := by decide +kernel
theorem d_Gm_copyAllButGuesses_34 : dec m_Gm_copyAllButGuesses 34 = .ok (.getfield 32, 3) := by decide +kernel
theorem d_Gm_copyAllButGuesses_37 : dec m_Gm_copyAllButGuesses 37 = .ok (.aload_n 1, 1) := by decide +kernel
theorem d_Gm_copyAllButGuesses_38 : dec m_Gm_copyAllButGuesses 38 = .ok (.getfield 32, 3) := by decide +kernel
theorem d_Gm_copyAllButGuesses_41 : dec m_Gm_copyAllButGuesses 41 = .ok (.invokevirtual 42, 3) := by decide +kernel
theorem d_Gm_copyAllButGuesses_44 : dec m_Gm_copyAllButGuesses 44 = .ok (.aload_n 0, 1) := by decide +kernel
theorem d_Gm_copyAllButGuesses_45 : dec m_Gm_copyAllButGuesses 45 = .ok (.aload_n 1, 1) := by decide +kernel
theorem d_Gm_copyAllButGuesses_46 : dec m_Gm_copyAllButGuesses 46 = .ok (.getfield 46, 3) := by decide +kernel
theorem d_Gm_copyAllButGuesses_49 : dec m_Gm_copyAllButGuesses 49 = .ok (.putfield 46, 3) := by decide +kernel
theorem d_Gm_copyAllButGuesses_52 : dec m_Gm_copyAllButGuesses 52 = .ok (.return_, 1) := by decide +kernel
theorem d_Gm_isEnd_0 : dec m_Gm_isEnd 0 = .ok (.aload_n 0, 1) := by decide +kernel
theorem d_Gm_isEnd_1 : dec m_Gm_isEnd 1 = .ok (.getfield 20, 3) := by decide +kernel
theorem d_Gm_isEnd_4 : dec m_Gm_isEnd 4 = .ok (.iload_n 1, 1) := by decide +kernel
theorem d_Gm_isEnd_5 : dec m_Gm_isEnd 5 = .ok (.invokevirtual 50, 3) := by decide +kernel
theorem d_Gm_isEnd_8 : dec m_Gm_isEnd 8 = .ok (.ifCond .ne 14, 3) := by decide +kernel
theorem d_Gm_isEnd_11 : dec m_Gm_isEnd 11 = .ok (.aload_n 0, 1) := by decide +kernel
theorem d_Gm_isEnd_12 : dec m_Gm_isEnd 12 = .ok (.getfield 29, 3) := by decide +kernel
theorem d_Gm_isEnd_15 : dec m_Gm_isEnd 15 = .ok (.iload_n 1, 1) := by decide +kernel
theorem d_Gm_isEnd_16 : dec m_Gm_isEnd 16 = .ok (.invokevirtual 50, 3) := by decide +kernel
theorem d_Gm_isEnd_19 : dec m_Gm_isEnd 19 = .ok (.ifCond .ne 7, 3) := by decide +kernel
theorem d_Gm_isEnd_22 : dec m_Gm_isEnd 22 = .ok (.iconst 1, 1) := by decide +kernel
theorem d_Gm_isEnd_23 : dec m_Gm_isEnd 23 = .ok (.goto 4, 3) := by decide +kernel
theorem d_Gm_isEnd_26 : dec m_Gm_isEnd 26 = .ok (.iconst 0, 1) := by decide +kernel
theorem d_Gm_isEnd_27 : dec m_Gm_isEnd 27 = .ok (.ireturn, 1) := by decide +kernel
theorem d_Gm_isWonEnd_0 : dec m_Gm_isWonEnd 0 = .ok (.aload_n 0, 1) := by decide +kernel
theorem d_Gm_isWonEnd_1 : dec m_Gm_isWonEnd 1 = .ok (.getfield 20, 3) := by decide +kernel
theorem d_Gm_isWonEnd_4 : dec m_Gm_isWonEnd 4 = .ok (.iload_n 1, 1) := by decide +kernel
theorem d_Gm_isWonEnd_5 : dec m_Gm_isWonEnd 5 = .ok (.invokevirtual 50, 3) := by decide +kernel
theorem d_Gm_isWonEnd_8 : dec m_Gm_isWonEnd 8 = .ok (.iconst 1, 1) := by decide +kernel
theorem d_Gm_isWonEnd_9 : dec m_Gm_isWonEnd 9 = .ok (.if_icmp .ne 7, 3) := by decide +kernel
theorem d_Gm_isWonEnd_12 : dec m_Gm_isWonEnd 12 = .ok (.iconst 1, 1) := by decide +kernel
theorem d_Gm_isWonEnd_13 : dec m_Gm_isWonEnd 13 = .ok (.goto 4, 3) := by decide +kernel
theorem d_Gm_isWonEnd_16 : dec m_Gm_isWonEnd 16 = .ok (.iconst 0, 1) := by decide +kernel
theorem d_Gm_isWonEnd_17 : dec m_Gm_isWonEnd 17 = .ok (.ireturn, 1) := by decide +kernel
theorem d_Gm_targetOf_0 : dec m_Gm_targetOf 0 = .ok (.iload_n 2, 1) := by decide +kernel
theorem d_Gm_targetOf_1 : dec m_Gm_targetOf 1 = .ok (.ifCond .lt 15, 3) := by decide +kernel
theorem d_Gm_targetOf_4 : dec m_Gm_targetOf 4 = .ok (.iload_n 2, 1) := by decide +kernel
theorem d_Gm_targetOf_5 : dec m_Gm_targetOf 5 = .ok (.aload_n 0, 1) := by decide +kernel
theorem d_Gm_targetOf_6 : dec m_Gm_targetOf 6 = .ok (.getfield 29, 3) := by decide +kernel
theorem d_Gm_targetOf_9 : dec m_Gm_targetOf 9 = .ok (.iload_n 1, 1) := by decide +kernel
theorem d_Gm_targetOf_10 : dec m_Gm_targetOf 10 = .ok (.invokevirtual 50, 3) := by decide +kernel
theorem d_Gm_targetOf_13 : dec m_Gm_targetOf 13 = .ok (.if_icmp .lt 6, 3) := by decide +kernel
theorem d_Gm_targetOf_16 : dec m_Gm_targetOf 16 = .ok (.bipush (-5), 2) := by decide +kernel
theorem d_Gm_targetOf_18 : dec m_Gm_targetOf 18 = .ok (.ireturn, 1) := by decide +kernel
theorem d_Gm_targetOf_19 : dec m_Gm_targetOf 19 = .ok (.aload_n 0, 1) := by decide +kernel
theorem d_Gm_targetOf_20 : dec m_Gm_targetOf 20 = .ok (.getfield 32, 3) := by decide +kernel
theorem d_Gm_targetOf_23 : dec m_Gm_targetOf 23 = .ok (.iload_n 1, 1) := by decide +kernel
theorem d_Gm_targetOf_24 : dec m_Gm_targetOf 24 = .ok (.bipush 20, 2) := by decide +kernel
theorem d_Gm_targetOf_26 : dec m_Gm_targetOf 26 = .ok (.imul, 1) := by decide +kernel
theorem d_Gm_targetOf_27 : dec m_Gm_targetOf 27 = .ok (.iload_n 2, 1) := by decide +kernel
theorem d_Gm_targetOf_28 : dec m_Gm_targetOf 28 = .ok (.iadd, 1) := by decide +kernel
theorem d_Gm_targetOf_29 : dec m_Gm_targetOf 29 = .ok (.invokevirtual 50, 3) := by decide +kernel
theorem d_Gm_targetOf_32 : dec m_Gm_targetOf 32 = .ok (.ireturn, 1) := by decide +kernel
theorem d_Gm_rankOf_0 : dec m_Gm_rankOf 0 = .ok (.aload_n 0, 1) := by decide +kernel
theorem d_Gm_rankOf_1 : dec m_Gm_rankOf 1 = .ok (.getfield 29, 3) := by decide +kernel
theorem d_Gm_rankOf_4 : dec m_Gm_rankOf 4 = .ok (.iload_n 1, 1) := by decide +kernel
theorem d_Gm_rankOf_5 : dec m_Gm_rankOf 5 = .ok (.invokevirtual 50, 3) := by decide +kernel
theorem d_Gm_rankOf_8 : dec m_Gm_rankOf 8 = .ok (.istore_n 3, 1) := by decide +kernel
theorem d_Gm_rankOf_9 : dec m_Gm_rankOf 9 = .ok (.iconst 0, 1) := by decide +kernel
theorem d_Gm_rankOf_10 : dec m_Gm_rankOf 10 = .ok (.istore 4, 2) := by decide +kernel
theorem d_Gm_rankOf_12 : dec m_Gm_rankOf 12 = .ok (.iload 4, 2) := by decide +kernel
theorem d_Gm_rankOf_14 : dec m_Gm_rankOf 14 = .ok (.iload_n 3, 1) := by decide +kernel
theorem d_Gm_rankOf_15 : dec m_Gm_rankOf 15 = .ok (.if_icmp .ge 23, 3) := by decide +kernel
theorem d_Gm_rankOf_18 : dec m_Gm_rankOf 18 = .ok (.aload_n 0, 1) := by decide +kernel
theorem d_Gm_rankOf_19 : dec m_Gm_rankOf 19 = .ok (.iload_n 1, 1) := by decide +kernel
theorem d_Gm_rankOf_20 : dec m_Gm_rankOf 20 = .ok (.iload 4, 2) := by decide +kernel
theorem d_Gm_rankOf_22 : dec m_Gm_rankOf 22 = .ok (.invokevirtual 54, 3) := by decide +kernel
theorem d_Gm_rankOf_25 : dec m_Gm_rankOf 25 = .ok (.iload_n 2, 1) := by decide +kernel
theorem d_Gm_rankOf_26 : dec m_Gm_rankOf 26 = .ok (.if_icmp .ne 6, 3) := by decide +kernel
theorem d_Gm_rankOf_29 : dec m_Gm_rankOf 29 = .ok (.iload 4, 2) := by decide +kernel
theorem d_Gm_rankOf_31 : dec m_Gm_rankOf 31 = .ok (.ireturn, 1) := by decide +kernel
theorem d_Gm_rankOf_32 : dec m_Gm_rankOf 32 = .ok (.iinc 4 1, 3) := by decide +kernel
theorem d_Gm_rankOf_35 : dec m_Gm_rankOf 35 = .ok (.goto (-23), 3) := by decide +kernel
theorem d_Gm_rankOf_38 : dec m_Gm_rankOf 38 = .ok (.bipush (-5), 2) := by decide +kernel
theorem d_Gm_rankOf_40 : dec m_Gm_rankOf 40 = .ok (.ireturn, 1) := by decide +kernel
theorem d_Gm_append_0 : dec m_Gm_append 0 = .ok (.aload_n 0, 1) := by decide +kernel
theorem d_Gm_append_1 : dec m_Gm_append 1 = .ok (.getfield 29, 3) := by decide +kernel
theorem d_Gm_append_4 : dec m_Gm_append 4 = .ok (.iload_n 1, 1) := by decide +kernel
theorem d_Gm_append_5 : dec m_Gm_append 5 = .ok (.invokevirtual 50, 3) := by decide +kernel
theorem d_Gm_append_8 : dec m_Gm_append 8 = .ok (.istore_n 3, 1) := by decide +kernel
theorem d_Gm_append_9 : dec m_Gm_append 9 = .ok (.aload_n 0, 1) := by decide +kernel
theorem d_Gm_append_10 : dec m_Gm_append 10 = .ok (.getfield 32, 3) := by decide +kernel
theorem d_Gm_append_13 : dec m_Gm_append 13 = .ok (.iload_n 1, 1) := by decide +kernel
theorem d_Gm_append_14 : dec m_Gm_append 14 = .ok (.bipush 20, 2) := by decide +kernel
theorem d_Gm_append_16 : dec m_Gm_append 16 = .ok (.imul, 1) := by decide +kernel
theorem d_Gm_append_17 : dec m_Gm_append 17 = .ok (.iload_n 3, 1) := by decide +kernel
theorem d_Gm_append_18 : dec m_Gm_append 18 = .ok (.iadd, 1) := by decide +kernel
theorem d_Gm_append_19 : dec m_Gm_append 19 = .ok (.iload_n 2, 1) := by decide +kernel
theorem d_Gm_append_20 : dec m_Gm_append 20 = .ok (.invokevirtual 58, 3) := by decide +kernel
theorem d_Gm_append_23 : dec m_Gm_append 23 = .ok (.aload_n 0, 1) := by decide +kernel
theorem d_Gm_append_24 : dec m_Gm_append 24 = .ok (.getfield 29, 3) := by decide +kernel
theorem d_Gm_append_27 : dec m_Gm_append 27 = .ok (.iload_n 1, 1) := by decide +kernel
theorem d_Gm_append_28 : dec m_Gm_append 28 = .ok (.iload_n 3, 1) := by decide +kernel
theorem d_Gm_append_29 : dec m_Gm_append 29 = .ok (.iconst 1, 1) := by decide +kernel
theorem d_Gm_append_30 : dec m_Gm_append 30 = .ok (.iadd, 1) := by decide +kernel
theorem d_Gm_append_31 : dec m_Gm_append 31 = .ok (.invokevirtual 58, 3) := by decide +kernel
theorem d_Gm_append_34 : dec m_Gm_append 34 = .ok (.aload_n 0, 1) := by decide +kernel
theorem d_Gm_append_35 : dec m_Gm_append 35 = .ok (.dup, 1) := by decide +kernel
theorem d_Gm_append_36 : dec m_Gm_append 36 = .ok (.getfield 46, 3) := by decide +kernel
theorem d_Gm_append_39 : dec m_Gm_append 39 = .ok (.iconst 1, 1) := by decide +kernel
theorem d_Gm_append_40 : dec m_Gm_append 40 = .ok (.iadd, 1) := by decide +kernel
theorem d_Gm_append_41 : dec m_Gm_append 41 = .ok (.putfield 46, 3) := by decide +kernel
theorem d_Gm_append_44 : dec m_Gm_append 44 = .ok (.return_, 1) := by decide +kernel
theorem d_Gm_removeAt_0 : dec m_Gm_removeAt 0 = .ok (.aload_n 0, 1) := by decide +kernel
theorem d_Gm_removeAt_1 : dec m_Gm_removeAt 1 = .ok (.getfield 29, 3) := by decide +kernel
theorem d_Gm_removeAt_4 : dec m_Gm_removeAt 4 = .ok (.iload_n 1, 1) := by decide +kernel
theorem d_Gm_removeAt_5 : dec m_Gm_removeAt 5 = .ok (.invokevirtual 50, 3) := by decide +kernel
theorem d_Gm_removeAt_8 : dec m_Gm_removeAt 8 = .ok (.iconst 1, 1) := by decide +kernel
theorem d_Gm_removeAt_9 : dec m_Gm_removeAt 9 = .ok (.isub, 1) := by decide +kernel
theorem d_Gm_removeAt_10 : dec m_Gm_removeAt 10 = .ok (.istore_n 3, 1) := by decide +kernel
theorem d_Gm_removeAt_11 : dec m_Gm_removeAt 11 = .ok (.iload_n 2, 1) := by decide +kernel
theorem d_Gm_removeAt_12 : dec m_Gm_removeAt 12 = .ok (.istore 4, 2) := by decide +kernel
theorem d_Gm_removeAt_14 : dec m_Gm_removeAt 14 = .ok (.iload 4, 2) := by decide +kernel
theorem d_Gm_removeAt_16 : dec m_Gm_removeAt 16 = .ok (.iload_n 3, 1) := by decide +kernel
theorem d_Gm_removeAt_17 : dec m_Gm_removeAt 17 = .ok (.if_icmp .ge 32, 3) := by decide +kernel
theorem d_Gm_removeAt_20 : dec m_Gm_removeAt 20 = .ok (.aload_n 0, 1) := by decide +kernel
theorem d_Gm_removeAt_21 : dec m_Gm_removeAt 21 = .ok (.getfield 32, 3) := by decide +kernel
theorem d_Gm_removeAt_24 : dec m_Gm_removeAt 24 = .ok (.iload_n 1, 1) := by decide +kernel
theorem d_Gm_removeAt_25 : dec m_Gm_removeAt 25 = .ok (.bipush 20, 2) := by decide +kernel
theorem d_Gm_removeAt_27 : dec m_Gm_removeAt 27 = .ok (.imul, 1) := by decide +kernel
theorem d_Gm_removeAt_28 : dec m_Gm_removeAt 28 = .ok (.iload 4, 2) := by decide +kernel
theorem d_Gm_removeAt_30 : dec m_Gm_removeAt 30 = .ok (.iadd, 1) := by decide +kernel
theorem d_Gm_removeAt_31 : dec m_Gm_removeAt 31 = .ok (.aload_n 0, 1) := by decide +kernel
theorem d_Gm_removeAt_32 : dec m_Gm_removeAt 32 = .ok (.iload_n 1, 1) := by decide +kernel
theorem d_Gm_removeAt_33 : dec m_Gm_removeAt 33 = .ok (.iload 4, 2) := by decide +kernel
theorem d_Gm_removeAt_35 : dec m_Gm_removeAt 35 = .ok (.iconst 1, 1) := by decide +kernel
theorem d_Gm_removeAt_36 : dec m_Gm_removeAt 36 = .ok (.iadd, 1) := by decide +kernel
theorem d_Gm_removeAt_37 : dec m_Gm_removeAt 37 = .ok (.invokevirtual 54, 3) := by decide +kernel
theorem d_Gm_removeAt_40 : dec m_Gm_removeAt 40 = .ok (.invokevirtual 58, 3) := by decide +kernel
theorem d_Gm_removeAt_43 : dec m_Gm_removeAt 43 = .ok (.iinc 4 1, 3) := by decide +kernel
theorem d_Gm_removeAt_46 : dec m_Gm_removeAt 46 = .ok (.goto (-32), 3) := by decide +kernel
theorem d_Gm_removeAt_49 : dec m_Gm_removeAt 49 = .ok (.aload_n 0, 1) := by decide +kernel
theorem d_Gm_removeAt_50 : dec m_Gm_removeAt 50 = .ok (.getfield 29, 3) := by decide +kernel
theorem d_Gm_removeAt_53 : dec m_Gm_removeAt 53 = .ok (.iload_n 1, 1) := by decide +kernel
theorem d_Gm_removeAt_54 : dec m_Gm_removeAt 54 = .ok (.iload_n 3, 1) := by decide +kernel
theorem d_Gm_removeAt_55 : dec m_Gm_removeAt 55 = .ok (.invokevirtual 58, 3) := by decide +kernel
theorem d_Gm_removeAt_58 : dec m_Gm_removeAt 58 = .ok (.aload_n 0, 1) := by decide +kernel
theorem d_Gm_removeAt_59 : dec m_Gm_removeAt 59 = .ok (.dup, 1) := by decide +kernel
theorem d_Gm_removeAt_60 : dec m_Gm_removeAt 60 = .ok (.getfield 46, 3) := by decide +kernel
theorem d_Gm_removeAt_63 : dec m_Gm_removeAt 63 = .ok (.iconst 1, 1) := by decide +kernel
theorem d_Gm_removeAt_64 : dec m_Gm_removeAt 64 = .ok (.isub, 1) := by decide +kernel
theorem d_Gm_removeAt_65 : dec m_Gm_removeAt 65 = .ok (.putfield 46, 3) := by decide +kernel
theorem d_Gm_removeAt_68 : dec m_Gm_removeAt 68 = .ok (.return_, 1) := by decide +kernel
theorem d_Hi_init_0 : dec m_Hi_init 0 = .ok (.aload_n 0, 1) := by decide +kernel
theorem d_Hi_init_1 : dec m_Hi_init 1 = .ok (.invokespecial 3, 3) := by decide +kernel
theorem d_Hi_init_4 : dec m_Hi_init 4 = .ok (.aload_n 0, 1) := by decide +kernel
theorem d_Hi_init_5 : dec m_Hi_init 5 = .ok (.iconst 4, 1) := by decide +kernel
theorem d_Hi_init_6 : dec m_Hi_init 6 = .ok (.anewarray 9, 3) := by decide +kernel
theorem d_Hi_init_9 : dec m_Hi_init 9 = .ok (.putfield 11, 3) := by decide +kernel
theorem d_Hi_init_12 : dec m_Hi_init 12 = .ok (.iconst 0, 1) := by decide +kernel
theorem d_Hi_init_13 : dec m_Hi_init 13 = .ok (.istore_n 1, 1) := by decide +kernel
theorem d_Hi_init_14 : dec m_Hi_init 14 = .ok (.iload_n 1, 1) := by decide +kernel
theorem d_Hi_init_15 : dec m_Hi_init 15 = .ok (.aload_n 0, 1) := by decide +kernel
theorem d_Hi_init_16 : dec m_Hi_init 16 = .ok (.getfield 11, 3) := by decide +kernel
theorem d_Hi_init_19 : dec m_Hi_init 19 = .ok (.arraylength, 1) := by decide +kernel
theorem d_Hi_init_20 : dec m_Hi_init 20 = .ok (.if_icmp .ge 22, 3) := by decide +kernel
theorem d_Hi_init_23 : dec m_Hi_init 23 = .ok (.aload_n 0, 1) := by decide +kernel
theorem d_Hi_init_24 : dec m_Hi_init 24 = .ok (.getfield 11, 3) := by decide +kernel
theorem d_Hi_init_27 : dec m_Hi_init 27 = .ok (.iload_n 1, 1) := by decide +kernel
theorem d_Hi_init_28 : dec m_Hi_init 28 = .ok (.new 9, 3) := by decide +kernel
theorem d_Hi_init_31 : dec m_Hi_init 31 = .ok (.dup, 1) := by decide +kernel
theorem d_Hi_init_32 : dec m_Hi_init 32 = .ok (.invokespecial 17, 3) := by decide +kernel
theorem d_Hi_init_35 : dec m_Hi_init 35 = .ok (.aastore, 1) := by decide +kernel
theorem d_Hi_init_36 : dec m_Hi_init 36 = .ok (.iinc 1 1, 3) := by decide +kernel
theorem d_Hi_init_39 : dec m_Hi_init 39 = .ok (.goto (-25), 3) := by decide +kernel
theorem d_Hi_init_42 : dec m_Hi_init 42 = .ok (.return_, 1) := by decide +kernel
theorem d_Hi_remember_0 : dec m_Hi_remember 0 = .ok (.aload_n 0, 1) := by decide +kernel
theorem d_Hi_remember_1 : dec m_Hi_remember 1 = .ok (.getfield 18, 3) := by decide +kernel
theorem d_Hi_remember_4 : dec m_Hi_remember 4 = .ok (.aload_n 0, 1) := by decide +kernel
theorem d_Hi_remember_5 : dec m_Hi_remember 5 = .ok (.getfield 11, 3) := by decide +kernel
theorem d_Hi_remember_8 : dec m_Hi_remember 8 = .ok (.arraylength, 1) := by decide +kernel
theorem d_Hi_remember_9 : dec m_Hi_remember 9 = .ok (.if_icmp .lt 7, 3) := by decide +kernel
theorem d_Hi_remember_12 : dec m_Hi_remember 12 = .ok (.aload_n 0, 1) := by decide +kernel
theorem d_Hi_remember_13 : dec m_Hi_remember 13 = .ok (.invokevirtual 22, 3) := by decide +kernel
theorem d_Hi_remember_16 : dec m_Hi_remember 16 = .ok (.aload_n 1, 1) := by decide +kernel
theorem d_Hi_remember_17 : dec m_Hi_remember 17 = .ok (.aload_n 0, 1) := by decide +kernel
theorem d_Hi_remember_18 : dec m_Hi_remember 18 = .ok (.aload_n 0, 1) := by decide +kernel
theorem d_Hi_remember_19 : dec m_Hi_remember 19 = .ok (.getfield 18, 3) := by decide +kernel
theorem d_Hi_remember_22 : dec m_Hi_remember 22 = .ok (.invokevirtual 25, 3) := by decide +kernel
theorem d_Hi_remember_25 : dec m_Hi_remember 25 = .ok (.invokestatic 29, 3) := by decide +kernel
theorem d_Hi_remember_28 : dec m_Hi_remember 28 = .ok (.aload_n 0, 1) := by decide +kernel
theorem d_Hi_remember_29 : dec m_Hi_remember 29 = .ok (.dup, 1) := by decide +kernel
theorem d_Hi_remember_30 : dec m_Hi_remember 30 = .ok (.getfield 18, 3) := by decide +kernel
theorem d_Hi_remember_33 : dec m_Hi_remember 33 = .ok (.iconst 1, 1) := by decide +kernel
theorem d_Hi_remember_34 : dec m_Hi_remember 34 = .ok (.iadd, 1) := by decide +kernel
theorem d_Hi_remember_35 : dec m_Hi_remember 35 = .ok (.putfield 18, 3) := by decide +kernel
theorem d_Hi_remember_38 : dec m_Hi_remember 38 = .ok (.return_, 1) := by decide +kernel
theorem d_Hi_takeLatest_0 : dec m_Hi_takeLatest 0 = .ok (.aload_n 0, 1) := by decide +kernel
theorem d_Hi_takeLatest_1 : dec m_Hi_takeLatest 1 = .ok (.getfield 18, 3) := by decide +kernel
theorem d_Hi_takeLatest_4 : dec m_Hi_takeLatest 4 = .ok (.ifCond .le 25, 3) := by decide +kernel
theorem d_Hi_takeLatest_7 : dec m_Hi_takeLatest 7 = .ok (.aload_n 0, 1) := by decide +kernel
theorem d_Hi_takeLatest_8 : dec m_Hi_takeLatest 8 = .ok (.dup, 1) := by decide +kernel
theorem d_Hi_takeLatest_9 : dec m_Hi_takeLatest 9 = .ok (.getfield 18, 3) := by decide +kernel
theorem d_Hi_takeLatest_12 : dec m_Hi_takeLatest 12 = .ok (.iconst 1, 1) := by decide +kernel
theorem d_Hi_takeLatest_13 : dec m_Hi_takeLatest 13 = .ok (.isub, 1) := by decide +kernel
theorem d_Hi_takeLatest_14 : dec m_Hi_takeLatest 14 = .ok (.putfield 18, 3) := by decide +kernel
theorem d_Hi_takeLatest_17 : dec m_Hi_takeLatest 17 = .ok (.aload_n 0, 1) := by decide +kernel
theorem d_Hi_takeLatest_18 : dec m_Hi_takeLatest 18 = .ok (.aload_n 0, 1) := by decide +kernel
theorem d_Hi_takeLatest_19 : dec m_Hi_takeLatest 19 = .ok (.getfield 18, 3) := by decide +kernel
theorem d_Hi_takeLatest_22 : dec m_Hi_takeLatest 22 = .ok (.invokevirtual 25, 3) := by decide +kernel
theorem d_Hi_takeLatest_25 : dec m_Hi_takeLatest 25 = .ok (.aload_n 1, 1) := by decide +kernel
theorem d_Hi_takeLatest_26 : dec m_Hi_takeLatest 26 = .ok (.invokestatic 29, 3) := by decide +kernel
theorem d_Hi_takeLatest_29 : dec m_Hi_takeLatest 29 = .ok (.return_, 1) := by decide +kernel
theorem d_Hi_stateAt_0 : dec m_Hi_stateAt 0 = .ok (.iload_n 1, 1) := by decide +kernel
theorem d_Hi_stateAt_1 : dec m_Hi_stateAt 1 = .ok (.ifCond .lt 21, 3) := by decide +kernel
theorem d_Hi_stateAt_4 : dec m_Hi_stateAt 4 = .ok (.iload_n 1, 1) := by decide +kernel
theorem d_Hi_stateAt_5 : dec m_Hi_stateAt 5 = .ok (.aload_n 0, 1) := by decide +kernel
theorem d_Hi_stateAt_6 : dec m_Hi_stateAt 6 = .ok (.getfield 11, 3) := by decide +kernel
theorem d_Hi_stateAt_9 : dec m_Hi_stateAt 9 = .ok (.arraylength, 1) := by decide +kernel
theorem d_Hi_stateAt_10 : dec m_Hi_stateAt 10 = .ok (.if_icmp .ge 12, 3) := by decide +kernel
theorem d_Hi_stateAt_13 : dec m_Hi_stateAt 13 = .ok (.aload_n 0, 1) := by decide +kernel
theorem d_Hi_stateAt_14 : dec m_Hi_stateAt 14 = .ok (.getfield 11, 3) := by decide +kernel
theorem d_Hi_stateAt_17 : dec m_Hi_stateAt 17 = .ok (.iload_n 1, 1) := by decide +kernel
theorem d_Hi_stateAt_18 : dec m_Hi_stateAt 18 = .ok (.aaload, 1) := by decide +kernel
theorem d_Hi_stateAt_19 : dec m_Hi_stateAt 19 = .ok (.goto 4, 3) := by decide +kernel
theorem d_Hi_stateAt_22 : dec m_Hi_stateAt 22 = .ok (.aconst_null, 1) := by decide +kernel
theorem d_Hi_stateAt_23 : dec m_Hi_stateAt 23 = .ok (.areturn, 1) := by decide +kernel
theorem d_Hi_copy_0 : dec m_Hi_copy 0 = .ok (.aload_n 0, 1) := by decide +kernel
theorem d_Hi_copy_1 : dec m_Hi_copy 1 = .ok (.ifnull 12, 3) := by decide +kernel
theorem d_Hi_copy_4 : dec m_Hi_copy 4 = .ok (.aload_n 1, 1) := by decide +kernel
theorem d_Hi_copy_5 : dec m_Hi_copy 5 = .ok (.ifnull 8, 3) := by decide +kernel
theorem d_Hi_copy_8 : dec m_Hi_copy 8 = .ok (.aload_n 1, 1) := by decide +kernel
theorem d_Hi_copy_9 : dec m_Hi_copy 9 = .ok (.aload_n 0, 1) := by decide +kernel
theorem d_Hi_copy_10 : dec m_Hi_copy 10 = .ok (.invokevirtual 33, 3) := by decide +kernel
theorem d_Hi_copy_13 : dec m_Hi_copy 13 = .ok (.return_, 1) := by decide +kernel
theorem d_Hi_dropOldest_0 : dec m_Hi_dropOldest 0 = .ok (.iconst 1, 1) := by decide +kernel
theorem d_Hi_dropOldest_1 : dec m_Hi_dropOldest 1 = .ok (.istore_n 1, 1) := by decide +kernel
theorem d_Hi_dropOldest_2 : dec m_Hi_dropOldest 2 = .ok (.iload_n 1, 1) := by decide +kernel
theorem d_Hi_dropOldest_3 : dec m_Hi_dropOldest 3 = .ok (.aload_n 0, 1) := by decide +kernel
theorem d_Hi_dropOldest_4 : dec m_Hi_dropOldest 4 = .ok (.getfield 11, 3) := by decide +kernel
theorem d_Hi_dropOldest_7 : dec m_Hi_dropOldest 7 = .ok (.arraylength, 1) := by decide +kernel
theorem d_Hi_dropOldest_8 : dec m_Hi_dropOldest 8 = .ok (.if_icmp .ge 39, 3) := by decide +kernel
theorem d_Hi_dropOldest_11 : dec m_Hi_dropOldest 11 = .ok (.aload_n 0, 1) := by decide +kernel
theorem d_Hi_dropOldest_12 : dec m_Hi_dropOldest 12 = .ok (.getfield 11, 3) := by decide +kernel
theorem d_Hi_dropOldest_15 : dec m_Hi_dropOldest 15 = .ok (.iload_n 1, 1) := by decide +kernel
theorem d_Hi_dropOldest_16 : dec m_Hi_dropOldest 16 = .ok (.iconst 1, 1) := by decide +kernel
theorem d_Hi_dropOldest_17 : dec m_Hi_dropOldest 17 = .ok (.isub, 1) := by decide +kernel
theorem d_Hi_dropOldest_18 : dec m_Hi_dropOldest 18 = .ok (.aaload, 1) := by decide +kernel
theorem d_Hi_dropOldest_19 : dec m_Hi_dropOldest 19 = .ok (.astore_n 2, 1) := by decide +kernel
theorem d_Hi_dropOldest_20 : dec m_Hi_dropOldest 20 = .ok (.aload_n 0, 1) := by decide +kernel
theorem d_Hi_dropOldest_21 : dec m_Hi_dropOldest 21 = .ok (.getfield 11, 3) := by decide +kernel
theorem d_Hi_dropOldest_24 : dec m_Hi_dropOldest 24 = .ok (.iload_n 1, 1) := by decide +kernel
theorem d_Hi_dropOldest_25 : dec m_Hi_dropOldest 25 = .ok (.iconst 1, 1) := by decide +kernel
theorem d_Hi_dropOldest_26 : dec m_Hi_dropOldest 26 = .ok (.isub, 1) := by decide +kernel
theorem d_Hi_dropOldest_27 : dec m_Hi_dropOldest 27 = .ok (.aload_n 0, 1) := by decide +kernel
theorem d_Hi_dropOldest_28 : dec m_Hi_dropOldest 28 = .ok (.getfield 11, 3) := by decide +kernel
theorem d_Hi_dropOldest_31 : dec m_Hi_dropOldest 31 = .ok (.iload_n 1, 1) := by decide +kernel
theorem d_Hi_dropOldest_32 : dec m_Hi_dropOldest 32 = .ok (.aaload, 1) := by decide +kernel
theorem d_Hi_dropOldest_33 : dec m_Hi_dropOldest 33 = .ok (.aastore, 1) := by decide +kernel
theorem d_Hi_dropOldest_34 : dec m_Hi_dropOldest 34 = .ok (.aload_n 0, 1) := by decide +kernel
theorem d_Hi_dropOldest_35 : dec m_Hi_dropOldest 35 = .ok (.getfield 11, 3) := by decide +kernel
theorem d_Hi_dropOldest_38 : dec m_Hi_dropOldest 38 = .ok (.iload_n 1, 1) := by decide +kernel
theorem d_Hi_dropOldest_39 : dec m_Hi_dropOldest 39 = .ok (.aload_n 2, 1) := by decide +kernel
theorem d_Hi_dropOldest_40 : dec m_Hi_dropOldest 40 = .ok (.aastore, 1) := by decide +kernel
theorem d_Hi_dropOldest_41 : dec m_Hi_dropOldest 41 = .ok (.iinc 1 1, 3) := by decide +kernel
theorem d_Hi_dropOldest_44 : dec m_Hi_dropOldest 44 = .ok (.goto (-42), 3) := by decide +kernel
theorem d_Hi_dropOldest_47 : dec m_Hi_dropOldest 47 = .ok (.aload_n 0, 1) := by decide +kernel
theorem d_Hi_dropOldest_48 : dec m_Hi_dropOldest 48 = .ok (.dup, 1) := by decide +kernel
theorem d_Hi_dropOldest_49 : dec m_Hi_dropOldest 49 = .ok (.getfield 18, 3) := by decide +kernel
theorem d_Hi_dropOldest_52 : dec m_Hi_dropOldest 52 = .ok (.iconst 1, 1) := by decide +kernel
theorem d_Hi_dropOldest_53 : dec m_Hi_dropOldest 53 = .ok (.isub, 1) := by decide +kernel
theorem d_Hi_dropOldest_54 : dec m_Hi_dropOldest 54 = .ok (.putfield 18, 3) := by decide +kernel
theorem d_Hi_dropOldest_57 : dec m_Hi_dropOldest 57 = .ok (.return_, 1) := by decide +kernel
theorem d_Pf_init_0 : dec m_Pf_init 0 = .ok (.aload_n 0, 1) := by decide +kernel
theorem d_Pf_init_1 : dec m_Pf_init 1 = .ok (.invokespecial 3, 3) := by decide +kernel
theorem d_Pf_init_4 : dec m_Pf_init 4 = .ok (.aload_n 0, 1) := by decide +kernel
theorem d_Pf_init_5 : dec m_Pf_init 5 = .ok (.new 9, 3) := by decide +kernel
theorem d_Pf_init_8 : dec m_Pf_init 8 = .ok (.dup, 1) := by decide +kernel
theorem d_Pf_init_9 : dec m_Pf_init 9 = .ok (.sipush 200, 3) := by decide +kernel
theorem d_Pf_init_12 : dec m_Pf_init 12 = .ok (.invokespecial 11, 3) := by decide +kernel
theorem d_Pf_init_15 : dec m_Pf_init 15 = .ok (.putfield 14, 3) := by decide +kernel
theorem d_Pf_init_18 : dec m_Pf_init 18 = .ok (.return_, 1) := by decide +kernel
theorem d_Pf_winnerOf_0 : dec m_Pf_winnerOf 0 = .ok (.aload_n 0, 1) := by decide +kernel
theorem d_Pf_winnerOf_1 : dec m_Pf_winnerOf 1 = .ok (.invokevirtual 20, 3) := by decide +kernel
theorem d_Pf_winnerOf_4 : dec m_Pf_winnerOf 4 = .ok (.iconst 1, 1) := by decide +kernel
theorem d_Pf_winnerOf_5 : dec m_Pf_winnerOf 5 = .ok (.if_icmp .ne 7, 3) := by decide +kernel
theorem d_Pf_winnerOf_8 : dec m_Pf_winnerOf 8 = .ok (.iconst 0, 1) := by decide +kernel
theorem d_Pf_winnerOf_9 : dec m_Pf_winnerOf 9 = .ok (.goto 4, 3) := by decide +kernel
theorem d_Pf_winnerOf_12 : dec m_Pf_winnerOf 12 = .ok (.iconst 1, 1) := by decide +kernel
theorem d_Pf_winnerOf_13 : dec m_Pf_winnerOf 13 = .ok (.ireturn, 1) := by decide +kernel
theorem d_Pf_sizeOf_0 : dec m_Pf_sizeOf 0 = .ok (.aload_n 1, 1) := by decide +kernel
theorem d_Pf_sizeOf_1 : dec m_Pf_sizeOf 1 = .ok (.invokestatic 26, 3) := by decide +kernel
theorem d_Pf_sizeOf_4 : dec m_Pf_sizeOf 4 = .ok (.istore_n 2, 1) := by decide +kernel
theorem d_Pf_sizeOf_5 : dec m_Pf_sizeOf 5 = .ok (.iconst 0, 1) := by decide +kernel
theorem d_Pf_sizeOf_6 : dec m_Pf_sizeOf 6 = .ok (.istore_n 3, 1) := by decide +kernel
theorem d_Pf_sizeOf_7 : dec m_Pf_sizeOf 7 = .ok (.aload_n 0, 1) := by decide +kernel
theorem d_Pf_sizeOf_8 : dec m_Pf_sizeOf 8 = .ok (.getfield 14, 3) := by decide +kernel
theorem d_Pf_sizeOf_11 : dec m_Pf_sizeOf 11 = .ok (.iconst 0, 1) := by decide +kernel
theorem d_Pf_sizeOf_12 : dec m_Pf_sizeOf 12 = .ok (.invokevirtual 46, 3) := by decide +kernel
theorem d_Pf_sizeOf_15 : dec m_Pf_sizeOf 15 = .ok (.aload_n 0, 1) := by decide +kernel
theorem d_Pf_sizeOf_16 : dec m_Pf_sizeOf 16 = .ok (.getfield 14, 3) := by decide +kernel
theorem d_Pf_sizeOf_19 : dec m_Pf_sizeOf 19 = .ok (.iconst 0, 1) := by decide +kernel
theorem d_Pf_sizeOf_20 : dec m_Pf_sizeOf 20 = .ok (.iconst 1, 1) := by decide +kernel
theorem d_Pf_sizeOf_21 : dec m_Pf_sizeOf 21 = .ok (.invokevirtual 49, 3) := by decide +kernel
theorem d_Pf_sizeOf_24 : dec m_Pf_sizeOf 24 = .ok (.iconst 0, 1) := by decide +kernel
theorem d_Pf_sizeOf_25 : dec m_Pf_sizeOf 25 = .ok (.istore 4, 2) := by decide +kernel
theorem d_Pf_sizeOf_27 : dec m_Pf_sizeOf 27 = .ok (.iload 4, 2) := by decide +kernel
theorem d_Pf_sizeOf_29 : dec m_Pf_sizeOf 29 = .ok (.aload_n 1, 1) := by decide +kernel
theorem d_Pf_sizeOf_30 : dec m_Pf_sizeOf 30 = .ok (.getfield 53, 3) := by decide +kernel
theorem d_Pf_sizeOf_33 : dec m_Pf_sizeOf 33 = .ok (.if_icmp .ge 33, 3) := by decide +kernel
theorem d_Pf_sizeOf_36 : dec m_Pf_sizeOf 36 = .ok (.aload_n 0, 1) := by decide +kernel
theorem d_Pf_sizeOf_37 : dec m_Pf_sizeOf 37 = .ok (.getfield 14, 3) := by decide +kernel
theorem d_Pf_sizeOf_40 : dec m_Pf_sizeOf 40 = .ok (.iload 4, 2) := by decide +kernel
theorem d_Pf_sizeOf_42 : dec m_Pf_sizeOf 42 = .ok (.invokevirtual 33, 3) := by decide +kernel
theorem d_Pf_sizeOf_45 : dec m_Pf_sizeOf 45 = .ok (.iconst 1, 1) := by decide +kernel
theorem d_Pf_sizeOf_46 : dec m_Pf_sizeOf 46 = .ok (.if_icmp .ne 14, 3) := by decide +kernel
theorem d_Pf_sizeOf_49 : dec m_Pf_sizeOf 49 = .ok (.iinc 3 1, 3) := by decide +kernel
theorem d_Pf_sizeOf_52 : dec m_Pf_sizeOf 52 = .ok (.aload_n 0, 1) := by decide +kernel
theorem d_Pf_sizeOf_53 : dec m_Pf_sizeOf 53 = .ok (.aload_n 1, 1) := by decide +kernel
theorem d_Pf_sizeOf_54 : dec m_Pf_sizeOf 54 = .ok (.iload 4, 2) := by decide +kernel
theorem d_Pf_sizeOf_56 : dec m_Pf_sizeOf 56 = .ok (.iload_n 2, 1) := by decide +kernel
theorem d_Pf_sizeOf_57 : dec m_Pf_sizeOf 57 = .ok (.invokevirtual 57, 3) := by decide +kernel
theorem d_Pf_sizeOf_60 : dec m_Pf_sizeOf 60 = .ok (.iinc 4 1, 3) := by decide +kernel
theorem d_Pf_sizeOf_63 : dec m_Pf_sizeOf 63 = .ok (.goto (-36), 3) := by decide +kernel
theorem d_Pf_sizeOf_66 : dec m_Pf_sizeOf 66 = .ok (.iload_n 3, 1) := by decide +kernel
theorem d_Pf_sizeOf_67 : dec m_Pf_sizeOf 67 = .ok (.ireturn, 1) := by decide +kernel
theorem d_Pf_takeChildren_0 : dec m_Pf_takeChildren 0 = .ok (.aload_n 1, 1) := by decide +kernel
theorem d_Pf_takeChildren_1 : dec m_Pf_takeChildren 1 = .ok (.iload_n 2, 1) := by decide +kernel
theorem d_Pf_takeChildren_2 : dec m_Pf_takeChildren 2 = .ok (.invokevirtual 61, 3) := by decide +kernel
theorem d_Pf_takeChildren_5 : dec m_Pf_takeChildren 5 = .ok (.ifCond .eq 4, 3) := by decide +kernel
theorem d_Pf_takeChildren_8 : dec m_Pf_takeChildren 8 = .ok (.return_, 1) := by decide +kernel
theorem d_Pf_takeChildren_9 : dec m_Pf_takeChildren 9 = .ok (.aload_n 1, 1) := by decide +kernel
theorem d_Pf_takeChildren_10 : dec m_Pf_takeChildren 10 = .ok (.iload_n 2, 1) := by decide +kernel
theorem d_Pf_takeChildren_11 : dec m_Pf_takeChildren 11 = .ok (.invokevirtual 37, 3) := by decide +kernel
theorem d_Pf_takeChildren_14 : dec m_Pf_takeChildren 14 = .ok (.iload_n 3, 1) := by decide +kernel
theorem d_Pf_takeChildren_15 : dec m_Pf_takeChildren 15 = .ok (.if_icmp .ne 17, 3) := by decide +kernel
theorem d_Pf_takeChildren_18 : dec m_Pf_takeChildren 18 = .ok (.aload_n 0, 1) := by decide +kernel
theorem d_Pf_takeChildren_19 : dec m_Pf_takeChildren 19 = .ok (.getfield 14, 3) := by decide +kernel
theorem d_Pf_takeChildren_22 : dec m_Pf_takeChildren 22 = .ok (.aload_n 1, 1) := by decide +kernel
theorem d_Pf_takeChildren_23 : dec m_Pf_takeChildren 23 = .ok (.iload_n 2, 1) := by decide +kernel
theorem d_Pf_takeChildren_24 : dec m_Pf_takeChildren 24 = .ok (.invokevirtual 40, 3) := by decide +kernel
theorem d_Pf_takeChildren_27 : dec m_Pf_takeChildren 27 = .ok (.iconst 1, 1) := by decide +kernel
theorem d_Pf_takeChildren_28 : dec m_Pf_takeChildren 28 = .ok (.invokevirtual 49, 3) := by decide +kernel
theorem d_Pf_takeChildren_31 : dec m_Pf_takeChildren 31 = .ok (.return_, 1) := by decide +kernel
theorem d_Pf_takeChildren_32 : dec m_Pf_takeChildren 32 = .ok (.aload_n 1, 1) := by decide +kernel
theorem d_Pf_takeChildren_33 : dec m_Pf_takeChildren 33 = .ok (.iload_n 2, 1) := by decide +kernel
theorem d_Pf_takeChildren_34 : dec m_Pf_takeChildren 34 = .ok (.invokevirtual 65, 3) := by decide +kernel
theorem d_Pf_takeChildren_37 : dec m_Pf_takeChildren 37 = .ok (.istore 4, 2) := by decide +kernel
theorem d_Pf_takeChildren_39 : dec m_Pf_takeChildren 39 = .ok (.aload_n 1, 1) := by decide +kernel
theorem d_Pf_takeChildren_40 : dec m_Pf_takeChildren 40 = .ok (.getfield 43, 3) := by decide +kernel
theorem d_Pf_takeChildren_43 : dec m_Pf_takeChildren 43 = .ok (.iload_n 2, 1) := by decide +kernel
theorem d_Pf_takeChildren_44 : dec m_Pf_takeChildren 44 = .ok (.invokevirtual 33, 3) := by decide +kernel
theorem d_Pf_takeChildren_47 : dec m_Pf_takeChildren 47 = .ok (.istore 5, 2) := by decide +kernel
theorem d_Pf_takeChildren_49 : dec m_Pf_takeChildren 49 = .ok (.iload 5, 2) := by decide +kernel
theorem d_Pf_takeChildren_51 : dec m_Pf_takeChildren 51 = .ok (.iload 4, 2) := by decide +kernel
theorem d_Pf_takeChildren_53 : dec m_Pf_takeChildren 53 = .ok (.if_icmp .ge 19, 3) := by decide +kernel
theorem d_Pf_takeChildren_56 : dec m_Pf_takeChildren 56 = .ok (.aload_n 0, 1) := by decide +kernel
theorem d_Pf_takeChildren_57 : dec m_Pf_takeChildren 57 = .ok (.getfield 14, 3) := by decide +kernel
theorem d_Pf_takeChildren_60 : dec m_Pf_takeChildren 60 = .ok (.iload 5, 2) := by decide +kernel
theorem d_Pf_takeChildren_62 : dec m_Pf_takeChildren 62 = .ok (.iconst 1, 1) := by decide +kernel
theorem d_Pf_takeChildren_63 : dec m_Pf_takeChildren 63 = .ok (.invokevirtual 49, 3) := by decide +kernel
theorem d_Pf_takeChildren_66 : dec m_Pf_takeChildren 66 = .ok (.iinc 5 1, 3) := by decide +kernel
theorem d_Pf_takeChildren_69 : dec m_Pf_takeChildren 69 = .ok (.goto (-20), 3) := by decide +kernel
theorem d_Pf_takeChildren_72 : dec m_Pf_takeChildren 72 = .ok (.return_, 1) := by decide +kernel
theorem d_Rd_init_0 : dec m_Rd_init 0 = .ok (.aload_n 0, 1) := by decide +kernel
theorem d_Rd_init_1 : dec m_Rd_init 1 = .ok (.invokespecial 3, 3) := by decide +kernel
theorem d_Rd_init_4 : dec m_Rd_init 4 = .ok (.aload_n 0, 1) := by decide +kernel
theorem d_Rd_init_5 : dec m_Rd_init 5 = .ok (.new 9, 3) := by decide +kernel
theorem d_Rd_init_8 : dec m_Rd_init 8 = .ok (.dup, 1) := by decide +kernel
theorem d_Rd_init_9 : dec m_Rd_init 9 = .ok (.invokespecial 11, 3) := by decide +kernel
theorem d_Rd_init_12 : dec m_Rd_init 12 = .ok (.putfield 12, 3) := by decide +kernel
theorem d_Rd_init_15 : dec m_Rd_init 15 = .ok (.aload_n 0, 1) := by decide +kernel
theorem d_Rd_init_16 : dec m_Rd_init 16 = .ok (.aload_n 1, 1) := by decide +kernel
theorem d_Rd_init_17 : dec m_Rd_init 17 = .ok (.putfield 18, 3) := by decide +kernel
theorem d_Rd_init_20 : dec m_Rd_init 20 = .ok (.return_, 1) := by decide +kernel
theorem d_Ro_init_0 : dec m_Ro_init 0 = .ok (.aload_n 0, 1) := by decide +kernel
theorem d_Ro_init_1 : dec m_Ro_init 1 = .ok (.invokespecial 3, 3) := by decide +kernel
theorem d_Ro_init_4 : dec m_Ro_init 4 = .ok (.aload_n 0, 1) := by decide +kernel
theorem d_Ro_init_5 : dec m_Ro_init 5 = .ok (.new 9, 3) := by decide +kernel
theorem d_Ro_init_8 : dec m_Ro_init 8 = .ok (.dup, 1) := by decide +kernel
theorem d_Ro_init_9 : dec m_Ro_init 9 = .ok (.bipush 20, 2) := by decide +kernel
theorem d_Ro_init_11 : dec m_Ro_init 11 = .ok (.invokespecial 11, 3) := by decide +kernel
theorem d_Ro_init_14 : dec m_Ro_init 14 = .ok (.putfield 14, 3) := by decide +kernel
theorem d_Ro_init_17 : dec m_Ro_init 17 = .ok (.return_, 1) := by decide +kernel
theorem d_Ro_workOut_0 : dec m_Ro_workOut 0 = .ok (.aload_n 0, 1) := by decide +kernel
theorem d_Ro_workOut_1 : dec m_Ro_workOut 1 = .ok (.getfield 14, 3) := by decide +kernel
theorem d_Ro_workOut_4 : dec m_Ro_workOut 4 = .ok (.bipush (-5), 2) := by decide +kernel
theorem d_Ro_workOut_6 : dec m_Ro_workOut 6 = .ok (.invokevirtual 20, 3) := by decide +kernel
theorem d_Ro_workOut_9 : dec m_Ro_workOut 9 = .ok (.iconst 0, 1) := by decide +kernel
theorem d_Ro_workOut_10 : dec m_Ro_workOut 10 = .ok (.istore_n 2, 1) := by decide +kernel
theorem d_Ro_workOut_11 : dec m_Ro_workOut 11 = .ok (.iload_n 2, 1) := by decide +kernel
theorem d_Ro_workOut_12 : dec m_Ro_workOut 12 = .ok (.bipush 20, 2) := by decide +kernel
theorem d_Ro_workOut_14 : dec m_Ro_workOut 14 = .ok (.if_icmp .ge 26, 3) := by decide +kernel
theorem d_Ro_workOut_17 : dec m_Ro_workOut 17 = .ok (.aload_n 1, 1) := by decide +kernel
theorem d_Ro_workOut_18 : dec m_Ro_workOut 18 = .ok (.iload_n 2, 1) := by decide +kernel
theorem d_Ro_workOut_19 : dec m_Ro_workOut 19 = .ok (.invokevirtual 23, 3) := by decide +kernel
theorem d_Ro_workOut_22 : dec m_Ro_workOut 22 = .ok (.ifCond .eq 12, 3) := by decide +kernel
theorem d_Ro_workOut_25 : dec m_Ro_workOut 25 = .ok (.aload_n 0, 1) := by decide +kernel
theorem d_Ro_workOut_26 : dec m_Ro_workOut 26 = .ok (.getfield 14, 3) := by decide +kernel
theorem d_Ro_workOut_29 : dec m_Ro_workOut 29 = .ok (.iload_n 2, 1) := by decide +kernel
theorem d_Ro_workOut_30 : dec m_Ro_workOut 30 = .ok (.iconst 0, 1) := by decide +kernel
theorem d_Ro_workOut_31 : dec m_Ro_workOut 31 = .ok (.invokevirtual 29, 3) := by decide +kernel
theorem d_Ro_workOut_34 : dec m_Ro_workOut 34 = .ok (.iinc 2 1, 3) := by decide +kernel
theorem d_Ro_workOut_37 : dec m_Ro_workOut 37 = .ok (.goto (-26), 3) := by decide +kernel
theorem d_Ro_workOut_40 : dec m_Ro_workOut 40 = .ok (.iconst 1, 1) := by decide +kernel
theorem d_Ro_workOut_41 : dec m_Ro_workOut 41 = .ok (.istore_n 2, 1) := by decide +kernel
theorem d_Ro_workOut_42 : dec m_Ro_workOut 42 = .ok (.iload_n 2, 1) := by decide +kernel
theorem d_Ro_workOut_43 : dec m_Ro_workOut 43 = .ok (.bipush 20, 2) := by decide +kernel
theorem d_Ro_workOut_45 : dec m_Ro_workOut 45 = .ok (.if_icmp .gt 15, 3) := by decide +kernel
theorem d_Ro_workOut_48 : dec m_Ro_workOut 48 = .ok (.aload_n 0, 1) := by decide +kernel
theorem d_Ro_workOut_49 : dec m_Ro_workOut 49 = .ok (.aload_n 1, 1) := by decide +kernel
theorem d_Ro_workOut_50 : dec m_Ro_workOut 50 = .ok (.iload_n 2, 1) := by decide +kernel
theorem d_Ro_workOut_51 : dec m_Ro_workOut 51 = .ok (.invokevirtual 33, 3) := by decide +kernel
theorem d_Ro_workOut_54 : dec m_Ro_workOut 54 = .ok (.iinc 2 1, 3) := by decide +kernel
theorem d_Ro_workOut_57 : dec m_Ro_workOut 57 = .ok (.goto (-15), 3) := by decide +kernel
theorem d_Ro_workOut_60 : dec m_Ro_workOut 60 = .ok (.return_, 1) := by decide +kernel
theorem d_Ro_playRound_0 : dec m_Ro_playRound 0 = .ok (.iconst 0, 1) := by decide +kernel
theorem d_Ro_playRound_1 : dec m_Ro_playRound 1 = .ok (.istore_n 3, 1) := by decide +kernel
theorem d_Ro_playRound_2 : dec m_Ro_playRound 2 = .ok (.iload_n 3, 1) := by decide +kernel
theorem d_Ro_playRound_3 : dec m_Ro_playRound 3 = .ok (.bipush 20, 2) := by decide +kernel
theorem d_Ro_playRound_5 : dec m_Ro_playRound 5 = .ok (.if_icmp .ge 44, 3) := by decide +kernel
theorem d_Ro_playRound_8 : dec m_Ro_playRound 8 = .ok (.aload_n 0, 1) := by decide +kernel
theorem d_Ro_playRound_9 : dec m_Ro_playRound 9 = .ok (.iload_n 3, 1) := by decide +kernel
theorem d_Ro_playRound_10 : dec m_Ro_playRound 10 = .ok (.invokevirtual 37, 3) := by decide +kernel
theorem d_Ro_playRound_13 : dec m_Ro_playRound 13 = .ok (.ifCond .ne 30, 3) := by decide +kernel
theorem d_Ro_playRound_16 : dec m_Ro_playRound 16 = .ok (.aload_n 1, 1) := by decide +kernel
theorem d_Ro_playRound_17 : dec m_Ro_playRound 17 = .ok (.iload_n 3, 1) := by decide +kernel
theorem d_Ro_playRound_18 : dec m_Ro_playRound 18 = .ok (.invokevirtual 40, 3) := by decide +kernel
theorem d_Ro_playRound_21 : dec m_Ro_playRound 21 = .ok (.ifCond .ne 22, 3) := by decide +kernel
theorem d_Ro_playRound_24 : dec m_Ro_playRound 24 = .ok (.aload_n 0, 1) := by decide +kernel
theorem d_Ro_playRound_25 : dec m_Ro_playRound 25 = .ok (.aload_n 1, 1) := by decide +kernel
theorem d_Ro_playRound_26 : dec m_Ro_playRound 26 = .ok (.iload_n 3, 1) := by decide +kernel
theorem d_Ro_playRound_27 : dec m_Ro_playRound 27 = .ok (.iload_n 2, 1) := by decide +kernel
theorem d_Ro_playRound_28 : dec m_Ro_playRound 28 = .ok (.invokevirtual 43, 3) := by decide +kernel
theorem d_Ro_playRound_31 : dec m_Ro_playRound 31 = .ok (.ifCond .eq 12, 3) := by decide +kernel
theorem d_Ro_playRound_34 : dec m_Ro_playRound 34 = .ok (.aload_n 0, 1) := by decide +kernel
theorem d_Ro_playRound_35 : dec m_Ro_playRound 35 = .ok (.getfield 14, 3) := by decide +kernel
theorem d_Ro_playRound_38 : dec m_Ro_playRound 38 = .ok (.iload_n 3, 1) := by decide +kernel
theorem d_Ro_playRound_39 : dec m_Ro_playRound 39 = .ok (.iload_n 2, 1) := by decide +kernel
theorem d_Ro_playRound_40 : dec m_Ro_playRound 40 = .ok (.invokevirtual 29, 3) := by decide +kernel
theorem d_Ro_playRound_43 : dec m_Ro_playRound 43 = .ok (.iinc 3 1, 3) := by decide +kernel
theorem d_Ro_playRound_46 : dec m_Ro_playRound 46 = .ok (.goto (-44), 3) := by decide +kernel
theorem d_Ro_playRound_49 : dec m_Ro_playRound 49 = .ok (.return_, 1) := by decide +kernel
theorem d_Ro_isWonBy_0 : dec m_Ro_isWonBy 0 = .ok (.aload_n 1, 1) := by decide +kernel
theorem d_Ro_isWonBy_1 : dec m_Ro_isWonBy 1 = .ok (.getfield 47, 3) := by decide +kernel
theorem d_Ro_isWonBy_4 : dec m_Ro_isWonBy 4 = .ok (.iload_n 2, 1) := by decide +kernel
theorem d_Ro_isWonBy_5 : dec m_Ro_isWonBy 5 = .ok (.invokevirtual 50, 3) := by decide +kernel
theorem d_Ro_isWonBy_8 : dec m_Ro_isWonBy 8 = .ok (.istore 4, 2) := by decide +kernel
theorem d_Ro_isWonBy_10 : dec m_Ro_isWonBy 10 = .ok (.iconst 0, 1) := by decide +kernel
theorem d_Ro_isWonBy_11 : dec m_Ro_isWonBy 11 = .ok (.istore 5, 2) := by decide +kernel
theorem d_Ro_isWonBy_13 : dec m_Ro_isWonBy 13 = .ok (.iconst 0, 1) := by decide +kernel
theorem d_Ro_isWonBy_14 : dec m_Ro_isWonBy 14 = .ok (.istore 6, 2) := by decide +kernel
theorem d_Ro_isWonBy_16 : dec m_Ro_isWonBy 16 = .ok (.iload 6, 2) := by decide +kernel
theorem d_Ro_isWonBy_18 : dec m_Ro_isWonBy 18 = .ok (.iload 4, 2) := by decide +kernel
theorem d_Ro_isWonBy_20 : dec m_Ro_isWonBy 20 = .ok (.if_icmp .ge 40, 3) := by decide +kernel
theorem d_Ro_isWonBy_23 : dec m_Ro_isWonBy 23 = .ok (.aload_n 1, 1) := by decide +kernel
theorem d_Ro_isWonBy_24 : dec m_Ro_isWonBy 24 = .ok (.iload_n 2, 1) := by decide +kernel
theorem d_Ro_isWonBy_25 : dec m_Ro_isWonBy 25 = .ok (.iload 6, 2) := by decide +kernel
theorem d_Ro_isWonBy_27 : dec m_Ro_isWonBy 27 = .ok (.invokevirtual 54, 3) := by decide +kernel
theorem d_Ro_isWonBy_30 : dec m_Ro_isWonBy 30 = .ok (.istore 7, 2) := by decide +kernel
theorem d_Ro_isWonBy_32 : dec m_Ro_isWonBy 32 = .ok (.aload_n 0, 1) := by decide +kernel
theorem d_Ro_isWonBy_33 : dec m_Ro_isWonBy 33 = .ok (.iload 7, 2) := by decide +kernel
theorem d_Ro_isWonBy_35 : dec m_Ro_isWonBy 35 = .ok (.invokevirtual 37, 3) := by decide +kernel
theorem d_Ro_isWonBy_38 : dec m_Ro_isWonBy 38 = .ok (.ifCond .eq 16, 3) := by decide +kernel
theorem d_Ro_isWonBy_41 : dec m_Ro_isWonBy 41 = .ok (.aload_n 0, 1) := by decide +kernel
theorem d_Ro_isWonBy_42 : dec m_Ro_isWonBy 42 = .ok (.iload 7, 2) := by decide +kernel
theorem d_Ro_isWonBy_44 : dec m_Ro_isWonBy 44 = .ok (.invokevirtual 58, 3) := by decide +kernel
theorem d_Ro_isWonBy_47 : dec m_Ro_isWonBy 47 = .ok (.iload_n 3, 1) := by decide +kernel
theorem d_Ro_isWonBy_48 : dec m_Ro_isWonBy 48 = .ok (.if_icmp .ge 6, 3) := by decide +kernel
theorem d_Ro_isWonBy_51 : dec m_Ro_isWonBy 51 = .ok (.iinc 5 1, 3) := by decide +kernel
theorem d_Ro_isWonBy_54 : dec m_Ro_isWonBy 54 = .ok (.iinc 6 1, 3) := by decide +kernel
theorem d_Ro_isWonBy_57 : dec m_Ro_isWonBy 57 = .ok (.goto (-41), 3) := by decide +kernel
theorem d_Ro_isWonBy_60 : dec m_Ro_isWonBy 60 = .ok (.aload_n 1, 1) := by decide +kernel
theorem d_Ro_isWonBy_61 : dec m_Ro_isWonBy 61 = .ok (.getfield 61, 3) := by decide +kernel
theorem d_Ro_isWonBy_64 : dec m_Ro_isWonBy 64 = .ok (.iload_n 2, 1) := by decide +kernel
theorem d_Ro_isWonBy_65 : dec m_Ro_isWonBy 65 = .ok (.invokevirtual 50, 3) := by decide +kernel
theorem d_Ro_isWonBy_68 : dec m_Ro_isWonBy 68 = .ok (.ifCond .ne 16, 3) := by decide +kernel
theorem d_Ro_isWonBy_71 : dec m_Ro_isWonBy 71 = .ok (.iload 5, 2) := by decide +kernel
theorem d_Ro_isWonBy_73 : dec m_Ro_isWonBy 73 = .ok (.ifCond .le 7, 3) := by decide +kernel
theorem d_Ro_isWonBy_76 : dec m_Ro_isWonBy 76 = .ok (.iconst 1, 1) := by decide +kernel
theorem d_Ro_isWonBy_77 : dec m_Ro_isWonBy 77 = .ok (.goto 19, 3) := by decide +kernel
theorem d_Ro_isWonBy_80 : dec m_Ro_isWonBy 80 = .ok (.iconst 0, 1) := by decide +kernel
theorem d_Ro_isWonBy_81 : dec m_Ro_isWonBy 81 = .ok (.goto 15, 3) := by decide +kernel
theorem d_Ro_isWonBy_84 : dec m_Ro_isWonBy 84 = .ok (.iload 5, 2) := by decide +kernel
theorem d_Ro_isWonBy_86 : dec m_Ro_isWonBy 86 = .ok (.iload 4, 2) := by decide +kernel
theorem d_Ro_isWonBy_88 : dec m_Ro_isWonBy 88 = .ok (.if_icmp .ne 7, 3) := by decide +kernel
theorem d_Ro_isWonBy_91 : dec m_Ro_isWonBy 91 = .ok (.iconst 1, 1) := by decide +kernel
theorem d_Ro_isWonBy_92 : dec m_Ro_isWonBy 92 = .ok (.goto 4, 3) := by decide +kernel
theorem d_Ro_isWonBy_95 : dec m_Ro_isWonBy 95 = .ok (.iconst 0, 1) := by decide +kernel
theorem d_Ro_isWonBy_96 : dec m_Ro_isWonBy 96 = .ok (.ireturn, 1) := by decide +kernel
theorem d_Ro_isWon_0 : dec m_Ro_isWon 0 = .ok (.aload_n 0, 1) := by decide +kernel
theorem d_Ro_isWon_1 : dec m_Ro_isWon 1 = .ok (.getfield 14, 3) := by decide +kernel
theorem d_Ro_isWon_4 : dec m_Ro_isWon 4 = .ok (.iload_n 1, 1) := by decide +kernel
theorem d_Ro_isWon_5 : dec m_Ro_isWon 5 = .ok (.invokevirtual 50, 3) := by decide +kernel
theorem d_Ro_isWon_8 : dec m_Ro_isWon 8 = .ok (.bipush (-5), 2) := by decide +kernel
theorem d_Ro_isWon_10 : dec m_Ro_isWon 10 = .ok (.if_icmp .eq 7, 3) := by decide +kernel
theorem d_Ro_isWon_13 : dec m_Ro_isWon 13 = .ok (.iconst 1, 1) := by decide +kernel
theorem d_Ro_isWon_14 : dec m_Ro_isWon 14 = .ok (.goto 4, 3) := by decide +kernel
theorem d_Ro_isWon_17 : dec m_Ro_isWon 17 = .ok (.iconst 0, 1) := by decide +kernel
theorem d_Ro_isWon_18 : dec m_Ro_isWon 18 = .ok (.ireturn, 1) := by decide +kernel
theorem d_Ro_roundOf_0 : dec m_Ro_roundOf 0 = .ok (.aload_n 0, 1) := by decide +kernel
theorem d_Ro_roundOf_1 : dec m_Ro_roundOf 1 = .ok (.getfield 14, 3) := by decide +kernel
theorem d_Ro_roundOf_4 : dec m_Ro_roundOf 4 = .ok (.iload_n 1, 1) := by decide +kernel
theorem d_Ro_roundOf_5 : dec m_Ro_roundOf 5 = .ok (.invokevirtual 50, 3) := by decide +kernel
theorem d_Ro_roundOf_8 : dec m_Ro_roundOf 8 = .ok (.ireturn, 1) := by decide +kernel
theorem d_Ro_wonPositions_0 : dec m_Ro_wonPositions 0 = .ok (.iconst 0, 1) := by decide +kernel
theorem d_Ro_wonPositions_1 : dec m_Ro_wonPositions 1 = .ok (.istore_n 1, 1) := by decide +kernel
theorem d_Ro_wonPositions_2 : dec m_Ro_wonPositions 2 = .ok (.iconst 0, 1) := by decide +kernel
theorem d_Ro_wonPositions_3 : dec m_Ro_wonPositions 3 = .ok (.istore_n 2, 1) := by decide +kernel
theorem d_Ro_wonPositions_4 : dec m_Ro_wonPositions 4 = .ok (.iload_n 2, 1) := by decide +kernel
theorem d_Ro_wonPositions_5 : dec m_Ro_wonPositions 5 = .ok (.bipush 20, 2) := by decide +kernel
theorem d_Ro_wonPositions_7 : dec m_Ro_wonPositions 7 = .ok (.if_icmp .ge 20, 3) := by decide +kernel
theorem d_Ro_wonPositions_10 : dec m_Ro_wonPositions 10 = .ok (.aload_n 0, 1) := by decide +kernel
theorem d_Ro_wonPositions_11 : dec m_Ro_wonPositions 11 = .ok (.iload_n 2, 1) := by decide +kernel
theorem d_Ro_wonPositions_12 : dec m_Ro_wonPositions 12 = .ok (.invokevirtual 37, 3) := by decide +kernel
theorem d_Ro_wonPositions_15 : dec m_Ro_wonPositions 15 = .ok (.ifCond .eq 6, 3) := by decide +kernel
theorem d_Ro_wonPositions_18 : dec m_Ro_wonPositions 18 = .ok (.iinc 1 1, 3) := by decide +kernel
theorem d_Ro_wonPositions_21 : dec m_Ro_wonPositions 21 = .ok (.iinc 2 1, 3) := by decide +kernel
theorem d_Ro_wonPositions_24 : dec m_Ro_wonPositions 24 = .ok (.goto (-20), 3) := by decide +kernel
theorem d_Ro_wonPositions_27 : dec m_Ro_wonPositions 27 = .ok (.iload_n 1, 1) := by decide +kernel
theorem d_Ro_wonPositions_28 : dec m_Ro_wonPositions 28 = .ok (.ireturn, 1) := by decide +kernel
theorem d_Rw_init_0 : dec m_Rw_init 0 = .ok (.aload_n 0, 1) := by decide +kernel
theorem d_Rw_init_1 : dec m_Rw_init 1 = .ok (.invokespecial 1, 3) := by decide +kernel
theorem d_Rw_init_4 : dec m_Rw_init 4 = .ok (.aload_n 0, 1) := by decide +kernel
theorem d_Rw_init_5 : dec m_Rw_init 5 = .ok (.iconst 0, 1) := by decide +kernel
theorem d_Rw_init_6 : dec m_Rw_init 6 = .ok (.iload_n 1, 1) := by decide +kernel
theorem d_Rw_init_7 : dec m_Rw_init 7 = .ok (.invokestatic 7, 3) := by decide +kernel
theorem d_Rw_init_10 : dec m_Rw_init 10 = .ok (.newarray .int, 2) := by decide +kernel
theorem d_Rw_init_12 : dec m_Rw_init 12 = .ok (.putfield 13, 3) := by decide +kernel
theorem d_Rw_init_15 : dec m_Rw_init 15 = .ok (.return_, 1) := by decide +kernel
theorem d_Rw_get_0 : dec m_Rw_get 0 = .ok (.iload_n 1, 1) := by decide +kernel
theorem d_Rw_get_1 : dec m_Rw_get 1 = .ok (.ifCond .lt 21, 3) := by decide +kernel
theorem d_Rw_get_4 : dec m_Rw_get 4 = .ok (.iload_n 1, 1) := by decide +kernel
theorem d_Rw_get_5 : dec m_Rw_get 5 = .ok (.aload_n 0, 1) := by decide +kernel
theorem d_Rw_get_6 : dec m_Rw_get 6 = .ok (.getfield 13, 3) := by decide +kernel
theorem d_Rw_get_9 : dec m_Rw_get 9 = .ok (.arraylength, 1) := by decide +kernel
theorem d_Rw_get_10 : dec m_Rw_get 10 = .ok (.if_icmp .ge 12, 3) := by decide +kernel
theorem d_Rw_get_13 : dec m_Rw_get 13 = .ok (.aload_n 0, 1) := by decide +kernel
theorem d_Rw_get_14 : dec m_Rw_get 14 = .ok (.getfield 13, 3) := by decide +kernel
theorem d_Rw_get_17 : dec m_Rw_get 17 = .ok (.iload_n 1, 1) := by decide +kernel
theorem d_Rw_get_18 : dec m_Rw_get 18 = .ok (.iaload, 1) := by decide +kernel
theorem d_Rw_get_19 : dec m_Rw_get 19 = .ok (.goto 4, 3) := by decide +kernel
theorem d_Rw_get_22 : dec m_Rw_get 22 = .ok (.iconst 0, 1) := by decide +kernel
theorem d_Rw_get_23 : dec m_Rw_get 23 = .ok (.ireturn, 1) := by decide +kernel
theorem d_Rw_set_0 : dec m_Rw_set 0 = .ok (.iload_n 1, 1) := by decide +kernel
theorem d_Rw_set_1 : dec m_Rw_set 1 = .ok (.ifCond .lt 19, 3) := by decide +kernel
theorem d_Rw_set_4 : dec m_Rw_set 4 = .ok (.iload_n 1, 1) := by decide +kernel
theorem d_Rw_set_5 : dec m_Rw_set 5 = .ok (.aload_n 0, 1) := by decide +kernel
theorem d_Rw_set_6 : dec m_Rw_set 6 = .ok (.getfield 13, 3) := by decide +kernel
theorem d_Rw_set_9 : dec m_Rw_set 9 = .ok (.arraylength, 1) := by decide +kernel
theorem d_Rw_set_10 : dec m_Rw_set 10 = .ok (.if_icmp .ge 10, 3) := by decide +kernel
theorem d_Rw_set_13 : dec m_Rw_set 13 = .ok (.aload_n 0, 1) := by decide +kernel
theorem d_Rw_set_14 : dec m_Rw_set 14 = .ok (.getfield 13, 3) := by decide +kernel
theorem d_Rw_set_17 : dec m_Rw_set 17 = .ok (.iload_n 1, 1) := by decide +kernel
theorem d_Rw_set_18 : dec m_Rw_set 18 = .ok (.iload_n 2, 1) := by decide +kernel
theorem d_Rw_set_19 : dec m_Rw_set 19 = .ok (.iastore, 1) := by decide +kernel
theorem d_Rw_set_20 : dec m_Rw_set 20 = .ok (.return_, 1) := by decide +kernel
theorem d_Rw_fill_0 : dec m_Rw_fill 0 = .ok (.iconst 0, 1) := by decide +kernel
theorem d_Rw_fill_1 : dec m_Rw_fill 1 = .ok (.istore_n 2, 1) := by decide +kernel
theorem d_Rw_fill_2 : dec m_Rw_fill 2 = .ok (.iload_n 2, 1) := by decide +kernel
theorem d_Rw_fill_3 : dec m_Rw_fill 3 = .ok (.aload_n 0, 1) := by decide +kernel
theorem d_Rw_fill_4 : dec m_Rw_fill 4 = .ok (.getfield 13, 3) := by decide +kernel
theorem d_Rw_fill_7 : dec m_Rw_fill 7 = .ok (.arraylength, 1) := by decide +kernel
theorem d_Rw_fill_8 : dec m_Rw_fill 8 = .ok (.if_icmp .ge 16, 3) := by decide +kernel
theorem d_Rw_fill_11 : dec m_Rw_fill 11 = .ok (.aload_n 0, 1) := by decide +kernel
theorem d_Rw_fill_12 : dec m_Rw_fill 12 = .ok (.getfield 13, 3) := by decide +kernel
theorem d_Rw_fill_15 : dec m_Rw_fill 15 = .ok (.iload_n 2, 1) := by decide +kernel
theorem d_Rw_fill_16 : dec m_Rw_fill 16 = .ok (.iload_n 1, 1) := by decide +kernel
theorem d_Rw_fill_17 : dec m_Rw_fill 17 = .ok (.iastore, 1) := by decide +kernel
theorem d_Rw_fill_18 : dec m_Rw_fill 18 = .ok (.iinc 2 1, 3) := by decide +kernel
theorem d_Rw_fill_21 : dec m_Rw_fill 21 = .ok (.goto (-19), 3) := by decide +kernel
theorem d_Rw_fill_24 : dec m_Rw_fill 24 = .ok (.return_, 1) := by decide +kernel
theorem d_Rw_copyFrom_0 : dec m_Rw_copyFrom 0 = .ok (.aload_n 1, 1) := by decide +kernel
theorem d_Rw_copyFrom_1 : dec m_Rw_copyFrom 1 = .ok (.getfield 13, 3) := by decide +kernel
theorem d_Rw_copyFrom_4 : dec m_Rw_copyFrom 4 = .ok (.iconst 0, 1) := by decide +kernel
theorem d_Rw_copyFrom_5 : dec m_Rw_copyFrom 5 = .ok (.aload_n 0, 1) := by decide +kernel
theorem d_Rw_copyFrom_6 : dec m_Rw_copyFrom 6 = .ok (.getfield 13, 3) := by decide +kernel
theorem d_Rw_copyFrom_9 : dec m_Rw_copyFrom 9 = .ok (.iconst 0, 1) := by decide +kernel
theorem d_Rw_copyFrom_10 : dec m_Rw_copyFrom 10 = .ok (.aload_n 1, 1) := by decide +kernel
theorem d_Rw_copyFrom_11 : dec m_Rw_copyFrom 11 = .ok (.getfield 13, 3) := by decide +kernel
theorem d_Rw_copyFrom_14 : dec m_Rw_copyFrom 14 = .ok (.arraylength, 1) := by decide +kernel
theorem d_Rw_copyFrom_15 : dec m_Rw_copyFrom 15 = .ok (.aload_n 0, 1) := by decide +kernel
theorem d_Rw_copyFrom_16 : dec m_Rw_copyFrom 16 = .ok (.getfield 13, 3) := by decide +kernel
theorem d_Rw_copyFrom_19 : dec m_Rw_copyFrom 19 = .ok (.arraylength, 1) := by decide +kernel
theorem d_Rw_copyFrom_20 : dec m_Rw_copyFrom 20 = .ok (.invokestatic 19, 3) := by decide +kernel
theorem d_Rw_copyFrom_23 : dec m_Rw_copyFrom 23 = .ok (.invokestatic 22, 3) := by decide +kernel
theorem d_Rw_copyFrom_26 : dec m_Rw_copyFrom 26 = .ok (.return_, 1) := by decide +kernel
theorem d_St_init_0 : dec m_St_init 0 = .ok (.aload_n 0, 1) := by decide +kernel
theorem d_St_init_1 : dec m_St_init 1 = .ok (.invokespecial 1, 3) := by decide +kernel
theorem d_St_init_4 : dec m_St_init 4 = .ok (.aload_n 0, 1) := by decide +kernel
theorem d_St_init_5 : dec m_St_init 5 = .ok (.new 7, 3) := by decide +kernel
theorem d_St_init_8 : dec m_St_init 8 = .ok (.dup, 1) := by decide +kernel
theorem d_St_init_9 : dec m_St_init 9 = .ok (.invokespecial 9, 3) := by decide +kernel
theorem d_St_init_12 : dec m_St_init 12 = .ok (.putfield 10, 3) := by decide +kernel
theorem d_St_init_15 : dec m_St_init 15 = .ok (.aload_n 0, 1) := by decide +kernel
theorem d_St_init_16 : dec m_St_init 16 = .ok (.new 16, 3) := by decide +kernel
theorem d_St_init_19 : dec m_St_init 19 = .ok (.dup, 1) := by decide +kernel
theorem d_St_init_20 : dec m_St_init 20 = .ok (.aload_n 0, 1) := by decide +kernel
theorem d_St_init_21 : dec m_St_init 21 = .ok (.getfield 10, 3) := by decide +kernel
theorem d_St_init_24 : dec m_St_init 24 = .ok (.invokespecial 18, 3) := by decide +kernel
theorem d_St_init_27 : dec m_St_init 27 = .ok (.putfield 21, 3) := by decide +kernel
theorem d_St_init_30 : dec m_St_init 30 = .ok (.return_, 1) := by decide +kernel
theorem d_St_copyFrom_0 : dec m_St_copyFrom 0 = .ok (.aload_n 0, 1) := by decide +kernel
theorem d_St_copyFrom_1 : dec m_St_copyFrom 1 = .ok (.getfield 10, 3) := by decide +kernel
theorem d_St_copyFrom_4 : dec m_St_copyFrom 4 = .ok (.aload_n 1, 1) := by decide +kernel
theorem d_St_copyFrom_5 : dec m_St_copyFrom 5 = .ok (.getfield 10, 3) := by decide +kernel
theorem d_St_copyFrom_8 : dec m_St_copyFrom 8 = .ok (.invokevirtual 25, 3) := by decide +kernel
theorem d_St_copyFrom_11 : dec m_St_copyFrom 11 = .ok (.aload_n 0, 1) := by decide +kernel
theorem d_St_copyFrom_12 : dec m_St_copyFrom 12 = .ok (.getfield 21, 3) := by decide +kernel
theorem d_St_copyFrom_15 : dec m_St_copyFrom 15 = .ok (.aload_n 1, 1) := by decide +kernel
theorem d_St_copyFrom_16 : dec m_St_copyFrom 16 = .ok (.getfield 21, 3) := by decide +kernel
theorem d_St_copyFrom_19 : dec m_St_copyFrom 19 = .ok (.invokevirtual 28, 3) := by decide +kernel
theorem d_St_copyFrom_22 : dec m_St_copyFrom 22 = .ok (.return_, 1) := by decide +kernel
theorem d_Tx_init_0 : dec m_Tx_init 0 = .ok (.aload_n 0, 1) := by decide +kernel
theorem d_Tx_init_1 : dec m_Tx_init 1 = .ok (.invokespecial 3, 3) := by decide +kernel
theorem d_Tx_init_4 : dec m_Tx_init 4 = .ok (.aload_n 0, 1) := by decide +kernel
theorem d_Tx_init_5 : dec m_Tx_init 5 = .ok (.bipush 60, 2) := by decide +kernel
theorem d_Tx_init_7 : dec m_Tx_init 7 = .ok (.newarray .char, 2) := by decide +kernel
theorem d_Tx_init_9 : dec m_Tx_init 9 = .ok (.putfield 9, 3) := by decide +kernel
theorem d_Tx_init_12 : dec m_Tx_init 12 = .ok (.return_, 1) := by decide +kernel
theorem d_Tr_init_0 : dec m_Tr_init 0 = .ok (.aload_n 0, 1) := by decide +kernel
theorem d_Tr_init_1 : dec m_Tr_init 1 = .ok (.invokespecial 3, 3) := by decide +kernel
theorem d_Tr_init_4 : dec m_Tr_init 4 = .ok (.aload_n 0, 1) := by decide +kernel
theorem d_Tr_init_5 : dec m_Tr_init 5 = .ok (.new 9, 3) := by decide +kernel
theorem d_Tr_init_8 : dec m_Tr_init 8 = .ok (.dup, 1) := by decide +kernel
theorem d_Tr_init_9 : dec m_Tr_init 9 = .ok (.sipush 200, 3) := by decide +kernel
theorem d_Tr_init_12 : dec m_Tr_init 12 = .ok (.invokespecial 11, 3) := by decide +kernel
theorem d_Tr_init_15 : dec m_Tr_init 15 = .ok (.putfield 14, 3) := by decide +kernel
theorem d_Tr_init_18 : dec m_Tr_init 18 = .ok (.aload_n 0, 1) := by decide +kernel
theorem d_Tr_init_19 : dec m_Tr_init 19 = .ok (.new 9, 3) := by decide +kernel
theorem d_Tr_init_22 : dec m_Tr_init 22 = .ok (.dup, 1) := by decide +kernel
theorem d_Tr_init_23 : dec m_Tr_init 23 = .ok (.sipush 200, 3) := by decide +kernel
theorem d_Tr_init_26 : dec m_Tr_init 26 = .ok (.invokespecial 11, 3) := by decide +kernel
theorem d_Tr_init_29 : dec m_Tr_init 29 = .ok (.putfield 20, 3) := by decide +kernel
theorem d_Tr_init_32 : dec m_Tr_init 32 = .ok (.aload_n 0, 1) := by decide +kernel
theorem d_Tr_init_33 : dec m_Tr_init 33 = .ok (.new 9, 3) := by decide +kernel
theorem d_Tr_init_36 : dec m_Tr_init 36 = .ok (.dup, 1) := by decide +kernel
theorem d_Tr_init_37 : dec m_Tr_init 37 = .ok (.sipush 200, 3) := by decide +kernel
theorem d_Tr_init_40 : dec m_Tr_init 40 = .ok (.invokespecial 11, 3) := by decide +kernel
theorem d_Tr_init_43 : dec m_Tr_init 43 = .ok (.putfield 23, 3) := by decide +kernel
theorem d_Tr_init_46 : dec m_Tr_init 46 = .ok (.aload_n 0, 1) := by decide +kernel
theorem d_Tr_init_47 : dec m_Tr_init 47 = .ok (.new 9, 3) := by decide +kernel
theorem d_Tr_init_50 : dec m_Tr_init 50 = .ok (.dup, 1) := by decide +kernel
theorem d_Tr_init_51 : dec m_Tr_init 51 = .ok (.sipush 200, 3) := by decide +kernel
theorem d_Tr_init_54 : dec m_Tr_init 54 = .ok (.invokespecial 11, 3) := by decide +kernel
theorem d_Tr_init_57 : dec m_Tr_init 57 = .ok (.putfield 26, 3) := by decide +kernel
theorem d_Tr_init_60 : dec m_Tr_init 60 = .ok (.aload_n 0, 1) := by decide +kernel
theorem d_Tr_init_61 : dec m_Tr_init 61 = .ok (.new 9, 3) := by decide +kernel
theorem d_Tr_init_64 : dec m_Tr_init 64 = .ok (.dup, 1) := by decide +kernel
theorem d_Tr_init_65 : dec m_Tr_init 65 = .ok (.sipush 200, 3) := by decide +kernel
theorem d_Tr_init_68 : dec m_Tr_init 68 = .ok (.invokespecial 11, 3) := by decide +kernel
theorem d_Tr_init_71 : dec m_Tr_init 71 = .ok (.putfield 29, 3) := by decide +kernel
theorem d_Tr_init_74 : dec m_Tr_init 74 = .ok (.aload_n 0, 1) := by decide +kernel
theorem d_Tr_init_75 : dec m_Tr_init 75 = .ok (.new 9, 3) := by decide +kernel
theorem d_Tr_init_78 : dec m_Tr_init 78 = .ok (.dup, 1) := by decide +kernel
theorem d_Tr_init_79 : dec m_Tr_init 79 = .ok (.sipush 200, 3) := by decide +kernel
theorem d_Tr_init_82 : dec m_Tr_init 82 = .ok (.invokespecial 11, 3) := by decide +kernel
theorem d_Tr_init_85 : dec m_Tr_init 85 = .ok (.putfield 32, 3) := by decide +kernel
theorem d_Tr_init_88 : dec m_Tr_init 88 = .ok (.aload_n 0, 1) := by decide +kernel
theorem d_Tr_init_89 : dec m_Tr_init 89 = .ok (.new 9, 3) := by decide +kernel
theorem d_Tr_init_92 : dec m_Tr_init 92 = .ok (.dup, 1) := by decide +kernel
theorem d_Tr_init_93 : dec m_Tr_init 93 = .ok (.sipush 200, 3) := by decide +kernel
theorem d_Tr_init_96 : dec m_Tr_init 96 = .ok (.invokespecial 11, 3) := by decide +kernel
theorem d_Tr_init_99 : dec m_Tr_init 99 = .ok (.putfield 35, 3) := by decide +kernel
theorem d_Tr_init_102 : dec m_Tr_init 102 = .ok (.aload_n 0, 1) := by decide +kernel
theorem d_Tr_init_103 : dec m_Tr_init 103 = .ok (.new 9, 3) := by decide +kernel
theorem d_Tr_init_106 : dec m_Tr_init 106 = .ok (.dup, 1) := by decide +kernel
theorem d_Tr_init_107 : dec m_Tr_init 107 = .ok (.sipush 200, 3) := by decide +kernel
theorem d_Tr_init_110 : dec m_Tr_init 110 = .ok (.invokespecial 11, 3) := by decide +kernel
theorem d_Tr_init_113 : dec m_Tr_init 113 = .ok (.putfield 38, 3) := by decide +kernel
theorem d_Tr_init_116 : dec m_Tr_init 116 = .ok (.aload_n 0, 1) := by decide +kernel
theorem d_Tr_init_117 : dec m_Tr_init 117 = .ok (.aload_n 1, 1) := by decide +kernel
theorem d_Tr_init_118 : dec m_Tr_init 118 = .ok (.putfield 41, 3) := by decide +kernel
theorem d_Tr_init_121 : dec m_Tr_init 121 = .ok (.return_, 1) := by decide +kernel
theorem d_Tr_copyFrom_0 : dec m_Tr_copyFrom 0 = .ok (.aload_n 0, 1) := by decide +kernel
theorem d_Tr_copyFrom_1 : dec m_Tr_copyFrom 1 = .ok (.getfield 14, 3) := by decide +kernel
theorem d_Tr_copyFrom_4 : dec m_Tr_copyFrom 4 = .ok (.aload_n 1, 1) := by decide +kernel
theorem d_Tr_copyFrom_5 : dec m_Tr_copyFrom 5 = .ok (.getfield 14, 3) := by decide +kernel
theorem d_Tr_copyFrom_8 : dec m_Tr_copyFrom 8 = .ok (.invokevirtual 45, 3) := by decide +kernel
theorem d_Tr_copyFrom_11 : dec m_Tr_copyFrom 11 = .ok (.aload_n 0, 1) := by decide +kernel
theorem d_Tr_copyFrom_12 : dec m_Tr_copyFrom 12 = .ok (.getfield 20, 3) := by decide +kernel
theorem d_Tr_copyFrom_15 : dec m_Tr_copyFrom 15 = .ok (.aload_n 1, 1) := by decide +kernel
theorem d_Tr_copyFrom_16 : dec m_Tr_copyFrom 16 = .ok (.getfield 20, 3) := by decide +kernel
theorem d_Tr_copyFrom_19 : dec m_Tr_copyFrom 19 = .ok (.invokevirtual 45, 3) := by decide +kernel
theorem d_Tr_copyFrom_22 : dec m_Tr_copyFrom 22 = .ok (.aload_n 0, 1) := by decide +kernel
theorem d_Tr_copyFrom_23 : dec m_Tr_copyFrom 23 = .ok (.getfield 23, 3) := by decide +kernel
theorem d_Tr_copyFrom_26 : dec m_Tr_copyFrom 26 = .ok (.aload_n 1, 1) := by decide +kernel
theorem d_Tr_copyFrom_27 : dec m_Tr_copyFrom 27 = .ok (.getfield 23, 3) := by decide +kernel
theorem d_Tr_copyFrom_30 : dec m_Tr_copyFrom 30 = .ok (.invokevirtual 45, 3) := by decide +kernel
theorem d_Tr_copyFrom_33 : dec m_Tr_copyFrom 33 = .ok (.aload_n 0, 1) := by decide +kernel
theorem d_Tr_copyFrom_34 : dec m_Tr_copyFrom 34 = .ok (.getfield 26, 3) := by decide +kernel
theorem d_Tr_copyFrom_37 : dec m_Tr_copyFrom 37 = .ok (.aload_n 1, 1) := by decide +kernel
theorem d_Tr_copyFrom_38 : dec m_Tr_copyFrom 38 = .ok (.getfield 26, 3) := by decide +kernel
theorem d_Tr_copyFrom_41 : dec m_Tr_copyFrom 41 = .ok (.invokevirtual 45, 3) := by decide +kernel
theorem d_Tr_copyFrom_44 : dec m_Tr_copyFrom 44 = .ok (.aload_n 0, 1) := by decide +kernel
theorem d_Tr_copyFrom_45 : dec m_Tr_copyFrom 45 = .ok (.getfield 29, 3) := by decide +kernel
theorem d_Tr_copyFrom_48 : dec m_Tr_copyFrom 48 = .ok (.aload_n 1, 1) := by decide +kernel
theorem d_Tr_copyFrom_49 : dec m_Tr_copyFrom 49 = .ok (.getfield 29, 3) := by decide +kernel
theorem d_Tr_copyFrom_52 : dec m_Tr_copyFrom 52 = .ok (.invokevirtual 45, 3) := by decide +kernel
theorem d_Tr_copyFrom_55 : dec m_Tr_copyFrom 55 = .ok (.aload_n 0, 1) := by decide +kernel
theorem d_Tr_copyFrom_56 : dec m_Tr_copyFrom 56 = .ok (.getfield 32, 3) := by decide +kernel
theorem d_Tr_copyFrom_59 : dec m_Tr_copyFrom 59 = .ok (.aload_n 1, 1) := by decide +kernel
theorem d_Tr_copyFrom_60 : dec m_Tr_copyFrom 60 = .ok (.getfield 32, 3) := by decide +kernel
theorem d_Tr_copyFrom_63 : dec m_Tr_copyFrom 63 = .ok (.invokevirtual 45, 3) := by decide +kernel
theorem d_Tr_copyFrom_66 : dec m_Tr_copyFrom 66 = .ok (.aload_n 0, 1) := by decide +kernel
theorem d_Tr_copyFrom_67 : dec m_Tr_copyFrom 67 = .ok (.getfield 35, 3) := by decide +kernel
theorem d_Tr_copyFrom_70 : dec m_Tr_copyFrom 70 = .ok (.aload_n 1, 1) := by decide +kernel
theorem d_Tr_copyFrom_71 : dec m_Tr_copyFrom 71 = .ok (.getfield 35, 3) := by decide +kernel
theorem d_Tr_copyFrom_74 : dec m_Tr_copyFrom 74 = .ok (.invokevirtual 45, 3) := by decide +kernel
theorem d_Tr_copyFrom_77 : dec m_Tr_copyFrom 77 = .ok (.aload_n 0, 1) := by decide +kernel
theorem d_Tr_copyFrom_78 : dec m_Tr_copyFrom 78 = .ok (.getfield 38, 3) := by decide +kernel
theorem d_Tr_copyFrom_81 : dec m_Tr_copyFrom 81 = .ok (.aload_n 1, 1) := by decide +kernel
theorem d_Tr_copyFrom_82 : dec m_Tr_copyFrom 82 = .ok (.getfield 38, 3) := by decide +kernel
theorem d_Tr_copyFrom_85 : dec m_Tr_copyFrom 85 = .ok (.invokevirtual 45, 3) := by decide +kernel
theorem d_Tr_copyFrom_88 : dec m_Tr_copyFrom 88 = .ok (.aload_n 0, 1) := by decide +kernel
theorem d_Tr_copyFrom_89 : dec m_Tr_copyFrom 89 = .ok (.aload_n 1, 1) := by decide +kernel
theorem d_Tr_copyFrom_90 : dec m_Tr_copyFrom 90 = .ok (.getfield 49, 3) := by decide +kernel
theorem d_Tr_copyFrom_93 : dec m_Tr_copyFrom 93 = .ok (.putfield 49, 3) := by decide +kernel
theorem d_Tr_copyFrom_96 : dec m_Tr_copyFrom 96 = .ok (.return_, 1) := by decide +kernel
theorem d_Tr_clear_0 : dec m_Tr_clear 0 = .ok (.aload_n 0, 1) := by decide +kernel
theorem d_Tr_clear_1 : dec m_Tr_clear 1 = .ok (.iconst 0, 1) := by decide +kernel
theorem d_Tr_clear_2 : dec m_Tr_clear 2 = .ok (.putfield 49, 3) := by decide +kernel
theorem d_Tr_clear_5 : dec m_Tr_clear 5 = .ok (.return_, 1) := by decide +kernel
theorem d_Tr_isEmpty_0 : dec m_Tr_isEmpty 0 = .ok (.aload_n 0, 1) := by decide +kernel
theorem d_Tr_isEmpty_1 : dec m_Tr_isEmpty 1 = .ok (.getfield 49, 3) := by decide +kernel
theorem d_Tr_isEmpty_4 : dec m_Tr_isEmpty 4 = .ok (.ifCond .ne 7, 3) := by decide +kernel
theorem d_Tr_isEmpty_7 : dec m_Tr_isEmpty 7 = .ok (.iconst 1, 1) := by decide +kernel
theorem d_Tr_isEmpty_8 : dec m_Tr_isEmpty 8 = .ok (.goto 4, 3) := by decide +kernel
theorem d_Tr_isEmpty_11 : dec m_Tr_isEmpty 11 = .ok (.iconst 0, 1) := by decide +kernel
theorem d_Tr_isEmpty_12 : dec m_Tr_isEmpty 12 = .ok (.ireturn, 1) := by decide +kernel
theorem d_Tr_has_0 : dec m_Tr_has 0 = .ok (.iload_n 1, 1) := by decide +kernel
theorem d_Tr_has_1 : dec m_Tr_has 1 = .ok (.ifCond .lt 15, 3) := by decide +kernel
theorem d_Tr_has_4 : dec m_Tr_has 4 = .ok (.iload_n 1, 1) := by decide +kernel
theorem d_Tr_has_5 : dec m_Tr_has 5 = .ok (.aload_n 0, 1) := by decide +kernel
theorem d_Tr_has_6 : dec m_Tr_has 6 = .ok (.getfield 49, 3) := by decide +kernel
theorem d_Tr_has_9 : dec m_Tr_has 9 = .ok (.if_icmp .ge 7, 3) := by decide +kernel
theorem d_Tr_has_12 : dec m_Tr_has 12 = .ok (.iconst 1, 1) := by decide +kernel
theorem d_Tr_has_13 : dec m_Tr_has 13 = .ok (.goto 4, 3) := by decide +kernel
theorem d_Tr_has_16 : dec m_Tr_has 16 = .ok (.iconst 0, 1) := by decide +kernel
theorem d_Tr_has_17 : dec m_Tr_has 17 = .ok (.ireturn, 1) := by decide +kernel
theorem d_Tr_isLeaf_0 : dec m_Tr_isLeaf 0 = .ok (.aload_n 0, 1) := by decide +kernel
theorem d_Tr_isLeaf_1 : dec m_Tr_isLeaf 1 = .ok (.getfield 32, 3) := by decide +kernel
theorem d_Tr_isLeaf_4 : dec m_Tr_isLeaf 4 = .ok (.iload_n 1, 1) := by decide +kernel
theorem d_Tr_isLeaf_5 : dec m_Tr_isLeaf 5 = .ok (.invokevirtual 53, 3) := by decide +kernel
theorem d_Tr_isLeaf_8 : dec m_Tr_isLeaf 8 = .ok (.ifCond .ne 7, 3) := by decide +kernel
theorem d_Tr_isLeaf_11 : dec m_Tr_isLeaf 11 = .ok (.iconst 1, 1) := by decide +kernel
theorem d_Tr_isLeaf_12 : dec m_Tr_isLeaf 12 = .ok (.goto 4, 3) := by decide +kernel
theorem d_Tr_isLeaf_15 : dec m_Tr_isLeaf 15 = .ok (.iconst 0, 1) := by decide +kernel
theorem d_Tr_isLeaf_16 : dec m_Tr_isLeaf 16 = .ok (.ireturn, 1) := by decide +kernel
theorem d_Tr_endOfChildren_0 : dec m_Tr_endOfChildren 0 = .ok (.aload_n 0, 1) := by decide +kernel
theorem d_Tr_endOfChildren_1 : dec m_Tr_endOfChildren 1 = .ok (.getfield 35, 3) := by decide +kernel
theorem d_Tr_endOfChildren_4 : dec m_Tr_endOfChildren 4 = .ok (.iload_n 1, 1) := by decide +kernel
theorem d_Tr_endOfChildren_5 : dec m_Tr_endOfChildren 5 = .ok (.invokevirtual 53, 3) := by decide +kernel
theorem d_Tr_endOfChildren_8 : dec m_Tr_endOfChildren 8 = .ok (.aload_n 0, 1) := by decide +kernel
theorem d_Tr_endOfChildren_9 : dec m_Tr_endOfChildren 9 = .ok (.getfield 32, 3) := by decide +kernel
theorem d_Tr_endOfChildren_12 : dec m_Tr_endOfChildren 12 = .ok (.iload_n 1, 1) := by decide +kernel
theorem d_Tr_endOfChildren_13 : dec m_Tr_endOfChildren 13 = .ok (.invokevirtual 53, 3) := by decide +kernel
theorem d_Tr_endOfChildren_16 : dec m_Tr_endOfChildren 16 = .ok (.iadd, 1) := by decide +kernel
theorem d_Tr_endOfChildren_17 : dec m_Tr_endOfChildren 17 = .ok (.ireturn, 1) := by decide +kernel
theorem d_Tr_turnAt_0 : dec m_Tr_turnAt 0 = .ok (.aload_n 0, 1) := by decide +kernel
theorem d_Tr_turnAt_1 : dec m_Tr_turnAt 1 = .ok (.getfield 41, 3) := by decide +kernel
theorem d_Tr_turnAt_4 : dec m_Tr_turnAt 4 = .ok (.getfield 57, 3) := by decide +kernel
theorem d_Tr_turnAt_7 : dec m_Tr_turnAt 7 = .ok (.aload_n 0, 1) := by decide +kernel
theorem d_Tr_turnAt_8 : dec m_Tr_turnAt 8 = .ok (.getfield 14, 3) := by decide +kernel
theorem d_Tr_turnAt_11 : dec m_Tr_turnAt 11 = .ok (.iload_n 1, 1) := by decide +kernel
theorem d_Tr_turnAt_12 : dec m_Tr_turnAt 12 = .ok (.invokevirtual 53, 3) := by decide +kernel
theorem d_Tr_turnAt_15 : dec m_Tr_turnAt 15 = .ok (.invokevirtual 53, 3) := by decide +kernel
theorem d_Tr_turnAt_18 : dec m_Tr_turnAt 18 = .ok (.ireturn, 1) := by decide +kernel
theorem d_Tr_outcome_0 : dec m_Tr_outcome 0 = .ok (.aload_n 0, 1) := by decide +kernel
theorem d_Tr_outcome_1 : dec m_Tr_outcome 1 = .ok (.invokevirtual 62, 3) := by decide +kernel
theorem d_Tr_outcome_4 : dec m_Tr_outcome 4 = .ok (.ifCond .eq 5, 3) := by decide +kernel
theorem d_Tr_outcome_7 : dec m_Tr_outcome 7 = .ok (.iconst 0, 1) := by decide +kernel
theorem d_Tr_outcome_8 : dec m_Tr_outcome 8 = .ok (.ireturn, 1) := by decide +kernel
theorem d_Tr_outcome_9 : dec m_Tr_outcome 9 = .ok (.aload_n 0, 1) := by decide +kernel
theorem d_Tr_outcome_10 : dec m_Tr_outcome 10 = .ok (.getfield 26, 3) := by decide +kernel
theorem d_Tr_outcome_13 : dec m_Tr_outcome 13 = .ok (.iconst 0, 1) := by decide +kernel
theorem d_Tr_outcome_14 : dec m_Tr_outcome 14 = .ok (.invokevirtual 53, 3) := by decide +kernel
theorem d_Tr_outcome_17 : dec m_Tr_outcome 17 = .ok (.ifCond .ne 5, 3) := by decide +kernel
theorem d_Tr_outcome_20 : dec m_Tr_outcome 20 = .ok (.iconst 1, 1) := by decide +kernel
theorem d_Tr_outcome_21 : dec m_Tr_outcome 21 = .ok (.ireturn, 1) := by decide +kernel
theorem d_Tr_outcome_22 : dec m_Tr_outcome 22 = .ok (.aload_n 0, 1) := by decide +kernel
theorem d_Tr_outcome_23 : dec m_Tr_outcome 23 = .ok (.getfield 29, 3) := by decide +kernel
theorem d_Tr_outcome_26 : dec m_Tr_outcome 26 = .ok (.iconst 0, 1) := by decide +kernel
theorem d_Tr_outcome_27 : dec m_Tr_outcome 27 = .ok (.invokevirtual 53, 3) := by decide +kernel
theorem d_Tr_outcome_30 : dec m_Tr_outcome 30 = .ok (.ifCond .ne 7, 3) := by decide +kernel
theorem d_Tr_outcome_33 : dec m_Tr_outcome 33 = .ok (.iconst 2, 1) := by decide +kernel
theorem d_Tr_outcome_34 : dec m_Tr_outcome 34 = .ok (.goto 4, 3) := by decide +kernel
theorem d_Tr_outcome_37 : dec m_Tr_outcome 37 = .ok (.iconst 0, 1) := by decide +kernel
theorem d_Tr_outcome_38 : dec m_Tr_outcome 38 = .ok (.ireturn, 1) := by decide +kernel
theorem d_Tr_plant_0 : dec m_Tr_plant 0 = .ok (.aload_n 0, 1) := by decide +kernel
theorem d_Tr_plant_1 : dec m_Tr_plant 1 = .ok (.invokevirtual 66, 3) := by decide +kernel
theorem d_Tr_plant_4 : dec m_Tr_plant 4 = .ok (.aload_n 0, 1) := by decide +kernel
theorem d_Tr_plant_5 : dec m_Tr_plant 5 = .ok (.iload_n 1, 1) := by decide +kernel
theorem d_Tr_plant_6 : dec m_Tr_plant 6 = .ok (.bipush (-5), 2) := by decide +kernel
theorem d_Tr_plant_8 : dec m_Tr_plant 8 = .ok (.invokevirtual 69, 3) := by decide +kernel
theorem d_Tr_plant_11 : dec m_Tr_plant 11 = .ok (.return_, 1) := by decide +kernel
theorem d_Tr_addLeaf_0 : dec m_Tr_addLeaf 0 = .ok (.aload_n 0, 1) := by decide +kernel
theorem d_Tr_addLeaf_1 : dec m_Tr_addLeaf 1 = .ok (.getfield 49, 3) := by decide +kernel
theorem d_Tr_addLeaf_4 : dec m_Tr_addLeaf 4 = .ok (.istore_n 3, 1) := by decide +kernel
theorem d_Tr_addLeaf_5 : dec m_Tr_addLeaf 5 = .ok (.aload_n 0, 1) := by decide +kernel
theorem d_Tr_addLeaf_6 : dec m_Tr_addLeaf 6 = .ok (.dup, 1) := by decide +kernel
theorem d_Tr_addLeaf_7 : dec m_Tr_addLeaf 7 = .ok (.getfield 49, 3) := by decide +kernel
theorem d_Tr_addLeaf_10 : dec m_Tr_addLeaf 10 = .ok (.iconst 1, 1) := by decide +kernel
theorem d_Tr_addLeaf_11 : dec m_Tr_addLeaf 11 = .ok (.iadd, 1) := by decide +kernel
theorem d_Tr_addLeaf_12 : dec m_Tr_addLeaf 12 = .ok (.putfield 49, 3) := by decide +kernel
theorem d_Tr_addLeaf_15 : dec m_Tr_addLeaf 15 = .ok (.aload_n 0, 1) := by decide +kernel
theorem d_Tr_addLeaf_16 : dec m_Tr_addLeaf 16 = .ok (.getfield 14, 3) := by decide +kernel
theorem d_Tr_addLeaf_19 : dec m_Tr_addLeaf 19 = .ok (.iload_n 3, 1) := by decide +kernel
theorem d_Tr_addLeaf_20 : dec m_Tr_addLeaf 20 = .ok (.iload_n 1, 1) := by decide +kernel
theorem d_Tr_addLeaf_21 : dec m_Tr_addLeaf 21 = .ok (.invokevirtual 73, 3) := by decide +kernel
theorem d_Tr_addLeaf_24 : dec m_Tr_addLeaf 24 = .ok (.aload_n 0, 1) := by decide +kernel
theorem d_Tr_addLeaf_25 : dec m_Tr_addLeaf 25 = .ok (.getfield 20, 3) := by decide +kernel
theorem d_Tr_addLeaf_28 : dec m_Tr_addLeaf 28 = .ok (.iload_n 3, 1) := by decide +kernel
theorem d_Tr_addLeaf_29 : dec m_Tr_addLeaf 29 = .ok (.iload_n 2, 1) := by decide +kernel
theorem d_Tr_addLeaf_30 : dec m_Tr_addLeaf 30 = .ok (.invokevirtual 73, 3) := by decide +kernel
theorem d_Tr_addLeaf_33 : dec m_Tr_addLeaf 33 = .ok (.aload_n 0, 1) := by decide +kernel
theorem d_Tr_addLeaf_34 : dec m_Tr_addLeaf 34 = .ok (.getfield 23, 3) := by decide +kernel
theorem d_Tr_addLeaf_37 : dec m_Tr_addLeaf 37 = .ok (.iload_n 3, 1) := by decide +kernel
theorem d_Tr_addLeaf_38 : dec m_Tr_addLeaf 38 = .ok (.aload_n 0, 1) := by decide +kernel
theorem d_Tr_addLeaf_39 : dec m_Tr_addLeaf 39 = .ok (.iload_n 2, 1) := by decide +kernel
theorem d_Tr_addLeaf_40 : dec m_Tr_addLeaf 40 = .ok (.invokevirtual 76, 3) := by decide +kernel
theorem d_Tr_addLeaf_43 : dec m_Tr_addLeaf 43 = .ok (.ifCond .eq 16, 3) := by decide +kernel
theorem d_Tr_addLeaf_46 : dec m_Tr_addLeaf 46 = .ok (.aload_n 0, 1) := by decide +kernel
theorem d_Tr_addLeaf_47 : dec m_Tr_addLeaf 47 = .ok (.getfield 23, 3) := by decide +kernel
theorem d_Tr_addLeaf_50 : dec m_Tr_addLeaf 50 = .ok (.iload_n 2, 1) := by decide +kernel
theorem d_Tr_addLeaf_51 : dec m_Tr_addLeaf 51 = .ok (.invokevirtual 53, 3) := by decide +kernel
theorem d_Tr_addLeaf_54 : dec m_Tr_addLeaf 54 = .ok (.iconst 1, 1) := by decide +kernel
theorem d_Tr_addLeaf_55 : dec m_Tr_addLeaf 55 = .ok (.iadd, 1) := by decide +kernel
theorem d_Tr_addLeaf_56 : dec m_Tr_addLeaf 56 = .ok (.goto 4, 3) := by decide +kernel
theorem d_Tr_addLeaf_59 : dec m_Tr_addLeaf 59 = .ok (.iconst 0, 1) := by decide +kernel
theorem d_Tr_addLeaf_60 : dec m_Tr_addLeaf 60 = .ok (.invokevirtual 73, 3) := by decide +kernel
theorem d_Tr_addLeaf_63 : dec m_Tr_addLeaf 63 = .ok (.aload_n 0, 1) := by decide +kernel
theorem d_Tr_addLeaf_64 : dec m_Tr_addLeaf 64 = .ok (.getfield 32, 3) := by decide +kernel
theorem d_Tr_addLeaf_67 : dec m_Tr_addLeaf 67 = .ok (.iload_n 3, 1) := by decide +kernel
theorem d_Tr_addLeaf_68 : dec m_Tr_addLeaf 68 = .ok (.iconst 0, 1) := by decide +kernel
theorem d_Tr_addLeaf_69 : dec m_Tr_addLeaf 69 = .ok (.invokevirtual 73, 3) := by decide +kernel
theorem d_Tr_addLeaf_72 : dec m_Tr_addLeaf 72 = .ok (.aload_n 0, 1) := by decide +kernel
theorem d_Tr_addLeaf_73 : dec m_Tr_addLeaf 73 = .ok (.getfield 35, 3) := by decide +kernel
theorem d_Tr_addLeaf_76 : dec m_Tr_addLeaf 76 = .ok (.iload_n 3, 1) := by decide +kernel
theorem d_Tr_addLeaf_77 : dec m_Tr_addLeaf 77 = .ok (.bipush (-5), 2) := by decide +kernel
theorem d_Tr_addLeaf_79 : dec m_Tr_addLeaf 79 = .ok (.invokevirtual 73, 3) := by decide +kernel
theorem d_Tr_addLeaf_82 : dec m_Tr_addLeaf 82 = .ok (.aload_n 0, 1) := by decide +kernel
theorem d_Tr_addLeaf_83 : dec m_Tr_addLeaf 83 = .ok (.getfield 38, 3) := by decide +kernel
theorem d_Tr_addLeaf_86 : dec m_Tr_addLeaf 86 = .ok (.iload_n 3, 1) := by decide +kernel
theorem d_Tr_addLeaf_87 : dec m_Tr_addLeaf 87 = .ok (.iconst 0, 1) := by decide +kernel
theorem d_Tr_addLeaf_88 : dec m_Tr_addLeaf 88 = .ok (.invokevirtual 73, 3) := by decide +kernel
theorem d_Tr_addLeaf_91 : dec m_Tr_addLeaf 91 = .ok (.aload_n 0, 1) := by decide +kernel
theorem d_Tr_addLeaf_92 : dec m_Tr_addLeaf 92 = .ok (.iload_n 3, 1) := by decide +kernel
theorem d_Tr_addLeaf_93 : dec m_Tr_addLeaf 93 = .ok (.iload_n 1, 1) := by decide +kernel
theorem d_Tr_addLeaf_94 : dec m_Tr_addLeaf 94 = .ok (.iload_n 2, 1) := by decide +kernel
theorem d_Tr_addLeaf_95 : dec m_Tr_addLeaf 95 = .ok (.invokevirtual 80, 3) := by decide +kernel
theorem d_Tr_addLeaf_98 : dec m_Tr_addLeaf 98 = .ok (.return_, 1) := by decide +kernel
theorem d_Tr_setLeafCosts_0 : dec m_Tr_setLeafCosts 0 = .ok (.aload_n 0, 1) := by decide +kernel
theorem d_Tr_setLeafCosts_1 : dec m_Tr_setLeafCosts 1 = .ok (.getfield 41, 3) := by decide +kernel
theorem d_Tr_setLeafCosts_4 : dec m_Tr_setLeafCosts 4 = .ok (.iload_n 2, 1) := by decide +kernel
theorem d_Tr_setLeafCosts_5 : dec m_Tr_setLeafCosts 5 = .ok (.invokevirtual 84, 3) := by decide +kernel
theorem d_Tr_setLeafCosts_8 : dec m_Tr_setLeafCosts 8 = .ok (.ifCond .eq 45, 3) := by decide +kernel
theorem d_Tr_setLeafCosts_11 : dec m_Tr_setLeafCosts 11 = .ok (.aload_n 0, 1) := by decide +kernel
theorem d_Tr_setLeafCosts_12 : dec m_Tr_setLeafCosts 12 = .ok (.getfield 41, 3) := by decide +kernel
theorem d_Tr_setLeafCosts_15 : dec m_Tr_setLeafCosts 15 = .ok (.iload_n 2, 1) := by decide +kernel
theorem d_Tr_setLeafCosts_16 : dec m_Tr_setLeafCosts 16 = .ok (.invokevirtual 87, 3) := by decide +kernel
theorem d_Tr_setLeafCosts_19 : dec m_Tr_setLeafCosts 19 = .ok (.istore 4, 2) := by decide +kernel
theorem d_Tr_setLeafCosts_21 : dec m_Tr_setLeafCosts 21 = .ok (.aload_n 0, 1) := by decide +kernel
theorem d_Tr_setLeafCosts_22 : dec m_Tr_setLeafCosts 22 = .ok (.iload_n 1, 1) := by decide +kernel
theorem d_Tr_setLeafCosts_23 : dec m_Tr_setLeafCosts 23 = .ok (.iload 4, 2) := by decide +kernel
theorem d_Tr_setLeafCosts_25 : dec m_Tr_setLeafCosts 25 = .ok (.ifCond .eq 7, 3) := by decide +kernel
theorem d_Tr_setLeafCosts_28 : dec m_Tr_setLeafCosts 28 = .ok (.iconst 0, 1) := by decide +kernel
theorem d_Tr_setLeafCosts_29 : dec m_Tr_setLeafCosts 29 = .ok (.goto 6, 3) := by decide +kernel
theorem d_Tr_setLeafCosts_32 : dec m_Tr_setLeafCosts 32 = .ok (.sipush 9999, 3) := by decide +kernel
theorem d_Tr_setLeafCosts_35 : dec m_Tr_setLeafCosts 35 = .ok (.iload 4, 2) := by decide +kernel
theorem d_Tr_setLeafCosts_37 : dec m_Tr_setLeafCosts 37 = .ok (.ifCond .eq 9, 3) := by decide +kernel
theorem d_Tr_setLeafCosts_40 : dec m_Tr_setLeafCosts 40 = .ok (.sipush 9999, 3) := by decide +kernel
theorem d_Tr_setLeafCosts_43 : dec m_Tr_setLeafCosts 43 = .ok (.goto 4, 3) := by decide +kernel
theorem d_Tr_setLeafCosts_46 : dec m_Tr_setLeafCosts 46 = .ok (.iconst 0, 1) := by decide +kernel
theorem d_Tr_setLeafCosts_47 : dec m_Tr_setLeafCosts 47 = .ok (.invokevirtual 90, 3) := by decide +kernel
theorem d_Tr_setLeafCosts_50 : dec m_Tr_setLeafCosts 50 = .ok (.goto 60, 3) := by decide +kernel
theorem d_Tr_setLeafCosts_53 : dec m_Tr_setLeafCosts 53 = .ok (.aload_n 0, 1) := by decide +kernel
theorem d_Tr_setLeafCosts_54 : dec m_Tr_setLeafCosts 54 = .ok (.iload_n 3, 1) := by decide +kernel
theorem d_Tr_setLeafCosts_55 : dec m_Tr_setLeafCosts 55 = .ok (.iload_n 2, 1) := by decide +kernel
theorem d_Tr_setLeafCosts_56 : dec m_Tr_setLeafCosts 56 = .ok (.invokevirtual 93, 3) := by decide +kernel
theorem d_Tr_setLeafCosts_59 : dec m_Tr_setLeafCosts 59 = .ok (.ifCond .eq 24, 3) := by decide +kernel
theorem d_Tr_setLeafCosts_62 : dec m_Tr_setLeafCosts 62 = .ok (.aload_n 0, 1) := by decide +kernel
theorem d_Tr_setLeafCosts_63 : dec m_Tr_setLeafCosts 63 = .ok (.getfield 38, 3) := by decide +kernel
theorem d_Tr_setLeafCosts_66 : dec m_Tr_setLeafCosts 66 = .ok (.iload_n 1, 1) := by decide +kernel
theorem d_Tr_setLeafCosts_67 : dec m_Tr_setLeafCosts 67 = .ok (.iconst 1, 1) := by decide +kernel
theorem d_Tr_setLeafCosts_68 : dec m_Tr_setLeafCosts 68 = .ok (.invokevirtual 73, 3) := by decide +kernel
theorem d_Tr_setLeafCosts_71 : dec m_Tr_setLeafCosts 71 = .ok (.aload_n 0, 1) := by decide +kernel
theorem d_Tr_setLeafCosts_72 : dec m_Tr_setLeafCosts 72 = .ok (.iload_n 1, 1) := by decide +kernel
theorem d_Tr_setLeafCosts_73 : dec m_Tr_setLeafCosts 73 = .ok (.sipush 9999, 3) := by decide +kernel
theorem d_Tr_setLeafCosts_76 : dec m_Tr_setLeafCosts 76 = .ok (.iconst 0, 1) := by decide +kernel
theorem d_Tr_setLeafCosts_77 : dec m_Tr_setLeafCosts 77 = .ok (.invokevirtual 90, 3) := by decide +kernel
theorem d_Tr_setLeafCosts_80 : dec m_Tr_setLeafCosts 80 = .ok (.goto 30, 3) := by decide +kernel
theorem d_Tr_setLeafCosts_83 : dec m_Tr_setLeafCosts 83 = .ok (.aload_n 0, 1) := by decide +kernel
theorem d_Tr_setLeafCosts_84 : dec m_Tr_setLeafCosts 84 = .ok (.iload_n 1, 1) := by decide +kernel
theorem d_Tr_setLeafCosts_85 : dec m_Tr_setLeafCosts 85 = .ok (.aload_n 0, 1) := by decide +kernel
theorem d_Tr_setLeafCosts_86 : dec m_Tr_setLeafCosts 86 = .ok (.getfield 41, 3) := by decide +kernel
theorem d_Tr_setLeafCosts_89 : dec m_Tr_setLeafCosts 89 = .ok (.getfield 97, 3) := by decide +kernel
theorem d_Tr_setLeafCosts_92 : dec m_Tr_setLeafCosts 92 = .ok (.iload_n 2, 1) := by decide +kernel
theorem d_Tr_setLeafCosts_93 : dec m_Tr_setLeafCosts 93 = .ok (.invokevirtual 53, 3) := by decide +kernel
theorem d_Tr_setLeafCosts_96 : dec m_Tr_setLeafCosts 96 = .ok (.aload_n 0, 1) := by decide +kernel
theorem d_Tr_setLeafCosts_97 : dec m_Tr_setLeafCosts 97 = .ok (.getfield 41, 3) := by decide +kernel
theorem d_Tr_setLeafCosts_100 : dec m_Tr_setLeafCosts 100 = .ok (.getfield 100, 3) := by decide +kernel
theorem d_Tr_setLeafCosts_103 : dec m_Tr_setLeafCosts 103 = .ok (.iload_n 2, 1) := by decide +kernel
theorem d_Tr_setLeafCosts_104 : dec m_Tr_setLeafCosts 104 = .ok (.invokevirtual 53, 3) := by decide +kernel
theorem d_Tr_setLeafCosts_107 : dec m_Tr_setLeafCosts 107 = .ok (.invokevirtual 90, 3) := by decide +kernel
theorem d_Tr_setLeafCosts_110 : dec m_Tr_setLeafCosts 110 = .ok (.return_, 1) := by decide +kernel
theorem d_Tr_setCosts_0 : dec m_Tr_setCosts 0 = .ok (.aload_n 0, 1) := by decide +kernel
theorem d_Tr_setCosts_1 : dec m_Tr_setCosts 1 = .ok (.getfield 26, 3) := by decide +kernel
theorem d_Tr_setCosts_4 : dec m_Tr_setCosts 4 = .ok (.iload_n 1, 1) := by decide +kernel
theorem d_Tr_setCosts_5 : dec m_Tr_setCosts 5 = .ok (.iload_n 2, 1) := by decide +kernel
theorem d_Tr_setCosts_6 : dec m_Tr_setCosts 6 = .ok (.invokevirtual 73, 3) := by decide +kernel
theorem d_Tr_setCosts_9 : dec m_Tr_setCosts 9 = .ok (.aload_n 0, 1) := by decide +kernel
theorem d_Tr_setCosts_10 : dec m_Tr_setCosts 10 = .ok (.getfield 29, 3) := by decide +kernel
theorem d_Tr_setCosts_13 : dec m_Tr_setCosts 13 = .ok (.iload_n 1, 1) := by decide +kernel
theorem d_Tr_setCosts_14 : dec m_Tr_setCosts 14 = .ok (.iload_n 3, 1) := by decide +kernel
theorem d_Tr_setCosts_15 : dec m_Tr_setCosts 15 = .ok (.invokevirtual 73, 3) := by decide +kernel
theorem d_Tr_setCosts_18 : dec m_Tr_setCosts 18 = .ok (.return_, 1) := by decide +kernel
theorem d_Tr_isOnWayTo_0 : dec m_Tr_isOnWayTo 0 = .ok (.iload_n 1, 1) := by decide +kernel
theorem d_Tr_isOnWayTo_1 : dec m_Tr_isOnWayTo 1 = .ok (.istore_n 3, 1) := by decide +kernel
theorem d_Tr_isOnWayTo_2 : dec m_Tr_isOnWayTo 2 = .ok (.iconst 0, 1) := by decide +kernel
theorem d_Tr_isOnWayTo_3 : dec m_Tr_isOnWayTo 3 = .ok (.istore 4, 2) := by decide +kernel
theorem d_Tr_isOnWayTo_5 : dec m_Tr_isOnWayTo 5 = .ok (.iload 4, 2) := by decide +kernel
theorem d_Tr_isOnWayTo_7 : dec m_Tr_isOnWayTo 7 = .ok (.sipush 200, 3) := by decide +kernel
theorem d_Tr_isOnWayTo_10 : dec m_Tr_isOnWayTo 10 = .ok (.if_icmp .ge 40, 3) := by decide +kernel
theorem d_Tr_isOnWayTo_13 : dec m_Tr_isOnWayTo 13 = .ok (.aload_n 0, 1) := by decide +kernel
theorem d_Tr_isOnWayTo_14 : dec m_Tr_isOnWayTo 14 = .ok (.iload_n 3, 1) := by decide +kernel
theorem d_Tr_isOnWayTo_15 : dec m_Tr_isOnWayTo 15 = .ok (.invokevirtual 76, 3) := by decide +kernel
theorem d_Tr_isOnWayTo_18 : dec m_Tr_isOnWayTo 18 = .ok (.ifCond .eq 32, 3) := by decide +kernel
theorem d_Tr_isOnWayTo_21 : dec m_Tr_isOnWayTo 21 = .ok (.aload_n 0, 1) := by decide +kernel
theorem d_Tr_isOnWayTo_22 : dec m_Tr_isOnWayTo 22 = .ok (.getfield 14, 3) := by decide +kernel
theorem d_Tr_isOnWayTo_25 : dec m_Tr_isOnWayTo 25 = .ok (.iload_n 3, 1) := by decide +kernel
theorem d_Tr_isOnWayTo_26 : dec m_Tr_isOnWayTo 26 = .ok (.invokevirtual 53, 3) := by decide +kernel
theorem d_Tr_isOnWayTo_29 : dec m_Tr_isOnWayTo 29 = .ok (.iload_n 2, 1) := by decide +kernel
theorem d_Tr_isOnWayTo_30 : dec m_Tr_isOnWayTo 30 = .ok (.if_icmp .ne 5, 3) := by decide +kernel
theorem d_Tr_isOnWayTo_33 : dec m_Tr_isOnWayTo 33 = .ok (.iconst 1, 1) := by decide +kernel
theorem d_Tr_isOnWayTo_34 : dec m_Tr_isOnWayTo 34 = .ok (.ireturn, 1) := by decide +kernel
theorem d_Tr_isOnWayTo_35 : dec m_Tr_isOnWayTo 35 = .ok (.aload_n 0, 1) := by decide +kernel
theorem d_Tr_isOnWayTo_36 : dec m_Tr_isOnWayTo 36 = .ok (.getfield 20, 3) := by decide +kernel
theorem d_Tr_isOnWayTo_39 : dec m_Tr_isOnWayTo 39 = .ok (.iload_n 3, 1) := by decide +kernel
theorem d_Tr_isOnWayTo_40 : dec m_Tr_isOnWayTo 40 = .ok (.invokevirtual 53, 3) := by decide +kernel
theorem d_Tr_isOnWayTo_43 : dec m_Tr_isOnWayTo 43 = .ok (.istore_n 3, 1) := by decide +kernel
theorem d_Tr_isOnWayTo_44 : dec m_Tr_isOnWayTo 44 = .ok (.iinc 4 1, 3) := by decide +kernel
theorem d_Tr_isOnWayTo_47 : dec m_Tr_isOnWayTo 47 = .ok (.goto (-42), 3) := by decide +kernel
theorem d_Tr_isOnWayTo_50 : dec m_Tr_isOnWayTo 50 = .ok (.iconst 0, 1) := by decide +kernel
theorem d_Tr_isOnWayTo_51 : dec m_Tr_isOnWayTo 51 = .ok (.ireturn, 1) := by decide +kernel
theorem d_Tr_cheapestChild_0 : dec m_Tr_cheapestChild 0 = .ok (.aload_n 0, 1) := by decide +kernel
theorem d_Tr_cheapestChild_1 : dec m_Tr_cheapestChild 1 = .ok (.iload_n 1, 1) := by decide +kernel
theorem d_Tr_cheapestChild_2 : dec m_Tr_cheapestChild 2 = .ok (.invokevirtual 103, 3) := by decide +kernel
theorem d_Tr_cheapestChild_5 : dec m_Tr_cheapestChild 5 = .ok (.ifCond .ne 10, 3) := by decide +kernel
theorem d_Tr_cheapestChild_8 : dec m_Tr_cheapestChild 8 = .ok (.aload_n 0, 1) := by decide +kernel
theorem d_Tr_cheapestChild_9 : dec m_Tr_cheapestChild 9 = .ok (.getfield 26, 3) := by decide +kernel
theorem d_Tr_cheapestChild_12 : dec m_Tr_cheapestChild 12 = .ok (.goto 7, 3) := by decide +kernel
theorem d_Tr_cheapestChild_15 : dec m_Tr_cheapestChild 15 = .ok (.aload_n 0, 1) := by decide +kernel
theorem d_Tr_cheapestChild_16 : dec m_Tr_cheapestChild 16 = .ok (.getfield 29, 3) := by decide +kernel
theorem d_Tr_cheapestChild_19 : dec m_Tr_cheapestChild 19 = .ok (.astore_n 2, 1) := by decide +kernel
theorem d_Tr_cheapestChild_20 : dec m_Tr_cheapestChild 20 = .ok (.aload_n 0, 1) := by decide +kernel
theorem d_Tr_cheapestChild_21 : dec m_Tr_cheapestChild 21 = .ok (.iload_n 1, 1) := by decide +kernel
theorem d_Tr_cheapestChild_22 : dec m_Tr_cheapestChild 22 = .ok (.invokevirtual 106, 3) := by decide +kernel
theorem d_Tr_cheapestChild_25 : dec m_Tr_cheapestChild 25 = .ok (.istore_n 3, 1) := by decide +kernel
theorem d_Tr_cheapestChild_26 : dec m_Tr_cheapestChild 26 = .ok (.aload_n 0, 1) := by decide +kernel
theorem d_Tr_cheapestChild_27 : dec m_Tr_cheapestChild 27 = .ok (.getfield 35, 3) := by decide +kernel
theorem d_Tr_cheapestChild_30 : dec m_Tr_cheapestChild 30 = .ok (.iload_n 1, 1) := by decide +kernel
theorem d_Tr_cheapestChild_31 : dec m_Tr_cheapestChild 31 = .ok (.invokevirtual 53, 3) := by decide +kernel
theorem d_Tr_cheapestChild_34 : dec m_Tr_cheapestChild 34 = .ok (.istore 4, 2) := by decide +kernel
theorem d_Tr_cheapestChild_36 : dec m_Tr_cheapestChild 36 = .ok (.iload 4, 2) := by decide +kernel
theorem d_Tr_cheapestChild_38 : dec m_Tr_cheapestChild 38 = .ok (.iconst 1, 1) := by decide +kernel
theorem d_Tr_cheapestChild_39 : dec m_Tr_cheapestChild 39 = .ok (.iadd, 1) := by decide +kernel
theorem d_Tr_cheapestChild_40 : dec m_Tr_cheapestChild 40 = .ok (.istore 5, 2) := by decide +kernel
theorem d_Tr_cheapestChild_42 : dec m_Tr_cheapestChild 42 = .ok (.iload 5, 2) := by decide +kernel
theorem d_Tr_cheapestChild_44 : dec m_Tr_cheapestChild 44 = .ok (.iload_n 3, 1) := by decide +kernel
theorem d_Tr_cheapestChild_45 : dec m_Tr_cheapestChild 45 = .ok (.if_icmp .ge 28, 3) := by decide +kernel
theorem d_Tr_cheapestChild_48 : dec m_Tr_cheapestChild 48 = .ok (.aload_n 2, 1) := by decide +kernel
theorem d_Tr_cheapestChild_49 : dec m_Tr_cheapestChild 49 = .ok (.iload 5, 2) := by decide +kernel
theorem d_Tr_cheapestChild_51 : dec m_Tr_cheapestChild 51 = .ok (.invokevirtual 53, 3) := by decide +kernel
theorem d_Tr_cheapestChild_54 : dec m_Tr_cheapestChild 54 = .ok (.aload_n 2, 1) := by decide +kernel
theorem d_Tr_cheapestChild_55 : dec m_Tr_cheapestChild 55 = .ok (.iload 4, 2) := by decide +kernel
theorem d_Tr_cheapestChild_57 : dec m_Tr_cheapestChild 57 = .ok (.invokevirtual 53, 3) := by decide +kernel
theorem d_Tr_cheapestChild_60 : dec m_Tr_cheapestChild 60 = .ok (.if_icmp .ge 7, 3) := by decide +kernel
theorem d_Tr_cheapestChild_63 : dec m_Tr_cheapestChild 63 = .ok (.iload 5, 2) := by decide +kernel
theorem d_Tr_cheapestChild_65 : dec m_Tr_cheapestChild 65 = .ok (.istore 4, 2) := by decide +kernel
theorem d_Tr_cheapestChild_67 : dec m_Tr_cheapestChild 67 = .ok (.iinc 5 1, 3) := by decide +kernel
theorem d_Tr_cheapestChild_70 : dec m_Tr_cheapestChild 70 = .ok (.goto (-28), 3) := by decide +kernel
theorem d_Tr_cheapestChild_73 : dec m_Tr_cheapestChild 73 = .ok (.iload 4, 2) := by decide +kernel
theorem d_Tr_cheapestChild_75 : dec m_Tr_cheapestChild 75 = .ok (.ireturn, 1) := by decide +kernel
theorem d_Tr_leafOnWay_0 : dec m_Tr_leafOnWay 0 = .ok (.iconst 0, 1) := by decide +kernel
theorem d_Tr_leafOnWay_1 : dec m_Tr_leafOnWay 1 = .ok (.istore_n 1, 1) := by decide +kernel
theorem d_Tr_leafOnWay_2 : dec m_Tr_leafOnWay 2 = .ok (.iconst 0, 1) := by decide +kernel
theorem d_Tr_leafOnWay_3 : dec m_Tr_leafOnWay 3 = .ok (.istore_n 2, 1) := by decide +kernel
theorem d_Tr_leafOnWay_4 : dec m_Tr_leafOnWay 4 = .ok (.iload_n 2, 1) := by decide +kernel
theorem d_Tr_leafOnWay_5 : dec m_Tr_leafOnWay 5 = .ok (.sipush 200, 3) := by decide +kernel
theorem d_Tr_leafOnWay_8 : dec m_Tr_leafOnWay 8 = .ok (.if_icmp .ge 23, 3) := by decide +kernel
theorem d_Tr_leafOnWay_11 : dec m_Tr_leafOnWay 11 = .ok (.aload_n 0, 1) := by decide +kernel
theorem d_Tr_leafOnWay_12 : dec m_Tr_leafOnWay 12 = .ok (.iload_n 1, 1) := by decide +kernel
theorem d_Tr_leafOnWay_13 : dec m_Tr_leafOnWay 13 = .ok (.invokevirtual 109, 3) := by decide +kernel
theorem d_Tr_leafOnWay_16 : dec m_Tr_leafOnWay 16 = .ok (.ifCond .ne 15, 3) := by decide +kernel
theorem d_Tr_leafOnWay_19 : dec m_Tr_leafOnWay 19 = .ok (.aload_n 0, 1) := by decide +kernel
theorem d_Tr_leafOnWay_20 : dec m_Tr_leafOnWay 20 = .ok (.iload_n 1, 1) := by decide +kernel
theorem d_Tr_leafOnWay_21 : dec m_Tr_leafOnWay 21 = .ok (.invokevirtual 112, 3) := by decide +kernel
theorem d_Tr_leafOnWay_24 : dec m_Tr_leafOnWay 24 = .ok (.istore_n 1, 1) := by decide +kernel
theorem d_Tr_leafOnWay_25 : dec m_Tr_leafOnWay 25 = .ok (.iinc 2 1, 3) := by decide +kernel
theorem d_Tr_leafOnWay_28 : dec m_Tr_leafOnWay 28 = .ok (.goto (-24), 3) := by decide +kernel
theorem d_Tr_leafOnWay_31 : dec m_Tr_leafOnWay 31 = .ok (.iload_n 1, 1) := by decide +kernel
theorem d_Tr_leafOnWay_32 : dec m_Tr_leafOnWay 32 = .ok (.ireturn, 1) := by decide +kernel
theorem d_Tr_nodeOnWay_0 : dec m_Tr_nodeOnWay 0 = .ok (.aload_n 0, 1) := by decide +kernel
theorem d_Tr_nodeOnWay_1 : dec m_Tr_nodeOnWay 1 = .ok (.invokevirtual 62, 3) := by decide +kernel
theorem d_Tr_nodeOnWay_4 : dec m_Tr_nodeOnWay 4 = .ok (.ifCond .ne 17, 3) := by decide +kernel
theorem d_Tr_nodeOnWay_7 : dec m_Tr_nodeOnWay 7 = .ok (.aload_n 0, 1) := by decide +kernel
theorem d_Tr_nodeOnWay_8 : dec m_Tr_nodeOnWay 8 = .ok (.invokevirtual 115, 3) := by decide +kernel
theorem d_Tr_nodeOnWay_11 : dec m_Tr_nodeOnWay 11 = .ok (.ifCond .ne 10, 3) := by decide +kernel
theorem d_Tr_nodeOnWay_14 : dec m_Tr_nodeOnWay 14 = .ok (.iload_n 1, 1) := by decide +kernel
theorem d_Tr_nodeOnWay_15 : dec m_Tr_nodeOnWay 15 = .ok (.sipush 200, 3) := by decide +kernel
theorem d_Tr_nodeOnWay_18 : dec m_Tr_nodeOnWay 18 = .ok (.if_icmp .lt 6, 3) := by decide +kernel
theorem d_Tr_nodeOnWay_21 : dec m_Tr_nodeOnWay 21 = .ok (.bipush (-5), 2) := by decide +kernel
theorem d_Tr_nodeOnWay_23 : dec m_Tr_nodeOnWay 23 = .ok (.ireturn, 1) := by decide +kernel
theorem d_Tr_nodeOnWay_24 : dec m_Tr_nodeOnWay 24 = .ok (.iconst 0, 1) := by decide +kernel
theorem d_Tr_nodeOnWay_25 : dec m_Tr_nodeOnWay 25 = .ok (.istore_n 2, 1) := by decide +kernel
theorem d_Tr_nodeOnWay_26 : dec m_Tr_nodeOnWay 26 = .ok (.iconst 0, 1) := by decide +kernel
theorem d_Tr_nodeOnWay_27 : dec m_Tr_nodeOnWay 27 = .ok (.istore_n 3, 1) := by decide +kernel
theorem d_Tr_nodeOnWay_28 : dec m_Tr_nodeOnWay 28 = .ok (.iload_n 3, 1) := by decide +kernel
theorem d_Tr_nodeOnWay_29 : dec m_Tr_nodeOnWay 29 = .ok (.iload_n 1, 1) := by decide +kernel
theorem d_Tr_nodeOnWay_30 : dec m_Tr_nodeOnWay 30 = .ok (.if_icmp .ge 26, 3) := by decide +kernel
theorem d_Tr_nodeOnWay_33 : dec m_Tr_nodeOnWay 33 = .ok (.aload_n 0, 1) := by decide +kernel
theorem d_Tr_nodeOnWay_34 : dec m_Tr_nodeOnWay 34 = .ok (.iload_n 2, 1) := by decide +kernel
theorem d_Tr_nodeOnWay_35 : dec m_Tr_nodeOnWay 35 = .ok (.invokevirtual 109, 3) := by decide +kernel
theorem d_Tr_nodeOnWay_38 : dec m_Tr_nodeOnWay 38 = .ok (.ifCond .eq 6, 3) := by decide +kernel
theorem d_Tr_nodeOnWay_41 : dec m_Tr_nodeOnWay 41 = .ok (.bipush (-5), 2) := by decide +kernel
theorem d_Tr_nodeOnWay_43 : dec m_Tr_nodeOnWay 43 = .ok (.ireturn, 1) := by decide +kernel
theorem d_Tr_nodeOnWay_44 : dec m_Tr_nodeOnWay 44 = .ok (.aload_n 0, 1) := by decide +kernel
theorem d_Tr_nodeOnWay_45 : dec m_Tr_nodeOnWay 45 = .ok (.iload_n 2, 1) := by decide +kernel
theorem d_Tr_nodeOnWay_46 : dec m_Tr_nodeOnWay 46 = .ok (.invokevirtual 112, 3) := by decide +kernel
theorem d_Tr_nodeOnWay_49 : dec m_Tr_nodeOnWay 49 = .ok (.istore_n 2, 1) := by decide +kernel
theorem d_Tr_nodeOnWay_50 : dec m_Tr_nodeOnWay 50 = .ok (.iinc 3 1, 3) := by decide +kernel
theorem d_Tr_nodeOnWay_53 : dec m_Tr_nodeOnWay 53 = .ok (.goto (-25), 3) := by decide +kernel
theorem d_Tr_nodeOnWay_56 : dec m_Tr_nodeOnWay 56 = .ok (.iload_n 2, 1) := by decide +kernel
theorem d_Tr_nodeOnWay_57 : dec m_Tr_nodeOnWay 57 = .ok (.ireturn, 1) := by decide +kernel
theorem d_Tr_canGrow_0 : dec m_Tr_canGrow 0 = .ok (.aload_n 0, 1) := by decide +kernel
theorem d_Tr_canGrow_1 : dec m_Tr_canGrow 1 = .ok (.invokevirtual 62, 3) := by decide +kernel
theorem d_Tr_canGrow_4 : dec m_Tr_canGrow 4 = .ok (.ifCond .ne 10, 3) := by decide +kernel
theorem d_Tr_canGrow_7 : dec m_Tr_canGrow 7 = .ok (.aload_n 0, 1) := by decide +kernel
theorem d_Tr_canGrow_8 : dec m_Tr_canGrow 8 = .ok (.invokevirtual 115, 3) := by decide +kernel
theorem d_Tr_canGrow_11 : dec m_Tr_canGrow 11 = .ok (.ifCond .eq 5, 3) := by decide +kernel
theorem d_Tr_canGrow_14 : dec m_Tr_canGrow 14 = .ok (.iconst 0, 1) := by decide +kernel
theorem d_Tr_canGrow_15 : dec m_Tr_canGrow 15 = .ok (.ireturn, 1) := by decide +kernel
theorem d_Tr_canGrow_16 : dec m_Tr_canGrow 16 = .ok (.aload_n 0, 1) := by decide +kernel
theorem d_Tr_canGrow_17 : dec m_Tr_canGrow 17 = .ok (.getfield 41, 3) := by decide +kernel
theorem d_Tr_canGrow_20 : dec m_Tr_canGrow 20 = .ok (.getfield 119, 3) := by decide +kernel
theorem d_Tr_canGrow_23 : dec m_Tr_canGrow 23 = .ok (.aload_n 0, 1) := by decide +kernel
theorem d_Tr_canGrow_24 : dec m_Tr_canGrow 24 = .ok (.getfield 14, 3) := by decide +kernel
theorem d_Tr_canGrow_27 : dec m_Tr_canGrow 27 = .ok (.aload_n 0, 1) := by decide +kernel
theorem d_Tr_canGrow_28 : dec m_Tr_canGrow 28 = .ok (.invokevirtual 122, 3) := by decide +kernel
theorem d_Tr_canGrow_31 : dec m_Tr_canGrow 31 = .ok (.invokevirtual 53, 3) := by decide +kernel
theorem d_Tr_canGrow_34 : dec m_Tr_canGrow 34 = .ok (.invokevirtual 53, 3) := by decide +kernel
theorem d_Tr_canGrow_37 : dec m_Tr_canGrow 37 = .ok (.sipush 200, 3) := by decide +kernel
theorem d_Tr_canGrow_40 : dec m_Tr_canGrow 40 = .ok (.aload_n 0, 1) := by decide +kernel
theorem d_Tr_canGrow_41 : dec m_Tr_canGrow 41 = .ok (.getfield 49, 3) := by decide +kernel
theorem d_Tr_canGrow_44 : dec m_Tr_canGrow 44 = .ok (.isub, 1) := by decide +kernel
theorem d_Tr_canGrow_45 : dec m_Tr_canGrow 45 = .ok (.if_icmp .gt 7, 3) := by decide +kernel
theorem d_Tr_canGrow_48 : dec m_Tr_canGrow 48 = .ok (.iconst 1, 1) := by decide +kernel
theorem d_Tr_canGrow_49 : dec m_Tr_canGrow 49 = .ok (.goto 4, 3) := by decide +kernel
theorem d_Tr_canGrow_52 : dec m_Tr_canGrow 52 = .ok (.iconst 0, 1) := by decide +kernel
theorem d_Tr_canGrow_53 : dec m_Tr_canGrow 53 = .ok (.ireturn, 1) := by decide +kernel
theorem d_Tr_grow_0 : dec m_Tr_grow 0 = .ok (.aload_n 0, 1) := by decide +kernel
theorem d_Tr_grow_1 : dec m_Tr_grow 1 = .ok (.invokevirtual 122, 3) := by decide +kernel
theorem d_Tr_grow_4 : dec m_Tr_grow 4 = .ok (.istore_n 1, 1) := by decide +kernel
theorem d_Tr_grow_5 : dec m_Tr_grow 5 = .ok (.aload_n 0, 1) := by decide +kernel
theorem d_Tr_grow_6 : dec m_Tr_grow 6 = .ok (.getfield 14, 3) := by decide +kernel
theorem d_Tr_grow_9 : dec m_Tr_grow 9 = .ok (.iload_n 1, 1) := by decide +kernel
theorem d_Tr_grow_10 : dec m_Tr_grow 10 = .ok (.invokevirtual 53, 3) := by decide +kernel
theorem d_Tr_grow_13 : dec m_Tr_grow 13 = .ok (.istore_n 2, 1) := by decide +kernel
theorem d_Tr_grow_14 : dec m_Tr_grow 14 = .ok (.aload_n 0, 1) := by decide +kernel
theorem d_Tr_grow_15 : dec m_Tr_grow 15 = .ok (.getfield 41, 3) := by decide +kernel
theorem d_Tr_grow_18 : dec m_Tr_grow 18 = .ok (.getfield 119, 3) := by decide +kernel
theorem d_Tr_grow_21 : dec m_Tr_grow 21 = .ok (.iload_n 2, 1) := by decide +kernel
theorem d_Tr_grow_22 : dec m_Tr_grow 22 = .ok (.invokevirtual 53, 3) := by decide +kernel
theorem d_Tr_grow_25 : dec m_Tr_grow 25 = .ok (.istore_n 3, 1) := by decide +kernel
theorem d_Tr_grow_26 : dec m_Tr_grow 26 = .ok (.aload_n 0, 1) := by decide +kernel
theorem d_Tr_grow_27 : dec m_Tr_grow 27 = .ok (.getfield 35, 3) := by decide +kernel
theorem d_Tr_grow_30 : dec m_Tr_grow 30 = .ok (.iload_n 1, 1) := by decide +kernel
theorem d_Tr_grow_31 : dec m_Tr_grow 31 = .ok (.aload_n 0, 1) := by decide +kernel
theorem d_Tr_grow_32 : dec m_Tr_grow 32 = .ok (.getfield 49, 3) := by decide +kernel
theorem d_Tr_grow_35 : dec m_Tr_grow 35 = .ok (.invokevirtual 73, 3) := by decide +kernel
theorem d_Tr_grow_38 : dec m_Tr_grow 38 = .ok (.aload_n 0, 1) := by decide +kernel
theorem d_Tr_grow_39 : dec m_Tr_grow 39 = .ok (.getfield 32, 3) := by decide +kernel
theorem d_Tr_grow_42 : dec m_Tr_grow 42 = .ok (.iload_n 1, 1) := by decide +kernel
theorem d_Tr_grow_43 : dec m_Tr_grow 43 = .ok (.iload_n 3, 1) := by decide +kernel
theorem d_Tr_grow_44 : dec m_Tr_grow 44 = .ok (.invokevirtual 73, 3) := by decide +kernel
theorem d_Tr_grow_47 : dec m_Tr_grow 47 = .ok (.iconst 0, 1) := by decide +kernel
theorem d_Tr_grow_48 : dec m_Tr_grow 48 = .ok (.istore 4, 2) := by decide +kernel
theorem d_Tr_grow_50 : dec m_Tr_grow 50 = .ok (.iload 4, 2) := by decide +kernel
theorem d_Tr_grow_52 : dec m_Tr_grow 52 = .ok (.iload_n 3, 1) := by decide +kernel
theorem d_Tr_grow_53 : dec m_Tr_grow 53 = .ok (.if_icmp .ge 24, 3) := by decide +kernel
theorem d_Tr_grow_56 : dec m_Tr_grow 56 = .ok (.aload_n 0, 1) := by decide +kernel
theorem d_Tr_grow_57 : dec m_Tr_grow 57 = .ok (.aload_n 0, 1) := by decide +kernel
theorem d_Tr_grow_58 : dec m_Tr_grow 58 = .ok (.getfield 41, 3) := by decide +kernel
theorem d_Tr_grow_61 : dec m_Tr_grow 61 = .ok (.iload_n 2, 1) := by decide +kernel
theorem d_Tr_grow_62 : dec m_Tr_grow 62 = .ok (.iload 4, 2) := by decide +kernel
theorem d_Tr_grow_64 : dec m_Tr_grow 64 = .ok (.invokevirtual 125, 3) := by decide +kernel
theorem d_Tr_grow_67 : dec m_Tr_grow 67 = .ok (.iload_n 1, 1) := by decide +kernel
theorem d_Tr_grow_68 : dec m_Tr_grow 68 = .ok (.invokevirtual 69, 3) := by decide +kernel
theorem d_Tr_grow_71 : dec m_Tr_grow 71 = .ok (.iinc 4 1, 3) := by decide +kernel
theorem d_Tr_grow_74 : dec m_Tr_grow 74 = .ok (.goto (-24), 3) := by decide +kernel
theorem d_Tr_grow_77 : dec m_Tr_grow 77 = .ok (.aload_n 0, 1) := by decide +kernel
theorem d_Tr_grow_78 : dec m_Tr_grow 78 = .ok (.iload_n 1, 1) := by decide +kernel
theorem d_Tr_grow_79 : dec m_Tr_grow 79 = .ok (.invokevirtual 129, 3) := by decide +kernel
theorem d_Tr_grow_82 : dec m_Tr_grow 82 = .ok (.return_, 1) := by decide +kernel
theorem d_Tr_workOutFrom_0 : dec m_Tr_workOutFrom 0 = .ok (.iload_n 1, 1) := by decide +kernel
theorem d_Tr_workOutFrom_1 : dec m_Tr_workOutFrom 1 = .ok (.istore_n 2, 1) := by decide +kernel
theorem d_Tr_workOutFrom_2 : dec m_Tr_workOutFrom 2 = .ok (.iconst 0, 1) := by decide +kernel
theorem d_Tr_workOutFrom_3 : dec m_Tr_workOutFrom 3 = .ok (.istore_n 3, 1) := by decide +kernel
theorem d_Tr_workOutFrom_4 : dec m_Tr_workOutFrom 4 = .ok (.iload_n 3, 1) := by decide +kernel
theorem d_Tr_workOutFrom_5 : dec m_Tr_workOutFrom 5 = .ok (.sipush 200, 3) := by decide +kernel
theorem d_Tr_workOutFrom_8 : dec m_Tr_workOutFrom 8 = .ok (.if_icmp .ge 31, 3) := by decide +kernel
theorem d_Tr_workOutFrom_11 : dec m_Tr_workOutFrom 11 = .ok (.aload_n 0, 1) := by decide +kernel
theorem d_Tr_workOutFrom_12 : dec m_Tr_workOutFrom 12 = .ok (.iload_n 2, 1) := by decide +kernel
theorem d_Tr_workOutFrom_13 : dec m_Tr_workOutFrom 13 = .ok (.invokevirtual 76, 3) := by decide +kernel
theorem d_Tr_workOutFrom_16 : dec m_Tr_workOutFrom 16 = .ok (.ifCond .eq 23, 3) := by decide +kernel
theorem d_Tr_workOutFrom_19 : dec m_Tr_workOutFrom 19 = .ok (.aload_n 0, 1) := by decide +kernel
theorem d_Tr_workOutFrom_20 : dec m_Tr_workOutFrom 20 = .ok (.iload_n 2, 1) := by decide +kernel
theorem d_Tr_workOutFrom_21 : dec m_Tr_workOutFrom 21 = .ok (.invokevirtual 132, 3) := by decide +kernel
theorem d_Tr_workOutFrom_24 : dec m_Tr_workOutFrom 24 = .ok (.aload_n 0, 1) := by decide +kernel
theorem d_Tr_workOutFrom_25 : dec m_Tr_workOutFrom 25 = .ok (.getfield 20, 3) := by decide +kernel
theorem d_Tr_workOutFrom_28 : dec m_Tr_workOutFrom 28 = .ok (.iload_n 2, 1) := by decide +kernel
theorem d_Tr_workOutFrom_29 : dec m_Tr_workOutFrom 29 = .ok (.invokevirtual 53, 3) := by decide +kernel
theorem d_Tr_workOutFrom_32 : dec m_Tr_workOutFrom 32 = .ok (.istore_n 2, 1) := by decide +kernel
theorem d_Tr_workOutFrom_33 : dec m_Tr_workOutFrom 33 = .ok (.iinc 3 1, 3) := by decide +kernel
theorem d_Tr_workOutFrom_36 : dec m_Tr_workOutFrom 36 = .ok (.goto (-32), 3) := by decide +kernel
theorem d_Tr_workOutFrom_39 : dec m_Tr_workOutFrom 39 = .ok (.return_, 1) := by decide +kernel
theorem d_Tr_workOut_0 : dec m_Tr_workOut 0 = .ok (.aload_n 0, 1) := by decide +kernel
theorem d_Tr_workOut_1 : dec m_Tr_workOut 1 = .ok (.iload_n 1, 1) := by decide +kernel
theorem d_Tr_workOut_2 : dec m_Tr_workOut 2 = .ok (.invokevirtual 103, 3) := by decide +kernel
theorem d_Tr_workOut_5 : dec m_Tr_workOut 5 = .ok (.ifCond .ne 29, 3) := by decide +kernel
theorem d_Tr_workOut_8 : dec m_Tr_workOut 8 = .ok (.aload_n 0, 1) := by decide +kernel
theorem d_Tr_workOut_9 : dec m_Tr_workOut 9 = .ok (.iload_n 1, 1) := by decide +kernel
theorem d_Tr_workOut_10 : dec m_Tr_workOut 10 = .ok (.aload_n 0, 1) := by decide +kernel
theorem d_Tr_workOut_11 : dec m_Tr_workOut 11 = .ok (.iload_n 1, 1) := by decide +kernel
theorem d_Tr_workOut_12 : dec m_Tr_workOut 12 = .ok (.aload_n 0, 1) := by decide +kernel
theorem d_Tr_workOut_13 : dec m_Tr_workOut 13 = .ok (.getfield 26, 3) := by decide +kernel
theorem d_Tr_workOut_16 : dec m_Tr_workOut 16 = .ok (.invokevirtual 135, 3) := by decide +kernel
theorem d_Tr_workOut_19 : dec m_Tr_workOut 19 = .ok (.aload_n 0, 1) := by decide +kernel
theorem d_Tr_workOut_20 : dec m_Tr_workOut 20 = .ok (.iload_n 1, 1) := by decide +kernel
theorem d_Tr_workOut_21 : dec m_Tr_workOut 21 = .ok (.aload_n 0, 1) := by decide +kernel
theorem d_Tr_workOut_22 : dec m_Tr_workOut 22 = .ok (.getfield 29, 3) := by decide +kernel
theorem d_Tr_workOut_25 : dec m_Tr_workOut 25 = .ok (.invokevirtual 139, 3) := by decide +kernel
theorem d_Tr_workOut_28 : dec m_Tr_workOut 28 = .ok (.invokevirtual 90, 3) := by decide +kernel
theorem d_Tr_workOut_31 : dec m_Tr_workOut 31 = .ok (.goto 26, 3) := by decide +kernel
theorem d_Tr_workOut_34 : dec m_Tr_workOut 34 = .ok (.aload_n 0, 1) := by decide +kernel
theorem d_Tr_workOut_35 : dec m_Tr_workOut 35 = .ok (.iload_n 1, 1) := by decide +kernel
theorem d_Tr_workOut_36 : dec m_Tr_workOut 36 = .ok (.aload_n 0, 1) := by decide +kernel
theorem d_Tr_workOut_37 : dec m_Tr_workOut 37 = .ok (.iload_n 1, 1) := by decide +kernel
theorem d_Tr_workOut_38 : dec m_Tr_workOut 38 = .ok (.aload_n 0, 1) := by decide +kernel
theorem d_Tr_workOut_39 : dec m_Tr_workOut 39 = .ok (.getfield 26, 3) := by decide +kernel
theorem d_Tr_workOut_42 : dec m_Tr_workOut 42 = .ok (.invokevirtual 139, 3) := by decide +kernel
theorem d_Tr_workOut_45 : dec m_Tr_workOut 45 = .ok (.aload_n 0, 1) := by decide +kernel
theorem d_Tr_workOut_46 : dec m_Tr_workOut 46 = .ok (.iload_n 1, 1) := by decide +kernel
theorem d_Tr_workOut_47 : dec m_Tr_workOut 47 = .ok (.aload_n 0, 1) := by decide +kernel
theorem d_Tr_workOut_48 : dec m_Tr_workOut 48 = .ok (.getfield 29, 3) := by decide +kernel
theorem d_Tr_workOut_51 : dec m_Tr_workOut 51 = .ok (.invokevirtual 135, 3) := by decide +kernel
theorem d_Tr_workOut_54 : dec m_Tr_workOut 54 = .ok (.invokevirtual 90, 3) := by decide +kernel
theorem d_Tr_workOut_57 : dec m_Tr_workOut 57 = .ok (.return_, 1) := by decide +kernel
theorem d_Tr_leastOfChildren_0 : dec m_Tr_leastOfChildren 0 = .ok (.aload_n 0, 1) := by decide +kernel
theorem d_Tr_leastOfChildren_1 : dec m_Tr_leastOfChildren 1 = .ok (.iload_n 1, 1) := by decide +kernel
theorem d_Tr_leastOfChildren_2 : dec m_Tr_leastOfChildren 2 = .ok (.invokevirtual 106, 3) := by decide +kernel
theorem d_Tr_leastOfChildren_5 : dec m_Tr_leastOfChildren 5 = .ok (.istore_n 3, 1) := by decide +kernel
theorem d_Tr_leastOfChildren_6 : dec m_Tr_leastOfChildren 6 = .ok (.sipush 9999, 3) := by decide +kernel
theorem d_Tr_leastOfChildren_9 : dec m_Tr_leastOfChildren 9 = .ok (.istore 4, 2) := by decide +kernel
theorem d_Tr_leastOfChildren_11 : dec m_Tr_leastOfChildren 11 = .ok (.aload_n 0, 1) := by decide +kernel
theorem d_Tr_leastOfChildren_12 : dec m_Tr_leastOfChildren 12 = .ok (.getfield 35, 3) := by decide +kernel
theorem d_Tr_leastOfChildren_15 : dec m_Tr_leastOfChildren 15 = .ok (.iload_n 1, 1) := by decide +kernel
theorem d_Tr_leastOfChildren_16 : dec m_Tr_leastOfChildren 16 = .ok (.invokevirtual 53, 3) := by decide +kernel
theorem d_Tr_leastOfChildren_19 : dec m_Tr_leastOfChildren 19 = .ok (.istore 5, 2) := by decide +kernel
theorem d_Tr_leastOfChildren_21 : dec m_Tr_leastOfChildren 21 = .ok (.iload 5, 2) := by decide +kernel
theorem d_Tr_leastOfChildren_23 : dec m_Tr_leastOfChildren 23 = .ok (.iload_n 3, 1) := by decide +kernel
theorem d_Tr_leastOfChildren_24 : dec m_Tr_leastOfChildren 24 = .ok (.if_icmp .ge 22, 3) := by decide +kernel
theorem d_Tr_leastOfChildren_27 : dec m_Tr_leastOfChildren 27 = .ok (.iload 4, 2) := by decide +kernel
theorem d_Tr_leastOfChildren_29 : dec m_Tr_leastOfChildren 29 = .ok (.aload_n 2, 1) := by decide +kernel
theorem d_Tr_leastOfChildren_30 : dec m_Tr_leastOfChildren 30 = .ok (.iload 5, 2) := by decide +kernel
theorem d_Tr_leastOfChildren_32 : dec m_Tr_leastOfChildren 32 = .ok (.invokevirtual 53, 3) := by decide +kernel
theorem d_Tr_leastOfChildren_35 : dec m_Tr_leastOfChildren 35 = .ok (.invokestatic 142, 3) := by decide +kernel
theorem d_Tr_leastOfChildren_38 : dec m_Tr_leastOfChildren 38 = .ok (.istore 4, 2) := by decide +kernel
theorem d_Tr_leastOfChildren_40 : dec m_Tr_leastOfChildren 40 = .ok (.iinc 5 1, 3) := by decide +kernel
theorem d_Tr_leastOfChildren_43 : dec m_Tr_leastOfChildren 43 = .ok (.goto (-22), 3) := by decide +kernel
theorem d_Tr_leastOfChildren_46 : dec m_Tr_leastOfChildren 46 = .ok (.iload 4, 2) := by decide +kernel
theorem d_Tr_leastOfChildren_48 : dec m_Tr_leastOfChildren 48 = .ok (.ireturn, 1) := by decide +kernel
theorem d_Tr_sumOfChildren_0 : dec m_Tr_sumOfChildren 0 = .ok (.aload_n 0, 1) := by decide +kernel
theorem d_Tr_sumOfChildren_1 : dec m_Tr_sumOfChildren 1 = .ok (.iload_n 1, 1) := by decide +kernel
theorem d_Tr_sumOfChildren_2 : dec m_Tr_sumOfChildren 2 = .ok (.invokevirtual 106, 3) := by decide +kernel
theorem d_Tr_sumOfChildren_5 : dec m_Tr_sumOfChildren 5 = .ok (.istore_n 3, 1) := by decide +kernel
theorem d_Tr_sumOfChildren_6 : dec m_Tr_sumOfChildren 6 = .ok (.iconst 0, 1) := by decide +kernel
theorem d_Tr_sumOfChildren_7 : dec m_Tr_sumOfChildren 7 = .ok (.istore 4, 2) := by decide +kernel
theorem d_Tr_sumOfChildren_9 : dec m_Tr_sumOfChildren 9 = .ok (.aload_n 0, 1) := by decide +kernel
theorem d_Tr_sumOfChildren_10 : dec m_Tr_sumOfChildren 10 = .ok (.getfield 35, 3) := by decide +kernel
theorem d_Tr_sumOfChildren_13 : dec m_Tr_sumOfChildren 13 = .ok (.iload_n 1, 1) := by decide +kernel
theorem d_Tr_sumOfChildren_14 : dec m_Tr_sumOfChildren 14 = .ok (.invokevirtual 53, 3) := by decide +kernel
theorem d_Tr_sumOfChildren_17 : dec m_Tr_sumOfChildren 17 = .ok (.istore 5, 2) := by decide +kernel
theorem d_Tr_sumOfChildren_19 : dec m_Tr_sumOfChildren 19 = .ok (.iload 5, 2) := by decide +kernel
theorem d_Tr_sumOfChildren_21 : dec m_Tr_sumOfChildren 21 = .ok (.iload_n 3, 1) := by decide +kernel
theorem d_Tr_sumOfChildren_22 : dec m_Tr_sumOfChildren 22 = .ok (.if_icmp .ge 26, 3) := by decide +kernel
theorem d_Tr_sumOfChildren_25 : dec m_Tr_sumOfChildren 25 = .ok (.sipush 9999, 3) := by decide +kernel
theorem d_Tr_sumOfChildren_28 : dec m_Tr_sumOfChildren 28 = .ok (.iload 4, 2) := by decide +kernel
theorem d_Tr_sumOfChildren_30 : dec m_Tr_sumOfChildren 30 = .ok (.aload_n 2, 1) := by decide +kernel
theorem d_Tr_sumOfChildren_31 : dec m_Tr_sumOfChildren 31 = .ok (.iload 5, 2) := by decide +kernel
theorem d_Tr_sumOfChildren_33 : dec m_Tr_sumOfChildren 33 = .ok (.invokevirtual 53, 3) := by decide +kernel
theorem d_Tr_sumOfChildren_36 : dec m_Tr_sumOfChildren 36 = .ok (.iadd, 1) := by decide +kernel
theorem d_Tr_sumOfChildren_37 : dec m_Tr_sumOfChildren 37 = .ok (.invokestatic 142, 3) := by decide +kernel
theorem d_Tr_sumOfChildren_40 : dec m_Tr_sumOfChildren 40 = .ok (.istore 4, 2) := by decide +kernel
theorem d_Tr_sumOfChildren_42 : dec m_Tr_sumOfChildren 42 = .ok (.iinc 5 1, 3) := by decide +kernel
theorem d_Tr_sumOfChildren_45 : dec m_Tr_sumOfChildren 45 = .ok (.goto (-26), 3) := by decide +kernel
theorem d_Tr_sumOfChildren_48 : dec m_Tr_sumOfChildren 48 = .ok (.iload 4, 2) := by decide +kernel
theorem d_Tr_sumOfChildren_50 : dec m_Tr_sumOfChildren 50 = .ok (.ireturn, 1) := by decide +kernel
theorem d_Tr_loopCount_0 : dec m_Tr_loopCount 0 = .ok (.iconst 0, 1) := by decide +kernel
theorem d_Tr_loopCount_1 : dec m_Tr_loopCount 1 = .ok (.istore_n 1, 1) := by decide +kernel
theorem d_Tr_loopCount_2 : dec m_Tr_loopCount 2 = .ok (.iconst 0, 1) := by decide +kernel
theorem d_Tr_loopCount_3 : dec m_Tr_loopCount 3 = .ok (.istore_n 2, 1) := by decide +kernel
theorem d_Tr_loopCount_4 : dec m_Tr_loopCount 4 = .ok (.iload_n 2, 1) := by decide +kernel
theorem d_Tr_loopCount_5 : dec m_Tr_loopCount 5 = .ok (.aload_n 0, 1) := by decide +kernel
theorem d_Tr_loopCount_6 : dec m_Tr_loopCount 6 = .ok (.getfield 49, 3) := by decide +kernel
theorem d_Tr_loopCount_9 : dec m_Tr_loopCount 9 = .ok (.if_icmp .ge 20, 3) := by decide +kernel
end
section
theorem d_Tr_loopCount_12 : dec m_Tr_loopCount 12 = .ok (.iload_n 1, 1) := by decide +kernel
theorem d_Tr_loopCount_13 : dec m_Tr_loopCount 13 = .ok (.aload_n 0, 1) := by decide +kernel
theorem d_Tr_loopCount_14 : dec m_Tr_loopCount 14 = .ok (.getfield 38, 3) := by decide +kernel
theorem d_Tr_loopCount_17 : dec m_Tr_loopCount 17 = .ok (.iload_n 2, 1) := by decide +kernel
theorem d_Tr_loopCount_18 : dec m_Tr_loopCount 18 = .ok (.invokevirtual 53, 3) := by decide +kernel
theorem d_Tr_loopCount_21 : dec m_Tr_loopCount 21 = .ok (.iadd, 1) := by decide +kernel
theorem d_Tr_loopCount_22 : dec m_Tr_loopCount 22 = .ok (.istore_n 1, 1) := by decide +kernel
theorem d_Tr_loopCount_23 : dec m_Tr_loopCount 23 = .ok (.iinc 2 1, 3) := by decide +kernel
theorem d_Tr_loopCount_26 : dec m_Tr_loopCount 26 = .ok (.goto (-22), 3) := by decide +kernel
theorem d_Tr_loopCount_29 : dec m_Tr_loopCount 29 = .ok (.iload_n 1, 1) := by decide +kernel
theorem d_Tr_loopCount_30 : dec m_Tr_loopCount 30 = .ok (.ireturn, 1) := by decide +kernel
theorem d_Tr_openedCount_0 : dec m_Tr_openedCount 0 = .ok (.iconst 0, 1) := by decide +kernel
theorem d_Tr_openedCount_1 : dec m_Tr_openedCount 1 = .ok (.istore_n 1, 1) := by decide +kernel
theorem d_Tr_openedCount_2 : dec m_Tr_openedCount 2 = .ok (.iconst 0, 1) := by decide +kernel
theorem d_Tr_openedCount_3 : dec m_Tr_openedCount 3 = .ok (.istore_n 2, 1) := by decide +kernel
theorem d_Tr_openedCount_4 : dec m_Tr_openedCount 4 = .ok (.iload_n 2, 1) := by decide +kernel
theorem d_Tr_openedCount_5 : dec m_Tr_openedCount 5 = .ok (.aload_n 0, 1) := by decide +kernel
theorem d_Tr_openedCount_6 : dec m_Tr_openedCount 6 = .ok (.getfield 49, 3) := by decide +kernel
theorem d_Tr_openedCount_9 : dec m_Tr_openedCount 9 = .ok (.if_icmp .ge 20, 3) := by decide +kernel
theorem d_Tr_openedCount_12 : dec m_Tr_openedCount 12 = .ok (.aload_n 0, 1) := by decide +kernel
theorem d_Tr_openedCount_13 : dec m_Tr_openedCount 13 = .ok (.iload_n 2, 1) := by decide +kernel
theorem d_Tr_openedCount_14 : dec m_Tr_openedCount 14 = .ok (.invokevirtual 109, 3) := by decide +kernel
theorem d_Tr_openedCount_17 : dec m_Tr_openedCount 17 = .ok (.ifCond .ne 6, 3) := by decide +kernel
theorem d_Tr_openedCount_20 : dec m_Tr_openedCount 20 = .ok (.iinc 1 1, 3) := by decide +kernel
theorem d_Tr_openedCount_23 : dec m_Tr_openedCount 23 = .ok (.iinc 2 1, 3) := by decide +kernel
theorem d_Tr_openedCount_26 : dec m_Tr_openedCount 26 = .ok (.goto (-22), 3) := by decide +kernel
theorem d_Tr_openedCount_29 : dec m_Tr_openedCount 29 = .ok (.iload_n 1, 1) := by decide +kernel
theorem d_Tr_openedCount_30 : dec m_Tr_openedCount 30 = .ok (.ireturn, 1) := by decide +kernel
theorem d_Tr_greatestDepth_0 : dec m_Tr_greatestDepth 0 = .ok (.iconst 0, 1) := by decide +kernel
theorem d_Tr_greatestDepth_1 : dec m_Tr_greatestDepth 1 = .ok (.istore_n 1, 1) := by decide +kernel
theorem d_Tr_greatestDepth_2 : dec m_Tr_greatestDepth 2 = .ok (.iconst 0, 1) := by decide +kernel
theorem d_Tr_greatestDepth_3 : dec m_Tr_greatestDepth 3 = .ok (.istore_n 2, 1) := by decide +kernel
theorem d_Tr_greatestDepth_4 : dec m_Tr_greatestDepth 4 = .ok (.iload_n 2, 1) := by decide +kernel
theorem d_Tr_greatestDepth_5 : dec m_Tr_greatestDepth 5 = .ok (.aload_n 0, 1) := by decide +kernel
theorem d_Tr_greatestDepth_6 : dec m_Tr_greatestDepth 6 = .ok (.getfield 49, 3) := by decide +kernel
theorem d_Tr_greatestDepth_9 : dec m_Tr_greatestDepth 9 = .ok (.if_icmp .ge 22, 3) := by decide +kernel
theorem d_Tr_greatestDepth_12 : dec m_Tr_greatestDepth 12 = .ok (.iload_n 1, 1) := by decide +kernel
theorem d_Tr_greatestDepth_13 : dec m_Tr_greatestDepth 13 = .ok (.aload_n 0, 1) := by decide +kernel
theorem d_Tr_greatestDepth_14 : dec m_Tr_greatestDepth 14 = .ok (.getfield 23, 3) := by decide +kernel
theorem d_Tr_greatestDepth_17 : dec m_Tr_greatestDepth 17 = .ok (.iload_n 2, 1) := by decide +kernel
theorem d_Tr_greatestDepth_18 : dec m_Tr_greatestDepth 18 = .ok (.invokevirtual 53, 3) := by decide +kernel
theorem d_Tr_greatestDepth_21 : dec m_Tr_greatestDepth 21 = .ok (.invokestatic 147, 3) := by decide +kernel
theorem d_Tr_greatestDepth_24 : dec m_Tr_greatestDepth 24 = .ok (.istore_n 1, 1) := by decide +kernel
theorem d_Tr_greatestDepth_25 : dec m_Tr_greatestDepth 25 = .ok (.iinc 2 1, 3) := by decide +kernel
theorem d_Tr_greatestDepth_28 : dec m_Tr_greatestDepth 28 = .ok (.goto (-24), 3) := by decide +kernel
theorem d_Tr_greatestDepth_31 : dec m_Tr_greatestDepth 31 = .ok (.iload_n 1, 1) := by decide +kernel
theorem d_Tr_greatestDepth_32 : dec m_Tr_greatestDepth 32 = .ok (.ireturn, 1) := by decide +kernel
theorem d_Cp_init_0 : dec m_Cp_init 0 = .ok (.aload_n 0, 1) := by decide +kernel
theorem d_Cp_init_1 : dec m_Cp_init 1 = .ok (.invokespecial 1, 3) := by decide +kernel
theorem d_Cp_init_4 : dec m_Cp_init 4 = .ok (.aload_n 0, 1) := by decide +kernel
theorem d_Cp_init_5 : dec m_Cp_init 5 = .ok (.new 7, 3) := by decide +kernel
theorem d_Cp_init_8 : dec m_Cp_init 8 = .ok (.dup, 1) := by decide +kernel
theorem d_Cp_init_9 : dec m_Cp_init 9 = .ok (.invokespecial 9, 3) := by decide +kernel
theorem d_Cp_init_12 : dec m_Cp_init 12 = .ok (.putfield 10, 3) := by decide +kernel
theorem d_Cp_init_15 : dec m_Cp_init 15 = .ok (.aload_n 0, 1) := by decide +kernel
theorem d_Cp_init_16 : dec m_Cp_init 16 = .ok (.new 7, 3) := by decide +kernel
theorem d_Cp_init_19 : dec m_Cp_init 19 = .ok (.dup, 1) := by decide +kernel
theorem d_Cp_init_20 : dec m_Cp_init 20 = .ok (.invokespecial 9, 3) := by decide +kernel
theorem d_Cp_init_23 : dec m_Cp_init 23 = .ok (.putfield 16, 3) := by decide +kernel
theorem d_Cp_init_26 : dec m_Cp_init 26 = .ok (.aload_n 0, 1) := by decide +kernel
theorem d_Cp_init_27 : dec m_Cp_init 27 = .ok (.iconst 0, 1) := by decide +kernel
theorem d_Cp_init_28 : dec m_Cp_init 28 = .ok (.putfield 19, 3) := by decide +kernel
theorem d_Cp_init_31 : dec m_Cp_init 31 = .ok (.aload_n 0, 1) := by decide +kernel
theorem d_Cp_init_32 : dec m_Cp_init 32 = .ok (.new 23, 3) := by decide +kernel
theorem d_Cp_init_35 : dec m_Cp_init 35 = .ok (.dup, 1) := by decide +kernel
theorem d_Cp_init_36 : dec m_Cp_init 36 = .ok (.invokespecial 25, 3) := by decide +kernel
theorem d_Cp_init_39 : dec m_Cp_init 39 = .ok (.putfield 26, 3) := by decide +kernel
theorem d_Cp_init_42 : dec m_Cp_init 42 = .ok (.aload_n 0, 1) := by decide +kernel
theorem d_Cp_init_43 : dec m_Cp_init 43 = .ok (.new 30, 3) := by decide +kernel
theorem d_Cp_init_46 : dec m_Cp_init 46 = .ok (.dup, 1) := by decide +kernel
theorem d_Cp_init_47 : dec m_Cp_init 47 = .ok (.invokespecial 32, 3) := by decide +kernel
theorem d_Cp_init_50 : dec m_Cp_init 50 = .ok (.putfield 33, 3) := by decide +kernel
theorem d_Cp_init_53 : dec m_Cp_init 53 = .ok (.aload_n 0, 1) := by decide +kernel
theorem d_Cp_init_54 : dec m_Cp_init 54 = .ok (.new 37, 3) := by decide +kernel
theorem d_Cp_init_57 : dec m_Cp_init 57 = .ok (.dup, 1) := by decide +kernel
theorem d_Cp_init_58 : dec m_Cp_init 58 = .ok (.aload_n 0, 1) := by decide +kernel
theorem d_Cp_init_59 : dec m_Cp_init 59 = .ok (.getfield 33, 3) := by decide +kernel
theorem d_Cp_init_62 : dec m_Cp_init 62 = .ok (.invokespecial 39, 3) := by decide +kernel
theorem d_Cp_init_65 : dec m_Cp_init 65 = .ok (.putfield 42, 3) := by decide +kernel
theorem d_Cp_init_68 : dec m_Cp_init 68 = .ok (.aload_n 0, 1) := by decide +kernel
theorem d_Cp_init_69 : dec m_Cp_init 69 = .ok (.new 46, 3) := by decide +kernel
theorem d_Cp_init_72 : dec m_Cp_init 72 = .ok (.dup, 1) := by decide +kernel
theorem d_Cp_init_73 : dec m_Cp_init 73 = .ok (.invokespecial 48, 3) := by decide +kernel
theorem d_Cp_init_76 : dec m_Cp_init 76 = .ok (.putfield 49, 3) := by decide +kernel
theorem d_Cp_init_79 : dec m_Cp_init 79 = .ok (.aload_n 0, 1) := by decide +kernel
theorem d_Cp_init_80 : dec m_Cp_init 80 = .ok (.new 53, 3) := by decide +kernel
theorem d_Cp_init_83 : dec m_Cp_init 83 = .ok (.dup, 1) := by decide +kernel
theorem d_Cp_init_84 : dec m_Cp_init 84 = .ok (.invokespecial 55, 3) := by decide +kernel
theorem d_Cp_init_87 : dec m_Cp_init 87 = .ok (.putfield 56, 3) := by decide +kernel
theorem d_Cp_init_90 : dec m_Cp_init 90 = .ok (.return_, 1) := by decide +kernel
theorem d_Cp_setPosition_0 : dec m_Cp_setPosition 0 = .ok (.iload_n 1, 1) := by decide +kernel
theorem d_Cp_setPosition_1 : dec m_Cp_setPosition 1 = .ok (.invokestatic 60, 3) := by decide +kernel
theorem d_Cp_setPosition_4 : dec m_Cp_setPosition 4 = .ok (.ifCond .ne 5, 3) := by decide +kernel
theorem d_Cp_setPosition_7 : dec m_Cp_setPosition 7 = .ok (.iconst (-1), 1) := by decide +kernel
theorem d_Cp_setPosition_8 : dec m_Cp_setPosition 8 = .ok (.ireturn, 1) := by decide +kernel
theorem d_Cp_setPosition_9 : dec m_Cp_setPosition 9 = .ok (.iload_n 2, 1) := by decide +kernel
theorem d_Cp_setPosition_10 : dec m_Cp_setPosition 10 = .ok (.ifCond .lt 17, 3) := by decide +kernel
theorem d_Cp_setPosition_13 : dec m_Cp_setPosition 13 = .ok (.iload_n 2, 1) := by decide +kernel
theorem d_Cp_setPosition_14 : dec m_Cp_setPosition 14 = .ok (.iconst 1, 1) := by decide +kernel
theorem d_Cp_setPosition_15 : dec m_Cp_setPosition 15 = .ok (.if_icmp .gt 12, 3) := by decide +kernel
theorem d_Cp_setPosition_18 : dec m_Cp_setPosition 18 = .ok (.iload_n 3, 1) := by decide +kernel
theorem d_Cp_setPosition_19 : dec m_Cp_setPosition 19 = .ok (.ifCond .lt 8, 3) := by decide +kernel
theorem d_Cp_setPosition_22 : dec m_Cp_setPosition 22 = .ok (.iload_n 3, 1) := by decide +kernel
theorem d_Cp_setPosition_23 : dec m_Cp_setPosition 23 = .ok (.iconst 2, 1) := by decide +kernel
theorem d_Cp_setPosition_24 : dec m_Cp_setPosition 24 = .ok (.if_icmp .le 6, 3) := by decide +kernel
theorem d_Cp_setPosition_27 : dec m_Cp_setPosition 27 = .ok (.bipush (-2), 2) := by decide +kernel
theorem d_Cp_setPosition_29 : dec m_Cp_setPosition 29 = .ok (.ireturn, 1) := by decide +kernel
theorem d_Cp_setPosition_30 : dec m_Cp_setPosition 30 = .ok (.aload_n 0, 1) := by decide +kernel
theorem d_Cp_setPosition_31 : dec m_Cp_setPosition 31 = .ok (.getfield 10, 3) := by decide +kernel
theorem d_Cp_setPosition_34 : dec m_Cp_setPosition 34 = .ok (.getfield 64, 3) := by decide +kernel
theorem d_Cp_setPosition_37 : dec m_Cp_setPosition 37 = .ok (.astore 4, 2) := by decide +kernel
theorem d_Cp_setPosition_39 : dec m_Cp_setPosition 39 = .ok (.aload 4, 2) := by decide +kernel
theorem d_Cp_setPosition_41 : dec m_Cp_setPosition 41 = .ok (.getfield 68, 3) := by decide +kernel
theorem d_Cp_setPosition_44 : dec m_Cp_setPosition 44 = .ok (.iload_n 1, 1) := by decide +kernel
theorem d_Cp_setPosition_45 : dec m_Cp_setPosition 45 = .ok (.invokevirtual 74, 3) := by decide +kernel
theorem d_Cp_setPosition_48 : dec m_Cp_setPosition 48 = .ok (.istore 5, 2) := by decide +kernel
theorem d_Cp_setPosition_50 : dec m_Cp_setPosition 50 = .ok (.iload 5, 2) := by decide +kernel
theorem d_Cp_setPosition_52 : dec m_Cp_setPosition 52 = .ok (.iload_n 3, 1) := by decide +kernel
theorem d_Cp_setPosition_53 : dec m_Cp_setPosition 53 = .ok (.if_icmp .ne 19, 3) := by decide +kernel
theorem d_Cp_setPosition_56 : dec m_Cp_setPosition 56 = .ok (.aload 4, 2) := by decide +kernel
theorem d_Cp_setPosition_58 : dec m_Cp_setPosition 58 = .ok (.getfield 80, 3) := by decide +kernel
theorem d_Cp_setPosition_61 : dec m_Cp_setPosition 61 = .ok (.iload_n 1, 1) := by decide +kernel
theorem d_Cp_setPosition_62 : dec m_Cp_setPosition 62 = .ok (.invokevirtual 74, 3) := by decide +kernel
theorem d_Cp_setPosition_65 : dec m_Cp_setPosition 65 = .ok (.iload_n 2, 1) := by decide +kernel
theorem d_Cp_setPosition_66 : dec m_Cp_setPosition 66 = .ok (.if_icmp .ne 6, 3) := by decide +kernel
theorem d_Cp_setPosition_69 : dec m_Cp_setPosition 69 = .ok (.bipush (-5), 2) := by decide +kernel
theorem d_Cp_setPosition_71 : dec m_Cp_setPosition 71 = .ok (.ireturn, 1) := by decide +kernel
theorem d_Cp_setPosition_72 : dec m_Cp_setPosition 72 = .ok (.aload_n 0, 1) := by decide +kernel
theorem d_Cp_setPosition_73 : dec m_Cp_setPosition 73 = .ok (.getfield 26, 3) := by decide +kernel
theorem d_Cp_setPosition_76 : dec m_Cp_setPosition 76 = .ok (.aload_n 0, 1) := by decide +kernel
theorem d_Cp_setPosition_77 : dec m_Cp_setPosition 77 = .ok (.getfield 10, 3) := by decide +kernel
theorem d_Cp_setPosition_80 : dec m_Cp_setPosition 80 = .ok (.invokevirtual 83, 3) := by decide +kernel
theorem d_Cp_setPosition_83 : dec m_Cp_setPosition 83 = .ok (.aload 4, 2) := by decide +kernel
theorem d_Cp_setPosition_85 : dec m_Cp_setPosition 85 = .ok (.getfield 80, 3) := by decide +kernel
theorem d_Cp_setPosition_88 : dec m_Cp_setPosition 88 = .ok (.iload_n 1, 1) := by decide +kernel
theorem d_Cp_setPosition_89 : dec m_Cp_setPosition 89 = .ok (.iload_n 2, 1) := by decide +kernel
theorem d_Cp_setPosition_90 : dec m_Cp_setPosition 90 = .ok (.invokevirtual 87, 3) := by decide +kernel
theorem d_Cp_setPosition_93 : dec m_Cp_setPosition 93 = .ok (.aload 4, 2) := by decide +kernel
theorem d_Cp_setPosition_95 : dec m_Cp_setPosition 95 = .ok (.getfield 68, 3) := by decide +kernel
theorem d_Cp_setPosition_98 : dec m_Cp_setPosition 98 = .ok (.iload_n 1, 1) := by decide +kernel
theorem d_Cp_setPosition_99 : dec m_Cp_setPosition 99 = .ok (.iload_n 3, 1) := by decide +kernel
theorem d_Cp_setPosition_100 : dec m_Cp_setPosition 100 = .ok (.invokevirtual 87, 3) := by decide +kernel
theorem d_Cp_setPosition_103 : dec m_Cp_setPosition 103 = .ok (.aload_n 0, 1) := by decide +kernel
theorem d_Cp_setPosition_104 : dec m_Cp_setPosition 104 = .ok (.getfield 10, 3) := by decide +kernel
theorem d_Cp_setPosition_107 : dec m_Cp_setPosition 107 = .ok (.getfield 91, 3) := by decide +kernel
theorem d_Cp_setPosition_110 : dec m_Cp_setPosition 110 = .ok (.invokevirtual 95, 3) := by decide +kernel
theorem d_Cp_setPosition_113 : dec m_Cp_setPosition 113 = .ok (.iload 5, 2) := by decide +kernel
theorem d_Cp_setPosition_115 : dec m_Cp_setPosition 115 = .ok (.ireturn, 1) := by decide +kernel
theorem d_Cp_guess_0 : dec m_Cp_guess 0 = .ok (.iload_n 1, 1) := by decide +kernel
theorem d_Cp_guess_1 : dec m_Cp_guess 1 = .ok (.invokestatic 60, 3) := by decide +kernel
theorem d_Cp_guess_4 : dec m_Cp_guess 4 = .ok (.ifCond .ne 5, 3) := by decide +kernel
theorem d_Cp_guess_7 : dec m_Cp_guess 7 = .ok (.iconst (-1), 1) := by decide +kernel
theorem d_Cp_guess_8 : dec m_Cp_guess 8 = .ok (.ireturn, 1) := by decide +kernel
theorem d_Cp_guess_9 : dec m_Cp_guess 9 = .ok (.iload_n 2, 1) := by decide +kernel
theorem d_Cp_guess_10 : dec m_Cp_guess 10 = .ok (.invokestatic 100, 3) := by decide +kernel
theorem d_Cp_guess_13 : dec m_Cp_guess 13 = .ok (.ifCond .eq 10, 3) := by decide +kernel
theorem d_Cp_guess_16 : dec m_Cp_guess 16 = .ok (.iload_n 3, 1) := by decide +kernel
theorem d_Cp_guess_17 : dec m_Cp_guess 17 = .ok (.invokestatic 100, 3) := by decide +kernel
theorem d_Cp_guess_20 : dec m_Cp_guess 20 = .ok (.ifCond .ne 6, 3) := by decide +kernel
theorem d_Cp_guess_23 : dec m_Cp_guess 23 = .ok (.bipush (-2), 2) := by decide +kernel
theorem d_Cp_guess_25 : dec m_Cp_guess 25 = .ok (.ireturn, 1) := by decide +kernel
theorem d_Cp_guess_26 : dec m_Cp_guess 26 = .ok (.aload_n 0, 1) := by decide +kernel
theorem d_Cp_guess_27 : dec m_Cp_guess 27 = .ok (.getfield 10, 3) := by decide +kernel
theorem d_Cp_guess_30 : dec m_Cp_guess 30 = .ok (.getfield 64, 3) := by decide +kernel
theorem d_Cp_guess_33 : dec m_Cp_guess 33 = .ok (.astore 4, 2) := by decide +kernel
theorem d_Cp_guess_35 : dec m_Cp_guess 35 = .ok (.aload 4, 2) := by decide +kernel
theorem d_Cp_guess_37 : dec m_Cp_guess 37 = .ok (.getfield 103, 3) := by decide +kernel
theorem d_Cp_guess_40 : dec m_Cp_guess 40 = .ok (.iload_n 1, 1) := by decide +kernel
theorem d_Cp_guess_41 : dec m_Cp_guess 41 = .ok (.invokevirtual 74, 3) := by decide +kernel
theorem d_Cp_guess_44 : dec m_Cp_guess 44 = .ok (.istore 5, 2) := by decide +kernel
theorem d_Cp_guess_46 : dec m_Cp_guess 46 = .ok (.iload 5, 2) := by decide +kernel
theorem d_Cp_guess_48 : dec m_Cp_guess 48 = .ok (.iload_n 2, 1) := by decide +kernel
theorem d_Cp_guess_49 : dec m_Cp_guess 49 = .ok (.if_icmp .ne 19, 3) := by decide +kernel
theorem d_Cp_guess_52 : dec m_Cp_guess 52 = .ok (.aload 4, 2) := by decide +kernel
theorem d_Cp_guess_54 : dec m_Cp_guess 54 = .ok (.getfield 106, 3) := by decide +kernel
theorem d_Cp_guess_57 : dec m_Cp_guess 57 = .ok (.iload_n 1, 1) := by decide +kernel
theorem d_Cp_guess_58 : dec m_Cp_guess 58 = .ok (.invokevirtual 74, 3) := by decide +kernel
theorem d_Cp_guess_61 : dec m_Cp_guess 61 = .ok (.iload_n 3, 1) := by decide +kernel
theorem d_Cp_guess_62 : dec m_Cp_guess 62 = .ok (.if_icmp .ne 6, 3) := by decide +kernel
theorem d_Cp_guess_65 : dec m_Cp_guess 65 = .ok (.bipush (-5), 2) := by decide +kernel
theorem d_Cp_guess_67 : dec m_Cp_guess 67 = .ok (.ireturn, 1) := by decide +kernel
theorem d_Cp_guess_68 : dec m_Cp_guess 68 = .ok (.aload_n 0, 1) := by decide +kernel
theorem d_Cp_guess_69 : dec m_Cp_guess 69 = .ok (.getfield 26, 3) := by decide +kernel
theorem d_Cp_guess_72 : dec m_Cp_guess 72 = .ok (.aload_n 0, 1) := by decide +kernel
theorem d_Cp_guess_73 : dec m_Cp_guess 73 = .ok (.getfield 10, 3) := by decide +kernel
theorem d_Cp_guess_76 : dec m_Cp_guess 76 = .ok (.invokevirtual 83, 3) := by decide +kernel
theorem d_Cp_guess_79 : dec m_Cp_guess 79 = .ok (.aload 4, 2) := by decide +kernel
theorem d_Cp_guess_81 : dec m_Cp_guess 81 = .ok (.getfield 103, 3) := by decide +kernel
theorem d_Cp_guess_84 : dec m_Cp_guess 84 = .ok (.iload_n 1, 1) := by decide +kernel
theorem d_Cp_guess_85 : dec m_Cp_guess 85 = .ok (.iload_n 2, 1) := by decide +kernel
theorem d_Cp_guess_86 : dec m_Cp_guess 86 = .ok (.invokevirtual 87, 3) := by decide +kernel
theorem d_Cp_guess_89 : dec m_Cp_guess 89 = .ok (.aload 4, 2) := by decide +kernel
theorem d_Cp_guess_91 : dec m_Cp_guess 91 = .ok (.getfield 106, 3) := by decide +kernel
theorem d_Cp_guess_94 : dec m_Cp_guess 94 = .ok (.iload_n 1, 1) := by decide +kernel
theorem d_Cp_guess_95 : dec m_Cp_guess 95 = .ok (.iload_n 3, 1) := by decide +kernel
theorem d_Cp_guess_96 : dec m_Cp_guess 96 = .ok (.invokevirtual 87, 3) := by decide +kernel
theorem d_Cp_guess_99 : dec m_Cp_guess 99 = .ok (.aload_n 0, 1) := by decide +kernel
theorem d_Cp_guess_100 : dec m_Cp_guess 100 = .ok (.getfield 10, 3) := by decide +kernel
theorem d_Cp_guess_103 : dec m_Cp_guess 103 = .ok (.getfield 91, 3) := by decide +kernel
theorem d_Cp_guess_106 : dec m_Cp_guess 106 = .ok (.invokevirtual 95, 3) := by decide +kernel
theorem d_Cp_guess_109 : dec m_Cp_guess 109 = .ok (.iload 5, 2) := by decide +kernel
theorem d_Cp_guess_111 : dec m_Cp_guess 111 = .ok (.ireturn, 1) := by decide +kernel
theorem d_Cp_addMove_0 : dec m_Cp_addMove 0 = .ok (.iload_n 1, 1) := by decide +kernel
theorem d_Cp_addMove_1 : dec m_Cp_addMove 1 = .ok (.invokestatic 60, 3) := by decide +kernel
theorem d_Cp_addMove_4 : dec m_Cp_addMove 4 = .ok (.ifCond .eq 10, 3) := by decide +kernel
theorem d_Cp_addMove_7 : dec m_Cp_addMove 7 = .ok (.iload_n 2, 1) := by decide +kernel
theorem d_Cp_addMove_8 : dec m_Cp_addMove 8 = .ok (.invokestatic 60, 3) := by decide +kernel
theorem d_Cp_addMove_11 : dec m_Cp_addMove 11 = .ok (.ifCond .ne 5, 3) := by decide +kernel
theorem d_Cp_addMove_14 : dec m_Cp_addMove 14 = .ok (.iconst (-1), 1) := by decide +kernel
theorem d_Cp_addMove_15 : dec m_Cp_addMove 15 = .ok (.ireturn, 1) := by decide +kernel
theorem d_Cp_addMove_16 : dec m_Cp_addMove 16 = .ok (.aload_n 0, 1) := by decide +kernel
theorem d_Cp_addMove_17 : dec m_Cp_addMove 17 = .ok (.getfield 10, 3) := by decide +kernel
theorem d_Cp_addMove_20 : dec m_Cp_addMove 20 = .ok (.getfield 64, 3) := by decide +kernel
theorem d_Cp_addMove_23 : dec m_Cp_addMove 23 = .ok (.astore_n 3, 1) := by decide +kernel
theorem d_Cp_addMove_24 : dec m_Cp_addMove 24 = .ok (.aload_n 3, 1) := by decide +kernel
theorem d_Cp_addMove_25 : dec m_Cp_addMove 25 = .ok (.iload_n 1, 1) := by decide +kernel
theorem d_Cp_addMove_26 : dec m_Cp_addMove 26 = .ok (.iload_n 2, 1) := by decide +kernel
theorem d_Cp_addMove_27 : dec m_Cp_addMove 27 = .ok (.invokevirtual 109, 3) := by decide +kernel
theorem d_Cp_addMove_30 : dec m_Cp_addMove 30 = .ok (.bipush (-5), 2) := by decide +kernel
theorem d_Cp_addMove_32 : dec m_Cp_addMove 32 = .ok (.if_icmp .eq 6, 3) := by decide +kernel
theorem d_Cp_addMove_35 : dec m_Cp_addMove 35 = .ok (.bipush (-5), 2) := by decide +kernel
theorem d_Cp_addMove_37 : dec m_Cp_addMove 37 = .ok (.ireturn, 1) := by decide +kernel
theorem d_Cp_addMove_38 : dec m_Cp_addMove 38 = .ok (.aload_n 3, 1) := by decide +kernel
theorem d_Cp_addMove_39 : dec m_Cp_addMove 39 = .ok (.getfield 113, 3) := by decide +kernel
theorem d_Cp_addMove_42 : dec m_Cp_addMove 42 = .ok (.bipush 60, 2) := by decide +kernel
theorem d_Cp_addMove_44 : dec m_Cp_addMove 44 = .ok (.if_icmp .lt 6, 3) := by decide +kernel
theorem d_Cp_addMove_47 : dec m_Cp_addMove 47 = .ok (.bipush (-3), 2) := by decide +kernel
theorem d_Cp_addMove_49 : dec m_Cp_addMove 49 = .ok (.ireturn, 1) := by decide +kernel
theorem d_Cp_addMove_50 : dec m_Cp_addMove 50 = .ok (.aload_n 0, 1) := by decide +kernel
theorem d_Cp_addMove_51 : dec m_Cp_addMove 51 = .ok (.getfield 26, 3) := by decide +kernel
theorem d_Cp_addMove_54 : dec m_Cp_addMove 54 = .ok (.aload_n 0, 1) := by decide +kernel
theorem d_Cp_addMove_55 : dec m_Cp_addMove 55 = .ok (.getfield 10, 3) := by decide +kernel
theorem d_Cp_addMove_58 : dec m_Cp_addMove 58 = .ok (.invokevirtual 83, 3) := by decide +kernel
theorem d_Cp_addMove_61 : dec m_Cp_addMove 61 = .ok (.aload_n 3, 1) := by decide +kernel
theorem d_Cp_addMove_62 : dec m_Cp_addMove 62 = .ok (.iload_n 1, 1) := by decide +kernel
theorem d_Cp_addMove_63 : dec m_Cp_addMove 63 = .ok (.iload_n 2, 1) := by decide +kernel
theorem d_Cp_addMove_64 : dec m_Cp_addMove 64 = .ok (.invokevirtual 117, 3) := by decide +kernel
theorem d_Cp_addMove_67 : dec m_Cp_addMove 67 = .ok (.aload_n 0, 1) := by decide +kernel
theorem d_Cp_addMove_68 : dec m_Cp_addMove 68 = .ok (.getfield 10, 3) := by decide +kernel
theorem d_Cp_addMove_71 : dec m_Cp_addMove 71 = .ok (.getfield 91, 3) := by decide +kernel
theorem d_Cp_addMove_74 : dec m_Cp_addMove 74 = .ok (.invokevirtual 95, 3) := by decide +kernel
theorem d_Cp_addMove_77 : dec m_Cp_addMove 77 = .ok (.aload_n 3, 1) := by decide +kernel
theorem d_Cp_addMove_78 : dec m_Cp_addMove 78 = .ok (.getfield 120, 3) := by decide +kernel
theorem d_Cp_addMove_81 : dec m_Cp_addMove 81 = .ok (.iload_n 1, 1) := by decide +kernel
theorem d_Cp_addMove_82 : dec m_Cp_addMove 82 = .ok (.invokevirtual 74, 3) := by decide +kernel
theorem d_Cp_addMove_85 : dec m_Cp_addMove 85 = .ok (.ireturn, 1) := by decide +kernel
theorem d_Cp_removeMove_0 : dec m_Cp_removeMove 0 = .ok (.iload_n 1, 1) := by decide +kernel
theorem d_Cp_removeMove_1 : dec m_Cp_removeMove 1 = .ok (.invokestatic 60, 3) := by decide +kernel
theorem d_Cp_removeMove_4 : dec m_Cp_removeMove 4 = .ok (.ifCond .eq 10, 3) := by decide +kernel
theorem d_Cp_removeMove_7 : dec m_Cp_removeMove 7 = .ok (.iload_n 2, 1) := by decide +kernel
theorem d_Cp_removeMove_8 : dec m_Cp_removeMove 8 = .ok (.invokestatic 60, 3) := by decide +kernel
theorem d_Cp_removeMove_11 : dec m_Cp_removeMove 11 = .ok (.ifCond .ne 5, 3) := by decide +kernel
theorem d_Cp_removeMove_14 : dec m_Cp_removeMove 14 = .ok (.iconst (-1), 1) := by decide +kernel
theorem d_Cp_removeMove_15 : dec m_Cp_removeMove 15 = .ok (.ireturn, 1) := by decide +kernel
theorem d_Cp_removeMove_16 : dec m_Cp_removeMove 16 = .ok (.aload_n 0, 1) := by decide +kernel
theorem d_Cp_removeMove_17 : dec m_Cp_removeMove 17 = .ok (.getfield 10, 3) := by decide +kernel
theorem d_Cp_removeMove_20 : dec m_Cp_removeMove 20 = .ok (.getfield 64, 3) := by decide +kernel
theorem d_Cp_removeMove_23 : dec m_Cp_removeMove 23 = .ok (.astore_n 3, 1) := by decide +kernel
theorem d_Cp_removeMove_24 : dec m_Cp_removeMove 24 = .ok (.aload_n 3, 1) := by decide +kernel
theorem d_Cp_removeMove_25 : dec m_Cp_removeMove 25 = .ok (.iload_n 1, 1) := by decide +kernel
theorem d_Cp_removeMove_26 : dec m_Cp_removeMove 26 = .ok (.iload_n 2, 1) := by decide +kernel
theorem d_Cp_removeMove_27 : dec m_Cp_removeMove 27 = .ok (.invokevirtual 109, 3) := by decide +kernel
theorem d_Cp_removeMove_30 : dec m_Cp_removeMove 30 = .ok (.istore 4, 2) := by decide +kernel
theorem d_Cp_removeMove_32 : dec m_Cp_removeMove 32 = .ok (.iload 4, 2) := by decide +kernel
theorem d_Cp_removeMove_34 : dec m_Cp_removeMove 34 = .ok (.bipush (-5), 2) := by decide +kernel
theorem d_Cp_removeMove_36 : dec m_Cp_removeMove 36 = .ok (.if_icmp .ne 5, 3) := by decide +kernel
theorem d_Cp_removeMove_39 : dec m_Cp_removeMove 39 = .ok (.iconst (-1), 1) := by decide +kernel
theorem d_Cp_removeMove_40 : dec m_Cp_removeMove 40 = .ok (.ireturn, 1) := by decide +kernel
theorem d_Cp_removeMove_41 : dec m_Cp_removeMove 41 = .ok (.aload_n 0, 1) := by decide +kernel
theorem d_Cp_removeMove_42 : dec m_Cp_removeMove 42 = .ok (.getfield 26, 3) := by decide +kernel
theorem d_Cp_removeMove_45 : dec m_Cp_removeMove 45 = .ok (.aload_n 0, 1) := by decide +kernel
theorem d_Cp_removeMove_46 : dec m_Cp_removeMove 46 = .ok (.getfield 10, 3) := by decide +kernel
theorem d_Cp_removeMove_49 : dec m_Cp_removeMove 49 = .ok (.invokevirtual 83, 3) := by decide +kernel
theorem d_Cp_removeMove_52 : dec m_Cp_removeMove 52 = .ok (.aload_n 3, 1) := by decide +kernel
theorem d_Cp_removeMove_53 : dec m_Cp_removeMove 53 = .ok (.iload_n 1, 1) := by decide +kernel
theorem d_Cp_removeMove_54 : dec m_Cp_removeMove 54 = .ok (.iload 4, 2) := by decide +kernel
theorem d_Cp_removeMove_56 : dec m_Cp_removeMove 56 = .ok (.invokevirtual 123, 3) := by decide +kernel
theorem d_Cp_removeMove_59 : dec m_Cp_removeMove 59 = .ok (.aload_n 0, 1) := by decide +kernel
theorem d_Cp_removeMove_60 : dec m_Cp_removeMove 60 = .ok (.getfield 10, 3) := by decide +kernel
theorem d_Cp_removeMove_63 : dec m_Cp_removeMove 63 = .ok (.getfield 91, 3) := by decide +kernel
theorem d_Cp_removeMove_66 : dec m_Cp_removeMove 66 = .ok (.invokevirtual 95, 3) := by decide +kernel
theorem d_Cp_removeMove_69 : dec m_Cp_removeMove 69 = .ok (.aload_n 3, 1) := by decide +kernel
theorem d_Cp_removeMove_70 : dec m_Cp_removeMove 70 = .ok (.getfield 120, 3) := by decide +kernel
theorem d_Cp_removeMove_73 : dec m_Cp_removeMove 73 = .ok (.iload_n 1, 1) := by decide +kernel
theorem d_Cp_removeMove_74 : dec m_Cp_removeMove 74 = .ok (.invokevirtual 74, 3) := by decide +kernel
theorem d_Cp_removeMove_77 : dec m_Cp_removeMove 77 = .ok (.ireturn, 1) := by decide +kernel
theorem d_Cp_begin_0 : dec m_Cp_begin 0 = .ok (.iload_n 1, 1) := by decide +kernel
theorem d_Cp_begin_1 : dec m_Cp_begin 1 = .ok (.invokestatic 60, 3) := by decide +kernel
theorem d_Cp_begin_4 : dec m_Cp_begin 4 = .ok (.ifCond .ne 5, 3) := by decide +kernel
theorem d_Cp_begin_7 : dec m_Cp_begin 7 = .ok (.iconst (-1), 1) := by decide +kernel
theorem d_Cp_begin_8 : dec m_Cp_begin 8 = .ok (.ireturn, 1) := by decide +kernel
theorem d_Cp_begin_9 : dec m_Cp_begin 9 = .ok (.aload_n 0, 1) := by decide +kernel
theorem d_Cp_begin_10 : dec m_Cp_begin 10 = .ok (.getfield 26, 3) := by decide +kernel
theorem d_Cp_begin_13 : dec m_Cp_begin 13 = .ok (.aload_n 0, 1) := by decide +kernel
theorem d_Cp_begin_14 : dec m_Cp_begin 14 = .ok (.getfield 10, 3) := by decide +kernel
theorem d_Cp_begin_17 : dec m_Cp_begin 17 = .ok (.invokevirtual 83, 3) := by decide +kernel
theorem d_Cp_begin_20 : dec m_Cp_begin 20 = .ok (.aload_n 0, 1) := by decide +kernel
theorem d_Cp_begin_21 : dec m_Cp_begin 21 = .ok (.getfield 10, 3) := by decide +kernel
theorem d_Cp_begin_24 : dec m_Cp_begin 24 = .ok (.getfield 91, 3) := by decide +kernel
theorem d_Cp_begin_27 : dec m_Cp_begin 27 = .ok (.iload_n 1, 1) := by decide +kernel
theorem d_Cp_begin_28 : dec m_Cp_begin 28 = .ok (.invokevirtual 137, 3) := by decide +kernel
theorem d_Cp_begin_31 : dec m_Cp_begin 31 = .ok (.aload_n 0, 1) := by decide +kernel
theorem d_Cp_begin_32 : dec m_Cp_begin 32 = .ok (.getfield 10, 3) := by decide +kernel
theorem d_Cp_begin_35 : dec m_Cp_begin 35 = .ok (.getfield 91, 3) := by decide +kernel
theorem d_Cp_begin_38 : dec m_Cp_begin 38 = .ok (.getfield 141, 3) := by decide +kernel
theorem d_Cp_begin_41 : dec m_Cp_begin 41 = .ok (.iconst 0, 1) := by decide +kernel
theorem d_Cp_begin_42 : dec m_Cp_begin 42 = .ok (.invokevirtual 74, 3) := by decide +kernel
theorem d_Cp_begin_45 : dec m_Cp_begin 45 = .ok (.ireturn, 1) := by decide +kernel
theorem d_Cp_open_0 : dec m_Cp_open 0 = .ok (.iload_n 1, 1) := by decide +kernel
theorem d_Cp_open_1 : dec m_Cp_open 1 = .ok (.iconst 1, 1) := by decide +kernel
theorem d_Cp_open_2 : dec m_Cp_open 2 = .ok (.if_icmp .lt 9, 3) := by decide +kernel
theorem d_Cp_open_5 : dec m_Cp_open 5 = .ok (.iload_n 1, 1) := by decide +kernel
theorem d_Cp_open_6 : dec m_Cp_open 6 = .ok (.bipush 100, 2) := by decide +kernel
theorem d_Cp_open_8 : dec m_Cp_open 8 = .ok (.if_icmp .le 6, 3) := by decide +kernel
theorem d_Cp_open_11 : dec m_Cp_open 11 = .ok (.bipush (-2), 2) := by decide +kernel
theorem d_Cp_open_13 : dec m_Cp_open 13 = .ok (.ireturn, 1) := by decide +kernel
theorem d_Cp_open_14 : dec m_Cp_open 14 = .ok (.aload_n 0, 1) := by decide +kernel
theorem d_Cp_open_15 : dec m_Cp_open 15 = .ok (.getfield 10, 3) := by decide +kernel
theorem d_Cp_open_18 : dec m_Cp_open 18 = .ok (.getfield 91, 3) := by decide +kernel
theorem d_Cp_open_21 : dec m_Cp_open 21 = .ok (.astore_n 2, 1) := by decide +kernel
theorem d_Cp_open_22 : dec m_Cp_open 22 = .ok (.aload_n 2, 1) := by decide +kernel
theorem d_Cp_open_23 : dec m_Cp_open 23 = .ok (.invokevirtual 144, 3) := by decide +kernel
theorem d_Cp_open_26 : dec m_Cp_open 26 = .ok (.ifCond .eq 6, 3) := by decide +kernel
theorem d_Cp_open_29 : dec m_Cp_open 29 = .ok (.bipush (-4), 2) := by decide +kernel
theorem d_Cp_open_31 : dec m_Cp_open 31 = .ok (.ireturn, 1) := by decide +kernel
theorem d_Cp_open_32 : dec m_Cp_open 32 = .ok (.aload_n 2, 1) := by decide +kernel
theorem d_Cp_open_33 : dec m_Cp_open 33 = .ok (.invokevirtual 148, 3) := by decide +kernel
theorem d_Cp_open_36 : dec m_Cp_open 36 = .ok (.ifCond .ne 6, 3) := by decide +kernel
theorem d_Cp_open_39 : dec m_Cp_open 39 = .ok (.bipush (-5), 2) := by decide +kernel
theorem d_Cp_open_41 : dec m_Cp_open 41 = .ok (.ireturn, 1) := by decide +kernel
theorem d_Cp_open_42 : dec m_Cp_open 42 = .ok (.aload_n 0, 1) := by decide +kernel
theorem d_Cp_open_43 : dec m_Cp_open 43 = .ok (.getfield 26, 3) := by decide +kernel
theorem d_Cp_open_46 : dec m_Cp_open 46 = .ok (.aload_n 0, 1) := by decide +kernel
theorem d_Cp_open_47 : dec m_Cp_open 47 = .ok (.getfield 10, 3) := by decide +kernel
theorem d_Cp_open_50 : dec m_Cp_open 50 = .ok (.invokevirtual 83, 3) := by decide +kernel
theorem d_Cp_open_53 : dec m_Cp_open 53 = .ok (.iconst 0, 1) := by decide +kernel
theorem d_Cp_open_54 : dec m_Cp_open 54 = .ok (.istore_n 3, 1) := by decide +kernel
theorem d_Cp_open_55 : dec m_Cp_open 55 = .ok (.iload_n 3, 1) := by decide +kernel
theorem d_Cp_open_56 : dec m_Cp_open 56 = .ok (.iload_n 1, 1) := by decide +kernel
theorem d_Cp_open_57 : dec m_Cp_open 57 = .ok (.if_icmp .ge 20, 3) := by decide +kernel
theorem d_Cp_open_60 : dec m_Cp_open 60 = .ok (.aload_n 2, 1) := by decide +kernel
theorem d_Cp_open_61 : dec m_Cp_open 61 = .ok (.invokevirtual 148, 3) := by decide +kernel
theorem d_Cp_open_64 : dec m_Cp_open 64 = .ok (.ifCond .eq 13, 3) := by decide +kernel
theorem d_Cp_open_67 : dec m_Cp_open 67 = .ok (.aload_n 2, 1) := by decide +kernel
theorem d_Cp_open_68 : dec m_Cp_open 68 = .ok (.invokevirtual 151, 3) := by decide +kernel
theorem d_Cp_open_71 : dec m_Cp_open 71 = .ok (.iinc 3 1, 3) := by decide +kernel
theorem d_Cp_open_74 : dec m_Cp_open 74 = .ok (.goto (-19), 3) := by decide +kernel
theorem d_Cp_open_77 : dec m_Cp_open 77 = .ok (.iload_n 3, 1) := by decide +kernel
theorem d_Cp_open_78 : dec m_Cp_open 78 = .ok (.ireturn, 1) := by decide +kernel
theorem d_Cp_undo_0 : dec m_Cp_undo 0 = .ok (.aload_n 0, 1) := by decide +kernel
theorem d_Cp_undo_1 : dec m_Cp_undo 1 = .ok (.getfield 26, 3) := by decide +kernel
theorem d_Cp_undo_4 : dec m_Cp_undo 4 = .ok (.getfield 164, 3) := by decide +kernel
theorem d_Cp_undo_7 : dec m_Cp_undo 7 = .ok (.ifCond .ne 6, 3) := by decide +kernel
theorem d_Cp_undo_10 : dec m_Cp_undo 10 = .ok (.bipush (-5), 2) := by decide +kernel
theorem d_Cp_undo_12 : dec m_Cp_undo 12 = .ok (.ireturn, 1) := by decide +kernel
theorem d_Cp_undo_13 : dec m_Cp_undo 13 = .ok (.aload_n 0, 1) := by decide +kernel
theorem d_Cp_undo_14 : dec m_Cp_undo 14 = .ok (.getfield 26, 3) := by decide +kernel
theorem d_Cp_undo_17 : dec m_Cp_undo 17 = .ok (.aload_n 0, 1) := by decide +kernel
theorem d_Cp_undo_18 : dec m_Cp_undo 18 = .ok (.getfield 10, 3) := by decide +kernel
theorem d_Cp_undo_21 : dec m_Cp_undo 21 = .ok (.invokevirtual 167, 3) := by decide +kernel
theorem d_Cp_undo_24 : dec m_Cp_undo 24 = .ok (.aload_n 0, 1) := by decide +kernel
theorem d_Cp_undo_25 : dec m_Cp_undo 25 = .ok (.getfield 26, 3) := by decide +kernel
theorem d_Cp_undo_28 : dec m_Cp_undo 28 = .ok (.getfield 164, 3) := by decide +kernel
theorem d_Cp_undo_31 : dec m_Cp_undo 31 = .ok (.ireturn, 1) := by decide +kernel
theorem d_Cp_keep_0 : dec m_Cp_keep 0 = .ok (.aload_n 0, 1) := by decide +kernel
theorem d_Cp_keep_1 : dec m_Cp_keep 1 = .ok (.getfield 16, 3) := by decide +kernel
theorem d_Cp_keep_4 : dec m_Cp_keep 4 = .ok (.aload_n 0, 1) := by decide +kernel
theorem d_Cp_keep_5 : dec m_Cp_keep 5 = .ok (.getfield 10, 3) := by decide +kernel
theorem d_Cp_keep_8 : dec m_Cp_keep 8 = .ok (.invokevirtual 170, 3) := by decide +kernel
theorem d_Cp_keep_11 : dec m_Cp_keep 11 = .ok (.aload_n 0, 1) := by decide +kernel
theorem d_Cp_keep_12 : dec m_Cp_keep 12 = .ok (.iconst 1, 1) := by decide +kernel
theorem d_Cp_keep_13 : dec m_Cp_keep 13 = .ok (.putfield 19, 3) := by decide +kernel
theorem d_Cp_keep_16 : dec m_Cp_keep 16 = .ok (.aload_n 0, 1) := by decide +kernel
theorem d_Cp_keep_17 : dec m_Cp_keep 17 = .ok (.getfield 10, 3) := by decide +kernel
theorem d_Cp_keep_20 : dec m_Cp_keep 20 = .ok (.getfield 64, 3) := by decide +kernel
theorem d_Cp_keep_23 : dec m_Cp_keep 23 = .ok (.getfield 113, 3) := by decide +kernel
theorem d_Cp_keep_26 : dec m_Cp_keep 26 = .ok (.ireturn, 1) := by decide +kernel
theorem d_Cp_restore_0 : dec m_Cp_restore 0 = .ok (.aload_n 0, 1) := by decide +kernel
theorem d_Cp_restore_1 : dec m_Cp_restore 1 = .ok (.getfield 19, 3) := by decide +kernel
theorem d_Cp_restore_4 : dec m_Cp_restore 4 = .ok (.ifCond .ne 6, 3) := by decide +kernel
theorem d_Cp_restore_7 : dec m_Cp_restore 7 = .ok (.bipush (-5), 2) := by decide +kernel
theorem d_Cp_restore_9 : dec m_Cp_restore 9 = .ok (.ireturn, 1) := by decide +kernel
theorem d_Cp_restore_10 : dec m_Cp_restore 10 = .ok (.aload_n 0, 1) := by decide +kernel
theorem d_Cp_restore_11 : dec m_Cp_restore 11 = .ok (.getfield 26, 3) := by decide +kernel
theorem d_Cp_restore_14 : dec m_Cp_restore 14 = .ok (.aload_n 0, 1) := by decide +kernel
theorem d_Cp_restore_15 : dec m_Cp_restore 15 = .ok (.getfield 10, 3) := by decide +kernel
theorem d_Cp_restore_18 : dec m_Cp_restore 18 = .ok (.invokevirtual 83, 3) := by decide +kernel
theorem d_Cp_restore_21 : dec m_Cp_restore 21 = .ok (.aload_n 0, 1) := by decide +kernel
theorem d_Cp_restore_22 : dec m_Cp_restore 22 = .ok (.getfield 10, 3) := by decide +kernel
theorem d_Cp_restore_25 : dec m_Cp_restore 25 = .ok (.aload_n 0, 1) := by decide +kernel
theorem d_Cp_restore_26 : dec m_Cp_restore 26 = .ok (.getfield 16, 3) := by decide +kernel
theorem d_Cp_restore_29 : dec m_Cp_restore 29 = .ok (.invokevirtual 170, 3) := by decide +kernel
theorem d_Cp_restore_32 : dec m_Cp_restore 32 = .ok (.aload_n 0, 1) := by decide +kernel
theorem d_Cp_restore_33 : dec m_Cp_restore 33 = .ok (.getfield 10, 3) := by decide +kernel
theorem d_Cp_restore_36 : dec m_Cp_restore 36 = .ok (.getfield 64, 3) := by decide +kernel
theorem d_Cp_restore_39 : dec m_Cp_restore 39 = .ok (.getfield 113, 3) := by decide +kernel
theorem d_Cp_restore_42 : dec m_Cp_restore 42 = .ok (.ireturn, 1) := by decide +kernel
theorem d_Cp_position_0 : dec m_Cp_position 0 = .ok (.iload_n 1, 1) := by decide +kernel
theorem d_Cp_position_1 : dec m_Cp_position 1 = .ok (.invokestatic 60, 3) := by decide +kernel
theorem d_Cp_position_4 : dec m_Cp_position 4 = .ok (.ifCond .ne 5, 3) := by decide +kernel
theorem d_Cp_position_7 : dec m_Cp_position 7 = .ok (.iconst (-1), 1) := by decide +kernel
theorem d_Cp_position_8 : dec m_Cp_position 8 = .ok (.ireturn, 1) := by decide +kernel
theorem d_Cp_position_9 : dec m_Cp_position 9 = .ok (.aload_n 0, 1) := by decide +kernel
theorem d_Cp_position_10 : dec m_Cp_position 10 = .ok (.getfield 10, 3) := by decide +kernel
theorem d_Cp_position_13 : dec m_Cp_position 13 = .ok (.getfield 64, 3) := by decide +kernel
theorem d_Cp_position_16 : dec m_Cp_position 16 = .ok (.astore_n 3, 1) := by decide +kernel
theorem d_Cp_position_17 : dec m_Cp_position 17 = .ok (.iload_n 2, 1) := by decide +kernel
theorem d_Cp_position_18 : dec m_Cp_position 18 = .ok (.tableswitch 147 0 7 #[46, 55, 64, 73, 82, 91, 105, 130], 46) := by decide +kernel
theorem d_Cp_position_64 : dec m_Cp_position 64 = .ok (.aload_n 3, 1) := by decide +kernel
theorem d_Cp_position_65 : dec m_Cp_position 65 = .ok (.getfield 80, 3) := by decide +kernel
theorem d_Cp_position_68 : dec m_Cp_position 68 = .ok (.iload_n 1, 1) := by decide +kernel
theorem d_Cp_position_69 : dec m_Cp_position 69 = .ok (.invokevirtual 74, 3) := by decide +kernel
theorem d_Cp_position_72 : dec m_Cp_position 72 = .ok (.ireturn, 1) := by decide +kernel
theorem d_Cp_position_73 : dec m_Cp_position 73 = .ok (.aload_n 3, 1) := by decide +kernel
theorem d_Cp_position_74 : dec m_Cp_position 74 = .ok (.getfield 68, 3) := by decide +kernel
theorem d_Cp_position_77 : dec m_Cp_position 77 = .ok (.iload_n 1, 1) := by decide +kernel
theorem d_Cp_position_78 : dec m_Cp_position 78 = .ok (.invokevirtual 74, 3) := by decide +kernel
theorem d_Cp_position_81 : dec m_Cp_position 81 = .ok (.ireturn, 1) := by decide +kernel
theorem d_Cp_position_82 : dec m_Cp_position 82 = .ok (.aload_n 3, 1) := by decide +kernel
theorem d_Cp_position_83 : dec m_Cp_position 83 = .ok (.getfield 103, 3) := by decide +kernel
theorem d_Cp_position_86 : dec m_Cp_position 86 = .ok (.iload_n 1, 1) := by decide +kernel
theorem d_Cp_position_87 : dec m_Cp_position 87 = .ok (.invokevirtual 74, 3) := by decide +kernel
theorem d_Cp_position_90 : dec m_Cp_position 90 = .ok (.ireturn, 1) := by decide +kernel
theorem d_Cp_position_91 : dec m_Cp_position 91 = .ok (.aload_n 3, 1) := by decide +kernel
theorem d_Cp_position_92 : dec m_Cp_position 92 = .ok (.getfield 106, 3) := by decide +kernel
theorem d_Cp_position_95 : dec m_Cp_position 95 = .ok (.iload_n 1, 1) := by decide +kernel
theorem d_Cp_position_96 : dec m_Cp_position 96 = .ok (.invokevirtual 74, 3) := by decide +kernel
theorem d_Cp_position_99 : dec m_Cp_position 99 = .ok (.ireturn, 1) := by decide +kernel
theorem d_Cp_position_100 : dec m_Cp_position 100 = .ok (.aload_n 3, 1) := by decide +kernel
theorem d_Cp_position_101 : dec m_Cp_position 101 = .ok (.getfield 120, 3) := by decide +kernel
theorem d_Cp_position_104 : dec m_Cp_position 104 = .ok (.iload_n 1, 1) := by decide +kernel
theorem d_Cp_position_105 : dec m_Cp_position 105 = .ok (.invokevirtual 74, 3) := by decide +kernel
theorem d_Cp_position_108 : dec m_Cp_position 108 = .ok (.ireturn, 1) := by decide +kernel
theorem d_Cp_position_109 : dec m_Cp_position 109 = .ok (.aload_n 3, 1) := by decide +kernel
theorem d_Cp_position_110 : dec m_Cp_position 110 = .ok (.iload_n 1, 1) := by decide +kernel
theorem d_Cp_position_111 : dec m_Cp_position 111 = .ok (.invokevirtual 173, 3) := by decide +kernel
theorem d_Cp_position_114 : dec m_Cp_position 114 = .ok (.ifCond .eq 7, 3) := by decide +kernel
theorem d_Cp_position_117 : dec m_Cp_position 117 = .ok (.iconst 1, 1) := by decide +kernel
theorem d_Cp_position_118 : dec m_Cp_position 118 = .ok (.goto 4, 3) := by decide +kernel
theorem d_Cp_position_121 : dec m_Cp_position 121 = .ok (.iconst 0, 1) := by decide +kernel
theorem d_Cp_position_122 : dec m_Cp_position 122 = .ok (.ireturn, 1) := by decide +kernel
theorem d_Cp_position_123 : dec m_Cp_position 123 = .ok (.aload_n 0, 1) := by decide +kernel
theorem d_Cp_position_124 : dec m_Cp_position 124 = .ok (.getfield 49, 3) := by decide +kernel
theorem d_Cp_position_127 : dec m_Cp_position 127 = .ok (.aload_n 3, 1) := by decide +kernel
theorem d_Cp_position_128 : dec m_Cp_position 128 = .ok (.invokevirtual 176, 3) := by decide +kernel
theorem d_Cp_position_131 : dec m_Cp_position 131 = .ok (.aload_n 0, 1) := by decide +kernel
theorem d_Cp_position_132 : dec m_Cp_position 132 = .ok (.getfield 49, 3) := by decide +kernel
theorem d_Cp_position_135 : dec m_Cp_position 135 = .ok (.iload_n 1, 1) := by decide +kernel
theorem d_Cp_position_136 : dec m_Cp_position 136 = .ok (.invokevirtual 179, 3) := by decide +kernel
theorem d_Cp_position_139 : dec m_Cp_position 139 = .ok (.ifCond .eq 7, 3) := by decide +kernel
theorem d_Cp_position_142 : dec m_Cp_position 142 = .ok (.iconst 1, 1) := by decide +kernel
theorem d_Cp_position_143 : dec m_Cp_position 143 = .ok (.goto 4, 3) := by decide +kernel
theorem d_Cp_position_146 : dec m_Cp_position 146 = .ok (.iconst 0, 1) := by decide +kernel
theorem d_Cp_position_147 : dec m_Cp_position 147 = .ok (.ireturn, 1) := by decide +kernel
theorem d_Cp_position_148 : dec m_Cp_position 148 = .ok (.aload_n 0, 1) := by decide +kernel
theorem d_Cp_position_149 : dec m_Cp_position 149 = .ok (.getfield 49, 3) := by decide +kernel
theorem d_Cp_position_152 : dec m_Cp_position 152 = .ok (.aload_n 3, 1) := by decide +kernel
theorem d_Cp_position_153 : dec m_Cp_position 153 = .ok (.invokevirtual 176, 3) := by decide +kernel
theorem d_Cp_position_156 : dec m_Cp_position 156 = .ok (.aload_n 0, 1) := by decide +kernel
theorem d_Cp_position_157 : dec m_Cp_position 157 = .ok (.getfield 49, 3) := by decide +kernel
theorem d_Cp_position_160 : dec m_Cp_position 160 = .ok (.iload_n 1, 1) := by decide +kernel
theorem d_Cp_position_161 : dec m_Cp_position 161 = .ok (.invokevirtual 182, 3) := by decide +kernel
theorem d_Cp_position_164 : dec m_Cp_position 164 = .ok (.ireturn, 1) := by decide +kernel
theorem d_Cp_position_165 : dec m_Cp_position 165 = .ok (.bipush (-2), 2) := by decide +kernel
theorem d_Cp_position_167 : dec m_Cp_position 167 = .ok (.ireturn, 1) := by decide +kernel
theorem d_Cp_move_0 : dec m_Cp_move 0 = .ok (.iload_n 1, 1) := by decide +kernel
theorem d_Cp_move_1 : dec m_Cp_move 1 = .ok (.invokestatic 60, 3) := by decide +kernel
theorem d_Cp_move_4 : dec m_Cp_move 4 = .ok (.ifCond .ne 5, 3) := by decide +kernel
theorem d_Cp_move_7 : dec m_Cp_move 7 = .ok (.iconst (-1), 1) := by decide +kernel
theorem d_Cp_move_8 : dec m_Cp_move 8 = .ok (.ireturn, 1) := by decide +kernel
theorem d_Cp_move_9 : dec m_Cp_move 9 = .ok (.iload_n 2, 1) := by decide +kernel
theorem d_Cp_move_10 : dec m_Cp_move 10 = .ok (.ifCond .ge 6, 3) := by decide +kernel
theorem d_Cp_move_13 : dec m_Cp_move 13 = .ok (.bipush (-2), 2) := by decide +kernel
theorem d_Cp_move_15 : dec m_Cp_move 15 = .ok (.ireturn, 1) := by decide +kernel
theorem d_Cp_move_16 : dec m_Cp_move 16 = .ok (.aload_n 0, 1) := by decide +kernel
theorem d_Cp_move_17 : dec m_Cp_move 17 = .ok (.getfield 10, 3) := by decide +kernel
theorem d_Cp_move_20 : dec m_Cp_move 20 = .ok (.getfield 64, 3) := by decide +kernel
theorem d_Cp_move_23 : dec m_Cp_move 23 = .ok (.iload_n 1, 1) := by decide +kernel
theorem d_Cp_move_24 : dec m_Cp_move 24 = .ok (.iload_n 2, 1) := by decide +kernel
theorem d_Cp_move_25 : dec m_Cp_move 25 = .ok (.invokevirtual 185, 3) := by decide +kernel
theorem d_Cp_move_28 : dec m_Cp_move 28 = .ok (.ireturn, 1) := by decide +kernel
theorem d_Cp_node_0 : dec m_Cp_node 0 = .ok (.aload_n 0, 1) := by decide +kernel
theorem d_Cp_node_1 : dec m_Cp_node 1 = .ok (.getfield 10, 3) := by decide +kernel
theorem d_Cp_node_4 : dec m_Cp_node 4 = .ok (.getfield 91, 3) := by decide +kernel
theorem d_Cp_node_7 : dec m_Cp_node 7 = .ok (.astore_n 3, 1) := by decide +kernel
theorem d_Cp_node_8 : dec m_Cp_node 8 = .ok (.aload_n 3, 1) := by decide +kernel
theorem d_Cp_node_9 : dec m_Cp_node 9 = .ok (.iload_n 1, 1) := by decide +kernel
theorem d_Cp_node_10 : dec m_Cp_node 10 = .ok (.invokevirtual 188, 3) := by decide +kernel
theorem d_Cp_node_13 : dec m_Cp_node 13 = .ok (.ifCond .ne 5, 3) := by decide +kernel
theorem d_Cp_node_16 : dec m_Cp_node 16 = .ok (.iconst (-1), 1) := by decide +kernel
theorem d_Cp_node_17 : dec m_Cp_node 17 = .ok (.ireturn, 1) := by decide +kernel
theorem d_Cp_node_18 : dec m_Cp_node 18 = .ok (.iload_n 2, 1) := by decide +kernel
theorem d_Cp_node_19 : dec m_Cp_node 19 = .ok (.tableswitch 117 0 7 #[45, 54, 63, 72, 81, 90, 99, 108], 45) := by decide +kernel
theorem d_Cp_node_64 : dec m_Cp_node 64 = .ok (.aload_n 3, 1) := by decide +kernel
theorem d_Cp_node_65 : dec m_Cp_node 65 = .ok (.getfield 191, 3) := by decide +kernel
theorem d_Cp_node_68 : dec m_Cp_node 68 = .ok (.iload_n 1, 1) := by decide +kernel
theorem d_Cp_node_69 : dec m_Cp_node 69 = .ok (.invokevirtual 74, 3) := by decide +kernel
theorem d_Cp_node_72 : dec m_Cp_node 72 = .ok (.ireturn, 1) := by decide +kernel
theorem d_Cp_node_73 : dec m_Cp_node 73 = .ok (.aload_n 3, 1) := by decide +kernel
theorem d_Cp_node_74 : dec m_Cp_node 74 = .ok (.getfield 194, 3) := by decide +kernel
theorem d_Cp_node_77 : dec m_Cp_node 77 = .ok (.iload_n 1, 1) := by decide +kernel
theorem d_Cp_node_78 : dec m_Cp_node 78 = .ok (.invokevirtual 74, 3) := by decide +kernel
theorem d_Cp_node_81 : dec m_Cp_node 81 = .ok (.ireturn, 1) := by decide +kernel
theorem d_Cp_node_82 : dec m_Cp_node 82 = .ok (.aload_n 3, 1) := by decide +kernel
theorem d_Cp_node_83 : dec m_Cp_node 83 = .ok (.getfield 141, 3) := by decide +kernel
theorem d_Cp_node_86 : dec m_Cp_node 86 = .ok (.iload_n 1, 1) := by decide +kernel
theorem d_Cp_node_87 : dec m_Cp_node 87 = .ok (.invokevirtual 74, 3) := by decide +kernel
theorem d_Cp_node_90 : dec m_Cp_node 90 = .ok (.ireturn, 1) := by decide +kernel
theorem d_Cp_node_91 : dec m_Cp_node 91 = .ok (.aload_n 3, 1) := by decide +kernel
theorem d_Cp_node_92 : dec m_Cp_node 92 = .ok (.getfield 197, 3) := by decide +kernel
theorem d_Cp_node_95 : dec m_Cp_node 95 = .ok (.iload_n 1, 1) := by decide +kernel
theorem d_Cp_node_96 : dec m_Cp_node 96 = .ok (.invokevirtual 74, 3) := by decide +kernel
theorem d_Cp_node_99 : dec m_Cp_node 99 = .ok (.ireturn, 1) := by decide +kernel
theorem d_Cp_node_100 : dec m_Cp_node 100 = .ok (.aload_n 3, 1) := by decide +kernel
theorem d_Cp_node_101 : dec m_Cp_node 101 = .ok (.getfield 200, 3) := by decide +kernel
theorem d_Cp_node_104 : dec m_Cp_node 104 = .ok (.iload_n 1, 1) := by decide +kernel
theorem d_Cp_node_105 : dec m_Cp_node 105 = .ok (.invokevirtual 74, 3) := by decide +kernel
theorem d_Cp_node_108 : dec m_Cp_node 108 = .ok (.ireturn, 1) := by decide +kernel
theorem d_Cp_node_109 : dec m_Cp_node 109 = .ok (.aload_n 3, 1) := by decide +kernel
theorem d_Cp_node_110 : dec m_Cp_node 110 = .ok (.getfield 203, 3) := by decide +kernel
theorem d_Cp_node_113 : dec m_Cp_node 113 = .ok (.iload_n 1, 1) := by decide +kernel
theorem d_Cp_node_114 : dec m_Cp_node 114 = .ok (.invokevirtual 74, 3) := by decide +kernel
theorem d_Cp_node_117 : dec m_Cp_node 117 = .ok (.ireturn, 1) := by decide +kernel
theorem d_Cp_node_118 : dec m_Cp_node 118 = .ok (.aload_n 3, 1) := by decide +kernel
theorem d_Cp_node_119 : dec m_Cp_node 119 = .ok (.getfield 206, 3) := by decide +kernel
theorem d_Cp_node_122 : dec m_Cp_node 122 = .ok (.iload_n 1, 1) := by decide +kernel
theorem d_Cp_node_123 : dec m_Cp_node 123 = .ok (.invokevirtual 74, 3) := by decide +kernel
theorem d_Cp_node_126 : dec m_Cp_node 126 = .ok (.ireturn, 1) := by decide +kernel
theorem d_Cp_node_127 : dec m_Cp_node 127 = .ok (.aload_n 3, 1) := by decide +kernel
theorem d_Cp_node_128 : dec m_Cp_node 128 = .ok (.getfield 209, 3) := by decide +kernel
theorem d_Cp_node_131 : dec m_Cp_node 131 = .ok (.iload_n 1, 1) := by decide +kernel
theorem d_Cp_node_132 : dec m_Cp_node 132 = .ok (.invokevirtual 74, 3) := by decide +kernel
theorem d_Cp_node_135 : dec m_Cp_node 135 = .ok (.ireturn, 1) := by decide +kernel
theorem d_Cp_node_136 : dec m_Cp_node 136 = .ok (.bipush (-2), 2) := by decide +kernel
theorem d_Cp_node_138 : dec m_Cp_node 138 = .ok (.ireturn, 1) := by decide +kernel
theorem d_Cp_way_0 : dec m_Cp_way 0 = .ok (.iload_n 1, 1) := by decide +kernel
theorem d_Cp_way_1 : dec m_Cp_way 1 = .ok (.ifCond .ge 6, 3) := by decide +kernel
theorem d_Cp_way_4 : dec m_Cp_way 4 = .ok (.bipush (-2), 2) := by decide +kernel
theorem d_Cp_way_6 : dec m_Cp_way 6 = .ok (.ireturn, 1) := by decide +kernel
theorem d_Cp_way_7 : dec m_Cp_way 7 = .ok (.aload_n 0, 1) := by decide +kernel
theorem d_Cp_way_8 : dec m_Cp_way 8 = .ok (.getfield 10, 3) := by decide +kernel
theorem d_Cp_way_11 : dec m_Cp_way 11 = .ok (.getfield 91, 3) := by decide +kernel
theorem d_Cp_way_14 : dec m_Cp_way 14 = .ok (.iload_n 1, 1) := by decide +kernel
theorem d_Cp_way_15 : dec m_Cp_way 15 = .ok (.invokevirtual 212, 3) := by decide +kernel
theorem d_Cp_way_18 : dec m_Cp_way 18 = .ok (.ireturn, 1) := by decide +kernel
theorem d_Cp_proofSize_0 : dec m_Cp_proofSize 0 = .ok (.aload_n 0, 1) := by decide +kernel
theorem d_Cp_proofSize_1 : dec m_Cp_proofSize 1 = .ok (.getfield 10, 3) := by decide +kernel
theorem d_Cp_proofSize_4 : dec m_Cp_proofSize 4 = .ok (.getfield 91, 3) := by decide +kernel
theorem d_Cp_proofSize_7 : dec m_Cp_proofSize 7 = .ok (.invokevirtual 215, 3) := by decide +kernel
theorem d_Cp_proofSize_10 : dec m_Cp_proofSize 10 = .ok (.ifCond .ne 6, 3) := by decide +kernel
theorem d_Cp_proofSize_13 : dec m_Cp_proofSize 13 = .ok (.bipush (-4), 2) := by decide +kernel
theorem d_Cp_proofSize_15 : dec m_Cp_proofSize 15 = .ok (.ireturn, 1) := by decide +kernel
theorem d_Cp_proofSize_16 : dec m_Cp_proofSize 16 = .ok (.aload_n 0, 1) := by decide +kernel
theorem d_Cp_proofSize_17 : dec m_Cp_proofSize 17 = .ok (.getfield 56, 3) := by decide +kernel
theorem d_Cp_proofSize_20 : dec m_Cp_proofSize 20 = .ok (.aload_n 0, 1) := by decide +kernel
theorem d_Cp_proofSize_21 : dec m_Cp_proofSize 21 = .ok (.getfield 10, 3) := by decide +kernel
theorem d_Cp_proofSize_24 : dec m_Cp_proofSize 24 = .ok (.getfield 91, 3) := by decide +kernel
theorem d_Cp_proofSize_27 : dec m_Cp_proofSize 27 = .ok (.invokevirtual 222, 3) := by decide +kernel
theorem d_Cp_proofSize_30 : dec m_Cp_proofSize 30 = .ok (.ireturn, 1) := by decide +kernel
theorem d_Cp_count_0 : dec m_Cp_count 0 = .ok (.iload_n 1, 1) := by decide +kernel
theorem d_Cp_count_1 : dec m_Cp_count 1 = .ok (.iconst 2, 1) := by decide +kernel
theorem d_Cp_count_2 : dec m_Cp_count 2 = .ok (.if_icmp .lt 39, 3) := by decide +kernel
theorem d_Cp_count_5 : dec m_Cp_count 5 = .ok (.iload_n 1, 1) := by decide +kernel
theorem d_Cp_count_6 : dec m_Cp_count 6 = .ok (.bipush 7, 2) := by decide +kernel
theorem d_Cp_count_8 : dec m_Cp_count 8 = .ok (.if_icmp .gt 33, 3) := by decide +kernel
theorem d_Cp_count_11 : dec m_Cp_count 11 = .ok (.aload_n 0, 1) := by decide +kernel
theorem d_Cp_count_12 : dec m_Cp_count 12 = .ok (.getfield 10, 3) := by decide +kernel
theorem d_Cp_count_15 : dec m_Cp_count 15 = .ok (.getfield 91, 3) := by decide +kernel
theorem d_Cp_count_18 : dec m_Cp_count 18 = .ok (.invokevirtual 144, 3) := by decide +kernel
theorem d_Cp_count_21 : dec m_Cp_count 21 = .ok (.ifCond .eq 8, 3) := by decide +kernel
theorem d_Cp_count_24 : dec m_Cp_count 24 = .ok (.bipush (-5), 2) := by decide +kernel
theorem d_Cp_count_26 : dec m_Cp_count 26 = .ok (.goto 14, 3) := by decide +kernel
theorem d_Cp_count_29 : dec m_Cp_count 29 = .ok (.aload_n 0, 1) := by decide +kernel
theorem d_Cp_count_30 : dec m_Cp_count 30 = .ok (.getfield 10, 3) := by decide +kernel
theorem d_Cp_count_33 : dec m_Cp_count 33 = .ok (.getfield 91, 3) := by decide +kernel
theorem d_Cp_count_36 : dec m_Cp_count 36 = .ok (.iload_n 1, 1) := by decide +kernel
theorem d_Cp_count_37 : dec m_Cp_count 37 = .ok (.invokestatic 226, 3) := by decide +kernel
theorem d_Cp_count_40 : dec m_Cp_count 40 = .ok (.ireturn, 1) := by decide +kernel
theorem d_Cp_count_41 : dec m_Cp_count 41 = .ok (.iload_n 1, 1) := by decide +kernel
theorem d_Cp_count_42 : dec m_Cp_count 42 = .ok (.tableswitch 118 0 10 #[58, 69, 118, 118, 118, 118, 118, 118, 80, 102, 110], 58) := by decide +kernel
theorem d_Cp_count_100 : dec m_Cp_count 100 = .ok (.aload_n 0, 1) := by decide +kernel
theorem d_Cp_count_101 : dec m_Cp_count 101 = .ok (.getfield 10, 3) := by decide +kernel
theorem d_Cp_count_104 : dec m_Cp_count 104 = .ok (.getfield 64, 3) := by decide +kernel
theorem d_Cp_count_107 : dec m_Cp_count 107 = .ok (.getfield 113, 3) := by decide +kernel
theorem d_Cp_count_110 : dec m_Cp_count 110 = .ok (.ireturn, 1) := by decide +kernel
theorem d_Cp_count_111 : dec m_Cp_count 111 = .ok (.aload_n 0, 1) := by decide +kernel
theorem d_Cp_count_112 : dec m_Cp_count 112 = .ok (.getfield 10, 3) := by decide +kernel
theorem d_Cp_count_115 : dec m_Cp_count 115 = .ok (.getfield 91, 3) := by decide +kernel
theorem d_Cp_count_118 : dec m_Cp_count 118 = .ok (.getfield 229, 3) := by decide +kernel
theorem d_Cp_count_121 : dec m_Cp_count 121 = .ok (.ireturn, 1) := by decide +kernel
theorem d_Cp_count_122 : dec m_Cp_count 122 = .ok (.aload_n 0, 1) := by decide +kernel
theorem d_Cp_count_123 : dec m_Cp_count 123 = .ok (.getfield 49, 3) := by decide +kernel
theorem d_Cp_count_126 : dec m_Cp_count 126 = .ok (.aload_n 0, 1) := by decide +kernel
theorem d_Cp_count_127 : dec m_Cp_count 127 = .ok (.getfield 10, 3) := by decide +kernel
theorem d_Cp_count_130 : dec m_Cp_count 130 = .ok (.getfield 64, 3) := by decide +kernel
theorem d_Cp_count_133 : dec m_Cp_count 133 = .ok (.invokevirtual 176, 3) := by decide +kernel
theorem d_Cp_count_136 : dec m_Cp_count 136 = .ok (.aload_n 0, 1) := by decide +kernel
theorem d_Cp_count_137 : dec m_Cp_count 137 = .ok (.getfield 49, 3) := by decide +kernel
theorem d_Cp_count_140 : dec m_Cp_count 140 = .ok (.invokevirtual 230, 3) := by decide +kernel
theorem d_Cp_count_143 : dec m_Cp_count 143 = .ok (.ireturn, 1) := by decide +kernel
theorem d_Cp_count_144 : dec m_Cp_count 144 = .ok (.aload_n 0, 1) := by decide +kernel
theorem d_Cp_count_145 : dec m_Cp_count 145 = .ok (.getfield 26, 3) := by decide +kernel
theorem d_Cp_count_148 : dec m_Cp_count 148 = .ok (.getfield 164, 3) := by decide +kernel
theorem d_Cp_count_151 : dec m_Cp_count 151 = .ok (.ireturn, 1) := by decide +kernel
theorem d_Cp_count_152 : dec m_Cp_count 152 = .ok (.aload_n 0, 1) := by decide +kernel
theorem d_Cp_count_153 : dec m_Cp_count 153 = .ok (.getfield 33, 3) := by decide +kernel
theorem d_Cp_count_156 : dec m_Cp_count 156 = .ok (.getfield 160, 3) := by decide +kernel
theorem d_Cp_count_159 : dec m_Cp_count 159 = .ok (.ireturn, 1) := by decide +kernel
theorem d_Cp_count_160 : dec m_Cp_count 160 = .ok (.bipush (-2), 2) := by decide +kernel
theorem d_Cp_count_162 : dec m_Cp_count 162 = .ok (.ireturn, 1) := by decide +kernel
theorem d_Cp_tellTree_0 : dec m_Cp_tellTree 0 = .ok (.iload_n 1, 1) := by decide +kernel
theorem d_Cp_tellTree_1 : dec m_Cp_tellTree 1 = .ok (.tableswitch 68 2 6 #[35, 44, 53, 58, 63], 35) := by decide +kernel
theorem d_Cp_tellTree_36 : dec m_Cp_tellTree 36 = .ok (.aload_n 0, 1) := by decide +kernel
theorem d_Cp_tellTree_37 : dec m_Cp_tellTree 37 = .ok (.getfield 141, 3) := by decide +kernel
theorem d_Cp_tellTree_40 : dec m_Cp_tellTree 40 = .ok (.iconst 0, 1) := by decide +kernel
theorem d_Cp_tellTree_41 : dec m_Cp_tellTree 41 = .ok (.invokevirtual 74, 3) := by decide +kernel
theorem d_Cp_tellTree_44 : dec m_Cp_tellTree 44 = .ok (.ireturn, 1) := by decide +kernel
theorem d_Cp_tellTree_45 : dec m_Cp_tellTree 45 = .ok (.aload_n 0, 1) := by decide +kernel
theorem d_Cp_tellTree_46 : dec m_Cp_tellTree 46 = .ok (.getfield 197, 3) := by decide +kernel
theorem d_Cp_tellTree_49 : dec m_Cp_tellTree 49 = .ok (.iconst 0, 1) := by decide +kernel
theorem d_Cp_tellTree_50 : dec m_Cp_tellTree 50 = .ok (.invokevirtual 74, 3) := by decide +kernel
theorem d_Cp_tellTree_53 : dec m_Cp_tellTree 53 = .ok (.ireturn, 1) := by decide +kernel
theorem d_Cp_tellTree_54 : dec m_Cp_tellTree 54 = .ok (.aload_n 0, 1) := by decide +kernel
theorem d_Cp_tellTree_55 : dec m_Cp_tellTree 55 = .ok (.invokevirtual 215, 3) := by decide +kernel
theorem d_Cp_tellTree_58 : dec m_Cp_tellTree 58 = .ok (.ireturn, 1) := by decide +kernel
theorem d_Cp_tellTree_59 : dec m_Cp_tellTree 59 = .ok (.aload_n 0, 1) := by decide +kernel
theorem d_Cp_tellTree_60 : dec m_Cp_tellTree 60 = .ok (.invokevirtual 233, 3) := by decide +kernel
theorem d_Cp_tellTree_63 : dec m_Cp_tellTree 63 = .ok (.ireturn, 1) := by decide +kernel
theorem d_Cp_tellTree_64 : dec m_Cp_tellTree 64 = .ok (.aload_n 0, 1) := by decide +kernel
theorem d_Cp_tellTree_65 : dec m_Cp_tellTree 65 = .ok (.invokevirtual 236, 3) := by decide +kernel
theorem d_Cp_tellTree_68 : dec m_Cp_tellTree 68 = .ok (.ireturn, 1) := by decide +kernel
theorem d_Cp_tellTree_69 : dec m_Cp_tellTree 69 = .ok (.aload_n 0, 1) := by decide +kernel
theorem d_Cp_tellTree_70 : dec m_Cp_tellTree 70 = .ok (.invokevirtual 239, 3) := by decide +kernel
theorem d_Cp_tellTree_73 : dec m_Cp_tellTree 73 = .ok (.ireturn, 1) := by decide +kernel
theorem d_Cp_isPosition_0 : dec m_Cp_isPosition 0 = .ok (.iload_n 0, 1) := by decide +kernel
theorem d_Cp_isPosition_1 : dec m_Cp_isPosition 1 = .ok (.ifCond .lt 13, 3) := by decide +kernel
theorem d_Cp_isPosition_4 : dec m_Cp_isPosition 4 = .ok (.iload_n 0, 1) := by decide +kernel
theorem d_Cp_isPosition_5 : dec m_Cp_isPosition 5 = .ok (.bipush 20, 2) := by decide +kernel
theorem d_Cp_isPosition_7 : dec m_Cp_isPosition 7 = .ok (.if_icmp .ge 7, 3) := by decide +kernel
theorem d_Cp_isPosition_10 : dec m_Cp_isPosition 10 = .ok (.iconst 1, 1) := by decide +kernel
theorem d_Cp_isPosition_11 : dec m_Cp_isPosition 11 = .ok (.goto 4, 3) := by decide +kernel
theorem d_Cp_isPosition_14 : dec m_Cp_isPosition 14 = .ok (.iconst 0, 1) := by decide +kernel
theorem d_Cp_isPosition_15 : dec m_Cp_isPosition 15 = .ok (.ireturn, 1) := by decide +kernel
theorem d_Cp_isGuess_0 : dec m_Cp_isGuess 0 = .ok (.iload_n 0, 1) := by decide +kernel
theorem d_Cp_isGuess_1 : dec m_Cp_isGuess 1 = .ok (.iconst 1, 1) := by decide +kernel
theorem d_Cp_isGuess_2 : dec m_Cp_isGuess 2 = .ok (.if_icmp .lt 13, 3) := by decide +kernel
theorem d_Cp_isGuess_5 : dec m_Cp_isGuess 5 = .ok (.iload_n 0, 1) := by decide +kernel
theorem d_Cp_isGuess_6 : dec m_Cp_isGuess 6 = .ok (.bipush 9, 2) := by decide +kernel
theorem d_Cp_isGuess_8 : dec m_Cp_isGuess 8 = .ok (.if_icmp .gt 7, 3) := by decide +kernel
theorem d_Cp_isGuess_11 : dec m_Cp_isGuess 11 = .ok (.iconst 1, 1) := by decide +kernel
theorem d_Cp_isGuess_12 : dec m_Cp_isGuess 12 = .ok (.goto 4, 3) := by decide +kernel
theorem d_Cp_isGuess_15 : dec m_Cp_isGuess 15 = .ok (.iconst 0, 1) := by decide +kernel
theorem d_Cp_isGuess_16 : dec m_Cp_isGuess 16 = .ok (.ireturn, 1) := by decide +kernel
theorem d_Lw_cell_0 : dec m_Lw_cell 0 = .ok (.iload_n 1, 1) := by decide +kernel
theorem d_Lw_cell_1 : dec m_Lw_cell 1 = .ok (.aload_n 0, 1) := by decide +kernel
theorem d_Lw_cell_2 : dec m_Lw_cell 2 = .ok (.arraylength, 1) := by decide +kernel
theorem d_Lw_cell_3 : dec m_Lw_cell 3 = .ok (.if_icmp .ge 9, 3) := by decide +kernel
theorem d_Lw_cell_6 : dec m_Lw_cell 6 = .ok (.aload_n 0, 1) := by decide +kernel
theorem d_Lw_cell_7 : dec m_Lw_cell 7 = .ok (.iload_n 1, 1) := by decide +kernel
theorem d_Lw_cell_8 : dec m_Lw_cell 8 = .ok (.iaload, 1) := by decide +kernel
theorem d_Lw_cell_9 : dec m_Lw_cell 9 = .ok (.goto 15, 3) := by decide +kernel
theorem d_Lw_cell_12 : dec m_Lw_cell 12 = .ok (.sipush 7919, 3) := by decide +kernel
theorem d_Lw_cell_15 : dec m_Lw_cell 15 = .ok (.iload_n 1, 1) := by decide +kernel
theorem d_Lw_cell_16 : dec m_Lw_cell 16 = .ok (.iconst 3, 1) := by decide +kernel
theorem d_Lw_cell_17 : dec m_Lw_cell 17 = .ok (.iadd, 1) := by decide +kernel
theorem d_Lw_cell_18 : dec m_Lw_cell 18 = .ok (.imul, 1) := by decide +kernel
theorem d_Lw_cell_19 : dec m_Lw_cell 19 = .ok (.iload_n 1, 1) := by decide +kernel
theorem d_Lw_cell_20 : dec m_Lw_cell 20 = .ok (.bipush 11, 2) := by decide +kernel
theorem d_Lw_cell_22 : dec m_Lw_cell 22 = .ok (.iadd, 1) := by decide +kernel
theorem d_Lw_cell_23 : dec m_Lw_cell 23 = .ok (.imul, 1) := by decide +kernel
theorem d_Lw_cell_24 : dec m_Lw_cell 24 = .ok (.ireturn, 1) := by decide +kernel
theorem d_Lw_low_0 : dec m_Lw_low 0 = .ok (.iload_n 0, 1) := by decide +kernel
theorem d_Lw_low_1 : dec m_Lw_low 1 = .ok (.ldc 7, 2) := by decide +kernel
theorem d_Lw_low_3 : dec m_Lw_low 3 = .ok (.iand, 1) := by decide +kernel
theorem d_Lw_low_4 : dec m_Lw_low 4 = .ok (.iload_n 1, 1) := by decide +kernel
theorem d_Lw_low_5 : dec m_Lw_low 5 = .ok (.irem, 1) := by decide +kernel
theorem d_Lw_low_6 : dec m_Lw_low 6 = .ok (.ireturn, 1) := by decide +kernel
theorem d_Lw_digest_0 : dec m_Lw_digest 0 = .ok (.ldc2_w 8, 3) := by decide +kernel
theorem d_Lw_digest_3 : dec m_Lw_digest 3 = .ok (.lstore_n 1, 1) := by decide +kernel
theorem d_Lw_digest_4 : dec m_Lw_digest 4 = .ok (.iconst 0, 1) := by decide +kernel
theorem d_Lw_digest_5 : dec m_Lw_digest 5 = .ok (.istore_n 3, 1) := by decide +kernel
theorem d_Lw_digest_6 : dec m_Lw_digest 6 = .ok (.iload_n 3, 1) := by decide +kernel
theorem d_Lw_digest_7 : dec m_Lw_digest 7 = .ok (.bipush 9, 2) := by decide +kernel
theorem d_Lw_digest_9 : dec m_Lw_digest 9 = .ok (.if_icmp .ge 22, 3) := by decide +kernel
theorem d_Lw_digest_12 : dec m_Lw_digest 12 = .ok (.ldc2_w 10, 3) := by decide +kernel
theorem d_Lw_digest_15 : dec m_Lw_digest 15 = .ok (.lload_n 1, 1) := by decide +kernel
theorem d_Lw_digest_16 : dec m_Lw_digest 16 = .ok (.lmul, 1) := by decide +kernel
theorem d_Lw_digest_17 : dec m_Lw_digest 17 = .ok (.aload_n 0, 1) := by decide +kernel
theorem d_Lw_digest_18 : dec m_Lw_digest 18 = .ok (.iload_n 3, 1) := by decide +kernel
theorem d_Lw_digest_19 : dec m_Lw_digest 19 = .ok (.invokevirtual 12, 3) := by decide +kernel
theorem d_Lw_digest_22 : dec m_Lw_digest 22 = .ok (.i2l, 1) := by decide +kernel
theorem d_Lw_digest_23 : dec m_Lw_digest 23 = .ok (.ladd, 1) := by decide +kernel
theorem d_Lw_digest_24 : dec m_Lw_digest 24 = .ok (.lstore_n 1, 1) := by decide +kernel
theorem d_Lw_digest_25 : dec m_Lw_digest 25 = .ok (.iinc 3 1, 3) := by decide +kernel
theorem d_Lw_digest_28 : dec m_Lw_digest 28 = .ok (.goto (-22), 3) := by decide +kernel
theorem d_Lw_digest_31 : dec m_Lw_digest 31 = .ok (.iconst 0, 1) := by decide +kernel
theorem d_Lw_digest_32 : dec m_Lw_digest 32 = .ok (.istore_n 3, 1) := by decide +kernel
theorem d_Lw_digest_33 : dec m_Lw_digest 33 = .ok (.iload_n 3, 1) := by decide +kernel
theorem d_Lw_digest_34 : dec m_Lw_digest 34 = .ok (.bipush 20, 2) := by decide +kernel
theorem d_Lw_digest_36 : dec m_Lw_digest 36 = .ok (.if_icmp .ge 74, 3) := by decide +kernel
theorem d_Lw_digest_39 : dec m_Lw_digest 39 = .ok (.iconst 0, 1) := by decide +kernel
theorem d_Lw_digest_40 : dec m_Lw_digest 40 = .ok (.istore 4, 2) := by decide +kernel
theorem d_Lw_digest_42 : dec m_Lw_digest 42 = .ok (.iload 4, 2) := by decide +kernel
theorem d_Lw_digest_44 : dec m_Lw_digest 44 = .ok (.iconst 5, 1) := by decide +kernel
theorem d_Lw_digest_45 : dec m_Lw_digest 45 = .ok (.if_icmp .ge 24, 3) := by decide +kernel
theorem d_Lw_digest_48 : dec m_Lw_digest 48 = .ok (.ldc2_w 10, 3) := by decide +kernel
theorem d_Lw_digest_51 : dec m_Lw_digest 51 = .ok (.lload_n 1, 1) := by decide +kernel
theorem d_Lw_digest_52 : dec m_Lw_digest 52 = .ok (.lmul, 1) := by decide +kernel
theorem d_Lw_digest_53 : dec m_Lw_digest 53 = .ok (.aload_n 0, 1) := by decide +kernel
theorem d_Lw_digest_54 : dec m_Lw_digest 54 = .ok (.iload_n 3, 1) := by decide +kernel
theorem d_Lw_digest_55 : dec m_Lw_digest 55 = .ok (.iload 4, 2) := by decide +kernel
theorem d_Lw_digest_57 : dec m_Lw_digest 57 = .ok (.invokevirtual 18, 3) := by decide +kernel
theorem d_Lw_digest_60 : dec m_Lw_digest 60 = .ok (.i2l, 1) := by decide +kernel
theorem d_Lw_digest_61 : dec m_Lw_digest 61 = .ok (.ladd, 1) := by decide +kernel
theorem d_Lw_digest_62 : dec m_Lw_digest 62 = .ok (.lstore_n 1, 1) := by decide +kernel
theorem d_Lw_digest_63 : dec m_Lw_digest 63 = .ok (.iinc 4 1, 3) := by decide +kernel
theorem d_Lw_digest_66 : dec m_Lw_digest 66 = .ok (.goto (-24), 3) := by decide +kernel
theorem d_Lw_digest_69 : dec m_Lw_digest 69 = .ok (.iconst 0, 1) := by decide +kernel
theorem d_Lw_digest_70 : dec m_Lw_digest 70 = .ok (.istore 4, 2) := by decide +kernel
theorem d_Lw_digest_72 : dec m_Lw_digest 72 = .ok (.iload 4, 2) := by decide +kernel
theorem d_Lw_digest_74 : dec m_Lw_digest 74 = .ok (.aload_n 0, 1) := by decide +kernel
theorem d_Lw_digest_75 : dec m_Lw_digest 75 = .ok (.iload_n 3, 1) := by decide +kernel
theorem d_Lw_digest_76 : dec m_Lw_digest 76 = .ok (.iconst 4, 1) := by decide +kernel
theorem d_Lw_digest_77 : dec m_Lw_digest 77 = .ok (.invokevirtual 18, 3) := by decide +kernel
theorem d_Lw_digest_80 : dec m_Lw_digest 80 = .ok (.if_icmp .ge 24, 3) := by decide +kernel
theorem d_Lw_digest_83 : dec m_Lw_digest 83 = .ok (.ldc2_w 10, 3) := by decide +kernel
theorem d_Lw_digest_86 : dec m_Lw_digest 86 = .ok (.lload_n 1, 1) := by decide +kernel
theorem d_Lw_digest_87 : dec m_Lw_digest 87 = .ok (.lmul, 1) := by decide +kernel
theorem d_Lw_digest_88 : dec m_Lw_digest 88 = .ok (.aload_n 0, 1) := by decide +kernel
theorem d_Lw_digest_89 : dec m_Lw_digest 89 = .ok (.iload_n 3, 1) := by decide +kernel
theorem d_Lw_digest_90 : dec m_Lw_digest 90 = .ok (.iload 4, 2) := by decide +kernel
theorem d_Lw_digest_92 : dec m_Lw_digest 92 = .ok (.invokevirtual 22, 3) := by decide +kernel
theorem d_Lw_digest_95 : dec m_Lw_digest 95 = .ok (.i2l, 1) := by decide +kernel
theorem d_Lw_digest_96 : dec m_Lw_digest 96 = .ok (.ladd, 1) := by decide +kernel
theorem d_Lw_digest_97 : dec m_Lw_digest 97 = .ok (.lstore_n 1, 1) := by decide +kernel
theorem d_Lw_digest_98 : dec m_Lw_digest 98 = .ok (.iinc 4 1, 3) := by decide +kernel
theorem d_Lw_digest_101 : dec m_Lw_digest 101 = .ok (.goto (-29), 3) := by decide +kernel
theorem d_Lw_digest_104 : dec m_Lw_digest 104 = .ok (.iinc 3 1, 3) := by decide +kernel
theorem d_Lw_digest_107 : dec m_Lw_digest 107 = .ok (.goto (-74), 3) := by decide +kernel
theorem d_Lw_digest_110 : dec m_Lw_digest 110 = .ok (.iconst 0, 1) := by decide +kernel
theorem d_Lw_digest_111 : dec m_Lw_digest 111 = .ok (.istore_n 3, 1) := by decide +kernel
theorem d_Lw_digest_112 : dec m_Lw_digest 112 = .ok (.iload_n 3, 1) := by decide +kernel
theorem d_Lw_digest_113 : dec m_Lw_digest 113 = .ok (.aload_n 0, 1) := by decide +kernel
theorem d_Lw_digest_114 : dec m_Lw_digest 114 = .ok (.iconst 1, 1) := by decide +kernel
theorem d_Lw_digest_115 : dec m_Lw_digest 115 = .ok (.invokevirtual 12, 3) := by decide +kernel
theorem d_Lw_digest_118 : dec m_Lw_digest 118 = .ok (.if_icmp .ge 46, 3) := by decide +kernel
theorem d_Lw_digest_121 : dec m_Lw_digest 121 = .ok (.iconst 0, 1) := by decide +kernel
theorem d_Lw_digest_122 : dec m_Lw_digest 122 = .ok (.istore 4, 2) := by decide +kernel
theorem d_Lw_digest_124 : dec m_Lw_digest 124 = .ok (.iload 4, 2) := by decide +kernel
theorem d_Lw_digest_126 : dec m_Lw_digest 126 = .ok (.bipush 6, 2) := by decide +kernel
theorem d_Lw_digest_128 : dec m_Lw_digest 128 = .ok (.if_icmp .ge 24, 3) := by decide +kernel
theorem d_Lw_digest_131 : dec m_Lw_digest 131 = .ok (.ldc2_w 10, 3) := by decide +kernel
theorem d_Lw_digest_134 : dec m_Lw_digest 134 = .ok (.lload_n 1, 1) := by decide +kernel
theorem d_Lw_digest_135 : dec m_Lw_digest 135 = .ok (.lmul, 1) := by decide +kernel
theorem d_Lw_digest_136 : dec m_Lw_digest 136 = .ok (.aload_n 0, 1) := by decide +kernel
theorem d_Lw_digest_137 : dec m_Lw_digest 137 = .ok (.iload_n 3, 1) := by decide +kernel
theorem d_Lw_digest_138 : dec m_Lw_digest 138 = .ok (.iload 4, 2) := by decide +kernel
theorem d_Lw_digest_140 : dec m_Lw_digest 140 = .ok (.invokevirtual 25, 3) := by decide +kernel
theorem d_Lw_digest_143 : dec m_Lw_digest 143 = .ok (.i2l, 1) := by decide +kernel
theorem d_Lw_digest_144 : dec m_Lw_digest 144 = .ok (.ladd, 1) := by decide +kernel
theorem d_Lw_digest_145 : dec m_Lw_digest 145 = .ok (.lstore_n 1, 1) := by decide +kernel
theorem d_Lw_digest_146 : dec m_Lw_digest 146 = .ok (.iinc 4 1, 3) := by decide +kernel
theorem d_Lw_digest_149 : dec m_Lw_digest 149 = .ok (.goto (-25), 3) := by decide +kernel
theorem d_Lw_digest_152 : dec m_Lw_digest 152 = .ok (.iload_n 3, 1) := by decide +kernel
theorem d_Lw_digest_153 : dec m_Lw_digest 153 = .ok (.iconst 1, 1) := by decide +kernel
theorem d_Lw_digest_154 : dec m_Lw_digest 154 = .ok (.iload_n 3, 1) := by decide +kernel
theorem d_Lw_digest_155 : dec m_Lw_digest 155 = .ok (.bipush 20, 2) := by decide +kernel
theorem d_Lw_digest_157 : dec m_Lw_digest 157 = .ok (.idiv, 1) := by decide +kernel
theorem d_Lw_digest_158 : dec m_Lw_digest 158 = .ok (.iadd, 1) := by decide +kernel
theorem d_Lw_digest_159 : dec m_Lw_digest 159 = .ok (.iadd, 1) := by decide +kernel
theorem d_Lw_digest_160 : dec m_Lw_digest 160 = .ok (.istore_n 3, 1) := by decide +kernel
theorem d_Lw_digest_161 : dec m_Lw_digest 161 = .ok (.goto (-49), 3) := by decide +kernel
theorem d_Lw_digest_164 : dec m_Lw_digest 164 = .ok (.lload_n 1, 1) := by decide +kernel
theorem d_Lw_digest_165 : dec m_Lw_digest 165 = .ok (.lreturn, 1) := by decide +kernel
theorem d_Lw_act_0 : dec m_Lw_act 0 = .ok (.iload_n 1, 1) := by decide +kernel
theorem d_Lw_act_1 : dec m_Lw_act 1 = .ok (.iconst 4, 1) := by decide +kernel
theorem d_Lw_act_2 : dec m_Lw_act 2 = .ok (.ishr, 1) := by decide +kernel
theorem d_Lw_act_3 : dec m_Lw_act 3 = .ok (.iload_n 2, 1) := by decide +kernel
theorem d_Lw_act_4 : dec m_Lw_act 4 = .ok (.bipush 20, 2) := by decide +kernel
theorem d_Lw_act_6 : dec m_Lw_act 6 = .ok (.ishr, 1) := by decide +kernel
theorem d_Lw_act_7 : dec m_Lw_act 7 = .ok (.bipush 15, 2) := by decide +kernel
theorem d_Lw_act_9 : dec m_Lw_act 9 = .ok (.iand, 1) := by decide +kernel
theorem d_Lw_act_10 : dec m_Lw_act 10 = .ok (.ifCond .ne 8, 3) := by decide +kernel
theorem d_Lw_act_13 : dec m_Lw_act 13 = .ok (.bipush 22, 2) := by decide +kernel
theorem d_Lw_act_15 : dec m_Lw_act 15 = .ok (.goto 5, 3) := by decide +kernel
theorem d_Lw_act_18 : dec m_Lw_act 18 = .ok (.bipush 8, 2) := by decide +kernel
theorem d_Lw_act_20 : dec m_Lw_act 20 = .ok (.invokestatic 28, 3) := by decide +kernel
theorem d_Lw_act_23 : dec m_Lw_act 23 = .ok (.istore_n 3, 1) := by decide +kernel
theorem d_Lw_act_24 : dec m_Lw_act 24 = .ok (.iload_n 2, 1) := by decide +kernel
theorem d_Lw_act_25 : dec m_Lw_act 25 = .ok (.iload_n 2, 1) := by decide +kernel
theorem d_Lw_act_26 : dec m_Lw_act 26 = .ok (.bipush 20, 2) := by decide +kernel
theorem d_Lw_act_28 : dec m_Lw_act 28 = .ok (.ishr, 1) := by decide +kernel
theorem d_Lw_act_29 : dec m_Lw_act 29 = .ok (.bipush 15, 2) := by decide +kernel
theorem d_Lw_act_31 : dec m_Lw_act 31 = .ok (.iand, 1) := by decide +kernel
theorem d_Lw_act_32 : dec m_Lw_act 32 = .ok (.iconst 1, 1) := by decide +kernel
theorem d_Lw_act_33 : dec m_Lw_act 33 = .ok (.if_icmp .ne 8, 3) := by decide +kernel
theorem d_Lw_act_36 : dec m_Lw_act 36 = .ok (.bipush 22, 2) := by decide +kernel
theorem d_Lw_act_38 : dec m_Lw_act 38 = .ok (.goto 5, 3) := by decide +kernel
theorem d_Lw_act_41 : dec m_Lw_act 41 = .ok (.bipush 8, 2) := by decide +kernel
theorem d_Lw_act_43 : dec m_Lw_act 43 = .ok (.invokestatic 28, 3) := by decide +kernel
theorem d_Lw_act_46 : dec m_Lw_act 46 = .ok (.istore 4, 2) := by decide +kernel
theorem d_Lw_act_48 : dec m_Lw_act 48 = .ok (.iload_n 1, 1) := by decide +kernel
theorem d_Lw_act_49 : dec m_Lw_act 49 = .ok (.bipush 15, 2) := by decide +kernel
theorem d_Lw_act_51 : dec m_Lw_act 51 = .ok (.iand, 1) := by decide +kernel
theorem d_Lw_act_52 : dec m_Lw_act 52 = .ok (.tableswitch 138 0 10 #[60, 60, 60, 60, 60, 60, 68, 76, 94, 132, 132], 60) := by decide +kernel
theorem d_Lw_act_112 : dec m_Lw_act 112 = .ok (.aload_n 0, 1) := by decide +kernel
theorem d_Lw_act_113 : dec m_Lw_act 113 = .ok (.iload_n 3, 1) := by decide +kernel
theorem d_Lw_act_114 : dec m_Lw_act 114 = .ok (.iload 4, 2) := by decide +kernel
theorem d_Lw_act_116 : dec m_Lw_act 116 = .ok (.invokevirtual 33, 3) := by decide +kernel
theorem d_Lw_act_119 : dec m_Lw_act 119 = .ok (.ireturn, 1) := by decide +kernel
theorem d_Lw_act_120 : dec m_Lw_act 120 = .ok (.aload_n 0, 1) := by decide +kernel
theorem d_Lw_act_121 : dec m_Lw_act 121 = .ok (.iload_n 3, 1) := by decide +kernel
theorem d_Lw_act_122 : dec m_Lw_act 122 = .ok (.iload 4, 2) := by decide +kernel
theorem d_Lw_act_124 : dec m_Lw_act 124 = .ok (.invokevirtual 36, 3) := by decide +kernel
theorem d_Lw_act_127 : dec m_Lw_act 127 = .ok (.ireturn, 1) := by decide +kernel
theorem d_Lw_act_128 : dec m_Lw_act 128 = .ok (.aload_n 0, 1) := by decide +kernel
theorem d_Lw_act_129 : dec m_Lw_act 129 = .ok (.iload_n 3, 1) := by decide +kernel
theorem d_Lw_act_130 : dec m_Lw_act 130 = .ok (.iload_n 2, 1) := by decide +kernel
theorem d_Lw_act_131 : dec m_Lw_act 131 = .ok (.iconst 3, 1) := by decide +kernel
theorem d_Lw_act_132 : dec m_Lw_act 132 = .ok (.invokestatic 28, 3) := by decide +kernel
theorem d_Lw_act_135 : dec m_Lw_act 135 = .ok (.iload_n 2, 1) := by decide +kernel
theorem d_Lw_act_136 : dec m_Lw_act 136 = .ok (.iconst 2, 1) := by decide +kernel
theorem d_Lw_act_137 : dec m_Lw_act 137 = .ok (.ishr, 1) := by decide +kernel
theorem d_Lw_act_138 : dec m_Lw_act 138 = .ok (.iconst 4, 1) := by decide +kernel
theorem d_Lw_act_139 : dec m_Lw_act 139 = .ok (.invokestatic 28, 3) := by decide +kernel
theorem d_Lw_act_142 : dec m_Lw_act 142 = .ok (.invokevirtual 39, 3) := by decide +kernel
theorem d_Lw_act_145 : dec m_Lw_act 145 = .ok (.ireturn, 1) := by decide +kernel
theorem d_Lw_act_146 : dec m_Lw_act 146 = .ok (.iload_n 2, 1) := by decide +kernel
theorem d_Lw_act_147 : dec m_Lw_act 147 = .ok (.iconst 3, 1) := by decide +kernel
theorem d_Lw_act_148 : dec m_Lw_act 148 = .ok (.iand, 1) := by decide +kernel
theorem d_Lw_act_149 : dec m_Lw_act 149 = .ok (.ifCond .ne 10, 3) := by decide +kernel
theorem d_Lw_act_152 : dec m_Lw_act 152 = .ok (.aload_n 0, 1) := by decide +kernel
theorem d_Lw_act_153 : dec m_Lw_act 153 = .ok (.invokevirtual 43, 3) := by decide +kernel
theorem d_Lw_act_156 : dec m_Lw_act 156 = .ok (.goto 27, 3) := by decide +kernel
theorem d_Lw_act_159 : dec m_Lw_act 159 = .ok (.aload_n 0, 1) := by decide +kernel
theorem d_Lw_act_160 : dec m_Lw_act 160 = .ok (.iload_n 3, 1) := by decide +kernel
theorem d_Lw_act_161 : dec m_Lw_act 161 = .ok (.iload_n 2, 1) := by decide +kernel
theorem d_Lw_act_162 : dec m_Lw_act 162 = .ok (.iconst 2, 1) := by decide +kernel
theorem d_Lw_act_163 : dec m_Lw_act 163 = .ok (.ishr, 1) := by decide +kernel
theorem d_Lw_act_164 : dec m_Lw_act 164 = .ok (.bipush 10, 2) := by decide +kernel
theorem d_Lw_act_166 : dec m_Lw_act 166 = .ok (.invokestatic 28, 3) := by decide +kernel
theorem d_Lw_act_169 : dec m_Lw_act 169 = .ok (.iconst 1, 1) := by decide +kernel
theorem d_Lw_act_170 : dec m_Lw_act 170 = .ok (.iload_n 2, 1) := by decide +kernel
theorem d_Lw_act_171 : dec m_Lw_act 171 = .ok (.bipush 6, 2) := by decide +kernel
theorem d_Lw_act_173 : dec m_Lw_act 173 = .ok (.ishr, 1) := by decide +kernel
theorem d_Lw_act_174 : dec m_Lw_act 174 = .ok (.bipush 9, 2) := by decide +kernel
theorem d_Lw_act_176 : dec m_Lw_act 176 = .ok (.invokestatic 28, 3) := by decide +kernel
theorem d_Lw_act_179 : dec m_Lw_act 179 = .ok (.iadd, 1) := by decide +kernel
theorem d_Lw_act_180 : dec m_Lw_act 180 = .ok (.invokevirtual 47, 3) := by decide +kernel
theorem d_Lw_act_183 : dec m_Lw_act 183 = .ok (.ireturn, 1) := by decide +kernel
theorem d_Lw_act_184 : dec m_Lw_act 184 = .ok (.aload_n 0, 1) := by decide +kernel
theorem d_Lw_act_185 : dec m_Lw_act 185 = .ok (.iload_n 3, 1) := by decide +kernel
theorem d_Lw_act_186 : dec m_Lw_act 186 = .ok (.invokevirtual 50, 3) := by decide +kernel
theorem d_Lw_act_189 : dec m_Lw_act 189 = .ok (.ireturn, 1) := by decide +kernel
theorem d_Lw_act_190 : dec m_Lw_act 190 = .ok (.aload_n 0, 1) := by decide +kernel
theorem d_Lw_act_191 : dec m_Lw_act 191 = .ok (.iload_n 2, 1) := by decide +kernel
theorem d_Lw_act_192 : dec m_Lw_act 192 = .ok (.bipush 40, 2) := by decide +kernel
theorem d_Lw_act_194 : dec m_Lw_act 194 = .ok (.invokestatic 28, 3) := by decide +kernel
theorem d_Lw_act_197 : dec m_Lw_act 197 = .ok (.invokevirtual 53, 3) := by decide +kernel
theorem d_Lw_act_200 : dec m_Lw_act 200 = .ok (.ireturn, 1) := by decide +kernel
theorem d_Lw_holds_0 : dec m_Lw_holds 0 = .ok (.iconst 0, 1) := by decide +kernel
theorem d_Lw_holds_1 : dec m_Lw_holds 1 = .ok (.istore_n 1, 1) := by decide +kernel
theorem d_Lw_holds_2 : dec m_Lw_holds 2 = .ok (.iconst 0, 1) := by decide +kernel
theorem d_Lw_holds_3 : dec m_Lw_holds 3 = .ok (.istore_n 2, 1) := by decide +kernel
theorem d_Lw_holds_4 : dec m_Lw_holds 4 = .ok (.iload_n 2, 1) := by decide +kernel
theorem d_Lw_holds_5 : dec m_Lw_holds 5 = .ok (.bipush 20, 2) := by decide +kernel
theorem d_Lw_holds_7 : dec m_Lw_holds 7 = .ok (.if_icmp .ge 247, 3) := by decide +kernel
theorem d_Lw_holds_10 : dec m_Lw_holds 10 = .ok (.aload_n 0, 1) := by decide +kernel
theorem d_Lw_holds_11 : dec m_Lw_holds 11 = .ok (.iload_n 2, 1) := by decide +kernel
theorem d_Lw_holds_12 : dec m_Lw_holds 12 = .ok (.bipush 7, 2) := by decide +kernel
theorem d_Lw_holds_14 : dec m_Lw_holds 14 = .ok (.invokevirtual 18, 3) := by decide +kernel
theorem d_Lw_holds_17 : dec m_Lw_holds 17 = .ok (.istore_n 3, 1) := by decide +kernel
theorem d_Lw_holds_18 : dec m_Lw_holds 18 = .ok (.sipush 1000, 3) := by decide +kernel
theorem d_Lw_holds_21 : dec m_Lw_holds 21 = .ok (.istore 4, 2) := by decide +kernel
theorem d_Lw_holds_23 : dec m_Lw_holds 23 = .ok (.iconst (-1), 1) := by decide +kernel
theorem d_Lw_holds_24 : dec m_Lw_holds 24 = .ok (.istore 5, 2) := by decide +kernel
theorem d_Lw_holds_26 : dec m_Lw_holds 26 = .ok (.iconst 1, 1) := by decide +kernel
theorem d_Lw_holds_27 : dec m_Lw_holds 27 = .ok (.istore 6, 2) := by decide +kernel
theorem d_Lw_holds_29 : dec m_Lw_holds 29 = .ok (.aload_n 0, 1) := by decide +kernel
theorem d_Lw_holds_30 : dec m_Lw_holds 30 = .ok (.iload_n 2, 1) := by decide +kernel
theorem d_Lw_holds_31 : dec m_Lw_holds 31 = .ok (.iconst 4, 1) := by decide +kernel
theorem d_Lw_holds_32 : dec m_Lw_holds 32 = .ok (.invokevirtual 18, 3) := by decide +kernel
theorem d_Lw_holds_35 : dec m_Lw_holds 35 = .ok (.istore 7, 2) := by decide +kernel
theorem d_Lw_holds_37 : dec m_Lw_holds 37 = .ok (.iconst 0, 1) := by decide +kernel
theorem d_Lw_holds_38 : dec m_Lw_holds 38 = .ok (.istore 8, 2) := by decide +kernel
theorem d_Lw_holds_40 : dec m_Lw_holds 40 = .ok (.iload 8, 2) := by decide +kernel
theorem d_Lw_holds_42 : dec m_Lw_holds 42 = .ok (.iload 7, 2) := by decide +kernel
theorem d_Lw_holds_44 : dec m_Lw_holds 44 = .ok (.if_icmp .ge 78, 3) := by decide +kernel
theorem d_Lw_holds_47 : dec m_Lw_holds 47 = .ok (.aload_n 0, 1) := by decide +kernel
theorem d_Lw_holds_48 : dec m_Lw_holds 48 = .ok (.aload_n 0, 1) := by decide +kernel
theorem d_Lw_holds_49 : dec m_Lw_holds 49 = .ok (.iload_n 2, 1) := by decide +kernel
theorem d_Lw_holds_50 : dec m_Lw_holds 50 = .ok (.iload 8, 2) := by decide +kernel
theorem d_Lw_holds_52 : dec m_Lw_holds 52 = .ok (.invokevirtual 22, 3) := by decide +kernel
theorem d_Lw_holds_55 : dec m_Lw_holds 55 = .ok (.bipush 7, 2) := by decide +kernel
theorem d_Lw_holds_57 : dec m_Lw_holds 57 = .ok (.invokevirtual 18, 3) := by decide +kernel
theorem d_Lw_holds_60 : dec m_Lw_holds 60 = .ok (.istore 9, 2) := by decide +kernel
theorem d_Lw_holds_62 : dec m_Lw_holds 62 = .ok (.iload 9, 2) := by decide +kernel
theorem d_Lw_holds_64 : dec m_Lw_holds 64 = .ok (.ifCond .lt 15, 3) := by decide +kernel
theorem d_Lw_holds_67 : dec m_Lw_holds 67 = .ok (.iload 9, 2) := by decide +kernel
theorem d_Lw_holds_69 : dec m_Lw_holds 69 = .ok (.iload 4, 2) := by decide +kernel
theorem d_Lw_holds_71 : dec m_Lw_holds 71 = .ok (.if_icmp .ge 8, 3) := by decide +kernel
theorem d_Lw_holds_74 : dec m_Lw_holds 74 = .ok (.iload 9, 2) := by decide +kernel
theorem d_Lw_holds_76 : dec m_Lw_holds 76 = .ok (.goto 5, 3) := by decide +kernel
theorem d_Lw_holds_79 : dec m_Lw_holds 79 = .ok (.iload 4, 2) := by decide +kernel
theorem d_Lw_holds_81 : dec m_Lw_holds 81 = .ok (.istore 4, 2) := by decide +kernel
theorem d_Lw_holds_83 : dec m_Lw_holds 83 = .ok (.iload 9, 2) := by decide +kernel
theorem d_Lw_holds_85 : dec m_Lw_holds 85 = .ok (.iload 5, 2) := by decide +kernel
theorem d_Lw_holds_87 : dec m_Lw_holds 87 = .ok (.if_icmp .le 8, 3) := by decide +kernel
theorem d_Lw_holds_90 : dec m_Lw_holds 90 = .ok (.iload 9, 2) := by decide +kernel
theorem d_Lw_holds_92 : dec m_Lw_holds 92 = .ok (.goto 5, 3) := by decide +kernel
theorem d_Lw_holds_95 : dec m_Lw_holds 95 = .ok (.iload 5, 2) := by decide +kernel
theorem d_Lw_holds_97 : dec m_Lw_holds 97 = .ok (.istore 5, 2) := by decide +kernel
theorem d_Lw_holds_99 : dec m_Lw_holds 99 = .ok (.iload 6, 2) := by decide +kernel
theorem d_Lw_holds_101 : dec m_Lw_holds 101 = .ok (.ifCond .eq 12, 3) := by decide +kernel
theorem d_Lw_holds_104 : dec m_Lw_holds 104 = .ok (.iload 9, 2) := by decide +kernel
theorem d_Lw_holds_106 : dec m_Lw_holds 106 = .ok (.ifCond .lt 7, 3) := by decide +kernel
theorem d_Lw_holds_109 : dec m_Lw_holds 109 = .ok (.iconst 1, 1) := by decide +kernel
theorem d_Lw_holds_110 : dec m_Lw_holds 110 = .ok (.goto 4, 3) := by decide +kernel
theorem d_Lw_holds_113 : dec m_Lw_holds 113 = .ok (.iconst 0, 1) := by decide +kernel
theorem d_Lw_holds_114 : dec m_Lw_holds 114 = .ok (.istore 6, 2) := by decide +kernel
theorem d_Lw_holds_116 : dec m_Lw_holds 116 = .ok (.iinc 8 1, 3) := by decide +kernel
theorem d_Lw_holds_119 : dec m_Lw_holds 119 = .ok (.goto (-79), 3) := by decide +kernel
theorem d_Lw_holds_122 : dec m_Lw_holds 122 = .ok (.aload_n 0, 1) := by decide +kernel
theorem d_Lw_holds_123 : dec m_Lw_holds 123 = .ok (.iload_n 2, 1) := by decide +kernel
theorem d_Lw_holds_124 : dec m_Lw_holds 124 = .ok (.iconst 0, 1) := by decide +kernel
theorem d_Lw_holds_125 : dec m_Lw_holds 125 = .ok (.invokevirtual 18, 3) := by decide +kernel
theorem d_Lw_holds_128 : dec m_Lw_holds 128 = .ok (.ifCond .ne 23, 3) := by decide +kernel
theorem d_Lw_holds_131 : dec m_Lw_holds 131 = .ok (.iload 4, 2) := by decide +kernel
theorem d_Lw_holds_133 : dec m_Lw_holds 133 = .ok (.sipush 1000, 3) := by decide +kernel
theorem d_Lw_holds_136 : dec m_Lw_holds 136 = .ok (.if_icmp .ge 10, 3) := by decide +kernel
theorem d_Lw_holds_139 : dec m_Lw_holds 139 = .ok (.iload 4, 2) := by decide +kernel
theorem d_Lw_holds_141 : dec m_Lw_holds 141 = .ok (.iconst 1, 1) := by decide +kernel
theorem d_Lw_holds_142 : dec m_Lw_holds 142 = .ok (.iadd, 1) := by decide +kernel
theorem d_Lw_holds_143 : dec m_Lw_holds 143 = .ok (.goto 22, 3) := by decide +kernel
theorem d_Lw_holds_146 : dec m_Lw_holds 146 = .ok (.bipush (-5), 2) := by decide +kernel
theorem d_Lw_holds_148 : dec m_Lw_holds 148 = .ok (.goto 17, 3) := by decide +kernel
theorem d_Lw_holds_151 : dec m_Lw_holds 151 = .ok (.iload 6, 2) := by decide +kernel
theorem d_Lw_holds_153 : dec m_Lw_holds 153 = .ok (.ifCond .eq 10, 3) := by decide +kernel
theorem d_Lw_holds_156 : dec m_Lw_holds 156 = .ok (.iload 5, 2) := by decide +kernel
theorem d_Lw_holds_158 : dec m_Lw_holds 158 = .ok (.iconst 1, 1) := by decide +kernel
theorem d_Lw_holds_159 : dec m_Lw_holds 159 = .ok (.iadd, 1) := by decide +kernel
theorem d_Lw_holds_160 : dec m_Lw_holds 160 = .ok (.goto 5, 3) := by decide +kernel
theorem d_Lw_holds_163 : dec m_Lw_holds 163 = .ok (.bipush (-5), 2) := by decide +kernel
theorem d_Lw_holds_165 : dec m_Lw_holds 165 = .ok (.istore 8, 2) := by decide +kernel
theorem d_Lw_holds_167 : dec m_Lw_holds 167 = .ok (.aload_n 0, 1) := by decide +kernel
theorem d_Lw_holds_168 : dec m_Lw_holds 168 = .ok (.iload_n 2, 1) := by decide +kernel
theorem d_Lw_holds_169 : dec m_Lw_holds 169 = .ok (.iconst 5, 1) := by decide +kernel
theorem d_Lw_holds_170 : dec m_Lw_holds 170 = .ok (.invokevirtual 18, 3) := by decide +kernel
theorem d_Lw_holds_173 : dec m_Lw_holds 173 = .ok (.iconst 1, 1) := by decide +kernel
theorem d_Lw_holds_174 : dec m_Lw_holds 174 = .ok (.if_icmp .ne 22, 3) := by decide +kernel
theorem d_Lw_holds_177 : dec m_Lw_holds 177 = .ok (.aload_n 0, 1) := by decide +kernel
theorem d_Lw_holds_178 : dec m_Lw_holds 178 = .ok (.iload_n 2, 1) := by decide +kernel
theorem d_Lw_holds_179 : dec m_Lw_holds 179 = .ok (.iconst 1, 1) := by decide +kernel
theorem d_Lw_holds_180 : dec m_Lw_holds 180 = .ok (.invokevirtual 18, 3) := by decide +kernel
theorem d_Lw_holds_183 : dec m_Lw_holds 183 = .ok (.iconst 1, 1) := by decide +kernel
theorem d_Lw_holds_184 : dec m_Lw_holds 184 = .ok (.if_icmp .ne 7, 3) := by decide +kernel
theorem d_Lw_holds_187 : dec m_Lw_holds 187 = .ok (.iconst 0, 1) := by decide +kernel
theorem d_Lw_holds_188 : dec m_Lw_holds 188 = .ok (.goto 10, 3) := by decide +kernel
theorem d_Lw_holds_191 : dec m_Lw_holds 191 = .ok (.bipush (-5), 2) := by decide +kernel
theorem d_Lw_holds_193 : dec m_Lw_holds 193 = .ok (.goto 5, 3) := by decide +kernel
theorem d_Lw_holds_196 : dec m_Lw_holds 196 = .ok (.iload 8, 2) := by decide +kernel
theorem d_Lw_holds_198 : dec m_Lw_holds 198 = .ok (.istore 8, 2) := by decide +kernel
theorem d_Lw_holds_200 : dec m_Lw_holds 200 = .ok (.iload_n 1, 1) := by decide +kernel
theorem d_Lw_holds_201 : dec m_Lw_holds 201 = .ok (.iload_n 3, 1) := by decide +kernel
theorem d_Lw_holds_202 : dec m_Lw_holds 202 = .ok (.ifCond .lt 7, 3) := by decide +kernel
theorem d_Lw_holds_205 : dec m_Lw_holds 205 = .ok (.iconst 1, 1) := by decide +kernel
theorem d_Lw_holds_206 : dec m_Lw_holds 206 = .ok (.goto 4, 3) := by decide +kernel
theorem d_Lw_holds_209 : dec m_Lw_holds 209 = .ok (.iconst 0, 1) := by decide +kernel
theorem d_Lw_holds_210 : dec m_Lw_holds 210 = .ok (.iadd, 1) := by decide +kernel
theorem d_Lw_holds_211 : dec m_Lw_holds 211 = .ok (.istore_n 1, 1) := by decide +kernel
theorem d_Lw_holds_212 : dec m_Lw_holds 212 = .ok (.iload_n 3, 1) := by decide +kernel
theorem d_Lw_holds_213 : dec m_Lw_holds 213 = .ok (.iload 8, 2) := by decide +kernel
theorem d_Lw_holds_215 : dec m_Lw_holds 215 = .ok (.if_icmp .ne 31, 3) := by decide +kernel
theorem d_Lw_holds_218 : dec m_Lw_holds 218 = .ok (.iload_n 3, 1) := by decide +kernel
theorem d_Lw_holds_219 : dec m_Lw_holds 219 = .ok (.ifCond .lt 7, 3) := by decide +kernel
theorem d_Lw_holds_222 : dec m_Lw_holds 222 = .ok (.iconst 1, 1) := by decide +kernel
theorem d_Lw_holds_223 : dec m_Lw_holds 223 = .ok (.goto 4, 3) := by decide +kernel
theorem d_Lw_holds_226 : dec m_Lw_holds 226 = .ok (.iconst 0, 1) := by decide +kernel
theorem d_Lw_holds_227 : dec m_Lw_holds 227 = .ok (.aload_n 0, 1) := by decide +kernel
theorem d_Lw_holds_228 : dec m_Lw_holds 228 = .ok (.iload_n 2, 1) := by decide +kernel
theorem d_Lw_holds_229 : dec m_Lw_holds 229 = .ok (.bipush 6, 2) := by decide +kernel
theorem d_Lw_holds_231 : dec m_Lw_holds 231 = .ok (.invokevirtual 18, 3) := by decide +kernel
theorem d_Lw_holds_234 : dec m_Lw_holds 234 = .ok (.iconst 1, 1) := by decide +kernel
theorem d_Lw_holds_235 : dec m_Lw_holds 235 = .ok (.if_icmp .ne 7, 3) := by decide +kernel
theorem d_Lw_holds_238 : dec m_Lw_holds 238 = .ok (.iconst 1, 1) := by decide +kernel
theorem d_Lw_holds_239 : dec m_Lw_holds 239 = .ok (.goto 4, 3) := by decide +kernel
theorem d_Lw_holds_242 : dec m_Lw_holds 242 = .ok (.iconst 0, 1) := by decide +kernel
theorem d_Lw_holds_243 : dec m_Lw_holds 243 = .ok (.if_icmp .eq 5, 3) := by decide +kernel
theorem d_Lw_holds_246 : dec m_Lw_holds 246 = .ok (.iconst 0, 1) := by decide +kernel
theorem d_Lw_holds_247 : dec m_Lw_holds 247 = .ok (.ireturn, 1) := by decide +kernel
theorem d_Lw_holds_248 : dec m_Lw_holds 248 = .ok (.iinc 2 1, 3) := by decide +kernel
theorem d_Lw_holds_251 : dec m_Lw_holds 251 = .ok (.goto (-247), 3) := by decide +kernel
theorem d_Lw_holds_254 : dec m_Lw_holds 254 = .ok (.aload_n 0, 1) := by decide +kernel
theorem d_Lw_holds_255 : dec m_Lw_holds 255 = .ok (.iconst 1, 1) := by decide +kernel
theorem d_Lw_holds_256 : dec m_Lw_holds 256 = .ok (.invokevirtual 12, 3) := by decide +kernel
theorem d_Lw_holds_259 : dec m_Lw_holds 259 = .ok (.istore_n 2, 1) := by decide +kernel
theorem d_Lw_holds_260 : dec m_Lw_holds 260 = .ok (.aload_n 0, 1) := by decide +kernel
theorem d_Lw_holds_261 : dec m_Lw_holds 261 = .ok (.iconst 2, 1) := by decide +kernel
theorem d_Lw_holds_262 : dec m_Lw_holds 262 = .ok (.invokevirtual 12, 3) := by decide +kernel
theorem d_Lw_holds_265 : dec m_Lw_holds 265 = .ok (.istore_n 3, 1) := by decide +kernel
theorem d_Lw_holds_266 : dec m_Lw_holds 266 = .ok (.aload_n 0, 1) := by decide +kernel
theorem d_Lw_holds_267 : dec m_Lw_holds 267 = .ok (.iconst 3, 1) := by decide +kernel
theorem d_Lw_holds_268 : dec m_Lw_holds 268 = .ok (.invokevirtual 12, 3) := by decide +kernel
theorem d_Lw_holds_271 : dec m_Lw_holds 271 = .ok (.istore 4, 2) := by decide +kernel
theorem d_Lw_holds_273 : dec m_Lw_holds 273 = .ok (.iload_n 2, 1) := by decide +kernel
theorem d_Lw_holds_274 : dec m_Lw_holds 274 = .ok (.ifCond .ne 8, 3) := by decide +kernel
theorem d_Lw_holds_277 : dec m_Lw_holds 277 = .ok (.bipush (-5), 2) := by decide +kernel
theorem d_Lw_holds_279 : dec m_Lw_holds 279 = .ok (.goto 21, 3) := by decide +kernel
theorem d_Lw_holds_282 : dec m_Lw_holds 282 = .ok (.iload_n 3, 1) := by decide +kernel
theorem d_Lw_holds_283 : dec m_Lw_holds 283 = .ok (.ifCond .ne 7, 3) := by decide +kernel
theorem d_Lw_holds_286 : dec m_Lw_holds 286 = .ok (.iconst 1, 1) := by decide +kernel
theorem d_Lw_holds_287 : dec m_Lw_holds 287 = .ok (.goto 13, 3) := by decide +kernel
theorem d_Lw_holds_290 : dec m_Lw_holds 290 = .ok (.iload 4, 2) := by decide +kernel
theorem d_Lw_holds_292 : dec m_Lw_holds 292 = .ok (.ifCond .ne 7, 3) := by decide +kernel
theorem d_Lw_holds_295 : dec m_Lw_holds 295 = .ok (.iconst 2, 1) := by decide +kernel
theorem d_Lw_holds_296 : dec m_Lw_holds 296 = .ok (.goto 4, 3) := by decide +kernel
theorem d_Lw_holds_299 : dec m_Lw_holds 299 = .ok (.iconst 0, 1) := by decide +kernel
theorem d_Lw_holds_300 : dec m_Lw_holds 300 = .ok (.istore 5, 2) := by decide +kernel
theorem d_Lw_holds_302 : dec m_Lw_holds 302 = .ok (.iload_n 2, 1) := by decide +kernel
theorem d_Lw_holds_303 : dec m_Lw_holds 303 = .ok (.ifCond .eq 84, 3) := by decide +kernel
theorem d_Lw_holds_306 : dec m_Lw_holds 306 = .ok (.iload_n 3, 1) := by decide +kernel
theorem d_Lw_holds_307 : dec m_Lw_holds 307 = .ok (.ifCond .ne 7, 3) := by decide +kernel
theorem d_Lw_holds_310 : dec m_Lw_holds 310 = .ok (.iconst 1, 1) := by decide +kernel
theorem d_Lw_holds_311 : dec m_Lw_holds 311 = .ok (.goto 4, 3) := by decide +kernel
theorem d_Lw_holds_314 : dec m_Lw_holds 314 = .ok (.iconst 0, 1) := by decide +kernel
theorem d_Lw_holds_315 : dec m_Lw_holds 315 = .ok (.iload 4, 2) := by decide +kernel
theorem d_Lw_holds_317 : dec m_Lw_holds 317 = .ok (.sipush 9999, 3) := by decide +kernel
theorem d_Lw_holds_320 : dec m_Lw_holds 320 = .ok (.if_icmp .ne 7, 3) := by decide +kernel
theorem d_Lw_holds_323 : dec m_Lw_holds 323 = .ok (.iconst 1, 1) := by decide +kernel
theorem d_Lw_holds_324 : dec m_Lw_holds 324 = .ok (.goto 4, 3) := by decide +kernel
theorem d_Lw_holds_327 : dec m_Lw_holds 327 = .ok (.iconst 0, 1) := by decide +kernel
theorem d_Lw_holds_328 : dec m_Lw_holds 328 = .ok (.if_icmp .ne 63, 3) := by decide +kernel
theorem d_Lw_holds_331 : dec m_Lw_holds 331 = .ok (.iload 4, 2) := by decide +kernel
theorem d_Lw_holds_333 : dec m_Lw_holds 333 = .ok (.ifCond .ne 7, 3) := by decide +kernel
theorem d_Lw_holds_336 : dec m_Lw_holds 336 = .ok (.iconst 1, 1) := by decide +kernel
theorem d_Lw_holds_337 : dec m_Lw_holds 337 = .ok (.goto 4, 3) := by decide +kernel
theorem d_Lw_holds_340 : dec m_Lw_holds 340 = .ok (.iconst 0, 1) := by decide +kernel
theorem d_Lw_holds_341 : dec m_Lw_holds 341 = .ok (.iload_n 3, 1) := by decide +kernel
theorem d_Lw_holds_342 : dec m_Lw_holds 342 = .ok (.sipush 9999, 3) := by decide +kernel
theorem d_Lw_holds_345 : dec m_Lw_holds 345 = .ok (.if_icmp .ne 7, 3) := by decide +kernel
theorem d_Lw_holds_348 : dec m_Lw_holds 348 = .ok (.iconst 1, 1) := by decide +kernel
theorem d_Lw_holds_349 : dec m_Lw_holds 349 = .ok (.goto 4, 3) := by decide +kernel
theorem d_Lw_holds_352 : dec m_Lw_holds 352 = .ok (.iconst 0, 1) := by decide +kernel
theorem d_Lw_holds_353 : dec m_Lw_holds 353 = .ok (.if_icmp .ne 38, 3) := by decide +kernel
theorem d_Lw_holds_356 : dec m_Lw_holds 356 = .ok (.iload 5, 2) := by decide +kernel
theorem d_Lw_holds_358 : dec m_Lw_holds 358 = .ok (.ifCond .eq 29, 3) := by decide +kernel
theorem d_Lw_holds_361 : dec m_Lw_holds 361 = .ok (.aload_n 0, 1) := by decide +kernel
theorem d_Lw_holds_362 : dec m_Lw_holds 362 = .ok (.aload_n 0, 1) := by decide +kernel
theorem d_Lw_holds_363 : dec m_Lw_holds 363 = .ok (.iconst 0, 1) := by decide +kernel
theorem d_Lw_holds_364 : dec m_Lw_holds 364 = .ok (.iconst 0, 1) := by decide +kernel
theorem d_Lw_holds_365 : dec m_Lw_holds 365 = .ok (.invokevirtual 25, 3) := by decide +kernel
theorem d_Lw_holds_368 : dec m_Lw_holds 368 = .ok (.bipush 6, 2) := by decide +kernel
theorem d_Lw_holds_370 : dec m_Lw_holds 370 = .ok (.invokevirtual 18, 3) := by decide +kernel
theorem d_Lw_holds_373 : dec m_Lw_holds 373 = .ok (.iload 5, 2) := by decide +kernel
theorem d_Lw_holds_375 : dec m_Lw_holds 375 = .ok (.iconst 1, 1) := by decide +kernel
theorem d_Lw_holds_376 : dec m_Lw_holds 376 = .ok (.if_icmp .ne 7, 3) := by decide +kernel
theorem d_Lw_holds_379 : dec m_Lw_holds 379 = .ok (.iconst 1, 1) := by decide +kernel
theorem d_Lw_holds_380 : dec m_Lw_holds 380 = .ok (.goto 4, 3) := by decide +kernel
theorem d_Lw_holds_383 : dec m_Lw_holds 383 = .ok (.iconst 0, 1) := by decide +kernel
theorem d_Lw_holds_384 : dec m_Lw_holds 384 = .ok (.if_icmp .ne 7, 3) := by decide +kernel
theorem d_Lw_holds_387 : dec m_Lw_holds 387 = .ok (.iconst 1, 1) := by decide +kernel
theorem d_Lw_holds_388 : dec m_Lw_holds 388 = .ok (.goto 4, 3) := by decide +kernel
theorem d_Lw_holds_391 : dec m_Lw_holds 391 = .ok (.iconst 0, 1) := by decide +kernel
theorem d_Lw_holds_392 : dec m_Lw_holds 392 = .ok (.istore 6, 2) := by decide +kernel
theorem d_Lw_holds_394 : dec m_Lw_holds 394 = .ok (.iconst 0, 1) := by decide +kernel
theorem d_Lw_holds_395 : dec m_Lw_holds 395 = .ok (.istore 7, 2) := by decide +kernel
theorem d_Lw_holds_397 : dec m_Lw_holds 397 = .ok (.iload_n 2, 1) := by decide +kernel
theorem d_Lw_holds_398 : dec m_Lw_holds 398 = .ok (.ifCond .le 71, 3) := by decide +kernel
theorem d_Lw_holds_401 : dec m_Lw_holds 401 = .ok (.iload 7, 2) := by decide +kernel
theorem d_Lw_holds_403 : dec m_Lw_holds 403 = .ok (.bipush 30, 2) := by decide +kernel
theorem d_Lw_holds_405 : dec m_Lw_holds 405 = .ok (.if_icmp .ge 64, 3) := by decide +kernel
theorem d_Lw_holds_408 : dec m_Lw_holds 408 = .ok (.aload_n 0, 1) := by decide +kernel
theorem d_Lw_holds_409 : dec m_Lw_holds 409 = .ok (.iload 7, 2) := by decide +kernel
theorem d_Lw_holds_411 : dec m_Lw_holds 411 = .ok (.invokevirtual 56, 3) := by decide +kernel
theorem d_Lw_holds_414 : dec m_Lw_holds 414 = .ok (.ifCond .lt 55, 3) := by decide +kernel
theorem d_Lw_holds_417 : dec m_Lw_holds 417 = .ok (.aload_n 0, 1) := by decide +kernel
theorem d_Lw_holds_418 : dec m_Lw_holds 418 = .ok (.aload_n 0, 1) := by decide +kernel
theorem d_Lw_holds_419 : dec m_Lw_holds 419 = .ok (.iload 7, 2) := by decide +kernel
theorem d_Lw_holds_421 : dec m_Lw_holds 421 = .ok (.invokevirtual 56, 3) := by decide +kernel
theorem d_Lw_holds_424 : dec m_Lw_holds 424 = .ok (.bipush 6, 2) := by decide +kernel
theorem d_Lw_holds_426 : dec m_Lw_holds 426 = .ok (.invokevirtual 25, 3) := by decide +kernel
theorem d_Lw_holds_429 : dec m_Lw_holds 429 = .ok (.iload 7, 2) := by decide +kernel
theorem d_Lw_holds_431 : dec m_Lw_holds 431 = .ok (.if_icmp .ne 30, 3) := by decide +kernel
theorem d_Lw_holds_434 : dec m_Lw_holds 434 = .ok (.iload 7, 2) := by decide +kernel
theorem d_Lw_holds_436 : dec m_Lw_holds 436 = .ok (.ifCond .le 27, 3) := by decide +kernel
theorem d_Lw_holds_439 : dec m_Lw_holds 439 = .ok (.aload_n 0, 1) := by decide +kernel
theorem d_Lw_holds_440 : dec m_Lw_holds 440 = .ok (.aload_n 0, 1) := by decide +kernel
theorem d_Lw_holds_441 : dec m_Lw_holds 441 = .ok (.iload 7, 2) := by decide +kernel
theorem d_Lw_holds_443 : dec m_Lw_holds 443 = .ok (.invokevirtual 56, 3) := by decide +kernel
theorem d_Lw_holds_446 : dec m_Lw_holds 446 = .ok (.iconst 1, 1) := by decide +kernel
theorem d_Lw_holds_447 : dec m_Lw_holds 447 = .ok (.invokevirtual 25, 3) := by decide +kernel
theorem d_Lw_holds_450 : dec m_Lw_holds 450 = .ok (.aload_n 0, 1) := by decide +kernel
theorem d_Lw_holds_451 : dec m_Lw_holds 451 = .ok (.iload 7, 2) := by decide +kernel
theorem d_Lw_holds_453 : dec m_Lw_holds 453 = .ok (.iconst 1, 1) := by decide +kernel
theorem d_Lw_holds_454 : dec m_Lw_holds 454 = .ok (.isub, 1) := by decide +kernel
theorem d_Lw_holds_455 : dec m_Lw_holds 455 = .ok (.invokevirtual 56, 3) := by decide +kernel
theorem d_Lw_holds_458 : dec m_Lw_holds 458 = .ok (.if_icmp .eq 5, 3) := by decide +kernel
theorem d_Lw_holds_461 : dec m_Lw_holds 461 = .ok (.iconst 0, 1) := by decide +kernel
theorem d_Lw_holds_462 : dec m_Lw_holds 462 = .ok (.ireturn, 1) := by decide +kernel
theorem d_Lw_holds_463 : dec m_Lw_holds 463 = .ok (.iinc 7 1, 3) := by decide +kernel
theorem d_Lw_holds_466 : dec m_Lw_holds 466 = .ok (.goto (-69), 3) := by decide +kernel
theorem d_Lw_holds_469 : dec m_Lw_holds 469 = .ok (.iload_n 1, 1) := by decide +kernel
theorem d_Lw_holds_470 : dec m_Lw_holds 470 = .ok (.aload_n 0, 1) := by decide +kernel
theorem d_Lw_holds_471 : dec m_Lw_holds 471 = .ok (.bipush 8, 2) := by decide +kernel
theorem d_Lw_holds_473 : dec m_Lw_holds 473 = .ok (.invokevirtual 12, 3) := by decide +kernel
theorem d_Lw_holds_476 : dec m_Lw_holds 476 = .ok (.if_icmp .ne 54, 3) := by decide +kernel
theorem d_Lw_holds_479 : dec m_Lw_holds 479 = .ok (.iload_n 2, 1) := by decide +kernel
theorem d_Lw_holds_480 : dec m_Lw_holds 480 = .ok (.sipush 200, 3) := by decide +kernel
theorem d_Lw_holds_483 : dec m_Lw_holds 483 = .ok (.if_icmp .gt 47, 3) := by decide +kernel
theorem d_Lw_holds_486 : dec m_Lw_holds 486 = .ok (.aload_n 0, 1) := by decide +kernel
theorem d_Lw_holds_487 : dec m_Lw_holds 487 = .ok (.iconst 4, 1) := by decide +kernel
theorem d_Lw_holds_488 : dec m_Lw_holds 488 = .ok (.invokevirtual 12, 3) := by decide +kernel
theorem d_Lw_holds_491 : dec m_Lw_holds 491 = .ok (.iload 5, 2) := by decide +kernel
theorem d_Lw_holds_493 : dec m_Lw_holds 493 = .ok (.if_icmp .ne 37, 3) := by decide +kernel
theorem d_Lw_holds_496 : dec m_Lw_holds 496 = .ok (.iload 6, 2) := by decide +kernel
theorem d_Lw_holds_498 : dec m_Lw_holds 498 = .ok (.ifCond .eq 32, 3) := by decide +kernel
theorem d_Lw_holds_501 : dec m_Lw_holds 501 = .ok (.iload 5, 2) := by decide +kernel
theorem d_Lw_holds_503 : dec m_Lw_holds 503 = .ok (.ifCond .le 14, 3) := by decide +kernel
theorem d_Lw_holds_506 : dec m_Lw_holds 506 = .ok (.aload_n 0, 1) := by decide +kernel
theorem d_Lw_holds_507 : dec m_Lw_holds 507 = .ok (.invokevirtual 59, 3) := by decide +kernel
theorem d_Lw_holds_510 : dec m_Lw_holds 510 = .ok (.iload_n 2, 1) := by decide +kernel
theorem d_Lw_holds_511 : dec m_Lw_holds 511 = .ok (.if_icmp .gt 19, 3) := by decide +kernel
theorem d_Lw_holds_514 : dec m_Lw_holds 514 = .ok (.goto 12, 3) := by decide +kernel
theorem d_Lw_holds_517 : dec m_Lw_holds 517 = .ok (.aload_n 0, 1) := by decide +kernel
theorem d_Lw_holds_518 : dec m_Lw_holds 518 = .ok (.invokevirtual 59, 3) := by decide +kernel
theorem d_Lw_holds_521 : dec m_Lw_holds 521 = .ok (.bipush (-4), 2) := by decide +kernel
theorem d_Lw_holds_523 : dec m_Lw_holds 523 = .ok (.if_icmp .ne 7, 3) := by decide +kernel
theorem d_Lw_holds_526 : dec m_Lw_holds 526 = .ok (.iconst 1, 1) := by decide +kernel
theorem d_Lw_holds_527 : dec m_Lw_holds 527 = .ok (.goto 4, 3) := by decide +kernel
theorem d_Lw_holds_530 : dec m_Lw_holds 530 = .ok (.iconst 0, 1) := by decide +kernel
theorem d_Lw_holds_531 : dec m_Lw_holds 531 = .ok (.ireturn, 1) := by decide +kernel
theorem d_Lw_law_0 : dec m_Lw_law 0 = .ok (.new 13, 3) := by decide +kernel
theorem d_Lw_law_3 : dec m_Lw_law 3 = .ok (.dup, 1) := by decide +kernel
theorem d_Lw_law_4 : dec m_Lw_law 4 = .ok (.invokespecial 62, 3) := by decide +kernel
theorem d_Lw_law_7 : dec m_Lw_law 7 = .ok (.astore_n 1, 1) := by decide +kernel
theorem d_Lw_law_8 : dec m_Lw_law 8 = .ok (.aload_n 1, 1) := by decide +kernel
theorem d_Lw_law_9 : dec m_Lw_law 9 = .ok (.invokevirtual 63, 3) := by decide +kernel
theorem d_Lw_law_12 : dec m_Lw_law 12 = .ok (.bipush (-5), 2) := by decide +kernel
theorem d_Lw_law_14 : dec m_Lw_law 14 = .ok (.if_icmp .ne 19, 3) := by decide +kernel
theorem d_Lw_law_17 : dec m_Lw_law 17 = .ok (.aload_n 1, 1) := by decide +kernel
theorem d_Lw_law_18 : dec m_Lw_law 18 = .ok (.invokevirtual 43, 3) := by decide +kernel
theorem d_Lw_law_21 : dec m_Lw_law 21 = .ok (.bipush (-5), 2) := by decide +kernel
theorem d_Lw_law_23 : dec m_Lw_law 23 = .ok (.if_icmp .ne 10, 3) := by decide +kernel
theorem d_Lw_law_26 : dec m_Lw_law 26 = .ok (.aload_n 1, 1) := by decide +kernel
theorem d_Lw_law_27 : dec m_Lw_law 27 = .ok (.invokevirtual 66, 3) := by decide +kernel
theorem d_Lw_law_30 : dec m_Lw_law 30 = .ok (.ifCond .eq 5, 3) := by decide +kernel
theorem d_Lw_law_33 : dec m_Lw_law 33 = .ok (.iconst 0, 1) := by decide +kernel
theorem d_Lw_law_34 : dec m_Lw_law 34 = .ok (.ireturn, 1) := by decide +kernel
theorem d_Lw_law_35 : dec m_Lw_law 35 = .ok (.aload_n 1, 1) := by decide +kernel
theorem d_Lw_law_36 : dec m_Lw_law 36 = .ok (.invokestatic 69, 3) := by decide +kernel
theorem d_Lw_law_39 : dec m_Lw_law 39 = .ok (.lstore_n 2, 1) := by decide +kernel
theorem d_Lw_law_40 : dec m_Lw_law 40 = .ok (.iconst 0, 1) := by decide +kernel
theorem d_Lw_law_41 : dec m_Lw_law 41 = .ok (.istore 4, 2) := by decide +kernel
theorem d_Lw_law_43 : dec m_Lw_law 43 = .ok (.iload 4, 2) := by decide +kernel
theorem d_Lw_law_45 : dec m_Lw_law 45 = .ok (.bipush 40, 2) := by decide +kernel
theorem d_Lw_law_47 : dec m_Lw_law 47 = .ok (.if_icmp .ge 241, 3) := by decide +kernel
theorem d_Lw_law_50 : dec m_Lw_law 50 = .ok (.aload_n 0, 1) := by decide +kernel
theorem d_Lw_law_51 : dec m_Lw_law 51 = .ok (.iconst 2, 1) := by decide +kernel
theorem d_Lw_law_52 : dec m_Lw_law 52 = .ok (.iload 4, 2) := by decide +kernel
theorem d_Lw_law_54 : dec m_Lw_law 54 = .ok (.imul, 1) := by decide +kernel
theorem d_Lw_law_55 : dec m_Lw_law 55 = .ok (.invokestatic 73, 3) := by decide +kernel
theorem d_Lw_law_58 : dec m_Lw_law 58 = .ok (.istore 5, 2) := by decide +kernel
theorem d_Lw_law_60 : dec m_Lw_law 60 = .ok (.aload_n 0, 1) := by decide +kernel
theorem d_Lw_law_61 : dec m_Lw_law 61 = .ok (.iconst 2, 1) := by decide +kernel
theorem d_Lw_law_62 : dec m_Lw_law 62 = .ok (.iload 4, 2) := by decide +kernel
theorem d_Lw_law_64 : dec m_Lw_law 64 = .ok (.imul, 1) := by decide +kernel
theorem d_Lw_law_65 : dec m_Lw_law 65 = .ok (.iconst 1, 1) := by decide +kernel
theorem d_Lw_law_66 : dec m_Lw_law 66 = .ok (.iadd, 1) := by decide +kernel
theorem d_Lw_law_67 : dec m_Lw_law 67 = .ok (.invokestatic 73, 3) := by decide +kernel
theorem d_Lw_law_70 : dec m_Lw_law 70 = .ok (.istore 6, 2) := by decide +kernel
theorem d_Lw_law_72 : dec m_Lw_law 72 = .ok (.aload_n 1, 1) := by decide +kernel
theorem d_Lw_law_73 : dec m_Lw_law 73 = .ok (.invokestatic 69, 3) := by decide +kernel
theorem d_Lw_law_76 : dec m_Lw_law 76 = .ok (.lstore 7, 2) := by decide +kernel
theorem d_Lw_law_78 : dec m_Lw_law 78 = .ok (.aload_n 1, 1) := by decide +kernel
theorem d_Lw_law_79 : dec m_Lw_law 79 = .ok (.bipush 9, 2) := by decide +kernel
theorem d_Lw_law_81 : dec m_Lw_law 81 = .ok (.invokevirtual 12, 3) := by decide +kernel
theorem d_Lw_law_84 : dec m_Lw_law 84 = .ok (.istore 9, 2) := by decide +kernel
theorem d_Lw_law_86 : dec m_Lw_law 86 = .ok (.aload_n 1, 1) := by decide +kernel
theorem d_Lw_law_87 : dec m_Lw_law 87 = .ok (.iload 5, 2) := by decide +kernel
theorem d_Lw_law_89 : dec m_Lw_law 89 = .ok (.iload 6, 2) := by decide +kernel
theorem d_Lw_law_91 : dec m_Lw_law 91 = .ok (.invokestatic 77, 3) := by decide +kernel
theorem d_Lw_law_94 : dec m_Lw_law 94 = .ok (.istore 10, 2) := by decide +kernel
theorem d_Lw_law_96 : dec m_Lw_law 96 = .ok (.aload_n 1, 1) := by decide +kernel
theorem d_Lw_law_97 : dec m_Lw_law 97 = .ok (.invokestatic 69, 3) := by decide +kernel
theorem d_Lw_law_100 : dec m_Lw_law 100 = .ok (.lstore 11, 2) := by decide +kernel
theorem d_Lw_law_102 : dec m_Lw_law 102 = .ok (.iload 10, 2) := by decide +kernel
theorem d_Lw_law_104 : dec m_Lw_law 104 = .ok (.ifCond .ge 25, 3) := by decide +kernel
theorem d_Lw_law_107 : dec m_Lw_law 107 = .ok (.lload 11, 2) := by decide +kernel
theorem d_Lw_law_109 : dec m_Lw_law 109 = .ok (.lload 7, 2) := by decide +kernel
theorem d_Lw_law_111 : dec m_Lw_law 111 = .ok (.lcmp, 1) := by decide +kernel
theorem d_Lw_law_112 : dec m_Lw_law 112 = .ok (.ifCond .ne 40, 3) := by decide +kernel
theorem d_Lw_law_115 : dec m_Lw_law 115 = .ok (.aload_n 1, 1) := by decide +kernel
theorem d_Lw_law_116 : dec m_Lw_law 116 = .ok (.bipush 9, 2) := by decide +kernel
theorem d_Lw_law_118 : dec m_Lw_law 118 = .ok (.invokevirtual 12, 3) := by decide +kernel
theorem d_Lw_law_121 : dec m_Lw_law 121 = .ok (.iload 9, 2) := by decide +kernel
theorem d_Lw_law_123 : dec m_Lw_law 123 = .ok (.if_icmp .eq 31, 3) := by decide +kernel
theorem d_Lw_law_126 : dec m_Lw_law 126 = .ok (.goto 26, 3) := by decide +kernel
theorem d_Lw_law_129 : dec m_Lw_law 129 = .ok (.aload_n 1, 1) := by decide +kernel
theorem d_Lw_law_130 : dec m_Lw_law 130 = .ok (.bipush 9, 2) := by decide +kernel
theorem d_Lw_law_132 : dec m_Lw_law 132 = .ok (.invokevirtual 12, 3) := by decide +kernel
theorem d_Lw_law_135 : dec m_Lw_law 135 = .ok (.iload 9, 2) := by decide +kernel
theorem d_Lw_law_137 : dec m_Lw_law 137 = .ok (.iconst 4, 1) := by decide +kernel
theorem d_Lw_law_138 : dec m_Lw_law 138 = .ok (.if_icmp .ge 10, 3) := by decide +kernel
theorem d_Lw_law_141 : dec m_Lw_law 141 = .ok (.iload 9, 2) := by decide +kernel
theorem d_Lw_law_143 : dec m_Lw_law 143 = .ok (.iconst 1, 1) := by decide +kernel
theorem d_Lw_law_144 : dec m_Lw_law 144 = .ok (.iadd, 1) := by decide +kernel
theorem d_Lw_law_145 : dec m_Lw_law 145 = .ok (.goto 4, 3) := by decide +kernel
theorem d_Lw_law_148 : dec m_Lw_law 148 = .ok (.iconst 4, 1) := by decide +kernel
theorem d_Lw_law_149 : dec m_Lw_law 149 = .ok (.if_icmp .eq 5, 3) := by decide +kernel
theorem d_Lw_law_152 : dec m_Lw_law 152 = .ok (.iconst 0, 1) := by decide +kernel
theorem d_Lw_law_153 : dec m_Lw_law 153 = .ok (.ireturn, 1) := by decide +kernel
theorem d_Lw_law_154 : dec m_Lw_law 154 = .ok (.iload 10, 2) := by decide +kernel
theorem d_Lw_law_156 : dec m_Lw_law 156 = .ok (.ifCond .lt 29, 3) := by decide +kernel
theorem d_Lw_law_159 : dec m_Lw_law 159 = .ok (.iload 5, 2) := by decide +kernel
theorem d_Lw_law_161 : dec m_Lw_law 161 = .ok (.bipush 15, 2) := by decide +kernel
theorem d_Lw_law_163 : dec m_Lw_law 163 = .ok (.iand, 1) := by decide +kernel
theorem d_Lw_law_164 : dec m_Lw_law 164 = .ok (.bipush 8, 2) := by decide +kernel
theorem d_Lw_law_166 : dec m_Lw_law 166 = .ok (.if_icmp .ne 19, 3) := by decide +kernel
theorem d_Lw_law_169 : dec m_Lw_law 169 = .ok (.iload 6, 2) := by decide +kernel
theorem d_Lw_law_171 : dec m_Lw_law 171 = .ok (.iconst 3, 1) := by decide +kernel
theorem d_Lw_law_172 : dec m_Lw_law 172 = .ok (.iand, 1) := by decide +kernel
theorem d_Lw_law_173 : dec m_Lw_law 173 = .ok (.ifCond .ne 12, 3) := by decide +kernel
theorem d_Lw_law_176 : dec m_Lw_law 176 = .ok (.lload 11, 2) := by decide +kernel
theorem d_Lw_law_178 : dec m_Lw_law 178 = .ok (.lload_n 2, 1) := by decide +kernel
theorem d_Lw_law_179 : dec m_Lw_law 179 = .ok (.lcmp, 1) := by decide +kernel
theorem d_Lw_law_180 : dec m_Lw_law 180 = .ok (.ifCond .eq 5, 3) := by decide +kernel
theorem d_Lw_law_183 : dec m_Lw_law 183 = .ok (.iconst 0, 1) := by decide +kernel
theorem d_Lw_law_184 : dec m_Lw_law 184 = .ok (.ireturn, 1) := by decide +kernel
theorem d_Lw_law_185 : dec m_Lw_law 185 = .ok (.iload 10, 2) := by decide +kernel
theorem d_Lw_law_187 : dec m_Lw_law 187 = .ok (.ifCond .lt 67, 3) := by decide +kernel
theorem d_Lw_law_190 : dec m_Lw_law 190 = .ok (.iload 5, 2) := by decide +kernel
theorem d_Lw_law_192 : dec m_Lw_law 192 = .ok (.bipush 9, 2) := by decide +kernel
theorem d_Lw_law_194 : dec m_Lw_law 194 = .ok (.ishr, 1) := by decide +kernel
theorem d_Lw_law_195 : dec m_Lw_law 195 = .ok (.iconst 1, 1) := by decide +kernel
theorem d_Lw_law_196 : dec m_Lw_law 196 = .ok (.iand, 1) := by decide +kernel
theorem d_Lw_law_197 : dec m_Lw_law 197 = .ok (.ifCond .ne 57, 3) := by decide +kernel
theorem d_Lw_law_200 : dec m_Lw_law 200 = .ok (.aload_n 1, 1) := by decide +kernel
theorem d_Lw_law_201 : dec m_Lw_law 201 = .ok (.bipush 9, 2) := by decide +kernel
theorem d_Lw_law_203 : dec m_Lw_law 203 = .ok (.invokevirtual 12, 3) := by decide +kernel
theorem d_Lw_law_206 : dec m_Lw_law 206 = .ok (.iconst 1, 1) := by decide +kernel
theorem d_Lw_law_207 : dec m_Lw_law 207 = .ok (.isub, 1) := by decide +kernel
theorem d_Lw_law_208 : dec m_Lw_law 208 = .ok (.istore 13, 2) := by decide +kernel
theorem d_Lw_law_210 : dec m_Lw_law 210 = .ok (.aload_n 1, 1) := by decide +kernel
theorem d_Lw_law_211 : dec m_Lw_law 211 = .ok (.invokevirtual 63, 3) := by decide +kernel
theorem d_Lw_law_214 : dec m_Lw_law 214 = .ok (.iload 13, 2) := by decide +kernel
theorem d_Lw_law_216 : dec m_Lw_law 216 = .ok (.if_icmp .ne 36, 3) := by decide +kernel
theorem d_Lw_law_219 : dec m_Lw_law 219 = .ok (.aload_n 1, 1) := by decide +kernel
theorem d_Lw_law_220 : dec m_Lw_law 220 = .ok (.invokestatic 69, 3) := by decide +kernel
theorem d_Lw_law_223 : dec m_Lw_law 223 = .ok (.lload 7, 2) := by decide +kernel
theorem d_Lw_law_225 : dec m_Lw_law 225 = .ok (.lcmp, 1) := by decide +kernel
theorem d_Lw_law_226 : dec m_Lw_law 226 = .ok (.ifCond .ne 26, 3) := by decide +kernel
theorem d_Lw_law_229 : dec m_Lw_law 229 = .ok (.aload_n 1, 1) := by decide +kernel
theorem d_Lw_law_230 : dec m_Lw_law 230 = .ok (.iload 5, 2) := by decide +kernel
theorem d_Lw_law_232 : dec m_Lw_law 232 = .ok (.iload 6, 2) := by decide +kernel
theorem d_Lw_law_234 : dec m_Lw_law 234 = .ok (.invokestatic 77, 3) := by decide +kernel
theorem d_Lw_law_237 : dec m_Lw_law 237 = .ok (.iload 10, 2) := by decide +kernel
theorem d_Lw_law_239 : dec m_Lw_law 239 = .ok (.if_icmp .ne 13, 3) := by decide +kernel
theorem d_Lw_law_242 : dec m_Lw_law 242 = .ok (.aload_n 1, 1) := by decide +kernel
theorem d_Lw_law_243 : dec m_Lw_law 243 = .ok (.invokestatic 69, 3) := by decide +kernel
theorem d_Lw_law_246 : dec m_Lw_law 246 = .ok (.lload 11, 2) := by decide +kernel
theorem d_Lw_law_248 : dec m_Lw_law 248 = .ok (.lcmp, 1) := by decide +kernel
theorem d_Lw_law_249 : dec m_Lw_law 249 = .ok (.ifCond .eq 5, 3) := by decide +kernel
theorem d_Lw_law_252 : dec m_Lw_law 252 = .ok (.iconst 0, 1) := by decide +kernel
theorem d_Lw_law_253 : dec m_Lw_law 253 = .ok (.ireturn, 1) := by decide +kernel
theorem d_Lw_law_254 : dec m_Lw_law 254 = .ok (.aload_n 1, 1) := by decide +kernel
theorem d_Lw_law_255 : dec m_Lw_law 255 = .ok (.invokestatic 81, 3) := by decide +kernel
theorem d_Lw_law_258 : dec m_Lw_law 258 = .ok (.ifCond .ne 5, 3) := by decide +kernel
theorem d_Lw_law_261 : dec m_Lw_law 261 = .ok (.iconst 0, 1) := by decide +kernel
theorem d_Lw_law_262 : dec m_Lw_law 262 = .ok (.ireturn, 1) := by decide +kernel
theorem d_Lw_law_263 : dec m_Lw_law 263 = .ok (.iload 5, 2) := by decide +kernel
theorem d_Lw_law_265 : dec m_Lw_law 265 = .ok (.bipush 10, 2) := by decide +kernel
theorem d_Lw_law_267 : dec m_Lw_law 267 = .ok (.ishr, 1) := by decide +kernel
theorem d_Lw_law_268 : dec m_Lw_law 268 = .ok (.bipush 7, 2) := by decide +kernel
theorem d_Lw_law_270 : dec m_Lw_law 270 = .ok (.iand, 1) := by decide +kernel
theorem d_Lw_law_271 : dec m_Lw_law 271 = .ok (.ifCond .ne 11, 3) := by decide +kernel
theorem d_Lw_law_274 : dec m_Lw_law 274 = .ok (.aload_n 1, 1) := by decide +kernel
theorem d_Lw_law_275 : dec m_Lw_law 275 = .ok (.invokevirtual 66, 3) := by decide +kernel
theorem d_Lw_law_278 : dec m_Lw_law 278 = .ok (.pop, 1) := by decide +kernel
theorem d_Lw_law_279 : dec m_Lw_law 279 = .ok (.lload 11, 2) := by decide +kernel
theorem d_Lw_law_281 : dec m_Lw_law 281 = .ok (.lstore_n 2, 1) := by decide +kernel
theorem d_Lw_law_282 : dec m_Lw_law 282 = .ok (.iinc 4 1, 3) := by decide +kernel
theorem d_Lw_law_285 : dec m_Lw_law 285 = .ok (.goto (-242), 3) := by decide +kernel
theorem d_Lw_law_288 : dec m_Lw_law 288 = .ok (.iconst 1, 1) := by decide +kernel
theorem d_Lw_law_289 : dec m_Lw_law 289 = .ok (.ireturn, 1) := by decide +kernel
end
section
/-! the words that a nest mate's links are -/
def isNest : Cond → Bool
  | .fieldLinkNest .. => true
  | .methodLinkNest .. => true
  | _ => false
abbrev nw : List Cond := lw_tbl.filter isNest
theorem nw_of {w : Cond} (i : Nat) (h : lw_tbl[i]? = some w) (hg : isNest w = true) : w ∈ nw := List.mem_filter.mpr ⟨List.mem_of_getElem? h, hg⟩
/-! the classes: their layouts are words -/
theorem in_of {C : String} {T : u_T} {N : Nat} (L : List Nat) (h : (u_ws C T N).map some = L.map (fun i => lw_tbl[i]?)) (hg : (u_ws C T N).all goodWord = true) : ∀ w ∈ u_ws C T N, w ∈ gw := by
  intro w hw
  have h1 : some w ∈ (u_ws C T N).map some := List.mem_map.mpr ⟨w, hw, rfl⟩
  rw [h] at h1
  obtain ⟨i, -, hi⟩ := List.mem_map.mp h1
  exact gw_of i hi (List.all_eq_true.mp hg w hw)
theorem in_Gm : ∀ w ∈ u_ws RX0 TX0 7, w ∈ gw := in_of [84, 86, 88, 90, 92, 94, 96] (by decide +kernel) (by decide +kernel)
theorem in_Hi : ∀ w ∈ u_ws RX1 TX1 2, w ∈ gw := in_of [170, 172] (by decide +kernel) (by decide +kernel)
theorem in_Pf : ∀ w ∈ u_ws RX2 TX2 1, w ∈ gw := in_of [227] (by decide +kernel) (by decide +kernel)
theorem in_Rd : ∀ w ∈ u_ws RX3 TX3 3, w ∈ gw := in_of [199, 201, 203] (by decide +kernel) (by decide +kernel)
theorem in_Ro : ∀ w ∈ u_ws RX4 TX4 1, w ∈ gw := in_of [215] (by decide +kernel) (by decide +kernel)
theorem in_Rw : ∀ w ∈ u_ws RX5 TX5 1, w ∈ gw := in_of [57] (by decide +kernel) (by decide +kernel)
theorem in_St : ∀ w ∈ u_ws RX6 TX6 2, w ∈ gw := in_of [153, 155] (by decide +kernel) (by decide +kernel)
theorem in_Tx : ∀ w ∈ u_ws RX7 TX7 2, w ∈ gw := in_of [183, 185] (by decide +kernel) (by decide +kernel)
theorem in_Tr : ∀ w ∈ u_ws RX8 TX8 10, w ∈ gw := in_of [128, 130, 132, 134, 136, 138, 140, 142, 144, 146] (by decide +kernel) (by decide +kernel)
theorem in_Cp : ∀ w ∈ u_ws RX9 TX9 8, w ∈ gw := in_of [238, 240, 242, 244, 246, 248, 250, 252] (by decide +kernel) (by decide +kernel)
theorem cls_ok : ∀ (ci : Nat) (C : String) (T : u_T) (N : Nat), vwCl[ci]? = some (C, T, N) → (∀ w ∈ u_ws C T N, w ∈ gw) ∧ (∃ ty : Nat → FieldType, ∀ k, k < N → parseFieldDescriptor (T k).2.2.1 = some (ty k)) ∧ (∀ a, a < N → ∀ b, b < N → a ≠ b → (T a).2.1 ≠ (T b).2.1) := by
  intro ci C T N h
  match ci, h with
  | 0, h => cases h; exact ⟨in_Gm, ⟨_, tyX0_ok⟩, nmX0⟩
  | 1, h => cases h; exact ⟨in_Hi, ⟨_, tyX1_ok⟩, nmX1⟩
  | 2, h => cases h; exact ⟨in_Pf, ⟨_, tyX2_ok⟩, nmX2⟩
  | 3, h => cases h; exact ⟨in_Rd, ⟨_, tyX3_ok⟩, nmX3⟩
  | 4, h => cases h; exact ⟨in_Ro, ⟨_, tyX4_ok⟩, nmX4⟩
  | 5, h => cases h; exact ⟨in_Rw, ⟨_, tyX5_ok⟩, nmX5⟩
  | 6, h => cases h; exact ⟨in_St, ⟨_, tyX6_ok⟩, nmX6⟩
  | 7, h => cases h; exact ⟨in_Tx, ⟨_, tyX7_ok⟩, nmX7⟩
  | 8, h => cases h; exact ⟨in_Tr, ⟨_, tyX8_ok⟩, nmX8⟩
  | 9, h => cases h; exact ⟨in_Cp, ⟨_, tyX9_ok⟩, nmX9⟩
  | k + 10, h => simp [vwCl] at h
/-- the field that entry idx of own's pool names is field k of class ci -/
def FL (own : String) (idx ci k : Nat) (kz : Int) : Prop := ∃ (C : String) (T : u_T) (N : Nat), vwCl[ci]? = some (C, T, N) ∧ k < N ∧ kz = (k : Int) ∧ (Cond.fieldLink own idx (T k).1 (T k).2.1 (T k).2.2.1 ∈ gw ∨ ∃ host, Cond.fieldLinkNest own idx (T k).1 (T k).2.1 (T k).2.2.1 host ∈ nw)
/-- what kind field k of class ci is of -/
def FTY (ci k : Nat) (ty : FieldType) (fin : Bool) : Prop := ∃ (C : String) (T : u_T) (N : Nat), vwCl[ci]? = some (C, T, N) ∧ k < N ∧ parseFieldDescriptor (T k).2.2.1 = some ty ∧ (T k).2.2.2 = fin ∧ (T k).1 = C
theorem t_Gm_turns : FTY 0 0 (tyX0 0) true := ⟨RX0, TX0, 7, rfl, by decide, by decide +kernel, rfl, rfl⟩
theorem t_Gm_marks : FTY 0 1 (tyX0 1) true := ⟨RX0, TX0, 7, rfl, by decide, by decide +kernel, rfl, rfl⟩
theorem t_Gm_proveGuesses : FTY 0 2 (tyX0 2) true := ⟨RX0, TX0, 7, rfl, by decide, by decide +kernel, rfl, rfl⟩
theorem t_Gm_disproveGuesses : FTY 0 3 (tyX0 3) true := ⟨RX0, TX0, 7, rfl, by decide, by decide +kernel, rfl, rfl⟩
theorem t_Gm_moveCounts : FTY 0 4 (tyX0 4) true := ⟨RX0, TX0, 7, rfl, by decide, by decide +kernel, rfl, rfl⟩
theorem t_Gm_targets : FTY 0 5 (tyX0 5) true := ⟨RX0, TX0, 7, rfl, by decide, by decide +kernel, rfl, rfl⟩
theorem t_Gm_moves : FTY 0 6 (tyX0 6) false := ⟨RX0, TX0, 7, rfl, by decide, by decide +kernel, rfl, rfl⟩
theorem t_Hi_states : FTY 1 0 (tyX1 0) true := ⟨RX1, TX1, 2, rfl, by decide, by decide +kernel, rfl, rfl⟩
theorem t_Hi_size : FTY 1 1 (tyX1 1) false := ⟨RX1, TX1, 2, rfl, by decide, by decide +kernel, rfl, rfl⟩
theorem t_Pf_members : FTY 2 0 (tyX2 0) true := ⟨RX2, TX2, 1, rfl, by decide, by decide +kernel, rfl, rfl⟩
theorem t_Rd_text : FTY 3 0 (tyX3 0) true := ⟨RX3, TX3, 3, rfl, by decide, by decide +kernel, rfl, rfl⟩
theorem t_Rd_draft : FTY 3 1 (tyX3 1) true := ⟨RX3, TX3, 3, rfl, by decide, by decide +kernel, rfl, rfl⟩
theorem t_Rd_at : FTY 3 2 (tyX3 2) false := ⟨RX3, TX3, 3, rfl, by decide, by decide +kernel, rfl, rfl⟩
theorem t_Ro_wonIn : FTY 4 0 (tyX4 0) true := ⟨RX4, TX4, 1, rfl, by decide, by decide +kernel, rfl, rfl⟩
theorem t_Rw_cells : FTY 5 0 (tyX5 0) true := ⟨RX5, TX5, 1, rfl, by decide, by decide +kernel, rfl, rfl⟩
theorem t_St_game : FTY 6 0 (tyX6 0) true := ⟨RX6, TX6, 2, rfl, by decide, by decide +kernel, rfl, rfl⟩
theorem t_St_tree : FTY 6 1 (tyX6 1) true := ⟨RX6, TX6, 2, rfl, by decide, by decide +kernel, rfl, rfl⟩
theorem t_Tx_signs : FTY 7 0 (tyX7 0) true := ⟨RX7, TX7, 2, rfl, by decide, by decide +kernel, rfl, rfl⟩
theorem t_Tx_length : FTY 7 1 (tyX7 1) false := ⟨RX7, TX7, 2, rfl, by decide, by decide +kernel, rfl, rfl⟩
theorem t_Tr_game : FTY 8 0 (tyX8 0) true := ⟨RX8, TX8, 10, rfl, by decide, by decide +kernel, rfl, rfl⟩
theorem t_Tr_positions : FTY 8 1 (tyX8 1) true := ⟨RX8, TX8, 10, rfl, by decide, by decide +kernel, rfl, rfl⟩
theorem t_Tr_parents : FTY 8 2 (tyX8 2) true := ⟨RX8, TX8, 10, rfl, by decide, by decide +kernel, rfl, rfl⟩
theorem t_Tr_depths : FTY 8 3 (tyX8 3) true := ⟨RX8, TX8, 10, rfl, by decide, by decide +kernel, rfl, rfl⟩
theorem t_Tr_proves : FTY 8 4 (tyX8 4) true := ⟨RX8, TX8, 10, rfl, by decide, by decide +kernel, rfl, rfl⟩
theorem t_Tr_disproves : FTY 8 5 (tyX8 5) true := ⟨RX8, TX8, 10, rfl, by decide, by decide +kernel, rfl, rfl⟩
theorem t_Tr_childCounts : FTY 8 6 (tyX8 6) true := ⟨RX8, TX8, 10, rfl, by decide, by decide +kernel, rfl, rfl⟩
theorem t_Tr_firstChildren : FTY 8 7 (tyX8 7) true := ⟨RX8, TX8, 10, rfl, by decide, by decide +kernel, rfl, rfl⟩
theorem t_Tr_loops : FTY 8 8 (tyX8 8) true := ⟨RX8, TX8, 10, rfl, by decide, by decide +kernel, rfl, rfl⟩
theorem t_Tr_size : FTY 8 9 (tyX8 9) false := ⟨RX8, TX8, 10, rfl, by decide, by decide +kernel, rfl, rfl⟩
theorem t_Cp_now : FTY 9 0 (tyX9 0) true := ⟨RX9, TX9, 8, rfl, by decide, by decide +kernel, rfl, rfl⟩
theorem t_Cp_snapshot : FTY 9 1 (tyX9 1) true := ⟨RX9, TX9, 8, rfl, by decide, by decide +kernel, rfl, rfl⟩
theorem t_Cp_hasSnapshot : FTY 9 2 (tyX9 2) false := ⟨RX9, TX9, 8, rfl, by decide, by decide +kernel, rfl, rfl⟩
theorem t_Cp_history : FTY 9 3 (tyX9 3) true := ⟨RX9, TX9, 8, rfl, by decide, by decide +kernel, rfl, rfl⟩
theorem t_Cp_text : FTY 9 4 (tyX9 4) true := ⟨RX9, TX9, 8, rfl, by decide, by decide +kernel, rfl, rfl⟩
theorem t_Cp_reader : FTY 9 5 (tyX9 5) true := ⟨RX9, TX9, 8, rfl, by decide, by decide +kernel, rfl, rfl⟩
theorem t_Cp_rounds : FTY 9 6 (tyX9 6) true := ⟨RX9, TX9, 8, rfl, by decide, by decide +kernel, rfl, rfl⟩
theorem t_Cp_proof : FTY 9 7 (tyX9 7) true := ⟨RX9, TX9, 8, rfl, by decide, by decide +kernel, rfl, rfl⟩
theorem f_Rw_13 : FL RX5 13 5 0 0 := ⟨RX5, TX5, 1, rfl, by decide, rfl, Or.inl (gw_of 56 (by decide +kernel) (by decide +kernel))⟩
theorem f_Gm_14 : FL RX0 14 0 0 0 := ⟨RX0, TX0, 7, rfl, by decide, rfl, Or.inl (gw_of 65 (by decide +kernel) (by decide +kernel))⟩
theorem f_Cp_80 : FL RX9 80 0 0 0 := ⟨RX0, TX0, 7, rfl, by decide, rfl, Or.inr ⟨"CheapProofs", nw_of 66 (by decide +kernel) (by decide +kernel)⟩⟩
theorem f_Ro_61 : FL RX4 61 0 0 0 := ⟨RX0, TX0, 7, rfl, by decide, rfl, Or.inr ⟨"CheapProofs", nw_of 67 (by decide +kernel) (by decide +kernel)⟩⟩
theorem f_Tr_57 : FL RX8 57 0 0 0 := ⟨RX0, TX0, 7, rfl, by decide, rfl, Or.inr ⟨"CheapProofs", nw_of 68 (by decide +kernel) (by decide +kernel)⟩⟩
theorem f_Gm_20 : FL RX0 20 0 1 1 := ⟨RX0, TX0, 7, rfl, by decide, rfl, Or.inl (gw_of 69 (by decide +kernel) (by decide +kernel))⟩
theorem f_Cp_68 : FL RX9 68 0 1 1 := ⟨RX0, TX0, 7, rfl, by decide, rfl, Or.inr ⟨"CheapProofs", nw_of 70 (by decide +kernel) (by decide +kernel)⟩⟩
theorem f_Gm_23 : FL RX0 23 0 2 2 := ⟨RX0, TX0, 7, rfl, by decide, rfl, Or.inl (gw_of 71 (by decide +kernel) (by decide +kernel))⟩
theorem f_Cp_103 : FL RX9 103 0 2 2 := ⟨RX0, TX0, 7, rfl, by decide, rfl, Or.inr ⟨"CheapProofs", nw_of 72 (by decide +kernel) (by decide +kernel)⟩⟩
theorem f_Tr_97 : FL RX8 97 0 2 2 := ⟨RX0, TX0, 7, rfl, by decide, rfl, Or.inr ⟨"CheapProofs", nw_of 73 (by decide +kernel) (by decide +kernel)⟩⟩
theorem f_Gm_26 : FL RX0 26 0 3 3 := ⟨RX0, TX0, 7, rfl, by decide, rfl, Or.inl (gw_of 74 (by decide +kernel) (by decide +kernel))⟩
theorem f_Cp_106 : FL RX9 106 0 3 3 := ⟨RX0, TX0, 7, rfl, by decide, rfl, Or.inr ⟨"CheapProofs", nw_of 75 (by decide +kernel) (by decide +kernel)⟩⟩
theorem f_Tr_100 : FL RX8 100 0 3 3 := ⟨RX0, TX0, 7, rfl, by decide, rfl, Or.inr ⟨"CheapProofs", nw_of 76 (by decide +kernel) (by decide +kernel)⟩⟩
theorem f_Gm_29 : FL RX0 29 0 4 4 := ⟨RX0, TX0, 7, rfl, by decide, rfl, Or.inl (gw_of 77 (by decide +kernel) (by decide +kernel))⟩
theorem f_Ro_47 : FL RX4 47 0 4 4 := ⟨RX0, TX0, 7, rfl, by decide, rfl, Or.inr ⟨"CheapProofs", nw_of 78 (by decide +kernel) (by decide +kernel)⟩⟩
theorem f_Cp_120 : FL RX9 120 0 4 4 := ⟨RX0, TX0, 7, rfl, by decide, rfl, Or.inr ⟨"CheapProofs", nw_of 79 (by decide +kernel) (by decide +kernel)⟩⟩
theorem f_Tr_119 : FL RX8 119 0 4 4 := ⟨RX0, TX0, 7, rfl, by decide, rfl, Or.inr ⟨"CheapProofs", nw_of 80 (by decide +kernel) (by decide +kernel)⟩⟩
theorem f_Gm_32 : FL RX0 32 0 5 5 := ⟨RX0, TX0, 7, rfl, by decide, rfl, Or.inl (gw_of 81 (by decide +kernel) (by decide +kernel))⟩
theorem f_Gm_46 : FL RX0 46 0 6 6 := ⟨RX0, TX0, 7, rfl, by decide, rfl, Or.inl (gw_of 82 (by decide +kernel) (by decide +kernel))⟩
theorem f_Cp_113 : FL RX9 113 0 6 6 := ⟨RX0, TX0, 7, rfl, by decide, rfl, Or.inr ⟨"CheapProofs", nw_of 83 (by decide +kernel) (by decide +kernel)⟩⟩
theorem f_Tr_41 : FL RX8 41 8 0 0 := ⟨RX8, TX8, 10, rfl, by decide, rfl, Or.inl (gw_of 107 (by decide +kernel) (by decide +kernel))⟩
theorem f_Tr_14 : FL RX8 14 8 1 1 := ⟨RX8, TX8, 10, rfl, by decide, rfl, Or.inl (gw_of 108 (by decide +kernel) (by decide +kernel))⟩
theorem f_Cp_191 : FL RX9 191 8 1 1 := ⟨RX8, TX8, 10, rfl, by decide, rfl, Or.inr ⟨"CheapProofs", nw_of 109 (by decide +kernel) (by decide +kernel)⟩⟩
theorem f_Tr_20 : FL RX8 20 8 2 2 := ⟨RX8, TX8, 10, rfl, by decide, rfl, Or.inl (gw_of 110 (by decide +kernel) (by decide +kernel))⟩
theorem f_Cp_194 : FL RX9 194 8 2 2 := ⟨RX8, TX8, 10, rfl, by decide, rfl, Or.inr ⟨"CheapProofs", nw_of 111 (by decide +kernel) (by decide +kernel)⟩⟩
theorem f_Tr_23 : FL RX8 23 8 3 3 := ⟨RX8, TX8, 10, rfl, by decide, rfl, Or.inl (gw_of 112 (by decide +kernel) (by decide +kernel))⟩
theorem f_Cp_206 : FL RX9 206 8 3 3 := ⟨RX8, TX8, 10, rfl, by decide, rfl, Or.inr ⟨"CheapProofs", nw_of 113 (by decide +kernel) (by decide +kernel)⟩⟩
theorem f_Tr_26 : FL RX8 26 8 4 4 := ⟨RX8, TX8, 10, rfl, by decide, rfl, Or.inl (gw_of 114 (by decide +kernel) (by decide +kernel))⟩
theorem f_Cp_141 : FL RX9 141 8 4 4 := ⟨RX8, TX8, 10, rfl, by decide, rfl, Or.inr ⟨"CheapProofs", nw_of 115 (by decide +kernel) (by decide +kernel)⟩⟩
theorem f_Tr_29 : FL RX8 29 8 5 5 := ⟨RX8, TX8, 10, rfl, by decide, rfl, Or.inl (gw_of 116 (by decide +kernel) (by decide +kernel))⟩
theorem f_Cp_197 : FL RX9 197 8 5 5 := ⟨RX8, TX8, 10, rfl, by decide, rfl, Or.inr ⟨"CheapProofs", nw_of 117 (by decide +kernel) (by decide +kernel)⟩⟩
theorem f_Tr_32 : FL RX8 32 8 6 6 := ⟨RX8, TX8, 10, rfl, by decide, rfl, Or.inl (gw_of 118 (by decide +kernel) (by decide +kernel))⟩
theorem f_Cp_200 : FL RX9 200 8 6 6 := ⟨RX8, TX8, 10, rfl, by decide, rfl, Or.inr ⟨"CheapProofs", nw_of 119 (by decide +kernel) (by decide +kernel)⟩⟩
theorem f_Tr_35 : FL RX8 35 8 7 7 := ⟨RX8, TX8, 10, rfl, by decide, rfl, Or.inl (gw_of 120 (by decide +kernel) (by decide +kernel))⟩
theorem f_Pf_43 : FL RX2 43 8 7 7 := ⟨RX8, TX8, 10, rfl, by decide, rfl, Or.inr ⟨"CheapProofs", nw_of 121 (by decide +kernel) (by decide +kernel)⟩⟩
theorem f_Cp_203 : FL RX9 203 8 7 7 := ⟨RX8, TX8, 10, rfl, by decide, rfl, Or.inr ⟨"CheapProofs", nw_of 122 (by decide +kernel) (by decide +kernel)⟩⟩
theorem f_Tr_38 : FL RX8 38 8 8 8 := ⟨RX8, TX8, 10, rfl, by decide, rfl, Or.inl (gw_of 123 (by decide +kernel) (by decide +kernel))⟩
theorem f_Cp_209 : FL RX9 209 8 8 8 := ⟨RX8, TX8, 10, rfl, by decide, rfl, Or.inr ⟨"CheapProofs", nw_of 124 (by decide +kernel) (by decide +kernel)⟩⟩
theorem f_Tr_49 : FL RX8 49 8 9 9 := ⟨RX8, TX8, 10, rfl, by decide, rfl, Or.inl (gw_of 125 (by decide +kernel) (by decide +kernel))⟩
theorem f_Pf_53 : FL RX2 53 8 9 9 := ⟨RX8, TX8, 10, rfl, by decide, rfl, Or.inr ⟨"CheapProofs", nw_of 126 (by decide +kernel) (by decide +kernel)⟩⟩
theorem f_Cp_229 : FL RX9 229 8 9 9 := ⟨RX8, TX8, 10, rfl, by decide, rfl, Or.inr ⟨"CheapProofs", nw_of 127 (by decide +kernel) (by decide +kernel)⟩⟩
theorem f_St_10 : FL RX6 10 6 0 0 := ⟨RX6, TX6, 2, rfl, by decide, rfl, Or.inl (gw_of 149 (by decide +kernel) (by decide +kernel))⟩
theorem f_Cp_64 : FL RX9 64 6 0 0 := ⟨RX6, TX6, 2, rfl, by decide, rfl, Or.inr ⟨"CheapProofs", nw_of 150 (by decide +kernel) (by decide +kernel)⟩⟩
theorem f_St_21 : FL RX6 21 6 1 1 := ⟨RX6, TX6, 2, rfl, by decide, rfl, Or.inl (gw_of 151 (by decide +kernel) (by decide +kernel))⟩
theorem f_Cp_91 : FL RX9 91 6 1 1 := ⟨RX6, TX6, 2, rfl, by decide, rfl, Or.inr ⟨"CheapProofs", nw_of 152 (by decide +kernel) (by decide +kernel)⟩⟩
theorem f_Hi_11 : FL RX1 11 1 0 0 := ⟨RX1, TX1, 2, rfl, by decide, rfl, Or.inl (gw_of 167 (by decide +kernel) (by decide +kernel))⟩
theorem f_Hi_18 : FL RX1 18 1 1 1 := ⟨RX1, TX1, 2, rfl, by decide, rfl, Or.inl (gw_of 168 (by decide +kernel) (by decide +kernel))⟩
theorem f_Cp_164 : FL RX9 164 1 1 1 := ⟨RX1, TX1, 2, rfl, by decide, rfl, Or.inr ⟨"CheapProofs", nw_of 169 (by decide +kernel) (by decide +kernel)⟩⟩
theorem f_Tx_9 : FL RX7 9 7 0 0 := ⟨RX7, TX7, 2, rfl, by decide, rfl, Or.inl (gw_of 181 (by decide +kernel) (by decide +kernel))⟩
theorem f_Cp_160 : FL RX9 160 7 1 1 := ⟨RX7, TX7, 2, rfl, by decide, rfl, Or.inr ⟨"CheapProofs", nw_of 182 (by decide +kernel) (by decide +kernel)⟩⟩
theorem f_Rd_18 : FL RX3 18 3 0 0 := ⟨RX3, TX3, 3, rfl, by decide, rfl, Or.inl (gw_of 197 (by decide +kernel) (by decide +kernel))⟩
theorem f_Rd_12 : FL RX3 12 3 1 1 := ⟨RX3, TX3, 3, rfl, by decide, rfl, Or.inl (gw_of 198 (by decide +kernel) (by decide +kernel))⟩
theorem f_Ro_14 : FL RX4 14 4 0 0 := ⟨RX4, TX4, 1, rfl, by decide, rfl, Or.inl (gw_of 214 (by decide +kernel) (by decide +kernel))⟩
theorem f_Pf_14 : FL RX2 14 2 0 0 := ⟨RX2, TX2, 1, rfl, by decide, rfl, Or.inl (gw_of 226 (by decide +kernel) (by decide +kernel))⟩
theorem f_Cp_10 : FL RX9 10 9 0 0 := ⟨RX9, TX9, 8, rfl, by decide, rfl, Or.inl (gw_of 230 (by decide +kernel) (by decide +kernel))⟩
theorem f_Cp_16 : FL RX9 16 9 1 1 := ⟨RX9, TX9, 8, rfl, by decide, rfl, Or.inl (gw_of 231 (by decide +kernel) (by decide +kernel))⟩
theorem f_Cp_19 : FL RX9 19 9 2 2 := ⟨RX9, TX9, 8, rfl, by decide, rfl, Or.inl (gw_of 232 (by decide +kernel) (by decide +kernel))⟩
theorem f_Cp_26 : FL RX9 26 9 3 3 := ⟨RX9, TX9, 8, rfl, by decide, rfl, Or.inl (gw_of 233 (by decide +kernel) (by decide +kernel))⟩
theorem f_Cp_33 : FL RX9 33 9 4 4 := ⟨RX9, TX9, 8, rfl, by decide, rfl, Or.inl (gw_of 234 (by decide +kernel) (by decide +kernel))⟩
theorem f_Cp_42 : FL RX9 42 9 5 5 := ⟨RX9, TX9, 8, rfl, by decide, rfl, Or.inl (gw_of 235 (by decide +kernel) (by decide +kernel))⟩
theorem f_Cp_49 : FL RX9 49 9 6 6 := ⟨RX9, TX9, 8, rfl, by decide, rfl, Or.inl (gw_of 236 (by decide +kernel) (by decide +kernel))⟩
theorem f_Cp_56 : FL RX9 56 9 7 7 := ⟨RX9, TX9, 8, rfl, by decide, rfl, Or.inl (gw_of 237 (by decide +kernel) (by decide +kernel))⟩
/-! the methods: what the tables say of each -/
def MB (my : MR) (n : Nat) : Prop := Cond.code my.2.1 my.2.2.1 my.2.2.2.1 my.2.2.2.2 ∈ gw ∧ Cond.initialized my.2.1.cls ∈ gw ∧ my.2.1.cls = my.1 ∧ (my.2.1.cls ≠ "java/lang/invoke/MethodHandle" ∧ my.2.1.cls ≠ "java/lang/invoke/VarHandle" ∧ (parseMethodDescriptor my.2.1.desc).map (fun d => d.parameters.length) = some n) ∧ plainName my.2.1.cls = true
def MV (my : MR) (n : Nat) : Prop := MB my n ∧ Cond.instanceMethod my.2.1 ∈ gw ∧ Cond.selects my.1 my.2.1 my.2.1 ∈ gw
def MI (my : MR) (n : Nat) : Prop := MB my n ∧ Cond.instanceMethod my.2.1 ∈ gw ∧ my.2.1.name = "<init>"
def MS (my : MR) (n : Nat) : Prop := MB my n ∧ Cond.static my.2.1 ∈ gw
theorem q_Gm_init : MI m_Gm_init 0 := ⟨⟨gw_of 45 (by decide +kernel) (by decide +kernel), gw_of 17 (by decide +kernel) (by decide +kernel), rfl, ⟨by decide +kernel, by decide +kernel, by decide +kernel⟩, by decide +kernel⟩, gw_of 44 (by decide +kernel) (by decide +kernel), by decide +kernel⟩
theorem q_Gm_copyFrom : MV m_Gm_copyFrom 1 := ⟨⟨gw_of 277 (by decide +kernel) (by decide +kernel), gw_of 17 (by decide +kernel) (by decide +kernel), rfl, ⟨by decide +kernel, by decide +kernel, by decide +kernel⟩, by decide +kernel⟩, gw_of 275 (by decide +kernel) (by decide +kernel), gw_of 276 (by decide +kernel) (by decide +kernel)⟩
theorem q_Gm_copyAllButGuesses : MV m_Gm_copyAllButGuesses 1 := ⟨⟨gw_of 281 (by decide +kernel) (by decide +kernel), gw_of 17 (by decide +kernel) (by decide +kernel), rfl, ⟨by decide +kernel, by decide +kernel, by decide +kernel⟩, by decide +kernel⟩, gw_of 279 (by decide +kernel) (by decide +kernel), gw_of 280 (by decide +kernel) (by decide +kernel)⟩
theorem q_Gm_isEnd : MV m_Gm_isEnd 1 := ⟨⟨gw_of 378 (by decide +kernel) (by decide +kernel), gw_of 17 (by decide +kernel) (by decide +kernel), rfl, ⟨by decide +kernel, by decide +kernel, by decide +kernel⟩, by decide +kernel⟩, gw_of 376 (by decide +kernel) (by decide +kernel), gw_of 377 (by decide +kernel) (by decide +kernel)⟩
theorem q_Gm_isWonEnd : MV m_Gm_isWonEnd 1 := ⟨⟨gw_of 360 (by decide +kernel) (by decide +kernel), gw_of 17 (by decide +kernel) (by decide +kernel), rfl, ⟨by decide +kernel, by decide +kernel, by decide +kernel⟩, by decide +kernel⟩, gw_of 358 (by decide +kernel) (by decide +kernel), gw_of 359 (by decide +kernel) (by decide +kernel)⟩
theorem q_Gm_targetOf : MV m_Gm_targetOf 2 := ⟨⟨gw_of 386 (by decide +kernel) (by decide +kernel), gw_of 17 (by decide +kernel) (by decide +kernel), rfl, ⟨by decide +kernel, by decide +kernel, by decide +kernel⟩, by decide +kernel⟩, gw_of 384 (by decide +kernel) (by decide +kernel), gw_of 385 (by decide +kernel) (by decide +kernel)⟩
theorem q_Gm_rankOf : MV m_Gm_rankOf 2 := ⟨⟨gw_of 440 (by decide +kernel) (by decide +kernel), gw_of 17 (by decide +kernel) (by decide +kernel), rfl, ⟨by decide +kernel, by decide +kernel, by decide +kernel⟩, by decide +kernel⟩, gw_of 438 (by decide +kernel) (by decide +kernel), gw_of 439 (by decide +kernel) (by decide +kernel)⟩
theorem q_Gm_append : MV m_Gm_append 2 := ⟨⟨gw_of 445 (by decide +kernel) (by decide +kernel), gw_of 17 (by decide +kernel) (by decide +kernel), rfl, ⟨by decide +kernel, by decide +kernel, by decide +kernel⟩, by decide +kernel⟩, gw_of 443 (by decide +kernel) (by decide +kernel), gw_of 444 (by decide +kernel) (by decide +kernel)⟩
theorem q_Gm_removeAt : MV m_Gm_removeAt 2 := ⟨⟨gw_of 458 (by decide +kernel) (by decide +kernel), gw_of 17 (by decide +kernel) (by decide +kernel), rfl, ⟨by decide +kernel, by decide +kernel, by decide +kernel⟩, by decide +kernel⟩, gw_of 456 (by decide +kernel) (by decide +kernel), gw_of 457 (by decide +kernel) (by decide +kernel)⟩
theorem q_Hi_init : MI m_Hi_init 0 := ⟨⟨gw_of 162 (by decide +kernel) (by decide +kernel), gw_of 21 (by decide +kernel) (by decide +kernel), rfl, ⟨by decide +kernel, by decide +kernel, by decide +kernel⟩, by decide +kernel⟩, gw_of 161 (by decide +kernel) (by decide +kernel), by decide +kernel⟩
theorem q_Hi_remember : MV m_Hi_remember 1 := ⟨⟨gw_of 309 (by decide +kernel) (by decide +kernel), gw_of 21 (by decide +kernel) (by decide +kernel), rfl, ⟨by decide +kernel, by decide +kernel, by decide +kernel⟩, by decide +kernel⟩, gw_of 307 (by decide +kernel) (by decide +kernel), gw_of 308 (by decide +kernel) (by decide +kernel)⟩
theorem q_Hi_takeLatest : MV m_Hi_takeLatest 1 := ⟨⟨gw_of 262 (by decide +kernel) (by decide +kernel), gw_of 21 (by decide +kernel) (by decide +kernel), rfl, ⟨by decide +kernel, by decide +kernel, by decide +kernel⟩, by decide +kernel⟩, gw_of 260 (by decide +kernel) (by decide +kernel), gw_of 261 (by decide +kernel) (by decide +kernel)⟩
theorem q_Hi_stateAt : MV m_Hi_stateAt 1 := ⟨⟨gw_of 266 (by decide +kernel) (by decide +kernel), gw_of 21 (by decide +kernel) (by decide +kernel), rfl, ⟨by decide +kernel, by decide +kernel, by decide +kernel⟩, by decide +kernel⟩, gw_of 265 (by decide +kernel) (by decide +kernel), gw_of 0 (by decide +kernel) (by decide +kernel)⟩
theorem q_Hi_copy : MS m_Hi_copy 2 := ⟨⟨gw_of 269 (by decide +kernel) (by decide +kernel), gw_of 21 (by decide +kernel) (by decide +kernel), rfl, ⟨by decide +kernel, by decide +kernel, by decide +kernel⟩, by decide +kernel⟩, gw_of 268 (by decide +kernel) (by decide +kernel)⟩
theorem q_Hi_dropOldest : MV m_Hi_dropOldest 0 := ⟨⟨gw_of 313 (by decide +kernel) (by decide +kernel), gw_of 21 (by decide +kernel) (by decide +kernel), rfl, ⟨by decide +kernel, by decide +kernel, by decide +kernel⟩, by decide +kernel⟩, gw_of 312 (by decide +kernel) (by decide +kernel), gw_of 1 (by decide +kernel) (by decide +kernel)⟩
theorem q_Pf_init : MI m_Pf_init 0 := ⟨⟨gw_of 222 (by decide +kernel) (by decide +kernel), gw_of 25 (by decide +kernel) (by decide +kernel), rfl, ⟨by decide +kernel, by decide +kernel, by decide +kernel⟩, by decide +kernel⟩, gw_of 221 (by decide +kernel) (by decide +kernel), by decide +kernel⟩
theorem q_Pf_winnerOf : MS m_Pf_winnerOf 1 := ⟨⟨gw_of 568 (by decide +kernel) (by decide +kernel), gw_of 25 (by decide +kernel) (by decide +kernel), rfl, ⟨by decide +kernel, by decide +kernel, by decide +kernel⟩, by decide +kernel⟩, gw_of 567 (by decide +kernel) (by decide +kernel)⟩
theorem q_Pf_sizeOf : MV m_Pf_sizeOf 1 := ⟨⟨gw_of 565 (by decide +kernel) (by decide +kernel), gw_of 25 (by decide +kernel) (by decide +kernel), rfl, ⟨by decide +kernel, by decide +kernel, by decide +kernel⟩, by decide +kernel⟩, gw_of 563 (by decide +kernel) (by decide +kernel), gw_of 564 (by decide +kernel) (by decide +kernel)⟩
theorem q_Pf_takeChildren : MV m_Pf_takeChildren 3 := ⟨⟨gw_of 576 (by decide +kernel) (by decide +kernel), gw_of 25 (by decide +kernel) (by decide +kernel), rfl, ⟨by decide +kernel, by decide +kernel, by decide +kernel⟩, by decide +kernel⟩, gw_of 575 (by decide +kernel) (by decide +kernel), gw_of 13 (by decide +kernel) (by decide +kernel)⟩
theorem q_Rd_init : MI m_Rd_init 1 := ⟨⟨gw_of 193 (by decide +kernel) (by decide +kernel), gw_of 23 (by decide +kernel) (by decide +kernel), rfl, ⟨by decide +kernel, by decide +kernel, by decide +kernel⟩, by decide +kernel⟩, gw_of 192 (by decide +kernel) (by decide +kernel), by decide +kernel⟩
theorem q_Ro_init : MI m_Ro_init 0 := ⟨⟨gw_of 210 (by decide +kernel) (by decide +kernel), gw_of 24 (by decide +kernel) (by decide +kernel), rfl, ⟨by decide +kernel, by decide +kernel, by decide +kernel⟩, by decide +kernel⟩, gw_of 209 (by decide +kernel) (by decide +kernel), by decide +kernel⟩
theorem q_Ro_workOut : MV m_Ro_workOut 1 := ⟨⟨gw_of 355 (by decide +kernel) (by decide +kernel), gw_of 24 (by decide +kernel) (by decide +kernel), rfl, ⟨by decide +kernel, by decide +kernel, by decide +kernel⟩, by decide +kernel⟩, gw_of 353 (by decide +kernel) (by decide +kernel), gw_of 354 (by decide +kernel) (by decide +kernel)⟩
theorem q_Ro_playRound : MV m_Ro_playRound 2 := ⟨⟨gw_of 369 (by decide +kernel) (by decide +kernel), gw_of 24 (by decide +kernel) (by decide +kernel), rfl, ⟨by decide +kernel, by decide +kernel, by decide +kernel⟩, by decide +kernel⟩, gw_of 368 (by decide +kernel) (by decide +kernel), gw_of 2 (by decide +kernel) (by decide +kernel)⟩
theorem q_Ro_isWonBy : MV m_Ro_isWonBy 3 := ⟨⟨gw_of 382 (by decide +kernel) (by decide +kernel), gw_of 24 (by decide +kernel) (by decide +kernel), rfl, ⟨by decide +kernel, by decide +kernel, by decide +kernel⟩, by decide +kernel⟩, gw_of 381 (by decide +kernel) (by decide +kernel), gw_of 3 (by decide +kernel) (by decide +kernel)⟩
theorem q_Ro_isWon : MV m_Ro_isWon 1 := ⟨⟨gw_of 373 (by decide +kernel) (by decide +kernel), gw_of 24 (by decide +kernel) (by decide +kernel), rfl, ⟨by decide +kernel, by decide +kernel, by decide +kernel⟩, by decide +kernel⟩, gw_of 371 (by decide +kernel) (by decide +kernel), gw_of 372 (by decide +kernel) (by decide +kernel)⟩
theorem q_Ro_roundOf : MV m_Ro_roundOf 1 := ⟨⟨gw_of 390 (by decide +kernel) (by decide +kernel), gw_of 24 (by decide +kernel) (by decide +kernel), rfl, ⟨by decide +kernel, by decide +kernel, by decide +kernel⟩, by decide +kernel⟩, gw_of 388 (by decide +kernel) (by decide +kernel), gw_of 389 (by decide +kernel) (by decide +kernel)⟩
theorem q_Ro_wonPositions : MV m_Ro_wonPositions 0 := ⟨⟨gw_of 394 (by decide +kernel) (by decide +kernel), gw_of 24 (by decide +kernel) (by decide +kernel), rfl, ⟨by decide +kernel, by decide +kernel, by decide +kernel⟩, by decide +kernel⟩, gw_of 392 (by decide +kernel) (by decide +kernel), gw_of 393 (by decide +kernel) (by decide +kernel)⟩
theorem q_Rw_init : MI m_Rw_init 1 := ⟨⟨gw_of 51 (by decide +kernel) (by decide +kernel), gw_of 18 (by decide +kernel) (by decide +kernel), rfl, ⟨by decide +kernel, by decide +kernel, by decide +kernel⟩, by decide +kernel⟩, gw_of 50 (by decide +kernel) (by decide +kernel), by decide +kernel⟩
theorem q_Rw_get : MV m_Rw_get 1 := ⟨⟨gw_of 328 (by decide +kernel) (by decide +kernel), gw_of 18 (by decide +kernel) (by decide +kernel), rfl, ⟨by decide +kernel, by decide +kernel, by decide +kernel⟩, by decide +kernel⟩, gw_of 326 (by decide +kernel) (by decide +kernel), gw_of 327 (by decide +kernel) (by decide +kernel)⟩
theorem q_Rw_set : MV m_Rw_set 2 := ⟨⟨gw_of 365 (by decide +kernel) (by decide +kernel), gw_of 18 (by decide +kernel) (by decide +kernel), rfl, ⟨by decide +kernel, by decide +kernel, by decide +kernel⟩, by decide +kernel⟩, gw_of 363 (by decide +kernel) (by decide +kernel), gw_of 364 (by decide +kernel) (by decide +kernel)⟩
theorem q_Rw_fill : MV m_Rw_fill 1 := ⟨⟨gw_of 64 (by decide +kernel) (by decide +kernel), gw_of 18 (by decide +kernel) (by decide +kernel), rfl, ⟨by decide +kernel, by decide +kernel, by decide +kernel⟩, by decide +kernel⟩, gw_of 62 (by decide +kernel) (by decide +kernel), gw_of 63 (by decide +kernel) (by decide +kernel)⟩
theorem q_Rw_copyFrom : MV m_Rw_copyFrom 1 := ⟨⟨gw_of 285 (by decide +kernel) (by decide +kernel), gw_of 18 (by decide +kernel) (by decide +kernel), rfl, ⟨by decide +kernel, by decide +kernel, by decide +kernel⟩, by decide +kernel⟩, gw_of 283 (by decide +kernel) (by decide +kernel), gw_of 284 (by decide +kernel) (by decide +kernel)⟩
theorem q_St_init : MI m_St_init 0 := ⟨⟨gw_of 39 (by decide +kernel) (by decide +kernel), gw_of 16 (by decide +kernel) (by decide +kernel), rfl, ⟨by decide +kernel, by decide +kernel, by decide +kernel⟩, by decide +kernel⟩, gw_of 38 (by decide +kernel) (by decide +kernel), by decide +kernel⟩
theorem q_St_copyFrom : MV m_St_copyFrom 1 := ⟨⟨gw_of 273 (by decide +kernel) (by decide +kernel), gw_of 16 (by decide +kernel) (by decide +kernel), rfl, ⟨by decide +kernel, by decide +kernel, by decide +kernel⟩, by decide +kernel⟩, gw_of 271 (by decide +kernel) (by decide +kernel), gw_of 272 (by decide +kernel) (by decide +kernel)⟩
theorem q_Tx_init : MI m_Tx_init 0 := ⟨⟨gw_of 179 (by decide +kernel) (by decide +kernel), gw_of 22 (by decide +kernel) (by decide +kernel), rfl, ⟨by decide +kernel, by decide +kernel, by decide +kernel⟩, by decide +kernel⟩, gw_of 178 (by decide +kernel) (by decide +kernel), by decide +kernel⟩
theorem q_Tr_init : MI m_Tr_init 1 := ⟨⟨gw_of 103 (by decide +kernel) (by decide +kernel), gw_of 20 (by decide +kernel) (by decide +kernel), rfl, ⟨by decide +kernel, by decide +kernel, by decide +kernel⟩, by decide +kernel⟩, gw_of 102 (by decide +kernel) (by decide +kernel), by decide +kernel⟩
theorem q_Tr_copyFrom : MV m_Tr_copyFrom 1 := ⟨⟨gw_of 295 (by decide +kernel) (by decide +kernel), gw_of 20 (by decide +kernel) (by decide +kernel), rfl, ⟨by decide +kernel, by decide +kernel, by decide +kernel⟩, by decide +kernel⟩, gw_of 293 (by decide +kernel) (by decide +kernel), gw_of 294 (by decide +kernel) (by decide +kernel)⟩
theorem q_Tr_clear : MV m_Tr_clear 0 := ⟨⟨gw_of 450 (by decide +kernel) (by decide +kernel), gw_of 20 (by decide +kernel) (by decide +kernel), rfl, ⟨by decide +kernel, by decide +kernel, by decide +kernel⟩, by decide +kernel⟩, gw_of 448 (by decide +kernel) (by decide +kernel), gw_of 449 (by decide +kernel) (by decide +kernel)⟩
theorem q_Tr_isEmpty : MV m_Tr_isEmpty 0 := ⟨⟨gw_of 321 (by decide +kernel) (by decide +kernel), gw_of 20 (by decide +kernel) (by decide +kernel), rfl, ⟨by decide +kernel, by decide +kernel, by decide +kernel⟩, by decide +kernel⟩, gw_of 319 (by decide +kernel) (by decide +kernel), gw_of 320 (by decide +kernel) (by decide +kernel)⟩
theorem q_Tr_has : MV m_Tr_has 1 := ⟨⟨gw_of 425 (by decide +kernel) (by decide +kernel), gw_of 20 (by decide +kernel) (by decide +kernel), rfl, ⟨by decide +kernel, by decide +kernel, by decide +kernel⟩, by decide +kernel⟩, gw_of 423 (by decide +kernel) (by decide +kernel), gw_of 424 (by decide +kernel) (by decide +kernel)⟩
theorem q_Tr_isLeaf : MV m_Tr_isLeaf 1 := ⟨⟨gw_of 346 (by decide +kernel) (by decide +kernel), gw_of 20 (by decide +kernel) (by decide +kernel), rfl, ⟨by decide +kernel, by decide +kernel, by decide +kernel⟩, by decide +kernel⟩, gw_of 344 (by decide +kernel) (by decide +kernel), gw_of 345 (by decide +kernel) (by decide +kernel)⟩
theorem q_Tr_endOfChildren : MV m_Tr_endOfChildren 1 := ⟨⟨gw_of 524 (by decide +kernel) (by decide +kernel), gw_of 20 (by decide +kernel) (by decide +kernel), rfl, ⟨by decide +kernel, by decide +kernel, by decide +kernel⟩, by decide +kernel⟩, gw_of 522 (by decide +kernel) (by decide +kernel), gw_of 523 (by decide +kernel) (by decide +kernel)⟩
theorem q_Tr_turnAt : MV m_Tr_turnAt 1 := ⟨⟨gw_of 520 (by decide +kernel) (by decide +kernel), gw_of 20 (by decide +kernel) (by decide +kernel), rfl, ⟨by decide +kernel, by decide +kernel, by decide +kernel⟩, by decide +kernel⟩, gw_of 518 (by decide +kernel) (by decide +kernel), gw_of 519 (by decide +kernel) (by decide +kernel)⟩
theorem q_Tr_outcome : MV m_Tr_outcome 0 := ⟨⟨gw_of 332 (by decide +kernel) (by decide +kernel), gw_of 20 (by decide +kernel) (by decide +kernel), rfl, ⟨by decide +kernel, by decide +kernel, by decide +kernel⟩, by decide +kernel⟩, gw_of 330 (by decide +kernel) (by decide +kernel), gw_of 331 (by decide +kernel) (by decide +kernel)⟩
theorem q_Tr_plant : MV m_Tr_plant 1 := ⟨⟨gw_of 478 (by decide +kernel) (by decide +kernel), gw_of 20 (by decide +kernel) (by decide +kernel), rfl, ⟨by decide +kernel, by decide +kernel, by decide +kernel⟩, by decide +kernel⟩, gw_of 476 (by decide +kernel) (by decide +kernel), gw_of 477 (by decide +kernel) (by decide +kernel)⟩
theorem q_Tr_addLeaf : MV m_Tr_addLeaf 2 := ⟨⟨gw_of 483 (by decide +kernel) (by decide +kernel), gw_of 20 (by decide +kernel) (by decide +kernel), rfl, ⟨by decide +kernel, by decide +kernel, by decide +kernel⟩, by decide +kernel⟩, gw_of 482 (by decide +kernel) (by decide +kernel), gw_of 4 (by decide +kernel) (by decide +kernel)⟩
theorem q_Tr_setLeafCosts : MV m_Tr_setLeafCosts 3 := ⟨⟨gw_of 489 (by decide +kernel) (by decide +kernel), gw_of 20 (by decide +kernel) (by decide +kernel), rfl, ⟨by decide +kernel, by decide +kernel, by decide +kernel⟩, by decide +kernel⟩, gw_of 488 (by decide +kernel) (by decide +kernel), gw_of 5 (by decide +kernel) (by decide +kernel)⟩
theorem q_Tr_setCosts : MV m_Tr_setCosts 3 := ⟨⟨gw_of 495 (by decide +kernel) (by decide +kernel), gw_of 20 (by decide +kernel) (by decide +kernel), rfl, ⟨by decide +kernel, by decide +kernel, by decide +kernel⟩, by decide +kernel⟩, gw_of 494 (by decide +kernel) (by decide +kernel), gw_of 6 (by decide +kernel) (by decide +kernel)⟩
theorem q_Tr_isOnWayTo : MV m_Tr_isOnWayTo 2 := ⟨⟨gw_of 499 (by decide +kernel) (by decide +kernel), gw_of 20 (by decide +kernel) (by decide +kernel), rfl, ⟨by decide +kernel, by decide +kernel, by decide +kernel⟩, by decide +kernel⟩, gw_of 498 (by decide +kernel) (by decide +kernel), gw_of 7 (by decide +kernel) (by decide +kernel)⟩
theorem q_Tr_cheapestChild : MV m_Tr_cheapestChild 1 := ⟨⟨gw_of 516 (by decide +kernel) (by decide +kernel), gw_of 20 (by decide +kernel) (by decide +kernel), rfl, ⟨by decide +kernel, by decide +kernel, by decide +kernel⟩, by decide +kernel⟩, gw_of 514 (by decide +kernel) (by decide +kernel), gw_of 515 (by decide +kernel) (by decide +kernel)⟩
theorem q_Tr_leafOnWay : MV m_Tr_leafOnWay 0 := ⟨⟨gw_of 512 (by decide +kernel) (by decide +kernel), gw_of 20 (by decide +kernel) (by decide +kernel), rfl, ⟨by decide +kernel, by decide +kernel, by decide +kernel⟩, by decide +kernel⟩, gw_of 511 (by decide +kernel) (by decide +kernel), gw_of 8 (by decide +kernel) (by decide +kernel)⟩
theorem q_Tr_nodeOnWay : MV m_Tr_nodeOnWay 1 := ⟨⟨gw_of 557 (by decide +kernel) (by decide +kernel), gw_of 20 (by decide +kernel) (by decide +kernel), rfl, ⟨by decide +kernel, by decide +kernel, by decide +kernel⟩, by decide +kernel⟩, gw_of 555 (by decide +kernel) (by decide +kernel), gw_of 556 (by decide +kernel) (by decide +kernel)⟩
theorem q_Tr_canGrow : MV m_Tr_canGrow 0 := ⟨⟨gw_of 507 (by decide +kernel) (by decide +kernel), gw_of 20 (by decide +kernel) (by decide +kernel), rfl, ⟨by decide +kernel, by decide +kernel, by decide +kernel⟩, by decide +kernel⟩, gw_of 505 (by decide +kernel) (by decide +kernel), gw_of 506 (by decide +kernel) (by decide +kernel)⟩
theorem q_Tr_grow : MV m_Tr_grow 0 := ⟨⟨gw_of 528 (by decide +kernel) (by decide +kernel), gw_of 20 (by decide +kernel) (by decide +kernel), rfl, ⟨by decide +kernel, by decide +kernel, by decide +kernel⟩, by decide +kernel⟩, gw_of 526 (by decide +kernel) (by decide +kernel), gw_of 527 (by decide +kernel) (by decide +kernel)⟩
theorem q_Tr_workOutFrom : MV m_Tr_workOutFrom 1 := ⟨⟨gw_of 533 (by decide +kernel) (by decide +kernel), gw_of 20 (by decide +kernel) (by decide +kernel), rfl, ⟨by decide +kernel, by decide +kernel, by decide +kernel⟩, by decide +kernel⟩, gw_of 532 (by decide +kernel) (by decide +kernel), gw_of 9 (by decide +kernel) (by decide +kernel)⟩
theorem q_Tr_workOut : MV m_Tr_workOut 1 := ⟨⟨gw_of 537 (by decide +kernel) (by decide +kernel), gw_of 20 (by decide +kernel) (by decide +kernel), rfl, ⟨by decide +kernel, by decide +kernel, by decide +kernel⟩, by decide +kernel⟩, gw_of 536 (by decide +kernel) (by decide +kernel), gw_of 10 (by decide +kernel) (by decide +kernel)⟩
theorem q_Tr_leastOfChildren : MV m_Tr_leastOfChildren 2 := ⟨⟨gw_of 541 (by decide +kernel) (by decide +kernel), gw_of 20 (by decide +kernel) (by decide +kernel), rfl, ⟨by decide +kernel, by decide +kernel, by decide +kernel⟩, by decide +kernel⟩, gw_of 540 (by decide +kernel) (by decide +kernel), gw_of 11 (by decide +kernel) (by decide +kernel)⟩
theorem q_Tr_sumOfChildren : MV m_Tr_sumOfChildren 2 := ⟨⟨gw_of 546 (by decide +kernel) (by decide +kernel), gw_of 20 (by decide +kernel) (by decide +kernel), rfl, ⟨by decide +kernel, by decide +kernel, by decide +kernel⟩, by decide +kernel⟩, gw_of 545 (by decide +kernel) (by decide +kernel), gw_of 12 (by decide +kernel) (by decide +kernel)⟩
theorem q_Tr_loopCount : MV m_Tr_loopCount 0 := ⟨⟨gw_of 338 (by decide +kernel) (by decide +kernel), gw_of 20 (by decide +kernel) (by decide +kernel), rfl, ⟨by decide +kernel, by decide +kernel, by decide +kernel⟩, by decide +kernel⟩, gw_of 336 (by decide +kernel) (by decide +kernel), gw_of 337 (by decide +kernel) (by decide +kernel)⟩
theorem q_Tr_openedCount : MV m_Tr_openedCount 0 := ⟨⟨gw_of 342 (by decide +kernel) (by decide +kernel), gw_of 20 (by decide +kernel) (by decide +kernel), rfl, ⟨by decide +kernel, by decide +kernel, by decide +kernel⟩, by decide +kernel⟩, gw_of 340 (by decide +kernel) (by decide +kernel), gw_of 341 (by decide +kernel) (by decide +kernel)⟩
theorem q_Tr_greatestDepth : MV m_Tr_greatestDepth 0 := ⟨⟨gw_of 350 (by decide +kernel) (by decide +kernel), gw_of 20 (by decide +kernel) (by decide +kernel), rfl, ⟨by decide +kernel, by decide +kernel, by decide +kernel⟩, by decide +kernel⟩, gw_of 348 (by decide +kernel) (by decide +kernel), gw_of 349 (by decide +kernel) (by decide +kernel)⟩
theorem q_Cp_init : MI m_Cp_init 0 := ⟨⟨gw_of 31 (by decide +kernel) (by decide +kernel), gw_of 15 (by decide +kernel) (by decide +kernel), rfl, ⟨by decide +kernel, by decide +kernel, by decide +kernel⟩, by decide +kernel⟩, gw_of 30 (by decide +kernel) (by decide +kernel), by decide +kernel⟩
theorem q_Cp_setPosition : MV m_Cp_setPosition 3 := ⟨⟨gw_of 462 (by decide +kernel) (by decide +kernel), gw_of 15 (by decide +kernel) (by decide +kernel), rfl, ⟨by decide +kernel, by decide +kernel, by decide +kernel⟩, by decide +kernel⟩, gw_of 460 (by decide +kernel) (by decide +kernel), gw_of 461 (by decide +kernel) (by decide +kernel)⟩
theorem q_Cp_guess : MV m_Cp_guess 3 := ⟨⟨gw_of 467 (by decide +kernel) (by decide +kernel), gw_of 15 (by decide +kernel) (by decide +kernel), rfl, ⟨by decide +kernel, by decide +kernel, by decide +kernel⟩, by decide +kernel⟩, gw_of 465 (by decide +kernel) (by decide +kernel), gw_of 466 (by decide +kernel) (by decide +kernel)⟩
theorem q_Cp_addMove : MV m_Cp_addMove 2 := ⟨⟨gw_of 436 (by decide +kernel) (by decide +kernel), gw_of 15 (by decide +kernel) (by decide +kernel), rfl, ⟨by decide +kernel, by decide +kernel, by decide +kernel⟩, by decide +kernel⟩, gw_of 434 (by decide +kernel) (by decide +kernel), gw_of 435 (by decide +kernel) (by decide +kernel)⟩
theorem q_Cp_removeMove : MV m_Cp_removeMove 2 := ⟨⟨gw_of 454 (by decide +kernel) (by decide +kernel), gw_of 15 (by decide +kernel) (by decide +kernel), rfl, ⟨by decide +kernel, by decide +kernel, by decide +kernel⟩, by decide +kernel⟩, gw_of 452 (by decide +kernel) (by decide +kernel), gw_of 453 (by decide +kernel) (by decide +kernel)⟩
theorem q_Cp_begin : MV m_Cp_begin 1 := ⟨⟨gw_of 474 (by decide +kernel) (by decide +kernel), gw_of 15 (by decide +kernel) (by decide +kernel), rfl, ⟨by decide +kernel, by decide +kernel, by decide +kernel⟩, by decide +kernel⟩, gw_of 472 (by decide +kernel) (by decide +kernel), gw_of 473 (by decide +kernel) (by decide +kernel)⟩
theorem q_Cp_open : MV m_Cp_open 1 := ⟨⟨gw_of 503 (by decide +kernel) (by decide +kernel), gw_of 15 (by decide +kernel) (by decide +kernel), rfl, ⟨by decide +kernel, by decide +kernel, by decide +kernel⟩, by decide +kernel⟩, gw_of 501 (by decide +kernel) (by decide +kernel), gw_of 502 (by decide +kernel) (by decide +kernel)⟩
theorem q_Cp_undo : MV m_Cp_undo 0 := ⟨⟨gw_of 258 (by decide +kernel) (by decide +kernel), gw_of 15 (by decide +kernel) (by decide +kernel), rfl, ⟨by decide +kernel, by decide +kernel, by decide +kernel⟩, by decide +kernel⟩, gw_of 256 (by decide +kernel) (by decide +kernel), gw_of 257 (by decide +kernel) (by decide +kernel)⟩
theorem q_Cp_keep : MV m_Cp_keep 0 := ⟨⟨gw_of 300 (by decide +kernel) (by decide +kernel), gw_of 15 (by decide +kernel) (by decide +kernel), rfl, ⟨by decide +kernel, by decide +kernel, by decide +kernel⟩, by decide +kernel⟩, gw_of 298 (by decide +kernel) (by decide +kernel), gw_of 299 (by decide +kernel) (by decide +kernel)⟩
theorem q_Cp_restore : MV m_Cp_restore 0 := ⟨⟨gw_of 305 (by decide +kernel) (by decide +kernel), gw_of 15 (by decide +kernel) (by decide +kernel), rfl, ⟨by decide +kernel, by decide +kernel, by decide +kernel⟩, by decide +kernel⟩, gw_of 303 (by decide +kernel) (by decide +kernel), gw_of 304 (by decide +kernel) (by decide +kernel)⟩
theorem q_Cp_position : MV m_Cp_position 2 := ⟨⟨gw_of 406 (by decide +kernel) (by decide +kernel), gw_of 15 (by decide +kernel) (by decide +kernel), rfl, ⟨by decide +kernel, by decide +kernel, by decide +kernel⟩, by decide +kernel⟩, gw_of 404 (by decide +kernel) (by decide +kernel), gw_of 405 (by decide +kernel) (by decide +kernel)⟩
theorem q_Cp_move : MV m_Cp_move 2 := ⟨⟨gw_of 416 (by decide +kernel) (by decide +kernel), gw_of 15 (by decide +kernel) (by decide +kernel), rfl, ⟨by decide +kernel, by decide +kernel, by decide +kernel⟩, by decide +kernel⟩, gw_of 414 (by decide +kernel) (by decide +kernel), gw_of 415 (by decide +kernel) (by decide +kernel)⟩
theorem q_Cp_node : MV m_Cp_node 2 := ⟨⟨gw_of 421 (by decide +kernel) (by decide +kernel), gw_of 15 (by decide +kernel) (by decide +kernel), rfl, ⟨by decide +kernel, by decide +kernel, by decide +kernel⟩, by decide +kernel⟩, gw_of 419 (by decide +kernel) (by decide +kernel), gw_of 420 (by decide +kernel) (by decide +kernel)⟩
theorem q_Cp_way : MV m_Cp_way 1 := ⟨⟨gw_of 553 (by decide +kernel) (by decide +kernel), gw_of 15 (by decide +kernel) (by decide +kernel), rfl, ⟨by decide +kernel, by decide +kernel, by decide +kernel⟩, by decide +kernel⟩, gw_of 551 (by decide +kernel) (by decide +kernel), gw_of 552 (by decide +kernel) (by decide +kernel)⟩
theorem q_Cp_proofSize : MV m_Cp_proofSize 0 := ⟨⟨gw_of 561 (by decide +kernel) (by decide +kernel), gw_of 15 (by decide +kernel) (by decide +kernel), rfl, ⟨by decide +kernel, by decide +kernel, by decide +kernel⟩, by decide +kernel⟩, gw_of 559 (by decide +kernel) (by decide +kernel), gw_of 560 (by decide +kernel) (by decide +kernel)⟩
theorem q_Cp_count : MV m_Cp_count 1 := ⟨⟨gw_of 317 (by decide +kernel) (by decide +kernel), gw_of 15 (by decide +kernel) (by decide +kernel), rfl, ⟨by decide +kernel, by decide +kernel, by decide +kernel⟩, by decide +kernel⟩, gw_of 315 (by decide +kernel) (by decide +kernel), gw_of 316 (by decide +kernel) (by decide +kernel)⟩
theorem q_Cp_tellTree : MS m_Cp_tellTree 2 := ⟨⟨gw_of 324 (by decide +kernel) (by decide +kernel), gw_of 15 (by decide +kernel) (by decide +kernel), rfl, ⟨by decide +kernel, by decide +kernel, by decide +kernel⟩, by decide +kernel⟩, gw_of 323 (by decide +kernel) (by decide +kernel)⟩
theorem q_Cp_isPosition : MS m_Cp_isPosition 1 := ⟨⟨gw_of 409 (by decide +kernel) (by decide +kernel), gw_of 15 (by decide +kernel) (by decide +kernel), rfl, ⟨by decide +kernel, by decide +kernel, by decide +kernel⟩, by decide +kernel⟩, gw_of 408 (by decide +kernel) (by decide +kernel)⟩
theorem q_Cp_isGuess : MS m_Cp_isGuess 1 := ⟨⟨gw_of 470 (by decide +kernel) (by decide +kernel), gw_of 15 (by decide +kernel) (by decide +kernel), rfl, ⟨by decide +kernel, by decide +kernel, by decide +kernel⟩, by decide +kernel⟩, gw_of 469 (by decide +kernel) (by decide +kernel)⟩
theorem q_Lw_cell : MS m_Lw_cell 2 := ⟨⟨gw_of 397 (by decide +kernel) (by decide +kernel), gw_of 14 (by decide +kernel) (by decide +kernel), rfl, ⟨by decide +kernel, by decide +kernel, by decide +kernel⟩, by decide +kernel⟩, gw_of 396 (by decide +kernel) (by decide +kernel)⟩
theorem q_Lw_low : MS m_Lw_low 2 := ⟨⟨gw_of 431 (by decide +kernel) (by decide +kernel), gw_of 14 (by decide +kernel) (by decide +kernel), rfl, ⟨by decide +kernel, by decide +kernel, by decide +kernel⟩, by decide +kernel⟩, gw_of 430 (by decide +kernel) (by decide +kernel)⟩
theorem q_Lw_digest : MS m_Lw_digest 1 := ⟨⟨gw_of 400 (by decide +kernel) (by decide +kernel), gw_of 14 (by decide +kernel) (by decide +kernel), rfl, ⟨by decide +kernel, by decide +kernel, by decide +kernel⟩, by decide +kernel⟩, gw_of 399 (by decide +kernel) (by decide +kernel)⟩
theorem q_Lw_act : MS m_Lw_act 3 := ⟨⟨gw_of 428 (by decide +kernel) (by decide +kernel), gw_of 14 (by decide +kernel) (by decide +kernel), rfl, ⟨by decide +kernel, by decide +kernel, by decide +kernel⟩, by decide +kernel⟩, gw_of 427 (by decide +kernel) (by decide +kernel)⟩
theorem q_Lw_holds : MS m_Lw_holds 1 := ⟨⟨gw_of 549 (by decide +kernel) (by decide +kernel), gw_of 14 (by decide +kernel) (by decide +kernel), rfl, ⟨by decide +kernel, by decide +kernel, by decide +kernel⟩, by decide +kernel⟩, gw_of 548 (by decide +kernel) (by decide +kernel)⟩
theorem k_Lw_62 : Cond.methodLink RL 62 m_Cp_init.2.1 ∈ gw := gw_of 29 (by decide +kernel) (by decide +kernel)
theorem k_Cp_1 : Cond.methodLink RX9 1 objectInit ∈ gw := gw_of 32 (by decide +kernel) (by decide +kernel)
theorem k_Cp_9 : Cond.methodLink RX9 9 m_St_init.2.1 ∈ gw := gw_of 37 (by decide +kernel) (by decide +kernel)
theorem k_St_1 : Cond.methodLink RX6 1 objectInit ∈ gw := gw_of 40 (by decide +kernel) (by decide +kernel)
theorem k_St_9 : Cond.methodLink RX6 9 m_Gm_init.2.1 ∈ gw := gw_of 43 (by decide +kernel) (by decide +kernel)
theorem k_Gm_3 : Cond.methodLink RX0 3 objectInit ∈ gw := gw_of 46 (by decide +kernel) (by decide +kernel)
theorem k_Gm_11 : Cond.methodLink RX0 11 m_Rw_init.2.1 ∈ gw := gw_of 49 (by decide +kernel) (by decide +kernel)
theorem k_Rw_1 : Cond.methodLink RX5 1 objectInit ∈ gw := gw_of 52 (by decide +kernel) (by decide +kernel)
theorem k_Rw_7 : Cond.methodLink RX5 7 Lib.Math.max.name ∈ gw := gw_of 53 (by decide +kernel) (by decide +kernel)
theorem k_Gm_35 : Cond.methodLink RX0 35 m_Rw_fill.2.1 ∈ gw := gw_of 61 (by decide +kernel) (by decide +kernel)
theorem k_St_18 : Cond.methodLink RX6 18 m_Tr_init.2.1 ∈ gw := gw_of 101 (by decide +kernel) (by decide +kernel)
theorem k_Tr_3 : Cond.methodLink RX8 3 objectInit ∈ gw := gw_of 104 (by decide +kernel) (by decide +kernel)
theorem k_Tr_11 : Cond.methodLink RX8 11 m_Rw_init.2.1 ∈ gw := gw_of 106 (by decide +kernel) (by decide +kernel)
theorem k_Cp_25 : Cond.methodLink RX9 25 m_Hi_init.2.1 ∈ gw := gw_of 160 (by decide +kernel) (by decide +kernel)
theorem k_Hi_3 : Cond.methodLink RX1 3 objectInit ∈ gw := gw_of 163 (by decide +kernel) (by decide +kernel)
theorem k_Hi_17 : Cond.methodLink RX1 17 m_St_init.2.1 ∈ gw := gw_of 166 (by decide +kernel) (by decide +kernel)
theorem k_Cp_32 : Cond.methodLinkNest RX9 32 m_Tx_init.2.1 "CheapProofs" ∈ nw := nw_of 177 (by decide +kernel) (by decide +kernel)
theorem k_Tx_3 : Cond.methodLink RX7 3 objectInit ∈ gw := gw_of 180 (by decide +kernel) (by decide +kernel)
theorem k_Cp_39 : Cond.methodLink RX9 39 m_Rd_init.2.1 ∈ gw := gw_of 191 (by decide +kernel) (by decide +kernel)
theorem k_Rd_3 : Cond.methodLink RX3 3 objectInit ∈ gw := gw_of 194 (by decide +kernel) (by decide +kernel)
theorem k_Rd_11 : Cond.methodLink RX3 11 m_Gm_init.2.1 ∈ gw := gw_of 196 (by decide +kernel) (by decide +kernel)
theorem k_Cp_48 : Cond.methodLinkNest RX9 48 m_Ro_init.2.1 "CheapProofs" ∈ nw := nw_of 208 (by decide +kernel) (by decide +kernel)
theorem k_Ro_3 : Cond.methodLink RX4 3 objectInit ∈ gw := gw_of 211 (by decide +kernel) (by decide +kernel)
theorem k_Ro_11 : Cond.methodLink RX4 11 m_Rw_init.2.1 ∈ gw := gw_of 213 (by decide +kernel) (by decide +kernel)
theorem k_Cp_55 : Cond.methodLinkNest RX9 55 m_Pf_init.2.1 "CheapProofs" ∈ nw := nw_of 220 (by decide +kernel) (by decide +kernel)
theorem k_Pf_3 : Cond.methodLink RX2 3 objectInit ∈ gw := gw_of 223 (by decide +kernel) (by decide +kernel)
theorem k_Pf_11 : Cond.methodLink RX2 11 m_Rw_init.2.1 ∈ gw := gw_of 225 (by decide +kernel) (by decide +kernel)
theorem k_Lw_63 : Cond.methodLink RL 63 m_Cp_undo.2.1 ∈ gw := gw_of 255 (by decide +kernel) (by decide +kernel)
theorem k_Cp_167 : Cond.methodLink RX9 167 m_Hi_takeLatest.2.1 ∈ gw := gw_of 259 (by decide +kernel) (by decide +kernel)
theorem k_Hi_25 : Cond.methodLink RX1 25 m_Hi_stateAt.2.1 ∈ gw := gw_of 263 (by decide +kernel) (by decide +kernel)
theorem k_Hi_29 : Cond.methodLink RX1 29 m_Hi_copy.2.1 ∈ gw := gw_of 267 (by decide +kernel) (by decide +kernel)
theorem k_Hi_33 : Cond.methodLink RX1 33 m_St_copyFrom.2.1 ∈ gw := gw_of 270 (by decide +kernel) (by decide +kernel)
theorem k_St_25 : Cond.methodLink RX6 25 m_Gm_copyFrom.2.1 ∈ gw := gw_of 274 (by decide +kernel) (by decide +kernel)
theorem k_Gm_38 : Cond.methodLink RX0 38 m_Gm_copyAllButGuesses.2.1 ∈ gw := gw_of 278 (by decide +kernel) (by decide +kernel)
theorem k_Gm_42 : Cond.methodLink RX0 42 m_Rw_copyFrom.2.1 ∈ gw := gw_of 282 (by decide +kernel) (by decide +kernel)
theorem k_Rw_19 : Cond.methodLink RX5 19 Lib.Math.min.name ∈ gw := gw_of 286 (by decide +kernel) (by decide +kernel)
theorem k_Rw_22 : Cond.methodLink RX5 22 arraycopyName ∈ gw := gw_of 289 (by decide +kernel) (by decide +kernel)
theorem k_St_28 : Cond.methodLink RX6 28 m_Tr_copyFrom.2.1 ∈ gw := gw_of 292 (by decide +kernel) (by decide +kernel)
theorem k_Tr_45 : Cond.methodLink RX8 45 m_Rw_copyFrom.2.1 ∈ gw := gw_of 296 (by decide +kernel) (by decide +kernel)
theorem k_Lw_66 : Cond.methodLink RL 66 m_Cp_keep.2.1 ∈ gw := gw_of 297 (by decide +kernel) (by decide +kernel)
theorem k_Cp_170 : Cond.methodLink RX9 170 m_St_copyFrom.2.1 ∈ gw := gw_of 301 (by decide +kernel) (by decide +kernel)
theorem k_Lw_43 : Cond.methodLink RL 43 m_Cp_restore.2.1 ∈ gw := gw_of 302 (by decide +kernel) (by decide +kernel)
theorem k_Cp_83 : Cond.methodLink RX9 83 m_Hi_remember.2.1 ∈ gw := gw_of 306 (by decide +kernel) (by decide +kernel)
theorem k_Hi_22 : Cond.methodLink RX1 22 m_Hi_dropOldest.2.1 ∈ gw := gw_of 310 (by decide +kernel) (by decide +kernel)
theorem k_Lw_12 : Cond.methodLink RL 12 m_Cp_count.2.1 ∈ gw := gw_of 314 (by decide +kernel) (by decide +kernel)
theorem k_Cp_144 : Cond.methodLink RX9 144 m_Tr_isEmpty.2.1 ∈ gw := gw_of 318 (by decide +kernel) (by decide +kernel)
theorem k_Cp_226 : Cond.methodLink RX9 226 m_Cp_tellTree.2.1 ∈ gw := gw_of 322 (by decide +kernel) (by decide +kernel)
theorem k_Cp_74 : Cond.methodLink RX9 74 m_Rw_get.2.1 ∈ gw := gw_of 325 (by decide +kernel) (by decide +kernel)
theorem k_Cp_215 : Cond.methodLink RX9 215 m_Tr_outcome.2.1 ∈ gw := gw_of 329 (by decide +kernel) (by decide +kernel)
theorem k_Tr_62 : Cond.methodLink RX8 62 m_Tr_isEmpty.2.1 ∈ gw := gw_of 333 (by decide +kernel) (by decide +kernel)
theorem k_Tr_53 : Cond.methodLink RX8 53 m_Rw_get.2.1 ∈ gw := gw_of 334 (by decide +kernel) (by decide +kernel)
theorem k_Cp_233 : Cond.methodLink RX9 233 m_Tr_loopCount.2.1 ∈ gw := gw_of 335 (by decide +kernel) (by decide +kernel)
theorem k_Cp_236 : Cond.methodLink RX9 236 m_Tr_openedCount.2.1 ∈ gw := gw_of 339 (by decide +kernel) (by decide +kernel)
theorem k_Tr_109 : Cond.methodLink RX8 109 m_Tr_isLeaf.2.1 ∈ gw := gw_of 343 (by decide +kernel) (by decide +kernel)
theorem k_Cp_239 : Cond.methodLink RX9 239 m_Tr_greatestDepth.2.1 ∈ gw := gw_of 347 (by decide +kernel) (by decide +kernel)
theorem k_Tr_147 : Cond.methodLink RX8 147 Lib.Math.max.name ∈ gw := gw_of 351 (by decide +kernel) (by decide +kernel)
theorem k_Cp_176 : Cond.methodLink RX9 176 m_Ro_workOut.2.1 ∈ gw := gw_of 352 (by decide +kernel) (by decide +kernel)
theorem k_Ro_20 : Cond.methodLink RX4 20 m_Rw_fill.2.1 ∈ gw := gw_of 356 (by decide +kernel) (by decide +kernel)
theorem k_Ro_23 : Cond.methodLink RX4 23 m_Gm_isWonEnd.2.1 ∈ gw := gw_of 357 (by decide +kernel) (by decide +kernel)
theorem k_Gm_50 : Cond.methodLink RX0 50 m_Rw_get.2.1 ∈ gw := gw_of 361 (by decide +kernel) (by decide +kernel)
theorem k_Ro_29 : Cond.methodLink RX4 29 m_Rw_set.2.1 ∈ gw := gw_of 362 (by decide +kernel) (by decide +kernel)
theorem k_Ro_33 : Cond.methodLink RX4 33 m_Ro_playRound.2.1 ∈ gw := gw_of 366 (by decide +kernel) (by decide +kernel)
theorem k_Ro_37 : Cond.methodLink RX4 37 m_Ro_isWon.2.1 ∈ gw := gw_of 370 (by decide +kernel) (by decide +kernel)
theorem k_Ro_50 : Cond.methodLink RX4 50 m_Rw_get.2.1 ∈ gw := gw_of 374 (by decide +kernel) (by decide +kernel)
theorem k_Ro_40 : Cond.methodLink RX4 40 m_Gm_isEnd.2.1 ∈ gw := gw_of 375 (by decide +kernel) (by decide +kernel)
theorem k_Ro_43 : Cond.methodLink RX4 43 m_Ro_isWonBy.2.1 ∈ gw := gw_of 379 (by decide +kernel) (by decide +kernel)
theorem k_Ro_54 : Cond.methodLink RX4 54 m_Gm_targetOf.2.1 ∈ gw := gw_of 383 (by decide +kernel) (by decide +kernel)
theorem k_Ro_58 : Cond.methodLink RX4 58 m_Ro_roundOf.2.1 ∈ gw := gw_of 387 (by decide +kernel) (by decide +kernel)
theorem k_Cp_230 : Cond.methodLink RX9 230 m_Ro_wonPositions.2.1 ∈ gw := gw_of 391 (by decide +kernel) (by decide +kernel)
theorem k_Lw_73 : Cond.methodLink RL 73 m_Lw_cell.2.1 ∈ gw := gw_of 395 (by decide +kernel) (by decide +kernel)
theorem k_Lw_69 : Cond.methodLink RL 69 m_Lw_digest.2.1 ∈ gw := gw_of 398 (by decide +kernel) (by decide +kernel)
theorem k_Lw_18 : Cond.methodLink RL 18 m_Cp_position.2.1 ∈ gw := gw_of 403 (by decide +kernel) (by decide +kernel)
theorem k_Cp_60 : Cond.methodLink RX9 60 m_Cp_isPosition.2.1 ∈ gw := gw_of 407 (by decide +kernel) (by decide +kernel)
theorem k_Cp_173 : Cond.methodLink RX9 173 m_Gm_isEnd.2.1 ∈ gw := gw_of 410 (by decide +kernel) (by decide +kernel)
theorem k_Cp_179 : Cond.methodLink RX9 179 m_Ro_isWon.2.1 ∈ gw := gw_of 411 (by decide +kernel) (by decide +kernel)
theorem k_Cp_182 : Cond.methodLink RX9 182 m_Ro_roundOf.2.1 ∈ gw := gw_of 412 (by decide +kernel) (by decide +kernel)
theorem k_Lw_22 : Cond.methodLink RL 22 m_Cp_move.2.1 ∈ gw := gw_of 413 (by decide +kernel) (by decide +kernel)
theorem k_Cp_185 : Cond.methodLink RX9 185 m_Gm_targetOf.2.1 ∈ gw := gw_of 417 (by decide +kernel) (by decide +kernel)
theorem k_Lw_25 : Cond.methodLink RL 25 m_Cp_node.2.1 ∈ gw := gw_of 418 (by decide +kernel) (by decide +kernel)
theorem k_Cp_188 : Cond.methodLink RX9 188 m_Tr_has.2.1 ∈ gw := gw_of 422 (by decide +kernel) (by decide +kernel)
theorem k_Lw_77 : Cond.methodLink RL 77 m_Lw_act.2.1 ∈ gw := gw_of 426 (by decide +kernel) (by decide +kernel)
theorem k_Lw_28 : Cond.methodLink RL 28 m_Lw_low.2.1 ∈ gw := gw_of 429 (by decide +kernel) (by decide +kernel)
theorem k_Lw_33 : Cond.methodLink RL 33 m_Cp_addMove.2.1 ∈ gw := gw_of 433 (by decide +kernel) (by decide +kernel)
theorem k_Cp_109 : Cond.methodLink RX9 109 m_Gm_rankOf.2.1 ∈ gw := gw_of 437 (by decide +kernel) (by decide +kernel)
theorem k_Gm_54 : Cond.methodLink RX0 54 m_Gm_targetOf.2.1 ∈ gw := gw_of 441 (by decide +kernel) (by decide +kernel)
theorem k_Cp_117 : Cond.methodLink RX9 117 m_Gm_append.2.1 ∈ gw := gw_of 442 (by decide +kernel) (by decide +kernel)
theorem k_Gm_58 : Cond.methodLink RX0 58 m_Rw_set.2.1 ∈ gw := gw_of 446 (by decide +kernel) (by decide +kernel)
theorem k_Cp_95 : Cond.methodLink RX9 95 m_Tr_clear.2.1 ∈ gw := gw_of 447 (by decide +kernel) (by decide +kernel)
theorem k_Lw_36 : Cond.methodLink RL 36 m_Cp_removeMove.2.1 ∈ gw := gw_of 451 (by decide +kernel) (by decide +kernel)
theorem k_Cp_123 : Cond.methodLink RX9 123 m_Gm_removeAt.2.1 ∈ gw := gw_of 455 (by decide +kernel) (by decide +kernel)
theorem k_Lw_39 : Cond.methodLink RL 39 m_Cp_setPosition.2.1 ∈ gw := gw_of 459 (by decide +kernel) (by decide +kernel)
theorem k_Cp_87 : Cond.methodLink RX9 87 m_Rw_set.2.1 ∈ gw := gw_of 463 (by decide +kernel) (by decide +kernel)
theorem k_Lw_47 : Cond.methodLink RL 47 m_Cp_guess.2.1 ∈ gw := gw_of 464 (by decide +kernel) (by decide +kernel)
theorem k_Cp_100 : Cond.methodLink RX9 100 m_Cp_isGuess.2.1 ∈ gw := gw_of 468 (by decide +kernel) (by decide +kernel)
theorem k_Lw_50 : Cond.methodLink RL 50 m_Cp_begin.2.1 ∈ gw := gw_of 471 (by decide +kernel) (by decide +kernel)
theorem k_Cp_137 : Cond.methodLink RX9 137 m_Tr_plant.2.1 ∈ gw := gw_of 475 (by decide +kernel) (by decide +kernel)
theorem k_Tr_66 : Cond.methodLink RX8 66 m_Tr_clear.2.1 ∈ gw := gw_of 479 (by decide +kernel) (by decide +kernel)
theorem k_Tr_69 : Cond.methodLink RX8 69 m_Tr_addLeaf.2.1 ∈ gw := gw_of 480 (by decide +kernel) (by decide +kernel)
theorem k_Tr_73 : Cond.methodLink RX8 73 m_Rw_set.2.1 ∈ gw := gw_of 484 (by decide +kernel) (by decide +kernel)
theorem k_Tr_76 : Cond.methodLink RX8 76 m_Tr_has.2.1 ∈ gw := gw_of 485 (by decide +kernel) (by decide +kernel)
theorem k_Tr_80 : Cond.methodLink RX8 80 m_Tr_setLeafCosts.2.1 ∈ gw := gw_of 486 (by decide +kernel) (by decide +kernel)
theorem k_Tr_84 : Cond.methodLink RX8 84 m_Gm_isEnd.2.1 ∈ gw := gw_of 490 (by decide +kernel) (by decide +kernel)
theorem k_Tr_87 : Cond.methodLink RX8 87 m_Gm_isWonEnd.2.1 ∈ gw := gw_of 491 (by decide +kernel) (by decide +kernel)
theorem k_Tr_90 : Cond.methodLink RX8 90 m_Tr_setCosts.2.1 ∈ gw := gw_of 492 (by decide +kernel) (by decide +kernel)
theorem k_Tr_93 : Cond.methodLink RX8 93 m_Tr_isOnWayTo.2.1 ∈ gw := gw_of 496 (by decide +kernel) (by decide +kernel)
theorem k_Lw_53 : Cond.methodLink RL 53 m_Cp_open.2.1 ∈ gw := gw_of 500 (by decide +kernel) (by decide +kernel)
theorem k_Cp_148 : Cond.methodLink RX9 148 m_Tr_canGrow.2.1 ∈ gw := gw_of 504 (by decide +kernel) (by decide +kernel)
theorem k_Tr_115 : Cond.methodLink RX8 115 m_Tr_outcome.2.1 ∈ gw := gw_of 508 (by decide +kernel) (by decide +kernel)
theorem k_Tr_122 : Cond.methodLink RX8 122 m_Tr_leafOnWay.2.1 ∈ gw := gw_of 509 (by decide +kernel) (by decide +kernel)
theorem k_Tr_112 : Cond.methodLink RX8 112 m_Tr_cheapestChild.2.1 ∈ gw := gw_of 513 (by decide +kernel) (by decide +kernel)
theorem k_Tr_103 : Cond.methodLink RX8 103 m_Tr_turnAt.2.1 ∈ gw := gw_of 517 (by decide +kernel) (by decide +kernel)
theorem k_Tr_106 : Cond.methodLink RX8 106 m_Tr_endOfChildren.2.1 ∈ gw := gw_of 521 (by decide +kernel) (by decide +kernel)
theorem k_Cp_151 : Cond.methodLink RX9 151 m_Tr_grow.2.1 ∈ gw := gw_of 525 (by decide +kernel) (by decide +kernel)
theorem k_Tr_125 : Cond.methodLink RX8 125 m_Gm_targetOf.2.1 ∈ gw := gw_of 529 (by decide +kernel) (by decide +kernel)
theorem k_Tr_129 : Cond.methodLink RX8 129 m_Tr_workOutFrom.2.1 ∈ gw := gw_of 530 (by decide +kernel) (by decide +kernel)
theorem k_Tr_132 : Cond.methodLink RX8 132 m_Tr_workOut.2.1 ∈ gw := gw_of 534 (by decide +kernel) (by decide +kernel)
theorem k_Tr_135 : Cond.methodLink RX8 135 m_Tr_leastOfChildren.2.1 ∈ gw := gw_of 538 (by decide +kernel) (by decide +kernel)
theorem k_Tr_142 : Cond.methodLink RX8 142 Lib.Math.min.name ∈ gw := gw_of 542 (by decide +kernel) (by decide +kernel)
theorem k_Tr_139 : Cond.methodLink RX8 139 m_Tr_sumOfChildren.2.1 ∈ gw := gw_of 543 (by decide +kernel) (by decide +kernel)
theorem k_Lw_81 : Cond.methodLink RL 81 m_Lw_holds.2.1 ∈ gw := gw_of 547 (by decide +kernel) (by decide +kernel)
theorem k_Lw_56 : Cond.methodLink RL 56 m_Cp_way.2.1 ∈ gw := gw_of 550 (by decide +kernel) (by decide +kernel)
theorem k_Cp_212 : Cond.methodLink RX9 212 m_Tr_nodeOnWay.2.1 ∈ gw := gw_of 554 (by decide +kernel) (by decide +kernel)
theorem k_Lw_59 : Cond.methodLink RL 59 m_Cp_proofSize.2.1 ∈ gw := gw_of 558 (by decide +kernel) (by decide +kernel)
theorem k_Cp_222 : Cond.methodLink RX9 222 m_Pf_sizeOf.2.1 ∈ gw := gw_of 562 (by decide +kernel) (by decide +kernel)
theorem k_Pf_26 : Cond.methodLink RX2 26 m_Pf_winnerOf.2.1 ∈ gw := gw_of 566 (by decide +kernel) (by decide +kernel)
theorem k_Pf_20 : Cond.methodLink RX2 20 m_Tr_outcome.2.1 ∈ gw := gw_of 569 (by decide +kernel) (by decide +kernel)
theorem k_Pf_46 : Cond.methodLink RX2 46 m_Rw_fill.2.1 ∈ gw := gw_of 570 (by decide +kernel) (by decide +kernel)
theorem k_Pf_49 : Cond.methodLink RX2 49 m_Rw_set.2.1 ∈ gw := gw_of 571 (by decide +kernel) (by decide +kernel)
theorem k_Pf_33 : Cond.methodLink RX2 33 m_Rw_get.2.1 ∈ gw := gw_of 572 (by decide +kernel) (by decide +kernel)
theorem k_Pf_57 : Cond.methodLink RX2 57 m_Pf_takeChildren.2.1 ∈ gw := gw_of 573 (by decide +kernel) (by decide +kernel)
theorem k_Pf_61 : Cond.methodLink RX2 61 m_Tr_isLeaf.2.1 ∈ gw := gw_of 577 (by decide +kernel) (by decide +kernel)
theorem k_Pf_37 : Cond.methodLink RX2 37 m_Tr_turnAt.2.1 ∈ gw := gw_of 578 (by decide +kernel) (by decide +kernel)
theorem k_Pf_40 : Cond.methodLink RX2 40 m_Tr_cheapestChild.2.1 ∈ gw := gw_of 579 (by decide +kernel) (by decide +kernel)
theorem k_Pf_65 : Cond.methodLink RX2 65 m_Tr_endOfChildren.2.1 ∈ gw := gw_of 580 (by decide +kernel) (by decide +kernel)
theorem c_Lw_13 : Cond.classLink RL 13 RX9 ∈ gw := gw_of 27 (by decide +kernel) (by decide +kernel)
theorem c_Cp_7 : Cond.classLink RX9 7 RX6 ∈ gw := gw_of 35 (by decide +kernel) (by decide +kernel)
theorem c_St_7 : Cond.classLink RX6 7 RX0 ∈ gw := gw_of 41 (by decide +kernel) (by decide +kernel)
theorem c_Gm_9 : Cond.classLink RX0 9 RX5 ∈ gw := gw_of 47 (by decide +kernel) (by decide +kernel)
theorem c_St_16 : Cond.classLink RX6 16 RX8 ∈ gw := gw_of 99 (by decide +kernel) (by decide +kernel)
theorem c_Tr_9 : Cond.classLink RX8 9 RX5 ∈ gw := gw_of 105 (by decide +kernel) (by decide +kernel)
theorem c_Cp_23 : Cond.classLink RX9 23 RX1 ∈ gw := gw_of 158 (by decide +kernel) (by decide +kernel)
theorem c_Hi_9 : Cond.classLink RX1 9 RX6 ∈ gw := gw_of 164 (by decide +kernel) (by decide +kernel)
theorem c_Cp_30 : Cond.classLink RX9 30 RX7 ∈ gw := gw_of 175 (by decide +kernel) (by decide +kernel)
theorem c_Cp_37 : Cond.classLink RX9 37 RX3 ∈ gw := gw_of 189 (by decide +kernel) (by decide +kernel)
theorem c_Rd_9 : Cond.classLink RX3 9 RX0 ∈ gw := gw_of 195 (by decide +kernel) (by decide +kernel)
theorem c_Cp_46 : Cond.classLink RX9 46 RX4 ∈ gw := gw_of 206 (by decide +kernel) (by decide +kernel)
theorem c_Ro_9 : Cond.classLink RX4 9 RX5 ∈ gw := gw_of 212 (by decide +kernel) (by decide +kernel)
theorem c_Cp_53 : Cond.classLink RX9 53 RX2 ∈ gw := gw_of 218 (by decide +kernel) (by decide +kernel)
theorem c_Pf_9 : Cond.classLink RX2 9 RX5 ∈ gw := gw_of 224 (by decide +kernel) (by decide +kernel)
theorem i_Cp : Cond.instantiable RX9 8 ∈ gw := gw_of 28 (by decide +kernel) (by decide +kernel)
theorem ini_Cp : Cond.initialized RX9 ∈ gw := gw_of 15 (by decide +kernel) (by decide +kernel)
theorem i_St : Cond.instantiable RX6 2 ∈ gw := gw_of 36 (by decide +kernel) (by decide +kernel)
theorem ini_St : Cond.initialized RX6 ∈ gw := gw_of 16 (by decide +kernel) (by decide +kernel)
theorem i_Gm : Cond.instantiable RX0 7 ∈ gw := gw_of 42 (by decide +kernel) (by decide +kernel)
theorem ini_Gm : Cond.initialized RX0 ∈ gw := gw_of 17 (by decide +kernel) (by decide +kernel)
theorem i_Rw : Cond.instantiable RX5 1 ∈ gw := gw_of 48 (by decide +kernel) (by decide +kernel)
theorem ini_Rw : Cond.initialized RX5 ∈ gw := gw_of 18 (by decide +kernel) (by decide +kernel)
theorem i_Tr : Cond.instantiable RX8 10 ∈ gw := gw_of 100 (by decide +kernel) (by decide +kernel)
theorem ini_Tr : Cond.initialized RX8 ∈ gw := gw_of 20 (by decide +kernel) (by decide +kernel)
theorem i_Hi : Cond.instantiable RX1 2 ∈ gw := gw_of 159 (by decide +kernel) (by decide +kernel)
theorem ini_Hi : Cond.initialized RX1 ∈ gw := gw_of 21 (by decide +kernel) (by decide +kernel)
theorem i_Tx : Cond.instantiable RX7 2 ∈ gw := gw_of 176 (by decide +kernel) (by decide +kernel)
theorem ini_Tx : Cond.initialized RX7 ∈ gw := gw_of 22 (by decide +kernel) (by decide +kernel)
theorem i_Rd : Cond.instantiable RX3 3 ∈ gw := gw_of 190 (by decide +kernel) (by decide +kernel)
theorem ini_Rd : Cond.initialized RX3 ∈ gw := gw_of 23 (by decide +kernel) (by decide +kernel)
theorem i_Ro : Cond.instantiable RX4 1 ∈ gw := gw_of 207 (by decide +kernel) (by decide +kernel)
theorem ini_Ro : Cond.initialized RX4 ∈ gw := gw_of 24 (by decide +kernel) (by decide +kernel)
theorem i_Pf : Cond.instantiable RX2 1 ∈ gw := gw_of 219 (by decide +kernel) (by decide +kernel)
theorem ini_Pf : Cond.initialized RX2 ∈ gw := gw_of 25 (by decide +kernel) (by decide +kernel)
end
section
/-! THE CLEAN MACHINE: memory is numbers (MU), its shapes stand apart (GG); one judgement V over the kit's W -/
/-- a cell's shape: an object of a class, whose fields are ints (none) or held references; or an array (0 int, 1 char, 2 boolean, 3 of references) of a length -/
abbrev Ob : Type := (Nat × List (Option (Option Nat))) ⊕ (Nat × Nat)
abbrev MU : Type := Nat → Int → Int
/-- how many cells, how many slots, their shapes -/
abbrev GG : Type := Nat × Nat × (Nat → Ob)
/-- the classes' numbers and slots, the arrays' classes, the first cell's address -/
abbrev EV : Type := va_G × (Nat → ClassId) × Nat
def rI (z : Int) : Value := .int (Int32.ofInt z)
def rA (E : EV) (k : Nat) : Value := .ref (E.2.2 + k)
def oA (E : EV) (z : Int) : Option Nat := if z < 0 then none else some (E.2.2 + z.toNat)
def fV (E : EV) (c : Int → Int) (j : Nat) (d : Option (Option Nat)) : Value := match d with
  | none => rI (c j)
  | some none => .null
  | some (some t) => rA E t
def aC (E : EV) (c : Int → Int) (q : Nat × Nat) : vp_A := (q.2, if q.1 = 3 then .inr (.inr (.inr (.inr (fun j => oA E (c j))))) else .inl (fun j => Int32.ofInt (c j)))
def cE (E : EV) (o : Ob) (c : Int → Int) : va_E := match o with
  | .inl q => .inr (q.1, q.2.mapIdx (fV E c))
  | .inr q => .inl (E.2.1 q.1, aC E c q)
def wl (E : EV) (G : GG) (μ : MU) : va_W := (List.range G.1).map fun k => (E.2.2 + k, cE E (G.2.2 k) (μ k))
def Rep (E : EV) (G : GG) (μ : MU) (H : Heap) : Prop := va_P E.1 vwCl (wl E G μ) H ∧ H.size = E.2.2 + G.1
def tyE (E : EV) : List (ClassId × FieldType) := [(E.2.1 0, .int), (E.2.1 1, .char), (E.2.1 2, .int), (E.2.1 3, .object RX6)]
/-- a memory with one number written -/
def wr (μ : MU) (a : Nat) (i v : Int) : MU := fun b j => if b = a then (if j = i then v else μ b j) else μ b j
/-- a memory with one cell's numbers put -/
def wrC (μ : MU) (a : Nat) (f : Int → Int) : MU := fun b => if b = a then f else μ b
/-- shapes with one cell's put -/
def shp (G : GG) (a : Nat) (o : Ob) : GG := (G.1, G.2.1, fun b => if b = a then o else G.2.2 b)
def obj (G : GG) (a : Nat) (o : Ob) : Prop := a < G.1 ∧ G.2.2 a = o
abbrev inR (z : Int) : Prop := -2147483648 ≤ z ∧ z ≤ 2147483647
theorem wr_s (μ : MU) (a : Nat) (i v : Int) : wr μ a i v a i = v := by simp [wr]
theorem wr_i {μ : MU} {a b : Nat} {i v j : Int} (h : j ≠ i) : wr μ a i v b j = μ b j := by simp [wr, h]
theorem wr_a {μ : MU} {a b : Nat} {i v : Int} (h : b ≠ a) : wr μ a i v b = μ b := by funext j; simp [wr, h]
theorem wr_self (μ : MU) (a : Nat) (i v : Int) : wr μ a i v a = fun j => if j = i then v else μ a j := by funext j; simp [wr]
theorem wl_at {E : EV} {G : GG} {μ : MU} {a : Nat} {o : Ob} (h : obj G a o) : (wl E G μ)[a]? = some (E.2.2 + a, cE E o (μ a)) := by
  obtain ⟨h1, h2⟩ := h
  simp [wl, h1, ← h2]
theorem wl_set {E : EV} {G G' : GG} {μ μ' : MU} {a : Nat} {e : va_E} (hn : G'.1 = G.1) (he : e = cE E (G'.2.2 a) (μ' a)) (hG : ∀ b, b ≠ a → G'.2.2 b = G.2.2 b) (hm : ∀ b, b ≠ a → μ' b = μ b) : (wl E G μ).set a (E.2.2 + a, e) = wl E G' μ' := by
  apply List.ext_getElem?
  intro k
  rw [List.getElem?_set]
  by_cases hk : a = k
  · subst hk
    by_cases hl : a < G.1
    · simp [wl, hl, hn, he]
    · simp [wl, hl, hn]
  · rw [if_neg hk]
    by_cases hl : k < G.1
    · simp [wl, hl, hn, hG k (fun q => hk q.symm), hm k (fun q => hk q.symm)]
    · simp [wl, hl, hn]
theorem wl_D (E : EV) (G : GG) (μ : MU) : va_D (fun q => E.2.2 ≤ q) (wl E G μ) := by
  constructor
  · intro i j p q hp hq h
    simp only [wl, List.getElem?_map, Option.map_eq_some_iff] at hp hq
    obtain ⟨x, hx, rfl⟩ := hp
    obtain ⟨y, hy, rfl⟩ := hq
    have hx' := (List.getElem?_eq_some_iff.mp hx).2
    have hy' := (List.getElem?_eq_some_iff.mp hy).2
    rw [List.getElem_range] at hx' hy'
    have h' : E.2.2 + x = E.2.2 + y := h
    omega
  · intro k q hq
    simp only [wl, List.getElem?_map, Option.map_eq_some_iff] at hq
    obtain ⟨x, hx, rfl⟩ := hq
    simp
theorem tI {z : Int} (h : inR z) : (Int32.ofInt z).toInt = z := Int32.toInt_ofInt_of_le (by have := h.1; omega) (by have := h.2; omega)
theorem tN {z : Int} (h0 : 0 ≤ z) (h : z ≤ 2147483647) : (Int32.ofInt z).toNatClampNeg = z.toNat := by
  show (Int32.ofInt z).toInt.toNat = _
  rw [tI ⟨by omega, h⟩]
theorem inV {z : Int} {n : Nat} (h0 : 0 ≤ z) (h : z < n) (hn : n ≤ 65536) : vp_in (Int32.ofInt z) n := by
  rw [vp_in_iff, tI ⟨by omega, by omega⟩]
  exact ⟨h0, h⟩
theorem nN {z : Int} (h0 : 0 ≤ z) (h : z ≤ 2147483647) : ¬ Int32.ofInt z < 0 := by
  rw [Int32.lt_iff_toInt_lt, tI ⟨by omega, h⟩]
  simp
  exact h0
/-! ## the judgement -/
def lkp : List (Nat × Value) → Nat → Option Value
  | [], _ => none
  | (i, v) :: r, j => match Nat.beq i j with
    | true => some v
    | false => lkp r j
def isLg : Option FieldType → Bool
  | some .long => true
  | _ => false
/-- where a long may lie -/
def spot (my : MR) (j : Nat) : Bool := (isLg my.2.2.2.2 && Nat.beq j 1) || (Nat.beq my.2.2.2.1 14 && (Nat.beq j 2 || (Nat.beq j 7 || Nat.beq j 11)))
def aft (my : MR) : Nat → Bool
  | 0 => false
  | k + 1 => spot my k
abbrev stO (my : MR) (j : Nat) : Prop := j < my.2.2.2.1 ∧ aft my j = false
abbrev stL (my : MR) (j : Nat) : Prop := j + 1 < my.2.2.2.1 ∧ spot my j = true ∧ aft my j = false
def LH (my : MR) (ls : Array Slot) (lo : List (Nat × Value)) : Prop := ls.size = my.2.2.2.1 ∧ lv_wf ls ∧ ∀ j v, lkp lo j = some v → ls[j]? = some (.val v) ∧ (v.category = 1 ∨ spot my j = true)
theorem lkp_mem : ∀ {lo : List (Nat × Value)} {j : Nat} {v : Value}, lkp lo j = some v → (j, v) ∈ lo
  | (i, w) :: r, j, v, h => by
    unfold lkp at h
    split at h
    · next e =>
      cases h
      rw [Nat.eq_of_beq_eq_true e]
      exact List.mem_cons_self
    · exact List.mem_cons_of_mem _ (lkp_mem h)
theorem LH.has {my : MR} {ls : Array Slot} {lo : List (Nat × Value)} (h : LH my ls lo) : lv_has ls my.2.2.2.1 (lo.filterMap fun q => (lkp lo q.1).map fun v => (q.1, v)) := by
  refine ⟨h.1, h.2.1, fun q hq => ?_⟩
  obtain ⟨p, -, hp⟩ := List.mem_filterMap.mp hq
  obtain ⟨v, hv, rfl⟩ := Option.map_eq_some_iff.mp hp
  exact (h.2.2 _ _ hv).1
theorem LH.put {my : MR} {ls ls' : Array Slot} {i : Nat} {v : Value} {lo : List (Nat × Value)} (h : LH my ls lo) (hc : v.category = 1) (hs : aft my i = false)
    (h' : lv_has ls' my.2.2.2.1 ((i, v) :: (lo.filterMap fun q => (lkp lo q.1).map fun v => (q.1, v)).filter (fun q => !(q.1 == i) && !(q.1 + 1 == i && q.2.category == 2)))) : LH my ls' ((i, v) :: lo) := by
  refine ⟨h'.1, h'.2.1, fun j w hj => ?_⟩
  unfold lkp at hj
  split at hj
  · next e =>
    cases hj
    rw [← Nat.eq_of_beq_eq_true e]
    exact ⟨h'.2.2 (i, v) List.mem_cons_self, Or.inl hc⟩
  · next e =>
    have hne : ¬ j = i := fun q => by subst q; simp at e
    have hw := h.2.2 j w hj
    have h3 : ¬ (j + 1 = i ∧ w.category = 2) := fun q => by
      rcases hw.2 with h4 | h4
      · omega
      · rw [← q.1] at hs
        have h5 : spot my j = false := hs
        rw [h4] at h5
        cases h5
    refine ⟨h'.2.2 (j, w) (List.mem_cons_of_mem _ (List.mem_filter.mpr ⟨List.mem_filterMap.mpr ⟨(j, w), lkp_mem hj, by simp [hj]⟩, ?_⟩)), hw.2⟩
    by_cases a : j + 1 = i
    · by_cases b : w.category = 2
      · exact absurd ⟨a, b⟩ h3
      · simp [hne, b]
    · simp [hne, a]
theorem LH.put2 {my : MR} {ls ls' : Array Slot} {i : Nat} {x : Int64} {lo : List (Nat × Value)} (h : LH my ls lo) (hs : spot my i = true) (h0 : aft my i = false) (h1 : lkp lo (i + 1) = none)
    (h' : lv_has ls' my.2.2.2.1 ((i, .long x) :: (lo.filterMap fun q => (lkp lo q.1).map fun v => (q.1, v)).filter (fun q => !(q.1 == i) && (!(q.1 == i + 1) && !(q.1 + 1 == i && q.2.category == 2))))) : LH my ls' ((i, .long x) :: lo) := by
  refine ⟨h'.1, h'.2.1, fun j w hj => ?_⟩
  unfold lkp at hj
  split at hj
  · next e =>
    cases hj
    rw [← Nat.eq_of_beq_eq_true e]
    exact ⟨h'.2.2 (i, .long x) List.mem_cons_self, Or.inr hs⟩
  · next e =>
    have hne : ¬ j = i := fun q => by subst q; simp at e
    have hn1 : ¬ j = i + 1 := fun q => by
      subst q
      rw [h1] at hj
      cases hj
    have hw := h.2.2 j w hj
    have h3 : ¬ (j + 1 = i ∧ w.category = 2) := fun q => by
      rcases hw.2 with h4 | h4
      · omega
      · rw [← q.1] at h0
        have h5 : spot my j = false := h0
        rw [h4] at h5
        cases h5
    refine ⟨h'.2.2 (j, w) (List.mem_cons_of_mem _ (List.mem_filter.mpr ⟨List.mem_filterMap.mpr ⟨(j, w), lkp_mem hj, by simp [hj]⟩, ?_⟩)), hw.2⟩
    by_cases a : j + 1 = i
    · by_cases b : w.category = 2
      · exact absurd ⟨a, b⟩ h3
      · simp [hne, hn1, b]
    · simp [hne, hn1, a]
/-- fewer or differently listed locals -/
def lok (lo : List (Nat × Value)) : List (Nat × Value) → Prop
  | [] => True
  | (j, v) :: r => lkp lo j = some v ∧ lok lo r
theorem LH.sub {my : MR} {ls : Array Slot} {lo : List (Nat × Value)} (h : LH my ls lo) : ∀ {lo' : List (Nat × Value)}, lok lo lo' → LH my ls lo' := by
  intro lo' hl
  refine ⟨h.1, h.2.1, fun j v hj => ?_⟩
  have key : ∀ (l : List (Nat × Value)), lok lo l → ∀ q ∈ l, lkp lo q.1 = some q.2 := by
    intro l
    induction l with
    | nil => intro _ q hq; cases hq
    | cons p r ih =>
      intro hl q hq
      rcases List.mem_cons.mp hq with rfl | hq
      · exact hl.1
      · exact ih hl.2 q hq
  exact h.2.2 j v (key lo' hl _ (lkp_mem hj))
/-- what a state's tables say, beside the good words -/
def WD (E : EV) (U : State) : Prop := (∀ w ∈ nw, va_Nw w U) ∧ va_K E.1 vwCl (tyE E) U ∧ va_AO RX6 U
def CX (E : EV) (my : MR) (sc : Option (Nat × Nat × (Nat → Int))) (d : Nat) (p : Program) (R : Room) (s : State) (m : MethodId) (args : Array Value) (meth : Method) (c : Code) : Prop :=
  CallFix p m c my.2.2.1 my.2.2.2.1 s args gw my.1 ∧ WD E s ∧ (d ≤ R.frames ∧ 35 * d ≤ R.locals) ∧ E.2.2 ≤ s.heap.size ∧ (my.2.1.name = "<init>" → meth.name = "<init>") ∧ (∀ q, sc = some q → va_X q.1 q.2.1 (fun j => Int32.ofInt (q.2.2 j)) s s.heap ∧ q.1 < E.2.2)
def DY (E : EV) (G : GG) (μ : MU) (NT ST : Nat) (R : Room) (s : State) (H : Heap) (locs : List Loc) (cells slots : Nat) : Prop :=
  Rep E G μ H ∧ va_S (fun q => E.2.2 ≤ q) s.heap H locs ∧ cells + NT ≤ R.cells + G.1 ∧ slots + ST ≤ R.slots + G.2.1 ∧ cells ≤ R.cells ∧ slots ≤ R.slots ∧ E.2.2 + G.1 = s.heap.size + cells ∧ G.1 ≤ NT ∧ G.2.1 ≤ ST
def RT (my : MR) (pc : Nat) (v : Option Value) (stk : List Value) : Prop :=
  (∃ z : Int, v = some (rI z) ∧ stk = [rI z] ∧ dec my pc = .ok (.ireturn, 1) ∧ ∃ ty, my.2.2.2.2 = some ty ∧ narrow ty (rI z) = rI z) ∨ (v = none ∧ stk = [] ∧ dec my pc = .ok (.return_, 1) ∧ my.2.2.2.2 = none) ∨
  (∃ a : Nat, v = some (.ref a) ∧ stk = [.ref a] ∧ dec my pc = .ok (.areturn, 1) ∧ ∃ n, my.2.2.2.2 = some (.object n)) ∨ (∃ z : Int64, v = some (.long z) ∧ stk = [.long z] ∧ dec my pc = .ok (.lreturn, 1) ∧ my.2.2.2.2 = some .long)
def V (E : EV) (l : Launch) (my : MR) (sc : Option (Nat × Nat × (Nat → Int))) (d NT ST : Nat) (Post : Option Value → GG → MU → Prop) (pc : Nat) (lo : List (Nat × Value)) (st : List Value) (G : GG) (μ : MU) : Prop :=
  ∀ (p : Program) (e : Env) (R : Room) (s : State) (m : MethodId) (args : Array Value) (below : List Frame) (meth : Method) (c : Code) (H : Heap) (locs : List Loc) (cells slots : Nat) (Qf : State → Prop) (ls : Array Slot),
    CX E my sc d p R s m args meth c → DY E G μ NT ST R s H locs cells slots → LH my ls lo →
    (∀ (v : Option Value) (G' : GG) (μ' : MU) (H' : Heap) (locs' : List Loc) (cells' slots' pc' : Nat) (ls' : Array Slot) (stk : List Value), Post v G' μ' → DY E G' μ' NT ST R s H' locs' cells' slots' → RT my pc' v stk → W p l e R s m args below meth c H' locs' cells' slots' Qf (F0 m pc' ls' stk)) →
    W p l e R s m args below meth c H locs cells slots Qf (F0 m pc ls st)
section VR
variable {E : EV} {l : Launch} {my : MR} {sc : Option (Nat × Nat × (Nat → Int))} {d NT ST : Nat} {Post : Option Value → GG → MU → Prop} {pc n : Nat} {lo : List (Nat × Value)} {st : List Value} {G : GG} {μ : MU}
theorem V.loc {lo' : List (Nat × Value)} (h : lok lo lo') (k : V E l my sc d NT ST Post pc lo' st G μ) : V E l my sc d NT ST Post pc lo st G μ :=
  fun p e R s m args below meth c H locs cells slots Qf ls C D L hr => k p e R s m args below meth c H locs cells slots Qf ls C D (L.sub h) hr
theorem V.iret {x : Int} (hd : dec my pc = .ok (.ireturn, 1)) (ht : ∃ ty, my.2.2.2.2 = some ty ∧ narrow ty (rI x) = rI x) (h : Post (some (rI x)) G μ) : V E l my sc d NT ST Post pc lo [rI x] G μ :=
  fun _ _ _ _ _ _ _ _ _ H locs cells slots _ ls _ D _ hr => hr _ G μ H locs cells slots pc ls _ h D (Or.inl ⟨x, rfl, rfl, hd, ht⟩)
theorem V.vret (hd : dec my pc = .ok (.return_, 1)) (ht : my.2.2.2.2 = none) (h : Post none G μ) : V E l my sc d NT ST Post pc lo [] G μ :=
  fun _ _ _ _ _ _ _ _ _ H locs cells slots _ ls _ D _ hr => hr _ G μ H locs cells slots pc ls _ h D (Or.inr (Or.inl ⟨rfl, rfl, hd, ht⟩))
theorem V.aret {x : Nat} (hd : dec my pc = .ok (.areturn, 1)) (ht : ∃ n, my.2.2.2.2 = some (.object n)) (h : Post (some (rA E x)) G μ) : V E l my sc d NT ST Post pc lo [rA E x] G μ :=
  fun _ _ _ _ _ _ _ _ _ H locs cells slots _ ls _ D _ hr => hr _ G μ H locs cells slots pc ls _ h D (Or.inr (Or.inr (Or.inl ⟨_, rfl, rfl, hd, ht⟩)))
theorem V.iload_n {j : Fin 4} {z : Int} (hd : dec my pc = .ok (.iload_n j, 1)) (hl : lkp lo j = some (rI z)) (hn : pc + 1 = n) (k : V E l my sc d NT ST Post n lo (rI z :: st) G μ) : V E l my sc d NT ST Post pc lo st G μ := by
  subst hn
  intro p e R s m args below meth c H locs cells slots Qf ls C D L hr
  exact lv_iload_n C.1.1 C.1.2.1 hd rfl (L.2.2 _ _ hl).1 (k p e R s m args below meth c H locs cells slots Qf ls C D L hr)
theorem V.iload {j : Nat} {z : Int} (hd : dec my pc = .ok (.iload j, 2)) (hl : lkp lo j = some (rI z)) (hn : pc + 2 = n) (k : V E l my sc d NT ST Post n lo (rI z :: st) G μ) : V E l my sc d NT ST Post pc lo st G μ := by
  subst hn
  intro p e R s m args below meth c H locs cells slots Qf ls C D L hr
  exact lv_iload C.1.1 C.1.2.1 hd (L.2.2 _ _ hl).1 (k p e R s m args below meth c H locs cells slots Qf ls C D L hr)
theorem V.aload_n {j : Fin 4} {a : Nat} (hd : dec my pc = .ok (.aload_n j, 1)) (hl : lkp lo j = some (rA E a)) (hn : pc + 1 = n) (k : V E l my sc d NT ST Post n lo (rA E a :: st) G μ) : V E l my sc d NT ST Post pc lo st G μ := by
  subst hn
  intro p e R s m args below meth c H locs cells slots Qf ls C D L hr
  exact lv_aload_n C.1.1 C.1.2.1 hd rfl (L.2.2 _ _ hl).1 (k p e R s m args below meth c H locs cells slots Qf ls C D L hr)
theorem V.iconst {v : Int} (hd : dec my pc = .ok (.iconst v, 1)) (hn : pc + 1 = n) (k : V E l my sc d NT ST Post n lo (rI v :: st) G μ) : V E l my sc d NT ST Post pc lo st G μ := by
  subst hn
  intro p e R s m args below meth c H locs cells slots Qf ls C D L hr
  exact lv_iconst C.1.1 C.1.2.1 hd rfl (k p e R s m args below meth c H locs cells slots Qf ls C D L hr)
theorem V.bipush {v : Int} (hd : dec my pc = .ok (.bipush v, 2)) (hv : (Int8.ofInt v).toInt32 = Int32.ofInt v) (hn : pc + 2 = n) (k : V E l my sc d NT ST Post n lo (rI v :: st) G μ) : V E l my sc d NT ST Post pc lo st G μ := by
  subst hn
  intro p e R s m args below meth c H locs cells slots Qf ls C D L hr
  exact lv_bipush C.1.1 C.1.2.1 hd hv (k p e R s m args below meth c H locs cells slots Qf ls C D L hr)
theorem V.sipush {v : Int} (hd : dec my pc = .ok (.sipush v, 3)) (hv : (Int16.ofInt v).toInt32 = Int32.ofInt v) (hn : pc + 3 = n) (k : V E l my sc d NT ST Post n lo (rI v :: st) G μ) : V E l my sc d NT ST Post pc lo st G μ := by
  subst hn
  intro p e R s m args below meth c H locs cells slots Qf ls C D L hr
  exact lv_sipush C.1.1 C.1.2.1 hd hv (k p e R s m args below meth c H locs cells slots Qf ls C D L hr)
theorem V.iadd {x y : Int} (hd : dec my pc = .ok (.iadd, 1)) (hn : pc + 1 = n) (k : V E l my sc d NT ST Post n lo (rI (x + y) :: st) G μ) : V E l my sc d NT ST Post pc lo (rI y :: rI x :: st) G μ := by
  subst hn
  intro p e R s m args below meth c H locs cells slots Qf ls C D L hr
  have h := k p e R s m args below meth c H locs cells slots Qf ls C D L hr
  rw [rI, Int32.ofInt_add] at h
  exact lv_iadd C.1.1 C.1.2.1 hd h
theorem V.isub {x y : Int} (hd : dec my pc = .ok (.isub, 1)) (hn : pc + 1 = n) (k : V E l my sc d NT ST Post n lo (rI (x - y) :: st) G μ) : V E l my sc d NT ST Post pc lo (rI y :: rI x :: st) G μ := by
  subst hn
  intro p e R s m args below meth c H locs cells slots Qf ls C D L hr
  have h := k p e R s m args below meth c H locs cells slots Qf ls C D L hr
  rw [rI, Int32.ofInt_sub] at h
  exact lv_isub C.1.1 C.1.2.1 hd h
theorem V.imul {x y : Int} (hd : dec my pc = .ok (.imul, 1)) (hn : pc + 1 = n) (k : V E l my sc d NT ST Post n lo (rI (x * y) :: st) G μ) : V E l my sc d NT ST Post pc lo (rI y :: rI x :: st) G μ := by
  subst hn
  intro p e R s m args below meth c H locs cells slots Qf ls C D L hr
  have h := k p e R s m args below meth c H locs cells slots Qf ls C D L hr
  rw [rI, Int32.ofInt_mul] at h
  exact lv_imul C.1.1 C.1.2.1 hd h
theorem V.dup {v : Value} (hd : dec my pc = .ok (.dup, 1)) (hv : v.category = 1) (hn : pc + 1 = n) (k : V E l my sc d NT ST Post n lo (v :: v :: st) G μ) : V E l my sc d NT ST Post pc lo (v :: st) G μ := by
  subst hn
  intro p e R s m args below meth c H locs cells slots Qf ls C D L hr
  exact lv_dup C.1.1 C.1.2.1 hd hv (k p e R s m args below meth c H locs cells slots Qf ls C D L hr)
theorem V.goto {o : Int} (hd : dec my pc = .ok (.goto o, 3)) (hn : (pc : Int) + o = (n : Int)) (k : V E l my sc d NT ST Post n lo st G μ) : V E l my sc d NT ST Post pc lo st G μ := by
  intro p e R s m args below meth c H locs cells slots Qf ls C D L hr
  exact lv_goto C.1.1 C.1.2.1 hd hn (k p e R s m args below meth c H locs cells slots Qf ls C D L hr)
theorem V.istore_n {j : Fin 4} {z : Int} (hd : dec my pc = .ok (.istore_n j, 1)) (hj : stO my (j : Nat)) (hn : pc + 1 = n) (k : V E l my sc d NT ST Post n (((j : Nat), rI z) :: lo) st G μ) : V E l my sc d NT ST Post pc lo (rI z :: st) G μ := by
  subst hn
  intro p e R s m args below meth c H locs cells slots Qf ls C D L hr
  exact lv_istore_n C.1.1 C.1.2.1 hd rfl L.has hj.1 rfl (fun ls' h' => k p e R s m args below meth c H locs cells slots Qf ls' C D (L.put rfl hj.2 h') hr)
theorem V.istore {j : Nat} {z : Int} (hd : dec my pc = .ok (.istore j, 2)) (hj : stO my j) (hn : pc + 2 = n) (k : V E l my sc d NT ST Post n ((j, rI z) :: lo) st G μ) : V E l my sc d NT ST Post pc lo (rI z :: st) G μ := by
  subst hn
  intro p e R s m args below meth c H locs cells slots Qf ls C D L hr
  exact lv_istore C.1.1 C.1.2.1 hd L.has hj.1 rfl (fun ls' h' => k p e R s m args below meth c H locs cells slots Qf ls' C D (L.put rfl hj.2 h') hr)
theorem V.astore_n {j : Fin 4} {a : Nat} (hd : dec my pc = .ok (.astore_n j, 1)) (hj : stO my (j : Nat)) (hn : pc + 1 = n) (k : V E l my sc d NT ST Post n (((j : Nat), rA E a) :: lo) st G μ) : V E l my sc d NT ST Post pc lo (rA E a :: st) G μ := by
  subst hn
  intro p e R s m args below meth c H locs cells slots Qf ls C D L hr
  exact lv_astore_n C.1.1 C.1.2.1 hd rfl L.has hj.1 rfl (fun ls' h' => k p e R s m args below meth c H locs cells slots Qf ls' C D (L.put rfl hj.2 h') hr)
theorem V.astore {j : Nat} {a : Nat} (hd : dec my pc = .ok (.astore j, 2)) (hj : stO my j) (hn : pc + 2 = n) (k : V E l my sc d NT ST Post n ((j, rA E a) :: lo) st G μ) : V E l my sc d NT ST Post pc lo (rA E a :: st) G μ := by
  subst hn
  intro p e R s m args below meth c H locs cells slots Qf ls C D L hr
  exact lv_astore C.1.1 C.1.2.1 hd L.has hj.1 rfl (fun ls' h' => k p e R s m args below meth c H locs cells slots Qf ls' C D (L.put rfl hj.2 h') hr)
theorem V.aload {j : Nat} {a : Nat} (hd : dec my pc = .ok (.aload j, 2)) (hl : lkp lo j = some (rA E a)) (hn : pc + 2 = n) (k : V E l my sc d NT ST Post n lo (rA E a :: st) G μ) : V E l my sc d NT ST Post pc lo st G μ := by
  subst hn
  intro p e R s m args below meth c H locs cells slots Qf ls C D L hr
  exact lv_aload C.1.1 C.1.2.1 hd (L.2.2 _ _ hl).1 (k p e R s m args below meth c H locs cells slots Qf ls C D L hr)
/-- iinc: the local's new value is named in the list -/
theorem V.iinc {j : Nat} {z o : Int} (hd : dec my pc = .ok (.iinc j o, 3)) (hl : lkp lo j = some (rI z)) (hj : stO my j) (hn : pc + 3 = n) (k : V E l my sc d NT ST Post n ((j, rI (z + o)) :: lo) st G μ) : V E l my sc d NT ST Post pc lo st G μ := by
  subst hn
  intro p e R s m args below meth c H locs cells slots Qf ls C D L hr
  have hm := List.mem_filterMap.mpr (⟨(j, rI z), lkp_mem hl, by simp [hl]⟩ : ∃ a ∈ lo, (fun q : Nat × Value => (lkp lo q.1).map fun v => (q.1, v)) a = some (j, rI z))
  obtain ⟨i, hi⟩ := List.getElem?_of_mem hm
  exact lv_iinc (v := Int32.ofInt (z + o)) C.1.1 C.1.2.1 hd L.has hi (by rw [Int32.ofInt_add]) hj.1 rfl (fun ls' h' => k p e R s m args below meth c H locs cells slots Qf ls' C D (L.put rfl hj.2 h') hr)
theorem V.lret {x : Int64} (hd : dec my pc = .ok (.lreturn, 1)) (ht : my.2.2.2.2 = some .long) (h : Post (some (.long x)) G μ) : V E l my sc d NT ST Post pc lo [.long x] G μ :=
  fun _ _ _ _ _ _ _ _ _ H locs cells slots _ ls _ D _ hr => hr _ G μ H locs cells slots pc ls _ h D (Or.inr (Or.inr (Or.inr ⟨_, rfl, rfl, hd, ht⟩)))
theorem V.lload_n {j : Fin 4} {x : Int64} (hd : dec my pc = .ok (.lload_n j, 1)) (hl : lkp lo j = some (.long x)) (hn : pc + 1 = n) (k : V E l my sc d NT ST Post n lo (.long x :: st) G μ) : V E l my sc d NT ST Post pc lo st G μ := by
  subst hn
  intro p e R s m args below meth c H locs cells slots Qf ls C D L hr
  exact lv_lload_n C.1.1 C.1.2.1 hd rfl (L.2.2 _ _ hl).1 (k p e R s m args below meth c H locs cells slots Qf ls C D L hr)
theorem V.lload {j : Nat} {x : Int64} (hd : dec my pc = .ok (.lload j, 2)) (hl : lkp lo j = some (.long x)) (hn : pc + 2 = n) (k : V E l my sc d NT ST Post n lo (.long x :: st) G μ) : V E l my sc d NT ST Post pc lo st G μ := by
  subst hn
  intro p e R s m args below meth c H locs cells slots Qf ls C D L hr
  exact lv_lload C.1.1 C.1.2.1 hd (L.2.2 _ _ hl).1 (k p e R s m args below meth c H locs cells slots Qf ls C D L hr)
theorem V.lstore_n {j : Fin 4} {x : Int64} (hd : dec my pc = .ok (.lstore_n j, 1)) (hj : stL my (j : Nat)) (h1 : lkp lo ((j : Nat) + 1) = none) (hn : pc + 1 = n) (k : V E l my sc d NT ST Post n (((j : Nat), .long x) :: lo) st G μ) : V E l my sc d NT ST Post pc lo (.long x :: st) G μ := by
  subst hn
  intro p e R s m args below meth c H locs cells slots Qf ls C D L hr
  exact lv_lstore_n C.1.1 C.1.2.1 hd rfl L.has hj.1 rfl (fun ls' h' => k p e R s m args below meth c H locs cells slots Qf ls' C D (L.put2 hj.2.1 hj.2.2 h1 h') hr)
theorem V.lstore {j : Nat} {x : Int64} (hd : dec my pc = .ok (.lstore j, 2)) (hj : stL my j) (h1 : lkp lo (j + 1) = none) (hn : pc + 2 = n) (k : V E l my sc d NT ST Post n ((j, .long x) :: lo) st G μ) : V E l my sc d NT ST Post pc lo (.long x :: st) G μ := by
  subst hn
  intro p e R s m args below meth c H locs cells slots Qf ls C D L hr
  exact lv_lstore C.1.1 C.1.2.1 hd L.has hj.1 rfl (fun ls' h' => k p e R s m args below meth c H locs cells slots Qf ls' C D (L.put2 hj.2.1 hj.2.2 h1 h') hr)
theorem V.lmul {x y : Int64} (hd : dec my pc = .ok (.lmul, 1)) (hn : pc + 1 = n) (k : V E l my sc d NT ST Post n lo (.long (x * y) :: st) G μ) : V E l my sc d NT ST Post pc lo (.long y :: .long x :: st) G μ := by
  subst hn
  intro p e R s m args below meth c H locs cells slots Qf ls C D L hr
  exact lv_lmul C.1.1 C.1.2.1 hd (k p e R s m args below meth c H locs cells slots Qf ls C D L hr)
theorem V.ladd {x y : Int64} (hd : dec my pc = .ok (.ladd, 1)) (hn : pc + 1 = n) (k : V E l my sc d NT ST Post n lo (.long (x + y) :: st) G μ) : V E l my sc d NT ST Post pc lo (.long y :: .long x :: st) G μ := by
  subst hn
  intro p e R s m args below meth c H locs cells slots Qf ls C D L hr
  exact lv_ladd C.1.1 C.1.2.1 hd (k p e R s m args below meth c H locs cells slots Qf ls C D L hr)
theorem V.i2l {x : Int} (hd : dec my pc = .ok (.i2l, 1)) (hn : pc + 1 = n) (k : V E l my sc d NT ST Post n lo (.long (Int32.ofInt x).toInt64 :: st) G μ) : V E l my sc d NT ST Post pc lo (rI x :: st) G μ := by
  subst hn
  intro p e R s m args below meth c H locs cells slots Qf ls C D L hr
  exact lv_i2l C.1.1 C.1.2.1 hd rfl (k p e R s m args below meth c H locs cells slots Qf ls C D L hr)
theorem V.lcmp {x y : Int64} (hd : dec my pc = .ok (.lcmp, 1)) (hn : pc + 1 = n) (k : V E l my sc d NT ST Post n lo (.int (lg_cmp x y) :: st) G μ) : V E l my sc d NT ST Post pc lo (.long y :: .long x :: st) G μ := by
  subst hn
  intro p e R s m args below meth c H locs cells slots Qf ls C D L hr
  exact W.lcmp C.1.1 C.1.2.1 hd (k p e R s m args below meth c H locs cells slots Qf ls C D L hr)
theorem V.popv {v : Value} (hd : dec my pc = .ok (.pop, 1)) (hv : v.category = 1) (hn : pc + 1 = n) (k : V E l my sc d NT ST Post n lo st G μ) : V E l my sc d NT ST Post pc lo (v :: st) G μ := by
  subst hn
  intro p e R s m args below meth c H locs cells slots Qf ls C D L hr
  exact lv_pop C.1.1 C.1.2.1 hd hv (k p e R s m args below meth c H locs cells slots Qf ls C D L hr)
theorem V.ldc2 {ix : Nat} {v : Int64} (hd : dec my pc = .ok (.ldc2_w ix, 3)) (hc : Cond.constantLong my.1 ix v ∈ gw) (hn : pc + 3 = n) (k : V E l my sc d NT ST Post n lo (.long v :: st) G μ) : V E l my sc d NT ST Post pc lo st G μ := by
  subst hn
  intro p e R s m args below meth c H locs cells slots Qf ls C D L hr
  exact lv_ldc2 C.1.1 C.1.2.1 C.1.2.2.2.1 (C.1.2.2.2.2 _ hc) hd (k p e R s m args below meth c H locs cells slots Qf ls C D L hr)
theorem V.ldci {ix : Nat} {v : Int32} {y : Int} (hd : dec my pc = .ok (.ldc ix, 2)) (hc : Cond.constant my.1 ix v ∈ gw) (hv : v = Int32.ofInt y) (hn : pc + 2 = n) (k : V E l my sc d NT ST Post n lo (rI y :: st) G μ) : V E l my sc d NT ST Post pc lo st G μ := by
  subst hn
  subst hv
  intro p e R s m args below meth c H locs cells slots Qf ls C D L hr
  exact lv_ldc C.1.1 C.1.2.1 C.1.2.2.2.1 (C.1.2.2.2.2 _ hc) hd (k p e R s m args below meth c H locs cells slots Qf ls C D L hr)
theorem V.ishr {x y z : Int} (hd : dec my pc = .ok (.ishr, 1)) (hz : Int32.ofInt x >>> (Int32.ofInt y &&& 31) = Int32.ofInt z) (hn : pc + 1 = n) (k : V E l my sc d NT ST Post n lo (rI z :: st) G μ) : V E l my sc d NT ST Post pc lo (rI y :: rI x :: st) G μ := by
  subst hn
  intro p e R s m args below meth c H locs cells slots Qf ls C D L hr
  have h := k p e R s m args below meth c H locs cells slots Qf ls C D L hr
  rw [rI, ← hz] at h
  exact lv_ishr C.1.1 C.1.2.1 hd h
end VR
end
section
/-! THE RULES: branches, fields, arrays, calls -/
theorem c_lt {x y : Int} (hx : inR x) (hy : inR y) : Int32.ofInt x < Int32.ofInt y ↔ x < y := by rw [Int32.lt_iff_toInt_lt, tI hx, tI hy]
theorem c_le {x y : Int} (hx : inR x) (hy : inR y) : Int32.ofInt x ≤ Int32.ofInt y ↔ x ≤ y := by rw [Int32.le_iff_toInt_le, tI hx, tI hy]
theorem c_eq {x y : Int} (hx : inR x) (hy : inR y) : Int32.ofInt x = Int32.ofInt y ↔ x = y := by rw [← Int32.toInt_inj, tI hx, tI hy]
theorem inR0 : inR 0 := ⟨by decide, by decide⟩
section VB
variable {E : EV} {l : Launch} {my : MR} {sc : Option (Nat × Nat × (Nat → Int))} {d NT ST : Nat} {Post : Option Value → GG → MU → Prop} {pc n n2 : Nat} {lo : List (Nat × Value)} {st : List Value} {G : GG} {μ : MU} {x y o : Int}
theorem V.icmp_eq (hd : dec my pc = .ok (.if_icmp .eq o, 3)) (hx : inR x) (hy : inR y) (ht : (pc : Int) + o = (n2 : Int)) (hn : pc + 3 = n) (kt : x = y → V E l my sc d NT ST Post n2 lo st G μ) (kf : ¬ x = y → V E l my sc d NT ST Post n lo st G μ) : V E l my sc d NT ST Post pc lo (rI y :: rI x :: st) G μ := by
  subst hn
  intro p e R s m args below meth c H locs cells slots Qf ls C D L hr
  have hc := c_eq hx hy
  exact lv_icmp_eq C.1.1 C.1.2.1 hd ht (fun h => kt (hc.mp h) p e R s m args below meth c H locs cells slots Qf ls C D L hr) (fun h => kf (fun q => h (hc.mpr q)) p e R s m args below meth c H locs cells slots Qf ls C D L hr)
theorem V.icmp_eqT (hd : dec my pc = .ok (.if_icmp .eq o, 3)) (hx : inR x) (hy : inR y) (h : x = y) (ht : (pc : Int) + o = (n2 : Int)) (k : V E l my sc d NT ST Post n2 lo st G μ) : V E l my sc d NT ST Post pc lo (rI y :: rI x :: st) G μ := V.icmp_eq hd hx hy ht rfl (fun _ => k) (fun q => absurd h q)
theorem V.icmp_eqF (hd : dec my pc = .ok (.if_icmp .eq o, 3)) (hx : inR x) (hy : inR y) (h : ¬ x = y) (hn : pc + 3 = n) (ht : ∃ n2 : Nat, (pc : Int) + o = (n2 : Int)) (k : V E l my sc d NT ST Post n lo st G μ) : V E l my sc d NT ST Post pc lo (rI y :: rI x :: st) G μ := ht.elim fun _ ht => V.icmp_eq hd hx hy ht hn (fun q => absurd q h) (fun _ => k)
theorem V.if_eq (hd : dec my pc = .ok (.ifCond .eq o, 3)) (hx : inR x) (ht : (pc : Int) + o = (n2 : Int)) (hn : pc + 3 = n) (kt : x = 0 → V E l my sc d NT ST Post n2 lo st G μ) (kf : ¬ x = 0 → V E l my sc d NT ST Post n lo st G μ) : V E l my sc d NT ST Post pc lo (rI x :: st) G μ := by
  subst hn
  intro p e R s m args below meth c H locs cells slots Qf ls C D L hr
  have hc := c_eq hx inR0
  exact lv_if_eq C.1.1 C.1.2.1 hd ht (fun h => kt (hc.mp h) p e R s m args below meth c H locs cells slots Qf ls C D L hr) (fun h => kf (fun q => h (hc.mpr q)) p e R s m args below meth c H locs cells slots Qf ls C D L hr)
theorem V.if_eqT (hd : dec my pc = .ok (.ifCond .eq o, 3)) (hx : inR x) (h : x = 0) (ht : (pc : Int) + o = (n2 : Int)) (k : V E l my sc d NT ST Post n2 lo st G μ) : V E l my sc d NT ST Post pc lo (rI x :: st) G μ := V.if_eq hd hx ht rfl (fun _ => k) (fun q => absurd h q)
theorem V.if_eqF (hd : dec my pc = .ok (.ifCond .eq o, 3)) (hx : inR x) (h : ¬ x = 0) (hn : pc + 3 = n) (ht : ∃ n2 : Nat, (pc : Int) + o = (n2 : Int)) (k : V E l my sc d NT ST Post n lo st G μ) : V E l my sc d NT ST Post pc lo (rI x :: st) G μ := ht.elim fun _ ht => V.if_eq hd hx ht hn (fun q => absurd q h) (fun _ => k)
theorem V.icmp_ne (hd : dec my pc = .ok (.if_icmp .ne o, 3)) (hx : inR x) (hy : inR y) (ht : (pc : Int) + o = (n2 : Int)) (hn : pc + 3 = n) (kt : ¬ x = y → V E l my sc d NT ST Post n2 lo st G μ) (kf : x = y → V E l my sc d NT ST Post n lo st G μ) : V E l my sc d NT ST Post pc lo (rI y :: rI x :: st) G μ := by
  subst hn
  intro p e R s m args below meth c H locs cells slots Qf ls C D L hr
  have hc := not_congr (c_eq hx hy)
  exact lv_icmp_ne C.1.1 C.1.2.1 hd ht (fun h => kt (hc.mp h) p e R s m args below meth c H locs cells slots Qf ls C D L hr) (fun h => kf ((c_eq hx hy).mp h) p e R s m args below meth c H locs cells slots Qf ls C D L hr)
theorem V.icmp_neT (hd : dec my pc = .ok (.if_icmp .ne o, 3)) (hx : inR x) (hy : inR y) (h : ¬ x = y) (ht : (pc : Int) + o = (n2 : Int)) (k : V E l my sc d NT ST Post n2 lo st G μ) : V E l my sc d NT ST Post pc lo (rI y :: rI x :: st) G μ := V.icmp_ne hd hx hy ht rfl (fun _ => k) (fun q => absurd q h)
theorem V.icmp_neF (hd : dec my pc = .ok (.if_icmp .ne o, 3)) (hx : inR x) (hy : inR y) (h : x = y) (hn : pc + 3 = n) (ht : ∃ n2 : Nat, (pc : Int) + o = (n2 : Int)) (k : V E l my sc d NT ST Post n lo st G μ) : V E l my sc d NT ST Post pc lo (rI y :: rI x :: st) G μ := ht.elim fun _ ht => V.icmp_ne hd hx hy ht hn (fun q => absurd h q) (fun _ => k)
theorem V.if_ne (hd : dec my pc = .ok (.ifCond .ne o, 3)) (hx : inR x) (ht : (pc : Int) + o = (n2 : Int)) (hn : pc + 3 = n) (kt : ¬ x = 0 → V E l my sc d NT ST Post n2 lo st G μ) (kf : x = 0 → V E l my sc d NT ST Post n lo st G μ) : V E l my sc d NT ST Post pc lo (rI x :: st) G μ := by
  subst hn
  intro p e R s m args below meth c H locs cells slots Qf ls C D L hr
  have hc := not_congr (c_eq hx inR0)
  exact lv_if_ne C.1.1 C.1.2.1 hd ht (fun h => kt (hc.mp h) p e R s m args below meth c H locs cells slots Qf ls C D L hr) (fun h => kf ((c_eq hx inR0).mp h) p e R s m args below meth c H locs cells slots Qf ls C D L hr)
theorem V.if_neT (hd : dec my pc = .ok (.ifCond .ne o, 3)) (hx : inR x) (h : ¬ x = 0) (ht : (pc : Int) + o = (n2 : Int)) (k : V E l my sc d NT ST Post n2 lo st G μ) : V E l my sc d NT ST Post pc lo (rI x :: st) G μ := V.if_ne hd hx ht rfl (fun _ => k) (fun q => absurd q h)
theorem V.if_neF (hd : dec my pc = .ok (.ifCond .ne o, 3)) (hx : inR x) (h : x = 0) (hn : pc + 3 = n) (ht : ∃ n2 : Nat, (pc : Int) + o = (n2 : Int)) (k : V E l my sc d NT ST Post n lo st G μ) : V E l my sc d NT ST Post pc lo (rI x :: st) G μ := ht.elim fun _ ht => V.if_ne hd hx ht hn (fun q => absurd h q) (fun _ => k)
theorem V.icmp_lt (hd : dec my pc = .ok (.if_icmp .lt o, 3)) (hx : inR x) (hy : inR y) (ht : (pc : Int) + o = (n2 : Int)) (hn : pc + 3 = n) (kt : x < y → V E l my sc d NT ST Post n2 lo st G μ) (kf : ¬ x < y → V E l my sc d NT ST Post n lo st G μ) : V E l my sc d NT ST Post pc lo (rI y :: rI x :: st) G μ := by
  subst hn
  intro p e R s m args below meth c H locs cells slots Qf ls C D L hr
  have hc := c_lt hx hy
  exact lv_icmp_lt C.1.1 C.1.2.1 hd ht (fun h => kt (hc.mp h) p e R s m args below meth c H locs cells slots Qf ls C D L hr) (fun h => kf (fun q => h (hc.mpr q)) p e R s m args below meth c H locs cells slots Qf ls C D L hr)
theorem V.icmp_ltT (hd : dec my pc = .ok (.if_icmp .lt o, 3)) (hx : inR x) (hy : inR y) (h : x < y) (ht : (pc : Int) + o = (n2 : Int)) (k : V E l my sc d NT ST Post n2 lo st G μ) : V E l my sc d NT ST Post pc lo (rI y :: rI x :: st) G μ := V.icmp_lt hd hx hy ht rfl (fun _ => k) (fun q => absurd h q)
theorem V.icmp_ltF (hd : dec my pc = .ok (.if_icmp .lt o, 3)) (hx : inR x) (hy : inR y) (h : ¬ x < y) (hn : pc + 3 = n) (ht : ∃ n2 : Nat, (pc : Int) + o = (n2 : Int)) (k : V E l my sc d NT ST Post n lo st G μ) : V E l my sc d NT ST Post pc lo (rI y :: rI x :: st) G μ := ht.elim fun _ ht => V.icmp_lt hd hx hy ht hn (fun q => absurd q h) (fun _ => k)
theorem V.if_lt (hd : dec my pc = .ok (.ifCond .lt o, 3)) (hx : inR x) (ht : (pc : Int) + o = (n2 : Int)) (hn : pc + 3 = n) (kt : x < 0 → V E l my sc d NT ST Post n2 lo st G μ) (kf : ¬ x < 0 → V E l my sc d NT ST Post n lo st G μ) : V E l my sc d NT ST Post pc lo (rI x :: st) G μ := by
  subst hn
  intro p e R s m args below meth c H locs cells slots Qf ls C D L hr
  have hc := c_lt hx inR0
  exact lv_if_lt C.1.1 C.1.2.1 hd ht (fun h => kt (hc.mp h) p e R s m args below meth c H locs cells slots Qf ls C D L hr) (fun h => kf (fun q => h (hc.mpr q)) p e R s m args below meth c H locs cells slots Qf ls C D L hr)
theorem V.if_ltT (hd : dec my pc = .ok (.ifCond .lt o, 3)) (hx : inR x) (h : x < 0) (ht : (pc : Int) + o = (n2 : Int)) (k : V E l my sc d NT ST Post n2 lo st G μ) : V E l my sc d NT ST Post pc lo (rI x :: st) G μ := V.if_lt hd hx ht rfl (fun _ => k) (fun q => absurd h q)
theorem V.if_ltF (hd : dec my pc = .ok (.ifCond .lt o, 3)) (hx : inR x) (h : ¬ x < 0) (hn : pc + 3 = n) (ht : ∃ n2 : Nat, (pc : Int) + o = (n2 : Int)) (k : V E l my sc d NT ST Post n lo st G μ) : V E l my sc d NT ST Post pc lo (rI x :: st) G μ := ht.elim fun _ ht => V.if_lt hd hx ht hn (fun q => absurd q h) (fun _ => k)
theorem V.icmp_ge (hd : dec my pc = .ok (.if_icmp .ge o, 3)) (hx : inR x) (hy : inR y) (ht : (pc : Int) + o = (n2 : Int)) (hn : pc + 3 = n) (kt : y ≤ x → V E l my sc d NT ST Post n2 lo st G μ) (kf : ¬ y ≤ x → V E l my sc d NT ST Post n lo st G μ) : V E l my sc d NT ST Post pc lo (rI y :: rI x :: st) G μ := by
  subst hn
  intro p e R s m args below meth c H locs cells slots Qf ls C D L hr
  have hc := c_le hy hx
  exact lv_icmp_ge C.1.1 C.1.2.1 hd ht (fun h => kt (hc.mp h) p e R s m args below meth c H locs cells slots Qf ls C D L hr) (fun h => kf (fun q => h (hc.mpr q)) p e R s m args below meth c H locs cells slots Qf ls C D L hr)
theorem V.icmp_geT (hd : dec my pc = .ok (.if_icmp .ge o, 3)) (hx : inR x) (hy : inR y) (h : y ≤ x) (ht : (pc : Int) + o = (n2 : Int)) (k : V E l my sc d NT ST Post n2 lo st G μ) : V E l my sc d NT ST Post pc lo (rI y :: rI x :: st) G μ := V.icmp_ge hd hx hy ht rfl (fun _ => k) (fun q => absurd h q)
theorem V.icmp_geF (hd : dec my pc = .ok (.if_icmp .ge o, 3)) (hx : inR x) (hy : inR y) (h : ¬ y ≤ x) (hn : pc + 3 = n) (ht : ∃ n2 : Nat, (pc : Int) + o = (n2 : Int)) (k : V E l my sc d NT ST Post n lo st G μ) : V E l my sc d NT ST Post pc lo (rI y :: rI x :: st) G μ := ht.elim fun _ ht => V.icmp_ge hd hx hy ht hn (fun q => absurd q h) (fun _ => k)
theorem V.if_ge (hd : dec my pc = .ok (.ifCond .ge o, 3)) (hx : inR x) (ht : (pc : Int) + o = (n2 : Int)) (hn : pc + 3 = n) (kt : 0 ≤ x → V E l my sc d NT ST Post n2 lo st G μ) (kf : ¬ 0 ≤ x → V E l my sc d NT ST Post n lo st G μ) : V E l my sc d NT ST Post pc lo (rI x :: st) G μ := by
  subst hn
  intro p e R s m args below meth c H locs cells slots Qf ls C D L hr
  have hc := c_le inR0 hx
  exact lv_if_ge C.1.1 C.1.2.1 hd ht (fun h => kt (hc.mp h) p e R s m args below meth c H locs cells slots Qf ls C D L hr) (fun h => kf (fun q => h (hc.mpr q)) p e R s m args below meth c H locs cells slots Qf ls C D L hr)
theorem V.if_geT (hd : dec my pc = .ok (.ifCond .ge o, 3)) (hx : inR x) (h : 0 ≤ x) (ht : (pc : Int) + o = (n2 : Int)) (k : V E l my sc d NT ST Post n2 lo st G μ) : V E l my sc d NT ST Post pc lo (rI x :: st) G μ := V.if_ge hd hx ht rfl (fun _ => k) (fun q => absurd h q)
theorem V.if_geF (hd : dec my pc = .ok (.ifCond .ge o, 3)) (hx : inR x) (h : ¬ 0 ≤ x) (hn : pc + 3 = n) (ht : ∃ n2 : Nat, (pc : Int) + o = (n2 : Int)) (k : V E l my sc d NT ST Post n lo st G μ) : V E l my sc d NT ST Post pc lo (rI x :: st) G μ := ht.elim fun _ ht => V.if_ge hd hx ht hn (fun q => absurd q h) (fun _ => k)
theorem V.icmp_gt (hd : dec my pc = .ok (.if_icmp .gt o, 3)) (hx : inR x) (hy : inR y) (ht : (pc : Int) + o = (n2 : Int)) (hn : pc + 3 = n) (kt : y < x → V E l my sc d NT ST Post n2 lo st G μ) (kf : ¬ y < x → V E l my sc d NT ST Post n lo st G μ) : V E l my sc d NT ST Post pc lo (rI y :: rI x :: st) G μ := by
  subst hn
  intro p e R s m args below meth c H locs cells slots Qf ls C D L hr
  have hc := c_lt hy hx
  exact lv_icmp_gt C.1.1 C.1.2.1 hd ht (fun h => kt (hc.mp h) p e R s m args below meth c H locs cells slots Qf ls C D L hr) (fun h => kf (fun q => h (hc.mpr q)) p e R s m args below meth c H locs cells slots Qf ls C D L hr)
theorem V.icmp_gtT (hd : dec my pc = .ok (.if_icmp .gt o, 3)) (hx : inR x) (hy : inR y) (h : y < x) (ht : (pc : Int) + o = (n2 : Int)) (k : V E l my sc d NT ST Post n2 lo st G μ) : V E l my sc d NT ST Post pc lo (rI y :: rI x :: st) G μ := V.icmp_gt hd hx hy ht rfl (fun _ => k) (fun q => absurd h q)
theorem V.icmp_gtF (hd : dec my pc = .ok (.if_icmp .gt o, 3)) (hx : inR x) (hy : inR y) (h : ¬ y < x) (hn : pc + 3 = n) (ht : ∃ n2 : Nat, (pc : Int) + o = (n2 : Int)) (k : V E l my sc d NT ST Post n lo st G μ) : V E l my sc d NT ST Post pc lo (rI y :: rI x :: st) G μ := ht.elim fun _ ht => V.icmp_gt hd hx hy ht hn (fun q => absurd q h) (fun _ => k)
theorem V.if_gt (hd : dec my pc = .ok (.ifCond .gt o, 3)) (hx : inR x) (ht : (pc : Int) + o = (n2 : Int)) (hn : pc + 3 = n) (kt : 0 < x → V E l my sc d NT ST Post n2 lo st G μ) (kf : ¬ 0 < x → V E l my sc d NT ST Post n lo st G μ) : V E l my sc d NT ST Post pc lo (rI x :: st) G μ := by
  subst hn
  intro p e R s m args below meth c H locs cells slots Qf ls C D L hr
  have hc := c_lt inR0 hx
  exact lv_if_gt C.1.1 C.1.2.1 hd ht (fun h => kt (hc.mp h) p e R s m args below meth c H locs cells slots Qf ls C D L hr) (fun h => kf (fun q => h (hc.mpr q)) p e R s m args below meth c H locs cells slots Qf ls C D L hr)
theorem V.if_gtT (hd : dec my pc = .ok (.ifCond .gt o, 3)) (hx : inR x) (h : 0 < x) (ht : (pc : Int) + o = (n2 : Int)) (k : V E l my sc d NT ST Post n2 lo st G μ) : V E l my sc d NT ST Post pc lo (rI x :: st) G μ := V.if_gt hd hx ht rfl (fun _ => k) (fun q => absurd h q)
theorem V.if_gtF (hd : dec my pc = .ok (.ifCond .gt o, 3)) (hx : inR x) (h : ¬ 0 < x) (hn : pc + 3 = n) (ht : ∃ n2 : Nat, (pc : Int) + o = (n2 : Int)) (k : V E l my sc d NT ST Post n lo st G μ) : V E l my sc d NT ST Post pc lo (rI x :: st) G μ := ht.elim fun _ ht => V.if_gt hd hx ht hn (fun q => absurd q h) (fun _ => k)
theorem V.icmp_le (hd : dec my pc = .ok (.if_icmp .le o, 3)) (hx : inR x) (hy : inR y) (ht : (pc : Int) + o = (n2 : Int)) (hn : pc + 3 = n) (kt : x ≤ y → V E l my sc d NT ST Post n2 lo st G μ) (kf : ¬ x ≤ y → V E l my sc d NT ST Post n lo st G μ) : V E l my sc d NT ST Post pc lo (rI y :: rI x :: st) G μ := by
  subst hn
  intro p e R s m args below meth c H locs cells slots Qf ls C D L hr
  have hc := c_le hx hy
  exact lv_icmp_le C.1.1 C.1.2.1 hd ht (fun h => kt (hc.mp h) p e R s m args below meth c H locs cells slots Qf ls C D L hr) (fun h => kf (fun q => h (hc.mpr q)) p e R s m args below meth c H locs cells slots Qf ls C D L hr)
theorem V.icmp_leT (hd : dec my pc = .ok (.if_icmp .le o, 3)) (hx : inR x) (hy : inR y) (h : x ≤ y) (ht : (pc : Int) + o = (n2 : Int)) (k : V E l my sc d NT ST Post n2 lo st G μ) : V E l my sc d NT ST Post pc lo (rI y :: rI x :: st) G μ := V.icmp_le hd hx hy ht rfl (fun _ => k) (fun q => absurd h q)
theorem V.icmp_leF (hd : dec my pc = .ok (.if_icmp .le o, 3)) (hx : inR x) (hy : inR y) (h : ¬ x ≤ y) (hn : pc + 3 = n) (ht : ∃ n2 : Nat, (pc : Int) + o = (n2 : Int)) (k : V E l my sc d NT ST Post n lo st G μ) : V E l my sc d NT ST Post pc lo (rI y :: rI x :: st) G μ := ht.elim fun _ ht => V.icmp_le hd hx hy ht hn (fun q => absurd q h) (fun _ => k)
theorem V.if_le (hd : dec my pc = .ok (.ifCond .le o, 3)) (hx : inR x) (ht : (pc : Int) + o = (n2 : Int)) (hn : pc + 3 = n) (kt : x ≤ 0 → V E l my sc d NT ST Post n2 lo st G μ) (kf : ¬ x ≤ 0 → V E l my sc d NT ST Post n lo st G μ) : V E l my sc d NT ST Post pc lo (rI x :: st) G μ := by
  subst hn
  intro p e R s m args below meth c H locs cells slots Qf ls C D L hr
  have hc := c_le hx inR0
  exact lv_if_le C.1.1 C.1.2.1 hd ht (fun h => kt (hc.mp h) p e R s m args below meth c H locs cells slots Qf ls C D L hr) (fun h => kf (fun q => h (hc.mpr q)) p e R s m args below meth c H locs cells slots Qf ls C D L hr)
theorem V.if_leT (hd : dec my pc = .ok (.ifCond .le o, 3)) (hx : inR x) (h : x ≤ 0) (ht : (pc : Int) + o = (n2 : Int)) (k : V E l my sc d NT ST Post n2 lo st G μ) : V E l my sc d NT ST Post pc lo (rI x :: st) G μ := V.if_le hd hx ht rfl (fun _ => k) (fun q => absurd h q)
theorem V.if_leF (hd : dec my pc = .ok (.ifCond .le o, 3)) (hx : inR x) (h : ¬ x ≤ 0) (hn : pc + 3 = n) (ht : ∃ n2 : Nat, (pc : Int) + o = (n2 : Int)) (k : V E l my sc d NT ST Post n lo st G μ) : V E l my sc d NT ST Post pc lo (rI x :: st) G μ := ht.elim fun _ ht => V.if_le hd hx ht hn (fun q => absurd q h) (fun _ => k)
theorem V.ifnull {a : Nat} (hd : dec my pc = .ok (.ifnull o, 3)) (hn : pc + 3 = n) (k : V E l my sc d NT ST Post n lo st G μ) : V E l my sc d NT ST Post pc lo (rA E a :: st) G μ := by
  subst hn
  intro p e R s m args below meth c H locs cells slots Qf ls C D L hr
  exact lv_ifnull C.1.1 C.1.2.1 hd (k p e R s m args below meth c H locs cells slots Qf ls C D L hr)
theorem V.aconst_null (hd : dec my pc = .ok (.aconst_null, 1)) (hn : pc + 1 = n) (k : V E l my sc d NT ST Post n lo (.null :: st) G μ) : V E l my sc d NT ST Post pc lo st G μ := by
  subst hn
  intro p e R s m args below meth c H locs cells slots Qf ls C D L hr
  exact lv_null C.1.1 C.1.2.1 hd (k p e R s m args below meth c H locs cells slots Qf ls C D L hr)
theorem V.dup2 {v w : Value} (hd : dec my pc = .ok (.dup2, 1)) (hv : v.category = 1) (hw : w.category = 1) (hn : pc + 1 = n) (k : V E l my sc d NT ST Post n lo (v :: w :: v :: w :: st) G μ) : V E l my sc d NT ST Post pc lo (v :: w :: st) G μ := by
  subst hn
  intro p e R s m args below meth c H locs cells slots Qf ls C D L hr
  exact lv_dup2_11 C.1.1 C.1.2.1 hd hv hw (k p e R s m args below meth c H locs cells slots Qf ls C D L hr)
theorem V.switchOut {dflt lo1 hi : Int} {offs : Array Int} {len : Nat} (hd : dec my pc = .ok (.tableswitch dflt lo1 hi offs, len)) (hx : inR x) (h : x < lo1 ∨ hi < x) (hn : (pc : Int) + dflt = (n : Int)) (k : V E l my sc d NT ST Post n lo st G μ) : V E l my sc d NT ST Post pc lo (rI x :: st) G μ := by
  intro p e R s m args below meth c H locs cells slots Qf ls C D L hr
  exact lv_tableOut C.1.1 C.1.2.1 hd (by rw [tI hx]; exact h) hn (k p e R s m args below meth c H locs cells slots Qf ls C D L hr)
theorem V.switchIn {dflt lo1 hi off : Int} {offs : Array Int} {len : Nat} (hd : dec my pc = .ok (.tableswitch dflt lo1 hi offs, len)) (hx : inR x) (h1 : ¬ x < lo1) (h2 : ¬ hi < x) (ho : offs[(x - lo1).toNat]? = some off) (hn : (pc : Int) + off = (n : Int)) (k : V E l my sc d NT ST Post n lo st G μ) : V E l my sc d NT ST Post pc lo (rI x :: st) G μ := by
  intro p e R s m args below meth c H locs cells slots Qf ls C D L hr
  exact lv_tableIn C.1.1 C.1.2.1 hd (by rw [tI hx]; exact h1) (by rw [tI hx]; exact h2) (by rw [tI hx]; exact ho) hn (k p e R s m args below meth c H locs cells slots Qf ls C D L hr)
end VB
/-! ## cells -/
theorem cE_o (E : EV) (ci : Nat) (fds : List (Option (Option Nat))) (c : Int → Int) : cE E (.inl (ci, fds)) c = .inr (ci, fds.mapIdx (fV E c)) := rfl
theorem cE_a (E : EV) (t n : Nat) (c : Int → Int) (h : t ≠ 3) : cE E (.inr (t, n)) c = .inl (E.2.1 t, n, .inl (fun j => Int32.ofInt (c j))) := by simp [cE, aC, h]
theorem cE_r (E : EV) (n : Nat) (c : Int → Int) : cE E (.inr (3, n)) c = .inl (E.2.1 3, n, .inr (.inr (.inr (.inr (fun j => oA E (c j)))))) := by simp [cE, aC]
theorem fV_at {E : EV} {c : Int → Int} {fds : List (Option (Option Nat))} {k : Nat} {dd : Option (Option Nat)} (h : fds[k]? = some dd) : (fds.mapIdx (fV E c))[k]? = some (fV E c k dd) := by
  rw [List.getElem?_mapIdx, h]; rfl
theorem fV_setI {E : EV} {c : Int → Int} {fds : List (Option (Option Nat))} {k : Nat} {z : Int} (h : fds[k]? = some none) : (fds.mapIdx (fV E c)).set k (rI z) = fds.mapIdx (fV E (fun j => if j = (k : Int) then z else c j)) := by
  apply List.ext_getElem?
  intro j
  rw [List.getElem?_set, List.getElem?_mapIdx, List.getElem?_mapIdx]
  by_cases hj : k = j
  · subst hj
    have hl := (List.getElem?_eq_some_iff.mp h).1
    rw [h, if_pos rfl, if_pos (by rw [List.length_mapIdx]; exact hl)]
    simp [fV]
  · rw [if_neg hj]
    have hj' : ¬ (j : Int) = (k : Int) := fun q => hj (by omega)
    congr 1
    funext dd
    cases dd with
    | none => simp [fV, hj']
    | some t => cases t <;> rfl
theorem fV_setA {E : EV} {c : Int → Int} {fds : List (Option (Option Nat))} {k t : Nat} (h : k < fds.length) : (fds.mapIdx (fV E c)).set k (rA E t) = (fds.set k (some (some t))).mapIdx (fV E c) := by
  apply List.ext_getElem?
  intro j
  rw [List.getElem?_set, List.getElem?_mapIdx, List.getElem?_mapIdx, List.getElem?_set]
  by_cases hj : k = j
  · subst hj
    simp [h, fV]
  · rw [if_neg hj, if_neg hj]
theorem wr_eq (μ : MU) (a : Nat) (k : Int) (z : Int) : wr μ a k z a = fun j => if j = k then z else μ a j := wr_self μ a k z
section VH
variable {E : EV} {l : Launch} {my : MR} {sc : Option (Nat × Nat × (Nat → Int))} {d NT ST : Nat} {Post : Option Value → GG → MU → Prop} {pc n : Nat} {lo : List (Nat × Value)} {st : List Value} {G : GG} {μ : MU}
/-- where a walk stands, its heap is no larger than what it has made -/
theorem W_bd {p : Program} {l : Launch} {e : Env} {R : Room} {s : State} {m : MethodId} {args : Array Value} {below : List Frame} {meth : Method} {c : Code} {H : Heap} {locs : List Loc} {cells slots : Nat} {Q : State → Prop} {g : JFrame} (h : H.size ≤ s.heap.size + cells → W p l e R s m args below meth c H locs cells slots Q g) : W p l e R s m args below meth c H locs cells slots Q g :=
  fun T hT X => h (by rw [← hT]; exact X.heapSize) T hT X
/-- the world has moved in what it holds -/
theorem DY.of {R : Room} {s : State} {H H1 : Heap} {locs locs1 : List Loc} {cells slots : Nat} {G' : GG} {μ' : MU} {ws : va_W} (D : DY E G μ NT ST R s H locs cells slots) (hn : G'.1 = G.1) (hs : G'.2.1 = G.2.1) (h0 : 0 < G.1) (hw : ws = wl E G' μ') (hP : va_P E.1 vwCl ws H1) (hS : va_S (fun q => E.2.2 ≤ q) s.heap H1 locs1) (hb : H1.size ≤ s.heap.size + cells) : DY E G' μ' NT ST R s H1 locs1 cells slots := by
  subst hw
  obtain ⟨-, -, h1, h2, h3, h4, h5, h6, h7⟩ := D
  have hl := (hP (G.1 - 1) _ (wl_at (E := E) (G := G') (μ := μ') (a := G.1 - 1) ⟨by omega, rfl⟩)).lt
  refine ⟨⟨hP, ?_⟩, hS, by rw [hn]; exact h1, by rw [hs]; exact h2, h3, h4, by rw [hn]; exact h5, by rw [hn]; exact h6, by rw [hs]; exact h7⟩
  rw [hn]
  simp only at hl
  omega
/-- one cell more -/
theorem DY.more {R : Room} {s : State} {H H1 : Heap} {locs locs1 : List Loc} {cells slots sl q : Nat} {G' : GG} {μ' : MU} {e : va_E} (D : DY E G μ NT ST R s H locs cells slots) (hn : G'.1 = G.1 + 1) (hs : G'.2.1 = G.2.1 + sl) (hG : ∀ b, b ≠ G.1 → G'.2.2 b = G.2.2 b ∧ μ' b = μ b) (he : e = cE E (G'.2.2 G.1) (μ' G.1))
    (hP : va_P E.1 vwCl (wl E G μ ++ [(q, e)]) H1) (hD : va_D (fun q => E.2.2 ≤ q) (wl E G μ ++ [(q, e)])) (hS : va_S (fun q => E.2.2 ≤ q) s.heap H1 locs1) (hb : H1.size ≤ s.heap.size + (cells + 1)) (h1 : G.1 + 1 ≤ NT) (h2 : G.2.1 + sl ≤ ST) : q = E.2.2 + G.1 ∧ DY E G' μ' NT ST R s H1 locs1 (cells + 1) (slots + sl) := by
  obtain ⟨-, -, g1, g2, g3, g4, g5, g6, g7⟩ := D
  have hlen : (wl E G μ).length = G.1 := by simp [wl]
  have hlast : (wl E G μ ++ [(q, e)])[G.1]? = some (q, e) := by rw [List.getElem?_append_right (by omega), hlen]; simp
  have hlt := (hP G.1 _ hlast).lt
  have hge := hD.2 G.1 _ hlast
  simp only at hlt hge
  have hq : q = E.2.2 + G.1 := by
    by_cases hx : q < E.2.2 + G.1
    · exfalso
      have hk : q - E.2.2 < G.1 := by omega
      have h := hD.1 (q - E.2.2) G.1 (E.2.2 + (q - E.2.2), cE E (G.2.2 (q - E.2.2)) (μ (q - E.2.2))) (q, e) (by rw [List.getElem?_append_left (by omega)]; simp [wl, hk]) hlast (by show E.2.2 + (q - E.2.2) = q; omega)
      omega
    · omega
  have hw : wl E G μ ++ [(q, e)] = wl E G' μ' := by
    simp only [wl, hn, List.range_succ, List.map_append, List.map_cons, List.map_nil]
    congr 1
    · refine List.map_congr_left fun k hk => ?_
      have hk' : k < G.1 := List.mem_range.mp hk
      rw [(hG k (by omega)).1, (hG k (by omega)).2]
    · rw [hq, he]
  refine ⟨hq, ⟨⟨hw ▸ hP, by rw [hn]; omega⟩, hS, by rw [hn]; omega, by rw [hs]; omega, by omega, by omega, by rw [hn]; omega, by rw [hn]; omega, by rw [hs]; omega⟩⟩
theorem V.getI {a idx ci k : Nat} {kz : Int} {fds : List (Option (Option Nat))} (hd : dec my pc = .ok (.getfield idx, 3)) (hf : FL my.1 idx ci k kz) (ho : obj G a (.inl (ci, fds))) (hk : fds[k]? = some none) (hn : pc + 3 = n) (kk : V E l my sc d NT ST Post n lo (rI (μ a kz) :: st) G μ) : V E l my sc d NT ST Post pc lo (rA E a :: st) G μ := by
  subst hn
  intro p e R s m args below meth c H locs cells slots Qf ls C D L hr
  obtain ⟨C', T, N, hc, hkN, rfl, hl⟩ := hf
  have hw := wl_at (E := E) (μ := μ) ho
  rw [cE_o] at hw
  have hin := (cls_ok _ _ _ _ hc).1
  rcases hl with hl | ⟨host, hl⟩
  · exact va_get (ref := (T k).1) C.1.1 C.1.2.1 C.1.2.2.2.2 hin C.1.2.2.2.1 C.2.1.2.1 D.1.1 a hw hc k hkN (C.1.2.2.2.2 _ hl) (fun x h => h) (fV_at hk) hd (kk p e R s m args below meth c H locs cells slots Qf ls C D L hr)
  · exact va_getN (ref := (T k).1) (host := host) C.1.1 C.1.2.1 C.1.2.2.2.2 hin C.1.2.2.2.1 C.2.1.2.1 D.1.1 a hw hc k hkN (va_Nw.use rfl (C.2.1.1 _ hl)) (fun x h => h) (fV_at hk) hd (kk p e R s m args below meth c H locs cells slots Qf ls C D L hr)
theorem V.getA {a t idx ci k : Nat} {kz : Int} {fds : List (Option (Option Nat))} (hd : dec my pc = .ok (.getfield idx, 3)) (hf : FL my.1 idx ci k kz) (ho : obj G a (.inl (ci, fds))) (hk : fds[k]? = some (some (some t))) (hn : pc + 3 = n) (kk : V E l my sc d NT ST Post n lo (rA E t :: st) G μ) : V E l my sc d NT ST Post pc lo (rA E a :: st) G μ := by
  subst hn
  intro p e R s m args below meth c H locs cells slots Qf ls C D L hr
  obtain ⟨C', T, N, hc, hkN, -, hl⟩ := hf
  have hw := wl_at (E := E) (μ := μ) ho
  rw [cE_o] at hw
  have hin := (cls_ok _ _ _ _ hc).1
  rcases hl with hl | ⟨host, hl⟩
  · exact va_get (ref := (T k).1) C.1.1 C.1.2.1 C.1.2.2.2.2 hin C.1.2.2.2.1 C.2.1.2.1 D.1.1 a hw hc k hkN (C.1.2.2.2.2 _ hl) (fun x h => h) (fV_at hk) hd (kk p e R s m args below meth c H locs cells slots Qf ls C D L hr)
  · exact va_getN (ref := (T k).1) (host := host) C.1.1 C.1.2.1 C.1.2.2.2.2 hin C.1.2.2.2.1 C.2.1.2.1 D.1.1 a hw hc k hkN (va_Nw.use rfl (C.2.1.1 _ hl)) (fun x h => h) (fV_at hk) hd (kk p e R s m args below meth c H locs cells slots Qf ls C D L hr)
/-- a field that isn't final -/
theorem V.putI {a idx ci k : Nat} {kz z : Int} {ty : FieldType} {fds : List (Option (Option Nat))} (hd : dec my pc = .ok (.putfield idx, 3)) (hf : FL my.1 idx ci k kz) (ht : FTY ci k ty false) (hfit : narrow ty (rI z) = rI z ∧ fits ty (rI z) = true) (ho : obj G a (.inl (ci, fds))) (hk : fds[k]? = some none) (hn : pc + 3 = n) (kk : V E l my sc d NT ST Post n lo st G (wr μ a kz z)) : V E l my sc d NT ST Post pc lo (rI z :: rA E a :: st) G μ := by
  subst hn
  intro p e R s m args below meth c H locs cells slots Qf ls C D L hr
  obtain ⟨C', T, N, hc, hkN, rfl, hl⟩ := hf
  obtain ⟨C2, T2, N2, hc2, -, hty, hfin, -⟩ := ht
  obtain ⟨rfl, rfl, rfl⟩ : C2 = C' ∧ T2 = T ∧ N2 = N := by
    have := hc2.symm.trans hc
    simpa using this
  have hw := wl_at (E := E) (μ := μ) ho
  rw [cE_o] at hw
  obtain ⟨hin, ⟨ty0, hty0⟩, hnm⟩ := cls_ok _ _ _ _ hc
  have hts := C.1.2.2.2.2
  have hln : k < (fds.mapIdx (fV E (μ a))).length := by rw [List.length_mapIdx]; exact (List.getElem?_eq_some_iff.mp hk).1
  have hws : (wl E G μ).set a (E.2.2 + a, .inr (ci, (fds.mapIdx (fV E (μ a))).set k (rI z))) = wl E G (wr μ a k z) :=
    wl_set rfl (by rw [ho.2, cE_o, wr_eq, fV_setI hk]) (fun _ _ => rfl) (fun b hb => wr_a hb)
  have h0 : 0 < G.1 := Nat.lt_of_le_of_lt (Nat.zero_le _) ho.1
  rcases hl with hl | ⟨host, hl⟩
  · exact va_put (ref := (T2 k).1) C.1.1 C.1.2.1 hts hin ty0 hty0 hnm C.1.2.2.2.1 C.2.1.2.1 D.1.1 (wl_D E G μ) D.2.1 a hw hc k hkN (hts _ hl) (fun x h => h) hfin hty hfit.1 hfit.2 hln hd (fun H1 locs1 hP1 _ hS1 => W_bd fun hb => kk p e R s m args below meth c H1 locs1 cells slots Qf ls C (D.of rfl rfl h0 hws hP1 hS1 hb) L hr)
  · exact va_putN (ref := (T2 k).1) (host := host) C.1.1 C.1.2.1 hts hin ty0 hty0 hnm C.1.2.2.2.1 C.2.1.2.1 D.1.1 (wl_D E G μ) D.2.1 a hw hc k hkN (va_Nw.use rfl (C.2.1.1 _ hl)) (fun x h => h) hfin hty hfit.1 hfit.2 hln hd (fun H1 locs1 hP1 _ hS1 => W_bd fun hb => kk p e R s m args below meth c H1 locs1 cells slots Qf ls C (D.of rfl rfl h0 hws hP1 hS1 hb) L hr)
/-- a final field, put by its class's constructor: a reference -/
theorem V.putFA {a t idx ci k : Nat} {kz : Int} {ty : FieldType} {fds : List (Option (Option Nat))} (hd : dec my pc = .ok (.putfield idx, 3)) (hf : FL my.1 idx ci k kz) (hnest : ∃ (T : u_T) (N : Nat), vwCl[ci]? = some (my.1, T, N) ∧ Cond.fieldLink my.1 idx (T k).1 (T k).2.1 (T k).2.2.1 ∈ gw) (ht : FTY ci k ty true) (hini : my.2.1.name = "<init>") (hfit : ∀ x, narrow ty (.ref x) = .ref x ∧ fits ty (.ref x) = true) (ho : obj G a (.inl (ci, fds))) (hk : k < fds.length) (hn : pc + 3 = n) (kk : V E l my sc d NT ST Post n lo st (shp G a (.inl (ci, fds.set k (some (some t))))) μ) : V E l my sc d NT ST Post pc lo (rA E t :: rA E a :: st) G μ := by
  subst hn
  intro p e R s m args below meth c H locs cells slots Qf ls C D L hr
  obtain ⟨C', T, N, hc, hkN, rfl, -⟩ := hf
  obtain ⟨C2, T2, N2, hc2, -, hty, hfin, hdcl⟩ := ht
  obtain ⟨T3, N3, hc3, hl⟩ := hnest
  obtain ⟨rfl, rfl, rfl⟩ : C2 = C' ∧ T2 = T ∧ N2 = N := by
    have := hc2.symm.trans hc
    simpa using this
  obtain ⟨hC, rfl, rfl⟩ : my.1 = C2 ∧ T3 = T2 ∧ N3 = N2 := by
    have := hc3.symm.trans hc
    simpa using this
  have hw := wl_at (E := E) (μ := μ) ho
  rw [cE_o] at hw
  obtain ⟨hin, ⟨ty0, hty0⟩, hnm⟩ := cls_ok _ _ _ _ hc
  have hts := C.1.2.2.2.2
  have hln : k < (fds.mapIdx (fV E (μ a))).length := by rw [List.length_mapIdx]; exact hk
  have hws : (wl E G μ).set a (E.2.2 + a, .inr (ci, (fds.mapIdx (fV E (μ a))).set k (rA E t))) = wl E (shp G a (.inl (ci, fds.set k (some (some t))))) μ :=
    wl_set rfl (by simp only [shp, if_true]; rw [cE_o, fV_setA hk]) (fun b hb => by simp [shp, hb]) (fun _ _ => rfl)
  have h0 : 0 < G.1 := Nat.lt_of_le_of_lt (Nat.zero_le _) ho.1
  exact va_putF (ref := (T3 k).1) C.1.1 C.1.2.1 hts hin ty0 hty0 hnm C.1.2.2.2.1 C.2.1.2.1 D.1.1 (wl_D E G μ) D.2.1 a hw hc k hkN (hts _ hl) (fun x h => h) hfin (C.2.2.2.2.1 hini) (by rw [hdcl, hC]) hty (hfit _).1 (hfit _).2 hln hd (fun H1 locs1 hP1 _ hS1 => W_bd fun hb => kk p e R s m args below meth c H1 locs1 cells slots Qf ls C (D.of (G' := shp G a (.inl (ci, fds.set k (some (some t))))) rfl rfl h0 hws hP1 hS1 hb) L hr)
theorem iC {z : Int} (h0 : 0 ≤ z) (h1 : z ≤ 65536) : (((Int32.ofInt z).toNatClampNeg : Nat) : Int) = z := by
  rw [tN h0 (by omega)]; exact Int.toNat_of_nonneg h0
theorem V.iald {a n0 : Nat} {z : Int} (hd : dec my pc = .ok (.iaload, 1)) (ho : obj G a (.inr (0, n0))) (h0 : 0 ≤ z) (h1 : z < n0) (hN : n0 ≤ 65536) (hn : pc + 1 = n) (kk : V E l my sc d NT ST Post n lo (rI (μ a z) :: st) G μ) : V E l my sc d NT ST Post pc lo (rI z :: rA E a :: st) G μ := by
  subst hn
  intro p e R s m args below meth c H locs cells slots Qf ls C D L hr
  have hw := wl_at (E := E) (μ := μ) ho
  rw [cE_a _ _ _ _ (by decide)] at hw
  refine va_iald C.1.1 C.1.2.1 C.2.1.2.1 D.1.1 a 0 hw rfl (inV h0 h1 hN) hd ?_
  simp only [iC h0 (show z ≤ 65536 by omega)]
  exact kk p e R s m args below meth c H locs cells slots Qf ls C D L hr
theorem V.cald {a n0 : Nat} {z : Int} (hd : dec my pc = .ok (.caload, 1)) (ho : obj G a (.inr (1, n0))) (h0 : 0 ≤ z) (h1 : z < n0) (hN : n0 ≤ 65536) (hn : pc + 1 = n) (kk : V E l my sc d NT ST Post n lo (rI (μ a z) :: st) G μ) : V E l my sc d NT ST Post pc lo (rI z :: rA E a :: st) G μ := by
  subst hn
  intro p e R s m args below meth c H locs cells slots Qf ls C D L hr
  have hw := wl_at (E := E) (μ := μ) ho
  rw [cE_a _ _ _ _ (by decide)] at hw
  refine va_cald C.1.1 C.1.2.1 C.2.1.2.1 D.1.1 a 1 hw rfl (inV h0 h1 hN) hd ?_
  simp only [iC h0 (show z ≤ 65536 by omega)]
  exact kk p e R s m args below meth c H locs cells slots Qf ls C D L hr
theorem V.aald {a n0 t : Nat} {z : Int} (hd : dec my pc = .ok (.aaload, 1)) (ho : obj G a (.inr (3, n0))) (h0 : 0 ≤ z) (h1 : z < n0) (hN : n0 ≤ 65536) (hv : μ a z = (t : Int)) (hn : pc + 1 = n) (kk : V E l my sc d NT ST Post n lo (rA E t :: st) G μ) : V E l my sc d NT ST Post pc lo (rI z :: rA E a :: st) G μ := by
  subst hn
  intro p e R s m args below meth c H locs cells slots Qf ls C D L hr
  have hw := wl_at (E := E) (μ := μ) ho
  rw [cE_r] at hw
  refine va_aldq (C := RX6) C.1.1 C.1.2.1 C.2.1.2.1 D.1.1 a 3 hw rfl (inV h0 h1 hN) hd ?_
  simp only [iC h0 (show z ≤ 65536 by omega), hv]
  have ht : va_rf (oA E (t : Int)) = rA E t := by
    unfold oA
    rw [if_neg (by omega)]
    simp [va_rf, rA]
  rw [ht]
  exact kk p e R s m args below meth c H locs cells slots Qf ls C D L hr
theorem upd_wr {μ : MU} {a : Nat} {z x : Int} (h0 : 0 ≤ z) (h1 : z ≤ 65536) (v : Int32) (hv : v = Int32.ofInt x) : upd (fun j : Nat => Int32.ofInt (μ a (j : Int))) (Int32.ofInt z).toNatClampNeg v = fun j : Nat => Int32.ofInt (wr μ a z x a (j : Int)) := by
  funext j
  have h2 := iC h0 h1
  rw [wr_eq]
  unfold upd
  by_cases hj : j = (Int32.ofInt z).toNatClampNeg
  · have hjz : (j : Int) = z := by rw [hj]; exact h2
    rw [if_pos hj]
    show v = Int32.ofInt (if (j : Int) = z then x else μ a j)
    rw [if_pos hjz, hv]
  · have hjz : ¬ (j : Int) = z := fun q => hj (by omega)
    rw [if_neg hj]
    show Int32.ofInt (μ a j) = Int32.ofInt (if (j : Int) = z then x else μ a j)
    rw [if_neg hjz]
theorem V.iast {a n0 : Nat} {z x : Int} (hd : dec my pc = .ok (.iastore, 1)) (ho : obj G a (.inr (0, n0))) (h0 : 0 ≤ z) (h1 : z < n0) (hN : n0 ≤ 65536) (hn : pc + 1 = n) (kk : V E l my sc d NT ST Post n lo st G (wr μ a z x)) : V E l my sc d NT ST Post pc lo (rI x :: rI z :: rA E a :: st) G μ := by
  subst hn
  intro p e R s m args below meth c H locs cells slots Qf ls C D L hr
  have hw := wl_at (E := E) (μ := μ) ho
  rw [cE_a _ _ _ _ (by decide)] at hw
  refine va_iast C.1.1 C.1.2.1 C.2.1.2.1 D.1.1 (wl_D E G μ) D.2.1 a 0 hw rfl (inV h0 h1 hN) hd (fun H1 locs1 hP1 _ hS1 => W_bd fun hb => kk p e R s m args below meth c H1 locs1 cells slots Qf ls C (D.of rfl rfl (Nat.lt_of_le_of_lt (Nat.zero_le _) ho.1) (wl_set rfl ?_ (fun _ _ => rfl) (fun b hb => wr_a hb)) hP1 hS1 hb) L hr)
  rw [ho.2, cE_a _ _ _ _ (by decide), upd_wr h0 (by omega) _ rfl]
theorem V.cast {a n0 : Nat} {z x : Int} (hd : dec my pc = .ok (.castore, 1)) (ho : obj G a (.inr (1, n0))) (h0 : 0 ≤ z) (h1 : z < n0) (hN : n0 ≤ 65536) (hx : narrow .char (rI x) = rI x) (hn : pc + 1 = n) (kk : V E l my sc d NT ST Post n lo st G (wr μ a z x)) : V E l my sc d NT ST Post pc lo (rI x :: rI z :: rA E a :: st) G μ := by
  subst hn
  intro p e R s m args below meth c H locs cells slots Qf ls C D L hr
  have hw := wl_at (E := E) (μ := μ) ho
  rw [cE_a _ _ _ _ (by decide)] at hw
  refine va_cast C.1.1 C.1.2.1 C.2.1.2.1 D.1.1 (wl_D E G μ) D.2.1 a 1 hw rfl (inV h0 h1 hN) hd (fun H1 locs1 hP1 _ hS1 => W_bd fun hb => kk p e R s m args below meth c H1 locs1 cells slots Qf ls C (D.of rfl rfl (Nat.lt_of_le_of_lt (Nat.zero_le _) ho.1) (wl_set rfl ?_ (fun _ _ => rfl) (fun b hb => wr_a hb)) hP1 hS1 hb) L hr)
  rw [ho.2, cE_a _ _ _ _ (by decide), upd_wr (x := x) h0 (by omega) _ (by show vp_nar .char (Int32.ofInt x) = _; unfold vp_nar; rw [show narrow .char (.int (Int32.ofInt x)) = .int (Int32.ofInt x) from hx])]
theorem V.aast {a n0 t : Nat} {z : Int} {fds : List (Option (Option Nat))} (hd : dec my pc = .ok (.aastore, 1)) (ho : obj G a (.inr (3, n0))) (ht : obj G t (.inl (6, fds))) (h0 : 0 ≤ z) (h1 : z < n0) (hN : n0 ≤ 65536) (hn : pc + 1 = n) (kk : V E l my sc d NT ST Post n lo st G (wr μ a z t)) : V E l my sc d NT ST Post pc lo (rA E t :: rI z :: rA E a :: st) G μ := by
  subst hn
  intro p e R s m args below meth c H locs cells slots Qf ls C D L hr
  have hw := wl_at (E := E) (μ := μ) ho
  rw [cE_r] at hw
  have hw2 := wl_at (E := E) (μ := μ) ht
  rw [cE_o] at hw2
  refine va_astq (r := (RX6, TX6, 2)) C.1.1 C.1.2.1 C.2.1.2.1 D.1.1 (wl_D E G μ) D.2.1 a 3 t 6 hw rfl hw2 rfl (inV h0 h1 hN) hd (fun H1 locs1 hP1 _ hS1 => W_bd fun hb => kk p e R s m args below meth c H1 locs1 cells slots Qf ls C (D.of rfl rfl (Nat.lt_of_le_of_lt (Nat.zero_le _) ho.1) (wl_set rfl ?_ (fun _ _ => rfl) (fun b hb => wr_a hb)) hP1 hS1 hb) L hr)
  have h2 := iC h0 (show z ≤ 65536 by omega)
  have hf : va_up (fun j : Nat => oA E (μ a (j : Int))) (Int32.ofInt z).toNatClampNeg (some (E.2.2 + t)) = fun j : Nat => oA E (wr μ a z t a (j : Int)) := by
    funext j
    rw [wr_eq]
    unfold va_up
    by_cases hj : j = (Int32.ofInt z).toNatClampNeg
    · have hjz : (j : Int) = z := by rw [hj]; exact h2
      rw [if_pos hj]
      show some (E.2.2 + t) = oA E (if (j : Int) = z then (t : Int) else μ a j)
      rw [if_pos hjz]
      unfold oA
      rw [if_neg (by omega)]
      simp
    · have hjz : ¬ (j : Int) = z := fun q => hj (by omega)
      rw [if_neg hj]
      show oA E (μ a j) = oA E (if (j : Int) = z then (t : Int) else μ a j)
      rw [if_neg hjz]
  rw [ho.2, cE_r, hf]
theorem V.alen {a t n0 : Nat} (hd : dec my pc = .ok (.arraylength, 1)) (ho : obj G a (.inr (t, n0))) (ht : t < 4) (hn : pc + 1 = n) (kk : V E l my sc d NT ST Post n lo (rI n0 :: st) G μ) : V E l my sc d NT ST Post pc lo (rA E a :: st) G μ := by
  subst hn
  intro p e R s m args below meth c H locs cells slots Qf ls C D L hr
  have hw := wl_at (E := E) (μ := μ) ho
  have hv : ∀ x : Nat, Int32.ofNat x = Int32.ofInt (x : Int) := fun x => rfl
  have hk := kk p e R s m args below meth c H locs cells slots Qf ls C D L hr
  match t, ht, hw with
  | 0, _, hw => exact va_alen C.1.1 C.1.2.1 C.2.1.2.1 D.1.1 a 0 hw rfl (hv n0) hd hk
  | 1, _, hw => exact va_alen C.1.1 C.1.2.1 C.2.1.2.1 D.1.1 a 1 hw rfl (hv n0) hd hk
  | 2, _, hw => exact va_alen C.1.1 C.1.2.1 C.2.1.2.1 D.1.1 a 2 hw rfl (hv n0) hd hk
  | 3, _, hw => exact va_alen C.1.1 C.1.2.1 C.2.1.2.1 D.1.1 a 3 hw rfl (hv n0) hd hk
end VH
end
section
/-! THE RULES: new cells, the JDK's members, calls; a contract KC over the kit's Met -/
theorem gw_good {w : Cond} (h : w ∈ gw) : w ∈ gw ∧ ((w.onTables && w.keeps) = true ∨ ∃ ty, w = .arrayClass ty) := ⟨h, good_of_word (List.mem_filter.mp h).2⟩
theorem jo_1 : Cond.instanceMethod objectInit ∈ gw := gw_of 33 (by decide +kernel) (by decide +kernel)
theorem jo_2 : Cond.code objectInit ⟨#[0xb1]⟩ 1 none ∈ gw := gw_of 34 (by decide +kernel) (by decide +kernel)
theorem jm_1 : Cond.static Lib.Math.max.name ∈ gw := gw_of 54 (by decide +kernel) (by decide +kernel)
theorem jm_2 : Cond.code Lib.Math.max.name Lib.Math.max.code 2 (some .int) ∈ gw := gw_of 55 (by decide +kernel) (by decide +kernel)
theorem jm_3 : Cond.initialized "java/lang/Math" ∈ gw := gw_of 19 (by decide +kernel) (by decide +kernel)
theorem jm_4 : Cond.static Lib.Math.min.name ∈ gw := gw_of 287 (by decide +kernel) (by decide +kernel)
theorem jm_5 : Cond.code Lib.Math.min.name Lib.Math.min.code 2 (some .int) ∈ gw := gw_of 288 (by decide +kernel) (by decide +kernel)
theorem js_1 : Cond.static arraycopyName ∈ gw := gw_of 290 (by decide +kernel) (by decide +kernel)
theorem js_2 : Cond.native arraycopyName ∈ gw := gw_of 291 (by decide +kernel) (by decide +kernel)
theorem js_3 : Cond.initialized "java/lang/System" ∈ gw := gw_of 26 (by decide +kernel) (by decide +kernel)
theorem ja_i : Cond.arrayClass .int ∈ gw := gw_of 60 (by decide +kernel) (by decide +kernel)
theorem ja_c : Cond.arrayClass .char ∈ gw := gw_of 188 (by decide +kernel) (by decide +kernel)
theorem WD.vm {E : EV} {u U : State} (h : u.vm = U.vm) (hw : WD E u) : WD E U := by
  refine ⟨fun w hm => va_Nw.same ?_ h (hw.1 w hm), va_K.moved (by rw [← h]; exact Vm.Alike.refl _) hw.2.1, va_AO.moved (by rw [← h]; exact Vm.Alike.refl _) hw.2.2⟩
  have hn := (List.mem_filter.mp hm).2
  cases w <;> first | rfl | (simp [isNest] at hn; done)
theorem WD.warm {E : EV} {s U : State} (hW : s.WarmedH U.vm) (hw : WD E s) : WD E U := by
  refine ⟨fun w hm => ?_, va_K.moved hW.alike hw.2.1, va_AO.moved hW.alike hw.2.2⟩
  have h1 := hw.1 w hm
  have hn := (List.mem_filter.mp hm).2
  cases w <;> first | exact va_Nw.warmF hW h1 | exact va_Nw.warmM hW h1 | (simp [isNest] at hn; done)
/-- what a call of the method with these arguments, from this memory, comes to -/
def QK (E : EV) (G : GG) (mc ms : Nat) (Q : Option Value → GG → MU → Prop) : Array Value → State → Outcome → State → Prop := fun _ st o t =>
  ∃ (v : Option Value) (G' : GG) (μ' : MU), o = .returned v ∧ Rep E G' μ' t.heap ∧ Q v G' μ' ∧ G'.1 = G.1 + mc ∧ G'.2.1 = G.2.1 + ms ∧ va_F (fun q => E.2.2 ≤ q) st t
def PK (E : EV) (as : List Value) (G : GG) (μ : MU) : Array Value → State → Prop := fun v U => v = as.toArray ∧ Rep E G μ U.heap ∧ WD E U
def KC (E : EV) (l : Launch) (h : Nat) (my : MR) (as : List Value) (G : GG) (μ : MU) (mc ms : Nat) (Q : Option Value → GG → MU → Prop) : Prop :=
  Met l my.2.1 (.code my.2.1 my.2.2.1 my.2.2.2.1 my.2.2.2.2 :: gw) ({ frames := h, cells := mc, slots := ms, locals := 35 * h } : Room) (PK E as G μ) (QK E G mc ms Q) mc ms (fun q => E.2.2 ≤ q)
def la : Nat → List Value → List (Nat × Value)
  | _, [] => []
  | i, v :: vs => (i, v) :: la (i + 1) vs
theorem la_eq : ∀ (vs : List Value) (i : Nat), (∀ v ∈ vs, v.category = 1) → lv_args i vs = la i vs
  | [], _, _ => rfl
  | v :: vs, i, h => by
    have h1 := h v List.mem_cons_self
    have h2 : ¬ v.category = 2 := by omega
    show (i, v) :: lv_args (if v.category = 2 then i + 2 else i + 1) vs = (i, v) :: la (i + 1) vs
    rw [if_neg h2, la_eq vs (i + 1) (fun w hw => h w (List.mem_cons_of_mem _ hw))]
theorem la_cat : ∀ {vs : List Value} {i : Nat}, (∀ v ∈ vs, v.category = 1) → ∀ q ∈ la i vs, q.2.category = 1
  | v :: vs, i, h, q, hq => by
    rcases List.mem_cons.mp hq with rfl | hq
    · exact h v List.mem_cons_self
    · exact la_cat (fun w hw => h w (List.mem_cons_of_mem _ hw)) q hq
def cat1 : List Value → Bool
  | [] => true
  | .int _ :: r => cat1 r
  | .ref _ :: r => cat1 r
  | .null :: r => cat1 r
  | _ :: _ => false
theorem cat1_spec : ∀ {vs : List Value}, cat1 vs = true → ∀ v ∈ vs, v.category = 1
  | .int _ :: r, h, v, hv => by rcases List.mem_cons.mp hv with rfl | hv; exact rfl; exact cat1_spec (vs := r) h v hv
  | .ref _ :: r, h, v, hv => by rcases List.mem_cons.mp hv with rfl | hv; exact rfl; exact cat1_spec (vs := r) h v hv
  | .null :: r, h, v, hv => by rcases List.mem_cons.mp hv with rfl | hv; exact rfl; exact cat1_spec (vs := r) h v hv
theorem cat1_sum : ∀ {vs : List Value}, cat1 vs = true → (vs.map fun v => v.category).sum = vs.length
  | [], _ => rfl
  | .int _ :: r, h => by
    rw [List.map_cons, List.sum_cons, cat1_sum (vs := r) h, List.length_cons]
    show 1 + r.length = r.length + 1
    omega
  | .ref _ :: r, h => by
    rw [List.map_cons, List.sum_cons, cat1_sum (vs := r) h, List.length_cons]
    show 1 + r.length = r.length + 1
    omega
  | .null :: r, h => by
    rw [List.map_cons, List.sum_cons, cat1_sum (vs := r) h, List.length_cons]
    show 1 + r.length = r.length + 1
    omega
theorem cat1_sl : ∀ {vs : List Value}, cat1 vs = true → (lg_sl vs).length = vs.length
  | [], _ => rfl
  | .int _ :: r, h => by
    show (lg_sl r).length + 1 = r.length + 1
    rw [cat1_sl (vs := r) h]
  | .ref _ :: r, h => by
    show (lg_sl r).length + 1 = r.length + 1
    rw [cat1_sl (vs := r) h]
  | .null :: r, h => by
    show (lg_sl r).length + 1 = r.length + 1
    rw [cat1_sl (vs := r) h]
/-- a contract, out of a walk of the clean machine -/
theorem KC.ofV {E : EV} {l : Launch} {h nn : Nat} {my : MR} {as : List Value} {G : GG} {μ : MU} {mc ms : Nat} {Q : Option Value → GG → MU → Prop} (hm : MB my nn) (hc : cat1 as = true) (hn : as.length ≤ my.2.2.2.1) {lo : List (Nat × Value)} (hlo : la 0 as = lo)
    (hV : V E l my none h (G.1 + mc) (G.2.1 + ms) (fun v G' μ' => Q v G' μ' ∧ G'.1 = G.1 + mc ∧ G'.2.1 = G.2.1 + ms) 0 lo [] G μ) : KC E l h my as G μ mc ms Q := by
  subst hlo
  refine Met.ofW (cc := my.2.2.1) (maxL := my.2.2.2.1) (ret := my.2.2.2.2) hm.2.2.2.2 rfl ?_
  intro p e s m args below meth c s₁ B hml hv
  obtain ⟨rfl, hRep, hWD⟩ := hv
  have hts := atoms_spec (ws := (.code my.2.1 my.2.2.1 my.2.2.2.1 my.2.2.2.2 :: gw)) B.pre
  have hown : s.vm.findClass my.1 = some m.cls := by rw [← hm.2.2.1]; exact findClass_of_methodNamed B.named
  have hnm := (name_of_methodNamed B.named B.method).1
  have hl0 := lv_entry as (n := my.2.2.2.1) (by rw [cat1_sl hc]; exact hn)
  rw [lg_entry_eq]
  rw [la_eq as 0 (cat1_spec hc)] at hl0
  have hL : LH my ((lg_sl as ++ List.replicate (my.2.2.2.1 - (lg_sl as).length) Slot.unset).toArray) (la 0 as) :=
    ⟨hl0.1, hl0.2.1, fun j v hj => ⟨hl0.2.2 _ (lkp_mem hj), Or.inl (la_cat (cat1_spec hc) _ (lkp_mem hj))⟩⟩
  refine hV p e _ s m as.toArray below meth c s.heap [] 0 0 _ _ ⟨⟨B.exec, B.bytes, hml, hown, fun w hw => hts w (List.mem_cons_of_mem _ hw)⟩, hWD, ⟨Nat.le_refl _, Nat.le_refl _⟩, by rw [hRep.2]; exact Nat.le_add_right _ _, fun hi => by rw [hnm, hi], fun q hq => by cases hq⟩
    ⟨hRep, va_S.rf, by show 0 + (G.1 + mc) ≤ mc + G.1; omega, by show 0 + (G.2.1 + ms) ≤ ms + G.2.1; omega, Nat.zero_le _, Nat.zero_le _, by rw [hRep.2]; rfl, Nat.le_add_right _ _, Nat.le_add_right _ _⟩ hL ?_
  intro v G' μ' H' locs' cells' slots' pc' ls' stk hP hD hR
  obtain ⟨hQ, hg1, hg2⟩ := hP
  obtain ⟨hRep', hS', d1, d2, d3, d4, d5, d6, d7⟩ := hD
  have e1 : cells' ≤ mc := by have : cells' + (G.1 + mc) ≤ mc + G'.1 := d1; omega
  have e2 : slots' ≤ ms := by have : slots' + (G.2.1 + ms) ≤ ms + G'.2.1 := d2; omega
  have hq : ∀ t : State, t.heap = H' → s.WarmedH t.vm → QK E G mc ms Q as.toArray s (.returned v) t := fun t ht _ => ⟨v, G', μ', rfl, by rw [ht]; exact hRep', hQ, hg1, hg2, hS'.F ht⟩
  have hlocks := B.notSynchronized
  refine W.widen e1 e2 ?_
  rcases hR with ⟨z, rfl, rfl, hd, ty, hty, hna⟩ | ⟨rfl, rfl, hd, hty⟩ | ⟨a, rfl, rfl, hd, ty, hty⟩ | ⟨z, rfl, rfl, hd, hty⟩
  · exact W.zret B.exec B.bytes (B.returns.trans hty) hna hq hS'.2.2 hd
  · exact W.vret B.exec B.bytes (B.returns.trans hty) hq hS'.2.2 hd
  · exact W.aret B.exec B.bytes (B.returns.trans hty) (Or.inl ⟨_, rfl⟩) (Or.inr ⟨_, rfl⟩) hq hS'.2.2 hd
  · exact W.lret B.exec B.bytes (B.returns.trans hty) hq hS'.2.2 hd
theorem PK.blind {E : EV} {as : List Value} {G : GG} {μ : MU} : FrameBlind (PK E as G μ) := fun a U g mk h => ⟨h.1, h.2.1, h.2.2.vm (u := U) (U := U.calling g mk a) rfl⟩
/-- contracts with what a call wants of the method and the receiver -/
def KV (E : EV) (l : Launch) (h : Nat) (my : MR) (b : Nat) (as : List Value) (G : GG) (μ : MU) (mc ms : Nat) (Q : Option Value → GG → MU → Prop) : Prop :=
  KC E l h my (rA E b :: as) G μ mc ms Q ∧ (∃ (ci : Nat) (fds : List (Option (Option Nat))) (q : vw_C), obj G b (.inl (ci, fds)) ∧ vwCl[ci]? = some q ∧ q.1 = my.1) ∧ MV my as.length ∧ my.2.2.2.1 ≤ 16
def KI (E : EV) (l : Launch) (h : Nat) (my : MR) (b : Nat) (as : List Value) (G : GG) (μ : MU) (mc ms : Nat) (Q : Option Value → GG → MU → Prop) : Prop :=
  KC E l h my (rA E b :: as) G μ mc ms Q ∧ MI my as.length ∧ my.2.2.2.1 ≤ 16
def KS (E : EV) (l : Launch) (h : Nat) (my : MR) (as : List Value) (G : GG) (μ : MU) (mc ms : Nat) (Q : Option Value → GG → MU → Prop) : Prop :=
  KC E l h my as G μ mc ms Q ∧ MS my as.length ∧ my.2.2.2.1 ≤ 16
section VCL
variable {E : EV} {l : Launch} {my : MR} {sc : Option (Nat × Nat × (Nat → Int))} {d NT ST : Nat} {Post : Option Value → GG → MU → Prop} {pc n : Nat} {lo : List (Nat × Value)} {st st0 : List Value} {G : GG} {μ : MU}
theorem run_go {p : Program} {e : Env} {R : Room} {s : State} {m : MethodId} {args : Array Value} {below : List Frame} {meth : Method} {c : Code} {H : Heap} {locs : List Loc} {cells slots mc ms : Nat} {Qf : State → Prop} {ls : Array Slot} {a : Array Value} {Q : Option Value → GG → MU → Prop}
    (C : CX E my sc d p R s m args meth c) (D : DY E G μ NT ST R s H locs cells slots) (L : LH my ls lo)
    (hr : ∀ (v : Option Value) (G' : GG) (μ' : MU) (H' : Heap) (locs' : List Loc) (cells' slots' pc' : Nat) (ls' : Array Slot) (stk : List Value), Post v G' μ' → DY E G' μ' NT ST R s H' locs' cells' slots' → RT my pc' v stk → W p l e R s m args below meth c H' locs' cells' slots' Qf (F0 m pc' ls' stk))
    (hrun : va_Run p l e R s m args below meth c H locs cells slots mc ms (F0 m pc ls st0) st (QK E G mc ms Q a) (fun q => E.2.2 ≤ q)) (h1 : G.1 + mc ≤ NT) (h2 : G.2.1 + ms ≤ ST)
    (k : ∀ (v : Option Value) (G' : GG) (μ' : MU), Q v G' μ' → V E l my sc d NT ST Post (pc + 3) lo (v.toList ++ st) G' μ') : W p l e R s m args below meth c H locs cells slots Qf (F0 m pc ls st0) := by
  intro T hT X
  obtain ⟨v, st₀, t, T', Lc, h0, X', hL, e1, e2, ⟨v', G', μ', hv, hRep, hQ, hn, hs, hF⟩, hst⟩ := hrun T hT X
  cases hv
  obtain ⟨⟨hP, hz⟩, hS, d1, d2, d3, d4, d5, d6, d7⟩ := D
  obtain ⟨t2, a1, b1⟩ := k v G' μ' hQ p e R s m args below meth c T'.heap (locs ++ Lc) (cells + mc) (slots + ms) Qf ls C
    ⟨by rw [e1]; exact hRep, ⟨Nat.le_trans hS.1 (by rw [e1, ← h0]; exact hF.1), fun q q1 q2 => by
        rw [e1, hF.2 q (by rw [h0]; exact Nat.lt_of_lt_of_le q1 hS.1) q2, h0]
        exact hS.2.1 q q1 q2, fun q hq => by
        rcases List.mem_append.mp hq with h | h
        · exact hS.2.2 q h
        · exact hL q h⟩, by rw [hn]; omega, by rw [hs]; omega, by omega, by omega, by rw [hn]; omega, by rw [hn]; omega, by rw [hs]; omega⟩ L hr T' rfl X'
  exact ⟨t2, hst t2 a1, b1⟩
theorem lo35 {d h nl : Nat} {R : Room} (hR : d ≤ R.frames ∧ 35 * d ≤ R.locals) (hd : h + 1 ≤ d) (hl : nl ≤ 16) : h + 1 ≤ R.frames ∧ 8 + (nl + 11) + 35 * h ≤ R.locals := ⟨by omega, by omega⟩
theorem V.callV {idx hc mc ms b : Nat} {y : MR} {As : List Value} {Q : Option Value → GG → MU → Prop} (hd : dec my pc = .ok (.invokevirtual idx, 3)) (hk : Cond.methodLink my.1 idx y.2.1 ∈ gw) (hK : KV E l hc y b As G μ mc ms Q) (hst : st0 = As.reverse ++ rA E b :: st) (hcat : (st.map fun v => v.category).sum ≤ 8) (hdep : hc + 1 ≤ d) (hroom : G.1 + mc ≤ NT ∧ G.2.1 + ms ≤ ST) (hn : pc + 3 = n)
    (k : ∀ (v : Option Value) (G' : GG) (μ' : MU), Q v G' μ' → V E l my sc d NT ST Post n lo (v.toList ++ st) G' μ') : V E l my sc d NT ST Post pc lo st0 G μ := by
  subst hn
  obtain ⟨hM, ⟨ci, fds, q, hob, hq, hq1⟩, hmv, hnl⟩ := hK
  intro p e R s m args below meth c H locs cells slots Qf ls C D L hr
  have hts := C.1.2.2.2.2
  have hw := wl_at (E := E) (μ := μ) hob
  rw [cE_o] at hw
  have hgood : GoodIn gw (wsV my.1 idx y.1 y.2.1 (.code y.2.1 y.2.2.1 y.2.2.2.1 y.2.2.2.2 :: gw)) := by
    intro w hw
    rcases List.mem_append.mp hw with h | h
    · simp only [List.mem_cons, List.not_mem_nil, or_false] at h
      rcases h with rfl | rfl | rfl | rfl
      · exact gw_good hk
      · exact gw_good hmv.2.1
      · exact gw_good hmv.2.2
      · rw [← hmv.1.2.2.1]; exact gw_good hmv.1.2.1
    · rcases List.mem_cons.mp h with rfl | h
      · exact gw_good hmv.1.1
      · exact gw_good h
  refine run_go C D L hr (va_runV (C := y.1) (As := As) (n := As.length) (nL := my.2.2.2.1) C.1 hM (cwV As.length hts hgood rfl rfl rfl ⟨hmv.1.2.2.1, hmv.1.2.2.2.1⟩ (lo35 C.2.2.1 hdep hnl)) ⟨PK.blind, hq1 ▸ va_recv C.2.1.2.1 D.1.1 hq hw, fun U hU hW => ⟨rfl, by rw [hU]; exact D.1, C.2.1.warm hW⟩⟩ rfl rfl L.1 hst (lv_room hcat) hd ⟨?_, ?_⟩) hroom.1 hroom.2 k
  · have := D.2.2.1; omega
  · have := D.2.2.2.1; omega
theorem V.callS {idx hc mc ms : Nat} {y : MR} {As : List Value} {Q : Option Value → GG → MU → Prop} (hd : dec my pc = .ok (.invokestatic idx, 3)) (hk : Cond.methodLink my.1 idx y.2.1 ∈ gw) (hK : KS E l hc y As G μ mc ms Q) (hown : y.1 = my.1) (hst : st0 = As.reverse ++ st) (hcat : (st.map fun v => v.category).sum ≤ 8) (hdep : hc + 1 ≤ d) (hroom : G.1 + mc ≤ NT ∧ G.2.1 + ms ≤ ST) (hn : pc + 3 = n)
    (k : ∀ (v : Option Value) (G' : GG) (μ' : MU), Q v G' μ' → V E l my sc d NT ST Post n lo (v.toList ++ st) G' μ') : V E l my sc d NT ST Post pc lo st0 G μ := by
  subst hn
  obtain ⟨hM, hmv, hnl⟩ := hK
  intro p e R s m args below meth c H locs cells slots Qf ls C D L hr
  have hts := C.1.2.2.2.2
  have hgood : GoodIn gw (wsS my.1 idx y.2.1 (.code y.2.1 y.2.2.1 y.2.2.2.1 y.2.2.2.2 :: gw)) := by
    intro w hw
    rcases List.mem_append.mp hw with h | h
    · simp only [List.mem_cons, List.not_mem_nil, or_false] at h
      rcases h with rfl | rfl | rfl
      · exact gw_good hk
      · exact gw_good hmv.2
      · rw [← hown, ← hmv.1.2.2.1]; exact gw_good hmv.1.2.1
    · rcases List.mem_cons.mp h with rfl | h
      · exact gw_good hmv.1.1
      · exact gw_good h
  refine run_go C D L hr (va_runS (As := As) (n := As.length) (nL := my.2.2.2.1) C.1 hM (cwS As.length hts hgood rfl rfl rfl ⟨hmv.1.2.2.1.trans hown, hmv.1.2.2.2.1⟩ (lo35 C.2.2.1 hdep hnl)) ⟨PK.blind, fun U hU hW => ⟨rfl, by rw [hU]; exact D.1, C.2.1.warm hW⟩⟩ rfl rfl L.1 hst (lv_room hcat) hd ⟨?_, ?_⟩) hroom.1 hroom.2 k
  · have := D.2.2.1; omega
  · have := D.2.2.2.1; omega
theorem V.callI {idx hc mc ms b : Nat} {y : MR} {As : List Value} {Q : Option Value → GG → MU → Prop} (hd : dec my pc = .ok (.invokespecial idx, 3)) (hk : Cond.methodLink my.1 idx y.2.1 ∈ gw ∨ ∃ host, Cond.methodLinkNest my.1 idx y.2.1 host ∈ nw) (hK : KI E l hc y b As G μ mc ms Q) (hret : y.2.2.2.2 = none) (hst : st0 = As.reverse ++ rA E b :: st) (hcat : (st.map fun v => v.category).sum ≤ 8) (hdep : hc + 1 ≤ d) (hroom : G.1 + mc ≤ NT ∧ G.2.1 + ms ≤ ST) (hn : pc + 3 = n)
    (k : ∀ (v : Option Value) (G' : GG) (μ' : MU), Q v G' μ' → V E l my sc d NT ST Post n lo (v.toList ++ st) G' μ') : V E l my sc d NT ST Post pc lo st0 G μ := by
  subst hn
  obtain ⟨hM, hmv, hnl⟩ := hK
  intro p e R s m args below meth c H locs cells slots Qf ls C D L hr
  have hts := C.1.2.2.2.2
  have hgood : GoodIn gw (.code y.2.1 y.2.2.1 y.2.2.2.1 none :: gw) := by
    intro w hw
    rcases List.mem_cons.mp hw with rfl | h
    · rw [← hret]; exact gw_good hmv.1.1
    · exact gw_good h
  unfold KC at hM
  rw [hret] at hM
  rcases hk with hk | ⟨host, hk⟩
  · refine run_go C D L hr (va_runI (As := As) (n := As.length) (nL := my.2.2.2.1) C.1 hM (cwI As.length hts hgood rfl rfl rfl (hts _ hmv.1.2.1) (hts _ hk) (hts _ hmv.2.1) hmv.2.2 hmv.1.2.2.2.1 (lo35 C.2.2.1 hdep hnl)) ⟨PK.blind, fun U hU hW => ⟨rfl, by rw [hU]; exact D.1, C.2.1.warm hW⟩⟩ rfl rfl L.1 hst (lv_room hcat) hd ⟨?_, ?_⟩) hroom.1 hroom.2 k
    · have := D.2.2.1; omega
    · have := D.2.2.2.1; omega
  · refine run_go C D L hr (va_runIN (As := As) (n := As.length) (nL := my.2.2.2.1) (host := host) C.1 hM ⟨va_cnB As.length hts hgood rfl rfl rfl (C.2.1.1 _ hk) (hts _ hmv.1.2.1) hmv.1.2.2.2.1 (lo35 C.2.2.1 hdep hnl), hmv.2.2, hts _ hmv.2.1⟩ ⟨PK.blind, fun U hU hW => ⟨rfl, by rw [hU]; exact D.1, C.2.1.warm hW⟩⟩ rfl rfl L.1 hst (lv_room hcat) hd ⟨?_, ?_⟩) hroom.1 hroom.2 k
    · have := D.2.2.1; omega
    · have := D.2.2.2.1; omega
end VCL
end
section
/-! MORE RULES: calls whose end is known, new cells, the JDK's members, division -/
def dq (v : Option Value) (G0 : GG) (μ0 : MU) : Option Value → GG → MU → Prop := fun v' G' μ' => v' = v ∧ G' = G0 ∧ μ' = μ0
/-- how many words a stack takes -/
def cw : List Value → Nat
  | [] => 0
  | .int _ :: r => cw r + 1
  | .ref _ :: r => cw r + 1
  | .null :: r => cw r + 1
  | .long _ :: r => cw r + 2
  | _ :: r => cw r + 9
theorem cw_sum : ∀ {vs : List Value}, cw vs ≤ 8 → (vs.map fun v => v.category).sum ≤ cw vs
  | [], _ => Nat.le_refl _
  | v :: r, h => by
    have h2 : cw r ≤ cw (v :: r) := by cases v <;> first | exact Nat.le_add_right (cw r) 1 | exact Nat.le_add_right (cw r) 2 | exact Nat.le_add_right (cw r) 9
    have h1 := cw_sum (vs := r) (Nat.le_trans h2 h)
    rw [List.map_cons, List.sum_cons]
    cases v <;> first | (show 1 + _ ≤ cw r + 1; omega) | (show 2 + _ ≤ cw r + 2; omega) | (exfalso; have h3 : cw r + 9 ≤ 8 := h; omega)
def ck (st : List Value) : Bool := Nat.ble (cw st) 8
theorem ck_of {st : List Value} (h : ck st = true) : (st.map fun v => v.category).sum ≤ 8 := by
  have h1 := Nat.le_of_ble_eq_true h
  have h2 := cw_sum h1
  omega
def grow (G : GG) (sl : Nat) (o : Ob) : GG := (G.1 + 1, G.2.1 + sl, fun b => if b = G.1 then o else G.2.2 b)
/-- a new object's fields: 0 and null -/
def NEWF (ci N : Nat) (fds : List (Option (Option Nat))) : Prop := ∃ (C : String) (T : u_T), vwCl[ci]? = some (C, T, N) ∧ fds.length = N ∧ ∀ j, j < N → ∃ ty, parseFieldDescriptor (T j).2.2.1 = some ty ∧ ((fds[j]? = some none ∧ defaultValue ty = .int 0) ∨ (fds[j]? = some (some none) ∧ defaultValue ty = .null))
section VM
variable {E : EV} {l : Launch} {my : MR} {sc : Option (Nat × Nat × (Nat → Int))} {d NT ST : Nat} {Post : Option Value → GG → MU → Prop} {pc n : Nat} {lo : List (Nat × Value)} {st st0 : List Value} {G : GG} {μ μ1 : MU}
theorem V.cVi {idx hc b : Nat} {y : MR} {As : List Value} {z : Int} (hd : dec my pc = .ok (.invokevirtual idx, 3)) (hk : Cond.methodLink my.1 idx y.2.1 ∈ gw) (hK : KV E l hc y b As G μ 0 0 (dq (some (rI z)) G μ1)) (hst : st0 = As.reverse ++ rA E b :: st) (hcat : ck st = true) (hdep : hc + 1 ≤ d) (hn : pc + 3 = n)
    (k : V E l my sc d NT ST Post n lo (rI z :: st) G μ1) : V E l my sc d NT ST Post pc lo st0 G μ :=
  fun p e R s m args below meth c H locs cells slots Qf ls C D L hr => V.callV hd hk hK hst (ck_of hcat) hdep ⟨D.2.2.2.2.2.2.2.1, D.2.2.2.2.2.2.2.2⟩ hn (fun v G' μ' h => by obtain ⟨rfl, rfl, rfl⟩ := h; exact k) p e R s m args below meth c H locs cells slots Qf ls C D L hr
theorem V.cVv {idx hc b : Nat} {y : MR} {As : List Value} (hd : dec my pc = .ok (.invokevirtual idx, 3)) (hk : Cond.methodLink my.1 idx y.2.1 ∈ gw) (hK : KV E l hc y b As G μ 0 0 (dq none G μ1)) (hst : st0 = As.reverse ++ rA E b :: st) (hcat : ck st = true) (hdep : hc + 1 ≤ d) (hn : pc + 3 = n)
    (k : V E l my sc d NT ST Post n lo st G μ1) : V E l my sc d NT ST Post pc lo st0 G μ :=
  fun p e R s m args below meth c H locs cells slots Qf ls C D L hr => V.callV hd hk hK hst (ck_of hcat) hdep ⟨D.2.2.2.2.2.2.2.1, D.2.2.2.2.2.2.2.2⟩ hn (fun v G' μ' h => by obtain ⟨rfl, rfl, rfl⟩ := h; exact k) p e R s m args below meth c H locs cells slots Qf ls C D L hr
theorem V.cVr {idx hc b a : Nat} {y : MR} {As : List Value} (hd : dec my pc = .ok (.invokevirtual idx, 3)) (hk : Cond.methodLink my.1 idx y.2.1 ∈ gw) (hK : KV E l hc y b As G μ 0 0 (dq (some (rA E a)) G μ1)) (hst : st0 = As.reverse ++ rA E b :: st) (hcat : ck st = true) (hdep : hc + 1 ≤ d) (hn : pc + 3 = n)
    (k : V E l my sc d NT ST Post n lo (rA E a :: st) G μ1) : V E l my sc d NT ST Post pc lo st0 G μ :=
  fun p e R s m args below meth c H locs cells slots Qf ls C D L hr => V.callV hd hk hK hst (ck_of hcat) hdep ⟨D.2.2.2.2.2.2.2.1, D.2.2.2.2.2.2.2.2⟩ hn (fun v G' μ' h => by obtain ⟨rfl, rfl, rfl⟩ := h; exact k) p e R s m args below meth c H locs cells slots Qf ls C D L hr
theorem V.cVq {idx hc b : Nat} {y : MR} {As : List Value} {Q : Option Value → GG → MU → Prop} (hd : dec my pc = .ok (.invokevirtual idx, 3)) (hk : Cond.methodLink my.1 idx y.2.1 ∈ gw) (hK : KV E l hc y b As G μ 0 0 Q) (hst : st0 = As.reverse ++ rA E b :: st) (hcat : ck st = true) (hdep : hc + 1 ≤ d) (hn : pc + 3 = n)
    (k : ∀ (v : Option Value) (G' : GG) (μ' : MU), Q v G' μ' → V E l my sc d NT ST Post n lo (v.toList ++ st) G' μ') : V E l my sc d NT ST Post pc lo st0 G μ :=
  fun p e R s m args below meth c H locs cells slots Qf ls C D L hr => V.callV hd hk hK hst (ck_of hcat) hdep ⟨D.2.2.2.2.2.2.2.1, D.2.2.2.2.2.2.2.2⟩ hn k p e R s m args below meth c H locs cells slots Qf ls C D L hr
theorem V.cSi {idx hc : Nat} {y : MR} {As : List Value} {z : Int} (hd : dec my pc = .ok (.invokestatic idx, 3)) (hk : Cond.methodLink my.1 idx y.2.1 ∈ gw) (hK : KS E l hc y As G μ 0 0 (dq (some (rI z)) G μ1)) (hown : y.1 = my.1) (hst : st0 = As.reverse ++ st) (hcat : ck st = true) (hdep : hc + 1 ≤ d) (hn : pc + 3 = n)
    (k : V E l my sc d NT ST Post n lo (rI z :: st) G μ1) : V E l my sc d NT ST Post pc lo st0 G μ :=
  fun p e R s m args below meth c H locs cells slots Qf ls C D L hr => V.callS hd hk hK hown hst (ck_of hcat) hdep ⟨D.2.2.2.2.2.2.2.1, D.2.2.2.2.2.2.2.2⟩ hn (fun v G' μ' h => by obtain ⟨rfl, rfl, rfl⟩ := h; exact k) p e R s m args below meth c H locs cells slots Qf ls C D L hr
theorem V.cSv {idx hc : Nat} {y : MR} {As : List Value} (hd : dec my pc = .ok (.invokestatic idx, 3)) (hk : Cond.methodLink my.1 idx y.2.1 ∈ gw) (hK : KS E l hc y As G μ 0 0 (dq none G μ1)) (hown : y.1 = my.1) (hst : st0 = As.reverse ++ st) (hcat : ck st = true) (hdep : hc + 1 ≤ d) (hn : pc + 3 = n)
    (k : V E l my sc d NT ST Post n lo st G μ1) : V E l my sc d NT ST Post pc lo st0 G μ :=
  fun p e R s m args below meth c H locs cells slots Qf ls C D L hr => V.callS hd hk hK hown hst (ck_of hcat) hdep ⟨D.2.2.2.2.2.2.2.1, D.2.2.2.2.2.2.2.2⟩ hn (fun v G' μ' h => by obtain ⟨rfl, rfl, rfl⟩ := h; exact k) p e R s m args below meth c H locs cells slots Qf ls C D L hr
theorem V.cSq {idx hc : Nat} {y : MR} {As : List Value} {Q : Option Value → GG → MU → Prop} (hd : dec my pc = .ok (.invokestatic idx, 3)) (hk : Cond.methodLink my.1 idx y.2.1 ∈ gw) (hK : KS E l hc y As G μ 0 0 Q) (hown : y.1 = my.1) (hst : st0 = As.reverse ++ st) (hcat : ck st = true) (hdep : hc + 1 ≤ d) (hn : pc + 3 = n)
    (k : ∀ (v : Option Value) (G' : GG) (μ' : MU), Q v G' μ' → V E l my sc d NT ST Post n lo (v.toList ++ st) G' μ') : V E l my sc d NT ST Post pc lo st0 G μ :=
  fun p e R s m args below meth c H locs cells slots Qf ls C D L hr => V.callS hd hk hK hown hst (ck_of hcat) hdep ⟨D.2.2.2.2.2.2.2.1, D.2.2.2.2.2.2.2.2⟩ hn k p e R s m args below meth c H locs cells slots Qf ls C D L hr
theorem V.cIv {idx hc mc ms b : Nat} {y : MR} {As : List Value} {G1 : GG} (hd : dec my pc = .ok (.invokespecial idx, 3)) (hk : Cond.methodLink my.1 idx y.2.1 ∈ gw ∨ ∃ host, Cond.methodLinkNest my.1 idx y.2.1 host ∈ nw) (hK : KI E l hc y b As G μ mc ms (dq none G1 μ1)) (hret : y.2.2.2.2 = none) (hst : st0 = As.reverse ++ rA E b :: st) (hcat : ck st = true) (hdep : hc + 1 ≤ d) (hroom : G.1 + mc ≤ NT ∧ G.2.1 + ms ≤ ST) (hn : pc + 3 = n)
    (k : V E l my sc d NT ST Post n lo st G1 μ1) : V E l my sc d NT ST Post pc lo st0 G μ :=
  V.callI hd hk hK hret hst (ck_of hcat) hdep hroom hn (fun v G' μ' h => by obtain ⟨rfl, rfl, rfl⟩ := h; exact k)
theorem V.cIq {idx hc mc ms b : Nat} {y : MR} {As : List Value} {Q : Option Value → GG → MU → Prop} (hd : dec my pc = .ok (.invokespecial idx, 3)) (hk : Cond.methodLink my.1 idx y.2.1 ∈ gw ∨ ∃ host, Cond.methodLinkNest my.1 idx y.2.1 host ∈ nw) (hK : KI E l hc y b As G μ mc ms Q) (hret : y.2.2.2.2 = none) (hst : st0 = As.reverse ++ rA E b :: st) (hcat : ck st = true) (hdep : hc + 1 ≤ d) (hroom : G.1 + mc ≤ NT ∧ G.2.1 + ms ≤ ST) (hn : pc + 3 = n)
    (k : ∀ (v : Option Value) (G' : GG) (μ' : MU), Q v G' μ' → V E l my sc d NT ST Post n lo (v.toList ++ st) G' μ') : V E l my sc d NT ST Post pc lo st0 G μ :=
  V.callI hd hk hK hret hst (ck_of hcat) hdep hroom hn k
theorem V.objInit {idx a : Nat} (hd : dec my pc = .ok (.invokespecial idx, 3)) (hk : Cond.methodLink my.1 idx objectInit ∈ gw) (hcat : ck st = true) (hdep : 1 ≤ d) (hn : pc + 3 = n) (k : V E l my sc d NT ST Post n lo st G μ) : V E l my sc d NT ST Post pc lo (rA E a :: st) G μ := by
  subst hn
  intro p e R s m args below meth c H locs cells slots Qf ls C D L hr
  have hts := C.1.2.2.2.2
  have hc := ck_of hcat
  have hR := C.2.2.1
  refine W.objInit (rest := st) C.1.1 C.1.2.1 C.1.2.2.2.1 (hts _ hk) (hts _ jo_1) (hts _ jo_2) rfl (by rw [C.1.2.2.1]; exact L.1) rfl hd (by omega) ?_ (k p e R s m args below meth c H locs cells slots Qf ls C D L hr)
  show 2 * 0 + (st.map fun v => v.category).sum + 12 ≤ R.locals
  omega
theorem V.mmax {idx : Nat} {x y : Int} (hd : dec my pc = .ok (.invokestatic idx, 3)) (hk : Cond.methodLink my.1 idx Lib.Math.max.name ∈ gw) (hx : inR x) (hy : inR y) (hcat : ck st = true) (hdep : 1 ≤ d) (hn : pc + 3 = n) (k : V E l my sc d NT ST Post n lo (rI (max x y) :: st) G μ) : V E l my sc d NT ST Post pc lo (rI y :: rI x :: st) G μ := by
  subst hn
  intro p e R s m args below meth c H locs cells slots Qf ls C D L hr
  have hts := C.1.2.2.2.2
  have hc := ck_of hcat
  have hR := C.2.2.1
  have hm : rI (max x y) = .int (if Int32.ofInt x < Int32.ofInt y then Int32.ofInt y else Int32.ofInt x) := by
    unfold rI
    by_cases h : x < y
    · rw [if_pos ((c_lt hx hy).mpr h), show max x y = y by omega]
    · rw [if_neg (fun q => h ((c_lt hx hy).mp q)), show max x y = x by omega]
  have h := k p e R s m args below meth c H locs cells slots Qf ls C D L hr
  rw [hm] at h
  refine va_mmax C.1.1 C.1.2.1 (by rw [C.1.2.2.1]; exact L.1.symm) C.1.2.2.2.1 (hts _ hk) (hts _ jm_1) (hts _ jm_3) (hts _ jm_2) (by omega) ?_ D.2.2.2.2.1 D.2.2.2.2.2.1 hd h
  omega
theorem V.mmin {idx : Nat} {x y : Int} (hd : dec my pc = .ok (.invokestatic idx, 3)) (hk : Cond.methodLink my.1 idx Lib.Math.min.name ∈ gw) (hx : inR x) (hy : inR y) (hcat : ck st = true) (hdep : 1 ≤ d) (hn : pc + 3 = n) (k : V E l my sc d NT ST Post n lo (rI (min x y) :: st) G μ) : V E l my sc d NT ST Post pc lo (rI y :: rI x :: st) G μ := by
  subst hn
  intro p e R s m args below meth c H locs cells slots Qf ls C D L hr
  have hts := C.1.2.2.2.2
  have hc := ck_of hcat
  have hR := C.2.2.1
  have hm : rI (min x y) = .int (if Int32.ofInt y < Int32.ofInt x then Int32.ofInt y else Int32.ofInt x) := by
    unfold rI
    by_cases h : y < x
    · rw [if_pos ((c_lt hy hx).mpr h), show min x y = y by omega]
    · rw [if_neg (fun q => h ((c_lt hy hx).mp q)), show min x y = x by omega]
  have h := k p e R s m args below meth c H locs cells slots Qf ls C D L hr
  rw [hm] at h
  refine va_mmin C.1.1 C.1.2.1 (by rw [C.1.2.2.1]; exact L.1.symm) C.1.2.2.2.1 (hts _ hk) (hts _ jm_4) (hts _ jm_3) (hts _ jm_5) (by omega) ?_ D.2.2.2.2.1 D.2.2.2.2.2.1 hd h
  omega
/-- System.arraycopy of the first len numbers of an int array into another -/
theorem V.copyI {idx a b n0 n1 : Nat} {len : Int} (hd : dec my pc = .ok (.invokestatic idx, 3)) (hk : Cond.methodLink my.1 idx arraycopyName ∈ gw) (ha : obj G a (.inr (0, n0))) (hb : obj G b (.inr (0, n1))) (h0 : 0 ≤ len) (h1 : len ≤ n0) (h2 : len ≤ n1) (hN : n0 ≤ 65536) (hcat : ck st = true) (hdep : 1 ≤ d) (hn : pc + 3 = n) (k : V E l my sc d NT ST Post n lo st G (wrC μ b (fun j => if 0 ≤ j ∧ j < len then μ a j else μ b j))) : V E l my sc d NT ST Post pc lo (rI len :: rI 0 :: rA E b :: rI 0 :: rA E a :: st) G μ := by
  subst hn
  intro p e R s m args below meth c H locs cells slots Qf ls C D L hr
  have hts := C.1.2.2.2.2
  have hc := ck_of hcat
  have hR := C.2.2.1
  have hwa := wl_at (E := E) (μ := μ) ha
  rw [cE_a _ _ _ _ (by decide)] at hwa
  have hwb := wl_at (E := E) (μ := μ) hb
  rw [cE_a _ _ _ _ (by decide)] at hwb
  have hz : (Int32.ofInt 0).toNatClampNeg = 0 := tN (by decide) (by decide)
  have hlen : (Int32.ofInt len).toNatClampNeg = len.toNat := tN h0 (by omega)
  refine va_copyi C.1.1 C.1.2.1 (by rw [C.1.2.2.1]; exact L.1.symm) C.1.2.2.2.1 (hts _ hk) (hts _ js_2) (hts _ js_1) (hts _ js_3) C.2.1.2.1 D.1.1 (wl_D E G μ) D.2.1 a b 0 0 hwa hwb rfl rfl rfl (nN (by decide) (by decide)) (nN (by decide) (by decide)) (nN h0 (by omega)) (by rw [hz, hlen]; omega) (by rw [hz, hlen]; omega) (fun _ _ => rfl) (by omega) ?_ hd (fun H1 locs1 hP1 _ hS1 => W_bd fun hb' => k p e R s m args below meth c H1 locs1 cells slots Qf ls C (D.of rfl rfl (Nat.lt_of_le_of_lt (Nat.zero_le _) hb.1) (wl_set rfl ?_ (fun _ _ => rfl) (fun x hx => by simp [wrC, hx])) hP1 hS1 hb') L hr)
  · have : nativeFrameWords "java/lang/System" "arraycopy" 5 + 11 ≤ 27 := by decide +kernel
    omega
  · have hf : va_cpy (fun j : Nat => Int32.ofInt (μ a (j : Int))) (fun j : Nat => Int32.ofInt (μ b (j : Int))) (Int32.ofInt 0).toNatClampNeg (Int32.ofInt 0).toNatClampNeg (Int32.ofInt len).toNatClampNeg = fun j : Nat => Int32.ofInt (wrC μ b (fun j => if 0 ≤ j ∧ j < len then μ a j else μ b j) b (j : Int)) := by
      funext j
      rw [hz, hlen]
      have e : wrC μ b (fun j => if 0 ≤ j ∧ j < len then μ a j else μ b j) b = (fun j => if 0 ≤ j ∧ j < len then μ a j else μ b j) := by simp [wrC]
      rw [e]
      unfold va_cpy
      by_cases hj : j < len.toNat
      · rw [if_pos (by omega)]
        show Int32.ofInt (μ a ((0 + (j - 0) : Nat) : Int)) = Int32.ofInt (if 0 ≤ (j : Int) ∧ (j : Int) < len then μ a j else μ b j)
        rw [if_pos (by omega), show 0 + (j - 0) = j by omega]
      · rw [if_neg (by omega)]
        show Int32.ofInt (μ b (j : Int)) = Int32.ofInt (if 0 ≤ (j : Int) ∧ (j : Int) < len then μ a j else μ b j)
        rw [if_neg (by omega)]
    rw [hb.2, cE_a _ _ _ _ (by decide), hf]
theorem V.newO {idx ci N : Nat} {C' : String} {T : u_T} {fds : List (Option (Option Nat))} (hd : dec my pc = .ok (.new idx, 3)) (hc : vwCl[ci]? = some (C', T, N)) (hcl : Cond.classLink my.1 idx C' ∈ gw) (hins : Cond.instantiable C' N ∈ gw) (hini : Cond.initialized C' ∈ gw) (hnf : NEWF ci N fds) (h1 : G.1 + 1 ≤ NT) (h2 : G.2.1 + N ≤ ST) (hn : pc + 3 = n) (k : V E l my sc d NT ST Post n lo (rA E G.1 :: st) (grow G N (.inl (ci, fds))) (wrC μ G.1 (fun _ => 0))) : V E l my sc d NT ST Post pc lo st G μ := by
  subst hn
  intro p e R s m args below meth c H locs cells slots Qf ls C D L hr
  obtain ⟨C2, T2, hc2, hlen, hdef⟩ := hnf
  obtain ⟨rfl, rfl⟩ : C2 = C' ∧ T2 = T := by
    have := hc2.symm.trans hc
    simpa using this
  have hts := C.1.2.2.2.2
  obtain ⟨hin, ⟨ty0, hty0⟩, hnm⟩ := cls_ok _ _ _ _ hc
  have d1 := D.2.2.1
  have d2 := D.2.2.2.1
  refine va_new (ci := ci) (fs := fds.mapIdx (fV E (fun _ => 0))) C.1.1 C.1.2.1 hts hin ty0 hty0 C.1.2.2.2.1 (hts _ hcl) (hts _ hins) (hts _ hini) C.2.1.2.1 D.1.1 (wl_D E G μ) D.2.1 (fun q hq => Nat.le_trans C.2.2.2.1 hq) hc (fun j hj => ?_) (by omega) (by omega) hd (fun q H1 hP1 hD1 hS1 => W_bd fun hb => ?_)
  · obtain ⟨ty, hty, h⟩ := hdef j hj
    have e : ty0 j = ty := Option.some.inj ((hty0 j hj).symm.trans hty)
    rw [e]
    unfold vp_V
    rw [List.getD_eq_getElem?_getD]
    rcases h with ⟨h, e2⟩ | ⟨h, e2⟩
    · rw [fV_at h, e2]; rfl
    · rw [fV_at h, e2]; rfl
  · obtain ⟨rfl, D'⟩ := D.more (G' := grow G N (.inl (ci, fds))) (μ' := wrC μ G.1 (fun _ => 0)) (sl := N) rfl rfl (fun b hb => by simp [grow, wrC, hb]) (by simp [grow, wrC, cE]) hP1 hD1 hS1 hb h1 h2
    exact k p e R s m args below meth c H1 locs (cells + 1) (slots + N) Qf ls C D' L hr
theorem V.newa {at0 : ArrayType} {t N : Nat} {z : Int} (hd : dec my pc = .ok (.newarray at0, 2)) (hw : Cond.arrayClass (newarray.typeOf at0) ∈ gw) (ht : t < 3 ∧ (∀ E : EV, (tyE E)[t]? = some (E.2.1 t, newarray.typeOf at0)) ∧ defaultValue (newarray.typeOf at0) = .int 0 ∧ componentBytes (newarray.typeOf at0) ≤ 8 ∧ (∀ (U : State) (cA : ClassId), va_RA U cA (newarray.typeOf at0) ↔ U.vm.findClass ("[" ++ (newarray.typeOf at0).toString) = some cA)) (hz : z = (N : Int)) (hN : N ≤ 65536) (h1 : G.1 + 1 ≤ NT) (h2 : G.2.1 + N ≤ ST) (hn : pc + 2 = n) (k : V E l my sc d NT ST Post n lo (rA E G.1 :: st) (grow G N (.inr (t, N))) (wrC μ G.1 (fun _ => 0))) : V E l my sc d NT ST Post pc lo (rI z :: st) G μ := by
  subst hn
  subst hz
  intro p e R s m args below meth c H locs cells slots Qf ls C D L hr
  have hts := C.1.2.2.2.2
  have d1 := D.2.2.1
  have d2 := D.2.2.2.1
  obtain ⟨ht3, htE, hdv, hcb, hRA⟩ := ht
  refine va_newa (N' := N) (a0 := (N, .inl (fun _ => 0))) C.1.1 C.1.2.1 (hts _ hw) rfl C.2.1.2.1 D.1.1 (wl_D E G μ) D.2.1 (fun q hq => Nat.le_trans C.2.2.2.1 hq) (fun cA => by rw [vp_cell_i, hdv]) (nN (by omega) (by omega)) (by rw [tN (by omega) (by omega)]; omega) (Nat.le_trans (Nat.mul_le_mul hN hcb) (by decide)) (by omega) (by omega) hd (fun q cA H1 hK1 hP1 hD1 hS1 => W_bd fun hb => ?_)
  have hA : cA = E.2.1 t := by
    have e1 := (hRA s cA).mp (hK1.2 4 (cA, newarray.typeOf at0) (by simp [tyE])).2
    have e2 := (hRA s _).mp (C.2.1.2.1.2 t _ (htE E)).2
    exact Option.some.inj (e1.symm.trans e2)
  subst hA
  obtain ⟨rfl, D'⟩ := D.more (G' := grow G N (.inr (t, N))) (μ' := wrC μ G.1 (fun _ => 0)) (sl := N) rfl rfl (fun b hb => by simp [grow, wrC, hb]) (by simp only [grow, wrC, if_true]; rw [cE_a _ _ _ _ (by omega)]; rfl) hP1 hD1 hS1 hb h1 h2
  exact k p e R s m args below meth c H1 locs (cells + 1) (slots + N) Qf ls C D' L hr
theorem V.newq {idx N : Nat} {z : Int} (hd : dec my pc = .ok (.anewarray idx, 3)) (hw : Cond.classLink my.1 idx RX6 ∈ gw) (hz : z = (N : Int)) (hN : N ≤ 65536) (h1 : G.1 + 1 ≤ NT) (h2 : G.2.1 + N ≤ ST) (hn : pc + 3 = n) (k : V E l my sc d NT ST Post n lo (rA E G.1 :: st) (grow G N (.inr (3, N))) (wrC μ G.1 (fun _ => -1))) : V E l my sc d NT ST Post pc lo (rI z :: st) G μ := by
  subst hn
  subst hz
  intro p e R s m args below meth c H locs cells slots Qf ls C D L hr
  have hts := C.1.2.2.2.2
  have d1 := D.2.2.1
  have d2 := D.2.2.2.1
  refine va_newq (C := RX6) (N' := N) C.1.1 C.1.2.1 C.1.2.2.2.1 (hts _ hw) C.2.1.2.2 C.2.1.2.1 D.1.1 (wl_D E G μ) D.2.1 (fun q hq => Nat.le_trans C.2.2.2.1 hq) (nN (by omega) (by omega)) (by rw [tN (by omega) (by omega)]; omega) (by omega) (by omega) (by omega) hd (fun q cA H1 hK1 hP1 hD1 hS1 => W_bd fun hb => ?_)
  have hA : cA = E.2.1 3 := by
    obtain ⟨_, _, -, -, -, e1⟩ := (hK1.2 4 (cA, .object RX6) (by simp [tyE])).2
    obtain ⟨_, _, -, -, -, e2⟩ := (C.2.1.2.1.2 3 (E.2.1 3, .object RX6) rfl).2
    exact Option.some.inj (e1.symm.trans e2)
  subst hA
  obtain ⟨rfl, D'⟩ := D.more (G' := grow G N (.inr (3, N))) (μ' := wrC μ G.1 (fun _ => -1)) (sl := N) rfl rfl (fun b hb => by simp [grow, wrC, hb]) (by simp only [grow, wrC, if_true]; rw [cE_r]; rfl) hP1 hD1 hS1 hb h1 h2
  exact k p e R s m args below meth c H1 locs (cells + 1) (slots + N) Qf ls C D' L hr
theorem V.irem {a b : Nat} {x y : Int} (hd : dec my pc = .ok (.irem, 1)) (hx : x = (a : Int)) (hy : y = (b : Int)) (ha : a < 2147483648) (hb0 : 0 < b) (hb : b < 2147483648) (hn : pc + 1 = n) (k : V E l my sc d NT ST Post n lo (rI ((a % b : Nat) : Int) :: st) G μ) : V E l my sc d NT ST Post pc lo (rI y :: rI x :: st) G μ := by
  subst hn
  subst hx
  subst hy
  intro p e R s m args below meth c H locs cells slots Qf ls C D L hr
  have h := k p e R s m args below meth c H locs cells slots Qf ls C D L hr
  have hz : Int32.ofInt ((a % b : Nat) : Int) = Int32.ofInt (a : Int) - Int32.ofInt (a : Int) / Int32.ofInt (b : Int) * Int32.ofInt (b : Int) := (pk_rem (show a < 2 ^ 31 from ha) hb0 (show b < 2 ^ 31 from hb)).symm
  rw [rI, hz] at h
  exact lv_irem C.1.1 C.1.2.1 hd (nI_ne0 hb0 (show b < 2 ^ 31 from hb)) h
theorem V.idiv {a b : Nat} {x y : Int} (hd : dec my pc = .ok (.idiv, 1)) (hx : x = (a : Int)) (hy : y = (b : Int)) (ha : a < 2147483648) (hb0 : 0 < b) (hb : b < 2147483648) (hn : pc + 1 = n) (k : V E l my sc d NT ST Post n lo (rI ((a / b : Nat) : Int) :: st) G μ) : V E l my sc d NT ST Post pc lo (rI y :: rI x :: st) G μ := by
  subst hn
  subst hx
  subst hy
  intro p e R s m args below meth c H locs cells slots Qf ls C D L hr
  have h := k p e R s m args below meth c H locs cells slots Qf ls C D L hr
  have hz : Int32.ofInt ((a / b : Nat) : Int) = Int32.ofInt (a : Int) / Int32.ofInt (b : Int) := (pk_div (show a < 2 ^ 31 from ha) hb0 (show b < 2 ^ 31 from hb)).symm
  rw [rI, hz] at h
  exact lv_idiv C.1.1 C.1.2.1 hd (nI_ne0 hb0 (show b < 2 ^ 31 from hb)) h
end VM
end
section
/-! THE CLASS: rows, texts -/
theorem na_i : 0 < 3 ∧ (∀ E : EV, (tyE E)[0]? = some (E.2.1 0, newarray.typeOf .int)) ∧ defaultValue (newarray.typeOf .int) = .int 0 ∧ componentBytes (newarray.typeOf .int) ≤ 8 ∧ (∀ (U : State) (cA : ClassId), va_RA U cA (newarray.typeOf .int) ↔ U.vm.findClass ("[" ++ (newarray.typeOf .int).toString) = some cA) := ⟨by decide, fun _ => rfl, rfl, by decide, fun _ _ => Iff.rfl⟩
theorem na_c : 1 < 3 ∧ (∀ E : EV, (tyE E)[1]? = some (E.2.1 1, newarray.typeOf .char)) ∧ defaultValue (newarray.typeOf .char) = .int 0 ∧ componentBytes (newarray.typeOf .char) ≤ 8 ∧ (∀ (U : State) (cA : ClassId), va_RA U cA (newarray.typeOf .char) ↔ U.vm.findClass ("[" ++ (newarray.typeOf .char).toString) = some cA) := ⟨by decide, fun _ => rfl, rfl, by decide, fun _ _ => Iff.rfl⟩
def dqi (P : Int → MU → Prop) (G0 : GG) : Option Value → GG → MU → Prop := fun v G' μ' => ∃ z : Int, v = some (rI z) ∧ G' = G0 ∧ P z μ'
def dqv (P : MU → Prop) (G0 : GG) : Option Value → GG → MU → Prop := fun v G' μ' => v = none ∧ G' = G0 ∧ P μ'
/-- a contract says no more than it says -/
theorem KC.post {E : EV} {l : Launch} {h : Nat} {my : MR} {as : List Value} {G : GG} {μ : MU} {mc ms : Nat} {Q Q' : Option Value → GG → MU → Prop} (k : KC E l h my as G μ mc ms Q) (hq : ∀ v G' μ', Q v G' μ' → Q' v G' μ') : KC E l h my as G μ mc ms Q' := by
  intro p e ha hc hk s m args below hf happ hpre htr
  obtain ⟨n, o, h1, h2, h3, ⟨v, G', μ', e1, e2, e3, e4⟩, h5⟩ := k p e ha hc hk s m args below hf happ hpre htr
  exact ⟨n, o, h1, h2, h3, ⟨v, G', μ', e1, e2, hq _ _ _ e3, e4⟩, h5⟩
theorem KC.ofP {E : EV} {l : Launch} {h nn : Nat} {my : MR} {as : List Value} {G : GG} {μ : MU} {Q : Option Value → GG → MU → Prop} (hm : MB my nn) (hc : cat1 as = true) (hn : as.length ≤ my.2.2.2.1) {lo : List (Nat × Value)} (hlo : la 0 as = lo)
    (hV : ∀ (Post : Option Value → GG → MU → Prop) (NT ST : Nat), (∀ v μ', Q v G μ' → Post v G μ') → V E l my none h NT ST Post 0 lo [] G μ) : KC E l h my as G μ 0 0 Q :=
  KC.ofV hm hc hn hlo (hV _ _ _ (fun _ _ hq => ⟨hq, rfl, rfl⟩))
section VQ
variable {E : EV} {l : Launch} {my : MR} {sc : Option (Nat × Nat × (Nat → Int))} {d NT ST : Nat} {Post : Option Value → GG → MU → Prop} {pc n : Nat} {lo : List (Nat × Value)} {st st0 : List Value} {G : GG} {μ μ1 : MU}
theorem V.cVqi {idx hc b : Nat} {y : MR} {As : List Value} {P : Int → MU → Prop} (hd : dec my pc = .ok (.invokevirtual idx, 3)) (hk : Cond.methodLink my.1 idx y.2.1 ∈ gw) (hK : KV E l hc y b As G μ 0 0 (dqi P G)) (hst : st0 = As.reverse ++ rA E b :: st) (hcat : ck st = true) (hdep : hc + 1 ≤ d) (hn : pc + 3 = n)
    (k : ∀ (z : Int) (μ' : MU), P z μ' → V E l my sc d NT ST Post n lo (rI z :: st) G μ') : V E l my sc d NT ST Post pc lo st0 G μ :=
  V.cVq hd hk hK hst hcat hdep hn (fun v G' μ' h => by obtain ⟨z, rfl, rfl, h⟩ := h; exact k z μ' h)
theorem V.cVqv {idx hc b : Nat} {y : MR} {As : List Value} {P : MU → Prop} (hd : dec my pc = .ok (.invokevirtual idx, 3)) (hk : Cond.methodLink my.1 idx y.2.1 ∈ gw) (hK : KV E l hc y b As G μ 0 0 (dqv P G)) (hst : st0 = As.reverse ++ rA E b :: st) (hcat : ck st = true) (hdep : hc + 1 ≤ d) (hn : pc + 3 = n)
    (k : ∀ (μ' : MU), P μ' → V E l my sc d NT ST Post n lo st G μ') : V E l my sc d NT ST Post pc lo st0 G μ :=
  V.cVq hd hk hK hst hcat hdep hn (fun v G' μ' h => by obtain ⟨rfl, rfl, h⟩ := h; exact k μ' h)
theorem V.cSqv {idx hc : Nat} {y : MR} {As : List Value} {P : MU → Prop} (hd : dec my pc = .ok (.invokestatic idx, 3)) (hk : Cond.methodLink my.1 idx y.2.1 ∈ gw) (hK : KS E l hc y As G μ 0 0 (dqv P G)) (hown : y.1 = my.1) (hst : st0 = As.reverse ++ st) (hcat : ck st = true) (hdep : hc + 1 ≤ d) (hn : pc + 3 = n)
    (k : ∀ (μ' : MU), P μ' → V E l my sc d NT ST Post n lo st G μ') : V E l my sc d NT ST Post pc lo st0 G μ :=
  V.cSq hd hk hK hown hst hcat hdep hn (fun v G' μ' h => by obtain ⟨rfl, rfl, h⟩ := h; exact k μ' h)
theorem V.cSqi {idx hc : Nat} {y : MR} {As : List Value} {P : Int → MU → Prop} (hd : dec my pc = .ok (.invokestatic idx, 3)) (hk : Cond.methodLink my.1 idx y.2.1 ∈ gw) (hK : KS E l hc y As G μ 0 0 (dqi P G)) (hown : y.1 = my.1) (hst : st0 = As.reverse ++ st) (hcat : ck st = true) (hdep : hc + 1 ≤ d) (hn : pc + 3 = n)
    (k : ∀ (z : Int) (μ' : MU), P z μ' → V E l my sc d NT ST Post n lo (rI z :: st) G μ') : V E l my sc d NT ST Post pc lo st0 G μ :=
  V.cSq hd hk hK hown hst hcat hdep hn (fun v G' μ' h => by obtain ⟨z, rfl, rfl, h⟩ := h; exact k z μ' h)
end VQ
/-- a row at r, its n cells at c -/
def isRow (G : GG) (r c n : Nat) : Prop := obj G r (.inl (5, [some (some c)])) ∧ obj G c (.inr (0, n)) ∧ n ≤ 65536
section CRW
variable {E : EV} {l : Launch} {G : GG} {μ : MU} {r q n m c cq : Nat} {i v : Int}
theorem c_Rw_get (hr : isRow G r c n) (h0 : 0 ≤ i) (h1 : i < n) : KV E l 0 m_Rw_get r [rI i] G μ 0 0 (dq (some (rI (μ c i))) G μ) := by
  obtain ⟨hr1, hr2, hn⟩ := hr
  refine ⟨KC.ofP q_Rw_get.1 rfl (Nat.le_of_ble_eq_true rfl) rfl (fun Post NT ST hP => ?_), ⟨_, _, _, hr1, rfl, rfl⟩, q_Rw_get, by decide⟩
  refine V.iload_n (n := 1) d_Rw_get_0 rfl rfl ?_
  refine V.if_ltF (n := 4) d_Rw_get_1 (by omega) (by omega) rfl ⟨22, by decide⟩ ?_
  refine V.iload_n (n := 5) d_Rw_get_4 rfl rfl ?_
  refine V.aload_n (n := 6) d_Rw_get_5 rfl rfl ?_
  refine V.getA (n := 9) d_Rw_get_6 f_Rw_13 (by assumption) rfl rfl ?_
  refine V.alen (n := 10) d_Rw_get_9 (by assumption) (by decide) rfl ?_
  refine V.icmp_geF (n := 13) d_Rw_get_10 (by omega) (by omega) (by omega) rfl ⟨22, by decide⟩ ?_
  refine V.aload_n (n := 14) d_Rw_get_13 rfl rfl ?_
  refine V.getA (n := 17) d_Rw_get_14 f_Rw_13 (by assumption) rfl rfl ?_
  refine V.iload_n (n := 18) d_Rw_get_17 rfl rfl ?_
  refine V.iald (n := 19) d_Rw_get_18 (by assumption) (by omega) (by omega) (by omega) rfl ?_
  refine V.goto (n := 23) d_Rw_get_19 (by decide) ?_
  refine V.iret d_Rw_get_23 ⟨_, rfl, rfl⟩ ?_
  exact hP _ _ ⟨rfl, rfl, rfl⟩
theorem c_Rw_set (hr : isRow G r c n) (h0 : 0 ≤ i) (h1 : i < n) : KV E l 0 m_Rw_set r [rI i, rI v] G μ 0 0 (dq none G (wr μ c i v)) := by
  obtain ⟨hr1, hr2, hn⟩ := hr
  refine ⟨KC.ofP q_Rw_set.1 rfl (Nat.le_of_ble_eq_true rfl) rfl (fun Post NT ST hP => ?_), ⟨_, _, _, hr1, rfl, rfl⟩, q_Rw_set, by decide⟩
  refine V.iload_n (n := 1) d_Rw_set_0 rfl rfl ?_
  refine V.if_ltF (n := 4) d_Rw_set_1 (by omega) (by omega) rfl ⟨20, by decide⟩ ?_
  refine V.iload_n (n := 5) d_Rw_set_4 rfl rfl ?_
  refine V.aload_n (n := 6) d_Rw_set_5 rfl rfl ?_
  refine V.getA (n := 9) d_Rw_set_6 f_Rw_13 (by assumption) rfl rfl ?_
  refine V.alen (n := 10) d_Rw_set_9 (by assumption) (by decide) rfl ?_
  refine V.icmp_geF (n := 13) d_Rw_set_10 (by omega) (by omega) (by omega) rfl ⟨20, by decide⟩ ?_
  refine V.aload_n (n := 14) d_Rw_set_13 rfl rfl ?_
  refine V.getA (n := 17) d_Rw_set_14 f_Rw_13 (by assumption) rfl rfl ?_
  refine V.iload_n (n := 18) d_Rw_set_17 rfl rfl ?_
  refine V.iload_n (n := 19) d_Rw_set_18 rfl rfl ?_
  refine V.iast (n := 20) d_Rw_set_19 (by assumption) (by omega) (by omega) (by omega) rfl ?_
  refine V.vret d_Rw_set_20 rfl ?_
  exact hP _ _ ⟨rfl, rfl, rfl⟩
/-- all of a row's cells are put -/
theorem isRow.lt (h : isRow G r c n) : c < G.1 := h.2.1.1
theorem c_Rw_fill (hr : isRow G r c n) : KV E l 0 m_Rw_fill r [rI v] G μ 0 0 (dqv (fun μ' => (∀ b, b ≠ c → μ' b = μ b) ∧ ∀ j : Int, 0 ≤ j → j < n → μ' c j = v) G) := by
  obtain ⟨hr1, hr2, hn⟩ := hr
  refine ⟨KC.ofP q_Rw_fill.1 rfl (Nat.le_of_ble_eq_true rfl) rfl (fun Post NT ST hP => ?_), ⟨_, _, _, hr1, rfl, rfl⟩, q_Rw_fill, by decide⟩
  refine V.iconst (n := 1) d_Rw_fill_0 rfl ?_
  refine V.istore_n (n := 2) d_Rw_fill_1 (by decide) rfl ?_
  have loop : ∀ (k : Nat) (i : Int) (μ' : MU), i + k = n → 0 ≤ i → (∀ b, b ≠ c → μ' b = μ b) → (∀ j : Int, 0 ≤ j → j < i → μ' c j = v) → V E l m_Rw_fill none 0 NT ST Post 2 [(2, rI i), (1, rI v), (0, rA E r)] [] G μ' := by
    intro k
    induction k with
    | zero =>
      intro i μ' hk hi h1 h2
      refine V.iload_n (n := 3) d_Rw_fill_2 rfl rfl ?_
      refine V.aload_n (n := 4) d_Rw_fill_3 rfl rfl ?_
      refine V.getA (n := 7) d_Rw_fill_4 f_Rw_13 (by assumption) rfl rfl ?_
      refine V.alen (n := 8) d_Rw_fill_7 (by assumption) (by decide) rfl ?_
      refine V.icmp_geT (n2 := 24) d_Rw_fill_8 (by omega) (by omega) (by omega) (by decide) ?_
      refine V.vret d_Rw_fill_24 rfl ?_
      exact hP _ _ ⟨rfl, rfl, ⟨h1, fun j h3 h4 => h2 j h3 (by omega)⟩⟩
    | succ k ih =>
      intro i μ' hk hi h1 h2
      refine V.iload_n (n := 3) d_Rw_fill_2 rfl rfl ?_
      refine V.aload_n (n := 4) d_Rw_fill_3 rfl rfl ?_
      refine V.getA (n := 7) d_Rw_fill_4 f_Rw_13 (by assumption) rfl rfl ?_
      refine V.alen (n := 8) d_Rw_fill_7 (by assumption) (by decide) rfl ?_
      refine V.icmp_geF (n := 11) d_Rw_fill_8 (by omega) (by omega) (by omega) rfl ⟨24, by decide⟩ ?_
      refine V.aload_n (n := 12) d_Rw_fill_11 rfl rfl ?_
      refine V.getA (n := 15) d_Rw_fill_12 f_Rw_13 (by assumption) rfl rfl ?_
      refine V.iload_n (n := 16) d_Rw_fill_15 rfl rfl ?_
      refine V.iload_n (n := 17) d_Rw_fill_16 rfl rfl ?_
      refine V.iast (n := 18) d_Rw_fill_17 (by assumption) (by omega) (by omega) (by omega) rfl ?_
      refine V.iinc (n := 21) d_Rw_fill_18 rfl (by decide) rfl ?_
      refine V.goto (n := 2) d_Rw_fill_21 (by decide) ?_
      refine V.loc (lo' := [(2, rI (i + 1)), (1, rI v), (0, rA E r)]) ⟨rfl, rfl, rfl, trivial⟩ ?_
      refine ih (i + 1) _ (by omega) (by omega) (fun b hb => by rw [wr_a hb, h1 b hb]) (fun j h3 h4 => ?_)
      by_cases hj : j = i
      · subst hj; exact wr_s _ _ _ _
      · rw [wr_i hj]; exact h2 j h3 (by omega)
  refine V.loc (lo' := [(2, rI 0), (1, rI v), (0, rA E r)]) ⟨rfl, rfl, rfl, trivial⟩ ?_
  exact loop n 0 μ (by omega) (by omega) (fun _ _ => rfl) (fun j h1 h2 => by omega)
/-- a row's cells are put into another's -/
theorem c_Rw_copyFrom (hr : isRow G r c n) (hq : isRow G q cq n) : KV E l 1 m_Rw_copyFrom r [rA E q] G μ 0 0 (dq none G (wrC μ c (fun j => if 0 ≤ j ∧ j < n then μ cq j else μ c j))) := by
  obtain ⟨hr1, hr2, hn⟩ := hr
  obtain ⟨hq1, hq2, -⟩ := hq
  refine ⟨KC.ofP q_Rw_copyFrom.1 rfl (Nat.le_of_ble_eq_true rfl) rfl (fun Post NT ST hP => ?_), ⟨_, _, _, hr1, rfl, rfl⟩, q_Rw_copyFrom, by decide⟩
  refine V.aload_n (n := 1) d_Rw_copyFrom_0 rfl rfl ?_
  refine V.getA (n := 4) d_Rw_copyFrom_1 f_Rw_13 (by assumption) rfl rfl ?_
  refine V.iconst (n := 5) d_Rw_copyFrom_4 rfl ?_
  refine V.aload_n (n := 6) d_Rw_copyFrom_5 rfl rfl ?_
  refine V.getA (n := 9) d_Rw_copyFrom_6 f_Rw_13 (by assumption) rfl rfl ?_
  refine V.iconst (n := 10) d_Rw_copyFrom_9 rfl ?_
  refine V.aload_n (n := 11) d_Rw_copyFrom_10 rfl rfl ?_
  refine V.getA (n := 14) d_Rw_copyFrom_11 f_Rw_13 (by assumption) rfl rfl ?_
  refine V.alen (n := 15) d_Rw_copyFrom_14 (by assumption) (by decide) rfl ?_
  refine V.aload_n (n := 16) d_Rw_copyFrom_15 rfl rfl ?_
  refine V.getA (n := 19) d_Rw_copyFrom_16 f_Rw_13 (by assumption) rfl rfl ?_
  refine V.alen (n := 20) d_Rw_copyFrom_19 (by assumption) (by decide) rfl ?_
  refine V.mmin (n := 23) d_Rw_copyFrom_20 k_Rw_19 (by omega) (by omega) rfl (by decide) rfl ?_
  rw [show min (n : Int) n = n by omega]
  refine V.copyI (n := 26) d_Rw_copyFrom_23 k_Rw_22 (by assumption) (by assumption) (by omega) (by omega) (by omega) (by omega) rfl (by decide) rfl ?_
  refine V.vret d_Rw_copyFrom_26 rfl ?_
  exact hP _ _ ⟨rfl, rfl, rfl⟩
end CRW
end
section
/-! THE CLASS: games -/
/-- 1 where it holds, else 0 -/
def bi (p : Prop) [Decidable p] : Int := if p then 1 else 0
theorem wr_v (μ : MU) (a : Nat) (i v j : Int) : wr μ a i v a j = if j = i then v else μ a j := by simp [wr]
theorem bi_t {p : Prop} [Decidable p] (h : p) : bi p = 1 := if_pos h
theorem bi_f {p : Prop} [Decidable p] (h : ¬ p) : bi p = 0 := if_neg h
theorem bi_or (p : Prop) [Decidable p] : (p ∧ bi p = 1) ∨ (¬ p ∧ bi p = 0) := by
  by_cases h : p
  · exact Or.inl ⟨h, bi_t h⟩
  · exact Or.inr ⟨h, bi_f h⟩
theorem bi_c {p q : Prop} [Decidable p] [Decidable q] (h : p ↔ q) : bi p = bi q := by
  by_cases hp : p
  · rw [bi_t hp, bi_t (h.mp hp)]
  · rw [bi_f hp, bi_f (fun x => hp (h.mpr x))]
/-- a game at g: six rows and the number of moves -/
def isGame (G : GG) (g : Nat) : Prop :=
  obj G g (.inl (0, [some (some (g + 1)), some (some (g + 3)), some (some (g + 5)), some (some (g + 7)), some (some (g + 9)), some (some (g + 11)), none])) ∧ isRow G (g + 1) (g + 2) 20 ∧ isRow G (g + 3) (g + 4) 20 ∧ isRow G (g + 5) (g + 6) 20 ∧ isRow G (g + 7) (g + 8) 20 ∧ isRow G (g + 9) (g + 10) 20 ∧ isRow G (g + 11) (g + 12) 400
section CGM
variable {E : EV} {l : Launch} {G : GG} {μ : MU} {g h : Nat} {p r i v to : Int}
theorem c_Gm_isEnd (hG : isGame G g) (h0 : 0 ≤ p) (h1 : p < 20) (hm : inR (μ (g + 4) p)) (hc : inR (μ (g + 10) p)) : KV E l 1 m_Gm_isEnd g [rI p] G μ 0 0 (dq (some (rI (bi (¬ μ (g + 4) p = 0 ∨ μ (g + 10) p = 0)))) G μ) := by
  obtain ⟨a0, a1, a2, a3, a4, a5, a6⟩ := hG
  refine ⟨KC.ofP q_Gm_isEnd.1 rfl (Nat.le_of_ble_eq_true rfl) rfl (fun Post NT ST hP => ?_), ⟨_, _, _, a0, rfl, rfl⟩, q_Gm_isEnd, by decide⟩
  refine V.aload_n (n := 1) d_Gm_isEnd_0 rfl rfl ?_
  refine V.getA (n := 4) d_Gm_isEnd_1 f_Gm_20 (by assumption) rfl rfl ?_
  refine V.iload_n (n := 5) d_Gm_isEnd_4 rfl rfl ?_
  refine V.cVi (n := 8) d_Gm_isEnd_5 k_Gm_50 (c_Rw_get (by assumption) (by omega) (by omega)) rfl rfl (by decide) rfl ?_
  refine V.if_ne (n2 := 22) (n := 11) d_Gm_isEnd_8 (by omega) (by decide) rfl (fun h => ?_) (fun h => ?_)
  · rw [bi_t (Or.inl h)] at hP
    refine V.iconst (n := 23) d_Gm_isEnd_22 rfl ?_
    refine V.goto (n := 27) d_Gm_isEnd_23 (by decide) ?_
    refine V.iret d_Gm_isEnd_27 ⟨_, rfl, rfl⟩ ?_
    exact hP _ _ ⟨rfl, rfl, rfl⟩
  · refine V.aload_n (n := 12) d_Gm_isEnd_11 rfl rfl ?_
    refine V.getA (n := 15) d_Gm_isEnd_12 f_Gm_29 (by assumption) rfl rfl ?_
    refine V.iload_n (n := 16) d_Gm_isEnd_15 rfl rfl ?_
    refine V.cVi (n := 19) d_Gm_isEnd_16 k_Gm_50 (c_Rw_get (by assumption) (by omega) (by omega)) rfl rfl (by decide) rfl ?_
    refine V.if_ne (n2 := 26) (n := 22) d_Gm_isEnd_19 (by omega) (by decide) rfl (fun h2 => ?_) (fun h2 => ?_)
    · rw [bi_f (by omega)] at hP
      refine V.iconst (n := 27) d_Gm_isEnd_26 rfl ?_
      refine V.iret d_Gm_isEnd_27 ⟨_, rfl, rfl⟩ ?_
      exact hP _ _ ⟨rfl, rfl, rfl⟩
    · rw [bi_t (by omega)] at hP
      refine V.iconst (n := 23) d_Gm_isEnd_22 rfl ?_
      refine V.goto (n := 27) d_Gm_isEnd_23 (by decide) ?_
      refine V.iret d_Gm_isEnd_27 ⟨_, rfl, rfl⟩ ?_
      exact hP _ _ ⟨rfl, rfl, rfl⟩
theorem c_Gm_isWonEnd (hG : isGame G g) (h0 : 0 ≤ p) (h1 : p < 20) (hm : inR (μ (g + 4) p)) : KV E l 1 m_Gm_isWonEnd g [rI p] G μ 0 0 (dq (some (rI (bi (μ (g + 4) p = 1)))) G μ) := by
  obtain ⟨a0, a1, a2, a3, a4, a5, a6⟩ := hG
  refine ⟨KC.ofP q_Gm_isWonEnd.1 rfl (Nat.le_of_ble_eq_true rfl) rfl (fun Post NT ST hP => ?_), ⟨_, _, _, a0, rfl, rfl⟩, q_Gm_isWonEnd, by decide⟩
  refine V.aload_n (n := 1) d_Gm_isWonEnd_0 rfl rfl ?_
  refine V.getA (n := 4) d_Gm_isWonEnd_1 f_Gm_20 (by assumption) rfl rfl ?_
  refine V.iload_n (n := 5) d_Gm_isWonEnd_4 rfl rfl ?_
  refine V.cVi (n := 8) d_Gm_isWonEnd_5 k_Gm_50 (c_Rw_get (by assumption) (by omega) (by omega)) rfl rfl (by decide) rfl ?_
  refine V.iconst (n := 9) d_Gm_isWonEnd_8 rfl ?_
  refine V.icmp_ne (n2 := 16) (n := 12) d_Gm_isWonEnd_9 (by omega) (by omega) (by decide) rfl (fun h => ?_) (fun h => ?_)
  · rw [bi_f h] at hP
    refine V.iconst (n := 17) d_Gm_isWonEnd_16 rfl ?_
    refine V.iret d_Gm_isWonEnd_17 ⟨_, rfl, rfl⟩ ?_
    exact hP _ _ ⟨rfl, rfl, rfl⟩
  · rw [bi_t h] at hP
    refine V.iconst (n := 13) d_Gm_isWonEnd_12 rfl ?_
    refine V.goto (n := 17) d_Gm_isWonEnd_13 (by decide) ?_
    refine V.iret d_Gm_isWonEnd_17 ⟨_, rfl, rfl⟩ ?_
    exact hP _ _ ⟨rfl, rfl, rfl⟩
theorem c_Gm_targetOf (hG : isGame G g) (h0 : 0 ≤ p) (h1 : p < 20) (h2 : 0 ≤ r) (h3 : r < μ (g + 10) p) (h4 : μ (g + 10) p ≤ 20) : KV E l 1 m_Gm_targetOf g [rI p, rI r] G μ 0 0 (dq (some (rI (μ (g + 12) (p * 20 + r)))) G μ) := by
  obtain ⟨a0, a1, a2, a3, a4, a5, a6⟩ := hG
  refine ⟨KC.ofP q_Gm_targetOf.1 rfl (Nat.le_of_ble_eq_true rfl) rfl (fun Post NT ST hP => ?_), ⟨_, _, _, a0, rfl, rfl⟩, q_Gm_targetOf, by decide⟩
  refine V.iload_n (n := 1) d_Gm_targetOf_0 rfl rfl ?_
  refine V.if_ltF (n := 4) d_Gm_targetOf_1 (by omega) (by omega) rfl ⟨16, by decide⟩ ?_
  refine V.iload_n (n := 5) d_Gm_targetOf_4 rfl rfl ?_
  refine V.aload_n (n := 6) d_Gm_targetOf_5 rfl rfl ?_
  refine V.getA (n := 9) d_Gm_targetOf_6 f_Gm_29 (by assumption) rfl rfl ?_
  refine V.iload_n (n := 10) d_Gm_targetOf_9 rfl rfl ?_
  refine V.cVi (n := 13) d_Gm_targetOf_10 k_Gm_50 (c_Rw_get (by assumption) (by omega) (by omega)) rfl rfl (by decide) rfl ?_
  refine V.icmp_ltT (n2 := 19) d_Gm_targetOf_13 (by omega) (by omega) (by omega) (by decide) ?_
  refine V.aload_n (n := 20) d_Gm_targetOf_19 rfl rfl ?_
  refine V.getA (n := 23) d_Gm_targetOf_20 f_Gm_32 (by assumption) rfl rfl ?_
  refine V.iload_n (n := 24) d_Gm_targetOf_23 rfl rfl ?_
  refine V.bipush (n := 26) d_Gm_targetOf_24 (by decide) rfl ?_
  refine V.imul (n := 27) d_Gm_targetOf_26 rfl ?_
  refine V.iload_n (n := 28) d_Gm_targetOf_27 rfl rfl ?_
  refine V.iadd (n := 29) d_Gm_targetOf_28 rfl ?_
  refine V.cVi (n := 32) d_Gm_targetOf_29 k_Gm_50 (c_Rw_get (by assumption) (by omega) (by omega)) rfl rfl (by decide) rfl ?_
  refine V.iret d_Gm_targetOf_32 ⟨_, rfl, rfl⟩ ?_
  exact hP _ _ ⟨rfl, rfl, rfl⟩
theorem c_Gm_targetOfN (hG : isGame G g) (h0 : 0 ≤ p) (h1 : p < 20) (h2 : inR r) (h3 : r < 0 ∨ μ (g + 10) p ≤ r) (h4 : inR (μ (g + 10) p)) : KV E l 1 m_Gm_targetOf g [rI p, rI r] G μ 0 0 (dq (some (rI (-5))) G μ) := by
  obtain ⟨a0, a1, a2, a3, a4, a5, a6⟩ := hG
  refine ⟨KC.ofP q_Gm_targetOf.1 rfl (Nat.le_of_ble_eq_true rfl) rfl (fun Post NT ST hP => ?_), ⟨_, _, _, a0, rfl, rfl⟩, q_Gm_targetOf, by decide⟩
  refine V.iload_n (n := 1) d_Gm_targetOf_0 rfl rfl ?_
  refine V.if_lt (n2 := 16) (n := 4) d_Gm_targetOf_1 (by omega) (by decide) rfl (fun h => ?_) (fun h => ?_)
  · refine V.bipush (n := 18) d_Gm_targetOf_16 (by decide) rfl ?_
    refine V.iret d_Gm_targetOf_18 ⟨_, rfl, rfl⟩ ?_
    exact hP _ _ ⟨rfl, rfl, rfl⟩
  · refine V.iload_n (n := 5) d_Gm_targetOf_4 rfl rfl ?_
    refine V.aload_n (n := 6) d_Gm_targetOf_5 rfl rfl ?_
    refine V.getA (n := 9) d_Gm_targetOf_6 f_Gm_29 (by assumption) rfl rfl ?_
    refine V.iload_n (n := 10) d_Gm_targetOf_9 rfl rfl ?_
    refine V.cVi (n := 13) d_Gm_targetOf_10 k_Gm_50 (c_Rw_get (by assumption) (by omega) (by omega)) rfl rfl (by decide) rfl ?_
    refine V.icmp_ltF (n := 16) d_Gm_targetOf_13 (by omega) (by omega) (by omega) rfl ⟨19, by decide⟩ ?_
    refine V.bipush (n := 18) d_Gm_targetOf_16 (by decide) rfl ?_
    refine V.iret d_Gm_targetOf_18 ⟨_, rfl, rfl⟩ ?_
    exact hP _ _ ⟨rfl, rfl, rfl⟩
theorem c_Gm_rankOf (hG : isGame G g) (h0 : 0 ≤ p) (h1 : p < 20) (hto : inR to) (h4 : 0 ≤ μ (g + 10) p) (h5 : μ (g + 10) p ≤ 20) (hin : ∀ r : Int, 0 ≤ r → r < μ (g + 10) p → inR (μ (g + 12) (p * 20 + r))) : KV E l 2 m_Gm_rankOf g [rI p, rI to] G μ 0 0 (dqi (fun z μ' => μ' = μ ∧ ((0 ≤ z ∧ z < μ (g + 10) p ∧ μ (g + 12) (p * 20 + z) = to ∧ ∀ r, 0 ≤ r → r < z → ¬ μ (g + 12) (p * 20 + r) = to) ∨ (z = -5 ∧ ∀ r, 0 ≤ r → r < μ (g + 10) p → ¬ μ (g + 12) (p * 20 + r) = to))) G) := by
  have hG0 := hG
  obtain ⟨a0, a1, a2, a3, a4, a5, a6⟩ := hG
  refine ⟨KC.ofP q_Gm_rankOf.1 rfl (Nat.le_of_ble_eq_true rfl) rfl (fun Post NT ST hP => ?_), ⟨_, _, _, a0, rfl, rfl⟩, q_Gm_rankOf, by decide⟩
  refine V.aload_n (n := 1) d_Gm_rankOf_0 rfl rfl ?_
  refine V.getA (n := 4) d_Gm_rankOf_1 f_Gm_29 (by assumption) rfl rfl ?_
  refine V.iload_n (n := 5) d_Gm_rankOf_4 rfl rfl ?_
  refine V.cVi (n := 8) d_Gm_rankOf_5 k_Gm_50 (c_Rw_get (by assumption) (by omega) (by omega)) rfl rfl (by decide) rfl ?_
  refine V.istore_n (n := 9) d_Gm_rankOf_8 (by decide) rfl ?_
  refine V.iconst (n := 10) d_Gm_rankOf_9 rfl ?_
  refine V.istore (n := 12) d_Gm_rankOf_10 (by decide) rfl ?_
  have loop : ∀ (k : Nat) (i : Int), i + k = μ (g + 10) p → 0 ≤ i → (∀ r, 0 ≤ r → r < i → ¬ μ (g + 12) (p * 20 + r) = to) → V E l m_Gm_rankOf none 2 NT ST Post 12 [(4, rI i), (3, rI (μ (g + 10) p)), (2, rI to), (1, rI p), (0, rA E g)] [] G μ := by
    intro k
    induction k with
    | zero =>
      intro i hk hi hno
      refine V.iload (n := 14) d_Gm_rankOf_12 rfl rfl ?_
      refine V.iload_n (n := 15) d_Gm_rankOf_14 rfl rfl ?_
      refine V.icmp_geT (n2 := 38) d_Gm_rankOf_15 (by omega) (by omega) (by omega) (by decide) ?_
      refine V.bipush (n := 40) d_Gm_rankOf_38 (by decide) rfl ?_
      refine V.iret d_Gm_rankOf_40 ⟨_, rfl, rfl⟩ ?_
      exact hP _ _ ⟨_, rfl, rfl, rfl, Or.inr ⟨rfl, fun r q1 q2 => hno r q1 (by omega)⟩⟩
    | succ k ih =>
      intro i hk hi hno
      have hri := hin i hi (by omega)
      refine V.iload (n := 14) d_Gm_rankOf_12 rfl rfl ?_
      refine V.iload_n (n := 15) d_Gm_rankOf_14 rfl rfl ?_
      refine V.icmp_geF (n := 18) d_Gm_rankOf_15 (by omega) (by omega) (by omega) rfl ⟨38, by decide⟩ ?_
      refine V.aload_n (n := 19) d_Gm_rankOf_18 rfl rfl ?_
      refine V.iload_n (n := 20) d_Gm_rankOf_19 rfl rfl ?_
      refine V.iload (n := 22) d_Gm_rankOf_20 rfl rfl ?_
      refine V.cVi (n := 25) d_Gm_rankOf_22 k_Gm_54 (c_Gm_targetOf (by assumption) (by omega) (by omega) (by omega) (by omega) (by omega)) rfl rfl (by decide) rfl ?_
      refine V.iload_n (n := 26) d_Gm_rankOf_25 rfl rfl ?_
      refine V.icmp_ne (n2 := 32) (n := 29) d_Gm_rankOf_26 (by omega) (by omega) (by decide) rfl (fun h => ?_) (fun h => ?_)
      · refine V.iinc (n := 35) d_Gm_rankOf_32 rfl (by decide) rfl ?_
        refine V.goto (n := 12) d_Gm_rankOf_35 (by decide) ?_
        refine V.loc (lo' := [(4, rI (i + 1)), (3, rI (μ (g + 10) p)), (2, rI to), (1, rI p), (0, rA E g)]) ⟨rfl, rfl, rfl, rfl, rfl, trivial⟩ ?_
        refine ih (i + 1) (by omega) (by omega) (fun r q1 q2 => ?_)
        by_cases hr : r = i
        · subst hr; exact h
        · exact hno r q1 (by omega)
      · refine V.iload (n := 31) d_Gm_rankOf_29 rfl rfl ?_
        refine V.iret d_Gm_rankOf_31 ⟨_, rfl, rfl⟩ ?_
        exact hP _ _ ⟨_, rfl, rfl, rfl, Or.inl ⟨hi, by omega, h, hno⟩⟩
  refine V.loc (lo' := [(4, rI 0), (3, rI (μ (g + 10) p)), (2, rI to), (1, rI p), (0, rA E g)]) ⟨rfl, rfl, rfl, rfl, rfl, trivial⟩ ?_
  exact loop (μ (g + 10) p).toNat 0 (by omega) (by omega) (fun r q1 q2 => by omega)
theorem c_Gm_append (hG : isGame G g) (h0 : 0 ≤ p) (h1 : p < 20) (h4 : 0 ≤ μ (g + 10) p) (h5 : μ (g + 10) p < 20) : KV E l 1 m_Gm_append g [rI p, rI to] G μ 0 0 (dq none G (wr (wr (wr μ (g + 12) (p * 20 + μ (g + 10) p) to) (g + 10) p (μ (g + 10) p + 1)) g 6 (μ g 6 + 1))) := by
  obtain ⟨a0, a1, a2, a3, a4, a5, a6⟩ := hG
  refine ⟨KC.ofP q_Gm_append.1 rfl (Nat.le_of_ble_eq_true rfl) rfl (fun Post NT ST hP => ?_), ⟨_, _, _, a0, rfl, rfl⟩, q_Gm_append, by decide⟩
  refine V.aload_n (n := 1) d_Gm_append_0 rfl rfl ?_
  refine V.getA (n := 4) d_Gm_append_1 f_Gm_29 (by assumption) rfl rfl ?_
  refine V.iload_n (n := 5) d_Gm_append_4 rfl rfl ?_
  refine V.cVi (n := 8) d_Gm_append_5 k_Gm_50 (c_Rw_get (by assumption) (by omega) (by omega)) rfl rfl (by decide) rfl ?_
  refine V.istore_n (n := 9) d_Gm_append_8 (by decide) rfl ?_
  refine V.aload_n (n := 10) d_Gm_append_9 rfl rfl ?_
  refine V.getA (n := 13) d_Gm_append_10 f_Gm_32 (by assumption) rfl rfl ?_
  refine V.iload_n (n := 14) d_Gm_append_13 rfl rfl ?_
  refine V.bipush (n := 16) d_Gm_append_14 (by decide) rfl ?_
  refine V.imul (n := 17) d_Gm_append_16 rfl ?_
  refine V.iload_n (n := 18) d_Gm_append_17 rfl rfl ?_
  refine V.iadd (n := 19) d_Gm_append_18 rfl ?_
  refine V.iload_n (n := 20) d_Gm_append_19 rfl rfl ?_
  refine V.cVv (n := 23) d_Gm_append_20 k_Gm_58 (c_Rw_set (by assumption) (by omega) (by omega)) rfl rfl (by decide) rfl ?_
  refine V.aload_n (n := 24) d_Gm_append_23 rfl rfl ?_
  refine V.getA (n := 27) d_Gm_append_24 f_Gm_29 (by assumption) rfl rfl ?_
  refine V.iload_n (n := 28) d_Gm_append_27 rfl rfl ?_
  refine V.iload_n (n := 29) d_Gm_append_28 rfl rfl ?_
  refine V.iconst (n := 30) d_Gm_append_29 rfl ?_
  refine V.iadd (n := 31) d_Gm_append_30 rfl ?_
  refine V.cVv (n := 34) d_Gm_append_31 k_Gm_58 (c_Rw_set (by assumption) (by omega) (by omega)) rfl rfl (by decide) rfl ?_
  refine V.aload_n (n := 35) d_Gm_append_34 rfl rfl ?_
  refine V.dup (n := 36) d_Gm_append_35 rfl rfl ?_
  refine V.getI (n := 39) d_Gm_append_36 f_Gm_46 (by assumption) rfl rfl ?_
  refine V.iconst (n := 40) d_Gm_append_39 rfl ?_
  refine V.iadd (n := 41) d_Gm_append_40 rfl ?_
  refine V.putI (n := 44) d_Gm_append_41 f_Gm_46 t_Gm_moves ⟨rfl, rfl⟩ (by assumption) rfl rfl ?_
  rw [show wr (wr μ (g + 12) (p * 20 + μ (g + 10) p) to) (g + 10) p (μ (g + 10) p + 1) g = μ g by rw [wr_a (by omega), wr_a (by omega)]]
  refine V.vret d_Gm_append_44 rfl ?_
  exact hP _ _ ⟨rfl, rfl, rfl⟩
/-- two games lie apart -/
theorem c_Gm_copyAllButGuesses (hG : isGame G g) (hH : isGame G h) (hd : g + 12 < h ∨ h + 12 < g) : KV E l 2 m_Gm_copyAllButGuesses g [rA E h] G μ 0 0 (dqv (fun μ' => (∀ b, ¬ b = g → ¬ b = g + 2 → ¬ b = g + 4 → ¬ b = g + 10 → ¬ b = g + 12 → μ' b = μ b) ∧ (∀ j : Int, 0 ≤ j → j < 20 → μ' (g + 2) j = μ (h + 2) j ∧ μ' (g + 4) j = μ (h + 4) j ∧ μ' (g + 10) j = μ (h + 10) j) ∧ (∀ j : Int, 0 ≤ j → j < 400 → μ' (g + 12) j = μ (h + 12) j) ∧ μ' g 6 = μ h 6) G) := by
  obtain ⟨a0, a1, a2, a3, a4, a5, a6⟩ := hG
  obtain ⟨b0, b1, b2, b3, b4, b5, b6⟩ := hH
  refine ⟨KC.ofP q_Gm_copyAllButGuesses.1 rfl (Nat.le_of_ble_eq_true rfl) rfl (fun Post NT ST hP => ?_), ⟨_, _, _, a0, rfl, rfl⟩, q_Gm_copyAllButGuesses, by decide⟩
  refine V.aload_n (n := 1) d_Gm_copyAllButGuesses_0 rfl rfl ?_
  refine V.getA (n := 4) d_Gm_copyAllButGuesses_1 f_Gm_14 (by assumption) rfl rfl ?_
  refine V.aload_n (n := 5) d_Gm_copyAllButGuesses_4 rfl rfl ?_
  refine V.getA (n := 8) d_Gm_copyAllButGuesses_5 f_Gm_14 (by assumption) rfl rfl ?_
  refine V.cVv (n := 11) d_Gm_copyAllButGuesses_8 k_Gm_42 (c_Rw_copyFrom (by assumption) (by assumption)) rfl rfl (by decide) rfl ?_
  refine V.aload_n (n := 12) d_Gm_copyAllButGuesses_11 rfl rfl ?_
  refine V.getA (n := 15) d_Gm_copyAllButGuesses_12 f_Gm_20 (by assumption) rfl rfl ?_
  refine V.aload_n (n := 16) d_Gm_copyAllButGuesses_15 rfl rfl ?_
  refine V.getA (n := 19) d_Gm_copyAllButGuesses_16 f_Gm_20 (by assumption) rfl rfl ?_
  refine V.cVv (n := 22) d_Gm_copyAllButGuesses_19 k_Gm_42 (c_Rw_copyFrom (by assumption) (by assumption)) rfl rfl (by decide) rfl ?_
  refine V.aload_n (n := 23) d_Gm_copyAllButGuesses_22 rfl rfl ?_
  refine V.getA (n := 26) d_Gm_copyAllButGuesses_23 f_Gm_29 (by assumption) rfl rfl ?_
  refine V.aload_n (n := 27) d_Gm_copyAllButGuesses_26 rfl rfl ?_
  refine V.getA (n := 30) d_Gm_copyAllButGuesses_27 f_Gm_29 (by assumption) rfl rfl ?_
  refine V.cVv (n := 33) d_Gm_copyAllButGuesses_30 k_Gm_42 (c_Rw_copyFrom (by assumption) (by assumption)) rfl rfl (by decide) rfl ?_
  refine V.aload_n (n := 34) d_Gm_copyAllButGuesses_33 rfl rfl ?_
  refine V.getA (n := 37) d_Gm_copyAllButGuesses_34 f_Gm_32 (by assumption) rfl rfl ?_
  refine V.aload_n (n := 38) d_Gm_copyAllButGuesses_37 rfl rfl ?_
  refine V.getA (n := 41) d_Gm_copyAllButGuesses_38 f_Gm_32 (by assumption) rfl rfl ?_
  refine V.cVv (n := 44) d_Gm_copyAllButGuesses_41 k_Gm_42 (c_Rw_copyFrom (by assumption) (by assumption)) rfl rfl (by decide) rfl ?_
  refine V.aload_n (n := 45) d_Gm_copyAllButGuesses_44 rfl rfl ?_
  refine V.aload_n (n := 46) d_Gm_copyAllButGuesses_45 rfl rfl ?_
  refine V.getI (n := 49) d_Gm_copyAllButGuesses_46 f_Gm_46 (by assumption) rfl rfl ?_
  refine V.putI (n := 52) d_Gm_copyAllButGuesses_49 f_Gm_46 t_Gm_moves ⟨rfl, rfl⟩ (by assumption) rfl rfl ?_
  refine V.vret d_Gm_copyAllButGuesses_52 rfl ?_
  refine hP _ _ ⟨rfl, rfl, ?_⟩
  have e1 : ∀ x y : Nat, ¬ x = y → ∀ (μ : MU) (f : Int → Int), wrC μ y f x = μ x := fun x y hxy μ f => by simp [wrC, hxy]
  have e2 : ∀ (x : Nat) (μ : MU) (f : Int → Int), wrC μ x f x = f := fun x μ f => by simp [wrC]
  refine ⟨fun b c1 c2 c3 c4 c5 => ?_, fun j j0 j1 => ⟨?_, ?_, ?_⟩, fun j j0 j1 => ?_, ?_⟩
  · rw [wr_a c1, e1 _ _ c5, e1 _ _ c4, e1 _ _ c3, e1 _ _ c2]
  · rw [wr_a (by omega), e1 _ _ (by omega), e1 _ _ (by omega), e1 _ _ (by omega), e2]
    exact if_pos ⟨j0, j1⟩
  · rw [wr_a (by omega), e1 _ _ (by omega), e1 _ _ (by omega), e2, if_pos ⟨j0, j1⟩, e1 _ _ (by omega)]
  · rw [wr_a (by omega), e1 _ _ (by omega), e2, if_pos ⟨j0, j1⟩, e1 _ _ (by omega), e1 _ _ (by omega)]
  · rw [wr_a (by omega), e2, if_pos ⟨j0, j1⟩, e1 _ _ (by omega), e1 _ _ (by omega), e1 _ _ (by omega)]
  · rw [wr_s, e1 _ _ (by omega), e1 _ _ (by omega), e1 _ _ (by omega), e1 _ _ (by omega)]
theorem c_Gm_copyFrom (hG : isGame G g) (hH : isGame G h) (hd : g + 12 < h ∨ h + 12 < g) : KV E l 3 m_Gm_copyFrom g [rA E h] G μ 0 0 (dqv (fun μ' => (∀ b, b < g ∨ g + 12 < b → μ' b = μ b) ∧ (∀ j : Int, 0 ≤ j → j < 20 → μ' (g + 2) j = μ (h + 2) j ∧ μ' (g + 4) j = μ (h + 4) j ∧ μ' (g + 6) j = μ (h + 6) j ∧ μ' (g + 8) j = μ (h + 8) j ∧ μ' (g + 10) j = μ (h + 10) j) ∧ (∀ j : Int, 0 ≤ j → j < 400 → μ' (g + 12) j = μ (h + 12) j) ∧ μ' g 6 = μ h 6) G) := by
  have hG0 := hG
  have hH0 := hH
  obtain ⟨a0, a1, a2, a3, a4, a5, a6⟩ := hG
  obtain ⟨b0, b1, b2, b3, b4, b5, b6⟩ := hH
  refine ⟨KC.ofP q_Gm_copyFrom.1 rfl (Nat.le_of_ble_eq_true rfl) rfl (fun Post NT ST hP => ?_), ⟨_, _, _, a0, rfl, rfl⟩, q_Gm_copyFrom, by decide⟩
  refine V.aload_n (n := 1) d_Gm_copyFrom_0 rfl rfl ?_
  refine V.aload_n (n := 2) d_Gm_copyFrom_1 rfl rfl ?_
  refine V.cVqv (n := 5) d_Gm_copyFrom_2 k_Gm_38 (c_Gm_copyAllButGuesses hG0 hH0 hd) rfl rfl (by decide) rfl (fun μ' hq => ?_)
  obtain ⟨m1, m2, m3, m4⟩ := hq
  refine V.aload_n (n := 6) d_Gm_copyFrom_5 rfl rfl ?_
  refine V.getA (n := 9) d_Gm_copyFrom_6 f_Gm_23 (by assumption) rfl rfl ?_
  refine V.aload_n (n := 10) d_Gm_copyFrom_9 rfl rfl ?_
  refine V.getA (n := 13) d_Gm_copyFrom_10 f_Gm_23 (by assumption) rfl rfl ?_
  refine V.cVv (n := 16) d_Gm_copyFrom_13 k_Gm_42 (c_Rw_copyFrom (by assumption) (by assumption)) rfl rfl (by decide) rfl ?_
  refine V.aload_n (n := 17) d_Gm_copyFrom_16 rfl rfl ?_
  refine V.getA (n := 20) d_Gm_copyFrom_17 f_Gm_26 (by assumption) rfl rfl ?_
  refine V.aload_n (n := 21) d_Gm_copyFrom_20 rfl rfl ?_
  refine V.getA (n := 24) d_Gm_copyFrom_21 f_Gm_26 (by assumption) rfl rfl ?_
  refine V.cVv (n := 27) d_Gm_copyFrom_24 k_Gm_42 (c_Rw_copyFrom (by assumption) (by assumption)) rfl rfl (by decide) rfl ?_
  refine V.vret d_Gm_copyFrom_27 rfl ?_
  refine hP _ _ ⟨rfl, rfl, ?_⟩
  have e1 : ∀ x y : Nat, ¬ x = y → ∀ (μ : MU) (f : Int → Int), wrC μ y f x = μ x := fun x y hxy μ f => by simp [wrC, hxy]
  have e2 : ∀ (x : Nat) (μ : MU) (f : Int → Int), wrC μ x f x = f := fun x μ f => by simp [wrC]
  refine ⟨fun b c1 => ?_, fun j j0 j1 => ⟨?_, ?_, ?_, ?_, ?_⟩, fun j j0 j1 => ?_, ?_⟩
  · rw [e1 _ _ (by omega), e1 _ _ (by omega), m1 b (by omega) (by omega) (by omega) (by omega) (by omega)]
  · rw [e1 _ _ (by omega), e1 _ _ (by omega)]
    exact (m2 j j0 j1).1
  · rw [e1 _ _ (by omega), e1 _ _ (by omega)]
    exact (m2 j j0 j1).2.1
  · rw [e1 _ _ (by omega), e2, if_pos ⟨j0, j1⟩, m1 (h + 6) (by omega) (by omega) (by omega) (by omega) (by omega)]
  · rw [e2, if_pos ⟨j0, j1⟩, e1 _ _ (by omega), m1 (h + 8) (by omega) (by omega) (by omega) (by omega) (by omega)]
  · rw [e1 _ _ (by omega), e1 _ _ (by omega)]
    exact (m2 j j0 j1).2.2
  · rw [e1 _ _ (by omega), e1 _ _ (by omega)]
    exact m3 j j0 j1
  · rw [e1 _ _ (by omega), e1 _ _ (by omega)]
    exact m4
theorem c_Gm_removeAt (hG : isGame G g) (h0 : 0 ≤ p) (h1 : p < 20) (h2 : 0 ≤ r) (h3 : r < μ (g + 10) p) (h4 : μ (g + 10) p ≤ 20) : KV E l 2 m_Gm_removeAt g [rI p, rI r] G μ 0 0 (dqv (fun μ' => (∀ b, ¬ b = g → ¬ b = g + 10 → ¬ b = g + 12 → μ' b = μ b) ∧ (∀ j : Int, μ' (g + 10) j = if j = p then μ (g + 10) p - 1 else μ (g + 10) j) ∧ (∀ j : Int, μ' (g + 12) j = if p * 20 + r ≤ j ∧ j < p * 20 + μ (g + 10) p - 1 then μ (g + 12) (j + 1) else μ (g + 12) j) ∧ μ' g = fun j => if j = 6 then μ g 6 - 1 else μ g j) G) := by
  have hG0 := hG
  obtain ⟨a0, a1, a2, a3, a4, a5, a6⟩ := hG
  refine ⟨KC.ofP q_Gm_removeAt.1 rfl (Nat.le_of_ble_eq_true rfl) rfl (fun Post NT ST hP => ?_), ⟨_, _, _, a0, rfl, rfl⟩, q_Gm_removeAt, by decide⟩
  refine V.aload_n (n := 1) d_Gm_removeAt_0 rfl rfl ?_
  refine V.getA (n := 4) d_Gm_removeAt_1 f_Gm_29 (by assumption) rfl rfl ?_
  refine V.iload_n (n := 5) d_Gm_removeAt_4 rfl rfl ?_
  refine V.cVi (n := 8) d_Gm_removeAt_5 k_Gm_50 (c_Rw_get (by assumption) (by omega) (by omega)) rfl rfl (by decide) rfl ?_
  refine V.iconst (n := 9) d_Gm_removeAt_8 rfl ?_
  refine V.isub (n := 10) d_Gm_removeAt_9 rfl ?_
  refine V.istore_n (n := 11) d_Gm_removeAt_10 (by decide) rfl ?_
  refine V.iload_n (n := 12) d_Gm_removeAt_11 rfl rfl ?_
  refine V.istore (n := 14) d_Gm_removeAt_12 (by decide) rfl ?_
  have loop : ∀ (k : Nat) (i : Int) (μ' : MU), i + k = μ (g + 10) p - 1 → r ≤ i → (∀ b, ¬ b = g + 12 → μ' b = μ b) → (∀ j : Int, μ' (g + 12) j = if p * 20 + r ≤ j ∧ j < p * 20 + i then μ (g + 12) (j + 1) else μ (g + 12) j) → V E l m_Gm_removeAt none 2 NT ST Post 14 [(4, rI i), (3, rI (μ (g + 10) p - 1)), (2, rI r), (1, rI p), (0, rA E g)] [] G μ' := by
    intro k
    induction k with
    | zero =>
      intro i μ' hk hi m1 m2
      have hc : μ' (g + 10) p = μ (g + 10) p := by rw [m1 _ (by omega)]
      refine V.iload (n := 16) d_Gm_removeAt_14 rfl rfl ?_
      refine V.iload_n (n := 17) d_Gm_removeAt_16 rfl rfl ?_
      refine V.icmp_geT (n2 := 49) d_Gm_removeAt_17 (by omega) (by omega) (by omega) (by decide) ?_
      refine V.aload_n (n := 50) d_Gm_removeAt_49 rfl rfl ?_
      refine V.getA (n := 53) d_Gm_removeAt_50 f_Gm_29 (by assumption) rfl rfl ?_
      refine V.iload_n (n := 54) d_Gm_removeAt_53 rfl rfl ?_
      refine V.iload_n (n := 55) d_Gm_removeAt_54 rfl rfl ?_
      refine V.cVv (n := 58) d_Gm_removeAt_55 k_Gm_58 (c_Rw_set (by assumption) (by omega) (by omega)) rfl rfl (by decide) rfl ?_
      refine V.aload_n (n := 59) d_Gm_removeAt_58 rfl rfl ?_
      refine V.dup (n := 60) d_Gm_removeAt_59 rfl rfl ?_
      refine V.getI (n := 63) d_Gm_removeAt_60 f_Gm_46 (by assumption) rfl rfl ?_
      refine V.iconst (n := 64) d_Gm_removeAt_63 rfl ?_
      refine V.isub (n := 65) d_Gm_removeAt_64 rfl ?_
      refine V.putI (n := 68) d_Gm_removeAt_65 f_Gm_46 t_Gm_moves ⟨rfl, rfl⟩ (by assumption) rfl rfl ?_
      rw [wr_a (show ¬ g = g + 10 by omega), m1 g (by omega)]
      refine V.vret d_Gm_removeAt_68 rfl ?_
      refine hP _ _ ⟨rfl, rfl, fun b c1 c2 c3 => ?_, fun j => ?_, fun j => ?_, ?_⟩
      · rw [wr_a c1, wr_a c2, m1 b c3]
      · rw [wr_a (by omega), wr_eq, m1 _ (by omega)]
      · rw [wr_a (by omega), wr_a (by omega), m2 j, show p * 20 + i = p * 20 + μ (g + 10) p - 1 by omega]
      · rw [wr_eq, wr_a (by omega), m1 g (by omega)]
    | succ k ih =>
      intro i μ' hk hi m1 m2
      have hc : μ' (g + 10) p = μ (g + 10) p := by rw [m1 _ (by omega)]
      refine V.iload (n := 16) d_Gm_removeAt_14 rfl rfl ?_
      refine V.iload_n (n := 17) d_Gm_removeAt_16 rfl rfl ?_
      refine V.icmp_geF (n := 20) d_Gm_removeAt_17 (by omega) (by omega) (by omega) rfl ⟨49, by decide⟩ ?_
      refine V.aload_n (n := 21) d_Gm_removeAt_20 rfl rfl ?_
      refine V.getA (n := 24) d_Gm_removeAt_21 f_Gm_32 (by assumption) rfl rfl ?_
      refine V.iload_n (n := 25) d_Gm_removeAt_24 rfl rfl ?_
      refine V.bipush (n := 27) d_Gm_removeAt_25 (by decide) rfl ?_
      refine V.imul (n := 28) d_Gm_removeAt_27 rfl ?_
      refine V.iload (n := 30) d_Gm_removeAt_28 rfl rfl ?_
      refine V.iadd (n := 31) d_Gm_removeAt_30 rfl ?_
      refine V.aload_n (n := 32) d_Gm_removeAt_31 rfl rfl ?_
      refine V.iload_n (n := 33) d_Gm_removeAt_32 rfl rfl ?_
      refine V.iload (n := 35) d_Gm_removeAt_33 rfl rfl ?_
      refine V.iconst (n := 36) d_Gm_removeAt_35 rfl ?_
      refine V.iadd (n := 37) d_Gm_removeAt_36 rfl ?_
      refine V.cVi (n := 40) d_Gm_removeAt_37 k_Gm_54 (c_Gm_targetOf (by assumption) (by omega) (by omega) (by omega) (by omega) (by omega)) rfl rfl (by decide) rfl ?_
      refine V.cVv (n := 43) d_Gm_removeAt_40 k_Gm_58 (c_Rw_set (by assumption) (by omega) (by omega)) rfl rfl (by decide) rfl ?_
      refine V.iinc (n := 46) d_Gm_removeAt_43 rfl (by decide) rfl ?_
      refine V.goto (n := 14) d_Gm_removeAt_46 (by decide) ?_
      refine V.loc (lo' := [(4, rI (i + 1)), (3, rI (μ (g + 10) p - 1)), (2, rI r), (1, rI p), (0, rA E g)]) ⟨rfl, rfl, rfl, rfl, rfl, trivial⟩ ?_
      refine ih (i + 1) _ (by omega) (by omega) (fun b hb => by rw [wr_a hb, m1 b hb]) (fun j => ?_)
      rw [wr_v]
      by_cases hj : j = p * 20 + i
      · rw [if_pos hj, if_pos (by omega), m2, if_neg (by omega), hj, show p * 20 + (i + 1) = p * 20 + i + 1 by omega]
      · rw [if_neg hj, m2]
        by_cases hb : p * 20 + r ≤ j ∧ j < p * 20 + i
        · rw [if_pos hb, if_pos (by omega)]
        · rw [if_neg hb, if_neg (by omega)]
  refine V.loc (lo' := [(4, rI r), (3, rI (μ (g + 10) p - 1)), (2, rI r), (1, rI p), (0, rA E g)]) ⟨rfl, rfl, rfl, rfl, rfl, trivial⟩ ?_
  exact loop (μ (g + 10) p - 1 - r).toNat r μ (by omega) (by omega) (fun _ _ => rfl) (fun j => by rw [if_neg (by omega)])
end CGM
end
section
/-! THE CLASS: trees, what is read -/
/-- a tree at t over the game at g -/
def isTree (G : GG) (t g : Nat) : Prop :=
  obj G t (.inl (8, [some (some g), some (some (t + 1)), some (some (t + 3)), some (some (t + 5)), some (some (t + 7)), some (some (t + 9)), some (some (t + 11)), some (some (t + 13)), some (some (t + 15)), none])) ∧ isRow G (t + 1) (t + 2) 200 ∧ isRow G (t + 3) (t + 4) 200 ∧ isRow G (t + 5) (t + 6) 200 ∧ isRow G (t + 7) (t + 8) 200 ∧ isRow G (t + 9) (t + 10) 200 ∧ isRow G (t + 11) (t + 12) 200 ∧ isRow G (t + 13) (t + 14) 200 ∧ isRow G (t + 15) (t + 16) 200
/-- the first of k places from lo with the least of a column -/
def am (c : Int → Int) (lo : Int) : Nat → Int
  | 0 => lo
  | k + 1 => if c (lo + k) < c (am c lo k) then lo + k else am c lo k
theorem am_0 (c : Int → Int) (lo : Int) : am c lo 0 = lo := rfl
theorem am_1 (c : Int → Int) (lo : Int) : am c lo 1 = lo := by
  unfold am am
  simp
theorem am_in (c : Int → Int) (lo : Int) : ∀ k : Nat, lo ≤ am c lo k ∧ (am c lo k < lo + k ∨ am c lo k = lo)
  | 0 => ⟨Int.le_refl _, Or.inr rfl⟩
  | k + 1 => by
    have h := am_in c lo k
    unfold am
    split <;> omega
/-- the least of a column from lo on, and their sum, neither above 9999 -/
def mn (c : Int → Int) (lo : Int) : Nat → Int
  | 0 => 9999
  | k + 1 => min (mn c lo k) (c (lo + k))
def sm (c : Int → Int) (lo : Int) : Nat → Int
  | 0 => 0
  | k + 1 => min 9999 (sm c lo k + c (lo + k))
def oc (sz a b : Int) : Int := if sz = 0 then 0 else if a = 0 then 1 else if b = 0 then 2 else 0
section CTR
variable {E : EV} {l : Launch} {G : GG} {μ : MU} {g t : Nat} {n p a b : Int}
theorem c_Tr_isEmpty (hT : isTree G t g) (h0 : inR (μ t 9)) : KV E l 0 m_Tr_isEmpty t [] G μ 0 0 (dq (some (rI (bi (μ t 9 = 0)))) G μ) := by
  obtain ⟨t0, t1, t2, t3, t4, t5, t6, t7, t8⟩ := hT
  refine ⟨KC.ofP q_Tr_isEmpty.1 rfl (Nat.le_of_ble_eq_true rfl) rfl (fun Post NT ST hP => ?_), ⟨_, _, _, t0, rfl, rfl⟩, q_Tr_isEmpty, by decide⟩
  refine V.aload_n (n := 1) d_Tr_isEmpty_0 rfl rfl ?_
  refine V.getI (n := 4) d_Tr_isEmpty_1 f_Tr_49 (by assumption) rfl rfl ?_
  refine V.if_ne (n2 := 11) (n := 7) d_Tr_isEmpty_4 (by omega) (by decide) rfl (fun h => ?_) (fun h => ?_)
  · rw [bi_f h] at hP
    refine V.iconst (n := 12) d_Tr_isEmpty_11 rfl ?_
    refine V.iret d_Tr_isEmpty_12 ⟨_, rfl, rfl⟩ ?_
    exact hP _ _ ⟨rfl, rfl, rfl⟩
  · rw [bi_t h] at hP
    refine V.iconst (n := 8) d_Tr_isEmpty_7 rfl ?_
    refine V.goto (n := 12) d_Tr_isEmpty_8 (by decide) ?_
    refine V.iret d_Tr_isEmpty_12 ⟨_, rfl, rfl⟩ ?_
    exact hP _ _ ⟨rfl, rfl, rfl⟩
theorem c_Tr_has (hT : isTree G t g) (h0 : inR n) (h1 : inR (μ t 9)) : KV E l 0 m_Tr_has t [rI n] G μ 0 0 (dq (some (rI (bi (0 ≤ n ∧ n < μ t 9)))) G μ) := by
  obtain ⟨t0, t1, t2, t3, t4, t5, t6, t7, t8⟩ := hT
  refine ⟨KC.ofP q_Tr_has.1 rfl (Nat.le_of_ble_eq_true rfl) rfl (fun Post NT ST hP => ?_), ⟨_, _, _, t0, rfl, rfl⟩, q_Tr_has, by decide⟩
  refine V.iload_n (n := 1) d_Tr_has_0 rfl rfl ?_
  refine V.if_lt (n2 := 16) (n := 4) d_Tr_has_1 (by omega) (by decide) rfl (fun h => ?_) (fun h => ?_)
  · rw [bi_f (by omega)] at hP
    refine V.iconst (n := 17) d_Tr_has_16 rfl ?_
    refine V.iret d_Tr_has_17 ⟨_, rfl, rfl⟩ ?_
    exact hP _ _ ⟨rfl, rfl, rfl⟩
  · refine V.iload_n (n := 5) d_Tr_has_4 rfl rfl ?_
    refine V.aload_n (n := 6) d_Tr_has_5 rfl rfl ?_
    refine V.getI (n := 9) d_Tr_has_6 f_Tr_49 (by assumption) rfl rfl ?_
    refine V.icmp_ge (n2 := 16) (n := 12) d_Tr_has_9 (by omega) (by omega) (by decide) rfl (fun h2 => ?_) (fun h2 => ?_)
    · rw [bi_f (by omega)] at hP
      refine V.iconst (n := 17) d_Tr_has_16 rfl ?_
      refine V.iret d_Tr_has_17 ⟨_, rfl, rfl⟩ ?_
      exact hP _ _ ⟨rfl, rfl, rfl⟩
    · rw [bi_t (by omega)] at hP
      refine V.iconst (n := 13) d_Tr_has_12 rfl ?_
      refine V.goto (n := 17) d_Tr_has_13 (by decide) ?_
      refine V.iret d_Tr_has_17 ⟨_, rfl, rfl⟩ ?_
      exact hP _ _ ⟨rfl, rfl, rfl⟩
theorem c_Tr_isLeaf (hT : isTree G t g) (h0 : 0 ≤ n) (h1 : n < 200) (h2 : inR (μ (t + 12) n)) : KV E l 1 m_Tr_isLeaf t [rI n] G μ 0 0 (dq (some (rI (bi (μ (t + 12) n = 0)))) G μ) := by
  obtain ⟨t0, t1, t2, t3, t4, t5, t6, t7, t8⟩ := hT
  refine ⟨KC.ofP q_Tr_isLeaf.1 rfl (Nat.le_of_ble_eq_true rfl) rfl (fun Post NT ST hP => ?_), ⟨_, _, _, t0, rfl, rfl⟩, q_Tr_isLeaf, by decide⟩
  refine V.aload_n (n := 1) d_Tr_isLeaf_0 rfl rfl ?_
  refine V.getA (n := 4) d_Tr_isLeaf_1 f_Tr_32 (by assumption) rfl rfl ?_
  refine V.iload_n (n := 5) d_Tr_isLeaf_4 rfl rfl ?_
  refine V.cVi (n := 8) d_Tr_isLeaf_5 k_Tr_53 (c_Rw_get (by assumption) (by omega) (by omega)) rfl rfl (by decide) rfl ?_
  refine V.if_ne (n2 := 15) (n := 11) d_Tr_isLeaf_8 (by omega) (by decide) rfl (fun h => ?_) (fun h => ?_)
  · rw [bi_f h] at hP
    refine V.iconst (n := 16) d_Tr_isLeaf_15 rfl ?_
    refine V.iret d_Tr_isLeaf_16 ⟨_, rfl, rfl⟩ ?_
    exact hP _ _ ⟨rfl, rfl, rfl⟩
  · rw [bi_t h] at hP
    refine V.iconst (n := 12) d_Tr_isLeaf_11 rfl ?_
    refine V.goto (n := 16) d_Tr_isLeaf_12 (by decide) ?_
    refine V.iret d_Tr_isLeaf_16 ⟨_, rfl, rfl⟩ ?_
    exact hP _ _ ⟨rfl, rfl, rfl⟩
theorem c_Tr_endOfChildren (hT : isTree G t g) (h0 : 0 ≤ n) (h1 : n < 200) : KV E l 1 m_Tr_endOfChildren t [rI n] G μ 0 0 (dq (some (rI (μ (t + 14) n + μ (t + 12) n))) G μ) := by
  obtain ⟨t0, t1, t2, t3, t4, t5, t6, t7, t8⟩ := hT
  refine ⟨KC.ofP q_Tr_endOfChildren.1 rfl (Nat.le_of_ble_eq_true rfl) rfl (fun Post NT ST hP => ?_), ⟨_, _, _, t0, rfl, rfl⟩, q_Tr_endOfChildren, by decide⟩
  refine V.aload_n (n := 1) d_Tr_endOfChildren_0 rfl rfl ?_
  refine V.getA (n := 4) d_Tr_endOfChildren_1 f_Tr_35 (by assumption) rfl rfl ?_
  refine V.iload_n (n := 5) d_Tr_endOfChildren_4 rfl rfl ?_
  refine V.cVi (n := 8) d_Tr_endOfChildren_5 k_Tr_53 (c_Rw_get (by assumption) (by omega) (by omega)) rfl rfl (by decide) rfl ?_
  refine V.aload_n (n := 9) d_Tr_endOfChildren_8 rfl rfl ?_
  refine V.getA (n := 12) d_Tr_endOfChildren_9 f_Tr_32 (by assumption) rfl rfl ?_
  refine V.iload_n (n := 13) d_Tr_endOfChildren_12 rfl rfl ?_
  refine V.cVi (n := 16) d_Tr_endOfChildren_13 k_Tr_53 (c_Rw_get (by assumption) (by omega) (by omega)) rfl rfl (by decide) rfl ?_
  refine V.iadd (n := 17) d_Tr_endOfChildren_16 rfl ?_
  refine V.iret d_Tr_endOfChildren_17 ⟨_, rfl, rfl⟩ ?_
  exact hP _ _ ⟨rfl, rfl, rfl⟩
theorem c_Tr_turnAt (hT : isTree G t g) (hG : isGame G g) (h0 : 0 ≤ n) (h1 : n < 200) (h2 : 0 ≤ μ (t + 2) n) (h3 : μ (t + 2) n < 20) : KV E l 1 m_Tr_turnAt t [rI n] G μ 0 0 (dq (some (rI (μ (g + 2) (μ (t + 2) n)))) G μ) := by
  obtain ⟨t0, t1, t2, t3, t4, t5, t6, t7, t8⟩ := hT
  obtain ⟨a0, a1, a2, a3, a4, a5, a6⟩ := hG
  refine ⟨KC.ofP q_Tr_turnAt.1 rfl (Nat.le_of_ble_eq_true rfl) rfl (fun Post NT ST hP => ?_), ⟨_, _, _, t0, rfl, rfl⟩, q_Tr_turnAt, by decide⟩
  refine V.aload_n (n := 1) d_Tr_turnAt_0 rfl rfl ?_
  refine V.getA (n := 4) d_Tr_turnAt_1 f_Tr_41 (by assumption) rfl rfl ?_
  refine V.getA (n := 7) d_Tr_turnAt_4 f_Tr_57 (by assumption) rfl rfl ?_
  refine V.aload_n (n := 8) d_Tr_turnAt_7 rfl rfl ?_
  refine V.getA (n := 11) d_Tr_turnAt_8 f_Tr_14 (by assumption) rfl rfl ?_
  refine V.iload_n (n := 12) d_Tr_turnAt_11 rfl rfl ?_
  refine V.cVi (n := 15) d_Tr_turnAt_12 k_Tr_53 (c_Rw_get (by assumption) (by omega) (by omega)) rfl rfl (by decide) rfl ?_
  refine V.cVi (n := 18) d_Tr_turnAt_15 k_Tr_53 (c_Rw_get (by assumption) (by omega) (by omega)) rfl rfl (by decide) rfl ?_
  refine V.iret d_Tr_turnAt_18 ⟨_, rfl, rfl⟩ ?_
  exact hP _ _ ⟨rfl, rfl, rfl⟩
theorem c_Tr_outcome (hT : isTree G t g) (h0 : inR (μ t 9)) (h1 : inR (μ (t + 8) 0)) (h2 : inR (μ (t + 10) 0)) : KV E l 1 m_Tr_outcome t [] G μ 0 0 (dq (some (rI (oc (μ t 9) (μ (t + 8) 0) (μ (t + 10) 0)))) G μ) := by
  have hT0 := hT
  obtain ⟨t0, t1, t2, t3, t4, t5, t6, t7, t8⟩ := hT
  unfold oc
  refine ⟨KC.ofP q_Tr_outcome.1 rfl (Nat.le_of_ble_eq_true rfl) rfl (fun Post NT ST hP => ?_), ⟨_, _, _, t0, rfl, rfl⟩, q_Tr_outcome, by decide⟩
  refine V.aload_n (n := 1) d_Tr_outcome_0 rfl rfl ?_
  refine V.cVi (n := 4) d_Tr_outcome_1 k_Tr_62 (c_Tr_isEmpty (by assumption) (by omega)) rfl rfl (by decide) rfl ?_
  rcases bi_or (μ t 9 = 0) with ⟨hb, e⟩ | ⟨hb, e⟩ <;> rw [e]
  · rw [if_pos hb] at hP
    refine V.if_eqF (n := 7) d_Tr_outcome_4 (by omega) (by omega) rfl ⟨9, by decide⟩ ?_
    refine V.iconst (n := 8) d_Tr_outcome_7 rfl ?_
    refine V.iret d_Tr_outcome_8 ⟨_, rfl, rfl⟩ ?_
    exact hP _ _ ⟨rfl, rfl, rfl⟩
  · rw [if_neg hb] at hP
    refine V.if_eqT (n2 := 9) d_Tr_outcome_4 (by omega) (by omega) (by decide) ?_
    refine V.aload_n (n := 10) d_Tr_outcome_9 rfl rfl ?_
    refine V.getA (n := 13) d_Tr_outcome_10 f_Tr_26 (by assumption) rfl rfl ?_
    refine V.iconst (n := 14) d_Tr_outcome_13 rfl ?_
    refine V.cVi (n := 17) d_Tr_outcome_14 k_Tr_53 (c_Rw_get (by assumption) (by omega) (by omega)) rfl rfl (by decide) rfl ?_
    refine V.if_ne (n2 := 22) (n := 20) d_Tr_outcome_17 (by omega) (by decide) rfl (fun h3 => ?_) (fun h3 => ?_)
    · rw [if_neg h3] at hP
      refine V.aload_n (n := 23) d_Tr_outcome_22 rfl rfl ?_
      refine V.getA (n := 26) d_Tr_outcome_23 f_Tr_29 (by assumption) rfl rfl ?_
      refine V.iconst (n := 27) d_Tr_outcome_26 rfl ?_
      refine V.cVi (n := 30) d_Tr_outcome_27 k_Tr_53 (c_Rw_get (by assumption) (by omega) (by omega)) rfl rfl (by decide) rfl ?_
      refine V.if_ne (n2 := 37) (n := 33) d_Tr_outcome_30 (by omega) (by decide) rfl (fun h4 => ?_) (fun h4 => ?_)
      · rw [if_neg h4] at hP
        refine V.iconst (n := 38) d_Tr_outcome_37 rfl ?_
        refine V.iret d_Tr_outcome_38 ⟨_, rfl, rfl⟩ ?_
        exact hP _ _ ⟨rfl, rfl, rfl⟩
      · rw [if_pos h4] at hP
        refine V.iconst (n := 34) d_Tr_outcome_33 rfl ?_
        refine V.goto (n := 38) d_Tr_outcome_34 (by decide) ?_
        refine V.iret d_Tr_outcome_38 ⟨_, rfl, rfl⟩ ?_
        exact hP _ _ ⟨rfl, rfl, rfl⟩
    · rw [if_pos h3] at hP
      refine V.iconst (n := 21) d_Tr_outcome_20 rfl ?_
      refine V.iret d_Tr_outcome_21 ⟨_, rfl, rfl⟩ ?_
      exact hP _ _ ⟨rfl, rfl, rfl⟩
theorem c_Tr_clear (hT : isTree G t g) : KV E l 0 m_Tr_clear t [] G μ 0 0 (dq none G (wr μ t 9 0)) := by
  obtain ⟨t0, t1, t2, t3, t4, t5, t6, t7, t8⟩ := hT
  refine ⟨KC.ofP q_Tr_clear.1 rfl (Nat.le_of_ble_eq_true rfl) rfl (fun Post NT ST hP => ?_), ⟨_, _, _, t0, rfl, rfl⟩, q_Tr_clear, by decide⟩
  refine V.aload_n (n := 1) d_Tr_clear_0 rfl rfl ?_
  refine V.iconst (n := 2) d_Tr_clear_1 rfl ?_
  refine V.putI (n := 5) d_Tr_clear_2 f_Tr_49 t_Tr_size ⟨rfl, rfl⟩ (by assumption) rfl rfl ?_
  refine V.vret d_Tr_clear_5 rfl ?_
  exact hP _ _ ⟨rfl, rfl, rfl⟩
theorem c_Tr_setCosts (hT : isTree G t g) (h0 : 0 ≤ n) (h1 : n < 200) : KV E l 1 m_Tr_setCosts t [rI n, rI a, rI b] G μ 0 0 (dq none G (wr (wr μ (t + 8) n a) (t + 10) n b)) := by
  obtain ⟨t0, t1, t2, t3, t4, t5, t6, t7, t8⟩ := hT
  refine ⟨KC.ofP q_Tr_setCosts.1 rfl (Nat.le_of_ble_eq_true rfl) rfl (fun Post NT ST hP => ?_), ⟨_, _, _, t0, rfl, rfl⟩, q_Tr_setCosts, by decide⟩
  refine V.aload_n (n := 1) d_Tr_setCosts_0 rfl rfl ?_
  refine V.getA (n := 4) d_Tr_setCosts_1 f_Tr_26 (by assumption) rfl rfl ?_
  refine V.iload_n (n := 5) d_Tr_setCosts_4 rfl rfl ?_
  refine V.iload_n (n := 6) d_Tr_setCosts_5 rfl rfl ?_
  refine V.cVv (n := 9) d_Tr_setCosts_6 k_Tr_73 (c_Rw_set (by assumption) (by omega) (by omega)) rfl rfl (by decide) rfl ?_
  refine V.aload_n (n := 10) d_Tr_setCosts_9 rfl rfl ?_
  refine V.getA (n := 13) d_Tr_setCosts_10 f_Tr_29 (by assumption) rfl rfl ?_
  refine V.iload_n (n := 14) d_Tr_setCosts_13 rfl rfl ?_
  refine V.iload_n (n := 15) d_Tr_setCosts_14 rfl rfl ?_
  refine V.cVv (n := 18) d_Tr_setCosts_15 k_Tr_73 (c_Rw_set (by assumption) (by omega) (by omega)) rfl rfl (by decide) rfl ?_
  refine V.vret d_Tr_setCosts_18 rfl ?_
  exact hP _ _ ⟨rfl, rfl, rfl⟩
/-- is the position p that of a node on the way up from n -/
def ow (pos par : Int → Int) (p : Int) : Nat → Int → Bool
  | 0, _ => false
  | k + 1, n => decide (0 ≤ n) && (decide (pos n = p) || ow pos par p k (par n))
theorem ow_s (pos par : Int → Int) (p : Int) (k : Nat) (n : Int) : ow pos par p (k + 1) n = (decide (0 ≤ n) && (decide (pos n = p) || ow pos par p k (par n))) := rfl
theorem ow_neg {pos par : Int → Int} {p : Int} {n : Int} (h : n < 0) : ∀ k, ow pos par p k n = false
  | 0 => rfl
  | k + 1 => by
    unfold ow
    rw [decide_eq_false (by omega)]
    rfl
/-- parents are earlier nodes, -5 of the root -/
def okP (pos par : Int → Int) (sz : Int) : Prop := ∀ n, 0 ≤ n → n < sz → 0 ≤ pos n ∧ pos n < 20 ∧ (n = 0 → par n = -5) ∧ (0 < n → 0 ≤ par n ∧ par n < n)
theorem c_Tr_isOnWayTo (hT : isTree G t g) (h0 : 0 ≤ μ t 9) (h1 : μ t 9 ≤ 200) (hn : n = -5 ∨ (0 ≤ n ∧ n < μ t 9)) (hp : inR p) (hok : ∀ m, 0 ≤ m → m ≤ n → 0 ≤ μ (t + 2) m ∧ μ (t + 2) m < 20 ∧ (m = 0 → μ (t + 4) m = -5) ∧ (0 < m → 0 ≤ μ (t + 4) m ∧ μ (t + 4) m < m)) : KV E l 1 m_Tr_isOnWayTo t [rI n, rI p] G μ 0 0 (dq (some (rI (bi (ow (μ (t + 2)) (μ (t + 4)) p 200 n = true)))) G μ) := by
  have hT0 := hT
  obtain ⟨t0, t1, t2, t3, t4, t5, t6, t7, t8⟩ := hT
  refine ⟨KC.ofP q_Tr_isOnWayTo.1 rfl (Nat.le_of_ble_eq_true rfl) rfl (fun Post NT ST hP => ?_), ⟨_, _, _, t0, rfl, rfl⟩, q_Tr_isOnWayTo, by decide⟩
  refine V.iload_n (n := 1) d_Tr_isOnWayTo_0 rfl rfl ?_
  refine V.istore_n (n := 2) d_Tr_isOnWayTo_1 (by decide) rfl ?_
  refine V.iconst (n := 3) d_Tr_isOnWayTo_2 rfl ?_
  refine V.istore (n := 5) d_Tr_isOnWayTo_3 (by decide) rfl ?_
  have loop : ∀ (k : Nat) (i m : Int), i + k = 200 → 0 ≤ i → m ≤ n → (m = -5 ∨ (0 ≤ m ∧ m < k)) → ow (μ (t + 2)) (μ (t + 4)) p 200 n = ow (μ (t + 2)) (μ (t + 4)) p k m → V E l m_Tr_isOnWayTo none 1 NT ST Post 5 [(4, rI i), (3, rI m), (2, rI p), (1, rI n), (0, rA E t)] [] G μ := by
    intro k
    induction k with
    | zero =>
      intro i m hk hi hmn hm he
      rw [he, bi_f (by simp [ow])] at hP
      refine V.iload (n := 7) d_Tr_isOnWayTo_5 rfl rfl ?_
      refine V.sipush (n := 10) d_Tr_isOnWayTo_7 (by decide) rfl ?_
      refine V.icmp_geT (n2 := 50) d_Tr_isOnWayTo_10 (by omega) (by omega) (by omega) (by decide) ?_
      refine V.iconst (n := 51) d_Tr_isOnWayTo_50 rfl ?_
      refine V.iret d_Tr_isOnWayTo_51 ⟨_, rfl, rfl⟩ ?_
      exact hP _ _ ⟨rfl, rfl, rfl⟩
    | succ k ih =>
      intro i m hk hi hmn hm he
      refine V.iload (n := 7) d_Tr_isOnWayTo_5 rfl rfl ?_
      refine V.sipush (n := 10) d_Tr_isOnWayTo_7 (by decide) rfl ?_
      refine V.icmp_geF (n := 13) d_Tr_isOnWayTo_10 (by omega) (by omega) (by omega) rfl ⟨50, by decide⟩ ?_
      refine V.aload_n (n := 14) d_Tr_isOnWayTo_13 rfl rfl ?_
      refine V.iload_n (n := 15) d_Tr_isOnWayTo_14 rfl rfl ?_
      refine V.cVi (n := 18) d_Tr_isOnWayTo_15 k_Tr_76 (c_Tr_has (by assumption) (by omega) (by omega)) rfl rfl (by decide) rfl ?_
      rcases bi_or (0 ≤ m ∧ m < μ t 9) with ⟨hb, e⟩ | ⟨hb, e⟩ <;> rw [e]
      · have hm2 := hok m hb.1 hmn
        refine V.if_eqF (n := 21) d_Tr_isOnWayTo_18 (by omega) (by omega) rfl ⟨50, by decide⟩ ?_
        refine V.aload_n (n := 22) d_Tr_isOnWayTo_21 rfl rfl ?_
        refine V.getA (n := 25) d_Tr_isOnWayTo_22 f_Tr_14 (by assumption) rfl rfl ?_
        refine V.iload_n (n := 26) d_Tr_isOnWayTo_25 rfl rfl ?_
        refine V.cVi (n := 29) d_Tr_isOnWayTo_26 k_Tr_53 (c_Rw_get (by assumption) (by omega) (by omega)) rfl rfl (by decide) rfl ?_
        refine V.iload_n (n := 30) d_Tr_isOnWayTo_29 rfl rfl ?_
        refine V.icmp_ne (n2 := 35) (n := 33) d_Tr_isOnWayTo_30 (by omega) (by omega) (by decide) rfl (fun h4 => ?_) (fun h4 => ?_)
        · refine V.aload_n (n := 36) d_Tr_isOnWayTo_35 rfl rfl ?_
          refine V.getA (n := 39) d_Tr_isOnWayTo_36 f_Tr_20 (by assumption) rfl rfl ?_
          refine V.iload_n (n := 40) d_Tr_isOnWayTo_39 rfl rfl ?_
          refine V.cVi (n := 43) d_Tr_isOnWayTo_40 k_Tr_53 (c_Rw_get (by assumption) (by omega) (by omega)) rfl rfl (by decide) rfl ?_
          refine V.istore_n (n := 44) d_Tr_isOnWayTo_43 (by decide) rfl ?_
          refine V.iinc (n := 47) d_Tr_isOnWayTo_44 rfl (by decide) rfl ?_
          refine V.goto (n := 5) d_Tr_isOnWayTo_47 (by decide) ?_
          refine V.loc (lo' := [(4, rI (i + 1)), (3, rI (μ (t + 4) m)), (2, rI p), (1, rI n), (0, rA E t)]) ⟨rfl, rfl, rfl, rfl, rfl, trivial⟩ ?_
          refine ih (i + 1) _ (by omega) (by omega) (by omega) (by omega) ?_
          rw [he, ow_s, decide_eq_true hb.1, decide_eq_false h4]
          simp
        · rw [he, bi_t (by simp [ow, hb.1, h4])] at hP
          refine V.iconst (n := 34) d_Tr_isOnWayTo_33 rfl ?_
          refine V.iret d_Tr_isOnWayTo_34 ⟨_, rfl, rfl⟩ ?_
          exact hP _ _ ⟨rfl, rfl, rfl⟩
      · rw [he, ow_neg (by omega), bi_f (by simp)] at hP
        refine V.if_eqT (n2 := 50) d_Tr_isOnWayTo_18 (by omega) (by omega) (by decide) ?_
        refine V.iconst (n := 51) d_Tr_isOnWayTo_50 rfl ?_
        refine V.iret d_Tr_isOnWayTo_51 ⟨_, rfl, rfl⟩ ?_
        exact hP _ _ ⟨rfl, rfl, rfl⟩
  refine V.loc (lo' := [(4, rI 0), (3, rI n), (2, rI p), (1, rI n), (0, rA E t)]) ⟨rfl, rfl, rfl, rfl, rfl, trivial⟩ ?_
  exact loop 200 0 n (by omega) (by omega) (by omega) (by omega) rfl
theorem c_Tr_cheapestChild (hT : isTree G t g) (hG : isGame G g) (h0 : 0 ≤ n) (h1 : n < 200) (h2 : 0 ≤ μ (t + 2) n) (h3 : μ (t + 2) n < 20) (h4 : inR (μ (g + 2) (μ (t + 2) n))) (h5 : 0 ≤ μ (t + 12) n) (h6 : -5 ≤ μ (t + 14) n) (h7 : μ (t + 14) n + μ (t + 12) n ≤ 200) (h8 : 0 < μ (t + 12) n → 0 ≤ μ (t + 14) n) (hin : ∀ j : Int, 0 ≤ j → j < 200 → inR (μ (t + 8) j) ∧ inR (μ (t + 10) j)) : KV E l 2 m_Tr_cheapestChild t [rI n] G μ 0 0 (dq (some (rI (am (if μ (g + 2) (μ (t + 2) n) = 0 then μ (t + 8) else μ (t + 10)) (μ (t + 14) n) (μ (t + 12) n).toNat))) G μ) := by
  have hT0 := hT
  have hG0 := hG
  obtain ⟨t0, t1, t2, t3, t4, t5, t6, t7, t8⟩ := hT
  refine ⟨KC.ofP q_Tr_cheapestChild.1 rfl (Nat.le_of_ble_eq_true rfl) rfl (fun Post NT ST hP => ?_), ⟨_, _, _, t0, rfl, rfl⟩, q_Tr_cheapestChild, by decide⟩
  refine V.aload_n (n := 1) d_Tr_cheapestChild_0 rfl rfl ?_
  refine V.iload_n (n := 2) d_Tr_cheapestChild_1 rfl rfl ?_
  refine V.cVi (n := 5) d_Tr_cheapestChild_2 k_Tr_103 (c_Tr_turnAt (by assumption) (by assumption) (by omega) (by omega) (by omega) (by omega)) rfl rfl (by decide) rfl ?_
  have rest : ∀ (row : Nat) (c : Nat), isRow G row c 200 → (∀ j : Int, 0 ≤ j → j < 200 → inR (μ c j)) → (if μ (g + 2) (μ (t + 2) n) = 0 then μ (t + 8) else μ (t + 10)) = μ c → V E l m_Tr_cheapestChild none 2 NT ST Post 19 [(1, rI n), (0, rA E t)] [rA E row] G μ := by
    intro row c hrow hcin hce
    rw [hce] at hP
    refine V.astore_n (n := 20) d_Tr_cheapestChild_19 (by decide) rfl ?_
    refine V.aload_n (n := 21) d_Tr_cheapestChild_20 rfl rfl ?_
    refine V.iload_n (n := 22) d_Tr_cheapestChild_21 rfl rfl ?_
    refine V.cVi (n := 25) d_Tr_cheapestChild_22 k_Tr_106 (c_Tr_endOfChildren (by assumption) (by omega) (by omega)) rfl rfl (by decide) rfl ?_
    refine V.istore_n (n := 26) d_Tr_cheapestChild_25 (by decide) rfl ?_
    refine V.aload_n (n := 27) d_Tr_cheapestChild_26 rfl rfl ?_
    refine V.getA (n := 30) d_Tr_cheapestChild_27 f_Tr_35 (by assumption) rfl rfl ?_
    refine V.iload_n (n := 31) d_Tr_cheapestChild_30 rfl rfl ?_
    refine V.cVi (n := 34) d_Tr_cheapestChild_31 k_Tr_53 (c_Rw_get (by assumption) (by omega) (by omega)) rfl rfl (by decide) rfl ?_
    refine V.istore (n := 36) d_Tr_cheapestChild_34 (by decide) rfl ?_
    refine V.iload (n := 38) d_Tr_cheapestChild_36 rfl rfl ?_
    refine V.iconst (n := 39) d_Tr_cheapestChild_38 rfl ?_
    refine V.iadd (n := 40) d_Tr_cheapestChild_39 rfl ?_
    refine V.istore (n := 42) d_Tr_cheapestChild_40 (by decide) rfl ?_
    have loop : ∀ (k : Nat) (j : Nat), 1 ≤ j → (j : Int) + k = max (μ (t + 12) n) 1 → V E l m_Tr_cheapestChild none 2 NT ST Post 42 [(5, rI (μ (t + 14) n + j)), (4, rI (am (μ c) (μ (t + 14) n) j)), (3, rI (μ (t + 14) n + μ (t + 12) n)), (2, rA E row), (1, rI n), (0, rA E t)] [] G μ := by
      intro k
      induction k with
      | zero =>
        intro j hj1 hj
        have ha := am_in (μ c) (μ (t + 14) n) j
        have hv : am (μ c) (μ (t + 14) n) j = am (μ c) (μ (t + 14) n) (μ (t + 12) n).toNat := by
          by_cases hz : 0 < μ (t + 12) n
          · rw [show j = (μ (t + 12) n).toNat by omega]
          · rw [show j = 1 by omega, show (μ (t + 12) n).toNat = 0 by omega, am_1, am_0]
        rw [← hv] at hP
        refine V.iload (n := 44) d_Tr_cheapestChild_42 rfl rfl ?_
        refine V.iload_n (n := 45) d_Tr_cheapestChild_44 rfl rfl ?_
        refine V.icmp_geT (n2 := 73) d_Tr_cheapestChild_45 (by omega) (by omega) (by omega) (by decide) ?_
        refine V.iload (n := 75) d_Tr_cheapestChild_73 rfl rfl ?_
        refine V.iret d_Tr_cheapestChild_75 ⟨_, rfl, rfl⟩ ?_
        exact hP _ _ ⟨rfl, rfl, rfl⟩
      | succ k ih =>
        intro j hj1 hj
        have ha := am_in (μ c) (μ (t + 14) n) j
        have hfc := h8 (by omega)
        have hc1 := hcin (μ (t + 14) n + j) (by omega) (by omega)
        have hc2 := hcin (am (μ c) (μ (t + 14) n) j) (by omega) (by omega)
        refine V.iload (n := 44) d_Tr_cheapestChild_42 rfl rfl ?_
        refine V.iload_n (n := 45) d_Tr_cheapestChild_44 rfl rfl ?_
        refine V.icmp_geF (n := 48) d_Tr_cheapestChild_45 (by omega) (by omega) (by omega) rfl ⟨73, by decide⟩ ?_
        refine V.aload_n (n := 49) d_Tr_cheapestChild_48 rfl rfl ?_
        refine V.iload (n := 51) d_Tr_cheapestChild_49 rfl rfl ?_
        refine V.cVi (n := 54) d_Tr_cheapestChild_51 k_Tr_53 (c_Rw_get (by assumption) (by omega) (by omega)) rfl rfl (by decide) rfl ?_
        refine V.aload_n (n := 55) d_Tr_cheapestChild_54 rfl rfl ?_
        refine V.iload (n := 57) d_Tr_cheapestChild_55 rfl rfl ?_
        refine V.cVi (n := 60) d_Tr_cheapestChild_57 k_Tr_53 (c_Rw_get (by assumption) (by omega) (by omega)) rfl rfl (by decide) rfl ?_
        refine V.icmp_ge (n2 := 67) (n := 63) d_Tr_cheapestChild_60 (by omega) (by omega) (by decide) rfl (fun h9 => ?_) (fun h9 => ?_)
        · refine V.iinc (n := 70) d_Tr_cheapestChild_67 rfl (by decide) rfl ?_
          refine V.goto (n := 42) d_Tr_cheapestChild_70 (by decide) ?_
          have hs : am (μ c) (μ (t + 14) n) (j + 1) = am (μ c) (μ (t + 14) n) j := by
            show (if μ c (μ (t + 14) n + j) < μ c (am (μ c) (μ (t + 14) n) j) then μ (t + 14) n + j else am (μ c) (μ (t + 14) n) j) = _
            rw [if_neg (by omega)]
          refine V.loc (lo' := [(5, rI (μ (t + 14) n + j + 1)), (4, rI (am (μ c) (μ (t + 14) n) j)), (3, rI (μ (t + 14) n + μ (t + 12) n)), (2, rA E row), (1, rI n), (0, rA E t)]) ⟨rfl, rfl, rfl, rfl, rfl, rfl, trivial⟩ ?_
          have hx := ih (j + 1) (by omega) (by omega)
          rw [hs, show μ (t + 14) n + ((j + 1 : Nat) : Int) = μ (t + 14) n + j + 1 by omega] at hx
          exact hx
        · refine V.iload (n := 65) d_Tr_cheapestChild_63 rfl rfl ?_
          refine V.istore (n := 67) d_Tr_cheapestChild_65 (by decide) rfl ?_
          refine V.iinc (n := 70) d_Tr_cheapestChild_67 rfl (by decide) rfl ?_
          refine V.goto (n := 42) d_Tr_cheapestChild_70 (by decide) ?_
          have hs : am (μ c) (μ (t + 14) n) (j + 1) = μ (t + 14) n + j := by
            show (if μ c (μ (t + 14) n + j) < μ c (am (μ c) (μ (t + 14) n) j) then μ (t + 14) n + j else am (μ c) (μ (t + 14) n) j) = _
            rw [if_pos (by omega)]
          refine V.loc (lo' := [(5, rI (μ (t + 14) n + j + 1)), (4, rI (μ (t + 14) n + j)), (3, rI (μ (t + 14) n + μ (t + 12) n)), (2, rA E row), (1, rI n), (0, rA E t)]) ⟨rfl, rfl, rfl, rfl, rfl, rfl, trivial⟩ ?_
          have hx := ih (j + 1) (by omega) (by omega)
          rw [hs, show μ (t + 14) n + ((j + 1 : Nat) : Int) = μ (t + 14) n + j + 1 by omega] at hx
          exact hx
    refine V.loc (lo' := [(5, rI (μ (t + 14) n + 1)), (4, rI (μ (t + 14) n)), (3, rI (μ (t + 14) n + μ (t + 12) n)), (2, rA E row), (1, rI n), (0, rA E t)]) ⟨rfl, rfl, rfl, rfl, rfl, rfl, trivial⟩ ?_
    have hx := loop ((max (μ (t + 12) n) 1).toNat - 1) 1 (by omega) (by omega)
    rw [am_1] at hx
    exact hx
  refine V.if_ne (n2 := 15) (n := 8) d_Tr_cheapestChild_5 (by omega) (by decide) rfl (fun h => ?_) (fun h => ?_)
  · refine V.aload_n (n := 16) d_Tr_cheapestChild_15 rfl rfl ?_
    refine V.getA (n := 19) d_Tr_cheapestChild_16 f_Tr_29 (by assumption) rfl rfl ?_
    refine V.loc (lo' := [(1, rI n), (0, rA E t)]) ⟨rfl, rfl, trivial⟩ ?_
    exact rest _ _ t5 (fun j q1 q2 => (hin j q1 q2).2) (if_neg h)
  · refine V.aload_n (n := 9) d_Tr_cheapestChild_8 rfl rfl ?_
    refine V.getA (n := 12) d_Tr_cheapestChild_9 f_Tr_26 (by assumption) rfl rfl ?_
    refine V.goto (n := 19) d_Tr_cheapestChild_12 (by decide) ?_
    refine V.loc (lo' := [(1, rI n), (0, rA E t)]) ⟨rfl, rfl, trivial⟩ ?_
    exact rest _ _ t4 (fun j q1 q2 => (hin j q1 q2).1) (if_pos h)
end CTR
end
section
/-! THE CLASS: trees, what is made -/
theorem ow_congr {pos par pos' par' : Int → Int} {p : Int} : ∀ (k : Nat) (n : Int), (∀ m, 0 ≤ m → m ≤ n → pos' m = pos m ∧ par' m = par m ∧ par m < m) → ow pos' par' p k n = ow pos par p k n
  | 0, _, _ => rfl
  | k + 1, n, h => by
    rw [ow_s, ow_s]
    by_cases hn : 0 ≤ n
    · have h1 := h n hn (Int.le_refl _)
      rw [h1.1, h1.2.1, ow_congr k (par n) (fun m m0 m1 => h m m0 (by omega))]
    · rw [decide_eq_false hn]
      rfl
def lcP (e w o : Prop) [Decidable e] [Decidable w] [Decidable o] (a : Int) : Int := if e then (if w then 0 else 9999) else if o then 9999 else a
def lcD (e w o : Prop) [Decidable e] [Decidable w] [Decidable o] (a : Int) : Int := if e then (if w then 9999 else 0) else if o then 0 else a
section CTW
variable {E : EV} {l : Launch} {G : GG} {μ : MU} {g t : Nat} {n p q a b : Int}
theorem c_Tr_setLeafCosts (hT : isTree G t g) (hG : isGame G g) (hgt : t + 16 < g ∨ g + 12 < t) (h0 : 0 ≤ μ t 9) (h1 : μ t 9 ≤ 200) (hn0 : 0 ≤ n) (hn1 : n < 200) (hp0 : 0 ≤ p) (hp1 : p < 20) (hq : q = -5 ∨ (0 ≤ q ∧ q < μ t 9)) (hok : ∀ m, 0 ≤ m → m ≤ q → 0 ≤ μ (t + 2) m ∧ μ (t + 2) m < 20 ∧ (m = 0 → μ (t + 4) m = -5) ∧ (0 < m → 0 ≤ μ (t + 4) m ∧ μ (t + 4) m < m)) (hm : inR (μ (g + 4) p)) (hc : inR (μ (g + 10) p)) : KV E l 2 m_Tr_setLeafCosts t [rI n, rI p, rI q] G μ 0 0 (dqv (fun μ' => ∀ e w o : Prop, ∀ [Decidable e] [Decidable w] [Decidable o], (e ↔ (¬ μ (g + 4) p = 0 ∨ μ (g + 10) p = 0)) → (w ↔ μ (g + 4) p = 1) → (o ↔ ow (μ (t + 2)) (μ (t + 4)) p 200 q = true) → μ' = wr (wr (if ¬ e ∧ o then wr μ (t + 16) n 1 else μ) (t + 8) n (lcP e w o (μ (g + 6) p))) (t + 10) n (lcD e w o (μ (g + 8) p))) G) := by
  have hT0 := hT
  have hG0 := hG
  obtain ⟨t0, t1, t2, t3, t4, t5, t6, t7, t8⟩ := hT
  obtain ⟨a0, a1, a2, a3, a4, a5, a6⟩ := hG
  refine ⟨KC.ofP q_Tr_setLeafCosts.1 rfl (Nat.le_of_ble_eq_true rfl) rfl (fun Post NT ST hP => ?_), ⟨_, _, _, t0, rfl, rfl⟩, q_Tr_setLeafCosts, by decide⟩
  refine V.aload_n (n := 1) d_Tr_setLeafCosts_0 rfl rfl ?_
  refine V.getA (n := 4) d_Tr_setLeafCosts_1 f_Tr_41 (by assumption) rfl rfl ?_
  refine V.iload_n (n := 5) d_Tr_setLeafCosts_4 rfl rfl ?_
  refine V.cVi (n := 8) d_Tr_setLeafCosts_5 k_Tr_84 (c_Gm_isEnd (by assumption) (by omega) (by omega) (by omega) (by omega)) rfl rfl (by decide) rfl ?_
  rcases bi_or (¬ μ (g + 4) p = 0 ∨ μ (g + 10) p = 0) with ⟨hb, e⟩ | ⟨hb, e⟩ <;> rw [e]
  · refine V.if_eqF (n := 11) d_Tr_setLeafCosts_8 (by omega) (by omega) rfl ⟨53, by decide⟩ ?_
    refine V.aload_n (n := 12) d_Tr_setLeafCosts_11 rfl rfl ?_
    refine V.getA (n := 15) d_Tr_setLeafCosts_12 f_Tr_41 (by assumption) rfl rfl ?_
    refine V.iload_n (n := 16) d_Tr_setLeafCosts_15 rfl rfl ?_
    refine V.cVi (n := 19) d_Tr_setLeafCosts_16 k_Tr_87 (c_Gm_isWonEnd (by assumption) (by omega) (by omega) (by omega)) rfl rfl (by decide) rfl ?_
    rcases bi_or (μ (g + 4) p = 1) with ⟨hw, e2⟩ | ⟨hw, e2⟩ <;> rw [e2]
    · refine V.istore (n := 21) d_Tr_setLeafCosts_19 (by decide) rfl ?_
      refine V.aload_n (n := 22) d_Tr_setLeafCosts_21 rfl rfl ?_
      refine V.iload_n (n := 23) d_Tr_setLeafCosts_22 rfl rfl ?_
      refine V.iload (n := 25) d_Tr_setLeafCosts_23 rfl rfl ?_
      refine V.if_eqF (n := 28) d_Tr_setLeafCosts_25 (by omega) (by omega) rfl ⟨32, by decide⟩ ?_
      refine V.iconst (n := 29) d_Tr_setLeafCosts_28 rfl ?_
      refine V.goto (n := 35) d_Tr_setLeafCosts_29 (by decide) ?_
      refine V.iload (n := 37) d_Tr_setLeafCosts_35 rfl rfl ?_
      refine V.if_eqF (n := 40) d_Tr_setLeafCosts_37 (by omega) (by omega) rfl ⟨46, by decide⟩ ?_
      refine V.sipush (n := 43) d_Tr_setLeafCosts_40 (by decide) rfl ?_
      refine V.goto (n := 47) d_Tr_setLeafCosts_43 (by decide) ?_
      refine V.cVv (n := 50) d_Tr_setLeafCosts_47 k_Tr_90 (c_Tr_setCosts (by assumption) (by omega) (by omega)) rfl rfl (by decide) rfl ?_
      refine V.goto (n := 110) d_Tr_setLeafCosts_50 (by decide) ?_
      refine V.vret d_Tr_setLeafCosts_110 rfl ?_
      refine hP _ _ ⟨rfl, rfl, fun e w o _ _ _ q1 q2 q3 => ?_⟩
      rw [if_neg (fun x => x.1 (q1.mpr hb))]
      unfold lcP lcD
      rw [if_pos (q1.mpr hb), if_pos (q1.mpr hb), if_pos (q2.mpr hw), if_pos (q2.mpr hw)]
    · refine V.istore (n := 21) d_Tr_setLeafCosts_19 (by decide) rfl ?_
      refine V.aload_n (n := 22) d_Tr_setLeafCosts_21 rfl rfl ?_
      refine V.iload_n (n := 23) d_Tr_setLeafCosts_22 rfl rfl ?_
      refine V.iload (n := 25) d_Tr_setLeafCosts_23 rfl rfl ?_
      refine V.if_eqT (n2 := 32) d_Tr_setLeafCosts_25 (by omega) (by omega) (by decide) ?_
      refine V.sipush (n := 35) d_Tr_setLeafCosts_32 (by decide) rfl ?_
      refine V.iload (n := 37) d_Tr_setLeafCosts_35 rfl rfl ?_
      refine V.if_eqT (n2 := 46) d_Tr_setLeafCosts_37 (by omega) (by omega) (by decide) ?_
      refine V.iconst (n := 47) d_Tr_setLeafCosts_46 rfl ?_
      refine V.cVv (n := 50) d_Tr_setLeafCosts_47 k_Tr_90 (c_Tr_setCosts (by assumption) (by omega) (by omega)) rfl rfl (by decide) rfl ?_
      refine V.goto (n := 110) d_Tr_setLeafCosts_50 (by decide) ?_
      refine V.vret d_Tr_setLeafCosts_110 rfl ?_
      refine hP _ _ ⟨rfl, rfl, fun e w o _ _ _ q1 q2 q3 => ?_⟩
      rw [if_neg (fun x => x.1 (q1.mpr hb))]
      unfold lcP lcD
      rw [if_pos (q1.mpr hb), if_pos (q1.mpr hb), if_neg (fun x => hw (q2.mp x)), if_neg (fun x => hw (q2.mp x))]
  · refine V.if_eqT (n2 := 53) d_Tr_setLeafCosts_8 (by omega) (by omega) (by decide) ?_
    refine V.aload_n (n := 54) d_Tr_setLeafCosts_53 rfl rfl ?_
    refine V.iload_n (n := 55) d_Tr_setLeafCosts_54 rfl rfl ?_
    refine V.iload_n (n := 56) d_Tr_setLeafCosts_55 rfl rfl ?_
    refine V.cVi (n := 59) d_Tr_setLeafCosts_56 k_Tr_93 (c_Tr_isOnWayTo hT0 h0 h1 hq (by omega) hok) rfl rfl (by decide) rfl ?_
    rcases bi_or (ow (μ (t + 2)) (μ (t + 4)) p 200 q = true) with ⟨ho, e2⟩ | ⟨ho, e2⟩ <;> rw [e2]
    · refine V.if_eqF (n := 62) d_Tr_setLeafCosts_59 (by omega) (by omega) rfl ⟨83, by decide⟩ ?_
      refine V.aload_n (n := 63) d_Tr_setLeafCosts_62 rfl rfl ?_
      refine V.getA (n := 66) d_Tr_setLeafCosts_63 f_Tr_38 (by assumption) rfl rfl ?_
      refine V.iload_n (n := 67) d_Tr_setLeafCosts_66 rfl rfl ?_
      refine V.iconst (n := 68) d_Tr_setLeafCosts_67 rfl ?_
      refine V.cVv (n := 71) d_Tr_setLeafCosts_68 k_Tr_73 (c_Rw_set (by assumption) (by omega) (by omega)) rfl rfl (by decide) rfl ?_
      refine V.aload_n (n := 72) d_Tr_setLeafCosts_71 rfl rfl ?_
      refine V.iload_n (n := 73) d_Tr_setLeafCosts_72 rfl rfl ?_
      refine V.sipush (n := 76) d_Tr_setLeafCosts_73 (by decide) rfl ?_
      refine V.iconst (n := 77) d_Tr_setLeafCosts_76 rfl ?_
      refine V.cVv (n := 80) d_Tr_setLeafCosts_77 k_Tr_90 (c_Tr_setCosts (by assumption) (by omega) (by omega)) rfl rfl (by decide) rfl ?_
      refine V.goto (n := 110) d_Tr_setLeafCosts_80 (by decide) ?_
      refine V.vret d_Tr_setLeafCosts_110 rfl ?_
      refine hP _ _ ⟨rfl, rfl, fun e w o _ _ _ q1 q2 q3 => ?_⟩
      have he : ¬ e := fun x => hb (q1.mp x)
      rw [if_pos ⟨he, q3.mpr ho⟩]
      unfold lcP lcD
      rw [if_neg he, if_neg he, if_pos (q3.mpr ho), if_pos (q3.mpr ho)]
    · refine V.if_eqT (n2 := 83) d_Tr_setLeafCosts_59 (by omega) (by omega) (by decide) ?_
      refine V.aload_n (n := 84) d_Tr_setLeafCosts_83 rfl rfl ?_
      refine V.iload_n (n := 85) d_Tr_setLeafCosts_84 rfl rfl ?_
      refine V.aload_n (n := 86) d_Tr_setLeafCosts_85 rfl rfl ?_
      refine V.getA (n := 89) d_Tr_setLeafCosts_86 f_Tr_41 (by assumption) rfl rfl ?_
      refine V.getA (n := 92) d_Tr_setLeafCosts_89 f_Tr_97 (by assumption) rfl rfl ?_
      refine V.iload_n (n := 93) d_Tr_setLeafCosts_92 rfl rfl ?_
      refine V.cVi (n := 96) d_Tr_setLeafCosts_93 k_Tr_53 (c_Rw_get (by assumption) (by omega) (by omega)) rfl rfl (by decide) rfl ?_
      refine V.aload_n (n := 97) d_Tr_setLeafCosts_96 rfl rfl ?_
      refine V.getA (n := 100) d_Tr_setLeafCosts_97 f_Tr_41 (by assumption) rfl rfl ?_
      refine V.getA (n := 103) d_Tr_setLeafCosts_100 f_Tr_100 (by assumption) rfl rfl ?_
      refine V.iload_n (n := 104) d_Tr_setLeafCosts_103 rfl rfl ?_
      refine V.cVi (n := 107) d_Tr_setLeafCosts_104 k_Tr_53 (c_Rw_get (by assumption) (by omega) (by omega)) rfl rfl (by decide) rfl ?_
      refine V.cVv (n := 110) d_Tr_setLeafCosts_107 k_Tr_90 (c_Tr_setCosts (by assumption) (by omega) (by omega)) rfl rfl (by decide) rfl ?_
      refine V.vret d_Tr_setLeafCosts_110 rfl ?_
      refine hP _ _ ⟨rfl, rfl, fun e w o _ _ _ q1 q2 q3 => ?_⟩
      have he : ¬ e := fun x => hb (q1.mp x)
      have hno : ¬ o := fun x => ho (q3.mp x)
      rw [if_neg (fun x => hno x.2)]
      unfold lcP lcD
      rw [if_neg he, if_neg he, if_neg hno, if_neg hno]
theorem c_Tr_addLeaf (hT : isTree G t g) (hG : isGame G g) (hgt : t + 16 < g ∨ g + 12 < t) (h0 : 0 ≤ μ t 9) (h1 : μ t 9 < 200) (hp0 : 0 ≤ p) (hp1 : p < 20) (hq : q = -5 ∨ (0 ≤ q ∧ q < μ t 9)) (hok : ∀ m, 0 ≤ m → m ≤ q → 0 ≤ μ (t + 2) m ∧ μ (t + 2) m < 20 ∧ (m = 0 → μ (t + 4) m = -5) ∧ (0 < m → 0 ≤ μ (t + 4) m ∧ μ (t + 4) m < m)) (hm : inR (μ (g + 4) p)) (hc : inR (μ (g + 10) p)) : KV E l 3 m_Tr_addLeaf t [rI p, rI q] G μ 0 0 (dqv (fun μ' => (∀ b, b < t ∨ t + 16 < b → μ' b = μ b) ∧ μ' t 9 = μ t 9 + 1 ∧ (∀ b, t < b → b ≤ t + 16 → ∀ j, ¬ j = μ t 9 → μ' b j = μ b j) ∧ μ' (t + 2) (μ t 9) = p ∧ μ' (t + 4) (μ t 9) = q ∧ μ' (t + 6) (μ t 9) = (if 0 ≤ q then μ (t + 6) q + 1 else 0) ∧ μ' (t + 12) (μ t 9) = 0 ∧ μ' (t + 14) (μ t 9) = -5 ∧ (∀ e w o : Prop, ∀ [Decidable e] [Decidable w] [Decidable o], (e ↔ (¬ μ (g + 4) p = 0 ∨ μ (g + 10) p = 0)) → (w ↔ μ (g + 4) p = 1) → (o ↔ ow (μ (t + 2)) (μ (t + 4)) p 200 q = true) → μ' (t + 8) (μ t 9) = lcP e w o (μ (g + 6) p) ∧ μ' (t + 10) (μ t 9) = lcD e w o (μ (g + 8) p) ∧ μ' (t + 16) (μ t 9) = bi (¬ e ∧ o))) G) := by
  have hT0 := hT
  have hG0 := hG
  obtain ⟨t0, t1, t2, t3, t4, t5, t6, t7, t8⟩ := hT
  obtain ⟨a0, a1, a2, a3, a4, a5, a6⟩ := hG
  generalize hsz : μ t 9 = sz at *
  refine ⟨KC.ofP q_Tr_addLeaf.1 rfl (Nat.le_of_ble_eq_true rfl) rfl (fun Post NT ST hP => ?_), ⟨_, _, _, t0, rfl, rfl⟩, q_Tr_addLeaf, by decide⟩
  refine V.aload_n (n := 1) d_Tr_addLeaf_0 rfl rfl ?_
  refine V.getI (n := 4) d_Tr_addLeaf_1 f_Tr_49 (by assumption) rfl rfl ?_
  refine V.istore_n (n := 5) d_Tr_addLeaf_4 (by decide) rfl ?_
  refine V.aload_n (n := 6) d_Tr_addLeaf_5 rfl rfl ?_
  refine V.dup (n := 7) d_Tr_addLeaf_6 rfl rfl ?_
  refine V.getI (n := 10) d_Tr_addLeaf_7 f_Tr_49 (by assumption) rfl rfl ?_
  refine V.iconst (n := 11) d_Tr_addLeaf_10 rfl ?_
  refine V.iadd (n := 12) d_Tr_addLeaf_11 rfl ?_
  refine V.putI (n := 15) d_Tr_addLeaf_12 f_Tr_49 t_Tr_size ⟨rfl, rfl⟩ (by assumption) rfl rfl ?_
  refine V.aload_n (n := 16) d_Tr_addLeaf_15 rfl rfl ?_
  refine V.getA (n := 19) d_Tr_addLeaf_16 f_Tr_14 (by assumption) rfl rfl ?_
  refine V.iload_n (n := 20) d_Tr_addLeaf_19 rfl rfl ?_
  refine V.iload_n (n := 21) d_Tr_addLeaf_20 rfl rfl ?_
  refine V.cVv (n := 24) d_Tr_addLeaf_21 k_Tr_73 (c_Rw_set (by assumption) (by omega) (by omega)) rfl rfl (by decide) rfl ?_
  refine V.aload_n (n := 25) d_Tr_addLeaf_24 rfl rfl ?_
  refine V.getA (n := 28) d_Tr_addLeaf_25 f_Tr_20 (by assumption) rfl rfl ?_
  refine V.iload_n (n := 29) d_Tr_addLeaf_28 rfl rfl ?_
  refine V.iload_n (n := 30) d_Tr_addLeaf_29 rfl rfl ?_
  refine V.cVv (n := 33) d_Tr_addLeaf_30 k_Tr_73 (c_Rw_set (by assumption) (by omega) (by omega)) rfl rfl (by decide) rfl ?_
  refine V.aload_n (n := 34) d_Tr_addLeaf_33 rfl rfl ?_
  refine V.getA (n := 37) d_Tr_addLeaf_34 f_Tr_23 (by assumption) rfl rfl ?_
  refine V.iload_n (n := 38) d_Tr_addLeaf_37 rfl rfl ?_
  refine V.aload_n (n := 39) d_Tr_addLeaf_38 rfl rfl ?_
  refine V.iload_n (n := 40) d_Tr_addLeaf_39 rfl rfl ?_
  rw [hsz]
  generalize hm1 : wr (wr (wr μ t 9 (sz + 1)) (t + 2) sz p) (t + 4) sz q = μ1
  have e9 : μ1 t 9 = sz + 1 := by rw [← hm1, wr_a (by omega), wr_a (by omega), wr_s]
  have e6 : μ1 (t + 6) = μ (t + 6) := by rw [← hm1, wr_a (by omega), wr_a (by omega), wr_a (by omega)]
  refine V.cVi (n := 43) d_Tr_addLeaf_40 k_Tr_76 (c_Tr_has hT0 (by omega) (by omega)) rfl rfl (by decide) rfl ?_
  rw [e9]
  have fin : ∀ dv : Int, dv = (if 0 ≤ q then μ (t + 6) q + 1 else 0) → V E l m_Tr_addLeaf none 3 NT ST Post 60 [(3, rI sz), (2, rI q), (1, rI p), (0, rA E t)] [rI dv, rI sz, rA E (t + 5)] G μ1 := by
    intro dv hdv
    refine V.cVv (n := 63) d_Tr_addLeaf_60 k_Tr_73 (c_Rw_set (by assumption) (by omega) (by omega)) rfl rfl (by decide) rfl ?_
    refine V.aload_n (n := 64) d_Tr_addLeaf_63 rfl rfl ?_
    refine V.getA (n := 67) d_Tr_addLeaf_64 f_Tr_32 (by assumption) rfl rfl ?_
    refine V.iload_n (n := 68) d_Tr_addLeaf_67 rfl rfl ?_
    refine V.iconst (n := 69) d_Tr_addLeaf_68 rfl ?_
    refine V.cVv (n := 72) d_Tr_addLeaf_69 k_Tr_73 (c_Rw_set (by assumption) (by omega) (by omega)) rfl rfl (by decide) rfl ?_
    refine V.aload_n (n := 73) d_Tr_addLeaf_72 rfl rfl ?_
    refine V.getA (n := 76) d_Tr_addLeaf_73 f_Tr_35 (by assumption) rfl rfl ?_
    refine V.iload_n (n := 77) d_Tr_addLeaf_76 rfl rfl ?_
    refine V.bipush (n := 79) d_Tr_addLeaf_77 (by decide) rfl ?_
    refine V.cVv (n := 82) d_Tr_addLeaf_79 k_Tr_73 (c_Rw_set (by assumption) (by omega) (by omega)) rfl rfl (by decide) rfl ?_
    refine V.aload_n (n := 83) d_Tr_addLeaf_82 rfl rfl ?_
    refine V.getA (n := 86) d_Tr_addLeaf_83 f_Tr_38 (by assumption) rfl rfl ?_
    refine V.iload_n (n := 87) d_Tr_addLeaf_86 rfl rfl ?_
    refine V.iconst (n := 88) d_Tr_addLeaf_87 rfl ?_
    refine V.cVv (n := 91) d_Tr_addLeaf_88 k_Tr_73 (c_Rw_set (by assumption) (by omega) (by omega)) rfl rfl (by decide) rfl ?_
    refine V.aload_n (n := 92) d_Tr_addLeaf_91 rfl rfl ?_
    refine V.iload_n (n := 93) d_Tr_addLeaf_92 rfl rfl ?_
    refine V.iload_n (n := 94) d_Tr_addLeaf_93 rfl rfl ?_
    refine V.iload_n (n := 95) d_Tr_addLeaf_94 rfl rfl ?_
    generalize hm2 : wr (wr (wr (wr μ1 (t + 6) sz dv) (t + 12) sz 0) (t + 14) sz (-5)) (t + 16) sz 0 = μ2
    have f9 : μ2 t 9 = sz + 1 := by rw [← hm2, wr_a (by omega), wr_a (by omega), wr_a (by omega), wr_a (by omega), e9]
    have fa : ∀ b, b < t ∨ t + 16 < b → μ2 b = μ b := fun b hb => by
      rw [← hm2, wr_a (by omega), wr_a (by omega), wr_a (by omega), wr_a (by omega), ← hm1, wr_a (by omega), wr_a (by omega), wr_a (by omega)]
    have fb : ∀ b, t < b → b ≤ t + 16 → ∀ j, ¬ j = sz → μ2 b j = μ b j := fun b _ _ j hj => by
      rw [← hm2, wr_i hj, wr_i hj, wr_i hj, wr_i hj, ← hm1, wr_i hj, wr_i hj, wr_a (by omega)]
    have f2 : μ2 (t + 2) sz = p := by rw [← hm2, wr_a (by omega), wr_a (by omega), wr_a (by omega), wr_a (by omega), ← hm1, wr_a (by omega), wr_s]
    have f4 : μ2 (t + 4) sz = q := by rw [← hm2, wr_a (by omega), wr_a (by omega), wr_a (by omega), wr_a (by omega), ← hm1, wr_s]
    have f6 : μ2 (t + 6) sz = dv := by rw [← hm2, wr_a (by omega), wr_a (by omega), wr_a (by omega), wr_s]
    have f12 : μ2 (t + 12) sz = 0 := by rw [← hm2, wr_a (by omega), wr_a (by omega), wr_s]
    have f14 : μ2 (t + 14) sz = -5 := by rw [← hm2, wr_a (by omega), wr_s]
    have f16 : μ2 (t + 16) sz = 0 := by rw [← hm2, wr_s]
    have g4 : μ2 (g + 4) = μ (g + 4) := fa _ (by omega)
    have g6 : μ2 (g + 6) = μ (g + 6) := fa _ (by omega)
    have g8 : μ2 (g + 8) = μ (g + 8) := fa _ (by omega)
    have g10 : μ2 (g + 10) = μ (g + 10) := fa _ (by omega)
    have hok2 : ∀ m, 0 ≤ m → m ≤ q → 0 ≤ μ2 (t + 2) m ∧ μ2 (t + 2) m < 20 ∧ (m = 0 → μ2 (t + 4) m = -5) ∧ (0 < m → 0 ≤ μ2 (t + 4) m ∧ μ2 (t + 4) m < m) := fun m m0 m1 => by
      rw [fb (t + 2) (by omega) (by omega) m (by omega), fb (t + 4) (by omega) (by omega) m (by omega)]
      exact hok m m0 m1
    have how : ow (μ2 (t + 2)) (μ2 (t + 4)) p 200 q = ow (μ (t + 2)) (μ (t + 4)) p 200 q := ow_congr 200 q (fun m m0 m1 => ⟨fb (t + 2) (by omega) (by omega) m (by omega), fb (t + 4) (by omega) (by omega) m (by omega), by have := hok m m0 m1; omega⟩)
    refine V.cVqv (n := 98) d_Tr_addLeaf_95 k_Tr_80 (c_Tr_setLeafCosts hT0 hG0 hgt (by omega) (by omega) (by omega) (by omega) hp0 hp1 (by omega) hok2 (by rw [g4]; exact hm) (by rw [g10]; exact hc)) rfl rfl (by decide) rfl (fun μ' hq => ?_)
    rw [g4, g6, g8, g10, how] at hq
    have hq0 := hq (¬ μ (g + 4) p = 0 ∨ μ (g + 10) p = 0) (μ (g + 4) p = 1) (ow (μ (t + 2)) (μ (t + 4)) p 200 q = true) Iff.rfl Iff.rfl Iff.rfl
    generalize hm3 : (if ¬ (¬ μ (g + 4) p = 0 ∨ μ (g + 10) p = 0) ∧ ow (μ (t + 2)) (μ (t + 4)) p 200 q = true then wr μ2 (t + 16) sz 1 else μ2) = μ3 at hq0
    have k1 : ∀ b, ¬ b = t + 16 → μ3 b = μ2 b := fun b hb => by
      rw [← hm3]
      split
      · exact wr_a hb
      · rfl
    have k2 : ∀ j, ¬ j = sz → μ3 (t + 16) j = μ2 (t + 16) j := fun j hj => by
      rw [← hm3]
      split
      · exact wr_i hj
      · rfl
    refine V.vret d_Tr_addLeaf_98 rfl ?_
    refine hP _ _ ⟨rfl, rfl, fun b hb => ?_, ?_, fun b b1 b2 j hj => ?_, ?_, ?_, ?_, ?_, ?_, fun e w o _ _ _ q1 q2 q3 => ⟨?_, ?_, ?_⟩⟩
    · rw [hq0, wr_a (by omega), wr_a (by omega), k1 b (by omega), fa b hb]
    · rw [hq0, wr_a (by omega), wr_a (by omega), k1 t (by omega), f9]
    · rw [hq0, wr_i hj, wr_i hj]
      by_cases hb : b = t + 16
      · rw [hb, k2 j hj, fb (t + 16) (by omega) (by omega) j hj]
      · rw [k1 b hb, fb b b1 b2 j hj]
    · rw [hq0, wr_a (by omega), wr_a (by omega), k1 _ (by omega), f2]
    · rw [hq0, wr_a (by omega), wr_a (by omega), k1 _ (by omega), f4]
    · rw [hq0, wr_a (by omega), wr_a (by omega), k1 _ (by omega), f6, hdv]
    · rw [hq0, wr_a (by omega), wr_a (by omega), k1 _ (by omega), f12]
    · rw [hq0, wr_a (by omega), wr_a (by omega), k1 _ (by omega), f14]
    · rw [hq e w o q1 q2 q3, wr_a (by omega), wr_s]
    · rw [hq e w o q1 q2 q3, wr_s]
    · rw [hq e w o q1 q2 q3, wr_a (by omega), wr_a (by omega)]
      by_cases hz : ¬ e ∧ o
      · rw [if_pos hz, bi_t hz, wr_s]
      · rw [if_neg hz, bi_f hz, f16]
  rcases bi_or (0 ≤ q ∧ q < sz + 1) with ⟨hb, e⟩ | ⟨hb, e⟩ <;> rw [e]
  · refine V.if_eqF (n := 46) d_Tr_addLeaf_43 (by omega) (by omega) rfl ⟨59, by decide⟩ ?_
    refine V.aload_n (n := 47) d_Tr_addLeaf_46 rfl rfl ?_
    refine V.getA (n := 50) d_Tr_addLeaf_47 f_Tr_23 (by assumption) rfl rfl ?_
    refine V.iload_n (n := 51) d_Tr_addLeaf_50 rfl rfl ?_
    refine V.cVi (n := 54) d_Tr_addLeaf_51 k_Tr_53 (c_Rw_get (by assumption) (by omega) (by omega)) rfl rfl (by decide) rfl ?_
    refine V.iconst (n := 55) d_Tr_addLeaf_54 rfl ?_
    refine V.iadd (n := 56) d_Tr_addLeaf_55 rfl ?_
    refine V.goto (n := 60) d_Tr_addLeaf_56 (by decide) ?_
    rw [e6]
    refine V.loc (lo' := [(3, rI sz), (2, rI q), (1, rI p), (0, rA E t)]) ⟨rfl, rfl, rfl, rfl, trivial⟩ ?_
    exact fin _ (by rw [if_pos hb.1])
  · refine V.if_eqT (n2 := 59) d_Tr_addLeaf_43 (by omega) (by omega) (by decide) ?_
    refine V.iconst (n := 60) d_Tr_addLeaf_59 rfl ?_
    refine V.loc (lo' := [(3, rI sz), (2, rI q), (1, rI p), (0, rA E t)]) ⟨rfl, rfl, rfl, rfl, trivial⟩ ?_
    exact fin _ (by rw [if_neg (by omega)])
end CTW
end
section
/-! THE CLASS: trees, the way, costs -/
theorem oc_in (sz a b : Int) : 0 ≤ oc sz a b ∧ oc sz a b ≤ 2 := by
  unfold oc
  (repeat' split) <;> omega
def nxM (t g : Nat) (μ : MU) (n : Int) : Int := am (if μ (g + 2) (μ (t + 2) n) = 0 then μ (t + 8) else μ (t + 10)) (μ (t + 14) n) (μ (t + 12) n).toNat
/-- down from n by k steps, or to a leaf -/
def lf (nx cc : Int → Int) : Nat → Int → Int
  | 0, n => n
  | k + 1, n => if cc n = 0 then n else lf nx cc k (nx n)
def wy (nx cc : Int → Int) : Nat → Int → Int
  | 0, n => n
  | k + 1, n => if cc n = 0 then -5 else wy nx cc k (nx n)
theorem lf_s (nx cc : Int → Int) (k : Nat) (n : Int) : lf nx cc (k + 1) n = if cc n = 0 then n else lf nx cc k (nx n) := rfl
theorem wy_s (nx cc : Int → Int) (k : Nat) (n : Int) : wy nx cc (k + 1) n = if cc n = 0 then -5 else wy nx cc k (nx n) := rfl
/-- a node's children are later nodes -/
def okC (sz : Int) (pos cc fc : Int → Int) : Prop := ∀ n, 0 ≤ n → n < sz → 0 ≤ pos n ∧ pos n < 20 ∧ 0 ≤ cc n ∧ -5 ≤ fc n ∧ (0 < cc n → n < fc n) ∧ fc n + cc n ≤ sz
/-- costs are such in every place -/
def okX (pr dp : Int → Int) : Prop := ∀ j : Int, 0 ≤ j → j < 200 → 0 ≤ pr j ∧ pr j ≤ 9999 ∧ 0 ≤ dp j ∧ dp j ≤ 9999
/-- turns and counts of moves are such -/
def okG (μ : MU) (g : Nat) : Prop := ∀ p : Int, 0 ≤ p → p < 20 → 0 ≤ μ (g + 2) p ∧ μ (g + 2) p ≤ 1 ∧ 0 ≤ μ (g + 4) p ∧ μ (g + 4) p ≤ 2 ∧ 1 ≤ μ (g + 6) p ∧ μ (g + 6) p ≤ 9 ∧ 1 ≤ μ (g + 8) p ∧ μ (g + 8) p ≤ 9 ∧ 0 ≤ μ (g + 10) p ∧ μ (g + 10) p ≤ 20
def okM (μ : MU) (t g : Nat) : Prop := okG μ g ∧ 0 ≤ μ t 9 ∧ μ t 9 ≤ 200 ∧ okC (μ t 9) (μ (t + 2)) (μ (t + 12)) (μ (t + 14)) ∧ okX (μ (t + 8)) (μ (t + 10))
theorem nx_in {μ : MU} {t g : Nat} {n : Int} (h : okM μ t g) (h0 : 0 ≤ n) (h1 : n < μ t 9) (h2 : ¬ μ (t + 12) n = 0) : n < nxM t g μ n ∧ nxM t g μ n < μ t 9 := by
  obtain ⟨-, -, -, hc, -⟩ := h
  have h3 := hc n h0 h1
  have h4 := am_in (if μ (g + 2) (μ (t + 2) n) = 0 then μ (t + 8) else μ (t + 10)) (μ (t + 14) n) (μ (t + 12) n).toNat
  unfold nxM
  omega
section CTX
variable {E : EV} {l : Launch} {G : GG} {μ : MU} {g t : Nat} {n p q a b : Int}
theorem c_Tr_next (hT : isTree G t g) (hG : isGame G g) (h : okM μ t g) (h0 : 0 ≤ n) (h1 : n < μ t 9) : KV E l 2 m_Tr_cheapestChild t [rI n] G μ 0 0 (dq (some (rI (nxM t g μ n))) G μ) := by
  obtain ⟨hg, hs0, hs1, hc, hx⟩ := h
  have h3 := hc n h0 h1
  have h4 := hg (μ (t + 2) n) h3.1 h3.2.1
  exact c_Tr_cheapestChild hT hG h0 (by omega) (by omega) (by omega) (by omega) (by omega) (by omega) (by omega) (by omega) (fun j j0 j1 => by have := hx j j0 j1; omega)
theorem c_Tr_leafOnWay (hT : isTree G t g) (hG : isGame G g) (h : okM μ t g) (h0 : 0 < μ t 9) : KV E l 3 m_Tr_leafOnWay t [] G μ 0 0 (dq (some (rI (lf (nxM t g μ) (μ (t + 12)) 200 0))) G μ) := by
  have hT0 := hT
  obtain ⟨t0, t1, t2, t3, t4, t5, t6, t7, t8⟩ := hT
  refine ⟨KC.ofP q_Tr_leafOnWay.1 rfl (Nat.le_of_ble_eq_true rfl) rfl (fun Post NT ST hP => ?_), ⟨_, _, _, t0, rfl, rfl⟩, q_Tr_leafOnWay, by decide⟩
  refine V.iconst (n := 1) d_Tr_leafOnWay_0 rfl ?_
  refine V.istore_n (n := 2) d_Tr_leafOnWay_1 (by decide) rfl ?_
  refine V.iconst (n := 3) d_Tr_leafOnWay_2 rfl ?_
  refine V.istore_n (n := 4) d_Tr_leafOnWay_3 (by decide) rfl ?_
  have loop : ∀ (k : Nat) (i m : Int), i + k = 200 → 0 ≤ i → 0 ≤ m → m < μ t 9 → lf (nxM t g μ) (μ (t + 12)) 200 0 = lf (nxM t g μ) (μ (t + 12)) k m → V E l m_Tr_leafOnWay none 3 NT ST Post 4 [(2, rI i), (1, rI m), (0, rA E t)] [] G μ := by
    intro k
    induction k with
    | zero =>
      intro i m hk hi hm0 hm1 he
      rw [he] at hP
      refine V.iload_n (n := 5) d_Tr_leafOnWay_4 rfl rfl ?_
      refine V.sipush (n := 8) d_Tr_leafOnWay_5 (by decide) rfl ?_
      refine V.icmp_geT (n2 := 31) d_Tr_leafOnWay_8 (by omega) (by omega) (by omega) (by decide) ?_
      refine V.iload_n (n := 32) d_Tr_leafOnWay_31 rfl rfl ?_
      refine V.iret d_Tr_leafOnWay_32 ⟨_, rfl, rfl⟩ ?_
      exact hP _ _ ⟨rfl, rfl, rfl⟩
    | succ k ih =>
      intro i m hk hi hm0 hm1 he
      have h5 := h.2.2.2.1 m hm0 hm1
      have h6 := h.2.2.1
      refine V.iload_n (n := 5) d_Tr_leafOnWay_4 rfl rfl ?_
      refine V.sipush (n := 8) d_Tr_leafOnWay_5 (by decide) rfl ?_
      refine V.icmp_geF (n := 11) d_Tr_leafOnWay_8 (by omega) (by omega) (by omega) rfl ⟨31, by decide⟩ ?_
      refine V.aload_n (n := 12) d_Tr_leafOnWay_11 rfl rfl ?_
      refine V.iload_n (n := 13) d_Tr_leafOnWay_12 rfl rfl ?_
      refine V.cVi (n := 16) d_Tr_leafOnWay_13 k_Tr_109 (c_Tr_isLeaf (by assumption) (by omega) (by omega) (by omega)) rfl rfl (by decide) rfl ?_
      rcases bi_or (μ (t + 12) m = 0) with ⟨hb, e⟩ | ⟨hb, e⟩ <;> rw [e]
      · rw [he, lf_s, if_pos hb] at hP
        refine V.if_neT (n2 := 31) d_Tr_leafOnWay_16 (by omega) (by omega) (by decide) ?_
        refine V.iload_n (n := 32) d_Tr_leafOnWay_31 rfl rfl ?_
        refine V.iret d_Tr_leafOnWay_32 ⟨_, rfl, rfl⟩ ?_
        exact hP _ _ ⟨rfl, rfl, rfl⟩
      · have h7 := nx_in h hm0 hm1 hb
        refine V.if_neF (n := 19) d_Tr_leafOnWay_16 (by omega) (by omega) rfl ⟨31, by decide⟩ ?_
        refine V.aload_n (n := 20) d_Tr_leafOnWay_19 rfl rfl ?_
        refine V.iload_n (n := 21) d_Tr_leafOnWay_20 rfl rfl ?_
        refine V.cVi (n := 24) d_Tr_leafOnWay_21 k_Tr_112 (c_Tr_next hT0 hG h hm0 hm1) rfl rfl (by decide) rfl ?_
        refine V.istore_n (n := 25) d_Tr_leafOnWay_24 (by decide) rfl ?_
        refine V.iinc (n := 28) d_Tr_leafOnWay_25 rfl (by decide) rfl ?_
        refine V.goto (n := 4) d_Tr_leafOnWay_28 (by decide) ?_
        refine V.loc (lo' := [(2, rI (i + 1)), (1, rI (nxM t g μ m)), (0, rA E t)]) ⟨rfl, rfl, rfl, trivial⟩ ?_
        exact ih (i + 1) _ (by omega) (by omega) (by omega) (by omega) (by rw [he, lf_s, if_neg hb])
  refine V.loc (lo' := [(2, rI 0), (1, rI 0), (0, rA E t)]) ⟨rfl, rfl, rfl, trivial⟩ ?_
  exact loop 200 0 0 (by omega) (by omega) (by omega) (by omega) rfl
theorem lf_in {μ : MU} {t g : Nat} (h : okM μ t g) : ∀ (k : Nat) (n : Int), 0 ≤ n → n < μ t 9 → n ≤ lf (nxM t g μ) (μ (t + 12)) k n ∧ lf (nxM t g μ) (μ (t + 12)) k n < μ t 9
  | 0, n, _, h1 => ⟨Int.le_refl _, h1⟩
  | k + 1, n, h0, h1 => by
    rw [lf_s]
    by_cases hb : μ (t + 12) n = 0
    · rw [if_pos hb]; exact ⟨Int.le_refl _, h1⟩
    · rw [if_neg hb]
      have h7 := nx_in h h0 h1 hb
      have h8 := lf_in h k (nxM t g μ n) (by omega) (by omega)
      omega
theorem c_Tr_nodeOnWay (hT : isTree G t g) (hG : isGame G g) (h : okM μ t g) (h0 : 0 ≤ p) (h1 : p ≤ 2147483647) : KV E l 3 m_Tr_nodeOnWay t [rI p] G μ 0 0 (dq (some (rI (if μ t 9 = 0 ∨ ¬ oc (μ t 9) (μ (t + 8) 0) (μ (t + 10) 0) = 0 ∨ 200 ≤ p then -5 else wy (nxM t g μ) (μ (t + 12)) p.toNat 0))) G μ) := by
  have hT0 := hT
  obtain ⟨t0, t1, t2, t3, t4, t5, t6, t7, t8⟩ := hT
  have hs0 := h.2.1
  have hs1 := h.2.2.1
  have hx := h.2.2.2.2 0 (by omega) (by omega)
  have hoc := oc_in (μ t 9) (μ (t + 8) 0) (μ (t + 10) 0)
  refine ⟨KC.ofP q_Tr_nodeOnWay.1 rfl (Nat.le_of_ble_eq_true rfl) rfl (fun Post NT ST hP => ?_), ⟨_, _, _, t0, rfl, rfl⟩, q_Tr_nodeOnWay, by decide⟩
  refine V.aload_n (n := 1) d_Tr_nodeOnWay_0 rfl rfl ?_
  refine V.cVi (n := 4) d_Tr_nodeOnWay_1 k_Tr_62 (c_Tr_isEmpty (by assumption) (by omega)) rfl rfl (by decide) rfl ?_
  rcases bi_or (μ t 9 = 0) with ⟨hb, e⟩ | ⟨hb, e⟩ <;> rw [e]
  · rw [if_pos (Or.inl hb)] at hP
    refine V.if_neT (n2 := 21) d_Tr_nodeOnWay_4 (by omega) (by omega) (by decide) ?_
    refine V.bipush (n := 23) d_Tr_nodeOnWay_21 (by decide) rfl ?_
    refine V.iret d_Tr_nodeOnWay_23 ⟨_, rfl, rfl⟩ ?_
    exact hP _ _ ⟨rfl, rfl, rfl⟩
  · refine V.if_neF (n := 7) d_Tr_nodeOnWay_4 (by omega) (by omega) rfl ⟨21, by decide⟩ ?_
    refine V.aload_n (n := 8) d_Tr_nodeOnWay_7 rfl rfl ?_
    refine V.cVi (n := 11) d_Tr_nodeOnWay_8 k_Tr_115 (c_Tr_outcome (by assumption) (by omega) (by omega) (by omega)) rfl rfl (by decide) rfl ?_
    refine V.if_ne (n2 := 21) (n := 14) d_Tr_nodeOnWay_11 (by omega) (by decide) rfl (fun h2 => ?_) (fun h2 => ?_)
    · rw [if_pos (Or.inr (Or.inl h2))] at hP
      refine V.bipush (n := 23) d_Tr_nodeOnWay_21 (by decide) rfl ?_
      refine V.iret d_Tr_nodeOnWay_23 ⟨_, rfl, rfl⟩ ?_
      exact hP _ _ ⟨rfl, rfl, rfl⟩
    · refine V.iload_n (n := 15) d_Tr_nodeOnWay_14 rfl rfl ?_
      refine V.sipush (n := 18) d_Tr_nodeOnWay_15 (by decide) rfl ?_
      refine V.icmp_lt (n2 := 24) (n := 21) d_Tr_nodeOnWay_18 (by omega) (by omega) (by decide) rfl (fun h3 => ?_) (fun h3 => ?_)
      · refine V.iconst (n := 25) d_Tr_nodeOnWay_24 rfl ?_
        refine V.istore_n (n := 26) d_Tr_nodeOnWay_25 (by decide) rfl ?_
        refine V.iconst (n := 27) d_Tr_nodeOnWay_26 rfl ?_
        refine V.istore_n (n := 28) d_Tr_nodeOnWay_27 (by decide) rfl ?_
        rw [if_neg (by omega)] at hP
        have loop : ∀ (k : Nat) (i m : Int), i + k = p → 0 ≤ i → 0 ≤ m → m < μ t 9 → wy (nxM t g μ) (μ (t + 12)) p.toNat 0 = wy (nxM t g μ) (μ (t + 12)) k m → V E l m_Tr_nodeOnWay none 3 NT ST Post 28 [(3, rI i), (2, rI m), (1, rI p), (0, rA E t)] [] G μ := by
          intro k
          induction k with
          | zero =>
            intro i m hk hi hm0 hm1 he
            rw [he] at hP
            refine V.iload_n (n := 29) d_Tr_nodeOnWay_28 rfl rfl ?_
            refine V.iload_n (n := 30) d_Tr_nodeOnWay_29 rfl rfl ?_
            refine V.icmp_geT (n2 := 56) d_Tr_nodeOnWay_30 (by omega) (by omega) (by omega) (by decide) ?_
            refine V.iload_n (n := 57) d_Tr_nodeOnWay_56 rfl rfl ?_
            refine V.iret d_Tr_nodeOnWay_57 ⟨_, rfl, rfl⟩ ?_
            exact hP _ _ ⟨rfl, rfl, rfl⟩
          | succ k ih =>
            intro i m hk hi hm0 hm1 he
            have h5 := h.2.2.2.1 m hm0 hm1
            refine V.iload_n (n := 29) d_Tr_nodeOnWay_28 rfl rfl ?_
            refine V.iload_n (n := 30) d_Tr_nodeOnWay_29 rfl rfl ?_
            refine V.icmp_geF (n := 33) d_Tr_nodeOnWay_30 (by omega) (by omega) (by omega) rfl ⟨56, by decide⟩ ?_
            refine V.aload_n (n := 34) d_Tr_nodeOnWay_33 rfl rfl ?_
            refine V.iload_n (n := 35) d_Tr_nodeOnWay_34 rfl rfl ?_
            refine V.cVi (n := 38) d_Tr_nodeOnWay_35 k_Tr_109 (c_Tr_isLeaf (by assumption) (by omega) (by omega) (by omega)) rfl rfl (by decide) rfl ?_
            rcases bi_or (μ (t + 12) m = 0) with ⟨hb, e⟩ | ⟨hb, e⟩ <;> rw [e]
            · rw [he, wy_s, if_pos hb] at hP
              refine V.if_eqF (n := 41) d_Tr_nodeOnWay_38 (by omega) (by omega) rfl ⟨44, by decide⟩ ?_
              refine V.bipush (n := 43) d_Tr_nodeOnWay_41 (by decide) rfl ?_
              refine V.iret d_Tr_nodeOnWay_43 ⟨_, rfl, rfl⟩ ?_
              exact hP _ _ ⟨rfl, rfl, rfl⟩
            · have h7 := nx_in h hm0 hm1 hb
              refine V.if_eqT (n2 := 44) d_Tr_nodeOnWay_38 (by omega) (by omega) (by decide) ?_
              refine V.aload_n (n := 45) d_Tr_nodeOnWay_44 rfl rfl ?_
              refine V.iload_n (n := 46) d_Tr_nodeOnWay_45 rfl rfl ?_
              refine V.cVi (n := 49) d_Tr_nodeOnWay_46 k_Tr_112 (c_Tr_next hT0 hG h hm0 hm1) rfl rfl (by decide) rfl ?_
              refine V.istore_n (n := 50) d_Tr_nodeOnWay_49 (by decide) rfl ?_
              refine V.iinc (n := 53) d_Tr_nodeOnWay_50 rfl (by decide) rfl ?_
              refine V.goto (n := 28) d_Tr_nodeOnWay_53 (by decide) ?_
              refine V.loc (lo' := [(3, rI (i + 1)), (2, rI (nxM t g μ m)), (1, rI p), (0, rA E t)]) ⟨rfl, rfl, rfl, rfl, trivial⟩ ?_
              exact ih (i + 1) _ (by omega) (by omega) (by omega) (by omega) (by rw [he, wy_s, if_neg hb])
        refine V.loc (lo' := [(3, rI 0), (2, rI 0), (1, rI p), (0, rA E t)]) ⟨rfl, rfl, rfl, rfl, trivial⟩ ?_
        exact loop p.toNat 0 0 (by omega) (by omega) (by omega) (by omega) rfl
      · rw [if_pos (by omega)] at hP
        refine V.bipush (n := 23) d_Tr_nodeOnWay_21 (by decide) rfl ?_
        refine V.iret d_Tr_nodeOnWay_23 ⟨_, rfl, rfl⟩ ?_
        exact hP _ _ ⟨rfl, rfl, rfl⟩
theorem c_Tr_canGrow (hT : isTree G t g) (hG : isGame G g) (h : okM μ t g) : KV E l 4 m_Tr_canGrow t [] G μ 0 0 (dq (some (rI (bi (¬ μ t 9 = 0 ∧ oc (μ t 9) (μ (t + 8) 0) (μ (t + 10) 0) = 0 ∧ μ (g + 10) (μ (t + 2) (lf (nxM t g μ) (μ (t + 12)) 200 0)) ≤ 200 - μ t 9)))) G μ) := by
  have hT0 := hT
  have hG0 := hG
  obtain ⟨t0, t1, t2, t3, t4, t5, t6, t7, t8⟩ := hT
  obtain ⟨a0, a1, a2, a3, a4, a5, a6⟩ := hG
  have hs0 := h.2.1
  have hs1 := h.2.2.1
  have hx := h.2.2.2.2 0 (by omega) (by omega)
  have hoc := oc_in (μ t 9) (μ (t + 8) 0) (μ (t + 10) 0)
  refine ⟨KC.ofP q_Tr_canGrow.1 rfl (Nat.le_of_ble_eq_true rfl) rfl (fun Post NT ST hP => ?_), ⟨_, _, _, t0, rfl, rfl⟩, q_Tr_canGrow, by decide⟩
  refine V.aload_n (n := 1) d_Tr_canGrow_0 rfl rfl ?_
  refine V.cVi (n := 4) d_Tr_canGrow_1 k_Tr_62 (c_Tr_isEmpty (by assumption) (by omega)) rfl rfl (by decide) rfl ?_
  rcases bi_or (μ t 9 = 0) with ⟨hb, e⟩ | ⟨hb, e⟩ <;> rw [e]
  · rw [bi_f (fun x => x.1 hb)] at hP
    refine V.if_neT (n2 := 14) d_Tr_canGrow_4 (by omega) (by omega) (by decide) ?_
    refine V.iconst (n := 15) d_Tr_canGrow_14 rfl ?_
    refine V.iret d_Tr_canGrow_15 ⟨_, rfl, rfl⟩ ?_
    exact hP _ _ ⟨rfl, rfl, rfl⟩
  · refine V.if_neF (n := 7) d_Tr_canGrow_4 (by omega) (by omega) rfl ⟨14, by decide⟩ ?_
    refine V.aload_n (n := 8) d_Tr_canGrow_7 rfl rfl ?_
    refine V.cVi (n := 11) d_Tr_canGrow_8 k_Tr_115 (c_Tr_outcome (by assumption) (by omega) (by omega) (by omega)) rfl rfl (by decide) rfl ?_
    refine V.if_eq (n2 := 16) (n := 14) d_Tr_canGrow_11 (by omega) (by decide) rfl (fun h2 => ?_) (fun h2 => ?_)
    · refine V.aload_n (n := 17) d_Tr_canGrow_16 rfl rfl ?_
      refine V.getA (n := 20) d_Tr_canGrow_17 f_Tr_41 (by assumption) rfl rfl ?_
      refine V.getA (n := 23) d_Tr_canGrow_20 f_Tr_119 (by assumption) rfl rfl ?_
      refine V.aload_n (n := 24) d_Tr_canGrow_23 rfl rfl ?_
      refine V.getA (n := 27) d_Tr_canGrow_24 f_Tr_14 (by assumption) rfl rfl ?_
      refine V.aload_n (n := 28) d_Tr_canGrow_27 rfl rfl ?_
      have hl := lf_in h 200 0 (by omega) (by omega)
      have hc := h.2.2.2.1 _ hl.1 hl.2
      have hg := h.1 _ hc.1 hc.2.1
      refine V.cVi (n := 31) d_Tr_canGrow_28 k_Tr_122 (c_Tr_leafOnWay hT0 hG0 h (by omega)) rfl rfl (by decide) rfl ?_
      refine V.cVi (n := 34) d_Tr_canGrow_31 k_Tr_53 (c_Rw_get (by assumption) (by omega) (by omega)) rfl rfl (by decide) rfl ?_
      refine V.cVi (n := 37) d_Tr_canGrow_34 k_Tr_53 (c_Rw_get (by assumption) (by omega) (by omega)) rfl rfl (by decide) rfl ?_
      refine V.sipush (n := 40) d_Tr_canGrow_37 (by decide) rfl ?_
      refine V.aload_n (n := 41) d_Tr_canGrow_40 rfl rfl ?_
      refine V.getI (n := 44) d_Tr_canGrow_41 f_Tr_49 (by assumption) rfl rfl ?_
      refine V.isub (n := 45) d_Tr_canGrow_44 rfl ?_
      refine V.icmp_gt (n2 := 52) (n := 48) d_Tr_canGrow_45 (by omega) (by omega) (by decide) rfl (fun h3 => ?_) (fun h3 => ?_)
      · rw [bi_f (by omega)] at hP
        refine V.iconst (n := 53) d_Tr_canGrow_52 rfl ?_
        refine V.iret d_Tr_canGrow_53 ⟨_, rfl, rfl⟩ ?_
        exact hP _ _ ⟨rfl, rfl, rfl⟩
      · rw [bi_t ⟨hb, h2, by omega⟩] at hP
        refine V.iconst (n := 49) d_Tr_canGrow_48 rfl ?_
        refine V.goto (n := 53) d_Tr_canGrow_49 (by decide) ?_
        refine V.iret d_Tr_canGrow_53 ⟨_, rfl, rfl⟩ ?_
        exact hP _ _ ⟨rfl, rfl, rfl⟩
    · rw [bi_f (fun x => h2 x.2.1)] at hP
      refine V.iconst (n := 15) d_Tr_canGrow_14 rfl ?_
      refine V.iret d_Tr_canGrow_15 ⟨_, rfl, rfl⟩ ?_
      exact hP _ _ ⟨rfl, rfl, rfl⟩
theorem c_Tr_leastOfChildren {row c : Nat} (hT : isTree G t g) (hrow : isRow G row c 200) (h0 : 0 ≤ n) (h1 : n < 200) (h5 : 0 ≤ μ (t + 12) n) (h6 : -5 ≤ μ (t + 14) n) (h7 : μ (t + 14) n + μ (t + 12) n ≤ 200) (h8 : 0 < μ (t + 12) n → 0 ≤ μ (t + 14) n) (hx : ∀ j : Int, 0 ≤ j → j < 200 → 0 ≤ μ c j ∧ μ c j ≤ 9999) : KV E l 2 m_Tr_leastOfChildren t [rI n, rA E row] G μ 0 0 (dq (some (rI (mn (μ c) (μ (t + 14) n) (μ (t + 12) n).toNat))) G μ) := by
  have hT0 := hT
  obtain ⟨t0, t1, t2, t3, t4, t5, t6, t7, t8⟩ := hT
  refine ⟨KC.ofP q_Tr_leastOfChildren.1 rfl (Nat.le_of_ble_eq_true rfl) rfl (fun Post NT ST hP => ?_), ⟨_, _, _, t0, rfl, rfl⟩, q_Tr_leastOfChildren, by decide⟩
  refine V.aload_n (n := 1) d_Tr_leastOfChildren_0 rfl rfl ?_
  refine V.iload_n (n := 2) d_Tr_leastOfChildren_1 rfl rfl ?_
  refine V.cVi (n := 5) d_Tr_leastOfChildren_2 k_Tr_106 (c_Tr_endOfChildren (by assumption) (by omega) (by omega)) rfl rfl (by decide) rfl ?_
  refine V.istore_n (n := 6) d_Tr_leastOfChildren_5 (by decide) rfl ?_
  refine V.sipush (n := 9) d_Tr_leastOfChildren_6 (by decide) rfl ?_
  refine V.istore (n := 11) d_Tr_leastOfChildren_9 (by decide) rfl ?_
  refine V.aload_n (n := 12) d_Tr_leastOfChildren_11 rfl rfl ?_
  refine V.getA (n := 15) d_Tr_leastOfChildren_12 f_Tr_35 (by assumption) rfl rfl ?_
  refine V.iload_n (n := 16) d_Tr_leastOfChildren_15 rfl rfl ?_
  refine V.cVi (n := 19) d_Tr_leastOfChildren_16 k_Tr_53 (c_Rw_get (by assumption) (by omega) (by omega)) rfl rfl (by decide) rfl ?_
  refine V.istore (n := 21) d_Tr_leastOfChildren_19 (by decide) rfl ?_
  have loop : ∀ (k j : Nat), (j : Int) + k = μ (t + 12) n → 0 ≤ mn (μ c) (μ (t + 14) n) j → mn (μ c) (μ (t + 14) n) j ≤ 9999 → V E l m_Tr_leastOfChildren none 2 NT ST Post 21 [(5, rI (μ (t + 14) n + j)), (4, rI (mn (μ c) (μ (t + 14) n) j)), (3, rI (μ (t + 14) n + μ (t + 12) n)), (2, rA E row), (1, rI n), (0, rA E t)] [] G μ := by
    intro k
    induction k with
    | zero =>
      intro j hj m0 m1
      rw [show (μ (t + 12) n).toNat = j by omega] at hP
      refine V.iload (n := 23) d_Tr_leastOfChildren_21 rfl rfl ?_
      refine V.iload_n (n := 24) d_Tr_leastOfChildren_23 rfl rfl ?_
      refine V.icmp_geT (n2 := 46) d_Tr_leastOfChildren_24 (by omega) (by omega) (by omega) (by decide) ?_
      refine V.iload (n := 48) d_Tr_leastOfChildren_46 rfl rfl ?_
      refine V.iret d_Tr_leastOfChildren_48 ⟨_, rfl, rfl⟩ ?_
      exact hP _ _ ⟨rfl, rfl, rfl⟩
    | succ k ih =>
      intro j hj m0 m1
      have hc := hx (μ (t + 14) n + j) (by omega) (by omega)
      refine V.iload (n := 23) d_Tr_leastOfChildren_21 rfl rfl ?_
      refine V.iload_n (n := 24) d_Tr_leastOfChildren_23 rfl rfl ?_
      refine V.icmp_geF (n := 27) d_Tr_leastOfChildren_24 (by omega) (by omega) (by omega) rfl ⟨46, by decide⟩ ?_
      refine V.iload (n := 29) d_Tr_leastOfChildren_27 rfl rfl ?_
      refine V.aload_n (n := 30) d_Tr_leastOfChildren_29 rfl rfl ?_
      refine V.iload (n := 32) d_Tr_leastOfChildren_30 rfl rfl ?_
      refine V.cVi (n := 35) d_Tr_leastOfChildren_32 k_Tr_53 (c_Rw_get (by assumption) (by omega) (by omega)) rfl rfl (by decide) rfl ?_
      refine V.mmin (n := 38) d_Tr_leastOfChildren_35 k_Tr_142 (by omega) (by omega) rfl (by decide) rfl ?_
      refine V.istore (n := 40) d_Tr_leastOfChildren_38 (by decide) rfl ?_
      refine V.iinc (n := 43) d_Tr_leastOfChildren_40 rfl (by decide) rfl ?_
      refine V.goto (n := 21) d_Tr_leastOfChildren_43 (by decide) ?_
      have hs : mn (μ c) (μ (t + 14) n) (j + 1) = min (mn (μ c) (μ (t + 14) n) j) (μ c (μ (t + 14) n + j)) := rfl
      have hx2 := ih (j + 1) (by omega) (by omega) (by omega)
      rw [hs, show μ (t + 14) n + ((j + 1 : Nat) : Int) = μ (t + 14) n + j + 1 by omega] at hx2
      refine V.loc (lo' := [(5, rI (μ (t + 14) n + j + 1)), (4, rI (min (mn (μ c) (μ (t + 14) n) j) (μ c (μ (t + 14) n + j)))), (3, rI (μ (t + 14) n + μ (t + 12) n)), (2, rA E row), (1, rI n), (0, rA E t)]) ⟨rfl, rfl, rfl, rfl, rfl, rfl, trivial⟩ ?_
      exact hx2
  have hl := loop (μ (t + 12) n).toNat 0 (by omega) (by show (0 : Int) ≤ 9999; omega) (by show (9999 : Int) ≤ 9999; omega)
  rw [show μ (t + 14) n + ((0 : Nat) : Int) = μ (t + 14) n by omega] at hl
  refine V.loc (lo' := [(5, rI (μ (t + 14) n)), (4, rI 9999), (3, rI (μ (t + 14) n + μ (t + 12) n)), (2, rA E row), (1, rI n), (0, rA E t)]) ⟨rfl, rfl, rfl, rfl, rfl, rfl, trivial⟩ ?_
  exact hl
theorem c_Tr_sumOfChildren {row c : Nat} (hT : isTree G t g) (hrow : isRow G row c 200) (h0 : 0 ≤ n) (h1 : n < 200) (h5 : 0 ≤ μ (t + 12) n) (h6 : -5 ≤ μ (t + 14) n) (h7 : μ (t + 14) n + μ (t + 12) n ≤ 200) (h8 : 0 < μ (t + 12) n → 0 ≤ μ (t + 14) n) (hx : ∀ j : Int, 0 ≤ j → j < 200 → 0 ≤ μ c j ∧ μ c j ≤ 9999) : KV E l 2 m_Tr_sumOfChildren t [rI n, rA E row] G μ 0 0 (dq (some (rI (sm (μ c) (μ (t + 14) n) (μ (t + 12) n).toNat))) G μ) := by
  have hT0 := hT
  obtain ⟨t0, t1, t2, t3, t4, t5, t6, t7, t8⟩ := hT
  refine ⟨KC.ofP q_Tr_sumOfChildren.1 rfl (Nat.le_of_ble_eq_true rfl) rfl (fun Post NT ST hP => ?_), ⟨_, _, _, t0, rfl, rfl⟩, q_Tr_sumOfChildren, by decide⟩
  refine V.aload_n (n := 1) d_Tr_sumOfChildren_0 rfl rfl ?_
  refine V.iload_n (n := 2) d_Tr_sumOfChildren_1 rfl rfl ?_
  refine V.cVi (n := 5) d_Tr_sumOfChildren_2 k_Tr_106 (c_Tr_endOfChildren (by assumption) (by omega) (by omega)) rfl rfl (by decide) rfl ?_
  refine V.istore_n (n := 6) d_Tr_sumOfChildren_5 (by decide) rfl ?_
  refine V.iconst (n := 7) d_Tr_sumOfChildren_6 rfl ?_
  refine V.istore (n := 9) d_Tr_sumOfChildren_7 (by decide) rfl ?_
  refine V.aload_n (n := 10) d_Tr_sumOfChildren_9 rfl rfl ?_
  refine V.getA (n := 13) d_Tr_sumOfChildren_10 f_Tr_35 (by assumption) rfl rfl ?_
  refine V.iload_n (n := 14) d_Tr_sumOfChildren_13 rfl rfl ?_
  refine V.cVi (n := 17) d_Tr_sumOfChildren_14 k_Tr_53 (c_Rw_get (by assumption) (by omega) (by omega)) rfl rfl (by decide) rfl ?_
  refine V.istore (n := 19) d_Tr_sumOfChildren_17 (by decide) rfl ?_
  have loop : ∀ (k j : Nat), (j : Int) + k = μ (t + 12) n → 0 ≤ sm (μ c) (μ (t + 14) n) j → sm (μ c) (μ (t + 14) n) j ≤ 9999 → V E l m_Tr_sumOfChildren none 2 NT ST Post 19 [(5, rI (μ (t + 14) n + j)), (4, rI (sm (μ c) (μ (t + 14) n) j)), (3, rI (μ (t + 14) n + μ (t + 12) n)), (2, rA E row), (1, rI n), (0, rA E t)] [] G μ := by
    intro k
    induction k with
    | zero =>
      intro j hj m0 m1
      rw [show (μ (t + 12) n).toNat = j by omega] at hP
      refine V.iload (n := 21) d_Tr_sumOfChildren_19 rfl rfl ?_
      refine V.iload_n (n := 22) d_Tr_sumOfChildren_21 rfl rfl ?_
      refine V.icmp_geT (n2 := 48) d_Tr_sumOfChildren_22 (by omega) (by omega) (by omega) (by decide) ?_
      refine V.iload (n := 50) d_Tr_sumOfChildren_48 rfl rfl ?_
      refine V.iret d_Tr_sumOfChildren_50 ⟨_, rfl, rfl⟩ ?_
      exact hP _ _ ⟨rfl, rfl, rfl⟩
    | succ k ih =>
      intro j hj m0 m1
      have hc := hx (μ (t + 14) n + j) (by omega) (by omega)
      refine V.iload (n := 21) d_Tr_sumOfChildren_19 rfl rfl ?_
      refine V.iload_n (n := 22) d_Tr_sumOfChildren_21 rfl rfl ?_
      refine V.icmp_geF (n := 25) d_Tr_sumOfChildren_22 (by omega) (by omega) (by omega) rfl ⟨48, by decide⟩ ?_
      refine V.sipush (n := 28) d_Tr_sumOfChildren_25 (by decide) rfl ?_
      refine V.iload (n := 30) d_Tr_sumOfChildren_28 rfl rfl ?_
      refine V.aload_n (n := 31) d_Tr_sumOfChildren_30 rfl rfl ?_
      refine V.iload (n := 33) d_Tr_sumOfChildren_31 rfl rfl ?_
      refine V.cVi (n := 36) d_Tr_sumOfChildren_33 k_Tr_53 (c_Rw_get (by assumption) (by omega) (by omega)) rfl rfl (by decide) rfl ?_
      refine V.iadd (n := 37) d_Tr_sumOfChildren_36 rfl ?_
      refine V.mmin (n := 40) d_Tr_sumOfChildren_37 k_Tr_142 (by omega) (by omega) rfl (by decide) rfl ?_
      refine V.istore (n := 42) d_Tr_sumOfChildren_40 (by decide) rfl ?_
      refine V.iinc (n := 45) d_Tr_sumOfChildren_42 rfl (by decide) rfl ?_
      refine V.goto (n := 19) d_Tr_sumOfChildren_45 (by decide) ?_
      have hs : sm (μ c) (μ (t + 14) n) (j + 1) = min 9999 (sm (μ c) (μ (t + 14) n) j + μ c (μ (t + 14) n + j)) := rfl
      have hx2 := ih (j + 1) (by omega) (by omega) (by omega)
      rw [hs, show μ (t + 14) n + ((j + 1 : Nat) : Int) = μ (t + 14) n + j + 1 by omega] at hx2
      refine V.loc (lo' := [(5, rI (μ (t + 14) n + j + 1)), (4, rI (min 9999 (sm (μ c) (μ (t + 14) n) j + μ c (μ (t + 14) n + j)))), (3, rI (μ (t + 14) n + μ (t + 12) n)), (2, rA E row), (1, rI n), (0, rA E t)]) ⟨rfl, rfl, rfl, rfl, rfl, rfl, trivial⟩ ?_
      exact hx2
  have hl := loop (μ (t + 12) n).toNat 0 (by omega) (by show (0 : Int) ≤ 0; omega) (by show (0 : Int) ≤ 9999; omega)
  rw [show μ (t + 14) n + ((0 : Nat) : Int) = μ (t + 14) n by omega] at hl
  refine V.loc (lo' := [(5, rI (μ (t + 14) n)), (4, rI 0), (3, rI (μ (t + 14) n + μ (t + 12) n)), (2, rA E row), (1, rI n), (0, rA E t)]) ⟨rfl, rfl, rfl, rfl, rfl, rfl, trivial⟩ ?_
  exact hl
end CTX
end
section
/-! THE CLASS: trees, costs worked out, a leaf opened, counts, copies -/
/-- the costs of n worked out anew -/
def woM (t g : Nat) (μ : MU) (n : Int) : MU :=
  wr (wr μ (t + 8) n (if μ (g + 2) (μ (t + 2) n) = 0 then mn (μ (t + 8)) (μ (t + 14) n) (μ (t + 12) n).toNat else sm (μ (t + 8)) (μ (t + 14) n) (μ (t + 12) n).toNat)) (t + 10) n (if μ (g + 2) (μ (t + 2) n) = 0 then sm (μ (t + 10)) (μ (t + 14) n) (μ (t + 12) n).toNat else mn (μ (t + 10)) (μ (t + 14) n) (μ (t + 12) n).toNat)
/-- and of those above it -/
def wuM (t g : Nat) : Nat → Int → MU → MU
  | 0, _, μ => μ
  | k + 1, n, μ => if n < 0 then μ else wuM t g k (μ (t + 4) n) (woM t g μ n)
theorem wuM_s (t g k : Nat) (n : Int) (μ : MU) : wuM t g (k + 1) n μ = if n < 0 then μ else wuM t g k (μ (t + 4) n) (woM t g μ n) := rfl
theorem wuM_neg {t g : Nat} {n : Int} {μ : MU} (h : n < 0) : ∀ k, wuM t g k n μ = μ
  | 0 => rfl
  | k + 1 => by rw [wuM_s, if_pos h]
theorem mn_in {c : Int → Int} {lo : Int} : ∀ {k : Nat}, (∀ j : Nat, j < k → 0 ≤ c (lo + j) ∧ c (lo + j) ≤ 9999) → 0 ≤ mn c lo k ∧ mn c lo k ≤ 9999
  | 0, _ => ⟨by show (0 : Int) ≤ 9999; omega, by show (9999 : Int) ≤ 9999; omega⟩
  | k + 1, h => by
    have h1 := mn_in (k := k) (fun j hj => h j (by omega))
    have h2 := h k (by omega)
    show 0 ≤ min (mn c lo k) (c (lo + k)) ∧ min (mn c lo k) (c (lo + k)) ≤ 9999
    omega
theorem sm_in {c : Int → Int} {lo : Int} : ∀ {k : Nat}, (∀ j : Nat, j < k → 0 ≤ c (lo + j) ∧ c (lo + j) ≤ 9999) → 0 ≤ sm c lo k ∧ sm c lo k ≤ 9999
  | 0, _ => ⟨by show (0 : Int) ≤ 0; omega, by show (0 : Int) ≤ 9999; omega⟩
  | k + 1, h => by
    have h1 := sm_in (k := k) (fun j hj => h j (by omega))
    have h2 := h k (by omega)
    show 0 ≤ min 9999 (sm c lo k + c (lo + k)) ∧ min 9999 (sm c lo k + c (lo + k)) ≤ 9999
    omega
theorem woM_off {t g : Nat} {μ : MU} {n : Int} {b : Nat} (h1 : ¬ b = t + 8) (h2 : ¬ b = t + 10) : woM t g μ n b = μ b := by
  unfold woM
  rw [wr_a h2, wr_a h1]
theorem woM_X {t g : Nat} {μ : MU} {n : Int} (hx : okX (μ (t + 8)) (μ (t + 10))) (h0 : -5 ≤ μ (t + 14) n) (h1 : 0 < μ (t + 12) n → 0 ≤ μ (t + 14) n) (h2 : μ (t + 14) n + μ (t + 12) n ≤ 200) : okX (woM t g μ n (t + 8)) (woM t g μ n (t + 10)) := by
  intro j j0 j1
  have a1 := mn_in (c := μ (t + 8)) (lo := μ (t + 14) n) (k := (μ (t + 12) n).toNat) (fun j hj => by have := hx (μ (t + 14) n + j) (by omega) (by omega); omega)
  have a2 := mn_in (c := μ (t + 10)) (lo := μ (t + 14) n) (k := (μ (t + 12) n).toNat) (fun j hj => by have := hx (μ (t + 14) n + j) (by omega) (by omega); omega)
  have a3 := sm_in (c := μ (t + 8)) (lo := μ (t + 14) n) (k := (μ (t + 12) n).toNat) (fun j hj => by have := hx (μ (t + 14) n + j) (by omega) (by omega); omega)
  have a4 := sm_in (c := μ (t + 10)) (lo := μ (t + 14) n) (k := (μ (t + 12) n).toNat) (fun j hj => by have := hx (μ (t + 14) n + j) (by omega) (by omega); omega)
  have a5 := hx j j0 j1
  unfold woM
  rw [wr_a (show ¬ t + 8 = t + 10 by omega), wr_v, wr_v, wr_a (show ¬ t + 10 = t + 8 by omega)]
  refine ⟨?_, ?_, ?_, ?_⟩
  · by_cases hj : j = n
    · rw [if_pos hj]; split <;> omega
    · rw [if_neg hj]; omega
  · by_cases hj : j = n
    · rw [if_pos hj]; split <;> omega
    · rw [if_neg hj]; omega
  · by_cases hj : j = n
    · rw [if_pos hj]; split <;> omega
    · rw [if_neg hj]; omega
  · by_cases hj : j = n
    · rw [if_pos hj]; split <;> omega
    · rw [if_neg hj]; omega
section CTZ
variable {E : EV} {l : Launch} {G : GG} {μ : MU} {g t h : Nat} {n p q a b : Int}
theorem c_Tr_workOut (hT : isTree G t g) (hG : isGame G g) (h0 : 0 ≤ n) (h1 : n < 200) (h2 : 0 ≤ μ (t + 2) n) (h3 : μ (t + 2) n < 20) (h4 : inR (μ (g + 2) (μ (t + 2) n))) (h5 : 0 ≤ μ (t + 12) n) (h6 : -5 ≤ μ (t + 14) n) (h7 : μ (t + 14) n + μ (t + 12) n ≤ 200) (h8 : 0 < μ (t + 12) n → 0 ≤ μ (t + 14) n) (hx : okX (μ (t + 8)) (μ (t + 10))) : KV E l 3 m_Tr_workOut t [rI n] G μ 0 0 (dq none G (woM t g μ n)) := by
  have hT0 := hT
  have hG0 := hG
  obtain ⟨t0, t1, t2, t3, t4, t5, t6, t7, t8⟩ := hT
  have x1 : ∀ j : Int, 0 ≤ j → j < 200 → 0 ≤ μ (t + 8) j ∧ μ (t + 8) j ≤ 9999 := fun j j0 j1 => by have := hx j j0 j1; omega
  have x2 : ∀ j : Int, 0 ≤ j → j < 200 → 0 ≤ μ (t + 10) j ∧ μ (t + 10) j ≤ 9999 := fun j j0 j1 => by have := hx j j0 j1; omega
  refine ⟨KC.ofP q_Tr_workOut.1 rfl (Nat.le_of_ble_eq_true rfl) rfl (fun Post NT ST hP => ?_), ⟨_, _, _, t0, rfl, rfl⟩, q_Tr_workOut, by decide⟩
  refine V.aload_n (n := 1) d_Tr_workOut_0 rfl rfl ?_
  refine V.iload_n (n := 2) d_Tr_workOut_1 rfl rfl ?_
  refine V.cVi (n := 5) d_Tr_workOut_2 k_Tr_103 (c_Tr_turnAt (by assumption) (by assumption) (by omega) (by omega) (by omega) (by omega)) rfl rfl (by decide) rfl ?_
  refine V.if_ne (n2 := 34) (n := 8) d_Tr_workOut_5 (by omega) (by decide) rfl (fun h9 => ?_) (fun h9 => ?_)
  · refine V.aload_n (n := 35) d_Tr_workOut_34 rfl rfl ?_
    refine V.iload_n (n := 36) d_Tr_workOut_35 rfl rfl ?_
    refine V.aload_n (n := 37) d_Tr_workOut_36 rfl rfl ?_
    refine V.iload_n (n := 38) d_Tr_workOut_37 rfl rfl ?_
    refine V.aload_n (n := 39) d_Tr_workOut_38 rfl rfl ?_
    refine V.getA (n := 42) d_Tr_workOut_39 f_Tr_26 (by assumption) rfl rfl ?_
    refine V.cVi (n := 45) d_Tr_workOut_42 k_Tr_139 (c_Tr_sumOfChildren hT0 t4 h0 h1 h5 h6 h7 h8 x1) rfl rfl (by decide) rfl ?_
    refine V.aload_n (n := 46) d_Tr_workOut_45 rfl rfl ?_
    refine V.iload_n (n := 47) d_Tr_workOut_46 rfl rfl ?_
    refine V.aload_n (n := 48) d_Tr_workOut_47 rfl rfl ?_
    refine V.getA (n := 51) d_Tr_workOut_48 f_Tr_29 (by assumption) rfl rfl ?_
    refine V.cVi (n := 54) d_Tr_workOut_51 k_Tr_135 (c_Tr_leastOfChildren hT0 t5 h0 h1 h5 h6 h7 h8 x2) rfl rfl (by decide) rfl ?_
    refine V.cVv (n := 57) d_Tr_workOut_54 k_Tr_90 (c_Tr_setCosts (by assumption) (by omega) (by omega)) rfl rfl (by decide) rfl ?_
    refine V.vret d_Tr_workOut_57 rfl ?_
    refine hP _ _ ⟨rfl, rfl, ?_⟩
    unfold woM
    rw [if_neg h9, if_neg h9]
  · refine V.aload_n (n := 9) d_Tr_workOut_8 rfl rfl ?_
    refine V.iload_n (n := 10) d_Tr_workOut_9 rfl rfl ?_
    refine V.aload_n (n := 11) d_Tr_workOut_10 rfl rfl ?_
    refine V.iload_n (n := 12) d_Tr_workOut_11 rfl rfl ?_
    refine V.aload_n (n := 13) d_Tr_workOut_12 rfl rfl ?_
    refine V.getA (n := 16) d_Tr_workOut_13 f_Tr_26 (by assumption) rfl rfl ?_
    refine V.cVi (n := 19) d_Tr_workOut_16 k_Tr_135 (c_Tr_leastOfChildren hT0 t4 h0 h1 h5 h6 h7 h8 x1) rfl rfl (by decide) rfl ?_
    refine V.aload_n (n := 20) d_Tr_workOut_19 rfl rfl ?_
    refine V.iload_n (n := 21) d_Tr_workOut_20 rfl rfl ?_
    refine V.aload_n (n := 22) d_Tr_workOut_21 rfl rfl ?_
    refine V.getA (n := 25) d_Tr_workOut_22 f_Tr_29 (by assumption) rfl rfl ?_
    refine V.cVi (n := 28) d_Tr_workOut_25 k_Tr_139 (c_Tr_sumOfChildren hT0 t5 h0 h1 h5 h6 h7 h8 x2) rfl rfl (by decide) rfl ?_
    refine V.cVv (n := 31) d_Tr_workOut_28 k_Tr_90 (c_Tr_setCosts (by assumption) (by omega) (by omega)) rfl rfl (by decide) rfl ?_
    refine V.goto (n := 57) d_Tr_workOut_31 (by decide) ?_
    refine V.vret d_Tr_workOut_57 rfl ?_
    refine hP _ _ ⟨rfl, rfl, ?_⟩
    unfold woM
    rw [if_pos h9, if_pos h9]
theorem c_Tr_workOutFrom (hT : isTree G t g) (hG : isGame G g) (hgt : t + 16 < g ∨ g + 12 < t) (hg : okG μ g) (hs0 : 0 ≤ μ t 9) (hs1 : μ t 9 ≤ 200) (hn : n = -5 ∨ (0 ≤ n ∧ n < μ t 9)) (hp : okP (μ (t + 2)) (μ (t + 4)) (μ t 9)) (hc : okC (μ t 9) (μ (t + 2)) (μ (t + 12)) (μ (t + 14))) (hx : okX (μ (t + 8)) (μ (t + 10))) : KV E l 4 m_Tr_workOutFrom t [rI n] G μ 0 0 (dq none G (wuM t g 200 n μ)) := by
  have hT0 := hT
  have hG0 := hG
  obtain ⟨t0, t1, t2, t3, t4, t5, t6, t7, t8⟩ := hT
  refine ⟨KC.ofP q_Tr_workOutFrom.1 rfl (Nat.le_of_ble_eq_true rfl) rfl (fun Post NT ST hP => ?_), ⟨_, _, _, t0, rfl, rfl⟩, q_Tr_workOutFrom, by decide⟩
  refine V.iload_n (n := 1) d_Tr_workOutFrom_0 rfl rfl ?_
  refine V.istore_n (n := 2) d_Tr_workOutFrom_1 (by decide) rfl ?_
  refine V.iconst (n := 3) d_Tr_workOutFrom_2 rfl ?_
  refine V.istore_n (n := 4) d_Tr_workOutFrom_3 (by decide) rfl ?_
  have loop : ∀ (k : Nat) (i m : Int) (ν : MU), i + k = 200 → 0 ≤ i → (m = -5 ∨ (0 ≤ m ∧ m < μ t 9 ∧ m < k)) → (∀ b, ¬ b = t + 8 → ¬ b = t + 10 → ν b = μ b) → okX (ν (t + 8)) (ν (t + 10)) → wuM t g 200 n μ = wuM t g k m ν → V E l m_Tr_workOutFrom none 4 NT ST Post 4 [(3, rI i), (2, rI m), (1, rI n), (0, rA E t)] [] G ν := by
    intro k
    induction k with
    | zero =>
      intro i m ν hk hi hm ho hxx he
      rw [he] at hP
      refine V.iload_n (n := 5) d_Tr_workOutFrom_4 rfl rfl ?_
      refine V.sipush (n := 8) d_Tr_workOutFrom_5 (by decide) rfl ?_
      refine V.icmp_geT (n2 := 39) d_Tr_workOutFrom_8 (by omega) (by omega) (by omega) (by decide) ?_
      refine V.vret d_Tr_workOutFrom_39 rfl ?_
      exact hP _ _ ⟨rfl, rfl, rfl⟩
    | succ k ih =>
      intro i m ν hk hi hm ho hxx he
      have e9 : ν t 9 = μ t 9 := by rw [ho t (by omega) (by omega)]
      have f2 : ν (t + 2) = μ (t + 2) := ho _ (by omega) (by omega)
      have f4 : ν (t + 4) = μ (t + 4) := ho _ (by omega) (by omega)
      have f12 : ν (t + 12) = μ (t + 12) := ho _ (by omega) (by omega)
      have f14 : ν (t + 14) = μ (t + 14) := ho _ (by omega) (by omega)
      have fg2 : ν (g + 2) = μ (g + 2) := ho _ (by omega) (by omega)
      refine V.iload_n (n := 5) d_Tr_workOutFrom_4 rfl rfl ?_
      refine V.sipush (n := 8) d_Tr_workOutFrom_5 (by decide) rfl ?_
      refine V.icmp_geF (n := 11) d_Tr_workOutFrom_8 (by omega) (by omega) (by omega) rfl ⟨39, by decide⟩ ?_
      refine V.aload_n (n := 12) d_Tr_workOutFrom_11 rfl rfl ?_
      refine V.iload_n (n := 13) d_Tr_workOutFrom_12 rfl rfl ?_
      refine V.cVi (n := 16) d_Tr_workOutFrom_13 k_Tr_76 (c_Tr_has (by assumption) (by omega) (by omega)) rfl rfl (by decide) rfl ?_
      rw [e9]
      rcases bi_or (0 ≤ m ∧ m < μ t 9) with ⟨hb, e⟩ | ⟨hb, e⟩ <;> rw [e]
      · have h1 := hp m hb.1 hb.2
        have h2 := hc m hb.1 hb.2
        have h3 := hg (μ (t + 2) m) h1.1 h1.2.1
        have hX := woM_X (t := t) (g := g) (μ := ν) (n := m) hxx (by rw [f14]; omega) (by rw [f14, f12]; omega) (by rw [f14, f12]; omega)
        refine V.if_eqF (n := 19) d_Tr_workOutFrom_16 (by omega) (by omega) rfl ⟨39, by decide⟩ ?_
        refine V.aload_n (n := 20) d_Tr_workOutFrom_19 rfl rfl ?_
        refine V.iload_n (n := 21) d_Tr_workOutFrom_20 rfl rfl ?_
        refine V.cVv (n := 24) d_Tr_workOutFrom_21 k_Tr_132 (c_Tr_workOut hT0 hG0 (by omega) (by omega) (by rw [f2]; omega) (by rw [f2]; omega) (by rw [f2, fg2]; omega) (by rw [f12]; omega) (by rw [f14]; omega) (by rw [f14, f12]; omega) (by rw [f14, f12]; omega) hxx) rfl rfl (by decide) rfl ?_
        refine V.aload_n (n := 25) d_Tr_workOutFrom_24 rfl rfl ?_
        refine V.getA (n := 28) d_Tr_workOutFrom_25 f_Tr_20 (by assumption) rfl rfl ?_
        refine V.iload_n (n := 29) d_Tr_workOutFrom_28 rfl rfl ?_
        refine V.cVi (n := 32) d_Tr_workOutFrom_29 k_Tr_53 (c_Rw_get (by assumption) (by omega) (by omega)) rfl rfl (by decide) rfl ?_
        refine V.istore_n (n := 33) d_Tr_workOutFrom_32 (by decide) rfl ?_
        refine V.iinc (n := 36) d_Tr_workOutFrom_33 rfl (by decide) rfl ?_
        refine V.goto (n := 4) d_Tr_workOutFrom_36 (by decide) ?_
        rw [woM_off (show ¬ t + 4 = t + 8 by omega) (by omega), f4]
        refine V.loc (lo' := [(3, rI (i + 1)), (2, rI (μ (t + 4) m)), (1, rI n), (0, rA E t)]) ⟨rfl, rfl, rfl, rfl, trivial⟩ ?_
        refine ih (i + 1) _ _ (by omega) (by omega) ?_ (fun b b1 b2 => by rw [woM_off b1 b2, ho b b1 b2]) hX (by rw [he, wuM_s, if_neg (by omega), f4])
        by_cases hz : m = 0
        · exact Or.inl (h1.2.2.1 hz)
        · have := h1.2.2.2 (by omega)
          exact Or.inr (by omega)
      · have hm5 : m = -5 := by omega
        rw [he, wuM_neg (by omega)] at hP
        refine V.if_eqT (n2 := 39) d_Tr_workOutFrom_16 (by omega) (by omega) (by decide) ?_
        refine V.vret d_Tr_workOutFrom_39 rfl ?_
        exact hP _ _ ⟨rfl, rfl, rfl⟩
  refine V.loc (lo' := [(3, rI 0), (2, rI n), (1, rI n), (0, rA E t)]) ⟨rfl, rfl, rfl, rfl, trivial⟩ ?_
  exact loop 200 0 n μ (by omega) (by omega) (by omega) (fun _ _ _ => rfl) hx rfl
/-- a column's sum over the nodes before k, of what a function makes of each -/
def cs (f : Int → Int) : Nat → Int
  | 0 => 0
  | k + 1 => cs f k + f k
/-- the greatest of a column before k -/
def mxc (f : Int → Int) : Nat → Int
  | 0 => 0
  | k + 1 => max (mxc f k) (f k)
theorem cs_s (f : Int → Int) (k : Nat) : cs f (k + 1) = cs f k + f k := rfl
theorem mxc_s (f : Int → Int) (k : Nat) : mxc f (k + 1) = max (mxc f k) (f k) := rfl
theorem c_Tr_loopCount (hT : isTree G t g) (hs0 : 0 ≤ μ t 9) (hs1 : μ t 9 ≤ 200) : KV E l 1 m_Tr_loopCount t [] G μ 0 0 (dq (some (rI (cs (μ (t + 16)) (μ t 9).toNat))) G μ) := by
  have hT0 := hT
  obtain ⟨t0, t1, t2, t3, t4, t5, t6, t7, t8⟩ := hT
  refine ⟨KC.ofP q_Tr_loopCount.1 rfl (Nat.le_of_ble_eq_true rfl) rfl (fun Post NT ST hP => ?_), ⟨_, _, _, t0, rfl, rfl⟩, q_Tr_loopCount, by decide⟩
  refine V.iconst (n := 1) d_Tr_loopCount_0 rfl ?_
  refine V.istore_n (n := 2) d_Tr_loopCount_1 (by decide) rfl ?_
  refine V.iconst (n := 3) d_Tr_loopCount_2 rfl ?_
  refine V.istore_n (n := 4) d_Tr_loopCount_3 (by decide) rfl ?_
  have loop : ∀ (k j : Nat), (j : Int) + k = μ t 9 → V E l m_Tr_loopCount none 1 NT ST Post 4 [(2, rI j), (1, rI (cs (μ (t + 16)) j)), (0, rA E t)] [] G μ := by
    intro k
    induction k with
    | zero =>
      intro j hj
      rw [show (μ t 9).toNat = j by omega] at hP
      refine V.iload_n (n := 5) d_Tr_loopCount_4 rfl rfl ?_
      refine V.aload_n (n := 6) d_Tr_loopCount_5 rfl rfl ?_
      refine V.getI (n := 9) d_Tr_loopCount_6 f_Tr_49 (by assumption) rfl rfl ?_
      refine V.icmp_geT (n2 := 29) d_Tr_loopCount_9 (by omega) (by omega) (by omega) (by decide) ?_
      refine V.iload_n (n := 30) d_Tr_loopCount_29 rfl rfl ?_
      refine V.iret d_Tr_loopCount_30 ⟨_, rfl, rfl⟩ ?_
      exact hP _ _ ⟨rfl, rfl, rfl⟩
    | succ k ih =>
      intro j hj
      refine V.iload_n (n := 5) d_Tr_loopCount_4 rfl rfl ?_
      refine V.aload_n (n := 6) d_Tr_loopCount_5 rfl rfl ?_
      refine V.getI (n := 9) d_Tr_loopCount_6 f_Tr_49 (by assumption) rfl rfl ?_
      refine V.icmp_geF (n := 12) d_Tr_loopCount_9 (by omega) (by omega) (by omega) rfl ⟨29, by decide⟩ ?_
      refine V.iload_n (n := 13) d_Tr_loopCount_12 rfl rfl ?_
      refine V.aload_n (n := 14) d_Tr_loopCount_13 rfl rfl ?_
      refine V.getA (n := 17) d_Tr_loopCount_14 f_Tr_38 (by assumption) rfl rfl ?_
      refine V.iload_n (n := 18) d_Tr_loopCount_17 rfl rfl ?_
      refine V.cVi (n := 21) d_Tr_loopCount_18 k_Tr_53 (c_Rw_get (by assumption) (by omega) (by omega)) rfl rfl (by decide) rfl ?_
      refine V.iadd (n := 22) d_Tr_loopCount_21 rfl ?_
      refine V.istore_n (n := 23) d_Tr_loopCount_22 (by decide) rfl ?_
      refine V.iinc (n := 26) d_Tr_loopCount_23 rfl (by decide) rfl ?_
      refine V.goto (n := 4) d_Tr_loopCount_26 (by decide) ?_
      have hx := ih (j + 1) (by omega)
      rw [cs_s, show ((j + 1 : Nat) : Int) = (j : Int) + 1 by omega] at hx
      refine V.loc (lo' := [(2, rI ((j : Int) + 1)), (1, rI (cs (μ (t + 16)) j + μ (t + 16) j)), (0, rA E t)]) ⟨rfl, rfl, rfl, trivial⟩ ?_
      exact hx
  have hl := loop (μ t 9).toNat 0 (by omega)
  refine V.loc (lo' := [(2, rI 0), (1, rI 0), (0, rA E t)]) ⟨rfl, rfl, rfl, trivial⟩ ?_
  exact hl
theorem c_Tr_openedCount (hT : isTree G t g) (hs0 : 0 ≤ μ t 9) (hs1 : μ t 9 ≤ 200) (hc : ∀ j : Int, 0 ≤ j → j < μ t 9 → inR (μ (t + 12) j)) : KV E l 2 m_Tr_openedCount t [] G μ 0 0 (dq (some (rI (cs (fun j => bi (¬ μ (t + 12) j = 0)) (μ t 9).toNat))) G μ) := by
  have hT0 := hT
  obtain ⟨t0, t1, t2, t3, t4, t5, t6, t7, t8⟩ := hT
  refine ⟨KC.ofP q_Tr_openedCount.1 rfl (Nat.le_of_ble_eq_true rfl) rfl (fun Post NT ST hP => ?_), ⟨_, _, _, t0, rfl, rfl⟩, q_Tr_openedCount, by decide⟩
  refine V.iconst (n := 1) d_Tr_openedCount_0 rfl ?_
  refine V.istore_n (n := 2) d_Tr_openedCount_1 (by decide) rfl ?_
  refine V.iconst (n := 3) d_Tr_openedCount_2 rfl ?_
  refine V.istore_n (n := 4) d_Tr_openedCount_3 (by decide) rfl ?_
  have loop : ∀ (k j : Nat), (j : Int) + k = μ t 9 → V E l m_Tr_openedCount none 2 NT ST Post 4 [(2, rI j), (1, rI (cs (fun j => bi (¬ μ (t + 12) j = 0)) j)), (0, rA E t)] [] G μ := by
    intro k
    induction k with
    | zero =>
      intro j hj
      rw [show (μ t 9).toNat = j by omega] at hP
      refine V.iload_n (n := 5) d_Tr_openedCount_4 rfl rfl ?_
      refine V.aload_n (n := 6) d_Tr_openedCount_5 rfl rfl ?_
      refine V.getI (n := 9) d_Tr_openedCount_6 f_Tr_49 (by assumption) rfl rfl ?_
      refine V.icmp_geT (n2 := 29) d_Tr_openedCount_9 (by omega) (by omega) (by omega) (by decide) ?_
      refine V.iload_n (n := 30) d_Tr_openedCount_29 rfl rfl ?_
      refine V.iret d_Tr_openedCount_30 ⟨_, rfl, rfl⟩ ?_
      exact hP _ _ ⟨rfl, rfl, rfl⟩
    | succ k ih =>
      intro j hj
      have hcj := hc j (by omega) (by omega)
      have hx := ih (j + 1) (by omega)
      rw [cs_s, show ((j + 1 : Nat) : Int) = (j : Int) + 1 by omega] at hx
      refine V.iload_n (n := 5) d_Tr_openedCount_4 rfl rfl ?_
      refine V.aload_n (n := 6) d_Tr_openedCount_5 rfl rfl ?_
      refine V.getI (n := 9) d_Tr_openedCount_6 f_Tr_49 (by assumption) rfl rfl ?_
      refine V.icmp_geF (n := 12) d_Tr_openedCount_9 (by omega) (by omega) (by omega) rfl ⟨29, by decide⟩ ?_
      refine V.aload_n (n := 13) d_Tr_openedCount_12 rfl rfl ?_
      refine V.iload_n (n := 14) d_Tr_openedCount_13 rfl rfl ?_
      refine V.cVi (n := 17) d_Tr_openedCount_14 k_Tr_109 (c_Tr_isLeaf (by assumption) (by omega) (by omega) (by omega)) rfl rfl (by decide) rfl ?_
      rcases bi_or (μ (t + 12) (j : Int) = 0) with ⟨hb, e⟩ | ⟨hb, e⟩ <;> rw [e]
      · rw [bi_f (fun x => x hb), Int.add_zero] at hx
        refine V.if_neT (n2 := 23) d_Tr_openedCount_17 (by omega) (by omega) (by decide) ?_
        refine V.iinc (n := 26) d_Tr_openedCount_23 rfl (by decide) rfl ?_
        refine V.goto (n := 4) d_Tr_openedCount_26 (by decide) ?_
        refine V.loc (lo' := [(2, rI ((j : Int) + 1)), (1, rI (cs (fun j => bi (¬ μ (t + 12) j = 0)) j)), (0, rA E t)]) ⟨rfl, rfl, rfl, trivial⟩ ?_
        exact hx
      · rw [bi_t hb] at hx
        refine V.if_neF (n := 20) d_Tr_openedCount_17 (by omega) (by omega) rfl ⟨23, by decide⟩ ?_
        refine V.iinc (n := 23) d_Tr_openedCount_20 rfl (by decide) rfl ?_
        refine V.iinc (n := 26) d_Tr_openedCount_23 rfl (by decide) rfl ?_
        refine V.goto (n := 4) d_Tr_openedCount_26 (by decide) ?_
        refine V.loc (lo' := [(2, rI ((j : Int) + 1)), (1, rI (cs (fun j => bi (¬ μ (t + 12) j = 0)) j + 1)), (0, rA E t)]) ⟨rfl, rfl, rfl, trivial⟩ ?_
        exact hx
  have hl := loop (μ t 9).toNat 0 (by omega)
  refine V.loc (lo' := [(2, rI 0), (1, rI 0), (0, rA E t)]) ⟨rfl, rfl, rfl, trivial⟩ ?_
  exact hl
theorem c_Tr_greatestDepth (hT : isTree G t g) (hs0 : 0 ≤ μ t 9) (hs1 : μ t 9 ≤ 200) (hd : ∀ j : Int, 0 ≤ j → j < μ t 9 → 0 ≤ μ (t + 6) j ∧ μ (t + 6) j ≤ 200) : KV E l 1 m_Tr_greatestDepth t [] G μ 0 0 (dq (some (rI (mxc (μ (t + 6)) (μ t 9).toNat))) G μ) := by
  have hT0 := hT
  obtain ⟨t0, t1, t2, t3, t4, t5, t6, t7, t8⟩ := hT
  refine ⟨KC.ofP q_Tr_greatestDepth.1 rfl (Nat.le_of_ble_eq_true rfl) rfl (fun Post NT ST hP => ?_), ⟨_, _, _, t0, rfl, rfl⟩, q_Tr_greatestDepth, by decide⟩
  refine V.iconst (n := 1) d_Tr_greatestDepth_0 rfl ?_
  refine V.istore_n (n := 2) d_Tr_greatestDepth_1 (by decide) rfl ?_
  refine V.iconst (n := 3) d_Tr_greatestDepth_2 rfl ?_
  refine V.istore_n (n := 4) d_Tr_greatestDepth_3 (by decide) rfl ?_
  have loop : ∀ (k j : Nat), (j : Int) + k = μ t 9 → 0 ≤ mxc (μ (t + 6)) j → mxc (μ (t + 6)) j ≤ 200 → V E l m_Tr_greatestDepth none 1 NT ST Post 4 [(2, rI j), (1, rI (mxc (μ (t + 6)) j)), (0, rA E t)] [] G μ := by
    intro k
    induction k with
    | zero =>
      intro j hj m0 m1
      rw [show (μ t 9).toNat = j by omega] at hP
      refine V.iload_n (n := 5) d_Tr_greatestDepth_4 rfl rfl ?_
      refine V.aload_n (n := 6) d_Tr_greatestDepth_5 rfl rfl ?_
      refine V.getI (n := 9) d_Tr_greatestDepth_6 f_Tr_49 (by assumption) rfl rfl ?_
      refine V.icmp_geT (n2 := 31) d_Tr_greatestDepth_9 (by omega) (by omega) (by omega) (by decide) ?_
      refine V.iload_n (n := 32) d_Tr_greatestDepth_31 rfl rfl ?_
      refine V.iret d_Tr_greatestDepth_32 ⟨_, rfl, rfl⟩ ?_
      exact hP _ _ ⟨rfl, rfl, rfl⟩
    | succ k ih =>
      intro j hj m0 m1
      have hdj := hd j (by omega) (by omega)
      have hx := ih (j + 1) (by omega)
      rw [mxc_s, show ((j + 1 : Nat) : Int) = (j : Int) + 1 by omega] at hx
      have hx2 := hx (by omega) (by omega)
      refine V.iload_n (n := 5) d_Tr_greatestDepth_4 rfl rfl ?_
      refine V.aload_n (n := 6) d_Tr_greatestDepth_5 rfl rfl ?_
      refine V.getI (n := 9) d_Tr_greatestDepth_6 f_Tr_49 (by assumption) rfl rfl ?_
      refine V.icmp_geF (n := 12) d_Tr_greatestDepth_9 (by omega) (by omega) (by omega) rfl ⟨31, by decide⟩ ?_
      refine V.iload_n (n := 13) d_Tr_greatestDepth_12 rfl rfl ?_
      refine V.aload_n (n := 14) d_Tr_greatestDepth_13 rfl rfl ?_
      refine V.getA (n := 17) d_Tr_greatestDepth_14 f_Tr_23 (by assumption) rfl rfl ?_
      refine V.iload_n (n := 18) d_Tr_greatestDepth_17 rfl rfl ?_
      refine V.cVi (n := 21) d_Tr_greatestDepth_18 k_Tr_53 (c_Rw_get (by assumption) (by omega) (by omega)) rfl rfl (by decide) rfl ?_
      refine V.mmax (n := 24) d_Tr_greatestDepth_21 k_Tr_147 (by omega) (by omega) rfl (by decide) rfl ?_
      refine V.istore_n (n := 25) d_Tr_greatestDepth_24 (by decide) rfl ?_
      refine V.iinc (n := 28) d_Tr_greatestDepth_25 rfl (by decide) rfl ?_
      refine V.goto (n := 4) d_Tr_greatestDepth_28 (by decide) ?_
      refine V.loc (lo' := [(2, rI ((j : Int) + 1)), (1, rI (max (mxc (μ (t + 6)) j) (μ (t + 6) j))), (0, rA E t)]) ⟨rfl, rfl, rfl, trivial⟩ ?_
      exact hx2
  have hl := loop (μ t 9).toNat 0 (by omega) (by show (0 : Int) ≤ 0; omega) (by show (0 : Int) ≤ 200; omega)
  refine V.loc (lo' := [(2, rI 0), (1, rI 0), (0, rA E t)]) ⟨rfl, rfl, rfl, trivial⟩ ?_
  exact hl
theorem c_Tr_copyFrom (hT : isTree G t g) {x y : Nat} (hT2 : isTree G x y) (hd : t + 16 < x ∨ x + 16 < t) : KV E l 2 m_Tr_copyFrom t [rA E x] G μ 0 0 (dqv (fun μ' => (∀ b, b < t ∨ t + 16 < b → μ' b = μ b) ∧ (∀ j : Int, 0 ≤ j → j < 200 → μ' (t + 2) j = μ (x + 2) j ∧ μ' (t + 4) j = μ (x + 4) j ∧ μ' (t + 6) j = μ (x + 6) j ∧ μ' (t + 8) j = μ (x + 8) j ∧ μ' (t + 10) j = μ (x + 10) j ∧ μ' (t + 12) j = μ (x + 12) j ∧ μ' (t + 14) j = μ (x + 14) j ∧ μ' (t + 16) j = μ (x + 16) j) ∧ μ' t 9 = μ x 9) G) := by
  obtain ⟨t0, t1, t2, t3, t4, t5, t6, t7, t8⟩ := hT
  obtain ⟨b0, b1, b2, b3, b4, b5, b6, b7, b8⟩ := hT2
  refine ⟨KC.ofP q_Tr_copyFrom.1 rfl (Nat.le_of_ble_eq_true rfl) rfl (fun Post NT ST hP => ?_), ⟨_, _, _, t0, rfl, rfl⟩, q_Tr_copyFrom, by decide⟩
  refine V.aload_n (n := 1) d_Tr_copyFrom_0 rfl rfl ?_
  refine V.getA (n := 4) d_Tr_copyFrom_1 f_Tr_14 (by assumption) rfl rfl ?_
  refine V.aload_n (n := 5) d_Tr_copyFrom_4 rfl rfl ?_
  refine V.getA (n := 8) d_Tr_copyFrom_5 f_Tr_14 (by assumption) rfl rfl ?_
  refine V.cVv (n := 11) d_Tr_copyFrom_8 k_Tr_45 (c_Rw_copyFrom (by assumption) (by assumption)) rfl rfl (by decide) rfl ?_
  refine V.aload_n (n := 12) d_Tr_copyFrom_11 rfl rfl ?_
  refine V.getA (n := 15) d_Tr_copyFrom_12 f_Tr_20 (by assumption) rfl rfl ?_
  refine V.aload_n (n := 16) d_Tr_copyFrom_15 rfl rfl ?_
  refine V.getA (n := 19) d_Tr_copyFrom_16 f_Tr_20 (by assumption) rfl rfl ?_
  refine V.cVv (n := 22) d_Tr_copyFrom_19 k_Tr_45 (c_Rw_copyFrom (by assumption) (by assumption)) rfl rfl (by decide) rfl ?_
  refine V.aload_n (n := 23) d_Tr_copyFrom_22 rfl rfl ?_
  refine V.getA (n := 26) d_Tr_copyFrom_23 f_Tr_23 (by assumption) rfl rfl ?_
  refine V.aload_n (n := 27) d_Tr_copyFrom_26 rfl rfl ?_
  refine V.getA (n := 30) d_Tr_copyFrom_27 f_Tr_23 (by assumption) rfl rfl ?_
  refine V.cVv (n := 33) d_Tr_copyFrom_30 k_Tr_45 (c_Rw_copyFrom (by assumption) (by assumption)) rfl rfl (by decide) rfl ?_
  refine V.aload_n (n := 34) d_Tr_copyFrom_33 rfl rfl ?_
  refine V.getA (n := 37) d_Tr_copyFrom_34 f_Tr_26 (by assumption) rfl rfl ?_
  refine V.aload_n (n := 38) d_Tr_copyFrom_37 rfl rfl ?_
  refine V.getA (n := 41) d_Tr_copyFrom_38 f_Tr_26 (by assumption) rfl rfl ?_
  refine V.cVv (n := 44) d_Tr_copyFrom_41 k_Tr_45 (c_Rw_copyFrom (by assumption) (by assumption)) rfl rfl (by decide) rfl ?_
  refine V.aload_n (n := 45) d_Tr_copyFrom_44 rfl rfl ?_
  refine V.getA (n := 48) d_Tr_copyFrom_45 f_Tr_29 (by assumption) rfl rfl ?_
  refine V.aload_n (n := 49) d_Tr_copyFrom_48 rfl rfl ?_
  refine V.getA (n := 52) d_Tr_copyFrom_49 f_Tr_29 (by assumption) rfl rfl ?_
  refine V.cVv (n := 55) d_Tr_copyFrom_52 k_Tr_45 (c_Rw_copyFrom (by assumption) (by assumption)) rfl rfl (by decide) rfl ?_
  refine V.aload_n (n := 56) d_Tr_copyFrom_55 rfl rfl ?_
  refine V.getA (n := 59) d_Tr_copyFrom_56 f_Tr_32 (by assumption) rfl rfl ?_
  refine V.aload_n (n := 60) d_Tr_copyFrom_59 rfl rfl ?_
  refine V.getA (n := 63) d_Tr_copyFrom_60 f_Tr_32 (by assumption) rfl rfl ?_
  refine V.cVv (n := 66) d_Tr_copyFrom_63 k_Tr_45 (c_Rw_copyFrom (by assumption) (by assumption)) rfl rfl (by decide) rfl ?_
  refine V.aload_n (n := 67) d_Tr_copyFrom_66 rfl rfl ?_
  refine V.getA (n := 70) d_Tr_copyFrom_67 f_Tr_35 (by assumption) rfl rfl ?_
  refine V.aload_n (n := 71) d_Tr_copyFrom_70 rfl rfl ?_
  refine V.getA (n := 74) d_Tr_copyFrom_71 f_Tr_35 (by assumption) rfl rfl ?_
  refine V.cVv (n := 77) d_Tr_copyFrom_74 k_Tr_45 (c_Rw_copyFrom (by assumption) (by assumption)) rfl rfl (by decide) rfl ?_
  refine V.aload_n (n := 78) d_Tr_copyFrom_77 rfl rfl ?_
  refine V.getA (n := 81) d_Tr_copyFrom_78 f_Tr_38 (by assumption) rfl rfl ?_
  refine V.aload_n (n := 82) d_Tr_copyFrom_81 rfl rfl ?_
  refine V.getA (n := 85) d_Tr_copyFrom_82 f_Tr_38 (by assumption) rfl rfl ?_
  refine V.cVv (n := 88) d_Tr_copyFrom_85 k_Tr_45 (c_Rw_copyFrom (by assumption) (by assumption)) rfl rfl (by decide) rfl ?_
  refine V.aload_n (n := 89) d_Tr_copyFrom_88 rfl rfl ?_
  refine V.aload_n (n := 90) d_Tr_copyFrom_89 rfl rfl ?_
  refine V.getI (n := 93) d_Tr_copyFrom_90 f_Tr_49 (by assumption) rfl rfl ?_
  refine V.putI (n := 96) d_Tr_copyFrom_93 f_Tr_49 t_Tr_size ⟨rfl, rfl⟩ (by assumption) rfl rfl ?_
  refine V.vret d_Tr_copyFrom_96 rfl ?_
  refine hP _ _ ⟨rfl, rfl, ?_⟩
  have e1 : ∀ x y : Nat, ¬ x = y → ∀ (μ : MU) (f : Int → Int), wrC μ y f x = μ x := fun x y hxy μ f => by simp [wrC, hxy]
  have e2 : ∀ (x : Nat) (μ : MU) (f : Int → Int), wrC μ x f x = f := fun x μ f => by simp [wrC]
  refine ⟨fun b c1 => ?_, fun j j0 j1 => ⟨?_, ?_, ?_, ?_, ?_, ?_, ?_, ?_⟩, ?_⟩
  · rw [wr_a (by omega), e1 _ _ (by omega), e1 _ _ (by omega), e1 _ _ (by omega), e1 _ _ (by omega), e1 _ _ (by omega), e1 _ _ (by omega), e1 _ _ (by omega), e1 _ _ (by omega)]
  · rw [wr_a (by omega), e1 _ _ (by omega), e1 _ _ (by omega), e1 _ _ (by omega), e1 _ _ (by omega), e1 _ _ (by omega), e1 _ _ (by omega), e1 _ _ (by omega), e2]
    exact if_pos ⟨j0, j1⟩
  · rw [wr_a (by omega), e1 _ _ (by omega), e1 _ _ (by omega), e1 _ _ (by omega), e1 _ _ (by omega), e1 _ _ (by omega), e1 _ _ (by omega), e2, if_pos ⟨j0, j1⟩, e1 _ _ (by omega)]
  · rw [wr_a (by omega), e1 _ _ (by omega), e1 _ _ (by omega), e1 _ _ (by omega), e1 _ _ (by omega), e1 _ _ (by omega), e2, if_pos ⟨j0, j1⟩, e1 _ _ (by omega), e1 _ _ (by omega)]
  · rw [wr_a (by omega), e1 _ _ (by omega), e1 _ _ (by omega), e1 _ _ (by omega), e1 _ _ (by omega), e2, if_pos ⟨j0, j1⟩, e1 _ _ (by omega), e1 _ _ (by omega), e1 _ _ (by omega)]
  · rw [wr_a (by omega), e1 _ _ (by omega), e1 _ _ (by omega), e1 _ _ (by omega), e2, if_pos ⟨j0, j1⟩, e1 _ _ (by omega), e1 _ _ (by omega), e1 _ _ (by omega), e1 _ _ (by omega)]
  · rw [wr_a (by omega), e1 _ _ (by omega), e1 _ _ (by omega), e2, if_pos ⟨j0, j1⟩, e1 _ _ (by omega), e1 _ _ (by omega), e1 _ _ (by omega), e1 _ _ (by omega), e1 _ _ (by omega)]
  · rw [wr_a (by omega), e1 _ _ (by omega), e2, if_pos ⟨j0, j1⟩, e1 _ _ (by omega), e1 _ _ (by omega), e1 _ _ (by omega), e1 _ _ (by omega), e1 _ _ (by omega), e1 _ _ (by omega)]
  · rw [wr_a (by omega), e2, if_pos ⟨j0, j1⟩, e1 _ _ (by omega), e1 _ _ (by omega), e1 _ _ (by omega), e1 _ _ (by omega), e1 _ _ (by omega), e1 _ _ (by omega), e1 _ _ (by omega)]
  · rw [wr_s, e1 _ _ (by omega), e1 _ _ (by omega), e1 _ _ (by omega), e1 _ _ (by omega), e1 _ _ (by omega), e1 _ _ (by omega), e1 _ _ (by omega), e1 _ _ (by omega)]
end CTZ
end
section
/-! THE CLASS: a leaf is opened -/
/-- what is made of a leaf m at the position tg under w -/
def LN (t g : Nat) (μ : MU) (w : Int) (ν : MU) (m tg : Int) : Prop :=
  ν (t + 2) m = tg ∧ ν (t + 4) m = w ∧ ν (t + 6) m = μ (t + 6) w + 1 ∧ ν (t + 12) m = 0 ∧ ν (t + 14) m = -5 ∧
  ∀ e v o : Prop, ∀ [Decidable e] [Decidable v] [Decidable o], (e ↔ (¬ μ (g + 4) tg = 0 ∨ μ (g + 10) tg = 0)) → (v ↔ μ (g + 4) tg = 1) → (o ↔ ow (μ (t + 2)) (μ (t + 4)) tg 200 w = true) → ν (t + 8) m = lcP e v o (μ (g + 6) tg) ∧ ν (t + 10) m = lcD e v o (μ (g + 8) tg) ∧ ν (t + 16) m = bi (¬ e ∧ o)
/-- behind r new leaves of w -/
def GI (t g : Nat) (μ : MU) (w : Int) (ν : MU) (r : Int) : Prop :=
  (∀ b, b < t ∨ t + 16 < b → ν b = μ b) ∧ ν t 9 = μ t 9 + r ∧
  (∀ b, t < b → b ≤ t + 16 → ∀ j, (j < μ t 9 ∨ μ t 9 + r ≤ j) → ν b j = if b = t + 14 ∧ j = w then μ t 9 else if b = t + 12 ∧ j = w then μ (g + 10) (μ (t + 2) w) else μ b j) ∧
  ∀ i, 0 ≤ i → i < r → LN t g μ w ν (μ t 9 + i) (μ (g + 12) (μ (t + 2) w * 20 + i))
theorem GI.at {t g : Nat} {μ ν : MU} {w r j : Int} {b : Nat} (h : GI t g μ w ν r) (h1 : t < b) (h2 : b ≤ t + 16) (h3 : ¬ b = t + 12) (h4 : ¬ b = t + 14) (h5 : j < μ t 9 ∨ μ t 9 + r ≤ j) : ν b j = μ b j := by
  rw [h.2.2.1 b h1 h2 j h5, if_neg (fun x => h4 x.1), if_neg (fun x => h3 x.1)]
/-- moves lead to positions -/
def okT (μ : MU) (g : Nat) : Prop := ∀ p r : Int, 0 ≤ p → p < 20 → 0 ≤ r → r < μ (g + 10) p → 0 ≤ μ (g + 12) (p * 20 + r) ∧ μ (g + 12) (p * 20 + r) < 20
section CGW
variable {E : EV} {l : Launch} {G : GG} {μ : MU} {g t h : Nat} {n p q a b : Int}
theorem c_Tr_grow (hT : isTree G t g) (hG : isGame G g) (hgt : t + 16 < g ∨ g + 12 < t) (h : okM μ t g) (hP0 : okP (μ (t + 2)) (μ (t + 4)) (μ t 9)) (hTg : okT μ g) (h0 : 0 < μ t 9) {w : Int} (hw : w = lf (nxM t g μ) (μ (t + 12)) 200 0) (hroom : μ (g + 10) (μ (t + 2) w) ≤ 200 - μ t 9) : KV E l 5 m_Tr_grow t [] G μ 0 0 (dqv (fun μ' => ∃ ν, GI t g μ w ν (μ (g + 10) (μ (t + 2) w)) ∧ μ' = wuM t g 200 w ν) G) := by
  have hT0 := hT
  have hG0 := hG
  obtain ⟨t0, t1, t2, t3, t4, t5, t6, t7, t8⟩ := hT
  obtain ⟨a0, a1, a2, a3, a4, a5, a6⟩ := hG
  have hwin := lf_in h 200 0 (by omega) (by omega)
  rw [← hw] at hwin
  obtain ⟨hg, hs0, hs1, hc, hx⟩ := id h
  have hcw := hc w hwin.1 hwin.2
  have hpw := hP0 w hwin.1 hwin.2
  have hgw := hg _ hcw.1 hcw.2.1
  refine ⟨KC.ofP q_Tr_grow.1 rfl (Nat.le_of_ble_eq_true rfl) rfl (fun Post NT ST hP => ?_), ⟨_, _, _, t0, rfl, rfl⟩, q_Tr_grow, by decide⟩
  refine V.aload_n (n := 1) d_Tr_grow_0 rfl rfl ?_
  refine V.cVi (n := 4) d_Tr_grow_1 k_Tr_122 (c_Tr_leafOnWay hT0 hG0 h h0) rfl rfl (by decide) rfl ?_
  rw [← hw]
  refine V.istore_n (n := 5) d_Tr_grow_4 (by decide) rfl ?_
  refine V.aload_n (n := 6) d_Tr_grow_5 rfl rfl ?_
  refine V.getA (n := 9) d_Tr_grow_6 f_Tr_14 (by assumption) rfl rfl ?_
  refine V.iload_n (n := 10) d_Tr_grow_9 rfl rfl ?_
  refine V.cVi (n := 13) d_Tr_grow_10 k_Tr_53 (c_Rw_get (by assumption) (by omega) (by omega)) rfl rfl (by decide) rfl ?_
  refine V.istore_n (n := 14) d_Tr_grow_13 (by decide) rfl ?_
  refine V.aload_n (n := 15) d_Tr_grow_14 rfl rfl ?_
  refine V.getA (n := 18) d_Tr_grow_15 f_Tr_41 (by assumption) rfl rfl ?_
  refine V.getA (n := 21) d_Tr_grow_18 f_Tr_119 (by assumption) rfl rfl ?_
  refine V.iload_n (n := 22) d_Tr_grow_21 rfl rfl ?_
  refine V.cVi (n := 25) d_Tr_grow_22 k_Tr_53 (c_Rw_get (by assumption) (by omega) (by omega)) rfl rfl (by decide) rfl ?_
  refine V.istore_n (n := 26) d_Tr_grow_25 (by decide) rfl ?_
  refine V.aload_n (n := 27) d_Tr_grow_26 rfl rfl ?_
  refine V.getA (n := 30) d_Tr_grow_27 f_Tr_35 (by assumption) rfl rfl ?_
  refine V.iload_n (n := 31) d_Tr_grow_30 rfl rfl ?_
  refine V.aload_n (n := 32) d_Tr_grow_31 rfl rfl ?_
  refine V.getI (n := 35) d_Tr_grow_32 f_Tr_49 (by assumption) rfl rfl ?_
  refine V.cVv (n := 38) d_Tr_grow_35 k_Tr_73 (c_Rw_set (by assumption) (by omega) (by omega)) rfl rfl (by decide) rfl ?_
  refine V.aload_n (n := 39) d_Tr_grow_38 rfl rfl ?_
  refine V.getA (n := 42) d_Tr_grow_39 f_Tr_32 (by assumption) rfl rfl ?_
  refine V.iload_n (n := 43) d_Tr_grow_42 rfl rfl ?_
  refine V.iload_n (n := 44) d_Tr_grow_43 rfl rfl ?_
  refine V.cVv (n := 47) d_Tr_grow_44 k_Tr_73 (c_Rw_set (by assumption) (by omega) (by omega)) rfl rfl (by decide) rfl ?_
  refine V.iconst (n := 48) d_Tr_grow_47 rfl ?_
  refine V.istore (n := 50) d_Tr_grow_48 (by decide) rfl ?_
  generalize hcn : μ (g + 10) (μ (t + 2) w) = cn at *
  generalize hm1 : wr (wr μ (t + 14) w (μ t 9)) (t + 12) w cn = μ1
  have hI0 : GI t g μ w μ1 0 := by
    refine ⟨fun b hb => ?_, ?_, fun b b1 b2 j hj => ?_, fun i i0 i1 => by omega⟩
    · rw [← hm1, wr_a (by omega), wr_a (by omega)]
    · rw [← hm1, wr_a (by omega), wr_a (by omega), Int.add_zero]
    · rw [← hm1, hcn]
      by_cases hb14 : b = t + 14
      · subst hb14
        rw [wr_a (by omega), wr_v]
        by_cases hj2 : j = w
        · rw [if_pos hj2, if_pos ⟨rfl, hj2⟩]
        · rw [if_neg hj2, if_neg (fun x => hj2 x.2), if_neg (fun x => hj2 x.2)]
      · rw [if_neg (fun x => hb14 x.1)]
        by_cases hb12 : b = t + 12
        · subst hb12
          rw [wr_v]
          by_cases hj2 : j = w
          · rw [if_pos hj2, if_pos ⟨rfl, hj2⟩]
          · rw [if_neg hj2, if_neg (fun x => hj2 x.2), wr_a (by omega)]
        · rw [wr_a hb12, wr_a hb14, if_neg (fun x => hb12 x.1)]
  have loop : ∀ (k : Nat) (i : Int) (ν : MU), i + k = cn → 0 ≤ i → GI t g μ w ν i → V E l m_Tr_grow none 5 NT ST Post 50 [(4, rI i), (3, rI cn), (2, rI (μ (t + 2) w)), (1, rI w), (0, rA E t)] [] G ν := by
    intro k
    induction k with
    | zero =>
      intro i ν hk hi hI
      have hic : i = cn := by omega
      subst hic
      have n2 : ∀ j, j < μ t 9 → ν (t + 2) j = μ (t + 2) j := fun j hj => hI.at (by omega) (by omega) (by omega) (by omega) (Or.inl hj)
      have n4 : ∀ j, j < μ t 9 → ν (t + 4) j = μ (t + 4) j := fun j hj => hI.at (by omega) (by omega) (by omega) (by omega) (Or.inl hj)
      have n9 : ν t 9 = μ t 9 + i := hI.2.1
      have hgo : okG ν g := fun p p0 p1 => by
        rw [hI.1 (g + 2) (by omega), hI.1 (g + 4) (by omega), hI.1 (g + 6) (by omega), hI.1 (g + 8) (by omega), hI.1 (g + 10) (by omega)]
        exact hg p p0 p1
      have hnew : ∀ j, μ t 9 ≤ j → j < μ t 9 + i → LN t g μ w ν j (μ (g + 12) (μ (t + 2) w * 20 + (j - μ t 9))) := fun j j0 j1 => by
        have h1 := hI.2.2.2 (j - μ t 9) (by omega) (by omega)
        rwa [show μ t 9 + (j - μ t 9) = j by omega] at h1
      have hPn : okP (ν (t + 2)) (ν (t + 4)) (ν t 9) := by
        intro j j0 j1
        by_cases hj : j < μ t 9
        · rw [n2 j hj, n4 j hj]; exact hP0 j j0 hj
        · have h1 := hnew j (by omega) (by omega)
          have h2 := hTg (μ (t + 2) w) (j - μ t 9) hcw.1 hcw.2.1 (by omega) (by omega)
          rw [h1.1, h1.2.1]
          omega
      have hCn : okC (ν t 9) (ν (t + 2)) (ν (t + 12)) (ν (t + 14)) := by
        intro j j0 j1
        by_cases hj : j < μ t 9
        · have h1 := hc j j0 hj
          rw [n2 j hj, hI.2.2.1 (t + 12) (by omega) (by omega) j (Or.inl hj), hI.2.2.1 (t + 14) (by omega) (by omega) j (Or.inl hj), if_neg (show ¬ (t + 12 = t + 14 ∧ j = w) by omega)]
          by_cases hjw : j = w
          · rw [if_pos ⟨rfl, hjw⟩, if_pos ⟨rfl, hjw⟩, hcn]; omega
          · rw [if_neg (fun x => hjw x.2), if_neg (fun x => hjw x.2), if_neg (fun x => hjw x.2)]; omega
        · have h1 := hnew j (by omega) (by omega)
          have h2 := hTg (μ (t + 2) w) (j - μ t 9) hcw.1 hcw.2.1 (by omega) (by omega)
          rw [h1.1, h1.2.2.2.1, h1.2.2.2.2.1]
          omega
      have hXn : okX (ν (t + 8)) (ν (t + 10)) := by
        intro j j0 j1
        by_cases hj : μ t 9 ≤ j ∧ j < μ t 9 + i
        · have h1 := hnew j hj.1 hj.2
          have h2 := hTg (μ (t + 2) w) (j - μ t 9) hcw.1 hcw.2.1 (by omega) (by omega)
          have h3 := hg _ h2.1 h2.2
          have h4 := h1.2.2.2.2.2 _ _ _ Iff.rfl Iff.rfl Iff.rfl
          rw [h4.1, h4.2.1]
          unfold lcP lcD
          refine ⟨?_, ?_, ?_, ?_⟩ <;> ((repeat' split) <;> omega)
        · rw [hI.at (b := t + 8) (j := j) (by omega) (by omega) (by omega) (by omega) (by omega), hI.at (b := t + 10) (j := j) (by omega) (by omega) (by omega) (by omega) (by omega)]
          exact hx j j0 j1
      refine V.iload (n := 52) d_Tr_grow_50 rfl rfl ?_
      refine V.iload_n (n := 53) d_Tr_grow_52 rfl rfl ?_
      refine V.icmp_geT (n2 := 77) d_Tr_grow_53 (by omega) (by omega) (by omega) (by decide) ?_
      refine V.aload_n (n := 78) d_Tr_grow_77 rfl rfl ?_
      refine V.iload_n (n := 79) d_Tr_grow_78 rfl rfl ?_
      refine V.cVv (n := 82) d_Tr_grow_79 k_Tr_129 (c_Tr_workOutFrom hT0 hG0 hgt hgo (by omega) (by omega) (by omega) hPn hCn hXn) rfl rfl (by decide) rfl ?_
      refine V.vret d_Tr_grow_82 rfl ?_
      exact hP _ _ ⟨rfl, rfl, ν, by rw [hcn] at *; exact hI, rfl⟩
    | succ k ih =>
      intro i ν hk hi hI
      have n2 : ∀ j, j < μ t 9 → ν (t + 2) j = μ (t + 2) j := fun j hj => hI.at (by omega) (by omega) (by omega) (by omega) (Or.inl hj)
      have n4 : ∀ j, j < μ t 9 → ν (t + 4) j = μ (t + 4) j := fun j hj => hI.at (by omega) (by omega) (by omega) (by omega) (Or.inl hj)
      have n9 : ν t 9 = μ t 9 + i := hI.2.1
      have ng2 : ν (g + 2) = μ (g + 2) := hI.1 _ (by omega)
      have ng4 : ν (g + 4) = μ (g + 4) := hI.1 _ (by omega)
      have ng6 : ν (g + 6) = μ (g + 6) := hI.1 _ (by omega)
      have ng8 : ν (g + 8) = μ (g + 8) := hI.1 _ (by omega)
      have ng10 : ν (g + 10) = μ (g + 10) := hI.1 _ (by omega)
      have ng12 : ν (g + 12) = μ (g + 12) := hI.1 _ (by omega)
      have h2 := hTg (μ (t + 2) w) i hcw.1 hcw.2.1 hi (by omega)
      have h3 := hg _ h2.1 h2.2
      have hokn : ∀ m, 0 ≤ m → m ≤ w → 0 ≤ ν (t + 2) m ∧ ν (t + 2) m < 20 ∧ (m = 0 → ν (t + 4) m = -5) ∧ (0 < m → 0 ≤ ν (t + 4) m ∧ ν (t + 4) m < m) := fun m m0 m1 => by
        rw [n2 m (by omega), n4 m (by omega)]
        exact hP0 m m0 (by omega)
      have how : ∀ x, ow (ν (t + 2)) (ν (t + 4)) x 200 w = ow (μ (t + 2)) (μ (t + 4)) x 200 w := fun x => ow_congr 200 w (fun m m0 m1 => ⟨n2 m (by omega), n4 m (by omega), by have := hP0 m m0 (by omega); omega⟩)
      refine V.iload (n := 52) d_Tr_grow_50 rfl rfl ?_
      refine V.iload_n (n := 53) d_Tr_grow_52 rfl rfl ?_
      refine V.icmp_geF (n := 56) d_Tr_grow_53 (by omega) (by omega) (by omega) rfl ⟨77, by decide⟩ ?_
      refine V.aload_n (n := 57) d_Tr_grow_56 rfl rfl ?_
      refine V.aload_n (n := 58) d_Tr_grow_57 rfl rfl ?_
      refine V.getA (n := 61) d_Tr_grow_58 f_Tr_41 (by assumption) rfl rfl ?_
      refine V.iload_n (n := 62) d_Tr_grow_61 rfl rfl ?_
      refine V.iload (n := 64) d_Tr_grow_62 rfl rfl ?_
      refine V.cVi (n := 67) d_Tr_grow_64 k_Tr_125 (c_Gm_targetOf hG0 hcw.1 hcw.2.1 hi (by rw [ng10]; omega) (by rw [ng10]; omega)) rfl rfl (by decide) rfl ?_
      rw [ng12]
      refine V.iload_n (n := 68) d_Tr_grow_67 rfl rfl ?_
      refine V.cVqv (n := 71) d_Tr_grow_68 k_Tr_69 (c_Tr_addLeaf hT0 hG0 hgt (by omega) (by omega) h2.1 h2.2 (by omega) hokn (by rw [ng4]; omega) (by rw [ng10]; omega)) rfl rfl (by decide) rfl (fun μ' hq => ?_)
      rw [n9, ng4, ng6, ng8, ng10, how] at hq
      obtain ⟨q1, q2, q3, q4, q5, q6, q7, q8, q9⟩ := hq
      refine V.iinc (n := 74) d_Tr_grow_71 rfl (by decide) rfl ?_
      refine V.goto (n := 50) d_Tr_grow_74 (by decide) ?_
      refine V.loc (lo' := [(4, rI (i + 1)), (3, rI cn), (2, rI (μ (t + 2) w)), (1, rI w), (0, rA E t)]) ⟨rfl, rfl, rfl, rfl, rfl, trivial⟩ ?_
      refine ih (i + 1) _ (by omega) (by omega) ⟨fun b hb => by rw [q1 b hb, hI.1 b hb], by rw [q2]; omega, fun b b1 b2 j hj => by rw [q3 b b1 b2 j (by omega)]; exact hI.2.2.1 b b1 b2 j (by omega), fun i' i0 i1 => ?_⟩
      by_cases hii : i' = i
      · subst hii
        refine ⟨q4, q5, ?_, q7, q8, fun e v o _ _ _ f1 f2 f3 => q9 e v o f1 f2 f3⟩
        rw [q6, if_pos hwin.1, hI.at (b := t + 6) (j := w) (by omega) (by omega) (by omega) (by omega) (Or.inl hwin.2)]
      · have h5 := hI.2.2.2 i' i0 (by omega)
        have hne : ¬ μ t 9 + i' = μ t 9 + i := by omega
        unfold LN
        rw [q3 (t + 2) (by omega) (by omega) _ hne, q3 (t + 4) (by omega) (by omega) _ hne, q3 (t + 6) (by omega) (by omega) _ hne, q3 (t + 8) (by omega) (by omega) _ hne, q3 (t + 10) (by omega) (by omega) _ hne, q3 (t + 12) (by omega) (by omega) _ hne, q3 (t + 14) (by omega) (by omega) _ hne, q3 (t + 16) (by omega) (by omega) _ hne]
        exact h5
  refine V.loc (lo' := [(4, rI 0), (3, rI cn), (2, rI (μ (t + 2) w)), (1, rI w), (0, rA E t)]) ⟨rfl, rfl, rfl, rfl, rfl, trivial⟩ ?_
  exact loop cn.toNat 0 μ1 (by omega) (by omega) hI0
end CGW
end
section
/-! THE CLASS: states, history, texts -/
/-- the game at g holds in μ' what that at h holds in μ -/
def cpG (μ' : MU) (g : Nat) (μ : MU) (h : Nat) : Prop :=
  (∀ j : Int, 0 ≤ j → j < 20 → μ' (g + 2) j = μ (h + 2) j ∧ μ' (g + 4) j = μ (h + 4) j ∧ μ' (g + 6) j = μ (h + 6) j ∧ μ' (g + 8) j = μ (h + 8) j ∧ μ' (g + 10) j = μ (h + 10) j) ∧ (∀ j : Int, 0 ≤ j → j < 400 → μ' (g + 12) j = μ (h + 12) j) ∧ μ' g 6 = μ h 6
def cpT (μ' : MU) (t : Nat) (μ : MU) (x : Nat) : Prop :=
  (∀ j : Int, 0 ≤ j → j < 200 → μ' (t + 2) j = μ (x + 2) j ∧ μ' (t + 4) j = μ (x + 4) j ∧ μ' (t + 6) j = μ (x + 6) j ∧ μ' (t + 8) j = μ (x + 8) j ∧ μ' (t + 10) j = μ (x + 10) j ∧ μ' (t + 12) j = μ (x + 12) j ∧ μ' (t + 14) j = μ (x + 14) j ∧ μ' (t + 16) j = μ (x + 16) j) ∧ μ' t 9 = μ x 9
def cpS (μ' : MU) (s : Nat) (μ : MU) (x : Nat) : Prop := cpG μ' (s + 1) μ (x + 1) ∧ cpT μ' (s + 14) μ (x + 14)
def isState (G : GG) (s : Nat) : Prop := obj G s (.inl (6, [some (some (s + 1)), some (some (s + 14))])) ∧ isGame G (s + 1) ∧ isTree G (s + 14) (s + 1)
def isHist (G : GG) (h : Nat) : Prop := obj G h (.inl (1, [some (some (h + 1)), none])) ∧ obj G (h + 1) (.inr (3, 4)) ∧ ∀ k : Nat, k < 4 → isState G (h + 2 + 31 * k)
def okH (μ : MU) (h : Nat) : Prop := (∀ i : Int, 0 ≤ i → i < 4 → ∃ k : Nat, k < 4 ∧ μ (h + 1) i = ((h + 2 + 31 * k : Nat) : Int)) ∧ (∀ i j : Int, 0 ≤ i → i < 4 → 0 ≤ j → j < 4 → μ (h + 1) i = μ (h + 1) j → i = j)
section CHI
variable {E : EV} {l : Launch} {G : GG} {μ : MU} {s x h t : Nat} {i v : Int}
theorem c_St_copyFrom (hS : isState G s) (hX : isState G x) (hd : s + 30 < x ∨ x + 30 < s) : KV E l 4 m_St_copyFrom s [rA E x] G μ 0 0 (dqv (fun μ' => (∀ b, b < s ∨ s + 30 < b → μ' b = μ b) ∧ cpS μ' s μ x) G) := by
  obtain ⟨s0, s1, s2⟩ := hS
  obtain ⟨x0, x1, x2⟩ := hX
  refine ⟨KC.ofP q_St_copyFrom.1 rfl (Nat.le_of_ble_eq_true rfl) rfl (fun Post NT ST hP => ?_), ⟨_, _, _, s0, rfl, rfl⟩, q_St_copyFrom, by decide⟩
  refine V.aload_n (n := 1) d_St_copyFrom_0 rfl rfl ?_
  refine V.getA (n := 4) d_St_copyFrom_1 f_St_10 (by assumption) rfl rfl ?_
  refine V.aload_n (n := 5) d_St_copyFrom_4 rfl rfl ?_
  refine V.getA (n := 8) d_St_copyFrom_5 f_St_10 (by assumption) rfl rfl ?_
  refine V.cVqv (n := 11) d_St_copyFrom_8 k_St_25 (c_Gm_copyFrom s1 x1 (by omega)) rfl rfl (by decide) rfl (fun μ' hq => ?_)
  obtain ⟨m1, m2, m3, m4⟩ := hq
  refine V.aload_n (n := 12) d_St_copyFrom_11 rfl rfl ?_
  refine V.getA (n := 15) d_St_copyFrom_12 f_St_21 (by assumption) rfl rfl ?_
  refine V.aload_n (n := 16) d_St_copyFrom_15 rfl rfl ?_
  refine V.getA (n := 19) d_St_copyFrom_16 f_St_21 (by assumption) rfl rfl ?_
  refine V.cVqv (n := 22) d_St_copyFrom_19 k_St_28 (c_Tr_copyFrom s2 x2 (by omega)) rfl rfl (by decide) rfl (fun μ2 hq => ?_)
  obtain ⟨n1, n2, n3⟩ := hq
  refine V.vret d_St_copyFrom_22 rfl ?_
  refine hP _ _ ⟨rfl, rfl, fun b hb => by rw [n1 b (by omega), m1 b (by omega)], ⟨fun j j0 j1 => ?_, fun j j0 j1 => ?_, ?_⟩, fun j j0 j1 => ?_, ?_⟩
  · rw [n1 _ (by omega), n1 _ (by omega), n1 _ (by omega), n1 _ (by omega), n1 _ (by omega)]
    exact m2 j j0 j1
  · rw [n1 _ (by omega)]
    exact m3 j j0 j1
  · rw [n1 _ (by omega)]
    exact m4
  · have h1 := n2 j j0 j1
    rw [m1 (x + 14 + 2) (by omega), m1 (x + 14 + 4) (by omega), m1 (x + 14 + 6) (by omega), m1 (x + 14 + 8) (by omega), m1 (x + 14 + 10) (by omega), m1 (x + 14 + 12) (by omega), m1 (x + 14 + 14) (by omega), m1 (x + 14 + 16) (by omega)] at h1
    exact h1
  · rw [n3, m1 (x + 14) (by omega)]
theorem c_Hi_stateAt (hH : isHist G h) (h0 : 0 ≤ i) (h1 : i < 4) (hv : μ (h + 1) i = (s : Int)) : KV E l 0 m_Hi_stateAt h [rI i] G μ 0 0 (dq (some (rA E s)) G μ) := by
  obtain ⟨b0, b1, b2⟩ := hH
  refine ⟨KC.ofP q_Hi_stateAt.1 rfl (Nat.le_of_ble_eq_true rfl) rfl (fun Post NT ST hP => ?_), ⟨_, _, _, b0, rfl, rfl⟩, q_Hi_stateAt, by decide⟩
  refine V.iload_n (n := 1) d_Hi_stateAt_0 rfl rfl ?_
  refine V.if_ltF (n := 4) d_Hi_stateAt_1 (by omega) (by omega) rfl ⟨22, by decide⟩ ?_
  refine V.iload_n (n := 5) d_Hi_stateAt_4 rfl rfl ?_
  refine V.aload_n (n := 6) d_Hi_stateAt_5 rfl rfl ?_
  refine V.getA (n := 9) d_Hi_stateAt_6 f_Hi_11 (by assumption) rfl rfl ?_
  refine V.alen (n := 10) d_Hi_stateAt_9 (by assumption) (by decide) rfl ?_
  refine V.icmp_geF (n := 13) d_Hi_stateAt_10 (by omega) (by omega) (by omega) rfl ⟨22, by decide⟩ ?_
  refine V.aload_n (n := 14) d_Hi_stateAt_13 rfl rfl ?_
  refine V.getA (n := 17) d_Hi_stateAt_14 f_Hi_11 (by assumption) rfl rfl ?_
  refine V.iload_n (n := 18) d_Hi_stateAt_17 rfl rfl ?_
  refine V.aald (n := 19) d_Hi_stateAt_18 (by assumption) (by omega) (by omega) (by omega) (by assumption) rfl ?_
  refine V.goto (n := 23) d_Hi_stateAt_19 (by decide) ?_
  refine V.aret d_Hi_stateAt_23 ⟨_, rfl⟩ ?_
  exact hP _ _ ⟨rfl, rfl, rfl⟩
theorem c_Hi_copy (hS : isState G s) (hX : isState G x) (hd : s + 30 < x ∨ x + 30 < s) : KS E l 5 m_Hi_copy [rA E x, rA E s] G μ 0 0 (dqv (fun μ' => (∀ b, b < s ∨ s + 30 < b → μ' b = μ b) ∧ cpS μ' s μ x) G) := by
  refine ⟨KC.ofP q_Hi_copy.1 rfl (Nat.le_of_ble_eq_true rfl) rfl (fun Post NT ST hP => ?_), q_Hi_copy, by decide⟩
  refine V.aload_n (n := 1) d_Hi_copy_0 rfl rfl ?_
  refine V.ifnull (n := 4) d_Hi_copy_1 rfl ?_
  refine V.aload_n (n := 5) d_Hi_copy_4 rfl rfl ?_
  refine V.ifnull (n := 8) d_Hi_copy_5 rfl ?_
  refine V.aload_n (n := 9) d_Hi_copy_8 rfl rfl ?_
  refine V.aload_n (n := 10) d_Hi_copy_9 rfl rfl ?_
  refine V.cVqv (n := 13) d_Hi_copy_10 k_Hi_33 (c_St_copyFrom hS hX hd) rfl rfl (by decide) rfl (fun μ' hq => ?_)
  refine V.vret d_Hi_copy_13 rfl ?_
  exact hP _ _ ⟨rfl, rfl, hq⟩
theorem c_Hi_dropOldest (hH : isHist G h) (hok : okH μ h) : KV E l 0 m_Hi_dropOldest h [] G μ 0 0 (dqv (fun μ' => (∀ b, ¬ b = h → ¬ b = h + 1 → μ' b = μ b) ∧ (∀ j : Int, 0 ≤ j → j < 3 → μ' (h + 1) j = μ (h + 1) (j + 1)) ∧ μ' (h + 1) 3 = μ (h + 1) 0 ∧ μ' h 1 = μ h 1 - 1) G) := by
  obtain ⟨b0, b1, b2⟩ := hH
  obtain ⟨k0, hk0, e0⟩ := hok.1 0 (by omega) (by omega)
  obtain ⟨s0, -⟩ := b2 k0 hk0
  refine ⟨KC.ofP q_Hi_dropOldest.1 rfl (Nat.le_of_ble_eq_true rfl) rfl (fun Post NT ST hP => ?_), ⟨_, _, _, b0, rfl, rfl⟩, q_Hi_dropOldest, by decide⟩
  refine V.iconst (n := 1) d_Hi_dropOldest_0 rfl ?_
  refine V.istore_n (n := 2) d_Hi_dropOldest_1 (by decide) rfl ?_
  have loop : ∀ (k : Nat) (i : Int) (ν : MU), i + k = 4 → 1 ≤ i → (∀ b, ¬ b = h + 1 → ν b = μ b) → (∀ j : Int, 0 ≤ j → j < i - 1 → ν (h + 1) j = μ (h + 1) (j + 1)) → ν (h + 1) (i - 1) = μ (h + 1) 0 → (∀ j : Int, i ≤ j → j < 4 → ν (h + 1) j = μ (h + 1) j) → V E l m_Hi_dropOldest none 0 NT ST Post 2 [(1, rI i), (0, rA E h)] [] G ν := by
    intro k
    induction k with
    | zero =>
      intro i ν hk hi n1 n2 n3 n4
      have hi4 : i = 4 := by omega
      subst hi4
      refine V.iload_n (n := 3) d_Hi_dropOldest_2 rfl rfl ?_
      refine V.aload_n (n := 4) d_Hi_dropOldest_3 rfl rfl ?_
      refine V.getA (n := 7) d_Hi_dropOldest_4 f_Hi_11 (by assumption) rfl rfl ?_
      refine V.alen (n := 8) d_Hi_dropOldest_7 (by assumption) (by decide) rfl ?_
      refine V.icmp_geT (n2 := 47) d_Hi_dropOldest_8 (by omega) (by omega) (by omega) (by decide) ?_
      refine V.aload_n (n := 48) d_Hi_dropOldest_47 rfl rfl ?_
      refine V.dup (n := 49) d_Hi_dropOldest_48 rfl rfl ?_
      refine V.getI (n := 52) d_Hi_dropOldest_49 f_Hi_18 (by assumption) rfl rfl ?_
      refine V.iconst (n := 53) d_Hi_dropOldest_52 rfl ?_
      refine V.isub (n := 54) d_Hi_dropOldest_53 rfl ?_
      refine V.putI (n := 57) d_Hi_dropOldest_54 f_Hi_18 t_Hi_size ⟨rfl, rfl⟩ (by assumption) rfl rfl ?_
      rw [n1 h (by omega)]
      refine V.vret d_Hi_dropOldest_57 rfl ?_
      refine hP _ _ ⟨rfl, rfl, fun b c1 c2 => by rw [wr_a c1, n1 b c2], fun j j0 j1 => ?_, ?_, wr_s _ _ _ _⟩
      · rw [wr_a (by omega)]
        exact n2 j j0 (by omega)
      · rw [wr_a (by omega)]
        exact n3
    | succ k ih =>
      intro i ν hk hi n1 n2 n3 n4
      obtain ⟨k1, hk1, e1⟩ := hok.1 i (by omega) (by omega)
      obtain ⟨s1, -⟩ := b2 k1 hk1
      have f0 : ν (h + 1) (i - 1) = ((h + 2 + 31 * k0 : Nat) : Int) := by rw [n3, e0]
      have f1 : ν (h + 1) i = ((h + 2 + 31 * k1 : Nat) : Int) := by rw [n4 i (by omega) (by omega), e1]
      refine V.iload_n (n := 3) d_Hi_dropOldest_2 rfl rfl ?_
      refine V.aload_n (n := 4) d_Hi_dropOldest_3 rfl rfl ?_
      refine V.getA (n := 7) d_Hi_dropOldest_4 f_Hi_11 (by assumption) rfl rfl ?_
      refine V.alen (n := 8) d_Hi_dropOldest_7 (by assumption) (by decide) rfl ?_
      refine V.icmp_geF (n := 11) d_Hi_dropOldest_8 (by omega) (by omega) (by omega) rfl ⟨47, by decide⟩ ?_
      refine V.aload_n (n := 12) d_Hi_dropOldest_11 rfl rfl ?_
      refine V.getA (n := 15) d_Hi_dropOldest_12 f_Hi_11 (by assumption) rfl rfl ?_
      refine V.iload_n (n := 16) d_Hi_dropOldest_15 rfl rfl ?_
      refine V.iconst (n := 17) d_Hi_dropOldest_16 rfl ?_
      refine V.isub (n := 18) d_Hi_dropOldest_17 rfl ?_
      refine V.aald (n := 19) d_Hi_dropOldest_18 (by assumption) (by omega) (by omega) (by omega) (by assumption) rfl ?_
      refine V.astore_n (n := 20) d_Hi_dropOldest_19 (by decide) rfl ?_
      refine V.aload_n (n := 21) d_Hi_dropOldest_20 rfl rfl ?_
      refine V.getA (n := 24) d_Hi_dropOldest_21 f_Hi_11 (by assumption) rfl rfl ?_
      refine V.iload_n (n := 25) d_Hi_dropOldest_24 rfl rfl ?_
      refine V.iconst (n := 26) d_Hi_dropOldest_25 rfl ?_
      refine V.isub (n := 27) d_Hi_dropOldest_26 rfl ?_
      refine V.aload_n (n := 28) d_Hi_dropOldest_27 rfl rfl ?_
      refine V.getA (n := 31) d_Hi_dropOldest_28 f_Hi_11 (by assumption) rfl rfl ?_
      refine V.iload_n (n := 32) d_Hi_dropOldest_31 rfl rfl ?_
      refine V.aald (n := 33) d_Hi_dropOldest_32 (by assumption) (by omega) (by omega) (by omega) (by assumption) rfl ?_
      refine V.aast (n := 34) d_Hi_dropOldest_33 (by assumption) (by assumption) (by omega) (by omega) (by omega) rfl ?_
      refine V.aload_n (n := 35) d_Hi_dropOldest_34 rfl rfl ?_
      refine V.getA (n := 38) d_Hi_dropOldest_35 f_Hi_11 (by assumption) rfl rfl ?_
      refine V.iload_n (n := 39) d_Hi_dropOldest_38 rfl rfl ?_
      refine V.aload_n (n := 40) d_Hi_dropOldest_39 rfl rfl ?_
      refine V.aast (n := 41) d_Hi_dropOldest_40 (by assumption) (by assumption) (by omega) (by omega) (by omega) rfl ?_
      refine V.iinc (n := 44) d_Hi_dropOldest_41 rfl (by decide) rfl ?_
      refine V.goto (n := 2) d_Hi_dropOldest_44 (by decide) ?_
      refine V.loc (lo' := [(1, rI (i + 1)), (0, rA E h)]) ⟨rfl, rfl, trivial⟩ ?_
      refine ih (i + 1) _ (by omega) (by omega) (fun b hb => by rw [wr_a hb, wr_a hb, n1 b hb]) (fun j j0 j1 => ?_) ?_ (fun j j0 j1 => ?_)
      · rw [wr_i (by omega), wr_v]
        by_cases hj : j = i - 1
        · rw [if_pos hj, hj, ← e1, show i - 1 + 1 = i by omega]
        · rw [if_neg hj]
          exact n2 j j0 (by omega)
      · rw [show i + 1 - 1 = i by omega, wr_s, e0]
      · rw [wr_i (by omega), wr_i (by omega)]
        exact n4 j (by omega) j1
  refine V.loc (lo' := [(1, rI 1), (0, rA E h)]) ⟨rfl, rfl, trivial⟩ ?_
  exact loop 3 1 μ (by omega) (by omega) (fun _ _ => rfl) (fun j j0 j1 => by omega) rfl (fun _ _ _ => rfl)
/-- a state is recorded: d old ones have gone -/
theorem c_Hi_remember (hH : isHist G h) (hok : okH μ h) (hz0 : 0 ≤ μ h 1) (hz1 : μ h 1 ≤ 4) (hX : isState G x) (hd : x + 30 < h ∨ h + 125 < x) : KV E l 6 m_Hi_remember h [rA E x] G μ 0 0 (dqv (fun μ' => ∃ d : Int, (μ h 1 < 4 ∧ d = 0 ∨ μ h 1 = 4 ∧ d = 1) ∧ okH μ' h ∧ μ' h 1 = μ h 1 - d + 1 ∧ (∀ b, b < h ∨ h + 125 < b → μ' b = μ b) ∧ (∀ (i : Int) (s : Nat), 0 ≤ i → i < μ h 1 - d → μ (h + 1) (i + d) = (s : Int) → μ' (h + 1) i = (s : Int) ∧ ∀ b, s ≤ b → b ≤ s + 30 → μ' b = μ b) ∧ ∃ s : Nat, μ' (h + 1) (μ h 1 - d) = (s : Int) ∧ cpS μ' s μ x) G) := by
  have hH0 := hH
  obtain ⟨b0, b1, b2⟩ := hH
  refine ⟨KC.ofP q_Hi_remember.1 rfl (Nat.le_of_ble_eq_true rfl) rfl (fun Post NT ST hP => ?_), ⟨_, _, _, b0, rfl, rfl⟩, q_Hi_remember, by decide⟩
  have rest : ∀ (ν : MU) (d : Int), (μ h 1 < 4 ∧ d = 0 ∨ μ h 1 = 4 ∧ d = 1) → (∀ b, ¬ b = h → ¬ b = h + 1 → ν b = μ b) → okH ν h → ν h 1 = μ h 1 - d → (∀ j : Int, 0 ≤ j → j < 4 - d → ν (h + 1) j = μ (h + 1) (j + d)) → V E l m_Hi_remember none 6 NT ST Post 16 [(1, rA E x), (0, rA E h)] [] G ν := by
    intro ν d hdd n1 nok n9 n2
    obtain ⟨k1, hk1, e1⟩ := nok.1 (ν h 1) (by omega) (by omega)
    refine V.aload_n (n := 17) d_Hi_remember_16 rfl rfl ?_
    refine V.aload_n (n := 18) d_Hi_remember_17 rfl rfl ?_
    refine V.aload_n (n := 19) d_Hi_remember_18 rfl rfl ?_
    refine V.getI (n := 22) d_Hi_remember_19 f_Hi_18 (by assumption) rfl rfl ?_
    refine V.cVr (n := 25) d_Hi_remember_22 k_Hi_25 (c_Hi_stateAt hH0 (by omega) (by omega) e1) rfl rfl (by decide) rfl ?_
    refine V.cSqv (n := 28) d_Hi_remember_25 k_Hi_29 (c_Hi_copy (b2 k1 hk1) hX (by omega)) rfl rfl rfl (by decide) rfl (fun μ' hq => ?_)
    obtain ⟨m1, m2⟩ := hq
    have eh : μ' h = ν h := m1 h (by omega)
    have eh1 : μ' (h + 1) = ν (h + 1) := m1 (h + 1) (by omega)
    refine V.aload_n (n := 29) d_Hi_remember_28 rfl rfl ?_
    refine V.dup (n := 30) d_Hi_remember_29 rfl rfl ?_
    refine V.getI (n := 33) d_Hi_remember_30 f_Hi_18 (by assumption) rfl rfl ?_
    refine V.iconst (n := 34) d_Hi_remember_33 rfl ?_
    refine V.iadd (n := 35) d_Hi_remember_34 rfl ?_
    refine V.putI (n := 38) d_Hi_remember_35 f_Hi_18 t_Hi_size ⟨rfl, rfl⟩ (by assumption) rfl rfl ?_
    rw [eh]
    refine V.vret d_Hi_remember_38 rfl ?_
    refine hP _ _ ⟨rfl, rfl, d, hdd, ?_, by rw [wr_s, n9], fun b hb => by rw [wr_a (by omega), m1 b (by omega), n1 b (by omega) (by omega)], fun i s i0 i1 es => ⟨by rw [wr_a (by omega), eh1, n2 i i0 (by omega), es], fun b c1 c2 => ?_⟩, h + 2 + 31 * k1, by rw [wr_a (by omega), eh1, ← n9, e1], ?_⟩
    · unfold okH
      rw [wr_a (show ¬ h + 1 = h by omega), eh1]
      exact nok
    · obtain ⟨k2, hk2, e2⟩ := hok.1 (i + d) (by omega) (by omega)
      have hs : s = h + 2 + 31 * k2 := by omega
      have hne : ¬ k1 = k2 := fun q => by
        have h1 : ν (h + 1) i = ν (h + 1) (ν h 1) := by rw [n2 i i0 (by omega), e2, e1, q]
        have h2 := nok.2 i (ν h 1) i0 (by omega) (by omega) (by omega) h1
        omega
      rw [wr_a (by omega), m1 b (by omega), n1 b (by omega) (by omega)]
    · have hxx : ∀ b, x ≤ b → b ≤ x + 30 → ν b = μ b := fun b c1 c2 => n1 b (by omega) (by omega)
      obtain ⟨⟨p1, p2, p3⟩, p4, p5⟩ := m2
      refine ⟨⟨fun j j0 j1 => ?_, fun j j0 j1 => ?_, ?_⟩, fun j j0 j1 => ?_, ?_⟩
      · have h1 := p1 j j0 j1
        rw [wr_a (by omega), wr_a (by omega), wr_a (by omega), wr_a (by omega), wr_a (by omega)]
        rw [hxx _ (by omega) (by omega), hxx _ (by omega) (by omega), hxx _ (by omega) (by omega), hxx _ (by omega) (by omega), hxx _ (by omega) (by omega)] at h1
        exact h1
      · rw [wr_a (by omega), p2 j j0 j1, hxx _ (by omega) (by omega)]
      · rw [wr_a (by omega), p3, hxx _ (by omega) (by omega)]
      · have h1 := p4 j j0 j1
        rw [wr_a (by omega), wr_a (by omega), wr_a (by omega), wr_a (by omega), wr_a (by omega), wr_a (by omega), wr_a (by omega), wr_a (by omega)]
        rw [hxx _ (by omega) (by omega), hxx _ (by omega) (by omega), hxx _ (by omega) (by omega), hxx _ (by omega) (by omega), hxx _ (by omega) (by omega), hxx _ (by omega) (by omega), hxx _ (by omega) (by omega), hxx _ (by omega) (by omega)] at h1
        exact h1
      · rw [wr_a (by omega), p5, hxx _ (by omega) (by omega)]
  refine V.aload_n (n := 1) d_Hi_remember_0 rfl rfl ?_
  refine V.getI (n := 4) d_Hi_remember_1 f_Hi_18 (by assumption) rfl rfl ?_
  refine V.aload_n (n := 5) d_Hi_remember_4 rfl rfl ?_
  refine V.getA (n := 8) d_Hi_remember_5 f_Hi_11 (by assumption) rfl rfl ?_
  refine V.alen (n := 9) d_Hi_remember_8 (by assumption) (by decide) rfl ?_
  refine V.icmp_lt (n2 := 16) (n := 12) d_Hi_remember_9 (by omega) (by omega) (by decide) rfl (fun hsz => ?_) (fun hsz => ?_)
  · refine V.loc (lo' := [(1, rA E x), (0, rA E h)]) ⟨rfl, rfl, trivial⟩ ?_
    exact rest μ 0 (Or.inl ⟨by omega, rfl⟩) (fun _ _ _ => rfl) hok (by omega) (fun j _ _ => by rw [Int.add_zero])
  · refine V.aload_n (n := 13) d_Hi_remember_12 rfl rfl ?_
    refine V.cVqv (n := 16) d_Hi_remember_13 k_Hi_22 (c_Hi_dropOldest hH0 hok) rfl rfl (by decide) rfl (fun μ' hq => ?_)
    obtain ⟨m1, m2, m3, m4⟩ := hq
    refine V.loc (lo' := [(1, rA E x), (0, rA E h)]) ⟨rfl, rfl, trivial⟩ ?_
    refine rest _ 1 (Or.inr ⟨by omega, rfl⟩) m1 ⟨fun i i0 i1 => ?_, fun i j i0 i1 j0 j1 e => ?_⟩ m4 (fun j j0 j1 => m2 j j0 (by omega))
    · by_cases hi : i = 3
      · rw [hi, m3]; exact hok.1 0 (by omega) (by omega)
      · rw [m2 i i0 (by omega)]; exact hok.1 (i + 1) (by omega) (by omega)
    · by_cases hi : i = 3
      · by_cases hj : j = 3
        · omega
        · rw [hi, m3, m2 j j0 (by omega)] at e
          have := hok.2 0 (j + 1) (by omega) (by omega) (by omega) (by omega) e
          omega
      · by_cases hj : j = 3
        · rw [hj, m3, m2 i i0 (by omega)] at e
          have := hok.2 (i + 1) 0 (by omega) (by omega) (by omega) (by omega) e
          omega
        · rw [m2 i i0 (by omega), m2 j j0 (by omega)] at e
          have := hok.2 (i + 1) (j + 1) (by omega) (by omega) (by omega) (by omega) e
          omega
theorem c_Hi_takeLatest (hH : isHist G h) (hok : okH μ h) (hz0 : 0 < μ h 1) (hz1 : μ h 1 ≤ 4) (hX : isState G x) (hd : x + 30 < h ∨ h + 125 < x) (he : μ (h + 1) (μ h 1 - 1) = (s : Int)) : KV E l 6 m_Hi_takeLatest h [rA E x] G μ 0 0 (dqv (fun μ' => μ' h = (fun j => if j = 1 then μ h 1 - 1 else μ h j) ∧ (∀ b, ¬ b = h → b < x ∨ x + 30 < b → μ' b = μ b) ∧ cpS μ' x μ s) G) := by
  have hH0 := hH
  obtain ⟨b0, b1, b2⟩ := hH
  obtain ⟨k1, hk1, e1⟩ := hok.1 (μ h 1 - 1) (by omega) (by omega)
  have hs : s = h + 2 + 31 * k1 := by omega
  subst hs
  refine ⟨KC.ofP q_Hi_takeLatest.1 rfl (Nat.le_of_ble_eq_true rfl) rfl (fun Post NT ST hP => ?_), ⟨_, _, _, b0, rfl, rfl⟩, q_Hi_takeLatest, by decide⟩
  refine V.aload_n (n := 1) d_Hi_takeLatest_0 rfl rfl ?_
  refine V.getI (n := 4) d_Hi_takeLatest_1 f_Hi_18 (by assumption) rfl rfl ?_
  refine V.if_leF (n := 7) d_Hi_takeLatest_4 (by omega) (by omega) rfl ⟨29, by decide⟩ ?_
  refine V.aload_n (n := 8) d_Hi_takeLatest_7 rfl rfl ?_
  refine V.dup (n := 9) d_Hi_takeLatest_8 rfl rfl ?_
  refine V.getI (n := 12) d_Hi_takeLatest_9 f_Hi_18 (by assumption) rfl rfl ?_
  refine V.iconst (n := 13) d_Hi_takeLatest_12 rfl ?_
  refine V.isub (n := 14) d_Hi_takeLatest_13 rfl ?_
  refine V.putI (n := 17) d_Hi_takeLatest_14 f_Hi_18 t_Hi_size ⟨rfl, rfl⟩ (by assumption) rfl rfl ?_
  refine V.aload_n (n := 18) d_Hi_takeLatest_17 rfl rfl ?_
  refine V.aload_n (n := 19) d_Hi_takeLatest_18 rfl rfl ?_
  refine V.getI (n := 22) d_Hi_takeLatest_19 f_Hi_18 (by assumption) rfl rfl ?_
  rw [wr_s]
  refine V.cVr (n := 25) d_Hi_takeLatest_22 k_Hi_25 (c_Hi_stateAt hH0 (by omega) (by omega) (by rw [wr_a (by omega)]; exact e1)) rfl rfl (by decide) rfl ?_
  refine V.aload_n (n := 26) d_Hi_takeLatest_25 rfl rfl ?_
  refine V.cSqv (n := 29) d_Hi_takeLatest_26 k_Hi_29 (c_Hi_copy hX (b2 k1 hk1) (by omega)) rfl rfl rfl (by decide) rfl (fun μ' hq => ?_)
  obtain ⟨m1, m2⟩ := hq
  refine V.vret d_Hi_takeLatest_29 rfl ?_
  have hsx : ∀ b, h + 2 ≤ b → wr μ h 1 (μ h 1 - 1) b = μ b := fun b c1 => wr_a (by omega)
  refine hP _ _ ⟨rfl, rfl, by rw [m1 h (by omega), wr_eq], fun b c1 c2 => by rw [m1 b c2, wr_a c1], ?_⟩
  obtain ⟨⟨p1, p2, p3⟩, p4, p5⟩ := m2
  refine ⟨⟨fun j j0 j1 => ?_, fun j j0 j1 => ?_, ?_⟩, fun j j0 j1 => ?_, ?_⟩
  · have h1 := p1 j j0 j1
    rw [hsx _ (by omega), hsx _ (by omega), hsx _ (by omega), hsx _ (by omega), hsx _ (by omega)] at h1
    exact h1
  · rw [p2 j j0 j1, hsx _ (by omega)]
  · rw [p3, hsx _ (by omega)]
  · have h1 := p4 j j0 j1
    rw [hsx _ (by omega), hsx _ (by omega), hsx _ (by omega), hsx _ (by omega), hsx _ (by omega), hsx _ (by omega), hsx _ (by omega), hsx _ (by omega)] at h1
    exact h1
  · rw [p5, hsx _ (by omega)]
def isText (G : GG) (t : Nat) : Prop := obj G t (.inl (7, [some (some (t + 1)), none])) ∧ obj G (t + 1) (.inr (1, 60))
end CHI
end
section
/-! THE CLASS: rounds, proofs -/
/-- who wins in k rounds: turns, marks, counts of moves, targets -/
def wb (tn cn : Int → Int) (tg : Int → Int → Int) (s : Int → Bool) (p : Int) : Bool :=
  if tn p = 0 then decide (0 < cs (fun i => bi (s (tg p i) = true)) (cn p).toNat) else decide (cs (fun i => bi (s (tg p i) = true)) (cn p).toNat = cn p)
def wk (tn mk cn : Int → Int) (tg : Int → Int → Int) : Nat → Int → Bool
  | 0, p => decide (mk p = 1)
  | k + 1, p => wk tn mk cn tg k p || (!decide (¬ mk p = 0 ∨ cn p = 0) && wb tn cn tg (wk tn mk cn tg k) p)
def rdk (tn mk cn : Int → Int) (tg : Int → Int → Int) : Nat → Int → Int
  | 0, p => if wk tn mk cn tg 0 p = true then 0 else -5
  | k + 1, p => if rdk tn mk cn tg k p = -5 then (if wk tn mk cn tg (k + 1) p = true then ((k + 1 : Nat) : Int) else -5) else rdk tn mk cn tg k p
section RK
variable {tn mk cn : Int → Int} {tg : Int → Int → Int}
theorem rdk_s (k : Nat) (p : Int) : rdk tn mk cn tg (k + 1) p = if rdk tn mk cn tg k p = -5 then (if wk tn mk cn tg (k + 1) p = true then ((k + 1 : Nat) : Int) else -5) else rdk tn mk cn tg k p := rfl
theorem wk_s (k : Nat) (p : Int) : wk tn mk cn tg (k + 1) p = (wk tn mk cn tg k p || (!decide (¬ mk p = 0 ∨ cn p = 0) && wb tn cn tg (wk tn mk cn tg k) p)) := rfl
theorem rdk_in : ∀ (k : Nat) (p : Int), (rdk tn mk cn tg k p = -5 ∧ wk tn mk cn tg k p = false) ∨ (0 ≤ rdk tn mk cn tg k p ∧ rdk tn mk cn tg k p ≤ k ∧ wk tn mk cn tg k p = true)
  | 0, p => by
    show ((if wk tn mk cn tg 0 p = true then (0 : Int) else -5) = -5 ∧ _) ∨ (0 ≤ (if wk tn mk cn tg 0 p = true then (0 : Int) else -5) ∧ (if wk tn mk cn tg 0 p = true then (0 : Int) else -5) ≤ _ ∧ _)
    by_cases h : wk tn mk cn tg 0 p = true
    · rw [if_pos h]; exact Or.inr ⟨by omega, by omega, h⟩
    · rw [if_neg h]; exact Or.inl ⟨rfl, by simpa using h⟩
  | k + 1, p => by
    have h0 := rdk_in k p
    rw [rdk_s]
    rcases h0 with ⟨h1, h2⟩ | ⟨h1, h2, h3⟩
    · rw [if_pos h1]
      by_cases h : wk tn mk cn tg (k + 1) p = true
      · rw [if_pos h]; exact Or.inr ⟨by omega, by omega, h⟩
      · rw [if_neg h]; exact Or.inl ⟨rfl, by simpa using h⟩
    · rw [if_neg (by omega)]
      exact Or.inr ⟨h1, by omega, by rw [wk_s, h3]; rfl⟩
end RK
theorem cs_congr {f f' : Int → Int} : ∀ {k : Nat}, (∀ j : Nat, j < k → f j = f' j) → cs f k = cs f' k
  | 0, _ => rfl
  | k + 1, h => by rw [cs_s, cs_s, cs_congr (fun j hj => h j (by omega)), h k (by omega)]
theorem cs_bd {f : Int → Int} : ∀ {k : Nat}, (∀ j : Nat, j < k → 0 ≤ f j ∧ f j ≤ 1) → 0 ≤ cs f k ∧ cs f k ≤ k
  | 0, _ => ⟨by show (0 : Int) ≤ 0; omega, by show (0 : Int) ≤ 0; omega⟩
  | k + 1, h => by
    have h1 := cs_bd (k := k) (fun j hj => h j (by omega))
    have h2 := h k (by omega)
    rw [cs_s]
    omega
theorem bi_in (p : Prop) [Decidable p] : 0 ≤ bi p ∧ bi p ≤ 1 := by
  rcases bi_or p with ⟨-, h⟩ | ⟨-, h⟩ <;> omega
def isRounds (G : GG) (r : Nat) : Prop := obj G r (.inl (4, [some (some (r + 1))])) ∧ isRow G (r + 1) (r + 2) 20
abbrev gtM (μ : MU) (g : Nat) : Int → Int → Int := fun p i => μ (g + 12) (p * 20 + i)
section CRO
variable {E : EV} {l : Launch} {G : GG} {μ : MU} {g r : Nat} {p q n : Int}
theorem c_Ro_isWon (hR : isRounds G r) (h0 : 0 ≤ p) (h1 : p < 20) (h2 : inR (μ (r + 2) p)) : KV E l 1 m_Ro_isWon r [rI p] G μ 0 0 (dq (some (rI (bi (¬ μ (r + 2) p = -5)))) G μ) := by
  obtain ⟨r0, r1⟩ := hR
  refine ⟨KC.ofP q_Ro_isWon.1 rfl (Nat.le_of_ble_eq_true rfl) rfl (fun Post NT ST hP => ?_), ⟨_, _, _, r0, rfl, rfl⟩, q_Ro_isWon, by decide⟩
  refine V.aload_n (n := 1) d_Ro_isWon_0 rfl rfl ?_
  refine V.getA (n := 4) d_Ro_isWon_1 f_Ro_14 (by assumption) rfl rfl ?_
  refine V.iload_n (n := 5) d_Ro_isWon_4 rfl rfl ?_
  refine V.cVi (n := 8) d_Ro_isWon_5 k_Ro_50 (c_Rw_get (by assumption) (by omega) (by omega)) rfl rfl (by decide) rfl ?_
  refine V.bipush (n := 10) d_Ro_isWon_8 (by decide) rfl ?_
  refine V.icmp_eq (n2 := 17) (n := 13) d_Ro_isWon_10 (by omega) (by omega) (by decide) rfl (fun h => ?_) (fun h => ?_)
  · rw [bi_f (fun x => x h)] at hP
    refine V.iconst (n := 18) d_Ro_isWon_17 rfl ?_
    refine V.iret d_Ro_isWon_18 ⟨_, rfl, rfl⟩ ?_
    exact hP _ _ ⟨rfl, rfl, rfl⟩
  · rw [bi_t h] at hP
    refine V.iconst (n := 14) d_Ro_isWon_13 rfl ?_
    refine V.goto (n := 18) d_Ro_isWon_14 (by decide) ?_
    refine V.iret d_Ro_isWon_18 ⟨_, rfl, rfl⟩ ?_
    exact hP _ _ ⟨rfl, rfl, rfl⟩
theorem c_Ro_roundOf (hR : isRounds G r) (h0 : 0 ≤ p) (h1 : p < 20) : KV E l 1 m_Ro_roundOf r [rI p] G μ 0 0 (dq (some (rI (μ (r + 2) p))) G μ) := by
  obtain ⟨r0, r1⟩ := hR
  refine ⟨KC.ofP q_Ro_roundOf.1 rfl (Nat.le_of_ble_eq_true rfl) rfl (fun Post NT ST hP => ?_), ⟨_, _, _, r0, rfl, rfl⟩, q_Ro_roundOf, by decide⟩
  refine V.aload_n (n := 1) d_Ro_roundOf_0 rfl rfl ?_
  refine V.getA (n := 4) d_Ro_roundOf_1 f_Ro_14 (by assumption) rfl rfl ?_
  refine V.iload_n (n := 5) d_Ro_roundOf_4 rfl rfl ?_
  refine V.cVi (n := 8) d_Ro_roundOf_5 k_Ro_50 (c_Rw_get (by assumption) (by omega) (by omega)) rfl rfl (by decide) rfl ?_
  refine V.iret d_Ro_roundOf_8 ⟨_, rfl, rfl⟩ ?_
  exact hP _ _ ⟨rfl, rfl, rfl⟩
theorem c_Ro_isWonBy (hR : isRounds G r) (hG : isGame G g) (hg : okG μ g) (hTg : okT μ g) (h0 : 0 ≤ p) (h1 : p < 20) (hn : inR n) (hw : ∀ j : Int, 0 ≤ j → j < 20 → inR (μ (r + 2) j)) (s : Int → Bool) (hs : ∀ j : Int, 0 ≤ j → j < 20 → (s j = true ↔ ¬ μ (r + 2) j = -5 ∧ μ (r + 2) j < n)) : KV E l 2 m_Ro_isWonBy r [rA E g, rI p, rI n] G μ 0 0 (dq (some (rI (bi (wb (μ (g + 2)) (μ (g + 10)) (gtM μ g) s p = true)))) G μ) := by
  have hR0 := hR
  have hG0 := hG
  obtain ⟨r0, r1⟩ := hR
  obtain ⟨a0, a1, a2, a3, a4, a5, a6⟩ := hG
  have hgp := hg p h0 h1
  refine ⟨KC.ofP q_Ro_isWonBy.1 rfl (Nat.le_of_ble_eq_true rfl) rfl (fun Post NT ST hP => ?_), ⟨_, _, _, r0, rfl, rfl⟩, q_Ro_isWonBy, by decide⟩
  refine V.aload_n (n := 1) d_Ro_isWonBy_0 rfl rfl ?_
  refine V.getA (n := 4) d_Ro_isWonBy_1 f_Ro_47 (by assumption) rfl rfl ?_
  refine V.iload_n (n := 5) d_Ro_isWonBy_4 rfl rfl ?_
  refine V.cVi (n := 8) d_Ro_isWonBy_5 k_Ro_50 (c_Rw_get (by assumption) (by omega) (by omega)) rfl rfl (by decide) rfl ?_
  refine V.istore (n := 10) d_Ro_isWonBy_8 (by decide) rfl ?_
  refine V.iconst (n := 11) d_Ro_isWonBy_10 rfl ?_
  refine V.istore (n := 13) d_Ro_isWonBy_11 (by decide) rfl ?_
  refine V.iconst (n := 14) d_Ro_isWonBy_13 rfl ?_
  refine V.istore (n := 16) d_Ro_isWonBy_14 (by decide) rfl ?_
  have loop : ∀ (k : Nat) (j : Nat) (u : Value), u.category = 1 → (j : Int) + k = μ (g + 10) p → V E l m_Ro_isWonBy none 2 NT ST Post 16 [(6, rI j), (5, rI (cs (fun i => bi (s (gtM μ g p i) = true)) j)), (4, rI (μ (g + 10) p)), (3, rI n), (2, rI p), (1, rA E g), (0, rA E r)] [] G μ := by
    intro k
    induction k with
    | zero =>
      intro j u hu hj
      have hb := cs_bd (f := fun i => bi (s (gtM μ g p i) = true)) (k := j) (fun _ _ => bi_in _)
      have hjt : j = (μ (g + 10) p).toNat := by omega
      subst hjt
      refine V.iload (n := 18) d_Ro_isWonBy_16 rfl rfl ?_
      refine V.iload (n := 20) d_Ro_isWonBy_18 rfl rfl ?_
      refine V.icmp_geT (n2 := 60) d_Ro_isWonBy_20 (by omega) (by omega) (by omega) (by decide) ?_
      refine V.aload_n (n := 61) d_Ro_isWonBy_60 rfl rfl ?_
      refine V.getA (n := 64) d_Ro_isWonBy_61 f_Ro_61 (by assumption) rfl rfl ?_
      refine V.iload_n (n := 65) d_Ro_isWonBy_64 rfl rfl ?_
      refine V.cVi (n := 68) d_Ro_isWonBy_65 k_Ro_50 (c_Rw_get (by assumption) (by omega) (by omega)) rfl rfl (by decide) rfl ?_
      refine V.if_ne (n2 := 84) (n := 71) d_Ro_isWonBy_68 (by omega) (by decide) rfl (fun h2 => ?_) (fun h2 => ?_)
      · refine V.iload (n := 86) d_Ro_isWonBy_84 rfl rfl ?_
        refine V.iload (n := 88) d_Ro_isWonBy_86 rfl rfl ?_
        refine V.icmp_ne (n2 := 95) (n := 91) d_Ro_isWonBy_88 (by omega) (by omega) (by decide) rfl (fun h3 => ?_) (fun h3 => ?_)
        · rw [bi_f (by unfold wb; rw [if_neg h2]; simpa using h3)] at hP
          refine V.iconst (n := 96) d_Ro_isWonBy_95 rfl ?_
          refine V.iret d_Ro_isWonBy_96 ⟨_, rfl, rfl⟩ ?_
          exact hP _ _ ⟨rfl, rfl, rfl⟩
        · rw [bi_t (by unfold wb; rw [if_neg h2]; simpa using h3)] at hP
          refine V.iconst (n := 92) d_Ro_isWonBy_91 rfl ?_
          refine V.goto (n := 96) d_Ro_isWonBy_92 (by decide) ?_
          refine V.iret d_Ro_isWonBy_96 ⟨_, rfl, rfl⟩ ?_
          exact hP _ _ ⟨rfl, rfl, rfl⟩
      · refine V.iload (n := 73) d_Ro_isWonBy_71 rfl rfl ?_
        refine V.if_le (n2 := 80) (n := 76) d_Ro_isWonBy_73 (by omega) (by decide) rfl (fun h3 => ?_) (fun h3 => ?_)
        · rw [bi_f (by unfold wb; rw [if_pos h2]; simpa using h3)] at hP
          refine V.iconst (n := 81) d_Ro_isWonBy_80 rfl ?_
          refine V.goto (n := 96) d_Ro_isWonBy_81 (by decide) ?_
          refine V.iret d_Ro_isWonBy_96 ⟨_, rfl, rfl⟩ ?_
          exact hP _ _ ⟨rfl, rfl, rfl⟩
        · rw [bi_t (by unfold wb; rw [if_pos h2]; simpa using h3)] at hP
          refine V.iconst (n := 77) d_Ro_isWonBy_76 rfl ?_
          refine V.goto (n := 96) d_Ro_isWonBy_77 (by decide) ?_
          refine V.iret d_Ro_isWonBy_96 ⟨_, rfl, rfl⟩ ?_
          exact hP _ _ ⟨rfl, rfl, rfl⟩
    | succ k ih =>
      intro j u hu hj
      have hb := cs_bd (f := fun i => bi (s (gtM μ g p i) = true)) (k := j) (fun _ _ => bi_in _)
      have ht := hTg p j h0 h1 (by omega) (by omega)
      have hwj := hw _ ht.1 ht.2
      have hsj := hs _ ht.1 ht.2
      have hx := ih (j + 1) (rI 0) rfl (by omega)
      rw [cs_s, show ((j + 1 : Nat) : Int) = (j : Int) + 1 by omega] at hx
      refine V.iload (n := 18) d_Ro_isWonBy_16 rfl rfl ?_
      refine V.iload (n := 20) d_Ro_isWonBy_18 rfl rfl ?_
      refine V.icmp_geF (n := 23) d_Ro_isWonBy_20 (by omega) (by omega) (by omega) rfl ⟨60, by decide⟩ ?_
      refine V.aload_n (n := 24) d_Ro_isWonBy_23 rfl rfl ?_
      refine V.iload_n (n := 25) d_Ro_isWonBy_24 rfl rfl ?_
      refine V.iload (n := 27) d_Ro_isWonBy_25 rfl rfl ?_
      refine V.cVi (n := 30) d_Ro_isWonBy_27 k_Ro_54 (c_Gm_targetOf (by assumption) (by omega) (by omega) (by omega) (by omega) (by omega)) rfl rfl (by decide) rfl ?_
      refine V.istore (n := 32) d_Ro_isWonBy_30 (by decide) rfl ?_
      refine V.aload_n (n := 33) d_Ro_isWonBy_32 rfl rfl ?_
      refine V.iload (n := 35) d_Ro_isWonBy_33 rfl rfl ?_
      refine V.cVi (n := 38) d_Ro_isWonBy_35 k_Ro_37 (c_Ro_isWon hR0 ht.1 ht.2 hwj) rfl rfl (by decide) rfl ?_
      rcases bi_or (¬ μ (r + 2) (μ (g + 12) (p * 20 + j)) = -5) with ⟨hb1, e⟩ | ⟨hb1, e⟩ <;> rw [e]
      · refine V.if_eqF (n := 41) d_Ro_isWonBy_38 (by omega) (by omega) rfl ⟨54, by decide⟩ ?_
        refine V.aload_n (n := 42) d_Ro_isWonBy_41 rfl rfl ?_
        refine V.iload (n := 44) d_Ro_isWonBy_42 rfl rfl ?_
        refine V.cVi (n := 47) d_Ro_isWonBy_44 k_Ro_58 (c_Ro_roundOf hR0 ht.1 ht.2) rfl rfl (by decide) rfl ?_
        refine V.iload_n (n := 48) d_Ro_isWonBy_47 rfl rfl ?_
        refine V.icmp_ge (n2 := 54) (n := 51) d_Ro_isWonBy_48 (by omega) (by omega) (by decide) rfl (fun h3 => ?_) (fun h3 => ?_)
        · rw [bi_f (fun x => by have := (hsj.mp x).2; omega), Int.add_zero] at hx
          refine V.iinc (n := 57) d_Ro_isWonBy_54 rfl (by decide) rfl ?_
          refine V.goto (n := 16) d_Ro_isWonBy_57 (by decide) ?_
          refine V.loc (lo' := [(6, rI ((j : Int) + 1)), (5, rI (cs (fun i => bi (s (gtM μ g p i) = true)) j)), (4, rI (μ (g + 10) p)), (3, rI n), (2, rI p), (1, rA E g), (0, rA E r)]) ⟨rfl, rfl, rfl, rfl, rfl, rfl, rfl, trivial⟩ ?_
          exact hx
        · rw [bi_t (hsj.mpr ⟨hb1, by omega⟩)] at hx
          refine V.iinc (n := 54) d_Ro_isWonBy_51 rfl (by decide) rfl ?_
          refine V.iinc (n := 57) d_Ro_isWonBy_54 rfl (by decide) rfl ?_
          refine V.goto (n := 16) d_Ro_isWonBy_57 (by decide) ?_
          refine V.loc (lo' := [(6, rI ((j : Int) + 1)), (5, rI (cs (fun i => bi (s (gtM μ g p i) = true)) j + 1)), (4, rI (μ (g + 10) p)), (3, rI n), (2, rI p), (1, rA E g), (0, rA E r)]) ⟨rfl, rfl, rfl, rfl, rfl, rfl, rfl, trivial⟩ ?_
          exact hx
      · rw [bi_f (fun x => hb1 (hsj.mp x).1), Int.add_zero] at hx
        refine V.if_eqT (n2 := 54) d_Ro_isWonBy_38 (by omega) (by omega) (by decide) ?_
        refine V.iinc (n := 57) d_Ro_isWonBy_54 rfl (by decide) rfl ?_
        refine V.goto (n := 16) d_Ro_isWonBy_57 (by decide) ?_
        refine V.loc (lo' := [(6, rI ((j : Int) + 1)), (5, rI (cs (fun i => bi (s (gtM μ g p i) = true)) j)), (4, rI (μ (g + 10) p)), (3, rI n), (2, rI p), (1, rA E g), (0, rA E r)]) ⟨rfl, rfl, rfl, rfl, rfl, rfl, rfl, trivial⟩ ?_
        exact hx
  have hl := loop (μ (g + 10) p).toNat 0 (rI 0) rfl (by omega)
  refine V.loc (lo' := [(6, rI 0), (5, rI 0), (4, rI (μ (g + 10) p)), (3, rI n), (2, rI p), (1, rA E g), (0, rA E r)]) ⟨rfl, rfl, rfl, rfl, rfl, rfl, rfl, trivial⟩ ?_
  exact hl
abbrev rdM (μ : MU) (g : Nat) : Nat → Int → Int := rdk (μ (g + 2)) (μ (g + 4)) (μ (g + 10)) (gtM μ g)
abbrev wkM (μ : MU) (g : Nat) : Nat → Int → Bool := wk (μ (g + 2)) (μ (g + 4)) (μ (g + 10)) (gtM μ g)
theorem rdM_in (μ : MU) (g k : Nat) (p : Int) : (rdM μ g k p = -5 ∧ wkM μ g k p = false) ∨ (0 ≤ rdM μ g k p ∧ rdM μ g k p ≤ k ∧ wkM μ g k p = true) := rdk_in k p
theorem c_Ro_playRound (hR : isRounds G r) (hG : isGame G g) (hd : r + 2 < g ∨ g + 12 < r) {μ0 : MU} (h0g : ∀ b, ¬ b = r + 2 → μ b = μ0 b) (hg : okG μ0 g) (hTg : okT μ0 g) (m : Nat) (hm : m < 20) (hw : ∀ j : Int, 0 ≤ j → j < 20 → μ (r + 2) j = rdM μ0 g m j) : KV E l 3 m_Ro_playRound r [rA E g, rI (m + 1)] G μ 0 0 (dqv (fun μ' => (∀ b, ¬ b = r + 2 → μ' b = μ0 b) ∧ ∀ j : Int, 0 ≤ j → j < 20 → μ' (r + 2) j = rdM μ0 g (m + 1) j) G) := by
  have hR0 := hR
  have hG0 := hG
  obtain ⟨r0, r1⟩ := hR
  obtain ⟨a0, a1, a2, a3, a4, a5, a6⟩ := hG
  refine ⟨KC.ofP q_Ro_playRound.1 rfl (Nat.le_of_ble_eq_true rfl) rfl (fun Post NT ST hP => ?_), ⟨_, _, _, r0, rfl, rfl⟩, q_Ro_playRound, by decide⟩
  refine V.iconst (n := 1) d_Ro_playRound_0 rfl ?_
  refine V.istore_n (n := 2) d_Ro_playRound_1 (by decide) rfl ?_
  have loop : ∀ (k : Nat) (i : Int) (ν : MU), i + k = 20 → 0 ≤ i → (∀ b, ¬ b = r + 2 → ν b = μ0 b) → (∀ j : Int, 0 ≤ j → j < 20 → ν (r + 2) j = if j < i then rdM μ0 g (m + 1) j else rdM μ0 g m j) → V E l m_Ro_playRound none 3 NT ST Post 2 [(3, rI i), (2, rI (m + 1)), (1, rA E g), (0, rA E r)] [] G ν := by
    intro k
    induction k with
    | zero =>
      intro i ν hk hi n1 n2
      refine V.iload_n (n := 3) d_Ro_playRound_2 rfl rfl ?_
      refine V.bipush (n := 5) d_Ro_playRound_3 (by decide) rfl ?_
      refine V.icmp_geT (n2 := 49) d_Ro_playRound_5 (by omega) (by omega) (by omega) (by decide) ?_
      refine V.vret d_Ro_playRound_49 rfl ?_
      exact hP _ _ ⟨rfl, rfl, n1, fun j j0 j1 => by rw [n2 j j0 j1, if_pos (by omega)]⟩
    | succ k ih =>
      intro i ν hk hi n1 n2
      have f2 : ν (g + 2) = μ0 (g + 2) := n1 _ (by omega)
      have f4 : ν (g + 4) = μ0 (g + 4) := n1 _ (by omega)
      have f6 : ν (g + 6) = μ0 (g + 6) := n1 _ (by omega)
      have f8 : ν (g + 8) = μ0 (g + 8) := n1 _ (by omega)
      have f10 : ν (g + 10) = μ0 (g + 10) := n1 _ (by omega)
      have f12 : ν (g + 12) = μ0 (g + 12) := n1 _ (by omega)
      have hi2 := n2 i hi (by omega)
      rw [if_neg (by omega)] at hi2
      have hbd : ∀ j : Int, 0 ≤ j → j < 20 → -5 ≤ ν (r + 2) j ∧ ν (r + 2) j ≤ 20 := fun j j0 j1 => by
        rw [n2 j j0 j1]
        have q1 := rdM_in μ0 g m j
        have q2 := rdM_in μ0 g (m + 1) j
        split <;> omega
      have hbi := hbd i hi (by omega)
      have hgi := hg i hi (by omega)
      have hgo : okG ν g := fun p p0 p1 => by
        rw [f2, f4, f6, f8, f10]
        exact hg p p0 p1
      have hTo : okT ν g := fun p q p0 p1 q0 q1 => by
        rw [f12]
        exact hTg p q p0 p1 q0 (by rw [f10] at q1; exact q1)
      have hs : ∀ j : Int, 0 ≤ j → j < 20 → (wkM μ0 g m j = true ↔ ¬ ν (r + 2) j = -5 ∧ ν (r + 2) j < m + 1) := fun j j0 j1 => by
        rw [n2 j j0 j1]
        have q1 := rdk_in (tn := μ0 (g + 2)) (mk := μ0 (g + 4)) (cn := μ0 (g + 10)) (tg := gtM μ0 g) m j
        have q3 := rdk_s (tn := μ0 (g + 2)) (mk := μ0 (g + 4)) (cn := μ0 (g + 10)) (tg := gtM μ0 g) m j
        rcases q1 with ⟨q1, q2⟩ | ⟨q1, q2, q4⟩
        · rw [show wkM μ0 g m j = false from q2]
          have : rdM μ0 g m j = -5 := q1
          have h3 : rdM μ0 g (m + 1) j = -5 ∨ rdM μ0 g (m + 1) j = ((m + 1 : Nat) : Int) := by
            show rdk _ _ _ _ (m + 1) j = _ ∨ rdk _ _ _ _ (m + 1) j = _
            rw [q3, if_pos q1]
            split
            · exact Or.inr rfl
            · exact Or.inl rfl
          constructor
          · intro x; cases x
          · intro x
            split at x <;> omega
        · rw [show wkM μ0 g m j = true from q4]
          have e1 : rdM μ0 g (m + 1) j = rdM μ0 g m j := by
            show rdk _ _ _ _ (m + 1) j = _
            rw [q3, if_neg (by omega)]
          rw [e1]
          have q1' : 0 ≤ rdM μ0 g m j := q1
          have q2' : rdM μ0 g m j ≤ m := q2
          refine ⟨fun _ => ?_, fun _ => rfl⟩
          split <;> omega
      have key : rdM μ0 g (m + 1) i = if rdM μ0 g m i = -5 then (if ¬ (¬ μ0 (g + 4) i = 0 ∨ μ0 (g + 10) i = 0) ∧ wb (μ0 (g + 2)) (μ0 (g + 10)) (gtM μ0 g) (wkM μ0 g m) i = true then ((m + 1 : Nat) : Int) else -5) else rdM μ0 g m i := by
        show rdk _ _ _ _ (m + 1) i = _
        rw [rdk_s]
        have q1 := rdk_in (tn := μ0 (g + 2)) (mk := μ0 (g + 4)) (cn := μ0 (g + 10)) (tg := gtM μ0 g) m i
        by_cases h5 : rdM μ0 g m i = -5
        · rw [if_pos h5, if_pos h5]
          have hwf : wkM μ0 g m i = false := by
            rcases q1 with ⟨-, q⟩ | ⟨q, -, -⟩
            · exact q
            · have : 0 ≤ rdM μ0 g m i := q
              omega
          congr 1
          rw [wk_s, show wk (μ0 (g + 2)) (μ0 (g + 4)) (μ0 (g + 10)) (gtM μ0 g) m i = false from hwf]
          simp
        · rw [if_neg h5, if_neg h5]
      have next : ∀ ν' : MU, (∀ b, ¬ b = r + 2 → ν' b = ν b) → (∀ j : Int, ¬ j = i → ν' (r + 2) j = ν (r + 2) j) → ν' (r + 2) i = rdM μ0 g (m + 1) i → V E l m_Ro_playRound none 3 NT ST Post 2 [(3, rI (i + 1)), (2, rI (m + 1)), (1, rA E g), (0, rA E r)] [] G ν' := by
        intro ν' o1 o2 o3
        refine ih (i + 1) ν' (by omega) (by omega) (fun b hb => by rw [o1 b hb, n1 b hb]) (fun j j0 j1 => ?_)
        by_cases hj : j = i
        · rw [hj, o3, if_pos (by omega)]
        · rw [o2 j hj, n2 j j0 j1]
          by_cases hji : j < i
          · rw [if_pos hji, if_pos (by omega)]
          · rw [if_neg hji, if_neg (by omega)]
      refine V.iload_n (n := 3) d_Ro_playRound_2 rfl rfl ?_
      refine V.bipush (n := 5) d_Ro_playRound_3 (by decide) rfl ?_
      refine V.icmp_geF (n := 8) d_Ro_playRound_5 (by omega) (by omega) (by omega) rfl ⟨49, by decide⟩ ?_
      refine V.aload_n (n := 9) d_Ro_playRound_8 rfl rfl ?_
      refine V.iload_n (n := 10) d_Ro_playRound_9 rfl rfl ?_
      refine V.cVi (n := 13) d_Ro_playRound_10 k_Ro_37 (c_Ro_isWon hR0 hi (by omega) (by omega)) rfl rfl (by decide) rfl ?_
      rw [hi2]
      rcases bi_or (¬ rdM μ0 g m i = -5) with ⟨hb1, e⟩ | ⟨hb1, e⟩ <;> rw [e]
      · rw [if_neg hb1] at key
        refine V.if_neT (n2 := 43) d_Ro_playRound_13 (by omega) (by omega) (by decide) ?_
        refine V.iinc (n := 46) d_Ro_playRound_43 rfl (by decide) rfl ?_
        refine V.goto (n := 2) d_Ro_playRound_46 (by decide) ?_
        refine V.loc (lo' := [(3, rI (i + 1)), (2, rI (m + 1)), (1, rA E g), (0, rA E r)]) ⟨rfl, rfl, rfl, rfl, trivial⟩ ?_
        exact next ν (fun _ _ => rfl) (fun _ _ => rfl) (by rw [key, hi2])
      · rw [if_pos (by omega)] at key
        refine V.if_neF (n := 16) d_Ro_playRound_13 (by omega) (by omega) rfl ⟨43, by decide⟩ ?_
        refine V.aload_n (n := 17) d_Ro_playRound_16 rfl rfl ?_
        refine V.iload_n (n := 18) d_Ro_playRound_17 rfl rfl ?_
        refine V.cVi (n := 21) d_Ro_playRound_18 k_Ro_40 (c_Gm_isEnd hG0 hi (by omega) (by rw [f4]; omega) (by rw [f10]; omega)) rfl rfl (by decide) rfl ?_
        rw [f4, f10]
        rcases bi_or (¬ μ0 (g + 4) i = 0 ∨ μ0 (g + 10) i = 0) with ⟨hb2, e⟩ | ⟨hb2, e⟩ <;> rw [e]
        · rw [if_neg (fun x => x.1 hb2)] at key
          refine V.if_neT (n2 := 43) d_Ro_playRound_21 (by omega) (by omega) (by decide) ?_
          refine V.iinc (n := 46) d_Ro_playRound_43 rfl (by decide) rfl ?_
          refine V.goto (n := 2) d_Ro_playRound_46 (by decide) ?_
          refine V.loc (lo' := [(3, rI (i + 1)), (2, rI (m + 1)), (1, rA E g), (0, rA E r)]) ⟨rfl, rfl, rfl, rfl, trivial⟩ ?_
          exact next ν (fun _ _ => rfl) (fun _ _ => rfl) (by rw [key, hi2]; omega)
        · refine V.if_neF (n := 24) d_Ro_playRound_21 (by omega) (by omega) rfl ⟨43, by decide⟩ ?_
          refine V.aload_n (n := 25) d_Ro_playRound_24 rfl rfl ?_
          refine V.aload_n (n := 26) d_Ro_playRound_25 rfl rfl ?_
          refine V.iload_n (n := 27) d_Ro_playRound_26 rfl rfl ?_
          refine V.iload_n (n := 28) d_Ro_playRound_27 rfl rfl ?_
          refine V.cVi (n := 31) d_Ro_playRound_28 k_Ro_43 (c_Ro_isWonBy hR0 hG0 hgo hTo hi (by omega) (by omega) (fun j j0 j1 => by have := hbd j j0 j1; omega) (wkM μ0 g m) hs) rfl rfl (by decide) rfl ?_
          rw [show gtM ν g = gtM μ0 g by funext a b; show ν (g + 12) _ = _; rw [f12], f2, f10]
          rcases bi_or (wb (μ0 (g + 2)) (μ0 (g + 10)) (gtM μ0 g) (wkM μ0 g m) i = true) with ⟨hb3, e⟩ | ⟨hb3, e⟩ <;> rw [e]
          · rw [if_pos ⟨hb2, hb3⟩] at key
            refine V.if_eqF (n := 34) d_Ro_playRound_31 (by omega) (by omega) rfl ⟨43, by decide⟩ ?_
            refine V.aload_n (n := 35) d_Ro_playRound_34 rfl rfl ?_
            refine V.getA (n := 38) d_Ro_playRound_35 f_Ro_14 (by assumption) rfl rfl ?_
            refine V.iload_n (n := 39) d_Ro_playRound_38 rfl rfl ?_
            refine V.iload_n (n := 40) d_Ro_playRound_39 rfl rfl ?_
            refine V.cVv (n := 43) d_Ro_playRound_40 k_Ro_29 (c_Rw_set (by assumption) (by omega) (by omega)) rfl rfl (by decide) rfl ?_
            refine V.iinc (n := 46) d_Ro_playRound_43 rfl (by decide) rfl ?_
            refine V.goto (n := 2) d_Ro_playRound_46 (by decide) ?_
            refine V.loc (lo' := [(3, rI (i + 1)), (2, rI (m + 1)), (1, rA E g), (0, rA E r)]) ⟨rfl, rfl, rfl, rfl, trivial⟩ ?_
            exact next _ (fun b hb => wr_a hb) (fun j hj => wr_i hj) (by rw [wr_s, key]; omega)
          · rw [if_neg (fun x => hb3 x.2)] at key
            refine V.if_eqT (n2 := 43) d_Ro_playRound_31 (by omega) (by omega) (by decide) ?_
            refine V.iinc (n := 46) d_Ro_playRound_43 rfl (by decide) rfl ?_
            refine V.goto (n := 2) d_Ro_playRound_46 (by decide) ?_
            refine V.loc (lo' := [(3, rI (i + 1)), (2, rI (m + 1)), (1, rA E g), (0, rA E r)]) ⟨rfl, rfl, rfl, rfl, trivial⟩ ?_
            exact next ν (fun _ _ => rfl) (fun _ _ => rfl) (by rw [key, hi2]; omega)
  refine V.loc (lo' := [(3, rI 0), (2, rI (m + 1)), (1, rA E g), (0, rA E r)]) ⟨rfl, rfl, rfl, rfl, trivial⟩ ?_
  exact loop 20 0 μ (by omega) (by omega) h0g (fun j j0 j1 => by rw [if_neg (by omega), hw j j0 j1])
theorem c_Ro_workOut (hR : isRounds G r) (hG : isGame G g) (hd : r + 2 < g ∨ g + 12 < r) (hg : okG μ g) (hTg : okT μ g) : KV E l 4 m_Ro_workOut r [rA E g] G μ 0 0 (dqv (fun μ' => (∀ b, ¬ b = r + 2 → μ' b = μ b) ∧ ∀ j : Int, 0 ≤ j → j < 20 → μ' (r + 2) j = rdM μ g 20 j) G) := by
  have hR0 := hR
  have hG0 := hG
  obtain ⟨r0, r1⟩ := hR
  obtain ⟨a0, a1, a2, a3, a4, a5, a6⟩ := hG
  refine ⟨KC.ofP q_Ro_workOut.1 rfl (Nat.le_of_ble_eq_true rfl) rfl (fun Post NT ST hP => ?_), ⟨_, _, _, r0, rfl, rfl⟩, q_Ro_workOut, by decide⟩
  refine V.aload_n (n := 1) d_Ro_workOut_0 rfl rfl ?_
  refine V.getA (n := 4) d_Ro_workOut_1 f_Ro_14 (by assumption) rfl rfl ?_
  refine V.bipush (n := 6) d_Ro_workOut_4 (by decide) rfl ?_
  refine V.cVqv (n := 9) d_Ro_workOut_6 k_Ro_20 (c_Rw_fill r1) rfl rfl (by decide) rfl (fun μ1 hq => ?_)
  obtain ⟨m1, m2⟩ := hq
  refine V.iconst (n := 10) d_Ro_workOut_9 rfl ?_
  refine V.istore_n (n := 11) d_Ro_workOut_10 (by decide) rfl ?_
  have loop2 : ∀ (k : Nat) (m : Nat) (ν : MU), m + k = 20 → (∀ b, ¬ b = r + 2 → ν b = μ b) → (∀ j : Int, 0 ≤ j → j < 20 → ν (r + 2) j = rdM μ g m j) → V E l m_Ro_workOut none 4 NT ST Post 42 [(2, rI (m + 1)), (1, rA E g), (0, rA E r)] [] G ν := by
    intro k
    induction k with
    | zero =>
      intro m ν hk n1 n2
      have hm : m = 20 := by omega
      subst hm
      refine V.iload_n (n := 43) d_Ro_workOut_42 rfl rfl ?_
      refine V.bipush (n := 45) d_Ro_workOut_43 (by decide) rfl ?_
      refine V.icmp_gtT (n2 := 60) d_Ro_workOut_45 (by omega) (by omega) (by omega) (by decide) ?_
      refine V.vret d_Ro_workOut_60 rfl ?_
      exact hP _ _ ⟨rfl, rfl, n1, n2⟩
    | succ k ih =>
      intro m ν hk n1 n2
      refine V.iload_n (n := 43) d_Ro_workOut_42 rfl rfl ?_
      refine V.bipush (n := 45) d_Ro_workOut_43 (by decide) rfl ?_
      refine V.icmp_gtF (n := 48) d_Ro_workOut_45 (by omega) (by omega) (by omega) rfl ⟨60, by decide⟩ ?_
      refine V.aload_n (n := 49) d_Ro_workOut_48 rfl rfl ?_
      refine V.aload_n (n := 50) d_Ro_workOut_49 rfl rfl ?_
      refine V.iload_n (n := 51) d_Ro_workOut_50 rfl rfl ?_
      refine V.cVqv (n := 54) d_Ro_workOut_51 k_Ro_33 (c_Ro_playRound hR0 hG0 hd n1 hg hTg m (by omega) n2) rfl rfl (by decide) rfl (fun μ' hq => ?_)
      have hx := ih (m + 1) _ (by omega) hq.1 hq.2
      rw [show (((m + 1 : Nat) : Int) + 1) = (m : Int) + 1 + 1 by omega] at hx
      refine V.iinc (n := 57) d_Ro_workOut_54 rfl (by decide) rfl ?_
      refine V.goto (n := 42) d_Ro_workOut_57 (by decide) ?_
      refine V.loc (lo' := [(2, rI ((m : Int) + 1 + 1)), (1, rA E g), (0, rA E r)]) ⟨rfl, rfl, rfl, trivial⟩ ?_
      exact hx
  have loop1 : ∀ (k : Nat) (i : Int) (ν : MU), i + k = 20 → 0 ≤ i → (∀ b, ¬ b = r + 2 → ν b = μ b) → (∀ j : Int, 0 ≤ j → j < 20 → ν (r + 2) j = if j < i then rdM μ g 0 j else -5) → V E l m_Ro_workOut none 4 NT ST Post 11 [(2, rI i), (1, rA E g), (0, rA E r)] [] G ν := by
    intro k
    induction k with
    | zero =>
      intro i ν hk hi n1 n2
      refine V.iload_n (n := 12) d_Ro_workOut_11 rfl rfl ?_
      refine V.bipush (n := 14) d_Ro_workOut_12 (by decide) rfl ?_
      refine V.icmp_geT (n2 := 40) d_Ro_workOut_14 (by omega) (by omega) (by omega) (by decide) ?_
      refine V.iconst (n := 41) d_Ro_workOut_40 rfl ?_
      refine V.istore_n (n := 42) d_Ro_workOut_41 (by decide) rfl ?_
      refine V.loc (lo' := [(2, rI 1), (1, rA E g), (0, rA E r)]) ⟨rfl, rfl, rfl, trivial⟩ ?_
      exact loop2 20 0 ν (by omega) n1 (fun j j0 j1 => by rw [n2 j j0 j1, if_pos (by omega)])
    | succ k ih =>
      intro i ν hk hi n1 n2
      have hgi := hg i hi (by omega)
      have f4 : ν (g + 4) = μ (g + 4) := n1 _ (by omega)
      have hr0 : rdM μ g 0 i = if μ (g + 4) i = 1 then 0 else -5 := by
        show (if wk _ _ _ _ 0 i = true then (0 : Int) else -5) = _
        show (if decide (μ (g + 4) i = 1) = true then (0 : Int) else -5) = _
        simp
      refine V.iload_n (n := 12) d_Ro_workOut_11 rfl rfl ?_
      refine V.bipush (n := 14) d_Ro_workOut_12 (by decide) rfl ?_
      refine V.icmp_geF (n := 17) d_Ro_workOut_14 (by omega) (by omega) (by omega) rfl ⟨40, by decide⟩ ?_
      refine V.aload_n (n := 18) d_Ro_workOut_17 rfl rfl ?_
      refine V.iload_n (n := 19) d_Ro_workOut_18 rfl rfl ?_
      refine V.cVi (n := 22) d_Ro_workOut_19 k_Ro_23 (c_Gm_isWonEnd hG0 hi (by omega) (by rw [f4]; omega)) rfl rfl (by decide) rfl ?_
      rw [f4]
      rcases bi_or (μ (g + 4) i = 1) with ⟨hb, e⟩ | ⟨hb, e⟩ <;> rw [e]
      · rw [if_pos hb] at hr0
        refine V.if_eqF (n := 25) d_Ro_workOut_22 (by omega) (by omega) rfl ⟨34, by decide⟩ ?_
        refine V.aload_n (n := 26) d_Ro_workOut_25 rfl rfl ?_
        refine V.getA (n := 29) d_Ro_workOut_26 f_Ro_14 (by assumption) rfl rfl ?_
        refine V.iload_n (n := 30) d_Ro_workOut_29 rfl rfl ?_
        refine V.iconst (n := 31) d_Ro_workOut_30 rfl ?_
        refine V.cVv (n := 34) d_Ro_workOut_31 k_Ro_29 (c_Rw_set (by assumption) (by omega) (by omega)) rfl rfl (by decide) rfl ?_
        refine V.iinc (n := 37) d_Ro_workOut_34 rfl (by decide) rfl ?_
        refine V.goto (n := 11) d_Ro_workOut_37 (by decide) ?_
        refine V.loc (lo' := [(2, rI (i + 1)), (1, rA E g), (0, rA E r)]) ⟨rfl, rfl, rfl, trivial⟩ ?_
        refine ih (i + 1) _ (by omega) (by omega) (fun b hb => by rw [wr_a hb, n1 b hb]) (fun j j0 j1 => ?_)
        rw [wr_v]
        by_cases hj : j = i
        · rw [if_pos hj, hj, if_pos (by omega), hr0]
        · rw [if_neg hj, n2 j j0 j1]
          by_cases hji : j < i
          · rw [if_pos hji, if_pos (by omega)]
          · rw [if_neg hji, if_neg (by omega)]
      · rw [if_neg hb] at hr0
        refine V.if_eqT (n2 := 34) d_Ro_workOut_22 (by omega) (by omega) (by decide) ?_
        refine V.iinc (n := 37) d_Ro_workOut_34 rfl (by decide) rfl ?_
        refine V.goto (n := 11) d_Ro_workOut_37 (by decide) ?_
        refine V.loc (lo' := [(2, rI (i + 1)), (1, rA E g), (0, rA E r)]) ⟨rfl, rfl, rfl, trivial⟩ ?_
        refine ih (i + 1) _ (by omega) (by omega) n1 (fun j j0 j1 => ?_)
        rw [n2 j j0 j1]
        by_cases hj : j = i
        · rw [hj, if_neg (by omega), if_pos (by omega), hr0]
        · by_cases hji : j < i
          · rw [if_pos hji, if_pos (by omega)]
          · rw [if_neg hji, if_neg (by omega)]
  refine V.loc (lo' := [(2, rI 0), (1, rA E g), (0, rA E r)]) ⟨rfl, rfl, rfl, trivial⟩ ?_
  exact loop1 20 0 μ1 (by omega) (by omega) m1 (fun j j0 j1 => by rw [if_neg (by omega)]; exact m2 j j0 j1)
theorem c_Ro_wonPositions (hR : isRounds G r) (hw : ∀ j : Int, 0 ≤ j → j < 20 → inR (μ (r + 2) j)) : KV E l 2 m_Ro_wonPositions r [] G μ 0 0 (dq (some (rI (cs (fun j => bi (¬ μ (r + 2) j = -5)) 20))) G μ) := by
  have hR0 := hR
  obtain ⟨r0, r1⟩ := hR
  refine ⟨KC.ofP q_Ro_wonPositions.1 rfl (Nat.le_of_ble_eq_true rfl) rfl (fun Post NT ST hP => ?_), ⟨_, _, _, r0, rfl, rfl⟩, q_Ro_wonPositions, by decide⟩
  refine V.iconst (n := 1) d_Ro_wonPositions_0 rfl ?_
  refine V.istore_n (n := 2) d_Ro_wonPositions_1 (by decide) rfl ?_
  refine V.iconst (n := 3) d_Ro_wonPositions_2 rfl ?_
  refine V.istore_n (n := 4) d_Ro_wonPositions_3 (by decide) rfl ?_
  have loop : ∀ (k j : Nat), j + k = 20 → V E l m_Ro_wonPositions none 2 NT ST Post 4 [(2, rI j), (1, rI (cs (fun j => bi (¬ μ (r + 2) j = -5)) j)), (0, rA E r)] [] G μ := by
    intro k
    induction k with
    | zero =>
      intro j hj
      have hj2 : j = 20 := by omega
      subst hj2
      refine V.iload_n (n := 5) d_Ro_wonPositions_4 rfl rfl ?_
      refine V.bipush (n := 7) d_Ro_wonPositions_5 (by decide) rfl ?_
      refine V.icmp_geT (n2 := 27) d_Ro_wonPositions_7 (by omega) (by omega) (by omega) (by decide) ?_
      refine V.iload_n (n := 28) d_Ro_wonPositions_27 rfl rfl ?_
      refine V.iret d_Ro_wonPositions_28 ⟨_, rfl, rfl⟩ ?_
      exact hP _ _ ⟨rfl, rfl, rfl⟩
    | succ k ih =>
      intro j hj
      have hwj := hw j (by omega) (by omega)
      have hx := ih (j + 1) (by omega)
      rw [cs_s, show ((j + 1 : Nat) : Int) = (j : Int) + 1 by omega] at hx
      refine V.iload_n (n := 5) d_Ro_wonPositions_4 rfl rfl ?_
      refine V.bipush (n := 7) d_Ro_wonPositions_5 (by decide) rfl ?_
      refine V.icmp_geF (n := 10) d_Ro_wonPositions_7 (by omega) (by omega) (by omega) rfl ⟨27, by decide⟩ ?_
      refine V.aload_n (n := 11) d_Ro_wonPositions_10 rfl rfl ?_
      refine V.iload_n (n := 12) d_Ro_wonPositions_11 rfl rfl ?_
      refine V.cVi (n := 15) d_Ro_wonPositions_12 k_Ro_37 (c_Ro_isWon hR0 (by omega) (by omega) hwj) rfl rfl (by decide) rfl ?_
      rcases bi_or (¬ μ (r + 2) (j : Int) = -5) with ⟨hb, e⟩ | ⟨hb, e⟩ <;> rw [e]
      · rw [e] at hx
        refine V.if_eqF (n := 18) d_Ro_wonPositions_15 (by omega) (by omega) rfl ⟨21, by decide⟩ ?_
        refine V.iinc (n := 21) d_Ro_wonPositions_18 rfl (by decide) rfl ?_
        refine V.iinc (n := 24) d_Ro_wonPositions_21 rfl (by decide) rfl ?_
        refine V.goto (n := 4) d_Ro_wonPositions_24 (by decide) ?_
        refine V.loc (lo' := [(2, rI ((j : Int) + 1)), (1, rI (cs (fun j => bi (¬ μ (r + 2) j = -5)) j + 1)), (0, rA E r)]) ⟨rfl, rfl, rfl, trivial⟩ ?_
        exact hx
      · rw [e, Int.add_zero] at hx
        refine V.if_eqT (n2 := 21) d_Ro_wonPositions_15 (by omega) (by omega) (by decide) ?_
        refine V.iinc (n := 24) d_Ro_wonPositions_21 rfl (by decide) rfl ?_
        refine V.goto (n := 4) d_Ro_wonPositions_24 (by decide) ?_
        refine V.loc (lo' := [(2, rI ((j : Int) + 1)), (1, rI (cs (fun j => bi (¬ μ (r + 2) j = -5)) j)), (0, rA E r)]) ⟨rfl, rfl, rfl, trivial⟩ ?_
        exact hx
  have hl := loop 20 0 (by omega)
  refine V.loc (lo' := [(2, rI 0), (1, rI 0), (0, rA E r)]) ⟨rfl, rfl, rfl, trivial⟩ ?_
  exact hl
end CRO
end
section
/-! THE CLASS: proofs played out -/
/-- which nodes a proof has, when the nodes before k have told theirs -/
def tk (nx tu cc fc : Int → Int) (win : Int) (m : Int → Int) (n : Int) : Int → Int := fun j =>
  if cc n = 0 then m j else if tu n = win then (if j = nx n then 1 else m j) else (if fc n ≤ j ∧ j < fc n + cc n then 1 else m j)
def mb (nx tu cc fc : Int → Int) (win : Int) : Nat → Int → Int
  | 0, j => if j = 0 then 1 else 0
  | k + 1, j => if mb nx tu cc fc win k k = 1 then tk nx tu cc fc win (mb nx tu cc fc win k) k j else mb nx tu cc fc win k j
theorem mb_s (nx tu cc fc : Int → Int) (win : Int) (k : Nat) (j : Int) : mb nx tu cc fc win (k + 1) j = if mb nx tu cc fc win k k = 1 then tk nx tu cc fc win (mb nx tu cc fc win k) k j else mb nx tu cc fc win k j := rfl
theorem mb_in {nx tu cc fc : Int → Int} {win : Int} : ∀ (k : Nat) (j : Int), mb nx tu cc fc win k j = 0 ∨ mb nx tu cc fc win k j = 1
  | 0, j => by
    show (if j = 0 then (1 : Int) else 0) = 0 ∨ (if j = 0 then (1 : Int) else 0) = 1
    split <;> omega
  | k + 1, j => by
    rw [mb_s]
    have h := mb_in (nx := nx) (tu := tu) (cc := cc) (fc := fc) (win := win) k j
    unfold tk
    (repeat' split) <;> first | exact h | omega
def tuM (t g : Nat) (μ : MU) (n : Int) : Int := μ (g + 2) (μ (t + 2) n)
def wiM (μ : MU) (t : Nat) : Int := if oc (μ t 9) (μ (t + 8) 0) (μ (t + 10) 0) = 1 then 0 else 1
def isProof (G : GG) (r : Nat) : Prop := obj G r (.inl (2, [some (some (r + 1))])) ∧ isRow G (r + 1) (r + 2) 200
section CPF
variable {E : EV} {l : Launch} {G : GG} {μ : MU} {g t r : Nat} {n p q win : Int}
theorem c_Pf_winnerOf (hT : isTree G t g) (h : okM μ t g) : KS E l 2 m_Pf_winnerOf [rA E t] G μ 0 0 (dq (some (rI (wiM μ t))) G μ) := by
  have hs0 := h.2.1
  have hs1 := h.2.2.1
  have hx := h.2.2.2.2 0 (by omega) (by omega)
  have hoc := oc_in (μ t 9) (μ (t + 8) 0) (μ (t + 10) 0)
  unfold wiM
  refine ⟨KC.ofP q_Pf_winnerOf.1 rfl (Nat.le_of_ble_eq_true rfl) rfl (fun Post NT ST hP => ?_), q_Pf_winnerOf, by decide⟩
  refine V.aload_n (n := 1) d_Pf_winnerOf_0 rfl rfl ?_
  refine V.cVi (n := 4) d_Pf_winnerOf_1 k_Pf_20 (c_Tr_outcome (by assumption) (by omega) (by omega) (by omega)) rfl rfl (by decide) rfl ?_
  refine V.iconst (n := 5) d_Pf_winnerOf_4 rfl ?_
  refine V.icmp_ne (n2 := 12) (n := 8) d_Pf_winnerOf_5 (by omega) (by omega) (by decide) rfl (fun h2 => ?_) (fun h2 => ?_)
  · rw [if_neg h2] at hP
    refine V.iconst (n := 13) d_Pf_winnerOf_12 rfl ?_
    refine V.iret d_Pf_winnerOf_13 ⟨_, rfl, rfl⟩ ?_
    exact hP _ _ ⟨rfl, rfl, rfl⟩
  · rw [if_pos h2] at hP
    refine V.iconst (n := 9) d_Pf_winnerOf_8 rfl ?_
    refine V.goto (n := 13) d_Pf_winnerOf_9 (by decide) ?_
    refine V.iret d_Pf_winnerOf_13 ⟨_, rfl, rfl⟩ ?_
    exact hP _ _ ⟨rfl, rfl, rfl⟩
theorem c_Pf_takeChildren (hR : isProof G r) (hT : isTree G t g) (hG : isGame G g) (hd : r + 2 < t ∨ t + 16 < r) (hd2 : r + 2 < g ∨ g + 12 < r) (h : okM μ t g) (h0 : 0 ≤ n) (h1 : n < μ t 9) (hw : inR win) : KV E l 3 m_Pf_takeChildren r [rA E t, rI n, rI win] G μ 0 0 (dqv (fun μ' => (∀ b, ¬ b = r + 2 → μ' b = μ b) ∧ μ' (r + 2) = tk (nxM t g μ) (tuM t g μ) (μ (t + 12)) (μ (t + 14)) win (μ (r + 2)) n) G) := by
  have hT0 := hT
  obtain ⟨t0, t1, t2, t3, t4, t5, t6, t7, t8⟩ := hT
  obtain ⟨r0, r1⟩ := hR
  obtain ⟨hg, hs0, hs1, hc, hx⟩ := id h
  have hcn := hc n h0 h1
  have hgn := hg _ hcn.1 hcn.2.1
  have htu : tuM t g μ n = μ (g + 2) (μ (t + 2) n) := rfl
  refine ⟨KC.ofP q_Pf_takeChildren.1 rfl (Nat.le_of_ble_eq_true rfl) rfl (fun Post NT ST hP => ?_), ⟨_, _, _, r0, rfl, rfl⟩, q_Pf_takeChildren, by decide⟩
  refine V.aload_n (n := 1) d_Pf_takeChildren_0 rfl rfl ?_
  refine V.iload_n (n := 2) d_Pf_takeChildren_1 rfl rfl ?_
  refine V.cVi (n := 5) d_Pf_takeChildren_2 k_Pf_61 (c_Tr_isLeaf (by assumption) (by omega) (by omega) (by omega)) rfl rfl (by decide) rfl ?_
  rcases bi_or (μ (t + 12) n = 0) with ⟨hb, e⟩ | ⟨hb, e⟩ <;> rw [e]
  · refine V.if_eqF (n := 8) d_Pf_takeChildren_5 (by omega) (by omega) rfl ⟨9, by decide⟩ ?_
    refine V.vret d_Pf_takeChildren_8 rfl ?_
    refine hP _ _ ⟨rfl, rfl, fun _ _ => rfl, ?_⟩
    funext j
    unfold tk
    rw [if_pos hb]
  · have h7 := nx_in h h0 h1 hb
    refine V.if_eqT (n2 := 9) d_Pf_takeChildren_5 (by omega) (by omega) (by decide) ?_
    refine V.aload_n (n := 10) d_Pf_takeChildren_9 rfl rfl ?_
    refine V.iload_n (n := 11) d_Pf_takeChildren_10 rfl rfl ?_
    refine V.cVi (n := 14) d_Pf_takeChildren_11 k_Pf_37 (c_Tr_turnAt (by assumption) (by assumption) (by omega) (by omega) (by omega) (by omega)) rfl rfl (by decide) rfl ?_
    refine V.iload_n (n := 15) d_Pf_takeChildren_14 rfl rfl ?_
    refine V.icmp_ne (n2 := 32) (n := 18) d_Pf_takeChildren_15 (by omega) (by omega) (by decide) rfl (fun h3 => ?_) (fun h3 => ?_)
    · have h3' : ¬ tuM t g μ n = win := h3
      refine V.aload_n (n := 33) d_Pf_takeChildren_32 rfl rfl ?_
      refine V.iload_n (n := 34) d_Pf_takeChildren_33 rfl rfl ?_
      refine V.cVi (n := 37) d_Pf_takeChildren_34 k_Pf_65 (c_Tr_endOfChildren (by assumption) (by omega) (by omega)) rfl rfl (by decide) rfl ?_
      refine V.istore (n := 39) d_Pf_takeChildren_37 (by decide) rfl ?_
      refine V.aload_n (n := 40) d_Pf_takeChildren_39 rfl rfl ?_
      refine V.getA (n := 43) d_Pf_takeChildren_40 f_Pf_43 (by assumption) rfl rfl ?_
      refine V.iload_n (n := 44) d_Pf_takeChildren_43 rfl rfl ?_
      refine V.cVi (n := 47) d_Pf_takeChildren_44 k_Pf_33 (c_Rw_get (by assumption) (by omega) (by omega)) rfl rfl (by decide) rfl ?_
      refine V.istore (n := 49) d_Pf_takeChildren_47 (by decide) rfl ?_
      have loop : ∀ (k : Nat) (i : Int) (ν : MU), i + k = μ (t + 14) n + μ (t + 12) n → μ (t + 14) n ≤ i → (∀ b, ¬ b = r + 2 → ν b = μ b) → (∀ j, ν (r + 2) j = if μ (t + 14) n ≤ j ∧ j < i then 1 else μ (r + 2) j) → V E l m_Pf_takeChildren none 3 NT ST Post 49 [(5, rI i), (4, rI (μ (t + 14) n + μ (t + 12) n)), (3, rI win), (2, rI n), (1, rA E t), (0, rA E r)] [] G ν := by
        intro k
        induction k with
        | zero =>
          intro i ν hk hi n1 n2
          refine V.iload (n := 51) d_Pf_takeChildren_49 rfl rfl ?_
          refine V.iload (n := 53) d_Pf_takeChildren_51 rfl rfl ?_
          refine V.icmp_geT (n2 := 72) d_Pf_takeChildren_53 (by omega) (by omega) (by omega) (by decide) ?_
          refine V.vret d_Pf_takeChildren_72 rfl ?_
          refine hP _ _ ⟨rfl, rfl, n1, ?_⟩
          funext j
          rw [n2 j]
          unfold tk
          rw [if_neg hb, if_neg h3', show i = μ (t + 14) n + μ (t + 12) n by omega]
        | succ k ih =>
          intro i ν hk hi n1 n2
          refine V.iload (n := 51) d_Pf_takeChildren_49 rfl rfl ?_
          refine V.iload (n := 53) d_Pf_takeChildren_51 rfl rfl ?_
          refine V.icmp_geF (n := 56) d_Pf_takeChildren_53 (by omega) (by omega) (by omega) rfl ⟨72, by decide⟩ ?_
          refine V.aload_n (n := 57) d_Pf_takeChildren_56 rfl rfl ?_
          refine V.getA (n := 60) d_Pf_takeChildren_57 f_Pf_14 (by assumption) rfl rfl ?_
          refine V.iload (n := 62) d_Pf_takeChildren_60 rfl rfl ?_
          refine V.iconst (n := 63) d_Pf_takeChildren_62 rfl ?_
          refine V.cVv (n := 66) d_Pf_takeChildren_63 k_Pf_49 (c_Rw_set (by assumption) (by omega) (by omega)) rfl rfl (by decide) rfl ?_
          refine V.iinc (n := 69) d_Pf_takeChildren_66 rfl (by decide) rfl ?_
          refine V.goto (n := 49) d_Pf_takeChildren_69 (by decide) ?_
          refine V.loc (lo' := [(5, rI (i + 1)), (4, rI (μ (t + 14) n + μ (t + 12) n)), (3, rI win), (2, rI n), (1, rA E t), (0, rA E r)]) ⟨rfl, rfl, rfl, rfl, rfl, rfl, trivial⟩ ?_
          refine ih (i + 1) _ (by omega) (by omega) (fun b hb => by rw [wr_a hb, n1 b hb]) (fun j => ?_)
          rw [wr_v]
          by_cases hj : j = i
          · rw [if_pos hj, if_pos (by omega)]
          · rw [if_neg hj, n2 j]
            by_cases hji : μ (t + 14) n ≤ j ∧ j < i
            · rw [if_pos hji, if_pos (by omega)]
            · rw [if_neg hji, if_neg (by omega)]
      refine V.loc (lo' := [(5, rI (μ (t + 14) n)), (4, rI (μ (t + 14) n + μ (t + 12) n)), (3, rI win), (2, rI n), (1, rA E t), (0, rA E r)]) ⟨rfl, rfl, rfl, rfl, rfl, rfl, trivial⟩ ?_
      exact loop (μ (t + 12) n).toNat _ μ (by omega) (by omega) (fun _ _ => rfl) (fun j => by rw [if_neg (by omega)])
    · refine V.aload_n (n := 19) d_Pf_takeChildren_18 rfl rfl ?_
      refine V.getA (n := 22) d_Pf_takeChildren_19 f_Pf_14 (by assumption) rfl rfl ?_
      refine V.aload_n (n := 23) d_Pf_takeChildren_22 rfl rfl ?_
      refine V.iload_n (n := 24) d_Pf_takeChildren_23 rfl rfl ?_
      refine V.cVi (n := 27) d_Pf_takeChildren_24 k_Pf_40 (c_Tr_next hT0 hG h h0 h1) rfl rfl (by decide) rfl ?_
      refine V.iconst (n := 28) d_Pf_takeChildren_27 rfl ?_
      refine V.cVv (n := 31) d_Pf_takeChildren_28 k_Pf_49 (c_Rw_set (by assumption) (by omega) (by omega)) rfl rfl (by decide) rfl ?_
      refine V.vret d_Pf_takeChildren_31 rfl ?_
      refine hP _ _ ⟨rfl, rfl, fun b hb => wr_a hb, ?_⟩
      funext j
      rw [wr_v]
      unfold tk
      rw [if_neg hb, if_pos (show tuM t g μ n = win from h3)]
theorem c_Pf_sizeOf (hR : isProof G r) (hT : isTree G t g) (hG : isGame G g) (hd : r + 2 < t ∨ t + 16 < r) (hd2 : r + 2 < g ∨ g + 12 < r) (h : okM μ t g) (h0 : 0 < μ t 9) : KV E l 4 m_Pf_sizeOf r [rA E t] G μ 0 0 (dqi (fun z μ' => (∀ b, ¬ b = r + 2 → μ' b = μ b) ∧ z = cs (fun j => bi (mb (nxM t g μ) (tuM t g μ) (μ (t + 12)) (μ (t + 14)) (wiM μ t) j.toNat j = 1)) (μ t 9).toNat) G) := by
  have hT0 := hT
  have hR0 := hR
  obtain ⟨t0, t1, t2, t3, t4, t5, t6, t7, t8⟩ := hT
  obtain ⟨r0, r1⟩ := hR
  obtain ⟨hg, hs0, hs1, hc, hx⟩ := id h
  have hwin : inR (wiM μ t) := by unfold wiM; split <;> decide
  refine ⟨KC.ofP q_Pf_sizeOf.1 rfl (Nat.le_of_ble_eq_true rfl) rfl (fun Post NT ST hP => ?_), ⟨_, _, _, r0, rfl, rfl⟩, q_Pf_sizeOf, by decide⟩
  refine V.aload_n (n := 1) d_Pf_sizeOf_0 rfl rfl ?_
  refine V.cSi (n := 4) d_Pf_sizeOf_1 k_Pf_26 (c_Pf_winnerOf hT0 h) rfl rfl rfl (by decide) rfl ?_
  refine V.istore_n (n := 5) d_Pf_sizeOf_4 (by decide) rfl ?_
  refine V.iconst (n := 6) d_Pf_sizeOf_5 rfl ?_
  refine V.istore_n (n := 7) d_Pf_sizeOf_6 (by decide) rfl ?_
  refine V.aload_n (n := 8) d_Pf_sizeOf_7 rfl rfl ?_
  refine V.getA (n := 11) d_Pf_sizeOf_8 f_Pf_14 (by assumption) rfl rfl ?_
  refine V.iconst (n := 12) d_Pf_sizeOf_11 rfl ?_
  refine V.cVqv (n := 15) d_Pf_sizeOf_12 k_Pf_46 (c_Rw_fill r1) rfl rfl (by decide) rfl (fun μ1 hq => ?_)
  obtain ⟨m1, m2⟩ := hq
  refine V.aload_n (n := 16) d_Pf_sizeOf_15 rfl rfl ?_
  refine V.getA (n := 19) d_Pf_sizeOf_16 f_Pf_14 (by assumption) rfl rfl ?_
  refine V.iconst (n := 20) d_Pf_sizeOf_19 rfl ?_
  refine V.iconst (n := 21) d_Pf_sizeOf_20 rfl ?_
  refine V.cVv (n := 24) d_Pf_sizeOf_21 k_Pf_49 (c_Rw_set (by assumption) (by omega) (by omega)) rfl rfl (by decide) rfl ?_
  refine V.iconst (n := 25) d_Pf_sizeOf_24 rfl ?_
  refine V.istore (n := 27) d_Pf_sizeOf_25 (by decide) rfl ?_
  have loop : ∀ (k : Nat) (i : Nat) (ν : MU), (i : Int) + k = μ t 9 → (∀ b, ¬ b = r + 2 → ν b = μ b) → (∀ j : Int, 0 ≤ j → j < 200 → ν (r + 2) j = mb (nxM t g μ) (tuM t g μ) (μ (t + 12)) (μ (t + 14)) (wiM μ t) i j) → V E l m_Pf_sizeOf none 4 NT ST Post 27 [(4, rI i), (3, rI (cs (fun j => bi (mb (nxM t g μ) (tuM t g μ) (μ (t + 12)) (μ (t + 14)) (wiM μ t) j.toNat j = 1)) i)), (2, rI (wiM μ t)), (1, rA E t), (0, rA E r)] [] G ν := by
    intro k
    induction k with
    | zero =>
      intro i ν hk n1 n2
      have f9 : ν t 9 = μ t 9 := by rw [n1 t (by omega)]
      have hi : i = (μ t 9).toNat := by omega
      refine V.iload (n := 29) d_Pf_sizeOf_27 rfl rfl ?_
      refine V.aload_n (n := 30) d_Pf_sizeOf_29 rfl rfl ?_
      refine V.getI (n := 33) d_Pf_sizeOf_30 f_Pf_53 (by assumption) rfl rfl ?_
      refine V.icmp_geT (n2 := 66) d_Pf_sizeOf_33 (by omega) (by omega) (by omega) (by decide) ?_
      refine V.iload_n (n := 67) d_Pf_sizeOf_66 rfl rfl ?_
      refine V.iret d_Pf_sizeOf_67 ⟨_, rfl, rfl⟩ ?_
      exact hP _ _ ⟨_, rfl, rfl, n1, by rw [hi]⟩
    | succ k ih =>
      intro i ν hk n1 n2
      have f9 : ν t 9 = μ t 9 := by rw [n1 t (by omega)]
      have ft : ∀ b, t ≤ b → b ≤ t + 16 → ν b = μ b := fun b _ _ => n1 b (by omega)
      have fg : ∀ b, g ≤ b → b ≤ g + 12 → ν b = μ b := fun b _ _ => n1 b (by omega)
      have hokn : okM ν t g := by
        unfold okM okG
        rw [f9, ft (t + 2) (by omega) (by omega), ft (t + 8) (by omega) (by omega), ft (t + 10) (by omega) (by omega), ft (t + 12) (by omega) (by omega), ft (t + 14) (by omega) (by omega), fg (g + 2) (by omega) (by omega), fg (g + 4) (by omega) (by omega), fg (g + 6) (by omega) (by omega), fg (g + 8) (by omega) (by omega), fg (g + 10) (by omega) (by omega)]
        exact h
      have hnx : nxM t g ν = nxM t g μ := by
        funext m
        unfold nxM
        rw [ft (t + 2) (by omega) (by omega), ft (t + 8) (by omega) (by omega), ft (t + 10) (by omega) (by omega), ft (t + 12) (by omega) (by omega), ft (t + 14) (by omega) (by omega), fg (g + 2) (by omega) (by omega)]
      have htu : tuM t g ν = tuM t g μ := by
        funext m
        unfold tuM
        rw [ft (t + 2) (by omega) (by omega), fg (g + 2) (by omega) (by omega)]
      have hni := n2 i (by omega) (by omega)
      have hmi := mb_in (nx := nxM t g μ) (tu := tuM t g μ) (cc := μ (t + 12)) (fc := μ (t + 14)) (win := wiM μ t) i i
      have hx := ih (i + 1)
      rw [cs_s, show ((i + 1 : Nat) : Int) = (i : Int) + 1 by omega, Int.toNat_natCast] at hx
      refine V.iload (n := 29) d_Pf_sizeOf_27 rfl rfl ?_
      refine V.aload_n (n := 30) d_Pf_sizeOf_29 rfl rfl ?_
      refine V.getI (n := 33) d_Pf_sizeOf_30 f_Pf_53 (by assumption) rfl rfl ?_
      refine V.icmp_geF (n := 36) d_Pf_sizeOf_33 (by omega) (by omega) (by omega) rfl ⟨66, by decide⟩ ?_
      refine V.aload_n (n := 37) d_Pf_sizeOf_36 rfl rfl ?_
      refine V.getA (n := 40) d_Pf_sizeOf_37 f_Pf_14 (by assumption) rfl rfl ?_
      refine V.iload (n := 42) d_Pf_sizeOf_40 rfl rfl ?_
      refine V.cVi (n := 45) d_Pf_sizeOf_42 k_Pf_33 (c_Rw_get (by assumption) (by omega) (by omega)) rfl rfl (by decide) rfl ?_
      refine V.iconst (n := 46) d_Pf_sizeOf_45 rfl ?_
      refine V.icmp_ne (n2 := 60) (n := 49) d_Pf_sizeOf_46 (by omega) (by omega) (by decide) rfl (fun h3 => ?_) (fun h3 => ?_)
      · rw [bi_f (by omega), Int.add_zero] at hx
        refine V.iinc (n := 63) d_Pf_sizeOf_60 rfl (by decide) rfl ?_
        refine V.goto (n := 27) d_Pf_sizeOf_63 (by decide) ?_
        refine V.loc (lo' := [(4, rI ((i : Int) + 1)), (3, rI (cs (fun j => bi (mb (nxM t g μ) (tuM t g μ) (μ (t + 12)) (μ (t + 14)) (wiM μ t) j.toNat j = 1)) i)), (2, rI (wiM μ t)), (1, rA E t), (0, rA E r)]) ⟨rfl, rfl, rfl, rfl, rfl, trivial⟩ ?_
        exact hx ν (by omega) n1 (fun j j0 j1 => by rw [mb_s, if_neg (by omega)]; exact n2 j j0 j1)
      · rw [bi_t (by omega)] at hx
        refine V.iinc (n := 52) d_Pf_sizeOf_49 rfl (by decide) rfl ?_
        refine V.aload_n (n := 53) d_Pf_sizeOf_52 rfl rfl ?_
        refine V.aload_n (n := 54) d_Pf_sizeOf_53 rfl rfl ?_
        refine V.iload (n := 56) d_Pf_sizeOf_54 rfl rfl ?_
        refine V.iload_n (n := 57) d_Pf_sizeOf_56 rfl rfl ?_
        refine V.cVqv (n := 60) d_Pf_sizeOf_57 k_Pf_57 (c_Pf_takeChildren hR0 hT0 hG hd hd2 hokn (by omega) (by omega) hwin) rfl rfl (by decide) rfl (fun μ2 hq => ?_)
        obtain ⟨q1, q2⟩ := hq
        rw [hnx, htu, ft (t + 12) (by omega) (by omega), ft (t + 14) (by omega) (by omega)] at q2
        refine V.iinc (n := 63) d_Pf_sizeOf_60 rfl (by decide) rfl ?_
        refine V.goto (n := 27) d_Pf_sizeOf_63 (by decide) ?_
        refine V.loc (lo' := [(4, rI ((i : Int) + 1)), (3, rI (cs (fun j => bi (mb (nxM t g μ) (tuM t g μ) (μ (t + 12)) (μ (t + 14)) (wiM μ t) j.toNat j = 1)) i + 1)), (2, rI (wiM μ t)), (1, rA E t), (0, rA E r)]) ⟨rfl, rfl, rfl, rfl, rfl, trivial⟩ ?_
        refine hx μ2 (by omega) (fun b hb => by rw [q1 b hb, n1 b hb]) (fun j j0 j1 => ?_)
        rw [q2, mb_s, if_pos (by omega)]
        unfold tk
        rw [n2 j j0 j1]
  refine V.loc (lo' := [(4, rI 0), (3, rI 0), (2, rI (wiM μ t)), (1, rA E t), (0, rA E r)]) ⟨rfl, rfl, rfl, rfl, rfl, trivial⟩ ?_
  refine loop (μ t 9).toNat 0 _ (by omega) (fun b hb => by rw [wr_a hb, m1 b hb]) (fun j j0 j1 => ?_)
  rw [wr_v]
  show _ = if j = 0 then (1 : Int) else 0
  by_cases hj : j = 0
  · rw [if_pos hj, if_pos hj]
  · rw [if_neg hj, if_neg hj]
    exact m2 j j0 j1
end CPF
end
section
/-! MOVES AS A LIST, and a class's game that shows one -/
def outs (L : List (Int × Int)) (p : Int) : List Int := (L.filter (fun q => decide (q.1 = p))).map (·.2)
theorem outs_app (A B : List (Int × Int)) (p : Int) : outs (A ++ B) p = outs A p ++ outs B p := by
  unfold outs
  rw [List.filter_append, List.map_append]
theorem outs_one (a b p : Int) : outs [(a, b)] p = if a = p then [b] else [] := by
  unfold outs
  by_cases h : a = p <;> simp [h]
theorem mem_outs {L : List (Int × Int)} {p q : Int} : q ∈ outs L p ↔ (p, q) ∈ L := by
  unfold outs
  simp
theorem outs_nd {L : List (Int × Int)} (h : L.Nodup) (p : Int) : (outs L p).Nodup := by
  induction L with
  | nil => exact List.nodup_nil
  | cons x L ih =>
    have h1 := List.nodup_cons.mp h
    rw [show x :: L = [x] ++ L from rfl, outs_app, show ([x] : List (Int × Int)) = [(x.1, x.2)] from rfl, outs_one]
    by_cases hx : x.1 = p
    · rw [if_pos hx]
      refine List.nodup_cons.mpr ⟨fun hm => h1.1 ?_, ih h1.2⟩
      have := mem_outs.mp hm
      rwa [← hx] at this
    · rw [if_neg hx]
      exact ih h1.2
theorem pigeon : ∀ (n : Nat) (l : List Int), l.Nodup → (∀ x ∈ l, 0 ≤ x ∧ x < n) → l.length ≤ n
  | 0, l, _, h => by
    cases l with
    | nil => exact Nat.le_refl _
    | cons a l =>
      have := h a List.mem_cons_self
      omega
  | n + 1, l, hn, h => by
    by_cases hm : (n : Int) ∈ l
    · have h1 := pigeon n (l.erase n) (hn.erase _) (fun x hx => by
        have h2 := (hn.mem_erase_iff).mp hx
        have h3 := h x h2.2
        omega)
      have h2 := List.length_erase_of_mem hm
      omega
    · have h1 := pigeon n l hn (fun x hx => by
        have h3 := h x hx
        have h4 : ¬ x = n := fun q => hm (q ▸ hx)
        omega)
      omega
/-- a list of moves: between positions, none twice -/
def okL (L : List (Int × Int)) : Prop := L.Nodup ∧ ∀ x ∈ L, 0 ≤ x.1 ∧ x.1 < 20 ∧ 0 ≤ x.2 ∧ x.2 < 20
theorem outs_le {L : List (Int × Int)} (h : okL L) (p : Int) : (outs L p).length ≤ 20 :=
  pigeon 20 _ (outs_nd h.1 p) (fun x hx => by have := h.2 _ (mem_outs.mp hx); omega)
theorem outs_lt {L : List (Int × Int)} (h : okL L) {p q : Int} (hq : 0 ≤ q ∧ q < 20) (hn : ¬ (p, q) ∈ L) : (outs L p).length < 20 := by
  have h1 := pigeon 20 (q :: outs L p) (List.nodup_cons.mpr ⟨fun hm => hn (mem_outs.mp hm), outs_nd h.1 p⟩) (fun x hx => by
    rcases List.mem_cons.mp hx with rfl | hx
    · exact hq
    · have := h.2 _ (mem_outs.mp hx); omega)
  simp at h1
  omega
/-- the moves that the game at g shows -/
def CM (μ : MU) (g : Nat) (L : List (Int × Int)) : Prop :=
  (∀ p : Int, 0 ≤ p → p < 20 → μ (g + 10) p = ((outs L p).length : Int) ∧ ∀ r : Nat, r < (outs L p).length → μ (g + 12) (p * 20 + r) = (outs L p).getD r 0) ∧ μ g 6 = (L.length : Int)
theorem getD_mem {l : List Int} {r : Nat} (h : r < l.length) : l.getD r 0 ∈ l := by
  rw [List.getD_eq_getElem?_getD, List.getElem?_eq_getElem h]
  exact List.getElem_mem h
theorem getD_app1 {l m : List Int} {r : Nat} (h : r < l.length) : (l ++ m).getD r 0 = l.getD r 0 := by
  rw [List.getD_eq_getElem?_getD, List.getD_eq_getElem?_getD, List.getElem?_append_left h]
theorem getD_app2 {l m : List Int} {r : Nat} : (l ++ m).getD (l.length + r) 0 = m.getD r 0 := by
  rw [List.getD_eq_getElem?_getD, List.getD_eq_getElem?_getD, List.getElem?_append_right (by omega), show l.length + r - l.length = r by omega]
theorem CM.okT {μ : MU} {g : Nat} {L : List (Int × Int)} (h : CM μ g L) (hL : okL L) : okT μ g := by
  intro p r p0 p1 r0 r1
  have h1 := h.1 p p0 p1
  rw [h1.1] at r1
  have h2 := h1.2 r.toNat (by omega)
  rw [Int.toNat_of_nonneg r0] at h2
  rw [h2]
  have h3 := hL.2 _ (mem_outs.mp (getD_mem (show r.toNat < (outs L p).length by omega)))
  omega
theorem CM.nil {μ : MU} {g : Nat} (h : ∀ p : Int, 0 ≤ p → p < 20 → μ (g + 10) p = 0) (h6 : μ g 6 = 0) : CM μ g [] :=
  ⟨fun p p0 p1 => ⟨by rw [h p p0 p1]; rfl, fun r hr => by simp [outs] at hr⟩, h6⟩
theorem CM.kept {μ μ' : MU} {g h : Nat} {L : List (Int × Int)} (hC : CM μ h L) (hL : okL L) (h10 : ∀ j : Int, 0 ≤ j → j < 20 → μ' (g + 10) j = μ (h + 10) j) (h12 : ∀ j : Int, 0 ≤ j → j < 400 → μ' (g + 12) j = μ (h + 12) j) (h6 : μ' g 6 = μ h 6) : CM μ' g L := by
  refine ⟨fun p p0 p1 => ⟨by rw [h10 p p0 p1, (hC.1 p p0 p1).1], fun r hr => ?_⟩, by rw [h6, hC.2]⟩
  have := outs_le hL p
  rw [h12 _ (by omega) (by omega), (hC.1 p p0 p1).2 r hr]
/-- a move more -/
theorem CM.add {μ : MU} {g : Nat} {L : List (Int × Int)} (hC : CM μ g L) (hL : okL L) {p q : Int} (hp : 0 ≤ p ∧ p < 20) (hq : 0 ≤ q ∧ q < 20) (hn : ¬ (p, q) ∈ L) : CM (wr (wr (wr μ (g + 12) (p * 20 + μ (g + 10) p) q) (g + 10) p (μ (g + 10) p + 1)) g 6 (μ g 6 + 1)) g (L ++ [(p, q)]) := by
  have hlt := outs_lt hL hq hn
  refine ⟨fun p' p0 p1 => ?_, by rw [wr_s, hC.2, List.length_append]; simp⟩
  have h1 := hC.1 p' p0 p1
  have h2 := hC.1 p hp.1 hp.2
  have hle := outs_le hL p'
  rw [wr_a (show ¬ g + 10 = g by omega), wr_v, wr_a (show ¬ g + 10 = g + 12 by omega), wr_a (show ¬ g + 12 = g by omega), wr_a (show ¬ g + 12 = g + 10 by omega), outs_app, outs_one]
  by_cases hpp : p = p'
  · subst hpp
    rw [if_pos rfl, if_pos rfl, List.length_append, h2.1]
    refine ⟨by simp, fun r hr => ?_⟩
    rw [wr_v]
    by_cases hr2 : r = (outs L p).length
    · rw [if_pos (by rw [hr2]), hr2]
      have := getD_app2 (l := outs L p) (m := [q]) (r := 0)
      rw [Nat.add_zero] at this
      rw [this]; rfl
    · simp at hr
      rw [if_neg (by omega), getD_app1 (by omega), h1.2 r (by omega)]
  · rw [if_neg (fun x => hpp x.symm), if_neg hpp, List.append_nil]
    refine ⟨h1.1, fun r hr => ?_⟩
    rw [wr_v, if_neg (by rw [h2.1]; omega), h1.2 r hr]
section CLS
variable {E : EV} {l : Launch} {G : GG} {μ : MU} {g : Nat} {p q to : Int}
/-- the rank of a move, by the list -/
theorem c_Gm_rankL (hG : isGame G g) {L : List (Int × Int)} (hL : okL L) (hC : CM μ g L) (h0 : 0 ≤ p) (h1 : p < 20) (hto : inR to) : KV E l 2 m_Gm_rankOf g [rI p, rI to] G μ 0 0 (dqi (fun z μ' => μ' = μ ∧ ((0 ≤ z ∧ (p, to) ∈ L ∧ ∃ r : Nat, z = (r : Int) ∧ r < (outs L p).length ∧ (outs L p).getD r 0 = to ∧ ∀ r' : Nat, r' < r → ¬ (outs L p).getD r' 0 = to) ∨ (z = -5 ∧ ¬ (p, to) ∈ L))) G) := by
  have hc := hC.1 p h0 h1
  have hle := outs_le hL p
  have hin : ∀ r : Int, 0 ≤ r → r < μ (g + 10) p → inR (μ (g + 12) (p * 20 + r)) := fun r r0 r1 => by
    have := hC.okT hL p r h0 h1 r0 r1
    omega
  obtain ⟨k1, k2, k3, k4⟩ := c_Gm_rankOf (E := E) (l := l) (μ := μ) hG h0 h1 hto (by rw [hc.1]; omega) (by rw [hc.1]; omega) hin
  refine ⟨k1.post ?_, k2, k3, k4⟩
  rintro v G' μ' ⟨z, rfl, rfl, rfl, h⟩
  refine ⟨z, rfl, rfl, rfl, ?_⟩
  rcases h with ⟨z0, z1, z2, z3⟩ | ⟨z0, z1⟩
  · rw [hc.1] at z1
    have h3 := hc.2 z.toNat (by omega)
    rw [Int.toNat_of_nonneg z0] at h3
    refine Or.inl ⟨z0, ?_, z.toNat, by omega, by omega, by rw [← h3, z2], fun r' hr' => ?_⟩
    · rw [← z2, h3]
      exact mem_outs.mp (getD_mem (by omega))
    · rw [← hc.2 r' (by omega)]
      exact z3 r' (by omega) (by omega)
  · refine Or.inr ⟨z0, fun hm => ?_⟩
    have hm2 := mem_outs.mpr hm
    obtain ⟨r, hr, e⟩ := List.getElem_of_mem hm2
    refine z1 r (by omega) (by rw [hc.1]; omega) ?_
    rw [hc.2 r hr, List.getD_eq_getElem?_getD, List.getElem?_eq_getElem hr, ← e]
    rfl
end CLS
end
section
/-! THE CLASS: texts are read -/
abbrev OPS : Type := List (Int × Int × Int)
/-- what the entries make: moves, turns, marks -/
def apL (ops : OPS) : List (Int × Int) := ops.foldl (fun L o => if o.1 = 62 ∧ ¬ (o.2.1, o.2.2) ∈ L then L ++ [(o.2.1, o.2.2)] else L) []
def apT (ops : OPS) (p : Int) : Int := ops.foldl (fun v o => if o.1 = 100 ∧ o.2.1 = p then 1 else v) 0
def apM (ops : OPS) (p : Int) : Int := ops.foldl (fun v o => if o.1 = 119 ∧ o.2.1 = p then 1 else if o.1 = 108 ∧ o.2.1 = p then 2 else v) 0
/-- the game at d holds what the entries make -/
def DG (μ : MU) (d : Nat) (ops : OPS) : Prop := (∀ p : Int, 0 ≤ p → p < 20 → μ (d + 2) p = apT ops p ∧ μ (d + 4) p = apM ops p) ∧ CM μ d (apL ops) ∧ okL (apL ops)
def isReader (G : GG) (r tx : Nat) : Prop := obj G r (.inl (3, [some (some tx), some (some (r + 1)), none])) ∧ isText G tx ∧ isGame G (r + 1)
section CRD
variable {E : EV} {l : Launch} {G : GG} {μ : MU} {r tx : Nat} {p q c : Int}
theorem DG.at {μ μ' : MU} {d : Nat} {ops : OPS} (h : DG μ d ops) (e : ∀ b, d ≤ b → b ≤ d + 12 → μ' b = μ b) : DG μ' d ops := by
  unfold DG CM
  rw [e (d + 2) (by omega) (by omega), e (d + 4) (by omega) (by omega), e (d + 10) (by omega) (by omega), e (d + 12) (by omega) (by omega), e d (by omega) (by omega)]
  exact h
end CRD
end
section
/-! THE REFERENCE: its array, its moves -/
/-- the array shows the moves L -/
def ML (F : Int → Int) (L : List (Int × Int)) : Prop := F 0 = (L.length : Int) ∧ L.length ≤ 60 ∧ ∀ k : Nat, k < L.length → F (103 + 2 * k) = (L.getD k (0, 0)).1 ∧ F (103 + 2 * k + 1) = (L.getD k (0, 0)).2
theorem take_s {α : Type} {L : List α} {k : Nat} (d : α) (h : k < L.length) : L.take (k + 1) = L.take k ++ [L.getD k d] := by
  rw [List.take_add_one, List.getD_eq_getElem?_getD, List.getElem?_eq_getElem h]
  rfl
theorem split_at {α : Type} {L : List α} {k : Nat} (d : α) (h : k < L.length) : L = L.take k ++ [L.getD k d] ++ L.drop (k + 1) := by
  rw [← take_s d h, List.take_append_drop]
section CMD
variable {E : EV} {l : Launch} {G : GG} {μ : MU} {m : Nat} {n p q r v a b k : Int}
end CMD
end
section
/-! THE REFERENCE: its tree -/
abbrev nF (F : Int → Int) (k : Int) : Int → Int := fun n => F (223 + 7 * n + k)
/-- positions' turns, marks and guesses are such -/
def okQ (F : Int → Int) : Prop := ∀ p : Int, 0 ≤ p → p < 20 → 0 ≤ F (3 + 5 * p + 0) ∧ F (3 + 5 * p + 0) ≤ 1 ∧ 0 ≤ F (3 + 5 * p + 1) ∧ F (3 + 5 * p + 1) ≤ 2 ∧ 1 ≤ F (3 + 5 * p + 2) ∧ F (3 + 5 * p + 2) ≤ 9 ∧ 1 ≤ F (3 + 5 * p + 3) ∧ F (3 + 5 * p + 3) ≤ 9
def okR (F : Int → Int) : Prop := okQ F ∧ 0 ≤ F 1 ∧ F 1 ≤ 200 ∧ okC (F 1) (nF F 0) (nF F 4) (nF F 5) ∧ okX (nF F 2) (nF F 3)
theorem okC_at {F : Int → Int} {sz n : Int} (h : okC sz (nF F 0) (nF F 4) (nF F 5)) (h0 : 0 ≤ n) (h1 : n < sz) : 0 ≤ F (223 + 7 * n + 0) ∧ F (223 + 7 * n + 0) < 20 ∧ 0 ≤ F (223 + 7 * n + 4) ∧ -5 ≤ F (223 + 7 * n + 5) ∧ (0 < F (223 + 7 * n + 4) → n < F (223 + 7 * n + 5)) ∧ F (223 + 7 * n + 5) + F (223 + 7 * n + 4) ≤ sz := h n h0 h1
theorem okX_at {F : Int → Int} {n : Int} (h : okX (nF F 2) (nF F 3)) (h0 : 0 ≤ n) (h1 : n < 200) : 0 ≤ F (223 + 7 * n + 2) ∧ F (223 + 7 * n + 2) ≤ 9999 ∧ 0 ≤ F (223 + 7 * n + 3) ∧ F (223 + 7 * n + 3) ≤ 9999 := h n h0 h1
def nxF (F : Int → Int) (n : Int) : Int := am (if F (3 + 5 * F (223 + 7 * n + 0) + 0) = 0 then nF F 2 else nF F 3) (F (223 + 7 * n + 5)) (F (223 + 7 * n + 4)).toNat
theorem nxF_in {F : Int → Int} {n : Int} (h : okR F) (h0 : 0 ≤ n) (h1 : n < F 1) (h2 : ¬ F (223 + 7 * n + 4) = 0) : n < nxF F n ∧ nxF F n < F 1 := by
  obtain ⟨-, -, -, hc, -⟩ := h
  have h3 := okC_at hc h0 h1
  have h4 := am_in (if F (3 + 5 * F (223 + 7 * n + 0) + 0) = 0 then nF F 2 else nF F 3) (F (223 + 7 * n + 5)) (F (223 + 7 * n + 4)).toNat
  unfold nxF
  omega
/-- the least is what the cheapest costs -/
theorem am_mn {c : Int → Int} {lo : Int} : ∀ {k : Nat}, 1 ≤ k → (∀ j : Nat, j < k → c (lo + j) ≤ 9999) → c (am c lo k) = mn c lo k
  | 1, _, h => by
    rw [am_1]
    have := h 0 (by omega)
    show c lo = min 9999 (c (lo + (0 : Nat)))
    rw [show lo + ((0 : Nat) : Int) = lo by omega] at *
    omega
  | k + 2, _, h => by
    have ih := am_mn (c := c) (lo := lo) (k := k + 1) (by omega) (fun j hj => h j (by omega))
    show c (if c (lo + ((k + 1 : Nat) : Int)) < c (am c lo (k + 1)) then lo + ((k + 1 : Nat) : Int) else am c lo (k + 1)) = min (mn c lo (k + 1)) (c (lo + ((k + 1 : Nat) : Int)))
    split <;> omega
/-- the whole sum -/
def su (c : Int → Int) (lo : Int) : Nat → Int
  | 0 => 0
  | k + 1 => su c lo k + c (lo + k)
theorem su_s (c : Int → Int) (lo : Int) (k : Nat) : su c lo (k + 1) = su c lo k + c (lo + k) := rfl
def woR (m : Nat) (μ : MU) (n : Int) : MU :=
  wr (wr μ (m + 1) (223 + 7 * n + 2) (if μ (m + 1) (3 + 5 * μ (m + 1) (223 + 7 * n + 0) + 0) = 0 then mn (nF (μ (m + 1)) 2) (μ (m + 1) (223 + 7 * n + 5)) (μ (m + 1) (223 + 7 * n + 4)).toNat else sm (nF (μ (m + 1)) 2) (μ (m + 1) (223 + 7 * n + 5)) (μ (m + 1) (223 + 7 * n + 4)).toNat)) (m + 1) (223 + 7 * n + 3) (if μ (m + 1) (3 + 5 * μ (m + 1) (223 + 7 * n + 0) + 0) = 0 then sm (nF (μ (m + 1)) 3) (μ (m + 1) (223 + 7 * n + 5)) (μ (m + 1) (223 + 7 * n + 4)).toNat else mn (nF (μ (m + 1)) 3) (μ (m + 1) (223 + 7 * n + 5)) (μ (m + 1) (223 + 7 * n + 4)).toNat)
theorem woR_i {m : Nat} {μ : MU} {n j : Int} (h1 : ¬ j = 223 + 7 * n + 2) (h2 : ¬ j = 223 + 7 * n + 3) : woR m μ n (m + 1) j = μ (m + 1) j := by
  unfold woR
  rw [wr_i h2, wr_i h1]
theorem woR_X {m : Nat} {μ : MU} {n : Int} (hx : okX (nF (μ (m + 1)) 2) (nF (μ (m + 1)) 3)) (h0 : -5 ≤ μ (m + 1) (223 + 7 * n + 5)) (h1 : 0 < μ (m + 1) (223 + 7 * n + 4) → 0 ≤ μ (m + 1) (223 + 7 * n + 5)) (h2 : μ (m + 1) (223 + 7 * n + 5) + μ (m + 1) (223 + 7 * n + 4) ≤ 200) : okX (nF (woR m μ n (m + 1)) 2) (nF (woR m μ n (m + 1)) 3) := by
  intro j j0 j1
  have a1 := mn_in (c := nF (μ (m + 1)) 2) (lo := μ (m + 1) (223 + 7 * n + 5)) (k := (μ (m + 1) (223 + 7 * n + 4)).toNat) (fun j hj => by have := hx (μ (m + 1) (223 + 7 * n + 5) + j) (by omega) (by omega); omega)
  have a2 := mn_in (c := nF (μ (m + 1)) 3) (lo := μ (m + 1) (223 + 7 * n + 5)) (k := (μ (m + 1) (223 + 7 * n + 4)).toNat) (fun j hj => by have := hx (μ (m + 1) (223 + 7 * n + 5) + j) (by omega) (by omega); omega)
  have a3 := sm_in (c := nF (μ (m + 1)) 2) (lo := μ (m + 1) (223 + 7 * n + 5)) (k := (μ (m + 1) (223 + 7 * n + 4)).toNat) (fun j hj => by have := hx (μ (m + 1) (223 + 7 * n + 5) + j) (by omega) (by omega); omega)
  have a4 := sm_in (c := nF (μ (m + 1)) 3) (lo := μ (m + 1) (223 + 7 * n + 5)) (k := (μ (m + 1) (223 + 7 * n + 4)).toNat) (fun j hj => by have := hx (μ (m + 1) (223 + 7 * n + 5) + j) (by omega) (by omega); omega)
  have a5 := okX_at hx j0 j1
  show 0 ≤ woR m μ n (m + 1) (223 + 7 * j + 2) ∧ woR m μ n (m + 1) (223 + 7 * j + 2) ≤ 9999 ∧ 0 ≤ woR m μ n (m + 1) (223 + 7 * j + 3) ∧ woR m μ n (m + 1) (223 + 7 * j + 3) ≤ 9999
  unfold woR
  rw [wr_i (show ¬ 223 + 7 * j + 2 = 223 + 7 * n + 3 by omega), wr_v, wr_v, wr_i (show ¬ 223 + 7 * j + 3 = 223 + 7 * n + 2 by omega)]
  by_cases hj : j = n
  · subst hj
    rw [if_pos rfl, if_pos rfl]
    refine ⟨?_, ?_, ?_, ?_⟩ <;> split <;> omega
  · rw [if_neg (by omega), if_neg (by omega)]
    exact a5
section CM2
variable {E : EV} {l : Launch} {G : GG} {μ : MU} {m : Nat} {n p q r v a b k c : Int}
end CM2
end
section
/-! THE REFERENCE: nodes are made, a leaf is opened -/
def dpt (par : Int → Int) : Nat → Int → Int
  | 0, _ => 0
  | k + 1, n => if par n < 0 then 0 else dpt par k (par n) + 1
theorem dpt_s (par : Int → Int) (k : Nat) (n : Int) : dpt par (k + 1) n = if par n < 0 then 0 else dpt par k (par n) + 1 := rfl
theorem dpt_in {par : Int → Int} : ∀ (k : Nat) (n : Int), 0 ≤ dpt par k n ∧ dpt par k n ≤ k
  | 0, n => ⟨Int.le_refl _, Int.le_refl _⟩
  | k + 1, n => by
    have := dpt_in (par := par) k (par n)
    rw [dpt_s]
    split <;> omega
theorem okP_at {F : Int → Int} {sz n : Int} (h : okP (nF F 0) (nF F 1) sz) (h0 : 0 ≤ n) (h1 : n < sz) : 0 ≤ F (223 + 7 * n + 0) ∧ F (223 + 7 * n + 0) < 20 ∧ (n = 0 → F (223 + 7 * n + 1) = -5) ∧ (0 < n → 0 ≤ F (223 + 7 * n + 1) ∧ F (223 + 7 * n + 1) < n) := h n h0 h1
section CM3
variable {E : EV} {l : Launch} {G : GG} {μ : MU} {m : Nat} {n p q r v a b k c : Int}
end CM3
end
section
/-! THE REFERENCE: a leaf is opened; counts -/
theorem ML.of {F F' : Int → Int} {L : List (Int × Int)} (h : ML F L) (e : ∀ j : Int, (j = 0 ∨ (103 ≤ j ∧ j < 223)) → F' j = F j) : ML F' L := by
  obtain ⟨h0, h1, h2⟩ := h
  exact ⟨by rw [e 0 (by omega), h0], h1, fun k hk => by rw [e _ (by omega), e _ (by omega)]; exact h2 k hk⟩
section CM4
variable {E : EV} {l : Launch} {G : GG} {μ : MU} {m : Nat} {n p q r v a b k c : Int}
end CM4
end
section
/-! THE REFERENCE: rounds -/
abbrev tnF (F : Int → Int) : Int → Int := fun p => F (3 + 5 * p + 0)
abbrev mkF (F : Int → Int) : Int → Int := fun p => F (3 + 5 * p + 1)
abbrev cnL (L : List (Int × Int)) : Int → Int := fun p => ((outs L p).length : Int)
abbrev tgL (L : List (Int × Int)) : Int → Int → Int := fun p i => (outs L p).getD i.toNat 0
abbrev rdL (F : Int → Int) (L : List (Int × Int)) : Nat → Int → Int := rdk (tnF F) (mkF F) (cnL L) (tgL L)
abbrev wkL (F : Int → Int) (L : List (Int × Int)) : Nat → Int → Bool := wk (tnF F) (mkF F) (cnL L) (tgL L)
/-- is it an end, is it won now -/
abbrev enF (F : Int → Int) (L : List (Int × Int)) (p : Int) : Prop := ¬ F (3 + 5 * p + 1) = 0 ∨ (outs L p).length = 0
section CM5
variable {E : EV} {l : Launch} {G : GG} {μ : MU} {m : Nat} {n p q r v a b k c : Int}
theorem tgL_in {L : List (Int × Int)} (hL : okL L) (p : Int) (i : Nat) (hi : i < (cnL L p).toNat) : 0 ≤ tgL L p i ∧ tgL L p i < 20 := by
  have h2 := hL.2 _ (mem_outs.mp (getD_mem (l := outs L p) (r := i) (by simpa [cnL] using hi)))
  show 0 ≤ (outs L p).getD (i : Int).toNat 0 ∧ (outs L p).getD (i : Int).toNat 0 < 20
  rw [Int.toNat_natCast]
  exact ⟨h2.2.2.1, h2.2.2.2⟩
end CM5
end
section
/-! THE REFERENCE: the past, the rules -/
/-- the array is put behind what is saved -/
def rcd (m : Nat) (μ μ' : MU) : Prop := (∀ b, ¬ b = m → ¬ b = m + 2 → μ' b = μ b) ∧ (∀ j : Int, ¬ j = 3 → μ' m j = μ m j) ∧ ∃ q : Int, (q = if μ m 3 = 4 then 1 else 0) ∧ μ' m 3 = μ m 3 - q + 1 ∧ (∀ j, 0 ≤ j → j < 1624 * (μ m 3 - q) → μ' (m + 2) j = μ (m + 2) (j + 1624 * q)) ∧ ∀ j, 0 ≤ j → j < 1624 → μ' (m + 2) (1624 * (μ m 3 - q) + j) = μ (m + 1) j
section CM6
variable {E : EV} {l : Launch} {G : GG} {μ : MU} {m : Nat} {n p q r v a b k c : Int}
end CM6
end
section
/-! THE REFERENCE: moves come and go, a tree begins -/
theorem cut_len {α : Type} {L : List α} {k : Nat} (hk : k < L.length) : (L.take k ++ L.drop (k + 1)).length = L.length - 1 := by
  rw [List.length_append, List.length_take, List.length_drop]
  omega
section CM8
variable {E : EV} {l : Launch} {G : GG} {μ : MU} {m : Nat} {n p q r v a b k c : Int}
end CM8
end
section
/-! THE REFERENCE: ways and proofs -/
/-- the children's parents -/
def okB (F : Int → Int) : Prop := ∀ n j : Int, 0 ≤ n → n < F 1 → F (223 + 7 * n + 5) ≤ j → j < F (223 + 7 * n + 5) + F (223 + 7 * n + 4) → F (223 + 7 * j + 1) = n
theorem nxF_ch {F : Int → Int} {n : Int} (h : okR F) (h0 : 0 ≤ n) (h1 : n < F 1) (h2 : ¬ F (223 + 7 * n + 4) = 0) : F (223 + 7 * n + 5) ≤ nxF F n ∧ nxF F n < F (223 + 7 * n + 5) + F (223 + 7 * n + 4) := by
  obtain ⟨-, -, -, hc, -⟩ := h
  have hcn := okC_at hc h0 h1
  unfold nxF
  have := am_in (if F (3 + 5 * F (223 + 7 * n + 0) + 0) = 0 then nF F 2 else nF F 3) (F (223 + 7 * n + 5)) (F (223 + 7 * n + 4)).toNat
  omega
/-- which nodes are in the proof -/
def mbR (par nx tu : Int → Int) (win : Int) : Nat → Int → Bool
  | 0, _ => false
  | k + 1, n => if par n = -5 then true else (mbR par nx tu win k (par n) && (decide (¬ tu (par n) = win) || decide (nx (par n) = n)))
theorem mbR_s (par nx tu : Int → Int) (win : Int) (k : Nat) (n : Int) : mbR par nx tu win (k + 1) n = if par n = -5 then true else (mbR par nx tu win k (par n) && (decide (¬ tu (par n) = win) || decide (nx (par n) = n))) := rfl
theorem mbR_st {par nx tu : Int → Int} {win sz : Int} (h : ∀ n, 0 ≤ n → n < sz → (n = 0 → par n = -5) ∧ (0 < n → 0 ≤ par n ∧ par n < n)) : ∀ (k : Nat) (n : Int), 0 ≤ n → n < sz → n < k → mbR par nx tu win (k + 1) n = mbR par nx tu win k n
  | 0, n, h0, h1, h2 => by omega
  | k + 1, n, h0, h1, h2 => by
    rw [mbR_s par nx tu win (k + 1) n, mbR_s par nx tu win k n]
    by_cases hn : par n = -5
    · rw [if_pos hn, if_pos hn]
    · have h3 := h n h0 h1
      rw [if_neg hn, if_neg hn, mbR_st h k (par n) (by omega) (by omega) (by omega)]
abbrev tuF (F : Int → Int) : Int → Int := fun n => F (3 + 5 * F (223 + 7 * n + 0) + 0)
abbrev wiF (F : Int → Int) : Int := if F 225 = 0 then 0 else 1
section CM10
variable {E : EV} {l : Launch} {G : GG} {μ : MU} {m : Nat} {n p q r v a b k c : Int}
end CM10
end
section
/-! THE REFERENCE: the size of a proof, counts -/
section CM11
variable {E : EV} {l : Launch} {G : GG} {μ : MU} {m : Nat} {n p q r v a b k c : Int}
abbrev mbF (F : Int → Int) : Int → Bool := mbR (nF F 1) (nxF F) (tuF F) (wiF F) 200
end CM11
end
section
/-! THE REFERENCE: counts -/
abbrev tcF (F : Int → Int) (k : Int) : Int := if k = 2 then F 225 else if k = 3 then F 226 else if k = 4 then (if F 225 = 0 then 1 else if F 226 = 0 then 2 else 0) else if k = 5 then cs (nF F 6) (F 1).toNat else if k = 6 then F 2 else mxc (dpt (nF F 1) 200) (F 1).toNat
section CM12
variable {E : EV} {l : Launch} {G : GG} {μ : MU} {m : Nat} {n p q r v a b k c : Int}
end CM12
end
section
/-! THE REFERENCE: entries are read -/
def ENT (μ : MU) (m : Nat) (ops : OPS) : Prop := μ m 13 = (ops.length : Int) ∧ ∀ k : Nat, k < ops.length → μ (m + 7) (3 * (k : Int)) = (ops.getD k (0, 0, 0)).1 ∧ μ (m + 7) (3 * (k : Int) + 1) = (ops.getD k (0, 0, 0)).2.1 ∧ μ (m + 7) (3 * (k : Int) + 2) = (ops.getD k (0, 0, 0)).2.2
theorem ENT.kept {μ ν : MU} {m : Nat} {ops : OPS} (h : ENT μ m ops) (h1 : ν m 13 = μ m 13) (h2 : ν (m + 7) = μ (m + 7)) : ENT ν m ops := by
  obtain ⟨a, b⟩ := h
  exact ⟨by rw [h1, a], fun k hk => by rw [h2]; exact b k hk⟩
section CM14
variable {E : EV} {l : Launch} {G : GG} {μ : MU} {m : Nat} {n p q r v a b k c : Int}
end CM14
end
section
/-! COSTS: a node is proved, disproved, or both its costs are small -/
theorem ow_st {pos par : Int → Int} {p sz : Int} (h : ∀ n, 0 ≤ n → n < sz → (n = 0 → par n = -5) ∧ (0 < n → 0 ≤ par n ∧ par n < n)) : ∀ (k : Nat) (n : Int), 0 ≤ n → n < sz → n < k → ow pos par p (k + 1) n = ow pos par p k n := by
  intro k
  induction k with
  | zero => intro n h0 h1 h2; omega
  | succ k ih =>
    intro n h0 h1 h2
    rw [ow_s pos par p (k + 1) n, ow_s pos par p k n]
    have hn := h n h0 h1
    by_cases e : n = 0
    · rw [ow_neg (show par n < 0 by rw [hn.1 e]; omega), ow_neg (show par n < 0 by rw [hn.1 e]; omega)]
    · have := hn.2 (by omega)
      rw [ih (par n) this.1 (by omega) (by omega)]
abbrev an (par : Int → Int) (c j : Int) : Prop := ow (fun x => x) par c 200 j = true
def PR (par : Int → Int) (sz : Int) : Prop := sz ≤ 200 ∧ ∀ n, 0 ≤ n → n < sz → (n = 0 → par n = -5) ∧ (0 < n → 0 ≤ par n ∧ par n < n)
theorem an_neg {par : Int → Int} {c j : Int} (h : j < 0) : ¬ an par c j := by
  intro q
  rw [an, ow_neg h] at q
  cases q
theorem an_s {par : Int → Int} {sz c j : Int} (h : PR par sz) (h0 : 0 ≤ j) (h1 : j < sz) : an par c j ↔ (j = c ∨ an par c (par j)) := by
  have hj := h.2 j h0 h1
  have hs := h.1
  have e : ow (fun x => x) par c 199 (par j) = ow (fun x => x) par c 200 (par j) := by
    by_cases e : j = 0
    · rw [ow_neg (by rw [hj.1 e]; omega), ow_neg (by rw [hj.1 e]; omega)]
    · have := hj.2 (by omega)
      exact (ow_st h.2 199 (par j) this.1 (by omega) (by omega)).symm
  unfold an
  rw [ow_s (fun x => x) par c 199 j, e, decide_eq_true h0]
  simp
theorem an_le {par : Int → Int} {sz c : Int} (h : PR par sz) : ∀ (k : Nat) (j : Int), 0 ≤ j → j < sz → j < k → an par c j → c ≤ j := by
  intro k
  induction k with
  | zero => intro j h0 h1 h2; omega
  | succ k ih =>
    intro j h0 h1 h2 ha
    rcases (an_s h h0 h1).mp ha with e | ha
    · omega
    · have hj := h.2 j h0 h1
      by_cases e : j = 0
      · exact absurd ha (an_neg (by rw [hj.1 e]; omega))
      · have h3 := hj.2 (by omega)
        have := ih (par j) h3.1 (by omega) (by omega) ha
        omega
theorem an_self {par : Int → Int} {sz j : Int} (h : PR par sz) (h0 : 0 ≤ j) (h1 : j < sz) : an par j j := (an_s h h0 h1).mpr (Or.inl rfl)
theorem an_up {par : Int → Int} {sz c : Int} (h : PR par sz) (c0 : 0 < c) (c1 : c < sz) : ∀ (k : Nat) (j : Int), 0 ≤ j → j < sz → j < k → an par c j → an par (par c) j := by
  have hc := (h.2 c (by omega) c1).2 c0
  intro k
  induction k with
  | zero => intro j h0 h1 h2; omega
  | succ k ih =>
    intro j h0 h1 h2 ha
    rcases (an_s h h0 h1).mp ha with e | ha
    · subst e
      exact (an_s h h0 h1).mpr (Or.inr (an_self h hc.1 (by omega)))
    · have hj := h.2 j h0 h1
      by_cases e : j = 0
      · exact absurd ha (an_neg (by rw [hj.1 e]; omega))
      · have h3 := hj.2 (by omega)
        exact (an_s h h0 h1).mpr (Or.inr (ih (par j) h3.1 (by omega) (by omega) ha))
theorem an_no {par : Int → Int} {sz c d : Int} (h : PR par sz) (hcd : c < d) : ∀ (k : Nat) (j : Int), 0 ≤ j → j < sz → j < k → an par c j → an par d j → an par c d := by
  intro k
  induction k with
  | zero => intro j h0 h1 h2; omega
  | succ k ih =>
    intro j h0 h1 h2 ha hb
    have hbl := an_le h (k + 1) j h0 h1 h2 hb
    rcases (an_s h h0 h1).mp hb with e | hb'
    · subst e; exact ha
    · rcases (an_s h h0 h1).mp ha with e | ha'
      · omega
      · have hj := h.2 j h0 h1
        by_cases e : j = 0
        · exact absurd ha' (an_neg (by rw [hj.1 e]; omega))
        · have h3 := hj.2 (by omega)
          exact ih (par j) h3.1 (by omega) (by omega) ha' hb'
theorem su_zero {f : Int → Int} {lo : Int} : ∀ {k : Nat}, (∀ i : Nat, i < k → f (lo + i) = 0) → su f lo k = 0
  | 0, _ => rfl
  | k + 1, h => by
    rw [su_s, su_zero (fun i hi => h i (by omega)), h k (by omega)]
    rfl
theorem an_blk {par : Int → Int} {sz n lo j : Int} (h : PR par sz) (j0 : 0 ≤ j) (j1 : j < sz) : ∀ (k : Nat), (∀ i : Nat, i < k → par (lo + i) = n ∧ 0 < lo + i ∧ lo + i < sz) → 0 ≤ su (fun c => bi (an par c j)) lo k ∧ su (fun c => bi (an par c j)) lo k ≤ bi (an par n j) := by
  intro k
  induction k with
  | zero => exact fun _ => ⟨Int.le_refl _, (bi_in _).1⟩
  | succ k ih =>
    intro hb
    have hk := hb k (by omega)
    have hi := ih (fun i hi => hb i (by omega))
    rw [su_s]
    by_cases e : an par (lo + k) j
    · have hz : su (fun c => bi (an par c j)) lo k = 0 := su_zero (fun i hi => by
        show bi (an par (lo + i) j) = 0
        refine bi_f (fun ha => ?_)
        have hbi := hb i (by omega)
        have h2 := an_no h (show lo + i < lo + k by omega) (j.toNat + 1) j j0 j1 (by omega) ha e
        rcases (an_s h (by omega) hk.2.2).mp h2 with h3 | h3
        · omega
        · have hp := (h.2 (lo + i) (by omega) hbi.2.2).2 hbi.2.1
          rw [hk.1] at h3
          have := an_le h (n.toNat + 1) n (by omega) (by omega) (by omega) h3
          omega)
      have hu := an_up h hk.2.1 hk.2.2 (j.toNat + 1) j j0 j1 (by omega) e
      rw [hk.1] at hu
      rw [hz, bi_t hu]
      show 0 ≤ 0 + bi (an par (lo + k) j) ∧ 0 + bi (an par (lo + k) j) ≤ 1
      rw [bi_t e]
      omega
    · show 0 ≤ _ + bi (an par (lo + k) j) ∧ _ + bi (an par (lo + k) j) ≤ _
      rw [bi_f e]
      omega
theorem cs_add (f g : Int → Int) : ∀ N : Nat, cs (fun j => f j + g j) N = cs f N + cs g N
  | 0 => rfl
  | N + 1 => by
    rw [cs_s, cs_s, cs_s, cs_add f g N]
    omega
theorem cs_le {f g : Int → Int} : ∀ {N : Nat}, (∀ j : Nat, j < N → f j ≤ g j) → cs f N ≤ cs g N
  | 0, _ => Int.le_refl _
  | N + 1, h => by
    rw [cs_s, cs_s]
    have h1 := cs_le (f := f) (g := g) (N := N) (fun j hj => h j (by omega))
    have h2 := h N (by omega)
    omega
theorem cs_ge {f : Int → Int} {c : Nat} : ∀ {N : Nat}, (∀ j : Nat, j < N → 0 ≤ f j) → c < N → f c ≤ cs f N
  | 0, _, hc => absurd hc (Nat.not_lt_zero _)
  | N + 1, h, hc => by
    rw [cs_s]
    have h2 := h N (by omega)
    by_cases e : c = N
    · subst e
      have h1 : (0 : Int) ≤ cs f c := by
        have := cs_le (f := fun _ => 0) (g := f) (N := c) (fun j hj => h j (by omega))
        have hz : ∀ M : Nat, cs (fun _ => 0) M = 0 := by
          intro M
          induction M with
          | zero => rfl
          | succ M ih => rw [cs_s, ih]; rfl
        rw [hz] at this
        exact this
      omega
    · have h1 := cs_ge (f := f) (c := c) (N := N) (fun j hj => h j (by omega)) (by omega)
      omega
theorem su_cs (a : Int → Int → Int) (lo : Int) (N : Nat) : ∀ k : Nat, su (fun c => cs (a c) N) lo k = cs (fun j => su (fun c => a c j) lo k) N
  | 0 => by
    have hz : ∀ M : Nat, cs (fun _ => 0) M = 0 := by
      intro M
      induction M with
      | zero => rfl
      | succ M ih => rw [cs_s, ih]; rfl
    exact (hz N).symm
  | k + 1 => by
    rw [su_s, su_cs a lo N k]
    exact (cs_add (fun j => su (fun c => a c j) lo k) (a (lo + k)) N).symm
/-- how many leaves lie under c -/
def lw (par cc : Int → Int) (sz c : Int) : Int := cs (fun j => if cc j = 0 then bi (an par c j) else 0) sz.toNat
theorem lw_in {par cc : Int → Int} {sz c : Int} (h0 : 0 ≤ sz) : 0 ≤ lw par cc sz c ∧ lw par cc sz c ≤ sz := by
  have := cs_bd (f := fun j => if cc j = 0 then bi (an par c j) else 0) (k := sz.toNat) (fun j _ => by
    have := bi_in (an par c (j : Int))
    show 0 ≤ (if cc (j : Int) = 0 then bi (an par c (j : Int)) else 0) ∧ (if cc (j : Int) = 0 then bi (an par c (j : Int)) else 0) ≤ 1
    split <;> omega)
  unfold lw
  omega
theorem lw_leaf {par cc : Int → Int} {sz c : Int} (h : PR par sz) (h0 : 0 ≤ c) (h1 : c < sz) (hc : cc c = 0) : 1 ≤ lw par cc sz c := by
  have := cs_ge (f := fun j => if cc j = 0 then bi (an par c j) else 0) (c := c.toNat) (N := sz.toNat) (fun j _ => by
    have := bi_in (an par c (j : Int))
    show 0 ≤ (if cc (j : Int) = 0 then bi (an par c (j : Int)) else 0)
    split <;> omega) (by omega)
  unfold lw
  have e : ((c.toNat : Nat) : Int) = c := by omega
  rw [e] at this
  have e2 : (if cc c = 0 then bi (an par c c) else 0) = 1 := by rw [if_pos hc, bi_t (an_self h h0 h1)]
  rw [e2] at this
  exact this
theorem lw_su {par cc : Int → Int} {sz n lo : Int} (h : PR par sz) (k : Nat) (hb : ∀ i : Nat, i < k → par (lo + i) = n ∧ 0 < lo + i ∧ lo + i < sz) : su (lw par cc sz) lo k ≤ lw par cc sz n := by
  have e : su (lw par cc sz) lo k = cs (fun j => su (fun c => if cc j = 0 then bi (an par c j) else 0) lo k) sz.toNat := su_cs (fun c j => if cc j = 0 then bi (an par c j) else 0) lo sz.toNat k
  rw [e]
  refine cs_le (fun j hj => ?_)
  show su (fun c => if cc (j : Int) = 0 then bi (an par c (j : Int)) else 0) lo k ≤ if cc (j : Int) = 0 then bi (an par n (j : Int)) else 0
  by_cases ec : cc (j : Int) = 0
  · simp only [if_pos ec]
    exact (an_blk h (by omega) (by omega) k hb).2
  · simp only [if_neg ec]
    rw [su_zero (fun i hi => rfl)]
    exact Int.le_refl _
/-- one of the three -/
def T3 (a b w : Int) : Prop := (a = 0 ∧ b = 9999) ∨ (a = 9999 ∧ b = 0) ∨ (1 ≤ a ∧ a ≤ 9 * w ∧ 1 ≤ b ∧ b ≤ 9 * w)
theorem T3_up {a b w : Int → Int} {lo : Int} : ∀ (k : Nat), (∀ i : Nat, i < k → T3 (a (lo + i)) (b (lo + i)) (w (lo + i)) ∧ 0 ≤ w (lo + i)) → su w lo k ≤ 200 → T3 (mn a lo k) (sm b lo k) (su w lo k) ∧ 0 ≤ su w lo k := by
  intro k
  induction k with
  | zero => exact fun _ _ => ⟨Or.inr (Or.inl ⟨rfl, rfl⟩), Int.le_refl _⟩
  | succ k ih =>
    intro h hs
    have hk := h k (by omega)
    rw [su_s] at hs ⊢
    have hi := ih (fun i hi => h i (by omega)) (by omega)
    have e1 : mn a lo (k + 1) = min (mn a lo k) (a (lo + k)) := rfl
    have e2 : sm b lo (k + 1) = min 9999 (sm b lo k + b (lo + k)) := rfl
    rw [e1, e2]
    unfold T3 at *
    omega
theorem T3_w {a b v w : Int} (h : T3 a b v) (hv : v ≤ w) : T3 a b w := by
  unfold T3 at *
  omega
theorem T3_sw {a b w : Int} (h : T3 a b w) : T3 b a w := by
  unfold T3 at *
  omega
/-- the costs of n are worked out -/
def CO (F : Int → Int) (n : Int) : Prop := 0 < F (223 + 7 * n + 4) → F (223 + 7 * n + 2) = (if tuF F n = 0 then mn (nF F 2) (F (223 + 7 * n + 5)) (F (223 + 7 * n + 4)).toNat else sm (nF F 2) (F (223 + 7 * n + 5)) (F (223 + 7 * n + 4)).toNat) ∧ F (223 + 7 * n + 3) = (if tuF F n = 0 then sm (nF F 3) (F (223 + 7 * n + 5)) (F (223 + 7 * n + 4)).toNat else mn (nF F 3) (F (223 + 7 * n + 5)) (F (223 + 7 * n + 4)).toNat)
/-- a leaf: an end, a loop, or one that can be opened -/
def LFc (F : Int → Int) (L : List (Int × Int)) (n : Int) : Prop := F (223 + 7 * n + 4) = 0 → (F (223 + 7 * n + 2) = 0 ∧ F (223 + 7 * n + 3) = 9999) ∨ (F (223 + 7 * n + 2) = 9999 ∧ F (223 + 7 * n + 3) = 0) ∨ (1 ≤ F (223 + 7 * n + 2) ∧ F (223 + 7 * n + 2) ≤ 9 ∧ 1 ≤ F (223 + 7 * n + 3) ∧ F (223 + 7 * n + 3) ≤ 9 ∧ 0 < (outs L (F (223 + 7 * n + 0))).length)
/-- a node stands among its parent's children -/
def okE (F : Int → Int) : Prop := ∀ n, 0 < n → n < F 1 → F (223 + 7 * F (223 + 7 * n + 1) + 5) ≤ n ∧ n < F (223 + 7 * F (223 + 7 * n + 1) + 5) + F (223 + 7 * F (223 + 7 * n + 1) + 4)
/-- all that is known of the array -/
def WF (F : Int → Int) (L : List (Int × Int)) : Prop := okL L ∧ ML F L ∧ okR F ∧ okP (nF F 0) (nF F 1) (F 1) ∧ okB F ∧ okE F ∧ (∀ n, 0 ≤ n → n < F 1 → CO F n) ∧ (∀ n, 0 ≤ n → n < F 1 → LFc F L n) ∧ F 2 = cs (fun j => bi (¬ nF F 4 j = 0)) (F 1).toNat
theorem WF.pr {F : Int → Int} {L : List (Int × Int)} (h : WF F L) : PR (nF F 1) (F 1) := ⟨h.2.2.1.2.2.1, fun n h0 h1 => (h.2.2.2.1 n h0 h1).2.2⟩
theorem WF.t3 {F : Int → Int} {L : List (Int × Int)} (h : WF F L) : ∀ (k : Nat) (n : Int), 0 ≤ n → n < F 1 → F 1 - n ≤ k → T3 (F (223 + 7 * n + 2)) (F (223 + 7 * n + 3)) (lw (nF F 1) (nF F 4) (F 1) n) := by
  have hpr := h.pr
  obtain ⟨hL, hF, hR, hP, hB, hE, hC, hl, h2⟩ := h
  obtain ⟨hQ, hs0, hs1, hc, hX⟩ := hR
  intro k
  induction k with
  | zero => intro n h0 h1 h2; omega
  | succ k ih =>
    intro n h0 h1 hk
    have hcn := okC_at hc h0 h1
    by_cases ec : F (223 + 7 * n + 4) = 0
    · have h3 := hl n h0 h1 ec
      have h4 := lw_leaf (cc := nF F 4) hpr h0 h1 ec
      unfold T3
      omega
    · have hb : ∀ i : Nat, i < (F (223 + 7 * n + 4)).toNat → nF F 1 (F (223 + 7 * n + 5) + i) = n ∧ 0 < F (223 + 7 * n + 5) + i ∧ F (223 + 7 * n + 5) + i < F 1 := fun i hi => ⟨hB n _ h0 h1 (by omega) (by omega), by omega, by omega⟩
      have hsu := lw_su (cc := nF F 4) hpr (F (223 + 7 * n + 4)).toNat hb
      have hin := lw_in (par := nF F 1) (cc := nF F 4) (sz := F 1) (c := n) hs0
      have hco := hC n h0 h1 (by omega)
      have hch : ∀ i : Nat, i < (F (223 + 7 * n + 4)).toNat → T3 (F (223 + 7 * (F (223 + 7 * n + 5) + i) + 2)) (F (223 + 7 * (F (223 + 7 * n + 5) + i) + 3)) (lw (nF F 1) (nF F 4) (F 1) (F (223 + 7 * n + 5) + i)) ∧ 0 ≤ lw (nF F 1) (nF F 4) (F 1) (F (223 + 7 * n + 5) + i) := fun i hi => ⟨ih _ (by omega) (by omega) (by omega), (lw_in hs0).1⟩
      rw [hco.1, hco.2]
      by_cases et : tuF F n = 0
      · rw [if_pos et, if_pos et]
        exact T3_w (T3_up (a := nF F 2) (b := nF F 3) (w := lw (nF F 1) (nF F 4) (F 1)) _ hch (by omega)).1 hsu
      · rw [if_neg et, if_neg et]
        exact T3_w (T3_sw (T3_up (a := nF F 3) (b := nF F 2) (w := lw (nF F 1) (nF F 4) (F 1)) _ (fun i hi => ⟨T3_sw (hch i hi).1, (hch i hi).2⟩) (by omega)).1) hsu
theorem WF.tri {F : Int → Int} {L : List (Int × Int)} (h : WF F L) {n : Int} (h0 : 0 ≤ n) (h1 : n < F 1) : (F (223 + 7 * n + 2) = 0 ∧ F (223 + 7 * n + 3) = 9999) ∨ (F (223 + 7 * n + 2) = 9999 ∧ F (223 + 7 * n + 3) = 0) ∨ (1 ≤ F (223 + 7 * n + 2) ∧ F (223 + 7 * n + 2) ≤ 1800 ∧ 1 ≤ F (223 + 7 * n + 3) ∧ F (223 + 7 * n + 3) ≤ 1800) := by
  have h2 := h.t3 (F 1 - n).toNat n h0 h1 (by omega)
  have h3 := lw_in (par := nF F 1) (cc := nF F 4) (sz := F 1) (c := n) h.2.2.1.2.1
  have h4 := h.2.2.1.2.2.1
  unfold T3 at h2
  omega
/-- the way from an undecided node -/
theorem WF.way {F : Int → Int} {L : List (Int × Int)} (h : WF F L) : ∀ (k : Nat) (n : Int), 0 ≤ n → n < F 1 → ¬ F (223 + 7 * n + 2) = 0 → ¬ F (223 + 7 * n + 3) = 0 → 0 ≤ lf (nxF F) (nF F 4) k n ∧ lf (nxF F) (nF F 4) k n < F 1 ∧ ¬ F (223 + 7 * lf (nxF F) (nF F 4) k n + 2) = 0 ∧ ¬ F (223 + 7 * lf (nxF F) (nF F 4) k n + 3) = 0 ∧ (F 1 - n ≤ k → F (223 + 7 * lf (nxF F) (nF F 4) k n + 4) = 0) := by
  intro k
  induction k with
  | zero => exact fun n h0 h1 h2 h3 => ⟨h0, h1, h2, h3, fun h4 => by omega⟩
  | succ k ih =>
    intro n h0 h1 h2 h3
    rw [lf_s]
    by_cases ec : nF F 4 n = 0
    · rw [if_pos ec]
      exact ⟨h0, h1, h2, h3, fun _ => ec⟩
    · rw [if_neg ec]
      have hR := h.2.2.1
      have hcn := okC_at hR.2.2.2.1 h0 h1
      have ec' : ¬ F (223 + 7 * n + 4) = 0 := ec
      have hx := nxF_in hR h0 h1 ec'
      have hco := h.2.2.2.2.2.2.1 n h0 h1 (by omega)
      have ht := h.tri h0 h1
      have hxt := h.tri (n := nxF F n) (by omega) hx.2
      have hr : ¬ F (223 + 7 * nxF F n + 2) = 0 ∧ ¬ F (223 + 7 * nxF F n + 3) = 0 := by
        by_cases et : tuF F n = 0
        · rw [if_pos et, if_pos et] at hco
          have hm := am_mn (c := nF F 2) (lo := F (223 + 7 * n + 5)) (k := (F (223 + 7 * n + 4)).toNat) (by omega) (fun j hj => (okX_at hR.2.2.2.2 (n := F (223 + 7 * n + 5) + j) (by omega) (by have := hR.2.2.1; omega)).2.1)
          have e : nxF F n = am (nF F 2) (F (223 + 7 * n + 5)) (F (223 + 7 * n + 4)).toNat := by
            unfold nxF
            rw [if_pos et]
          rw [← e, ← hco.1] at hm
          have hm' : F (223 + 7 * nxF F n + 2) = F (223 + 7 * n + 2) := hm
          omega
        · rw [if_neg et, if_neg et] at hco
          have hm := am_mn (c := nF F 3) (lo := F (223 + 7 * n + 5)) (k := (F (223 + 7 * n + 4)).toNat) (by omega) (fun j hj => (okX_at hR.2.2.2.2 (n := F (223 + 7 * n + 5) + j) (by omega) (by have := hR.2.2.1; omega)).2.2.2)
          have e : nxF F n = am (nF F 3) (F (223 + 7 * n + 5)) (F (223 + 7 * n + 4)).toNat := by
            unfold nxF
            rw [if_neg et]
          rw [← e, ← hco.2] at hm
          have hm' : F (223 + 7 * nxF F n + 3) = F (223 + 7 * n + 3) := hm
          omega
      have := ih (nxF F n) (by omega) hx.2 hr.1 hr.2
      exact ⟨this.1, this.2.1, this.2.2.1, this.2.2.2.1, fun h4 => this.2.2.2.2 (by omega)⟩
end
section
/-! ONE OPENING, AS A FUNCTION OF THE ARRAY -/
theorem am_c {c d : Int → Int} {lo : Int} : ∀ {k : Nat}, (∀ i : Nat, i < k → c (lo + i) = d (lo + i)) → am c lo k = am d lo k
  | 0, _ => rfl
  | k + 1, h => by
    have h1 := am_c (c := c) (d := d) (lo := lo) (k := k) (fun i hi => h i (by omega))
    have h2 := am_in d lo k
    show (if c (lo + k) < c (am c lo k) then lo + k else am c lo k) = if d (lo + k) < d (am d lo k) then lo + k else am d lo k
    rw [h1, h k (by omega)]
    by_cases e : am d lo k < lo + k
    · have h3 := h (am d lo k - lo).toNat (by omega)
      rw [show lo + (((am d lo k - lo).toNat : Nat) : Int) = am d lo k by omega] at h3
      rw [h3]
    · have e2 : am d lo k = lo := by omega
      have h3 := h 0 (by omega)
      rw [show lo + ((0 : Nat) : Int) = lo by omega] at h3
      rw [e2, h3]
theorem mn_c {c d : Int → Int} {lo : Int} : ∀ {k : Nat}, (∀ i : Nat, i < k → c (lo + i) = d (lo + i)) → mn c lo k = mn d lo k
  | 0, _ => rfl
  | k + 1, h => by
    show min (mn c lo k) (c (lo + k)) = min (mn d lo k) (d (lo + k))
    rw [mn_c (fun i hi => h i (by omega)), h k (by omega)]
theorem sm_c {c d : Int → Int} {lo : Int} : ∀ {k : Nat}, (∀ i : Nat, i < k → c (lo + i) = d (lo + i)) → sm c lo k = sm d lo k
  | 0, _ => rfl
  | k + 1, h => by
    show min 9999 (sm c lo k + c (lo + k)) = min 9999 (sm d lo k + d (lo + k))
    rw [sm_c (fun i hi => h i (by omega)), h k (by omega)]
def woF (F : Int → Int) (n : Int) : Int → Int := woR 0 (fun _ => F) n (0 + 1)
def wuF : Nat → Int → (Int → Int) → (Int → Int)
  | 0, _, F => F
  | k + 1, n, F => if n < 0 then F else wuF k (F (223 + 7 * n + 1)) (woF F n)
theorem wuF_s (k : Nat) (n : Int) (F : Int → Int) : wuF (k + 1) n F = if n < 0 then F else wuF k (F (223 + 7 * n + 1)) (woF F n) := rfl
theorem woF_i {F : Int → Int} {n j : Int} (h1 : ¬ j = 223 + 7 * n + 2) (h2 : ¬ j = 223 + 7 * n + 3) : woF F n j = F j := woR_i h1 h2
theorem woF_2 (F : Int → Int) (n : Int) : woF F n (223 + 7 * n + 2) = (if tuF F n = 0 then mn (nF F 2) (F (223 + 7 * n + 5)) (F (223 + 7 * n + 4)).toNat else sm (nF F 2) (F (223 + 7 * n + 5)) (F (223 + 7 * n + 4)).toNat) := by
  unfold woF woR
  rw [wr_i (by omega), wr_s]
theorem woF_3 (F : Int → Int) (n : Int) : woF F n (223 + 7 * n + 3) = (if tuF F n = 0 then sm (nF F 3) (F (223 + 7 * n + 5)) (F (223 + 7 * n + 4)).toNat else mn (nF F 3) (F (223 + 7 * n + 5)) (F (223 + 7 * n + 4)).toNat) := by
  unfold woF woR
  rw [wr_s]
theorem wuF_i {j : Int} (h : ∀ x, 0 ≤ x → ¬ j = 223 + 7 * x + 2 ∧ ¬ j = 223 + 7 * x + 3) : ∀ (k : Nat) (n : Int) (F : Int → Int), wuF k n F j = F j
  | 0, _, _ => rfl
  | k + 1, n, F => by
    rw [wuF_s]
    by_cases e : n < 0
    · rw [if_pos e]
    · have hn := h n (by omega)
      rw [if_neg e, wuF_i h k, woF_i hn.1 hn.2]
theorem wuF_k {x c : Int} (k : Nat) (n : Int) (F : Int → Int) (h : ¬ c = 2 ∧ ¬ c = 3 ∧ 0 ≤ c ∧ c < 7) : wuF k n F (223 + 7 * x + c) = F (223 + 7 * x + c) := wuF_i (fun y _ => by omega) k n F
theorem wuF_l {j : Int} (k : Nat) (n : Int) (F : Int → Int) (h : j < 225) : wuF k n F j = F j := wuF_i (fun y _ => by omega) k n F
/-- the shape of the tree -/
def SK (F : Int → Int) (sz : Int) : Prop := 0 ≤ sz ∧ sz ≤ 200 ∧ (∀ x, 0 ≤ x → x < sz → 0 ≤ F (223 + 7 * x + 0) ∧ F (223 + 7 * x + 0) < 20 ∧ 0 ≤ F (223 + 7 * x + 4) ∧ -5 ≤ F (223 + 7 * x + 5) ∧ (0 < F (223 + 7 * x + 4) → x < F (223 + 7 * x + 5)) ∧ F (223 + 7 * x + 5) + F (223 + 7 * x + 4) ≤ sz ∧ (x = 0 → F (223 + 7 * x + 1) = -5) ∧ (0 < x → 0 ≤ F (223 + 7 * x + 1) ∧ F (223 + 7 * x + 1) < x ∧ 0 < F (223 + 7 * F (223 + 7 * x + 1) + 4))) ∧ ∀ x j, 0 ≤ x → x < sz → F (223 + 7 * x + 5) ≤ j → j < F (223 + 7 * x + 5) + F (223 + 7 * x + 4) → F (223 + 7 * j + 1) = x
theorem SK.wo {F : Int → Int} {sz n : Int} (h : SK F sz) : SK (woF F n) sz := by
  have c : ∀ x k, (k = 0 ∨ k = 1 ∨ k = 4 ∨ k = 5) → woF F n (223 + 7 * x + k) = F (223 + 7 * x + k) := fun x k hk => woF_i (by omega) (by omega)
  refine ⟨h.1, h.2.1, fun x h0 h1 => ?_, fun x j h0 h1 => ?_⟩
  · rw [c x 0 (by omega), c x 1 (by omega), c x 4 (by omega), c x 5 (by omega), c _ 4 (by omega)]
    exact h.2.2.1 x h0 h1
  · rw [c x 4 (by omega), c x 5 (by omega), c j 1 (by omega)]
    exact h.2.2.2 x j h0 h1
theorem CO_c {F F' : Int → Int} {x : Int} (h : CO F x) (hk : ∀ k, 0 ≤ k → k < 7 → F' (223 + 7 * x + k) = F (223 + 7 * x + k)) (ht : F' (3 + 5 * F (223 + 7 * x + 0) + 0) = F (3 + 5 * F (223 + 7 * x + 0) + 0)) (hc : ∀ i : Nat, i < (F (223 + 7 * x + 4)).toNat → F' (223 + 7 * (F (223 + 7 * x + 5) + i) + 2) = F (223 + 7 * (F (223 + 7 * x + 5) + i) + 2) ∧ F' (223 + 7 * (F (223 + 7 * x + 5) + i) + 3) = F (223 + 7 * (F (223 + 7 * x + 5) + i) + 3)) : CO F' x := by
  intro h4
  rw [hk 4 (by omega) (by omega)] at h4
  have h5 := h h4
  unfold tuF at h5 ⊢
  rw [hk 0 (by omega) (by omega), hk 2 (by omega) (by omega), hk 3 (by omega) (by omega), hk 4 (by omega) (by omega), hk 5 (by omega) (by omega), ht]
  rw [mn_c (c := nF F' 2) (d := nF F 2) (fun i hi => (hc i hi).1), mn_c (c := nF F' 3) (d := nF F 3) (fun i hi => (hc i hi).2), sm_c (c := nF F' 2) (d := nF F 2) (fun i hi => (hc i hi).1), sm_c (c := nF F' 3) (d := nF F 3) (fun i hi => (hc i hi).2)]
  exact h5
theorem CO_self {F : Int → Int} {n : Int} (h0 : 0 ≤ F (223 + 7 * n + 0)) (h1 : F (223 + 7 * n + 0) < 20) (hn : 0 ≤ n) (hf : 0 < F (223 + 7 * n + 4) → n < F (223 + 7 * n + 5)) : CO (woF F n) n := by
  intro h4
  rw [woF_i (by omega) (by omega)] at h4
  have h5 := hf h4
  rw [woF_2, woF_3]
  unfold tuF
  rw [woF_i (F := F) (n := n) (j := 223 + 7 * n + 0) (by omega) (by omega), woF_i (F := F) (n := n) (j := 223 + 7 * n + 4) (by omega) (by omega), woF_i (F := F) (n := n) (j := 223 + 7 * n + 5) (by omega) (by omega), woF_i (F := F) (n := n) (j := 3 + 5 * F (223 + 7 * n + 0) + 0) (by omega) (by omega)]
  have e2 : ∀ i : Nat, i < (F (223 + 7 * n + 4)).toNat → nF F 2 (F (223 + 7 * n + 5) + i) = nF (woF F n) 2 (F (223 + 7 * n + 5) + i) := fun i hi => (woF_i (F := F) (n := n) (by omega) (by omega)).symm
  have e3 : ∀ i : Nat, i < (F (223 + 7 * n + 4)).toNat → nF F 3 (F (223 + 7 * n + 5) + i) = nF (woF F n) 3 (F (223 + 7 * n + 5) + i) := fun i hi => (woF_i (F := F) (n := n) (by omega) (by omega)).symm
  rw [mn_c e2, mn_c e3, sm_c e2, sm_c e3]
  exact ⟨rfl, rfl⟩
/-- those above n, and n -/
def ap (par : Int → Int) : Nat → Int → Int → Prop
  | 0, _, _ => False
  | k + 1, n, x => 0 ≤ n ∧ (x = n ∨ ap par k (par n) x)
theorem woF_XX {F : Int → Int} {n : Int} (hx : okX (nF F 2) (nF F 3)) (h0 : -5 ≤ F (223 + 7 * n + 5)) (h1 : 0 < F (223 + 7 * n + 4) → 0 ≤ F (223 + 7 * n + 5)) (h2 : F (223 + 7 * n + 5) + F (223 + 7 * n + 4) ≤ 200) : okX (nF (woF F n) 2) (nF (woF F n) 3) := woR_X (m := 0) (μ := fun _ => F) hx h0 h1 h2
theorem wuF_all {sz : Int} : ∀ (k : Nat) (n : Int) (F : Int → Int), SK F sz → (n = -5 ∨ (0 ≤ n ∧ n < sz ∧ 0 < F (223 + 7 * n + 4))) → okX (nF F 2) (nF F 3) → okX (nF (wuF k n F) 2) (nF (wuF k n F) 3) ∧ (∀ x, F (223 + 7 * x + 4) = 0 → wuF k n F (223 + 7 * x + 2) = F (223 + 7 * x + 2) ∧ wuF k n F (223 + 7 * x + 3) = F (223 + 7 * x + 3)) ∧ (n < k → (∀ x, 0 ≤ x → x < sz → ¬ ap (nF F 1) k n x → CO F x) → ∀ x, 0 ≤ x → x < sz → CO (wuF k n F) x) := by
  intro k
  induction k with
  | zero =>
    intro n F hS hn hX
    exact ⟨hX, fun x _ => ⟨rfl, rfl⟩, fun _ h x h0 h1 => h x h0 h1 (fun q => q)⟩
  | succ k ih =>
    intro n F hS hn hX
    rw [wuF_s]
    by_cases e : n < 0
    · rw [if_pos e]
      exact ⟨hX, fun x _ => ⟨rfl, rfl⟩, fun _ h x h0 h1 => h x h0 h1 (fun q => by have := q.1; omega)⟩
    · rw [if_neg e]
      have hn0 : 0 ≤ n ∧ n < sz ∧ 0 < F (223 + 7 * n + 4) := by omega
      have hs := hS.2.2.1 n hn0.1 hn0.2.1
      have hsz := hS.2.1
      have hpn : F (223 + 7 * n + 1) = -5 ∨ (0 ≤ F (223 + 7 * n + 1) ∧ F (223 + 7 * n + 1) < sz ∧ 0 < woF F n (223 + 7 * F (223 + 7 * n + 1) + 4)) := by
        rw [woF_i (by omega) (by omega)]
        by_cases e0 : n = 0
        · exact Or.inl (hs.2.2.2.2.2.2.1 e0)
        · have := hs.2.2.2.2.2.2.2 (by omega)
          omega
      obtain ⟨a1, a2, a3⟩ := ih (F (223 + 7 * n + 1)) (woF F n) hS.wo hpn (woF_XX hX (by omega) (by omega) (by omega))
      refine ⟨a1, fun x hx => ?_, fun hnk hco => ?_⟩
      · have hxn : ¬ x = n := fun q => by subst q; omega
        have := a2 x (by rw [woF_i (by omega) (by omega)]; exact hx)
        rw [woF_i (by omega) (by omega), woF_i (by omega) (by omega)] at this
        exact this
      · have e1 : nF (woF F n) 1 = nF F 1 := by
          funext y
          exact woF_i (by omega) (by omega)
        refine a3 ?_ (fun x h0 h1 hap => ?_)
        · by_cases e0 : n = 0
          · rw [hs.2.2.2.2.2.2.1 e0]; omega
          · have := hs.2.2.2.2.2.2.2 (by omega)
            omega
        · rw [e1] at hap
          have hsx := hS.2.2.1 x h0 h1
          by_cases ex : x = n
          · subst ex
            exact CO_self hs.1 hs.2.1 h0 (by omega)
          · have h3 : ¬ ap (nF F 1) (k + 1) n x := fun q => by
              rcases q.2 with q | q
              · exact ex q
              · exact hap q
            refine CO_c (hco x h0 h1 h3) (fun y y0 y1 => woF_i (by omega) (by omega)) (woF_i (by omega) (by omega)) (fun i hi => ?_)
            have hch : ¬ F (223 + 7 * x + 5) + i = n := by
              intro q
              have h5 := hS.2.2.2 x n h0 h1 (by omega) (by omega)
              have h6 : 0 < n := by omega
              have hk1 : 0 < k := by omega
              obtain ⟨k', rfl⟩ : ∃ k', k = k' + 1 := ⟨k - 1, by omega⟩
              exact hap ⟨by show 0 ≤ F (223 + 7 * n + 1); omega, Or.inl h5.symm⟩
            exact ⟨woF_i (by omega) (by omega), woF_i (by omega) (by omega)⟩
end
section
/-! ONE OPENING KEEPS WHAT IS KNOWN -/
def nlF (F : Int → Int) (L : List (Int × Int)) (w tg : Int) (k : Int) : Int :=
  if k = 0 then tg else if k = 1 then w else if k = 2 then lcP (enF F L tg) (F (3 + 5 * tg + 1) = 1) (ow (nF F 0) (nF F 1) tg 200 w = true) (F (3 + 5 * tg + 2)) else if k = 3 then lcD (enF F L tg) (F (3 + 5 * tg + 1) = 1) (ow (nF F 0) (nF F 1) tg 200 w = true) (F (3 + 5 * tg + 3)) else if k = 4 then 0 else if k = 5 then -5 else bi (¬ enF F L tg ∧ ow (nF F 0) (nF F 1) tg 200 w = true)
/-- the leaf w has its cn children, the costs are not worked out -/
def baF (F : Int → Int) (L : List (Int × Int)) (w cn : Int) : Int → Int := fun j =>
  if j = 1 then F 1 + cn else if j = 223 + 7 * w + 5 then F 1 else if j = 223 + 7 * w + 4 then cn else if 223 + 7 * F 1 ≤ j ∧ j < 223 + 7 * (F 1 + cn) then nlF F L w ((outs L (F (223 + 7 * w + 0))).getD ((j - 223) / 7 - F 1).toNat 0) ((j - 223) % 7) else F j
abbrev wF (F : Int → Int) : Int := lf (nxF F) (nF F 4) 200 0
abbrev cF (F : Int → Int) (L : List (Int × Int)) : Int := ((outs L (F (223 + 7 * wF F + 0))).length : Int)
abbrev goF (F : Int → Int) (L : List (Int × Int)) : Prop := ¬ ((F 225 = 0 ∨ F 226 = 0) ∨ 200 < F 1 + cF F L)
def opF (F : Int → Int) (L : List (Int × Int)) : Int → Int := fun j => if j = 2 then F 2 + 1 else wuF 200 (wF F) (baF F L (wF F) (cF F L)) j
theorem ba_old {F : Int → Int} {L : List (Int × Int)} {w cn x k : Int} (h0 : 0 ≤ x) (h1 : x < F 1) (k0 : 0 ≤ k) (k1 : k < 7) : baF F L w cn (223 + 7 * x + k) = if x = w ∧ k = 5 then F 1 else if x = w ∧ k = 4 then cn else F (223 + 7 * x + k) := by
  unfold baF
  rw [if_neg (by omega)]
  by_cases e5 : x = w ∧ k = 5
  · rw [if_pos (by omega), if_pos e5]
  rw [if_neg (by omega), if_neg e5]
  by_cases e4 : x = w ∧ k = 4
  · rw [if_pos (by omega), if_pos e4]
  rw [if_neg (by omega), if_neg e4, if_neg (by omega)]
theorem ba_new {F : Int → Int} {L : List (Int × Int)} {w cn x k : Int} (hw : w < F 1) (hs : 0 ≤ F 1) (h0 : F 1 ≤ x) (h1 : x < F 1 + cn) (k0 : 0 ≤ k) (k1 : k < 7) : baF F L w cn (223 + 7 * x + k) = nlF F L w ((outs L (F (223 + 7 * w + 0))).getD (x - F 1).toNat 0) k := by
  unfold baF
  rw [if_neg (by omega), if_neg (by omega), if_neg (by omega), if_pos (by omega), show (223 + 7 * x + k - 223) / 7 = x by omega, show (223 + 7 * x + k - 223) % 7 = k by omega]
theorem ba_low {F : Int → Int} {L : List (Int × Int)} {w cn j : Int} (hw : 0 ≤ w) (hs : 0 ≤ F 1) (h : j < 223) (h1 : ¬ j = 1) : baF F L w cn j = F j := by
  unfold baF
  rw [if_neg h1, if_neg (by omega), if_neg (by omega), if_neg (by omega)]
theorem ba_high {F : Int → Int} {L : List (Int × Int)} {w cn j : Int} (hw : w < F 1) (hs : 0 ≤ F 1) (hc : 0 ≤ cn) (h : 223 + 7 * (F 1 + cn) ≤ j) : baF F L w cn j = F j := by
  unfold baF
  rw [if_neg (by omega), if_neg (by omega), if_neg (by omega), if_neg (by omega)]
theorem WF.leaf {F : Int → Int} {L : List (Int × Int)} (h : WF F L) (h0 : 0 < F 1) (hu : ¬ (F 225 = 0 ∨ F 226 = 0)) : 0 ≤ wF F ∧ wF F < F 1 ∧ F (223 + 7 * wF F + 4) = 0 ∧ 0 < cF F L := by
  have hw := h.way 200 0 (Int.le_refl _) h0 (fun q => hu (Or.inl q)) (fun q => hu (Or.inr q))
  have hs := h.2.2.1.2.2.1
  have hl := h.2.2.2.2.2.2.2.1 (wF F) hw.1 hw.2.1 (hw.2.2.2.2 (by omega))
  refine ⟨hw.1, hw.2.1, hw.2.2.2.2 (by omega), ?_⟩
  have a : ¬ F (223 + 7 * wF F + 2) = 0 := hw.2.2.1
  have b : ¬ F (223 + 7 * wF F + 3) = 0 := hw.2.2.2.1
  show (0 : Int) < ((outs L (F (223 + 7 * wF F + 0))).length : Int)
  omega
theorem nl_in {F : Int → Int} {L : List (Int × Int)} {w tg : Int} (hQ : okQ F) (t0 : 0 ≤ tg) (t1 : tg < 20) : (0 ≤ nlF F L w tg 2 ∧ nlF F L w tg 2 ≤ 9999 ∧ 0 ≤ nlF F L w tg 3 ∧ nlF F L w tg 3 ≤ 9999) ∧ ((nlF F L w tg 2 = 0 ∧ nlF F L w tg 3 = 9999) ∨ (nlF F L w tg 2 = 9999 ∧ nlF F L w tg 3 = 0) ∨ (1 ≤ nlF F L w tg 2 ∧ nlF F L w tg 2 ≤ 9 ∧ 1 ≤ nlF F L w tg 3 ∧ nlF F L w tg 3 ≤ 9 ∧ 0 < (outs L tg).length)) := by
  have hq := hQ tg t0 t1
  have e2 : nlF F L w tg 2 = lcP (enF F L tg) (F (3 + 5 * tg + 1) = 1) (ow (nF F 0) (nF F 1) tg 200 w = true) (F (3 + 5 * tg + 2)) := rfl
  have e3 : nlF F L w tg 3 = lcD (enF F L tg) (F (3 + 5 * tg + 1) = 1) (ow (nF F 0) (nF F 1) tg 200 w = true) (F (3 + 5 * tg + 3)) := rfl
  rw [e2, e3]
  unfold lcP lcD
  by_cases c1 : enF F L tg
  · rw [if_pos c1, if_pos c1]
    by_cases c2 : F (3 + 5 * tg + 1) = 1
    · rw [if_pos c2, if_pos c2]
      omega
    · rw [if_neg c2, if_neg c2]
      omega
  · rw [if_neg c1, if_neg c1]
    by_cases c2 : ow (nF F 0) (nF F 1) tg 200 w = true
    · rw [if_pos c2, if_pos c2]
      omega
    · rw [if_neg c2, if_neg c2]
      have c3 : ¬ (outs L tg).length = 0 := fun q => c1 (Or.inr q)
      omega
theorem cs_c {f g : Int → Int} {k : Nat} (h : ∀ j : Nat, j < k → f j = g j) : cs f k = cs g k := cs_congr h
theorem cs_one {f g : Int → Int} {w : Nat} {d : Int} : ∀ {k : Nat}, w < k → g w = f w + d → (∀ j : Nat, j < k → ¬ j = w → g j = f j) → cs g k = cs f k + d
  | 0, h, _, _ => absurd h (Nat.not_lt_zero _)
  | k + 1, h, hw, ho => by
    rw [cs_s, cs_s]
    by_cases e : w = k
    · subst e
      rw [cs_c (f := g) (g := f) (fun j hj => ho j (by omega) (by omega)), hw]
      omega
    · rw [cs_one (f := f) (g := g) (w := w) (d := d) (k := k) (by omega) hw (fun j hj => ho j (by omega)), ho k (by omega) (by omega)]
      omega
theorem cs_more {f : Int → Int} {k : Nat} : ∀ i : Nat, (∀ j : Nat, k ≤ j → j < k + i → f j = 0) → cs f (k + i) = cs f k
  | 0, _ => rfl
  | i + 1, h => by
    rw [show k + (i + 1) = k + i + 1 by omega, cs_s, cs_more i (fun j h0 h1 => h j h0 (by omega)), h (k + i) (by omega) (by omega)]
    omega
theorem WF.op {F : Int → Int} {L : List (Int × Int)} (h : WF F L) (h0 : 0 < F 1) (hg : goF F L) : WF (opF F L) L := by
  have hu : ¬ (F 225 = 0 ∨ F 226 = 0) := fun q => hg (Or.inl q)
  have hroom : F 1 + cF F L ≤ 200 := by
    have : ¬ 200 < F 1 + cF F L := fun q => hg (Or.inr q)
    omega
  obtain ⟨w0, w1, w4, c0⟩ := h.leaf h0 hu
  obtain ⟨hL, hF, hR, hP, hB, hE, hC, hl, h2⟩ := h
  obtain ⟨hQ, hs0, hs1, hc, hX⟩ := hR
  have htg : ∀ i : Nat, (i : Int) < cF F L → 0 ≤ (outs L (F (223 + 7 * wF F + 0))).getD i 0 ∧ (outs L (F (223 + 7 * wF F + 0))).getD i 0 < 20 := fun i hi => by
    have := hL.2 _ (mem_outs.mp (getD_mem (l := outs L (F (223 + 7 * wF F + 0))) (r := i) (by have q : (i : Int) < ((outs L (F (223 + 7 * wF F + 0))).length : Int) := hi; omega)))
    exact ⟨this.2.2.1, this.2.2.2⟩
  have hwp := okC_at hc w0 w1
  unfold opF
  generalize hw : wF F = w at *
  generalize hcn : cF F L = cn at *
  have bo : ∀ x k, 0 ≤ x → x < F 1 → 0 ≤ k → k < 7 → baF F L w cn (223 + 7 * x + k) = if x = w ∧ k = 5 then F 1 else if x = w ∧ k = 4 then cn else F (223 + 7 * x + k) := fun x k a b c d => ba_old a b c d
  have bn : ∀ x k, F 1 ≤ x → x < F 1 + cn → 0 ≤ k → k < 7 → baF F L w cn (223 + 7 * x + k) = nlF F L w ((outs L (F (223 + 7 * w + 0))).getD (x - F 1).toNat 0) k := fun x k a b c d => ba_new w1 hs0 a b c d
  have bl : ∀ j, j < 223 → ¬ j = 1 → baF F L w cn j = F j := fun j a b => ba_low w0 hs0 a b
  have b1 : baF F L w cn 1 = F 1 + cn := if_pos rfl
  have bh : ∀ j, 223 + 7 * (F 1 + cn) ≤ j → baF F L w cn j = F j := fun j a => ba_high w1 hs0 (by omega) a
  generalize baF F L w cn = B at *
  -- B's shape
  have bw4 : B (223 + 7 * w + 4) = cn := by rw [bo w 4 w0 w1 (by omega) (by omega), if_neg (by omega), if_pos ⟨rfl, rfl⟩]
  have bw5 : B (223 + 7 * w + 5) = F 1 := by rw [bo w 5 w0 w1 (by omega) (by omega), if_pos ⟨rfl, rfl⟩]
  have bo' : ∀ x k, 0 ≤ x → x < F 1 → 0 ≤ k → k < 7 → (¬ x = w ∨ (¬ k = 4 ∧ ¬ k = 5)) → B (223 + 7 * x + k) = F (223 + 7 * x + k) := fun x k a b c d e => by rw [bo x k a b c d, if_neg (by omega), if_neg (by omega)]
  have bn0 : ∀ x, F 1 ≤ x → x < F 1 + cn → B (223 + 7 * x + 0) = (outs L (F (223 + 7 * w + 0))).getD (x - F 1).toNat 0 := fun x a b => bn x 0 a b (by omega) (by omega)
  have bn1 : ∀ x, F 1 ≤ x → x < F 1 + cn → B (223 + 7 * x + 1) = w := fun x a b => bn x 1 a b (by omega) (by omega)
  have bn4 : ∀ x, F 1 ≤ x → x < F 1 + cn → B (223 + 7 * x + 4) = 0 := fun x a b => bn x 4 a b (by omega) (by omega)
  have bn5 : ∀ x, F 1 ≤ x → x < F 1 + cn → B (223 + 7 * x + 5) = -5 := fun x a b => bn x 5 a b (by omega) (by omega)
  have hpw : ∀ x, 0 < x → x < F 1 → ¬ F (223 + 7 * x + 1) = w := fun x a b q => by
    have := hE x a b
    rw [q] at this
    omega
  have hSK : SK B (F 1 + cn) := by
    refine ⟨by omega, hroom, fun x x0 x1 => ?_, fun x j x0 x1 => ?_⟩
    · by_cases ex : x < F 1
      · have hcx := okC_at hc x0 ex
        have hpx := okP_at hP x0 ex
        rw [bo' x 0 x0 ex (by omega) (by omega) (by omega), bo' x 1 x0 ex (by omega) (by omega) (by omega)]
        have h5 : 0 < x → 0 ≤ F (223 + 7 * x + 1) ∧ F (223 + 7 * x + 1) < x ∧ 0 < B (223 + 7 * F (223 + 7 * x + 1) + 4) := fun q => by
          have h6 := hpx.2.2.2 q
          have h7 := hE x q ex
          have h8 := hpw x q ex
          rw [bo' _ 4 h6.1 (by omega) (by omega) (by omega) (by omega)]
          omega
        by_cases exw : x = w
        · subst exw
          rw [bw4, bw5]
          exact ⟨hcx.1, hcx.2.1, by omega, by omega, fun _ => by omega, by omega, hpx.2.2.1, h5⟩
        · rw [bo' x 4 x0 ex (by omega) (by omega) (by omega), bo' x 5 x0 ex (by omega) (by omega) (by omega)]
          exact ⟨hcx.1, hcx.2.1, by omega, by omega, by omega, by omega, hpx.2.2.1, h5⟩
      · have := htg (x - F 1).toNat (by omega)
        rw [bn0 x (by omega) x1, bn1 x (by omega) x1, bn4 x (by omega) x1, bn5 x (by omega) x1, bw4]
        omega
    · by_cases ex : x < F 1
      · have hcx := okC_at hc x0 ex
        by_cases exw : x = w
        · subst exw
          rw [bw4, bw5]
          exact fun a b => bn1 j a b
        · rw [bo' x 4 x0 ex (by omega) (by omega) (by omega), bo' x 5 x0 ex (by omega) (by omega) (by omega)]
          intro a b
          rw [bo' j 1 (by omega) (by omega) (by omega) (by omega) (by omega)]
          exact hB x j x0 ex a b
      · rw [bn4 x (by omega) x1, bn5 x (by omega) x1]
        intro a b
        omega
  have hXB : okX (nF B 2) (nF B 3) := by
    intro x x0 x1
    show 0 ≤ B (223 + 7 * x + 2) ∧ B (223 + 7 * x + 2) ≤ 9999 ∧ 0 ≤ B (223 + 7 * x + 3) ∧ B (223 + 7 * x + 3) ≤ 9999
    by_cases ex : x < F 1
    · rw [bo' x 2 x0 ex (by omega) (by omega) (by omega), bo' x 3 x0 ex (by omega) (by omega) (by omega)]
      exact okX_at hX x0 x1
    · by_cases ey : x < F 1 + cn
      · have ht := htg (x - F 1).toNat (by omega)
        rw [bn x 2 (by omega) ey (by omega) (by omega), bn x 3 (by omega) ey (by omega) (by omega)]
        exact (nl_in hQ ht.1 ht.2).1
      · rw [bh _ (by omega), bh _ (by omega)]
        exact okX_at hX x0 x1
  have hCO : ∀ x, 0 ≤ x → x < F 1 + cn → ¬ ap (nF B 1) 200 w x → CO B x := by
    intro x x0 x1 hap
    by_cases ex : x < F 1
    · have exw : ¬ x = w := fun q => hap ⟨w0, Or.inl q⟩
      have hcx := okC_at hc x0 ex
      refine CO_c (hC x x0 ex) (fun k k0 k1 => bo' x k x0 ex k0 k1 (Or.inl exw)) (bl _ (by omega) (by omega)) (fun i hi => ?_)
      exact ⟨bo' _ 2 (by omega) (by omega) (by omega) (by omega) (by omega), bo' _ 3 (by omega) (by omega) (by omega) (by omega) (by omega)⟩
    · intro h4
      rw [bn4 x (by omega) x1] at h4
      exact absurd h4 (Int.lt_irrefl _)
  obtain ⟨a1, a2, a3⟩ := wuF_all 200 w B hSK (Or.inr ⟨w0, by omega, by rw [bw4]; exact c0⟩) hXB
  have a4 := a3 (by show w < ((200 : Nat) : Int); omega) hCO
  have ak : ∀ x k, (¬ k = 2 ∧ ¬ k = 3 ∧ 0 ≤ k ∧ k < 7) → wuF 200 w B (223 + 7 * x + k) = B (223 + 7 * x + k) := fun x k hk => wuF_k 200 w B hk
  have al : ∀ j, j < 225 → wuF 200 w B j = B j := fun j hj => wuF_l 200 w B hj
  generalize wuF 200 w B = A at *
  have fA : ∀ x k, 0 ≤ x → 0 ≤ k → k < 7 → (fun j => if j = 2 then F 2 + 1 else A j) (223 + 7 * x + k) = A (223 + 7 * x + k) := fun x k a b c => if_neg (by omega)
  have fl : ∀ j, j < 223 → ¬ j = 1 → ¬ j = 2 → (fun j => if j = 2 then F 2 + 1 else A j) j = F j := fun j a b c => by
    show (if j = 2 then F 2 + 1 else A j) = F j
    rw [if_neg c, al j (by omega), bl j a b]
  have f1 : (fun j => if j = 2 then F 2 + 1 else A j) 1 = F 1 + cn := by
    show (if (1 : Int) = 2 then F 2 + 1 else A 1) = F 1 + cn
    rw [if_neg (by omega), al 1 (by omega), b1]
  have f2 : (fun j => if j = 2 then F 2 + 1 else A j) 2 = F 2 + 1 := if_pos rfl
  generalize (fun j => if j = 2 then F 2 + 1 else A j) = F' at *
  have fk : ∀ x k, 0 ≤ x → (¬ k = 2 ∧ ¬ k = 3 ∧ 0 ≤ k ∧ k < 7) → F' (223 + 7 * x + k) = B (223 + 7 * x + k) := fun x k a b => by rw [fA x k a (by omega) (by omega), ak x k b]
  have hq3 : ∀ p k : Int, 0 ≤ p → p < 20 → 0 ≤ k → k < 5 → F' (3 + 5 * p + k) = F (3 + 5 * p + k) := fun p k a b c d => fl _ (by omega) (by omega) (by omega)
  refine ⟨hL, hF.of (fun j hj => fl j (by omega) (by omega) (by omega)), ⟨fun p p0 p1 => ?_, by omega, by omega, ?_, ?_⟩, ?_, ?_, ?_, ?_, ?_, ?_⟩
  · rw [hq3 p 0 p0 p1 (by omega) (by omega), hq3 p 1 p0 p1 (by omega) (by omega), hq3 p 2 p0 p1 (by omega) (by omega), hq3 p 3 p0 p1 (by omega) (by omega)]
    exact hQ p p0 p1
  · rw [f1]
    intro x x0 x1
    show 0 ≤ F' (223 + 7 * x + 0) ∧ F' (223 + 7 * x + 0) < 20 ∧ 0 ≤ F' (223 + 7 * x + 4) ∧ -5 ≤ F' (223 + 7 * x + 5) ∧ (0 < F' (223 + 7 * x + 4) → x < F' (223 + 7 * x + 5)) ∧ F' (223 + 7 * x + 5) + F' (223 + 7 * x + 4) ≤ F 1 + cn
    rw [fk x 0 x0 (by omega), fk x 4 x0 (by omega), fk x 5 x0 (by omega)]
    have := hSK.2.2.1 x x0 x1
    exact ⟨this.1, this.2.1, this.2.2.1, this.2.2.2.1, this.2.2.2.2.1, this.2.2.2.2.2.1⟩
  · intro x x0 x1
    show 0 ≤ F' (223 + 7 * x + 2) ∧ F' (223 + 7 * x + 2) ≤ 9999 ∧ 0 ≤ F' (223 + 7 * x + 3) ∧ F' (223 + 7 * x + 3) ≤ 9999
    rw [fA x 2 x0 (by omega) (by omega), fA x 3 x0 (by omega) (by omega)]
    exact okX_at a1 x0 x1
  · rw [f1]
    intro x x0 x1
    show 0 ≤ F' (223 + 7 * x + 0) ∧ F' (223 + 7 * x + 0) < 20 ∧ (x = 0 → F' (223 + 7 * x + 1) = -5) ∧ (0 < x → 0 ≤ F' (223 + 7 * x + 1) ∧ F' (223 + 7 * x + 1) < x)
    rw [fk x 0 x0 (by omega), fk x 1 x0 (by omega)]
    have := hSK.2.2.1 x x0 x1
    omega
  · intro x j x0 x1
    rw [f1] at x1
    rw [fk x 4 x0 (by omega), fk x 5 x0 (by omega)]
    intro j0 j1
    have := hSK.2.2.1 x x0 x1
    rw [fk j 1 (by omega) (by omega)]
    exact hSK.2.2.2 x j x0 x1 j0 j1
  · intro x x0 x1
    rw [f1] at x1
    have hx := (hSK.2.2.1 x (by omega) x1).2.2.2.2.2.2.2 x0
    rw [fk x 1 (by omega) (by omega), fk _ 5 hx.1 (by omega), fk _ 4 hx.1 (by omega)]
    by_cases ex : x < F 1
    · have h6 := (okP_at hP (n := x) (by omega) ex).2.2.2 x0
      have h8 := hpw x x0 ex
      rw [bo' x 1 (by omega) ex (by omega) (by omega) (by omega), bo' _ 5 h6.1 (by omega) (by omega) (by omega) (by omega), bo' _ 4 h6.1 (by omega) (by omega) (by omega) (by omega)]
      exact hE x x0 ex
    · rw [bn1 x (by omega) x1, bw4, bw5]
      omega
  · intro x x0 x1
    rw [f1] at x1
    have hx := hSK.2.2.1 x x0 x1
    refine CO_c (a4 x x0 x1) (fun k k0 k1 => fA x k x0 k0 k1) ?_ (fun i hi => ?_)
    · rw [ak x 0 (by omega), hq3 (B (223 + 7 * x + 0)) 0 hx.1 hx.2.1 (by omega) (by omega), al (3 + 5 * B (223 + 7 * x + 0) + 0) (by omega), bl (3 + 5 * B (223 + 7 * x + 0) + 0) (by omega) (by omega)]
    · rw [ak x 4 (by omega)] at hi
      rw [ak x 5 (by omega)]
      exact ⟨fA _ 2 (by omega) (by omega) (by omega), fA _ 3 (by omega) (by omega) (by omega)⟩
  · intro x x0 x1 h4
    rw [f1] at x1
    rw [fk x 4 x0 (by omega)] at h4
    have h5 := a2 x h4
    rw [fA x 2 x0 (by omega) (by omega), fA x 3 x0 (by omega) (by omega), h5.1, h5.2, fk x 0 x0 (by omega)]
    by_cases ex : x < F 1
    · have exw : ¬ x = w := fun q => by subst q; omega
      rw [bo' x 4 x0 ex (by omega) (by omega) (by omega)] at h4
      rw [bo' x 0 x0 ex (by omega) (by omega) (by omega), bo' x 2 x0 ex (by omega) (by omega) (by omega), bo' x 3 x0 ex (by omega) (by omega) (by omega)]
      exact hl x x0 ex h4
    · have ht := htg (x - F 1).toNat (by omega)
      rw [bn0 x (by omega) x1, bn x 2 (by omega) x1 (by omega) (by omega), bn x 3 (by omega) x1 (by omega) (by omega)]
      exact (nl_in hQ ht.1 ht.2).2
  · rw [f1, f2, h2, show (F 1 + cn).toNat = (F 1).toNat + cn.toNat by omega]
    have m1 := cs_more (f := fun j => bi (¬ nF F' 4 j = 0)) (k := (F 1).toNat) cn.toNat (fun j j0 j1 => by
      show bi (¬ F' (223 + 7 * (j : Int) + 4) = 0) = 0
      rw [fk _ 4 (by omega) (by omega), bn4 _ (by omega) (by omega)]
      exact bi_f (fun q => q rfl))
    have m2 := cs_one (f := fun j => bi (¬ nF F 4 j = 0)) (g := fun j => bi (¬ nF F' 4 j = 0)) (w := w.toNat) (d := 1) (k := (F 1).toNat) (by omega) (by
      show bi (¬ F' (223 + 7 * ((w.toNat : Nat) : Int) + 4) = 0) = bi (¬ F (223 + 7 * ((w.toNat : Nat) : Int) + 4) = 0) + 1
      rw [show ((w.toNat : Nat) : Int) = w by omega, fk _ 4 w0 (by omega), bw4, w4, bi_t (show ¬ cn = 0 by omega), bi_f (fun q => q rfl)]
      rfl) (fun j j0 j1 => by
      show bi (¬ F' (223 + 7 * (j : Int) + 4) = 0) = bi (¬ F (223 + 7 * (j : Int) + 4) = 0)
      rw [fk _ 4 (by omega) (by omega), bo' _ 4 (by omega) (by omega) (by omega) (by omega) (by omega)])
    rw [m1, m2]
end
section
/-! THE REFERENCE: leaves are opened -/
theorem lfF_in {F : Int → Int} (h : okR F) : ∀ (k : Nat) (n : Int), 0 ≤ n → n < F 1 → 0 ≤ lf (nxF F) (nF F 4) k n ∧ lf (nxF F) (nF F 4) k n < F 1 := by
  intro k
  induction k with
  | zero => exact fun n h0 h1 => ⟨h0, h1⟩
  | succ k ih =>
    intro n h0 h1
    rw [lf_s]
    by_cases e : nF F 4 n = 0
    · rw [if_pos e]
      exact ⟨h0, h1⟩
    · rw [if_neg e]
      have := nxF_in h h0 h1 e
      exact ih _ (by omega) this.2
/-- openings, one after the other, while one can be -/
def opL (L : List (Int × Int)) : Nat → (Int → Int) → (Int → Int) × Int
  | 0, F => (F, 0)
  | k + 1, F => if goF F L then ((opL L k (opF F L)).1, (opL L k (opF F L)).2 + 1) else (F, 0)
theorem opL_s (L : List (Int × Int)) (k : Nat) (F : Int → Int) : opL L (k + 1) F = if goF F L then ((opL L k (opF F L)).1, (opL L k (opF F L)).2 + 1) else (F, 0) := rfl
theorem op_1 {F : Int → Int} {L : List (Int × Int)} (h : WF F L) (h0 : 0 < F 1) (hg : goF F L) : opF F L 1 = F 1 + cF F L := by
  unfold opF
  show (if (1 : Int) = 2 then _ else _) = _
  rw [if_neg (by omega), wuF_l 200 _ _ (by omega)]
  exact if_pos rfl
section CM18
variable {E : EV} {l : Launch} {G : GG} {μ : MU} {m : Nat} {n p q r v a b k c : Int}
end CM18
end
section
/-! A STATE OF THE CLASS SHOWS AN ARRAY AND MOVES -/
def ShG (μ : MU) (g : Nat) (F : Int → Int) (L : List (Int × Int)) : Prop := CM μ g L ∧ ∀ p : Int, 0 ≤ p → p < 20 → μ (g + 2) p = F (3 + 5 * p + 0) ∧ μ (g + 4) p = F (3 + 5 * p + 1) ∧ μ (g + 6) p = F (3 + 5 * p + 2) ∧ μ (g + 8) p = F (3 + 5 * p + 3)
def ShT (μ : MU) (t : Nat) (F : Int → Int) : Prop := μ t 9 = F 1 ∧ okX (μ (t + 8)) (μ (t + 10)) ∧ ∀ n : Int, 0 ≤ n → n < F 1 → (μ (t + 2) n = F (223 + 7 * n + 0) ∧ μ (t + 4) n = F (223 + 7 * n + 1) ∧ μ (t + 8) n = F (223 + 7 * n + 2) ∧ μ (t + 10) n = F (223 + 7 * n + 3) ∧ μ (t + 12) n = F (223 + 7 * n + 4) ∧ μ (t + 14) n = F (223 + 7 * n + 5) ∧ μ (t + 16) n = F (223 + 7 * n + 6)) ∧ (n = 0 → μ (t + 6) n = 0) ∧ (0 < n → μ (t + 6) n = μ (t + 6) (F (223 + 7 * n + 1)) + 1)
def ShS (μ : MU) (s : Nat) (F : Int → Int) (L : List (Int × Int)) : Prop := ShG μ (s + 1) F L ∧ ShT μ (s + 14) F
theorem CM.at {μ ν : MU} {g : Nat} {L : List (Int × Int)} (h : CM μ g L) (e : ∀ b, g ≤ b → b ≤ g + 12 → ν b = μ b) : CM ν g L := by
  unfold CM at *
  rw [e (g + 10) (by omega) (by omega), e (g + 12) (by omega) (by omega), e g (by omega) (by omega)]
  exact h
theorem ShG.at {μ ν : MU} {g : Nat} {F : Int → Int} {L : List (Int × Int)} (h : ShG μ g F L) (e : ∀ b, g ≤ b → b ≤ g + 12 → ν b = μ b) : ShG ν g F L := by
  refine ⟨h.1.at e, ?_⟩
  rw [e (g + 2) (by omega) (by omega), e (g + 4) (by omega) (by omega), e (g + 6) (by omega) (by omega), e (g + 8) (by omega) (by omega)]
  exact h.2
theorem ShT.at {μ ν : MU} {t : Nat} {F : Int → Int} (h : ShT μ t F) (e : ∀ b, t ≤ b → b ≤ t + 16 → ν b = μ b) : ShT ν t F := by
  unfold ShT at *
  rw [e t (by omega) (by omega), e (t + 2) (by omega) (by omega), e (t + 4) (by omega) (by omega), e (t + 6) (by omega) (by omega), e (t + 8) (by omega) (by omega), e (t + 10) (by omega) (by omega), e (t + 12) (by omega) (by omega), e (t + 14) (by omega) (by omega), e (t + 16) (by omega) (by omega)]
  exact h
theorem ShS.at {μ ν : MU} {s : Nat} {F : Int → Int} {L : List (Int × Int)} (h : ShS μ s F L) (e : ∀ b, s ≤ b → b ≤ s + 30 → ν b = μ b) : ShS ν s F L :=
  ⟨h.1.at fun b b0 b1 => e b (by omega) (by omega), h.2.at fun b b0 b1 => e b (by omega) (by omega)⟩
/-- arrays that agree -/
def AGR (F F' : Int → Int) : Prop := ∀ j : Int, 0 ≤ j → j < 1624 → F' j = F j
theorem ShG.congr {μ : MU} {g : Nat} {F F' : Int → Int} {L : List (Int × Int)} (h : ShG μ g F L) (e : ∀ p k : Int, 0 ≤ p → p < 20 → 0 ≤ k → k < 4 → F' (3 + 5 * p + k) = F (3 + 5 * p + k)) : ShG μ g F' L := by
  refine ⟨h.1, fun p p0 p1 => ?_⟩
  rw [e p 0 p0 p1 (by omega) (by omega), e p 1 p0 p1 (by omega) (by omega), e p 2 p0 p1 (by omega) (by omega), e p 3 p0 p1 (by omega) (by omega)]
  exact h.2 p p0 p1
theorem ShS.congr {μ : MU} {s : Nat} {F F' : Int → Int} {L : List (Int × Int)} (h : ShS μ s F L) (h1 : F 1 ≤ 200) (e : AGR F F') : ShS μ s F' L := by
  refine ⟨h.1.congr fun p k a b c d => e _ (by omega) (by omega), ?_⟩
  obtain ⟨-, a, b, c⟩ := h
  unfold ShT
  rw [e 1 (by omega) (by omega)]
  refine ⟨a, b, fun n n0 n1 => ?_⟩
  rw [e _ (by omega) (by omega), e _ (by omega) (by omega), e _ (by omega) (by omega), e _ (by omega) (by omega), e _ (by omega) (by omega), e _ (by omega) (by omega), e _ (by omega) (by omega)]
  exact c n n0 n1
theorem WF.congr {F F' : Int → Int} {L : List (Int × Int)} (h : WF F L) (e : AGR F F') : WF F' L := by
  obtain ⟨hL, hF, ⟨hQ, hs0, hs1, hc, hX⟩, hP, hB, hE, hC, hl, h2⟩ := h
  have e1 : F' 1 = F 1 := e 1 (by omega) (by omega)
  have ek : ∀ x k, 0 ≤ x → x < 200 → 0 ≤ k → k < 7 → F' (223 + 7 * x + k) = F (223 + 7 * x + k) := fun x k a b c d => e _ (by omega) (by omega)
  refine ⟨hL, ⟨?_, hF.2.1, fun k hk => ?_⟩, ⟨fun p p0 p1 => ?_, by omega, by omega, ?_, ?_⟩, ?_, ?_, ?_, ?_, ?_, ?_⟩
  · rw [e 0 (by omega) (by omega)]; exact hF.1
  · have := hF.2.1
    rw [e _ (by omega) (by omega), e _ (by omega) (by omega)]
    exact hF.2.2 k hk
  · rw [e _ (by omega) (by omega), e _ (by omega) (by omega), e _ (by omega) (by omega), e _ (by omega) (by omega)]
    exact hQ p p0 p1
  · rw [e1]
    intro x x0 x1
    show 0 ≤ F' (223 + 7 * x + 0) ∧ F' (223 + 7 * x + 0) < 20 ∧ 0 ≤ F' (223 + 7 * x + 4) ∧ -5 ≤ F' (223 + 7 * x + 5) ∧ (0 < F' (223 + 7 * x + 4) → x < F' (223 + 7 * x + 5)) ∧ F' (223 + 7 * x + 5) + F' (223 + 7 * x + 4) ≤ F 1
    rw [ek x 0 x0 (by omega) (by omega) (by omega), ek x 4 x0 (by omega) (by omega) (by omega), ek x 5 x0 (by omega) (by omega) (by omega)]
    exact okC_at hc x0 x1
  · intro x x0 x1
    show 0 ≤ F' (223 + 7 * x + 2) ∧ F' (223 + 7 * x + 2) ≤ 9999 ∧ 0 ≤ F' (223 + 7 * x + 3) ∧ F' (223 + 7 * x + 3) ≤ 9999
    rw [ek x 2 x0 (by omega) (by omega) (by omega), ek x 3 x0 (by omega) (by omega) (by omega)]
    exact okX_at hX x0 x1
  · rw [e1]
    intro x x0 x1
    show 0 ≤ F' (223 + 7 * x + 0) ∧ F' (223 + 7 * x + 0) < 20 ∧ (x = 0 → F' (223 + 7 * x + 1) = -5) ∧ (0 < x → 0 ≤ F' (223 + 7 * x + 1) ∧ F' (223 + 7 * x + 1) < x)
    rw [ek x 0 x0 (by omega) (by omega) (by omega), ek x 1 x0 (by omega) (by omega) (by omega)]
    exact okP_at hP x0 x1
  · intro x j x0 x1
    rw [e1] at x1
    have hcx := okC_at hc x0 x1
    rw [ek x 4 x0 (by omega) (by omega) (by omega), ek x 5 x0 (by omega) (by omega) (by omega)]
    intro a b
    rw [ek j 1 (by omega) (by omega) (by omega) (by omega)]
    exact hB x j x0 x1 a b
  · intro x x0 x1
    rw [e1] at x1
    have hpx := (okP_at hP (n := x) (by omega) x1).2.2.2 x0
    rw [ek x 1 (by omega) (by omega) (by omega) (by omega), ek _ 5 hpx.1 (by omega) (by omega) (by omega), ek _ 4 hpx.1 (by omega) (by omega) (by omega)]
    exact hE x x0 x1
  · intro x x0 x1
    rw [e1] at x1
    have hcx := okC_at hc x0 x1
    exact CO_c (hC x x0 x1) (fun k k0 k1 => ek x k x0 (by omega) k0 k1) (e _ (by omega) (by omega)) (fun i hi => ⟨ek _ 2 (by omega) (by omega) (by omega) (by omega), ek _ 3 (by omega) (by omega) (by omega) (by omega)⟩)
  · intro x x0 x1
    rw [e1] at x1
    unfold LFc
    rw [ek x 0 x0 (by omega) (by omega) (by omega), ek x 2 x0 (by omega) (by omega) (by omega), ek x 3 x0 (by omega) (by omega) (by omega), ek x 4 x0 (by omega) (by omega) (by omega)]
    exact hl x x0 x1
  · rw [e1, e 2 (by omega) (by omega), h2]
    refine cs_c (fun j hj => ?_)
    show bi (¬ F (223 + 7 * (j : Int) + 4) = 0) = bi (¬ F' (223 + 7 * (j : Int) + 4) = 0)
    rw [ek _ 4 (by omega) (by omega) (by omega) (by omega)]
/-- copies show the same -/
theorem ShS.copy {μ μ' : MU} {s x : Nat} {F : Int → Int} {L : List (Int × Int)} (h : ShS μ x F L) (hW : WF F L) (c : cpS μ' s μ x) : ShS μ' s F L := by
  obtain ⟨⟨g1, g2⟩, t1, t2, t3⟩ := h
  obtain ⟨⟨c1, c2, c3⟩, c4, c5⟩ := c
  have h1 := hW.2.2.1.2.2.1
  refine ⟨⟨g1.kept hW.1 (fun j a b => (c1 j a b).2.2.2.2) c2 c3, fun p a b => ?_⟩, ?_, ?_, fun n a b => ?_⟩
  · have := c1 p a b
    rw [this.1, this.2.1, this.2.2.1, this.2.2.2.1]
    exact g2 p a b
  · rw [c5]; exact t1
  · intro j a b
    have := c4 j a b
    rw [this.2.2.2.1, this.2.2.2.2.1]
    exact t2 j a b
  · have hc := c4 n a (by omega)
    have hn := t3 n a b
    have hp := okP_at hW.2.2.2.1 a b
    refine ⟨?_, ?_, fun q => ?_⟩
    · rw [hc.1, hc.2.1, hc.2.2.2.1, hc.2.2.2.2.1, hc.2.2.2.2.2.1, hc.2.2.2.2.2.2.1, hc.2.2.2.2.2.2.2]
      exact hn.1
    · rw [hc.2.2.1]; exact hn.2.1
    · have hp2 := hp.2.2.2 q
      rw [hc.2.2.1, (c4 (F (223 + 7 * n + 1)) hp2.1 (by omega)).2.2.1]
      exact hn.2.2 q
/-- what the class's parts want -/
theorem ShG.okG {μ : MU} {g : Nat} {F : Int → Int} {L : List (Int × Int)} (h : ShG μ g F L) (hL : okL L) (hQ : okQ F) : okG μ g := by
  intro p a b
  have h1 := h.2 p a b
  have h2 := (h.1.1 p a b).1
  have h3 := hQ p a b
  have h4 := outs_le hL p
  omega
theorem ShS.okM {μ : MU} {s : Nat} {F : Int → Int} {L : List (Int × Int)} (h : ShS μ s F L) (hW : WF F L) : okM μ (s + 14) (s + 1) := by
  have hR := hW.2.2.1
  refine ⟨h.1.okG hW.1 hR.1, by rw [h.2.1]; exact hR.2.1, by rw [h.2.1]; exact hR.2.2.1, fun n a b => ?_, h.2.2.1⟩
  rw [h.2.1] at b
  have hn := (h.2.2.2 n a b).1
  rw [hn.1, hn.2.2.2.2.1, hn.2.2.2.2.2.1, h.2.1]
  exact okC_at hR.2.2.2.1 a b
theorem ShS.okP {μ : MU} {s : Nat} {F : Int → Int} {L : List (Int × Int)} (h : ShS μ s F L) (hW : WF F L) : okP (μ (s + 14 + 2)) (μ (s + 14 + 4)) (μ (s + 14) 9) := by
  intro n a b
  rw [h.2.1] at b
  have hn := (h.2.2.2 n a b).1
  rw [hn.1, hn.2.1]
  exact okP_at hW.2.2.2.1 a b
/-- the history shows n arrays -/
abbrev HF : Type := Nat → (Int → Int) × List (Int × Int)
def CHs (x : Nat) (μ : MU) (n : Nat) (h : HF) : Prop := okH μ (x + 63) ∧ n ≤ 4 ∧ μ (x + 63) 1 = (n : Int) ∧ ∀ i : Nat, i < n → ∃ s : Nat, μ (x + 63 + 1) (i : Int) = (s : Int) ∧ ShS μ s (h i).1 (h i).2 ∧ WF (h i).1 (h i).2
def MHs (m : Nat) (μ : MU) (n : Nat) (h : HF) : Prop := μ m 3 = (n : Int) ∧ n ≤ 4 ∧ ∀ i : Nat, i < n → ∀ j : Int, 0 ≤ j → j < 1624 → μ (m + 2) (1624 * (i : Int) + j) = (h i).1 j
def pn (n : Nat) : Nat := if n = 4 then 4 else n + 1
def ph (n : Nat) (h : HF) (F : Int → Int) (L : List (Int × Int)) : HF := fun i => if i < (if n = 4 then 3 else n) then h (if n = 4 then i + 1 else i) else (F, L)
theorem okH.at {μ ν : MU} {h : Nat} (k : okH μ h) (e : ν (h + 1) = μ (h + 1)) : okH ν h := by
  unfold okH at *
  rw [e]
  exact k
theorem CHs.at {μ ν : MU} {x n : Nat} {h : HF} (k : CHs x μ n h) (e : ∀ b, x + 63 ≤ b → b ≤ x + 188 → ν b = μ b) : CHs x ν n h := by
  obtain ⟨a, b, c, d⟩ := k
  refine ⟨a.at (e _ (by omega) (by omega)), b, by rw [e _ (by omega) (by omega)]; exact c, fun i hi => ?_⟩
  obtain ⟨s, s1, s2, s3⟩ := d i hi
  obtain ⟨q, q1, q2⟩ := a.1 i (by omega) (by omega)
  have hs : s = x + 63 + 2 + 31 * q := by omega
  exact ⟨s, by rw [e _ (by omega) (by omega)]; exact s1, s2.at (fun b b0 b1 => e b (by omega) (by omega)), s3⟩
/-- a state is remembered -/
theorem CHs.push {μ μ' : MU} {x n : Nat} {h : HF} {F : Int → Int} {L : List (Int × Int)} (k : CHs x μ n h) (hS : ShS μ (x + 1) F L) (hW : WF F L) (hp : ∃ d : Int, (μ (x + 63) 1 < 4 ∧ d = 0 ∨ μ (x + 63) 1 = 4 ∧ d = 1) ∧ okH μ' (x + 63) ∧ μ' (x + 63) 1 = μ (x + 63) 1 - d + 1 ∧ (∀ b, b < x + 63 ∨ x + 63 + 125 < b → μ' b = μ b) ∧ (∀ (i : Int) (s : Nat), 0 ≤ i → i < μ (x + 63) 1 - d → μ (x + 63 + 1) (i + d) = (s : Int) → μ' (x + 63 + 1) i = (s : Int) ∧ ∀ b, s ≤ b → b ≤ s + 30 → μ' b = μ b) ∧ ∃ s : Nat, μ' (x + 63 + 1) (μ (x + 63) 1 - d) = (s : Int) ∧ cpS μ' s μ (x + 1)) : CHs x μ' (pn n) (ph n h F L) ∧ ∀ b, b < x + 63 ∨ x + 188 < b → μ' b = μ b := by
  obtain ⟨d, d1, d2, d3, d4, d5, s, d6, d7⟩ := hp
  obtain ⟨k1, k2, k3, k4⟩ := k
  rw [k3] at d1 d3 d5 d6
  refine ⟨⟨d2, by unfold pn; split <;> omega, by unfold pn; split <;> omega, fun i hi => ?_⟩, fun b hb => d4 b (by omega)⟩
  unfold ph
  by_cases hi2 : (i : Int) < n - d
  · have e1 : i < (if n = 4 then 3 else n) := by split <;> omega
    rw [if_pos e1]
    have e2 : (((if n = 4 then i + 1 else i : Nat) : Nat) : Int) = (i : Int) + d := by split <;> omega
    obtain ⟨s', s1, s2, s3⟩ := k4 (if n = 4 then i + 1 else i) (by split <;> omega)
    rw [e2] at s1
    have := d5 i s' (by omega) hi2 s1
    exact ⟨s', this.1, s2.at this.2, s3⟩
  · have e1 : ¬ i < (if n = 4 then 3 else n) := by split <;> omega
    rw [if_neg e1]
    have e2 : (i : Int) = n - d := by unfold pn at hi; split at hi <;> omega
    exact ⟨s, by rw [e2]; exact d6, hS.copy hW d7, hW⟩
theorem MHs.push {μ μ' : MU} {m n : Nat} {h : HF} {L : List (Int × Int)} (k : MHs m μ n h) (hr : rcd m μ μ') : MHs m μ' (pn n) (ph n h (μ (m + 1)) L) := by
  obtain ⟨r1, r2, q, r3, r4, r5, r6⟩ := hr
  obtain ⟨k1, k2, k3⟩ := k
  rw [k1] at r3 r4 r5 r6
  have hq : (n = 4 ∧ q = 1) ∨ (¬ n = 4 ∧ q = 0) := by
    by_cases e : n = 4
    · rw [if_pos (by omega)] at r3; omega
    · rw [if_neg (by omega)] at r3; omega
  refine ⟨by unfold pn; split <;> omega, by unfold pn; split <;> omega, fun i hi j j0 j1 => ?_⟩
  unfold ph
  by_cases hi2 : (i : Int) < n - q
  · have e1 : i < (if n = 4 then 3 else n) := by split <;> omega
    rw [if_pos e1, r5 _ (by omega) (by omega), ← k3 (if n = 4 then i + 1 else i) (by split <;> omega) j j0 j1]
    have e2 : (((if n = 4 then i + 1 else i : Nat) : Nat) : Int) = (i : Int) + q := by split <;> omega
    rw [e2]
    exact congrArg (μ (m + 2)) (by omega)
  · have e1 : ¬ i < (if n = 4 then 3 else n) := by split <;> omega
    have e2 : (i : Int) = n - q := by unfold pn at hi; split at hi <;> omega
    rw [if_neg e1, e2]
    exact r6 j j0 j1
end
section
/-! THE CLASS'S FUNCTIONS ARE THE REFERENCE'S -/
section SAME
variable {μ : MU} {s : Nat} {F : Int → Int} {L : List (Int × Int)} {n : Int}
theorem nx_eq (h : ShS μ s F L) (hW : WF F L) (h0 : 0 ≤ n) (h1 : n < F 1) : nxM (s + 14) (s + 1) μ n = nxF F n := by
  have hn := (h.2.2.2 n h0 h1).1
  have hc := okC_at hW.2.2.1.2.2.2.1 h0 h1
  have hp := h.1.2 (F (223 + 7 * n + 0)) hc.1 hc.2.1
  unfold nxM nxF
  rw [hn.1, hp.1, hn.2.2.2.2.1, hn.2.2.2.2.2.1]
  refine am_c (fun i hi => ?_)
  have hx := (h.2.2.2 (F (223 + 7 * n + 5) + i) (by omega) (by omega)).1
  by_cases e : F (3 + 5 * F (223 + 7 * n + 0) + 0) = 0
  · rw [if_pos e, if_pos e]
    exact hx.2.2.1
  · rw [if_neg e, if_neg e]
    exact hx.2.2.2.1
theorem cc_eq (h : ShS μ s F L) (h0 : 0 ≤ n) (h1 : n < F 1) : μ (s + 14 + 12) n = nF F 4 n := (h.2.2.2 n h0 h1).1.2.2.2.2.1
theorem fc_eq (h : ShS μ s F L) (h0 : 0 ≤ n) (h1 : n < F 1) : μ (s + 14 + 14) n = nF F 5 n := (h.2.2.2 n h0 h1).1.2.2.2.2.2.1
theorem tu_eq (h : ShS μ s F L) (hW : WF F L) (h0 : 0 ≤ n) (h1 : n < F 1) : tuM (s + 14) (s + 1) μ n = tuF F n := by
  have hn := (h.2.2.2 n h0 h1).1
  have hc := okC_at hW.2.2.1.2.2.2.1 h0 h1
  unfold tuM
  rw [hn.1]
  exact (h.1.2 (F (223 + 7 * n + 0)) hc.1 hc.2.1).1
theorem lf_eq (h : ShS μ s F L) (hW : WF F L) : ∀ (k : Nat) (n : Int), 0 ≤ n → n < F 1 → lf (nxM (s + 14) (s + 1) μ) (μ (s + 14 + 12)) k n = lf (nxF F) (nF F 4) k n := by
  intro k
  induction k with
  | zero => exact fun _ _ _ => rfl
  | succ k ih =>
    intro n h0 h1
    rw [lf_s, lf_s, cc_eq h h0 h1]
    by_cases e : nF F 4 n = 0
    · rw [if_pos e, if_pos e]
    · have := nxF_in hW.2.2.1 h0 h1 e
      rw [if_neg e, if_neg e, nx_eq h hW h0 h1]
      exact ih _ (by omega) this.2
theorem wy_eq (h : ShS μ s F L) (hW : WF F L) : ∀ (k : Nat) (n : Int), 0 ≤ n → n < F 1 → wy (nxM (s + 14) (s + 1) μ) (μ (s + 14 + 12)) k n = wy (nxF F) (nF F 4) k n := by
  intro k
  induction k with
  | zero => exact fun _ _ _ => rfl
  | succ k ih =>
    intro n h0 h1
    rw [wy_s, wy_s, cc_eq h h0 h1]
    by_cases e : nF F 4 n = 0
    · rw [if_pos e, if_pos e]
    · have := nxF_in hW.2.2.1 h0 h1 e
      rw [if_neg e, if_neg e, nx_eq h hW h0 h1]
      exact ih _ (by omega) this.2
/-- no way is as long -/
theorem wy_far (hR : okR F) : ∀ (k : Nat) (n : Int), 0 ≤ n → n < F 1 → F 1 - n ≤ k → wy (nxF F) (nF F 4) k n = -5 := by
  intro k
  induction k with
  | zero => intro n h0 h1 h2; omega
  | succ k ih =>
    intro n h0 h1 h2
    rw [wy_s]
    by_cases e : nF F 4 n = 0
    · rw [if_pos e]
    · have := nxF_in hR h0 h1 e
      rw [if_neg e]
      exact ih _ (by omega) this.2 (by omega)
theorem dep_eq (h : ShS μ s F L) (hW : WF F L) : ∀ (k : Nat) (n : Int), 0 ≤ n → n < F 1 → n < k → dpt (nF F 1) k n = μ (s + 14 + 6) n := by
  intro k
  induction k with
  | zero => intro n h0 h1 h2; omega
  | succ k ih =>
    intro n h0 h1 h2
    have hn := (h.2.2.2 n h0 h1).2
    have hp := okP_at hW.2.2.2.1 h0 h1
    rw [dpt_s]
    by_cases e : n = 0
    · rw [if_pos (by show F (223 + 7 * n + 1) < 0; rw [hp.2.2.1 e]; omega), hn.1 e]
    · have hp2 := hp.2.2.2 (by omega)
      rw [if_neg (by show ¬ F (223 + 7 * n + 1) < 0; omega), hn.2 (by omega), ih (nF F 1 n) hp2.1 (by show F (223 + 7 * n + 1) < F 1; omega) (by show F (223 + 7 * n + 1) < k; omega)]
theorem mxc_c {f g : Int → Int} : ∀ {k : Nat}, (∀ j : Nat, j < k → f j = g j) → mxc f k = mxc g k
  | 0, _ => rfl
  | k + 1, h => by rw [mxc_s, mxc_s, mxc_c (fun j hj => h j (by omega)), h k (by omega)]
theorem wb_c {tn cn tn' cn' : Int → Int} {tg tg' : Int → Int → Int} {s s' : Int → Bool} {p : Int} (h1 : tn p = tn' p) (h2 : cn p = cn' p) (h : ∀ i : Nat, i < (cn' p).toNat → s (tg p i) = s' (tg' p i)) : wb tn cn tg s p = wb tn' cn' tg' s' p := by
  unfold wb
  rw [h1, h2, cs_congr (f := fun i => bi (s (tg p i) = true)) (f' := fun i => bi (s' (tg' p i) = true)) (fun j hj => by show bi (s (tg p j) = true) = bi (s' (tg' p j) = true); rw [h j hj])]
theorem rd_eq (h : ShS μ s F L) (hW : WF F L) : ∀ (k : Nat) (p : Int), 0 ≤ p → p < 20 → wkM μ (s + 1) k p = wkL F L k p ∧ rdM μ (s + 1) k p = rdL F L k p := by
  intro k
  induction k with
  | zero =>
    intro p p0 p1
    have hp := h.1.2 p p0 p1
    have e : wkM μ (s + 1) 0 p = wkL F L 0 p := by
      show decide (μ (s + 1 + 4) p = 1) = decide (F (3 + 5 * p + 1) = 1)
      rw [hp.2.1]
    refine ⟨e, ?_⟩
    show (if wkM μ (s + 1) 0 p = true then (0 : Int) else -5) = if wkL F L 0 p = true then (0 : Int) else -5
    rw [e]
  | succ k ih =>
    intro p p0 p1
    have hp := h.1.2 p p0 p1
    have hi := ih p p0 p1
    have hc := h.1.1.1 p p0 p1
    have e : wkM μ (s + 1) (k + 1) p = wkL F L (k + 1) p := by
      rw [wkM, wkL, wk_s, wk_s]
      rw [show wk (μ (s + 1 + 2)) (μ (s + 1 + 4)) (μ (s + 1 + 10)) (gtM μ (s + 1)) k p = wk (tnF F) (mkF F) (cnL L) (tgL L) k p from hi.1]
      rw [wb_c (tn' := tnF F) (cn' := cnL L) (tg' := tgL L) (s' := wk (tnF F) (mkF F) (cnL L) (tgL L) k) hp.1 hc.1 (fun i hi => ?_)]
      · rw [show (decide (¬ μ (s + 1 + 4) p = 0 ∨ μ (s + 1 + 10) p = 0)) = decide (¬ mkF F p = 0 ∨ cnL L p = 0) from decide_eq_decide.mpr (by rw [hp.2.1, hc.1])]
      · have hi' : i < (outs L p).length := by
          have : (cnL L p).toNat = (outs L p).length := Int.toNat_natCast _
          omega
        have ht := tgL_in hW.1 p i hi
        have e3 : gtM μ (s + 1) p i = tgL L p i := by
          show μ (s + 1 + 12) (p * 20 + i) = (outs L p).getD (i : Int).toNat 0
          rw [Int.toNat_natCast]
          exact hc.2 i hi'
        rw [e3]
        exact (ih _ ht.1 ht.2).1
    refine ⟨e, ?_⟩
    rw [rdM, rdL, rdk_s, rdk_s]
    rw [show rdk (μ (s + 1 + 2)) (μ (s + 1 + 4)) (μ (s + 1 + 10)) (gtM μ (s + 1)) k p = rdk (tnF F) (mkF F) (cnL L) (tgL L) k p from hi.2, show wk (μ (s + 1 + 2)) (μ (s + 1 + 4)) (μ (s + 1 + 10)) (gtM μ (s + 1)) (k + 1) p = wk (tnF F) (mkF F) (cnL L) (tgL L) (k + 1) p from e]
/-- who is in the proof -/
theorem mb_eq (h : ShS μ s F L) (hW : WF F L) (win : Int) : ∀ (k : Nat), (k : Int) ≤ F 1 → ∀ j : Int, 0 ≤ j → j < F 1 → (mb (nxM (s + 14) (s + 1) μ) (tuM (s + 14) (s + 1) μ) (μ (s + 14 + 12)) (μ (s + 14 + 14)) win k j = 1 ↔ (j = 0 ∨ (0 < j ∧ F (223 + 7 * j + 1) < k ∧ mbR (nF F 1) (nxF F) (tuF F) win 200 (F (223 + 7 * j + 1)) = true ∧ (¬ tuF F (F (223 + 7 * j + 1)) = win ∨ nxF F (F (223 + 7 * j + 1)) = j)))) := by
  have hs1 := hW.2.2.1.2.2.1
  have hpar : ∀ n, 0 ≤ n → n < F 1 → (n = 0 → nF F 1 n = -5) ∧ (0 < n → 0 ≤ nF F 1 n ∧ nF F 1 n < n) := fun n a b => (hW.2.2.2.1 n a b).2.2
  have hmb : ∀ j, 0 ≤ j → j < F 1 → (mbR (nF F 1) (nxF F) (tuF F) win 200 j = true ↔ (j = 0 ∨ (0 < j ∧ mbR (nF F 1) (nxF F) (tuF F) win 200 (F (223 + 7 * j + 1)) = true ∧ (¬ tuF F (F (223 + 7 * j + 1)) = win ∨ nxF F (F (223 + 7 * j + 1)) = j)))) := by
    intro j j0 j1
    have hj := hpar j j0 j1
    rw [mbR_s (nF F 1) (nxF F) (tuF F) win 199 j]
    by_cases e : j = 0
    · rw [if_pos (hj.1 e)]
      exact ⟨fun _ => Or.inl e, fun _ => rfl⟩
    · have hj2 := hj.2 (by omega)
      rw [if_neg (by omega), ← mbR_st hpar 199 (nF F 1 j) hj2.1 (by omega) (by omega)]
      show (mbR (nF F 1) (nxF F) (tuF F) win 200 (F (223 + 7 * j + 1)) && (decide (¬ tuF F (F (223 + 7 * j + 1)) = win) || decide (nxF F (F (223 + 7 * j + 1)) = j))) = true ↔ _
      rw [Bool.and_eq_true, Bool.or_eq_true, decide_eq_true_iff, decide_eq_true_iff]
      exact ⟨fun q => Or.inr ⟨by omega, q.1, q.2⟩, fun q => by
        rcases q with q | q
        · exact absurd q e
        · exact q.2⟩
  intro k
  induction k with
  | zero =>
    intro _ j j0 j1
    show (if j = 0 then (1 : Int) else 0) = 1 ↔ _
    by_cases e : j = 0
    · rw [if_pos e]
      exact ⟨fun _ => Or.inl e, fun _ => rfl⟩
    · rw [if_neg e]
      have hj2 := (hpar j j0 j1).2 (by omega)
      exact ⟨fun q => absurd q (by decide), fun q => by
        rcases q with q | q
        · exact absurd q e
        · have : F (223 + 7 * j + 1) < ((0 : Nat) : Int) := q.2.1
          have : 0 ≤ F (223 + 7 * j + 1) := hj2.1
          omega⟩
  | succ k ih =>
    intro hk j j0 j1
    have ihk := ih (by omega)
    have hkk := ihk (k : Int) (by omega) (by omega)
    have hmk := hmb (k : Int) (by omega) (by omega)
    have hck := okC_at hW.2.2.1.2.2.2.1 (n := (k : Int)) (by omega) (by omega)
    have hjj := ihk j j0 j1
    have hpj := hpar j j0 j1
    have hin : mb (nxM (s + 14) (s + 1) μ) (tuM (s + 14) (s + 1) μ) (μ (s + 14 + 12)) (μ (s + 14 + 14)) win k k = 1 ↔ mbR (nF F 1) (nxF F) (tuF F) win 200 k = true := by
      rw [hkk, hmk]
      refine ⟨fun q => ?_, fun q => ?_⟩
      · rcases q with q | q
        · exact Or.inl q
        · exact Or.inr ⟨q.1, q.2.2⟩
      · rcases q with q | q
        · exact Or.inl q
        · exact Or.inr ⟨q.1, ((hpar (k : Int) (by omega) (by omega)).2 q.1).2, q.2⟩
    rw [mb_s]
    -- with the parent before k nothing changes
    have old : ¬ F (223 + 7 * j + 1) = k → (j = 0 ∨ (0 < j ∧ F (223 + 7 * j + 1) < ((k + 1 : Nat) : Int) ∧ mbR (nF F 1) (nxF F) (tuF F) win 200 (F (223 + 7 * j + 1)) = true ∧ (¬ tuF F (F (223 + 7 * j + 1)) = win ∨ nxF F (F (223 + 7 * j + 1)) = j))) = (j = 0 ∨ (0 < j ∧ F (223 + 7 * j + 1) < (k : Int) ∧ mbR (nF F 1) (nxF F) (tuF F) win 200 (F (223 + 7 * j + 1)) = true ∧ (¬ tuF F (F (223 + 7 * j + 1)) = win ∨ nxF F (F (223 + 7 * j + 1)) = j))) := fun q => by
      rw [show (F (223 + 7 * j + 1) < ((k + 1 : Nat) : Int)) = (F (223 + 7 * j + 1) < (k : Int)) from propext (by omega)]
    have ch : 0 < j → (F (223 + 7 * j + 1) = k ↔ (F (223 + 7 * (k : Int) + 5) ≤ j ∧ j < F (223 + 7 * (k : Int) + 5) + F (223 + 7 * (k : Int) + 4))) := fun q => ⟨fun e => by have := hW.2.2.2.2.2.1 j q j1; rw [e] at this; exact this, fun e => hW.2.2.2.2.1 k j (by omega) (by omega) e.1 e.2⟩
    by_cases hm : mb (nxM (s + 14) (s + 1) μ) (tuM (s + 14) (s + 1) μ) (μ (s + 14 + 12)) (μ (s + 14 + 14)) win k k = 1
    · rw [if_pos hm]
      have hmR := hin.mp hm
      unfold tk
      rw [cc_eq h (by omega) (by omega), fc_eq h (by omega) (by omega), tu_eq h hW (by omega) (by omega), nx_eq h hW (by omega) (by omega)]
      by_cases e4 : nF F 4 k = 0
      · have e4' : F (223 + 7 * (k : Int) + 4) = 0 := e4
        rw [if_pos e4, hjj]
        by_cases ep : F (223 + 7 * j + 1) = k
        · by_cases ej : j = 0
          · exact ⟨fun _ => Or.inl ej, fun _ => Or.inl ej⟩
          · have := (ch (by omega)).mp ep
            omega
        · rw [old ep]
      · have e4' : ¬ F (223 + 7 * (k : Int) + 4) = 0 := e4
        rw [if_neg e4]
        have hnx := nxF_ch hW.2.2.1 (n := (k : Int)) (by omega) (by omega) e4'
        by_cases e5 : tuF F k = win
        · rw [if_pos e5]
          by_cases e6 : j = nxF F k
          · have ep : F (223 + 7 * j + 1) = k := (ch (by omega)).mpr (by omega)
            rw [if_pos e6, ep]
            exact ⟨fun _ => Or.inr ⟨by omega, by omega, hmR, Or.inr e6.symm⟩, fun _ => rfl⟩
          · rw [if_neg e6, hjj]
            by_cases ep : F (223 + 7 * j + 1) = k
            · rw [ep]
              refine ⟨fun q => ?_, fun q => ?_⟩
              · rcases q with q | q
                · exact Or.inl q
                · have := q.2.1; omega
              · rcases q with q | q
                · exact Or.inl q
                · rcases q.2.2.2 with q | q
                  · exact absurd e5 q
                  · exact absurd q.symm e6
            · rw [old ep]
        · rw [if_neg e5]
          by_cases e6 : nF F 5 k ≤ j ∧ j < nF F 5 k + nF F 4 k
          · have e6' : F (223 + 7 * (k : Int) + 5) ≤ j ∧ j < F (223 + 7 * (k : Int) + 5) + F (223 + 7 * (k : Int) + 4) := e6
            have ep : F (223 + 7 * j + 1) = k := (ch (by omega)).mpr e6'
            rw [if_pos e6, ep]
            exact ⟨fun _ => Or.inr ⟨by omega, by omega, hmR, Or.inl e5⟩, fun _ => rfl⟩
          · have e6' : ¬ (F (223 + 7 * (k : Int) + 5) ≤ j ∧ j < F (223 + 7 * (k : Int) + 5) + F (223 + 7 * (k : Int) + 4)) := e6
            rw [if_neg e6, hjj]
            by_cases ep : F (223 + 7 * j + 1) = k
            · by_cases ej : j = 0
              · exact ⟨fun _ => Or.inl ej, fun _ => Or.inl ej⟩
              · exact absurd ((ch (by omega)).mp ep) e6'
            · rw [old ep]
    · rw [if_neg hm, hjj]
      by_cases ep : F (223 + 7 * j + 1) = k
      · rw [ep]
        refine ⟨fun q => ?_, fun q => ?_⟩
        · rcases q with q | q
          · exact Or.inl q
          · have := q.2.1; omega
        · rcases q with q | q
          · exact Or.inl q
          · exact absurd (hin.mpr q.2.2.1) hm
      · rw [old ep]
theorem mbs_eq (h : ShS μ s F L) (hW : WF F L) (win : Int) {j : Int} (j0 : 0 ≤ j) (j1 : j < F 1) : mb (nxM (s + 14) (s + 1) μ) (tuM (s + 14) (s + 1) μ) (μ (s + 14 + 12)) (μ (s + 14 + 14)) win j.toNat j = 1 ↔ mbR (nF F 1) (nxF F) (tuF F) win 200 j = true := by
  have hs1 := hW.2.2.1.2.2.1
  have hpar : ∀ n, 0 ≤ n → n < F 1 → (n = 0 → nF F 1 n = -5) ∧ (0 < n → 0 ≤ nF F 1 n ∧ nF F 1 n < n) := fun n a b => (hW.2.2.2.1 n a b).2.2
  have hj := hpar j j0 j1
  rw [mb_eq h hW win j.toNat (by omega) j j0 j1, mbR_s (nF F 1) (nxF F) (tuF F) win 199 j]
  by_cases e : j = 0
  · rw [if_pos (hj.1 e)]
    exact ⟨fun _ => rfl, fun _ => Or.inl e⟩
  · have hj2 := hj.2 (by omega)
    rw [if_neg (by omega), ← mbR_st hpar 199 (nF F 1 j) hj2.1 (by omega) (by omega)]
    show _ ↔ (mbR (nF F 1) (nxF F) (tuF F) win 200 (F (223 + 7 * j + 1)) && (decide (¬ tuF F (F (223 + 7 * j + 1)) = win) || decide (nxF F (F (223 + 7 * j + 1)) = j))) = true
    rw [Bool.and_eq_true, Bool.or_eq_true, decide_eq_true_iff, decide_eq_true_iff]
    refine ⟨fun q => ?_, fun q => Or.inr ⟨by omega, ?_, q.1, q.2⟩⟩
    · rcases q with q | q
      · exact absurd q e
      · exact q.2.2
    · have : F (223 + 7 * j + 1) < j := hj2.2
      omega
end SAME
end
section
/-! THE CLASS ITSELF: what is told -/
def isCheap (G : GG) (x : Nat) : Prop := obj G x (.inl (9, [some (some (x + 1)), some (some (x + 32)), none, some (some (x + 63)), some (some (x + 189)), some (some (x + 191)), some (some (x + 205)), some (some (x + 208))])) ∧ isState G (x + 1) ∧ isState G (x + 32) ∧ isHist G (x + 63) ∧ isText G (x + 189) ∧ isReader G (x + 191) (x + 189) ∧ isRounds G (x + 205) ∧ isProof G (x + 208)
/-- what position tells -/
def psF (F : Int → Int) (L : List (Int × Int)) (p k : Int) : Int := if 0 ≤ p ∧ p ≤ 19 then (if k = 4 then ((outs L p).length : Int) else if k = 5 then bi (¬ F (3 + 5 * p + 1) = 0 ∨ (outs L p).length = 0) else if k = 6 then bi (¬ rdL F L 20 p = -5) else if k = 7 then rdL F L 20 p else if 0 ≤ k ∧ k ≤ 3 then F (3 + 5 * p + k) else -2) else -1
def mvF (L : List (Int × Int)) (p r : Int) : Int := if 0 ≤ p ∧ p ≤ 19 then (if r < 0 then -2 else if r < ((outs L p).length : Int) then (outs L p).getD r.toNat 0 else -5) else -1
def ndF (F : Int → Int) (n k : Int) : Int := if 0 ≤ n ∧ n ≤ F 1 - 1 then (if k = 6 then dpt (nF F 1) 200 n else if 0 ≤ k ∧ k ≤ 7 then F (223 + 7 * n + (if k = 7 then 6 else k)) else -2) else -1
def wyF (F : Int → Int) (r : Int) : Int := if r < 0 then -2 else if F 1 = 0 ∨ (F 225 = 0 ∨ F 226 = 0) then -5 else wy (nxF F) (nF F 4) r.toNat 0
section CCT
variable {E : EV} {l : Launch} {G : GG} {μ : MU} {x : Nat} {n p q r v a b k : Int} {F : Int → Int} {L : List (Int × Int)}
theorem c_Cp_isPosition (h0 : inR v) : KS E l 0 m_Cp_isPosition [rI v] G μ 0 0 (dq (some (rI (bi (0 ≤ v ∧ v ≤ 19)))) G μ) := by
  refine ⟨KC.ofP q_Cp_isPosition.1 rfl (Nat.le_of_ble_eq_true rfl) rfl (fun Post NT ST hP => ?_), q_Cp_isPosition, by decide⟩
  refine V.iload_n (n := 1) d_Cp_isPosition_0 rfl rfl ?_
  refine V.if_lt (n2 := 14) (n := 4) d_Cp_isPosition_1 (by omega) (by decide) rfl (fun h => ?_) (fun h => ?_)
  · rw [bi_f (by omega)] at hP
    refine V.iconst (n := 15) d_Cp_isPosition_14 rfl ?_
    refine V.iret d_Cp_isPosition_15 ⟨_, rfl, rfl⟩ ?_
    exact hP _ _ ⟨rfl, rfl, rfl⟩
  · refine V.iload_n (n := 5) d_Cp_isPosition_4 rfl rfl ?_
    refine V.bipush (n := 7) d_Cp_isPosition_5 (by decide) rfl ?_
    refine V.icmp_ge (n2 := 14) (n := 10) d_Cp_isPosition_7 (by omega) (by omega) (by decide) rfl (fun h2 => ?_) (fun h2 => ?_)
    · rw [bi_f (by omega)] at hP
      refine V.iconst (n := 15) d_Cp_isPosition_14 rfl ?_
      refine V.iret d_Cp_isPosition_15 ⟨_, rfl, rfl⟩ ?_
      exact hP _ _ ⟨rfl, rfl, rfl⟩
    · rw [bi_t (by omega)] at hP
      refine V.iconst (n := 11) d_Cp_isPosition_10 rfl ?_
      refine V.goto (n := 15) d_Cp_isPosition_11 (by decide) ?_
      refine V.iret d_Cp_isPosition_15 ⟨_, rfl, rfl⟩ ?_
      exact hP _ _ ⟨rfl, rfl, rfl⟩
theorem c_Cp_isGuess (h0 : inR v) : KS E l 0 m_Cp_isGuess [rI v] G μ 0 0 (dq (some (rI (bi (1 ≤ v ∧ v ≤ 9)))) G μ) := by
  refine ⟨KC.ofP q_Cp_isGuess.1 rfl (Nat.le_of_ble_eq_true rfl) rfl (fun Post NT ST hP => ?_), q_Cp_isGuess, by decide⟩
  refine V.iload_n (n := 1) d_Cp_isGuess_0 rfl rfl ?_
  refine V.iconst (n := 2) d_Cp_isGuess_1 rfl ?_
  refine V.icmp_lt (n2 := 15) (n := 5) d_Cp_isGuess_2 (by omega) (by omega) (by decide) rfl (fun h => ?_) (fun h => ?_)
  · rw [bi_f (by omega)] at hP
    refine V.iconst (n := 16) d_Cp_isGuess_15 rfl ?_
    refine V.iret d_Cp_isGuess_16 ⟨_, rfl, rfl⟩ ?_
    exact hP _ _ ⟨rfl, rfl, rfl⟩
  · refine V.iload_n (n := 6) d_Cp_isGuess_5 rfl rfl ?_
    refine V.bipush (n := 8) d_Cp_isGuess_6 (by decide) rfl ?_
    refine V.icmp_gt (n2 := 15) (n := 11) d_Cp_isGuess_8 (by omega) (by omega) (by decide) rfl (fun h2 => ?_) (fun h2 => ?_)
    · rw [bi_f (by omega)] at hP
      refine V.iconst (n := 16) d_Cp_isGuess_15 rfl ?_
      refine V.iret d_Cp_isGuess_16 ⟨_, rfl, rfl⟩ ?_
      exact hP _ _ ⟨rfl, rfl, rfl⟩
    · rw [bi_t (by omega)] at hP
      refine V.iconst (n := 12) d_Cp_isGuess_11 rfl ?_
      refine V.goto (n := 16) d_Cp_isGuess_12 (by decide) ?_
      refine V.iret d_Cp_isGuess_16 ⟨_, rfl, rfl⟩ ?_
      exact hP _ _ ⟨rfl, rfl, rfl⟩
theorem c_Cp_position (hX : isCheap G x) (hS : ShS μ (x + 1) F L) (hW : WF F L) (hp : inR p) (hk : inR k) : KV E l 5 m_Cp_position x [rI p, rI k] G μ 0 0 (dqi (fun z μ' => (∀ b, ¬ b = x + 207 → μ' b = μ b) ∧ z = psF F L p k) G) := by
  obtain ⟨x0, x1, x2, x3, x4, x5, x6, x7⟩ := hX
  obtain ⟨s0, s1, s2⟩ := x1
  obtain ⟨g0, g1, g2, g3, g4, g5, g6⟩ := id s1
  refine ⟨KC.ofP q_Cp_position.1 rfl (Nat.le_of_ble_eq_true rfl) rfl (fun Post NT ST hP => ?_), ⟨_, _, _, x0, rfl, rfl⟩, q_Cp_position, by decide⟩
  refine V.iload_n (n := 1) d_Cp_position_0 rfl rfl ?_
  refine V.cSi (n := 4) d_Cp_position_1 k_Cp_60 (c_Cp_isPosition (by omega)) rfl rfl rfl (by decide) rfl ?_
  unfold psF at hP
  rcases bi_or (0 ≤ p ∧ p ≤ 19) with ⟨c1, e⟩ | ⟨c1, e⟩ <;> rw [e]
  · simp only [if_pos c1] at hP
    have hp20 : p < 20 := by omega
    have hG := hS.1.2 p c1.1 hp20
    have hC := hS.1.1.1 p c1.1 hp20
    have hQ := hW.2.2.1.1 p c1.1 hp20
    have hle := outs_le hW.1 p
    have hg := hS.1.okG hW.1 hW.2.2.1.1
    have ht := hS.1.1.okT hW.1
    have hr := rd_eq hS hW 20 p c1.1 hp20
    have hri := rdM_in μ (x + 1 + 1) 20 p
    refine V.if_neT (n2 := 9) d_Cp_position_4 (by omega) (by omega) (by decide) ?_
    refine V.aload_n (n := 10) d_Cp_position_9 rfl rfl ?_
    refine V.getA (n := 13) d_Cp_position_10 f_Cp_10 (by assumption) rfl rfl ?_
    refine V.getA (n := 16) d_Cp_position_13 f_Cp_64 (by assumption) rfl rfl ?_
    refine V.astore_n (n := 17) d_Cp_position_16 (by decide) rfl ?_
    refine V.iload_n (n := 18) d_Cp_position_17 rfl rfl ?_
    by_cases k0 : k = 0
    · subst k0
      refine V.switchIn (n := 64) d_Cp_position_18 (by omega) (by omega) (by omega) rfl (by decide) ?_
      refine V.aload_n (n := 65) d_Cp_position_64 rfl rfl ?_
      refine V.getA (n := 68) d_Cp_position_65 f_Cp_80 (by assumption) rfl rfl ?_
      refine V.iload_n (n := 69) d_Cp_position_68 rfl rfl ?_
      refine V.cVi (n := 72) d_Cp_position_69 k_Cp_74 (c_Rw_get (by assumption) (by omega) (by omega)) rfl rfl (by decide) rfl ?_
      refine V.iret d_Cp_position_72 ⟨_, rfl, rfl⟩ ?_
      exact hP _ _ ⟨_, rfl, rfl, fun _ _ => rfl, hG.1⟩
    by_cases k1 : k = 1
    · subst k1
      refine V.switchIn (n := 73) d_Cp_position_18 (by omega) (by omega) (by omega) rfl (by decide) ?_
      refine V.aload_n (n := 74) d_Cp_position_73 rfl rfl ?_
      refine V.getA (n := 77) d_Cp_position_74 f_Cp_68 (by assumption) rfl rfl ?_
      refine V.iload_n (n := 78) d_Cp_position_77 rfl rfl ?_
      refine V.cVi (n := 81) d_Cp_position_78 k_Cp_74 (c_Rw_get (by assumption) (by omega) (by omega)) rfl rfl (by decide) rfl ?_
      refine V.iret d_Cp_position_81 ⟨_, rfl, rfl⟩ ?_
      exact hP _ _ ⟨_, rfl, rfl, fun _ _ => rfl, hG.2.1⟩
    by_cases k2 : k = 2
    · subst k2
      refine V.switchIn (n := 82) d_Cp_position_18 (by omega) (by omega) (by omega) rfl (by decide) ?_
      refine V.aload_n (n := 83) d_Cp_position_82 rfl rfl ?_
      refine V.getA (n := 86) d_Cp_position_83 f_Cp_103 (by assumption) rfl rfl ?_
      refine V.iload_n (n := 87) d_Cp_position_86 rfl rfl ?_
      refine V.cVi (n := 90) d_Cp_position_87 k_Cp_74 (c_Rw_get (by assumption) (by omega) (by omega)) rfl rfl (by decide) rfl ?_
      refine V.iret d_Cp_position_90 ⟨_, rfl, rfl⟩ ?_
      exact hP _ _ ⟨_, rfl, rfl, fun _ _ => rfl, hG.2.2.1⟩
    by_cases k3 : k = 3
    · subst k3
      refine V.switchIn (n := 91) d_Cp_position_18 (by omega) (by omega) (by omega) rfl (by decide) ?_
      refine V.aload_n (n := 92) d_Cp_position_91 rfl rfl ?_
      refine V.getA (n := 95) d_Cp_position_92 f_Cp_106 (by assumption) rfl rfl ?_
      refine V.iload_n (n := 96) d_Cp_position_95 rfl rfl ?_
      refine V.cVi (n := 99) d_Cp_position_96 k_Cp_74 (c_Rw_get (by assumption) (by omega) (by omega)) rfl rfl (by decide) rfl ?_
      refine V.iret d_Cp_position_99 ⟨_, rfl, rfl⟩ ?_
      exact hP _ _ ⟨_, rfl, rfl, fun _ _ => rfl, hG.2.2.2⟩
    by_cases k4 : k = 4
    · subst k4
      refine V.switchIn (n := 100) d_Cp_position_18 (by omega) (by omega) (by omega) rfl (by decide) ?_
      refine V.aload_n (n := 101) d_Cp_position_100 rfl rfl ?_
      refine V.getA (n := 104) d_Cp_position_101 f_Cp_120 (by assumption) rfl rfl ?_
      refine V.iload_n (n := 105) d_Cp_position_104 rfl rfl ?_
      refine V.cVi (n := 108) d_Cp_position_105 k_Cp_74 (c_Rw_get (by assumption) (by omega) (by omega)) rfl rfl (by decide) rfl ?_
      refine V.iret d_Cp_position_108 ⟨_, rfl, rfl⟩ ?_
      exact hP _ _ ⟨_, rfl, rfl, fun _ _ => rfl, hC.1⟩
    by_cases k5 : k = 5
    · subst k5
      simp only [if_neg k4] at hP
      simp only [if_pos] at hP
      have hbe : bi (¬ μ (x + 1 + 1 + 4) p = 0 ∨ μ (x + 1 + 1 + 10) p = 0) = bi (¬ F (3 + 5 * p + 1) = 0 ∨ (outs L p).length = 0) := bi_c (by rw [hG.2.1, hC.1]; omega)
      refine V.switchIn (n := 109) d_Cp_position_18 (by omega) (by omega) (by omega) rfl (by decide) ?_
      refine V.aload_n (n := 110) d_Cp_position_109 rfl rfl ?_
      refine V.iload_n (n := 111) d_Cp_position_110 rfl rfl ?_
      refine V.cVi (n := 114) d_Cp_position_111 k_Cp_173 (c_Gm_isEnd s1 c1.1 hp20 (by omega) (by omega)) rfl rfl (by decide) rfl ?_
      rw [hbe]
      rcases bi_or (¬ F (3 + 5 * p + 1) = 0 ∨ (outs L p).length = 0) with ⟨c2, e⟩ | ⟨c2, e⟩ <;> rw [e] <;> rw [e] at hP
      · refine V.if_eqF (n := 117) d_Cp_position_114 (by omega) (by omega) rfl ⟨121, by decide⟩ ?_
        refine V.iconst (n := 118) d_Cp_position_117 rfl ?_
        refine V.goto (n := 122) d_Cp_position_118 (by decide) ?_
        refine V.iret d_Cp_position_122 ⟨_, rfl, rfl⟩ ?_
        exact hP _ _ ⟨_, rfl, rfl, fun _ _ => rfl, rfl⟩
      · refine V.if_eqT (n2 := 121) d_Cp_position_114 (by omega) (by omega) (by decide) ?_
        refine V.iconst (n := 122) d_Cp_position_121 rfl ?_
        refine V.iret d_Cp_position_122 ⟨_, rfl, rfl⟩ ?_
        exact hP _ _ ⟨_, rfl, rfl, fun _ _ => rfl, rfl⟩
    by_cases k6 : k = 6
    · subst k6
      simp only [if_neg k4, if_neg k5] at hP
      simp only [if_pos] at hP
      refine V.switchIn (n := 123) d_Cp_position_18 (by omega) (by omega) (by omega) rfl (by decide) ?_
      refine V.aload_n (n := 124) d_Cp_position_123 rfl rfl ?_
      refine V.getA (n := 127) d_Cp_position_124 f_Cp_49 (by assumption) rfl rfl ?_
      refine V.aload_n (n := 128) d_Cp_position_127 rfl rfl ?_
      refine V.cVqv (n := 131) d_Cp_position_128 k_Cp_176 (c_Ro_workOut x6 s1 (by omega) hg ht) rfl rfl (by decide) rfl (fun ν1 hq => ?_)
      obtain ⟨n0, n1⟩ := hq
      have n2 := n1 p c1.1 hp20
      rw [hr.2] at n2 hri
      refine V.aload_n (n := 132) d_Cp_position_131 rfl rfl ?_
      refine V.getA (n := 135) d_Cp_position_132 f_Cp_49 (by assumption) rfl rfl ?_
      refine V.iload_n (n := 136) d_Cp_position_135 rfl rfl ?_
      refine V.cVi (n := 139) d_Cp_position_136 k_Cp_179 (c_Ro_isWon x6 c1.1 hp20 (by omega)) rfl rfl (by decide) rfl ?_
      rw [n2]
      rcases bi_or (¬ rdL F L 20 p = -5) with ⟨c2, e⟩ | ⟨c2, e⟩ <;> rw [e] <;> rw [e] at hP
      · refine V.if_eqF (n := 142) d_Cp_position_139 (by omega) (by omega) rfl ⟨146, by decide⟩ ?_
        refine V.iconst (n := 143) d_Cp_position_142 rfl ?_
        refine V.goto (n := 147) d_Cp_position_143 (by decide) ?_
        refine V.iret d_Cp_position_147 ⟨_, rfl, rfl⟩ ?_
        exact hP _ _ ⟨_, rfl, rfl, n0, rfl⟩
      · refine V.if_eqT (n2 := 146) d_Cp_position_139 (by omega) (by omega) (by decide) ?_
        refine V.iconst (n := 147) d_Cp_position_146 rfl ?_
        refine V.iret d_Cp_position_147 ⟨_, rfl, rfl⟩ ?_
        exact hP _ _ ⟨_, rfl, rfl, n0, rfl⟩
    by_cases k7 : k = 7
    · subst k7
      simp only [if_neg k4, if_neg k5, if_neg k6] at hP
      simp only [if_pos] at hP
      refine V.switchIn (n := 148) d_Cp_position_18 (by omega) (by omega) (by omega) rfl (by decide) ?_
      refine V.aload_n (n := 149) d_Cp_position_148 rfl rfl ?_
      refine V.getA (n := 152) d_Cp_position_149 f_Cp_49 (by assumption) rfl rfl ?_
      refine V.aload_n (n := 153) d_Cp_position_152 rfl rfl ?_
      refine V.cVqv (n := 156) d_Cp_position_153 k_Cp_176 (c_Ro_workOut x6 s1 (by omega) hg ht) rfl rfl (by decide) rfl (fun ν1 hq => ?_)
      obtain ⟨n0, n1⟩ := hq
      have n2 := n1 p c1.1 hp20
      rw [hr.2] at n2
      refine V.aload_n (n := 157) d_Cp_position_156 rfl rfl ?_
      refine V.getA (n := 160) d_Cp_position_157 f_Cp_49 (by assumption) rfl rfl ?_
      refine V.iload_n (n := 161) d_Cp_position_160 rfl rfl ?_
      refine V.cVi (n := 164) d_Cp_position_161 k_Cp_182 (c_Ro_roundOf x6 c1.1 hp20) rfl rfl (by decide) rfl ?_
      refine V.iret d_Cp_position_164 ⟨_, rfl, rfl⟩ ?_
      exact hP _ _ ⟨_, rfl, rfl, n0, n2⟩
    simp only [if_neg k4, if_neg k5, if_neg k6, if_neg k7, if_neg (show ¬ (0 ≤ k ∧ k ≤ 3) by omega)] at hP
    refine V.switchOut (n := 165) d_Cp_position_18 (by omega) (by omega) (by decide) ?_
    refine V.bipush (n := 167) d_Cp_position_165 (by decide) rfl ?_
    refine V.iret d_Cp_position_167 ⟨_, rfl, rfl⟩ ?_
    exact hP _ _ ⟨_, rfl, rfl, fun _ _ => rfl, rfl⟩
  · simp only [if_neg c1] at hP
    refine V.if_neF (n := 7) d_Cp_position_4 (by omega) (by omega) rfl ⟨9, by decide⟩ ?_
    refine V.iconst (n := 8) d_Cp_position_7 rfl ?_
    refine V.iret d_Cp_position_8 ⟨_, rfl, rfl⟩ ?_
    exact hP _ _ ⟨_, rfl, rfl, fun _ _ => rfl, rfl⟩
theorem c_Cp_move (hX : isCheap G x) (hS : ShS μ (x + 1) F L) (hW : WF F L) (hp : inR p) (hr : inR r) : KV E l 2 m_Cp_move x [rI p, rI r] G μ 0 0 (dqi (fun z μ' => μ' = μ ∧ z = mvF L p r) G) := by
  obtain ⟨x0, x1, x2, x3, x4, x5, x6, x7⟩ := hX
  obtain ⟨s0, s1, s2⟩ := x1
  refine ⟨KC.ofP q_Cp_move.1 rfl (Nat.le_of_ble_eq_true rfl) rfl (fun Post NT ST hP => ?_), ⟨_, _, _, x0, rfl, rfl⟩, q_Cp_move, by decide⟩
  refine V.iload_n (n := 1) d_Cp_move_0 rfl rfl ?_
  refine V.cSi (n := 4) d_Cp_move_1 k_Cp_60 (c_Cp_isPosition (by omega)) rfl rfl rfl (by decide) rfl ?_
  unfold mvF at hP
  rcases bi_or (0 ≤ p ∧ p ≤ 19) with ⟨c1, e⟩ | ⟨c1, e⟩ <;> rw [e]
  · simp only [if_pos c1] at hP
    have hp20 : p < 20 := by omega
    have hC := hS.1.1.1 p c1.1 hp20
    have hle := outs_le hW.1 p
    refine V.if_neT (n2 := 9) d_Cp_move_4 (by omega) (by omega) (by decide) ?_
    refine V.iload_n (n := 10) d_Cp_move_9 rfl rfl ?_
    refine V.if_ge (n2 := 16) (n := 13) d_Cp_move_10 (by omega) (by decide) rfl (fun h1 => ?_) (fun h1 => ?_)
    · simp only [if_neg (show ¬ r < 0 by omega)] at hP
      refine V.aload_n (n := 17) d_Cp_move_16 rfl rfl ?_
      refine V.getA (n := 20) d_Cp_move_17 f_Cp_10 (by assumption) rfl rfl ?_
      refine V.getA (n := 23) d_Cp_move_20 f_Cp_64 (by assumption) rfl rfl ?_
      refine V.iload_n (n := 24) d_Cp_move_23 rfl rfl ?_
      refine V.iload_n (n := 25) d_Cp_move_24 rfl rfl ?_
      by_cases h2 : r < ((outs L p).length : Int)
      · simp only [if_pos h2] at hP
        refine V.cVi (n := 28) d_Cp_move_25 k_Cp_185 (c_Gm_targetOf s1 c1.1 hp20 h1 (by rw [hC.1]; exact h2) (by omega)) rfl rfl (by decide) rfl ?_
        refine V.iret d_Cp_move_28 ⟨_, rfl, rfl⟩ ?_
        have e2 := hC.2 r.toNat (by omega)
        rw [show ((r.toNat : Nat) : Int) = r by omega] at e2
        exact hP _ _ ⟨_, rfl, rfl, rfl, e2⟩
      · simp only [if_neg h2] at hP
        refine V.cVi (n := 28) d_Cp_move_25 k_Cp_185 (c_Gm_targetOfN s1 c1.1 hp20 hr (by omega) (by omega)) rfl rfl (by decide) rfl ?_
        refine V.iret d_Cp_move_28 ⟨_, rfl, rfl⟩ ?_
        exact hP _ _ ⟨_, rfl, rfl, rfl, rfl⟩
    · simp only [if_pos (show r < 0 by omega)] at hP
      refine V.bipush (n := 15) d_Cp_move_13 (by decide) rfl ?_
      refine V.iret d_Cp_move_15 ⟨_, rfl, rfl⟩ ?_
      exact hP _ _ ⟨_, rfl, rfl, rfl, rfl⟩
  · simp only [if_neg c1] at hP
    refine V.if_neF (n := 7) d_Cp_move_4 (by omega) (by omega) rfl ⟨9, by decide⟩ ?_
    refine V.iconst (n := 8) d_Cp_move_7 rfl ?_
    refine V.iret d_Cp_move_8 ⟨_, rfl, rfl⟩ ?_
    exact hP _ _ ⟨_, rfl, rfl, rfl, rfl⟩
theorem c_Cp_node (hX : isCheap G x) (hS : ShS μ (x + 1) F L) (hW : WF F L) (hn : inR n) (hk : inR k) : KV E l 1 m_Cp_node x [rI n, rI k] G μ 0 0 (dqi (fun z μ' => μ' = μ ∧ z = ndF F n k) G) := by
  obtain ⟨x0, x1, x2, x3, x4, x5, x6, x7⟩ := hX
  obtain ⟨s0, s1, s2⟩ := x1
  obtain ⟨t0, t1, t2, t3, t4, t5, t6, t7, t8⟩ := id s2
  have hsz := hS.2.1
  have hR := hW.2.2.1
  have hs1 := hR.2.2.1
  refine ⟨KC.ofP q_Cp_node.1 rfl (Nat.le_of_ble_eq_true rfl) rfl (fun Post NT ST hP => ?_), ⟨_, _, _, x0, rfl, rfl⟩, q_Cp_node, by decide⟩
  refine V.aload_n (n := 1) d_Cp_node_0 rfl rfl ?_
  refine V.getA (n := 4) d_Cp_node_1 f_Cp_10 (by assumption) rfl rfl ?_
  refine V.getA (n := 7) d_Cp_node_4 f_Cp_91 (by assumption) rfl rfl ?_
  refine V.astore_n (n := 8) d_Cp_node_7 (by decide) rfl ?_
  refine V.aload_n (n := 9) d_Cp_node_8 rfl rfl ?_
  refine V.iload_n (n := 10) d_Cp_node_9 rfl rfl ?_
  refine V.cVi (n := 13) d_Cp_node_10 k_Cp_188 (c_Tr_has s2 hn (by have := hR.2.1; omega)) rfl rfl (by decide) rfl ?_
  rw [hsz]
  unfold ndF at hP
  rcases bi_or (0 ≤ n ∧ n < F 1) with ⟨c1, e⟩ | ⟨c1, e⟩ <;> rw [e]
  · simp only [if_pos (show 0 ≤ n ∧ n ≤ F 1 - 1 by omega)] at hP
    have hT := hS.2.2.2 n c1.1 c1.2
    have hD := dep_eq hS hW 200 n c1.1 c1.2 (by omega)
    refine V.if_neT (n2 := 18) d_Cp_node_13 (by omega) (by omega) (by decide) ?_
    refine V.iload_n (n := 19) d_Cp_node_18 rfl rfl ?_
    by_cases k0 : k = 0
    · subst k0
      refine V.switchIn (n := 64) d_Cp_node_19 (by omega) (by omega) (by omega) rfl (by decide) ?_
      refine V.aload_n (n := 65) d_Cp_node_64 rfl rfl ?_
      refine V.getA (n := 68) d_Cp_node_65 f_Cp_191 (by assumption) rfl rfl ?_
      refine V.iload_n (n := 69) d_Cp_node_68 rfl rfl ?_
      refine V.cVi (n := 72) d_Cp_node_69 k_Cp_74 (c_Rw_get (by assumption) (by omega) (by omega)) rfl rfl (by decide) rfl ?_
      refine V.iret d_Cp_node_72 ⟨_, rfl, rfl⟩ ?_
      exact hP _ _ ⟨_, rfl, rfl, rfl, hT.1.1⟩
    by_cases k1 : k = 1
    · subst k1
      refine V.switchIn (n := 73) d_Cp_node_19 (by omega) (by omega) (by omega) rfl (by decide) ?_
      refine V.aload_n (n := 74) d_Cp_node_73 rfl rfl ?_
      refine V.getA (n := 77) d_Cp_node_74 f_Cp_194 (by assumption) rfl rfl ?_
      refine V.iload_n (n := 78) d_Cp_node_77 rfl rfl ?_
      refine V.cVi (n := 81) d_Cp_node_78 k_Cp_74 (c_Rw_get (by assumption) (by omega) (by omega)) rfl rfl (by decide) rfl ?_
      refine V.iret d_Cp_node_81 ⟨_, rfl, rfl⟩ ?_
      exact hP _ _ ⟨_, rfl, rfl, rfl, hT.1.2.1⟩
    by_cases k2 : k = 2
    · subst k2
      refine V.switchIn (n := 82) d_Cp_node_19 (by omega) (by omega) (by omega) rfl (by decide) ?_
      refine V.aload_n (n := 83) d_Cp_node_82 rfl rfl ?_
      refine V.getA (n := 86) d_Cp_node_83 f_Cp_141 (by assumption) rfl rfl ?_
      refine V.iload_n (n := 87) d_Cp_node_86 rfl rfl ?_
      refine V.cVi (n := 90) d_Cp_node_87 k_Cp_74 (c_Rw_get (by assumption) (by omega) (by omega)) rfl rfl (by decide) rfl ?_
      refine V.iret d_Cp_node_90 ⟨_, rfl, rfl⟩ ?_
      exact hP _ _ ⟨_, rfl, rfl, rfl, hT.1.2.2.1⟩
    by_cases k3 : k = 3
    · subst k3
      refine V.switchIn (n := 91) d_Cp_node_19 (by omega) (by omega) (by omega) rfl (by decide) ?_
      refine V.aload_n (n := 92) d_Cp_node_91 rfl rfl ?_
      refine V.getA (n := 95) d_Cp_node_92 f_Cp_197 (by assumption) rfl rfl ?_
      refine V.iload_n (n := 96) d_Cp_node_95 rfl rfl ?_
      refine V.cVi (n := 99) d_Cp_node_96 k_Cp_74 (c_Rw_get (by assumption) (by omega) (by omega)) rfl rfl (by decide) rfl ?_
      refine V.iret d_Cp_node_99 ⟨_, rfl, rfl⟩ ?_
      exact hP _ _ ⟨_, rfl, rfl, rfl, hT.1.2.2.2.1⟩
    by_cases k4 : k = 4
    · subst k4
      refine V.switchIn (n := 100) d_Cp_node_19 (by omega) (by omega) (by omega) rfl (by decide) ?_
      refine V.aload_n (n := 101) d_Cp_node_100 rfl rfl ?_
      refine V.getA (n := 104) d_Cp_node_101 f_Cp_200 (by assumption) rfl rfl ?_
      refine V.iload_n (n := 105) d_Cp_node_104 rfl rfl ?_
      refine V.cVi (n := 108) d_Cp_node_105 k_Cp_74 (c_Rw_get (by assumption) (by omega) (by omega)) rfl rfl (by decide) rfl ?_
      refine V.iret d_Cp_node_108 ⟨_, rfl, rfl⟩ ?_
      exact hP _ _ ⟨_, rfl, rfl, rfl, hT.1.2.2.2.2.1⟩
    by_cases k5 : k = 5
    · subst k5
      refine V.switchIn (n := 109) d_Cp_node_19 (by omega) (by omega) (by omega) rfl (by decide) ?_
      refine V.aload_n (n := 110) d_Cp_node_109 rfl rfl ?_
      refine V.getA (n := 113) d_Cp_node_110 f_Cp_203 (by assumption) rfl rfl ?_
      refine V.iload_n (n := 114) d_Cp_node_113 rfl rfl ?_
      refine V.cVi (n := 117) d_Cp_node_114 k_Cp_74 (c_Rw_get (by assumption) (by omega) (by omega)) rfl rfl (by decide) rfl ?_
      refine V.iret d_Cp_node_117 ⟨_, rfl, rfl⟩ ?_
      exact hP _ _ ⟨_, rfl, rfl, rfl, hT.1.2.2.2.2.2.1⟩
    by_cases k6 : k = 6
    · subst k6
      refine V.switchIn (n := 118) d_Cp_node_19 (by omega) (by omega) (by omega) rfl (by decide) ?_
      refine V.aload_n (n := 119) d_Cp_node_118 rfl rfl ?_
      refine V.getA (n := 122) d_Cp_node_119 f_Cp_206 (by assumption) rfl rfl ?_
      refine V.iload_n (n := 123) d_Cp_node_122 rfl rfl ?_
      refine V.cVi (n := 126) d_Cp_node_123 k_Cp_74 (c_Rw_get (by assumption) (by omega) (by omega)) rfl rfl (by decide) rfl ?_
      refine V.iret d_Cp_node_126 ⟨_, rfl, rfl⟩ ?_
      exact hP _ _ ⟨_, rfl, rfl, rfl, hD.symm⟩
    by_cases k7 : k = 7
    · subst k7
      refine V.switchIn (n := 127) d_Cp_node_19 (by omega) (by omega) (by omega) rfl (by decide) ?_
      refine V.aload_n (n := 128) d_Cp_node_127 rfl rfl ?_
      refine V.getA (n := 131) d_Cp_node_128 f_Cp_209 (by assumption) rfl rfl ?_
      refine V.iload_n (n := 132) d_Cp_node_131 rfl rfl ?_
      refine V.cVi (n := 135) d_Cp_node_132 k_Cp_74 (c_Rw_get (by assumption) (by omega) (by omega)) rfl rfl (by decide) rfl ?_
      refine V.iret d_Cp_node_135 ⟨_, rfl, rfl⟩ ?_
      exact hP _ _ ⟨_, rfl, rfl, rfl, hT.1.2.2.2.2.2.2⟩
    simp only [if_neg k6, if_neg (show ¬ (0 ≤ k ∧ k ≤ 7) by omega)] at hP
    refine V.switchOut (n := 136) d_Cp_node_19 (by omega) (by omega) (by decide) ?_
    refine V.bipush (n := 138) d_Cp_node_136 (by decide) rfl ?_
    refine V.iret d_Cp_node_138 ⟨_, rfl, rfl⟩ ?_
    exact hP _ _ ⟨_, rfl, rfl, rfl, rfl⟩
  · simp only [if_neg (show ¬ (0 ≤ n ∧ n ≤ F 1 - 1) by omega)] at hP
    refine V.if_neF (n := 16) d_Cp_node_13 (by omega) (by omega) rfl ⟨18, by decide⟩ ?_
    refine V.iconst (n := 17) d_Cp_node_16 rfl ?_
    refine V.iret d_Cp_node_17 ⟨_, rfl, rfl⟩ ?_
    exact hP _ _ ⟨_, rfl, rfl, rfl, rfl⟩
theorem oc_eq (hS : ShS μ (x + 1) F L) (h0 : 0 < F 1) : oc (μ (x + 1 + 14) 9) (μ (x + 1 + 14 + 8) 0) (μ (x + 1 + 14 + 10) 0) = if F 225 = 0 then 1 else if F 226 = 0 then 2 else 0 := by
  have hT := (hS.2.2.2 0 (Int.le_refl _) h0).1
  unfold oc
  rw [hS.2.1, if_neg (by omega), hT.2.2.1, hT.2.2.2.1]
  rfl
theorem oc_no (hS : ShS μ (x + 1) F L) (h0 : F 1 = 0) : oc (μ (x + 1 + 14) 9) (μ (x + 1 + 14 + 8) 0) (μ (x + 1 + 14 + 10) 0) = 0 := by
  unfold oc
  rw [hS.2.1, if_pos h0]
theorem c_Cp_way (hX : isCheap G x) (hS : ShS μ (x + 1) F L) (hW : WF F L) (hr : inR r) : KV E l 4 m_Cp_way x [rI r] G μ 0 0 (dqi (fun z μ' => μ' = μ ∧ z = wyF F r) G) := by
  obtain ⟨x0, x1, x2, x3, x4, x5, x6, x7⟩ := hX
  obtain ⟨s0, s1, s2⟩ := x1
  have hsz := hS.2.1
  have hR := hW.2.2.1
  have hs0 := hR.2.1
  have hs1 := hR.2.2.1
  refine ⟨KC.ofP q_Cp_way.1 rfl (Nat.le_of_ble_eq_true rfl) rfl (fun Post NT ST hP => ?_), ⟨_, _, _, x0, rfl, rfl⟩, q_Cp_way, by decide⟩
  refine V.iload_n (n := 1) d_Cp_way_0 rfl rfl ?_
  unfold wyF at hP
  refine V.if_ge (n2 := 7) (n := 4) d_Cp_way_1 (by omega) (by decide) rfl (fun h1 => ?_) (fun h1 => ?_)
  · simp only [if_neg (show ¬ r < 0 by omega)] at hP
    refine V.aload_n (n := 8) d_Cp_way_7 rfl rfl ?_
    refine V.getA (n := 11) d_Cp_way_8 f_Cp_10 (by assumption) rfl rfl ?_
    refine V.getA (n := 14) d_Cp_way_11 f_Cp_91 (by assumption) rfl rfl ?_
    refine V.iload_n (n := 15) d_Cp_way_14 rfl rfl ?_
    refine V.cVi (n := 18) d_Cp_way_15 k_Cp_212 (c_Tr_nodeOnWay s2 s1 (hS.okM hW) h1 (by omega)) rfl rfl (by decide) rfl ?_
    refine V.iret d_Cp_way_18 ⟨_, rfl, rfl⟩ ?_
    refine hP _ _ ⟨_, rfl, rfl, rfl, ?_⟩
    by_cases e0 : F 1 = 0
    · rw [if_pos (Or.inl (by omega)), if_pos (Or.inl e0)]
    · rw [oc_eq hS (by omega)]
      by_cases e1 : F 225 = 0 ∨ F 226 = 0
      · rw [if_pos (Or.inr (Or.inl (by (repeat' split) <;> omega))), if_pos (Or.inr e1)]
      · rw [if_neg (show ¬ (F 1 = 0 ∨ (F 225 = 0 ∨ F 226 = 0)) by omega), if_neg (show ¬ F 225 = 0 by omega), if_neg (show ¬ F 226 = 0 by omega)]
        by_cases e2 : 200 ≤ r
        · rw [if_pos (Or.inr (Or.inr e2)), wy_far hR r.toNat 0 (Int.le_refl _) (by omega) (by omega)]
        · rw [if_neg (by omega), wy_eq hS hW r.toNat 0 (Int.le_refl _) (by omega)]
  · simp only [if_pos (show r < 0 by omega)] at hP
    refine V.bipush (n := 6) d_Cp_way_4 (by decide) rfl ?_
    refine V.iret d_Cp_way_6 ⟨_, rfl, rfl⟩ ?_
    exact hP _ _ ⟨_, rfl, rfl, rfl, rfl⟩
end CCT
end
section
/-! THE CLASS ITSELF: proofs and counts told -/
def szF (F : Int → Int) : Int := if F 1 = 0 ∨ ¬ (F 225 = 0 ∨ F 226 = 0) then -4 else cs (fun j => bi (mbF F j = true)) (F 1).toNat
def ctF (F : Int → Int) (L : List (Int × Int)) (hn tn k : Int) : Int := if k = 0 then F 0 else if k = 1 then F 1 else if k = 8 then cs (fun j => bi (¬ rdL F L 20 j = -5)) 20 else if k = 9 then hn else if k = 10 then tn else if ¬ (2 ≤ k ∧ k ≤ 7) then -2 else if F 1 = 0 then -5 else tcF F k
section CCT2
variable {E : EV} {l : Launch} {G : GG} {μ : MU} {x : Nat} {n p q r v a b k : Int} {F : Int → Int} {L : List (Int × Int)}
theorem wi_eq (hS : ShS μ (x + 1) F L) (h0 : 0 < F 1) : wiM μ (x + 1 + 14) = wiF F := by
  unfold wiM
  rw [oc_eq hS h0]
  show _ = if F 225 = 0 then (0 : Int) else 1
  by_cases e : F 225 = 0
  · rw [if_pos e, if_pos e, if_pos rfl]
  · rw [if_neg e, if_neg e]
    split <;> (split <;> omega)
theorem c_Cp_proofSize (hX : isCheap G x) (hS : ShS μ (x + 1) F L) (hW : WF F L) : KV E l 5 m_Cp_proofSize x [] G μ 0 0 (dqi (fun z μ' => (∀ b, ¬ b = x + 210 → μ' b = μ b) ∧ z = szF F) G) := by
  obtain ⟨x0, x1, x2, x3, x4, x5, x6, x7⟩ := hX
  obtain ⟨s0, s1, s2⟩ := x1
  have hsz := hS.2.1
  have hR := hW.2.2.1
  have hs0 := hR.2.1
  have hs1 := hR.2.2.1
  have hx0 := hS.2.2.1 0 (Int.le_refl _) (by omega)
  unfold szF
  refine ⟨KC.ofP q_Cp_proofSize.1 rfl (Nat.le_of_ble_eq_true rfl) rfl (fun Post NT ST hP => ?_), ⟨_, _, _, x0, rfl, rfl⟩, q_Cp_proofSize, by decide⟩
  refine V.aload_n (n := 1) d_Cp_proofSize_0 rfl rfl ?_
  refine V.getA (n := 4) d_Cp_proofSize_1 f_Cp_10 (by assumption) rfl rfl ?_
  refine V.getA (n := 7) d_Cp_proofSize_4 f_Cp_91 (by assumption) rfl rfl ?_
  refine V.cVi (n := 10) d_Cp_proofSize_7 k_Cp_215 (c_Tr_outcome s2 (by omega) (by omega) (by omega)) rfl rfl (by decide) rfl ?_
  by_cases e0 : F 1 = 0
  · rw [oc_no hS e0]
    simp only [if_pos (show F 1 = 0 ∨ ¬ (F 225 = 0 ∨ F 226 = 0) from Or.inl e0)] at hP
    refine V.if_neF (n := 13) d_Cp_proofSize_10 (by omega) (by omega) rfl ⟨16, by decide⟩ ?_
    refine V.bipush (n := 15) d_Cp_proofSize_13 (by decide) rfl ?_
    refine V.iret d_Cp_proofSize_15 ⟨_, rfl, rfl⟩ ?_
    exact hP _ _ ⟨_, rfl, rfl, fun _ _ => rfl, rfl⟩
  · rw [oc_eq hS (by omega)]
    by_cases e1 : F 225 = 0 ∨ F 226 = 0
    · simp only [if_neg (show ¬ (F 1 = 0 ∨ ¬ (F 225 = 0 ∨ F 226 = 0)) by omega)] at hP
      have hoc : (if F 225 = 0 then (1 : Int) else if F 226 = 0 then 2 else 0) = 1 ∨ (if F 225 = 0 then (1 : Int) else if F 226 = 0 then 2 else 0) = 2 := by
        (repeat' split) <;> omega
      generalize (if F 225 = 0 then (1 : Int) else if F 226 = 0 then 2 else 0) = oo at *
      refine V.if_neT (n2 := 16) d_Cp_proofSize_10 (by omega) (by omega) (by decide) ?_
      refine V.aload_n (n := 17) d_Cp_proofSize_16 rfl rfl ?_
      refine V.getA (n := 20) d_Cp_proofSize_17 f_Cp_56 (by assumption) rfl rfl ?_
      refine V.aload_n (n := 21) d_Cp_proofSize_20 rfl rfl ?_
      refine V.getA (n := 24) d_Cp_proofSize_21 f_Cp_10 (by assumption) rfl rfl ?_
      refine V.getA (n := 27) d_Cp_proofSize_24 f_Cp_91 (by assumption) rfl rfl ?_
      refine V.cVqi (n := 30) d_Cp_proofSize_27 k_Cp_222 (c_Pf_sizeOf x7 s2 s1 (by omega) (by omega) (hS.okM hW) (by omega)) rfl rfl (by decide) rfl (fun z ν1 hq => ?_)
      obtain ⟨q0, q1⟩ := hq
      rw [wi_eq hS (by omega), hsz] at q1
      refine V.iret d_Cp_proofSize_30 ⟨_, rfl, rfl⟩ ?_
      refine hP _ _ ⟨_, rfl, rfl, q0, ?_⟩
      rw [q1]
      refine cs_c (fun j hj => bi_c ?_)
      exact mbs_eq hS hW (wiF F) (by omega) (by omega)
    · simp only [if_pos (show F 1 = 0 ∨ ¬ (F 225 = 0 ∨ F 226 = 0) from Or.inr e1)] at hP
      rw [if_neg (show ¬ F 225 = 0 by omega), if_neg (show ¬ F 226 = 0 by omega)]
      refine V.if_neF (n := 13) d_Cp_proofSize_10 (by omega) (by omega) rfl ⟨16, by decide⟩ ?_
      refine V.bipush (n := 15) d_Cp_proofSize_13 (by decide) rfl ?_
      refine V.iret d_Cp_proofSize_15 ⟨_, rfl, rfl⟩ ?_
      exact hP _ _ ⟨_, rfl, rfl, fun _ _ => rfl, rfl⟩
theorem c_Cp_tellTree (s1 : isGame G (x + 1 + 1)) (s2 : isTree G (x + 1 + 14) (x + 1 + 1)) (hS : ShS μ (x + 1) F L) (hW : WF F L) (h0 : 0 < F 1) (hk : 2 ≤ k ∧ k ≤ 7) : KS E l 3 m_Cp_tellTree [rA E (x + 1 + 14), rI k] G μ 0 0 (dqi (fun z μ' => μ' = μ ∧ z = tcF F k) G) := by
  obtain ⟨t0, t1, t2, t3, t4, t5, t6, t7, t8⟩ := id s2
  have hsz := hS.2.1
  have hR := hW.2.2.1
  have hs0 := hR.2.1
  have hs1 := hR.2.2.1
  have hx0 := hS.2.2.1 0 (Int.le_refl _) (by omega)
  have hT0 := hS.2.2.2 0 (Int.le_refl _) h0
  unfold tcF
  refine ⟨KC.ofP q_Cp_tellTree.1 rfl (Nat.le_of_ble_eq_true rfl) rfl (fun Post NT ST hP => ?_), q_Cp_tellTree, by decide⟩
  refine V.iload_n (n := 1) d_Cp_tellTree_0 rfl rfl ?_
  by_cases k2 : k = 2
  · subst k2
    refine V.switchIn (n := 36) d_Cp_tellTree_1 (by omega) (by omega) (by omega) rfl (by decide) ?_
    refine V.aload_n (n := 37) d_Cp_tellTree_36 rfl rfl ?_
    refine V.getA (n := 40) d_Cp_tellTree_37 f_Cp_141 (by assumption) rfl rfl ?_
    refine V.iconst (n := 41) d_Cp_tellTree_40 rfl ?_
    refine V.cVi (n := 44) d_Cp_tellTree_41 k_Cp_74 (c_Rw_get (by assumption) (by omega) (by omega)) rfl rfl (by decide) rfl ?_
    refine V.iret d_Cp_tellTree_44 ⟨_, rfl, rfl⟩ ?_
    exact hP _ _ ⟨_, rfl, rfl, rfl, hT0.1.2.2.1⟩
  simp only [if_neg k2] at hP
  by_cases k3 : k = 3
  · subst k3
    refine V.switchIn (n := 45) d_Cp_tellTree_1 (by omega) (by omega) (by omega) rfl (by decide) ?_
    refine V.aload_n (n := 46) d_Cp_tellTree_45 rfl rfl ?_
    refine V.getA (n := 49) d_Cp_tellTree_46 f_Cp_197 (by assumption) rfl rfl ?_
    refine V.iconst (n := 50) d_Cp_tellTree_49 rfl ?_
    refine V.cVi (n := 53) d_Cp_tellTree_50 k_Cp_74 (c_Rw_get (by assumption) (by omega) (by omega)) rfl rfl (by decide) rfl ?_
    refine V.iret d_Cp_tellTree_53 ⟨_, rfl, rfl⟩ ?_
    exact hP _ _ ⟨_, rfl, rfl, rfl, hT0.1.2.2.2.1⟩
  simp only [if_neg k3] at hP
  by_cases k4 : k = 4
  · subst k4
    refine V.switchIn (n := 54) d_Cp_tellTree_1 (by omega) (by omega) (by omega) rfl (by decide) ?_
    refine V.aload_n (n := 55) d_Cp_tellTree_54 rfl rfl ?_
    refine V.cVi (n := 58) d_Cp_tellTree_55 k_Cp_215 (c_Tr_outcome s2 (by omega) (by omega) (by omega)) rfl rfl (by decide) rfl ?_
    rw [oc_eq hS h0]
    refine V.iret d_Cp_tellTree_58 ⟨_, rfl, rfl⟩ ?_
    exact hP _ _ ⟨_, rfl, rfl, rfl, rfl⟩
  simp only [if_neg k4] at hP
  by_cases k5 : k = 5
  · subst k5
    refine V.switchIn (n := 59) d_Cp_tellTree_1 (by omega) (by omega) (by omega) rfl (by decide) ?_
    refine V.aload_n (n := 60) d_Cp_tellTree_59 rfl rfl ?_
    refine V.cVi (n := 63) d_Cp_tellTree_60 k_Cp_233 (c_Tr_loopCount s2 (by omega) (by omega)) rfl rfl (by decide) rfl ?_
    rw [hsz]
    refine V.iret d_Cp_tellTree_63 ⟨_, rfl, rfl⟩ ?_
    exact hP _ _ ⟨_, rfl, rfl, rfl, cs_c (fun j hj => (hS.2.2.2 (j : Int) (by omega) (by omega)).1.2.2.2.2.2.2)⟩
  simp only [if_neg k5] at hP
  by_cases k6 : k = 6
  · subst k6
    refine V.switchIn (n := 64) d_Cp_tellTree_1 (by omega) (by omega) (by omega) rfl (by decide) ?_
    refine V.aload_n (n := 65) d_Cp_tellTree_64 rfl rfl ?_
    refine V.cVi (n := 68) d_Cp_tellTree_65 k_Cp_236 (c_Tr_openedCount s2 (by omega) (by omega) (fun j j0 j1 => by rw [hsz] at j1; have h1 := cc_eq hS j0 j1; have h2 := okC_at hR.2.2.2.1 j0 j1; rw [h1]; show inR (F (223 + 7 * j + 4)); omega)) rfl rfl (by decide) rfl ?_
    rw [hsz]
    refine V.iret d_Cp_tellTree_68 ⟨_, rfl, rfl⟩ ?_
    refine hP _ _ ⟨_, rfl, rfl, rfl, ?_⟩
    rw [if_pos rfl, hW.2.2.2.2.2.2.2.2]
    exact cs_c (fun j hj => by show bi (¬ μ (x + 1 + 14 + 12) (j : Int) = 0) = bi (¬ nF F 4 (j : Int) = 0); rw [cc_eq hS (by omega) (by omega)])
  simp only [if_neg k6] at hP
  have hd : ∀ j : Int, 0 ≤ j → j < F 1 → 0 ≤ μ (x + 1 + 14 + 6) j ∧ μ (x + 1 + 14 + 6) j ≤ 200 := fun j j0 j1 => by
    rw [← dep_eq hS hW 200 j j0 j1 (by omega)]
    exact dpt_in 200 j
  have km : mxc (μ (x + 1 + 14 + 6)) (F 1).toNat = mxc (dpt (nF F 1) 200) (F 1).toNat := mxc_c (fun j hj => (dep_eq hS hW 200 (j : Int) (by omega) (by omega) (by omega)).symm)
  have k7 : k = 7 := by omega
  subst k7
  refine V.switchOut (n := 69) d_Cp_tellTree_1 (by omega) (by omega) (by decide) ?_
  refine V.aload_n (n := 70) d_Cp_tellTree_69 rfl rfl ?_
  refine V.cVi (n := 73) d_Cp_tellTree_70 k_Cp_239 (c_Tr_greatestDepth s2 (by omega) (by omega) (by rw [hsz]; exact hd)) rfl rfl (by decide) rfl ?_
  rw [hsz, km]
  refine V.iret d_Cp_tellTree_73 ⟨_, rfl, rfl⟩ ?_
  exact hP _ _ ⟨_, rfl, rfl, rfl, rfl⟩
theorem c_Cp_count (hX : isCheap G x) (hS : ShS μ (x + 1) F L) (hW : WF F L) (hk : inR k) : KV E l 5 m_Cp_count x [rI k] G μ 0 0 (dqi (fun z μ' => (∀ b, ¬ b = x + 207 → μ' b = μ b) ∧ z = ctF F L (μ (x + 63) 1) (μ (x + 189) 1) k) G) := by
  obtain ⟨x0, x1, x2, x3, x4, x5, x6, x7⟩ := hX
  obtain ⟨s0, s1, s2⟩ := x1
  obtain ⟨g0, g1, g2, g3, g4, g5, g6⟩ := id s1
  obtain ⟨t0, t1, t2, t3, t4, t5, t6, t7, t8⟩ := id s2
  obtain ⟨h0, h1, h2⟩ := id x3
  obtain ⟨y0, y1⟩ := id x4
  have hsz := hS.2.1
  have hR := hW.2.2.1
  have hs0 := hR.2.1
  have hs1 := hR.2.2.1
  have hm := hS.1.1.2
  have hF0 := hW.2.1.1
  unfold ctF
  refine ⟨KC.ofP q_Cp_count.1 rfl (Nat.le_of_ble_eq_true rfl) rfl (fun Post NT ST hP => ?_), ⟨_, _, _, x0, rfl, rfl⟩, q_Cp_count, by decide⟩
  refine V.iload_n (n := 1) d_Cp_count_0 rfl rfl ?_
  refine V.iconst (n := 2) d_Cp_count_1 rfl ?_
  have big : ¬ (2 ≤ k ∧ k ≤ 7) → V E l m_Cp_count none 5 NT ST Post 41 [(1, rI k), (0, rA E x)] [] G μ := by
    intro hb
    by_cases k0 : k = 0
    · subst k0
      refine V.iload_n (n := 42) d_Cp_count_41 rfl rfl ?_
      refine V.switchIn (n := 100) d_Cp_count_42 (by omega) (by omega) (by omega) rfl (by decide) ?_
      refine V.aload_n (n := 101) d_Cp_count_100 rfl rfl ?_
      refine V.getA (n := 104) d_Cp_count_101 f_Cp_10 (by assumption) rfl rfl ?_
      refine V.getA (n := 107) d_Cp_count_104 f_Cp_64 (by assumption) rfl rfl ?_
      refine V.getI (n := 110) d_Cp_count_107 f_Cp_113 (by assumption) rfl rfl ?_
      refine V.iret d_Cp_count_110 ⟨_, rfl, rfl⟩ ?_
      exact hP _ _ ⟨_, rfl, rfl, fun _ _ => rfl, by rw [if_pos rfl, hF0]; exact hm⟩
    simp only [if_neg k0] at hP
    by_cases k1 : k = 1
    · subst k1
      refine V.iload_n (n := 42) d_Cp_count_41 rfl rfl ?_
      refine V.switchIn (n := 111) d_Cp_count_42 (by omega) (by omega) (by omega) rfl (by decide) ?_
      refine V.aload_n (n := 112) d_Cp_count_111 rfl rfl ?_
      refine V.getA (n := 115) d_Cp_count_112 f_Cp_10 (by assumption) rfl rfl ?_
      refine V.getA (n := 118) d_Cp_count_115 f_Cp_91 (by assumption) rfl rfl ?_
      refine V.getI (n := 121) d_Cp_count_118 f_Cp_229 (by assumption) rfl rfl ?_
      refine V.iret d_Cp_count_121 ⟨_, rfl, rfl⟩ ?_
      exact hP _ _ ⟨_, rfl, rfl, fun _ _ => rfl, by rw [if_pos rfl]; exact hsz⟩
    simp only [if_neg k1] at hP
    by_cases k8 : k = 8
    · subst k8
      have hg := hS.1.okG hW.1 hW.2.2.1.1
      have ht := hS.1.1.okT hW.1
      refine V.iload_n (n := 42) d_Cp_count_41 rfl rfl ?_
      refine V.switchIn (n := 122) d_Cp_count_42 (by omega) (by omega) (by omega) rfl (by decide) ?_
      refine V.aload_n (n := 123) d_Cp_count_122 rfl rfl ?_
      refine V.getA (n := 126) d_Cp_count_123 f_Cp_49 (by assumption) rfl rfl ?_
      refine V.aload_n (n := 127) d_Cp_count_126 rfl rfl ?_
      refine V.getA (n := 130) d_Cp_count_127 f_Cp_10 (by assumption) rfl rfl ?_
      refine V.getA (n := 133) d_Cp_count_130 f_Cp_64 (by assumption) rfl rfl ?_
      refine V.cVqv (n := 136) d_Cp_count_133 k_Cp_176 (c_Ro_workOut x6 s1 (by omega) hg ht) rfl rfl (by decide) rfl (fun ν1 hq => ?_)
      obtain ⟨n0, n1⟩ := hq
      have n2 : ∀ j : Int, 0 ≤ j → j < 20 → ν1 (x + 205 + 2) j = rdL F L 20 j := fun j j0 j1 => by rw [n1 j j0 j1]; exact (rd_eq hS hW 20 j j0 j1).2
      refine V.aload_n (n := 137) d_Cp_count_136 rfl rfl ?_
      refine V.getA (n := 140) d_Cp_count_137 f_Cp_49 (by assumption) rfl rfl ?_
      refine V.cVi (n := 143) d_Cp_count_140 k_Cp_230 (c_Ro_wonPositions x6 (fun j j0 j1 => by rw [n1 j j0 j1]; have := rdM_in μ (x + 1 + 1) 20 j; omega)) rfl rfl (by decide) rfl ?_
      refine V.iret d_Cp_count_143 ⟨_, rfl, rfl⟩ ?_
      refine hP _ _ ⟨_, rfl, rfl, n0, ?_⟩
      rw [if_pos rfl]
      exact cs_c (fun j hj => by show bi (¬ ν1 (x + 205 + 2) (j : Int) = -5) = bi (¬ rdL F L 20 (j : Int) = -5); rw [n2 _ (by omega) (by omega)])
    simp only [if_neg k8] at hP
    by_cases k9 : k = 9
    · subst k9
      refine V.iload_n (n := 42) d_Cp_count_41 rfl rfl ?_
      refine V.switchIn (n := 144) d_Cp_count_42 (by omega) (by omega) (by omega) rfl (by decide) ?_
      refine V.aload_n (n := 145) d_Cp_count_144 rfl rfl ?_
      refine V.getA (n := 148) d_Cp_count_145 f_Cp_26 (by assumption) rfl rfl ?_
      refine V.getI (n := 151) d_Cp_count_148 f_Cp_164 (by assumption) rfl rfl ?_
      refine V.iret d_Cp_count_151 ⟨_, rfl, rfl⟩ ?_
      exact hP _ _ ⟨_, rfl, rfl, fun _ _ => rfl, by rw [if_pos rfl]⟩
    simp only [if_neg k9] at hP
    by_cases k10 : k = 10
    · subst k10
      refine V.iload_n (n := 42) d_Cp_count_41 rfl rfl ?_
      refine V.switchIn (n := 152) d_Cp_count_42 (by omega) (by omega) (by omega) rfl (by decide) ?_
      refine V.aload_n (n := 153) d_Cp_count_152 rfl rfl ?_
      refine V.getA (n := 156) d_Cp_count_153 f_Cp_33 (by assumption) rfl rfl ?_
      refine V.getI (n := 159) d_Cp_count_156 f_Cp_160 (by assumption) rfl rfl ?_
      refine V.iret d_Cp_count_159 ⟨_, rfl, rfl⟩ ?_
      exact hP _ _ ⟨_, rfl, rfl, fun _ _ => rfl, by rw [if_pos rfl]⟩
    simp only [if_neg k10, if_pos hb] at hP
    refine V.iload_n (n := 42) d_Cp_count_41 rfl rfl ?_
    refine V.switchOut (n := 160) d_Cp_count_42 (by omega) (by omega) (by decide) ?_
    refine V.bipush (n := 162) d_Cp_count_160 (by decide) rfl ?_
    refine V.iret d_Cp_count_162 ⟨_, rfl, rfl⟩ ?_
    exact hP _ _ ⟨_, rfl, rfl, fun _ _ => rfl, rfl⟩
  refine V.icmp_lt (n2 := 41) (n := 5) d_Cp_count_2 (by omega) (by omega) (by decide) rfl (fun c1 => ?_) (fun c1 => ?_)
  · refine V.loc (lo' := [(1, rI k), (0, rA E x)]) ⟨rfl, rfl, trivial⟩ ?_
    exact big (by omega)
  · refine V.iload_n (n := 6) d_Cp_count_5 rfl rfl ?_
    refine V.bipush (n := 8) d_Cp_count_6 (by decide) rfl ?_
    refine V.icmp_gt (n2 := 41) (n := 11) d_Cp_count_8 (by omega) (by omega) (by decide) rfl (fun c2 => ?_) (fun c2 => ?_)
    · refine V.loc (lo' := [(1, rI k), (0, rA E x)]) ⟨rfl, rfl, trivial⟩ ?_
      exact big (by omega)
    · simp only [if_neg (show ¬ k = 0 by omega), if_neg (show ¬ k = 1 by omega), if_neg (show ¬ k = 8 by omega), if_neg (show ¬ k = 9 by omega), if_neg (show ¬ k = 10 by omega), if_neg (show ¬ ¬ (2 ≤ k ∧ k ≤ 7) by omega)] at hP
      refine V.aload_n (n := 12) d_Cp_count_11 rfl rfl ?_
      refine V.getA (n := 15) d_Cp_count_12 f_Cp_10 (by assumption) rfl rfl ?_
      refine V.getA (n := 18) d_Cp_count_15 f_Cp_91 (by assumption) rfl rfl ?_
      refine V.cVi (n := 21) d_Cp_count_18 k_Cp_144 (c_Tr_isEmpty s2 (by omega)) rfl rfl (by decide) rfl ?_
      rw [hsz]
      rcases bi_or (F 1 = 0) with ⟨e0, e⟩ | ⟨e0, e⟩ <;> rw [e]
      · simp only [if_pos e0] at hP
        refine V.if_eqF (n := 24) d_Cp_count_21 (by omega) (by omega) rfl ⟨29, by decide⟩ ?_
        refine V.bipush (n := 26) d_Cp_count_24 (by decide) rfl ?_
        refine V.goto (n := 40) d_Cp_count_26 (by decide) ?_
        refine V.iret d_Cp_count_40 ⟨_, rfl, rfl⟩ ?_
        exact hP _ _ ⟨_, rfl, rfl, fun _ _ => rfl, rfl⟩
      · simp only [if_neg e0] at hP
        refine V.if_eqT (n2 := 29) d_Cp_count_21 (by omega) (by omega) (by decide) ?_
        refine V.aload_n (n := 30) d_Cp_count_29 rfl rfl ?_
        refine V.getA (n := 33) d_Cp_count_30 f_Cp_10 (by assumption) rfl rfl ?_
        refine V.getA (n := 36) d_Cp_count_33 f_Cp_91 (by assumption) rfl rfl ?_
        refine V.iload_n (n := 37) d_Cp_count_36 rfl rfl ?_
        refine V.cSqi (n := 40) d_Cp_count_37 k_Cp_226 (c_Cp_tellTree s1 s2 hS hW (by omega) (by omega)) rfl rfl rfl (by decide) rfl (fun z ν1 hq => ?_)
        obtain ⟨rfl, q1⟩ := hq
        refine V.iret d_Cp_count_40 ⟨_, rfl, rfl⟩ ?_
        exact hP _ _ ⟨_, rfl, rfl, fun _ _ => rfl, q1⟩
end CCT2
end
section
/-! THE CLASS ITSELF: games are changed -/
/-- cells that stay when the state is remembered and changed -/
def FR (x : Nat) (μ μ' : MU) : Prop := ∀ b, b < x + 1 ∨ (x + 31 < b ∧ b < x + 63) ∨ x + 188 < b → μ' b = μ b
theorem ShT.clr {μ : MU} {t : Nat} {F : Int → Int} (h : okX (μ (t + 8)) (μ (t + 10))) (h9 : μ t 9 = 0) (h1 : F 1 = 0) : ShT μ t F := ⟨by rw [h9, h1], h, fun n a b => by omega⟩
theorem outs_cut {L : List (Int × Int)} {k : Nat} {p q : Int} (h : okL L) (hk : k < L.length) (hg : L.getD k (0, 0) = (p, q)) : (outs L p).getD (outs (L.take k) p).length 0 = q ∧ outs L p = outs (L.take k) p ++ [q] ++ outs (L.drop (k + 1)) p ∧ outs (L.take k ++ L.drop (k + 1)) p = outs (L.take k) p ++ outs (L.drop (k + 1)) p ∧ (∀ p', ¬ p' = p → outs (L.take k ++ L.drop (k + 1)) p' = outs L p') ∧ ¬ q ∈ outs (L.take k) p := by
  have hs := split_at (L := L) (k := k) (0, 0) hk
  rw [hg] at hs
  have e1 : outs L p = outs (L.take k) p ++ [q] ++ outs (L.drop (k + 1)) p := by
    have := congrArg (fun M => outs M p) hs
    have this' : outs L p = outs (L.take k ++ [(p, q)] ++ L.drop (k + 1)) p := this
    rw [outs_app, outs_app, outs_one, if_pos rfl] at this'
    exact this'
  refine ⟨?_, e1, outs_app _ _ _, fun p' hp => ?_, fun hm => ?_⟩
  · rw [e1, getD_app1 (by rw [List.length_append]; show _ < _ + 1; omega)]
    have := getD_app2 (l := outs (L.take k) p) (m := [q]) (r := 0)
    rw [Nat.add_zero] at this
    rw [this]
    rfl
  · have := congrArg (fun M => outs M p') hs
    have this' : outs L p' = outs (L.take k ++ [(p, q)] ++ L.drop (k + 1)) p' := this
    rw [outs_app, outs_app, outs_one, if_neg (fun x => hp x.symm), List.append_nil] at this'
    rw [outs_app, this']
  · have h2 := mem_outs.mp hm
    have hn := h.1
    rw [hs] at hn
    have h3 := (List.nodup_append.mp (List.nodup_append.mp hn).1).2.2
    exact h3 _ h2 _ List.mem_cons_self rfl
section CCG
variable {E : EV} {l : Launch} {G : GG} {μ : MU} {x n : Nat} {p q r v a b k : Int} {F : Int → Int} {L : List (Int × Int)} {h : HF}
theorem c_Cp_setPosition (hX : isCheap G x) (hS : ShS μ (x + 1) F L) (hW : WF F L) (hC : CHs x μ n h) (hp : inR p) (ha : inR a) (hb : inR b) : KV E l 7 m_Cp_setPosition x [rI p, rI a, rI b] G μ 0 0 (dqi (fun z μ' => (¬ (0 ≤ p ∧ p ≤ 19) ∧ z = -1 ∧ μ' = μ) ∨ ((0 ≤ p ∧ p ≤ 19) ∧ ¬ ((0 ≤ a ∧ a ≤ 1) ∧ 0 ≤ b ∧ b ≤ 2) ∧ z = -2 ∧ μ' = μ) ∨ ((0 ≤ p ∧ p ≤ 19) ∧ ((0 ≤ a ∧ a ≤ 1) ∧ 0 ≤ b ∧ b ≤ 2) ∧ (F (3 + 5 * p + 0) = a ∧ F (3 + 5 * p + 1) = b) ∧ z = -5 ∧ μ' = μ) ∨ ((0 ≤ p ∧ p ≤ 19) ∧ ((0 ≤ a ∧ a ≤ 1) ∧ 0 ≤ b ∧ b ≤ 2) ∧ ¬ (F (3 + 5 * p + 0) = a ∧ F (3 + 5 * p + 1) = b) ∧ z = F (3 + 5 * p + 1) ∧ CHs x μ' (pn n) (ph n h F L) ∧ FR x μ μ' ∧ ∀ F', F' 1 = 0 → (∀ u w : Int, 0 ≤ u → u < 20 → 0 ≤ w → w < 5 → F' (3 + 5 * u + w) = if u = p ∧ w = 0 then a else if u = p ∧ w = 1 then b else F (3 + 5 * u + w)) → ShS μ' (x + 1) F' L)) G) := by
  have hX0 := hX
  obtain ⟨x0, x1, x2, x3, x4, x5, x6, x7⟩ := hX
  have hx1 := x1
  obtain ⟨s0, s1, s2⟩ := x1
  obtain ⟨g0, g1, g2, g3, g4, g5, g6⟩ := id s1
  obtain ⟨t0, t1, t2, t3, t4, t5, t6, t7, t8⟩ := id s2
  have hsz := hC.2.2.1
  have hn4 := hC.2.1
  refine ⟨KC.ofP q_Cp_setPosition.1 rfl (Nat.le_of_ble_eq_true rfl) rfl (fun Post NT ST hP => ?_), ⟨_, _, _, x0, rfl, rfl⟩, q_Cp_setPosition, by decide⟩
  refine V.iload_n (n := 1) d_Cp_setPosition_0 rfl rfl ?_
  refine V.cSi (n := 4) d_Cp_setPosition_1 k_Cp_60 (c_Cp_isPosition (by omega)) rfl rfl rfl (by decide) rfl ?_
  rcases bi_or (0 ≤ p ∧ p ≤ 19) with ⟨c1, e⟩ | ⟨c1, e⟩ <;> rw [e]
  · have hp20 : p < 20 := by omega
    have hG := hS.1.2 p c1.1 hp20
    have hQ := hW.2.2.1.1 p c1.1 hp20
    have bad : ¬ ((0 ≤ a ∧ a ≤ 1) ∧ 0 ≤ b ∧ b ≤ 2) → V E l m_Cp_setPosition none 7 NT ST Post 27 [(3, rI b), (2, rI a), (1, rI p), (0, rA E x)] [] G μ := by
      intro hb
      refine V.bipush (n := 29) d_Cp_setPosition_27 (by decide) rfl ?_
      refine V.iret d_Cp_setPosition_29 ⟨_, rfl, rfl⟩ ?_
      exact hP _ _ ⟨_, rfl, rfl, Or.inr (Or.inl ⟨c1, hb, rfl, rfl⟩)⟩
    have good : ((0 ≤ a ∧ a ≤ 1) ∧ 0 ≤ b ∧ b ≤ 2) → ¬ (F (3 + 5 * p + 0) = a ∧ F (3 + 5 * p + 1) = b) → V E l m_Cp_setPosition none 7 NT ST Post 72 [(5, rI (F (3 + 5 * p + 1))), (4, rA E (x + 1 + 1)), (3, rI b), (2, rI a), (1, rI p), (0, rA E x)] [] G μ := by
      intro hb hne
      refine V.aload_n (n := 73) d_Cp_setPosition_72 rfl rfl ?_
      refine V.getA (n := 76) d_Cp_setPosition_73 f_Cp_26 (by assumption) rfl rfl ?_
      refine V.aload_n (n := 77) d_Cp_setPosition_76 rfl rfl ?_
      refine V.getA (n := 80) d_Cp_setPosition_77 f_Cp_10 (by assumption) rfl rfl ?_
      refine V.cVqv (n := 83) d_Cp_setPosition_80 k_Cp_83 (c_Hi_remember x3 hC.1 (by omega) (by omega) hx1 (by omega)) rfl rfl (by decide) rfl (fun ν hq => ?_)
      obtain ⟨hC1, fr⟩ := hC.push hS hW hq
      have hS1 : ShS ν (x + 1) F L := hS.at fun b b0 b1 => fr b (by omega)
      refine V.aload (n := 85) d_Cp_setPosition_83 rfl rfl ?_
      refine V.getA (n := 88) d_Cp_setPosition_85 f_Cp_80 (by assumption) rfl rfl ?_
      refine V.iload_n (n := 89) d_Cp_setPosition_88 rfl rfl ?_
      refine V.iload_n (n := 90) d_Cp_setPosition_89 rfl rfl ?_
      refine V.cVv (n := 93) d_Cp_setPosition_90 k_Cp_87 (c_Rw_set (by assumption) (by omega) (by omega)) rfl rfl (by decide) rfl ?_
      refine V.aload (n := 95) d_Cp_setPosition_93 rfl rfl ?_
      refine V.getA (n := 98) d_Cp_setPosition_95 f_Cp_68 (by assumption) rfl rfl ?_
      refine V.iload_n (n := 99) d_Cp_setPosition_98 rfl rfl ?_
      refine V.iload_n (n := 100) d_Cp_setPosition_99 rfl rfl ?_
      refine V.cVv (n := 103) d_Cp_setPosition_100 k_Cp_87 (c_Rw_set (by assumption) (by omega) (by omega)) rfl rfl (by decide) rfl ?_
      refine V.aload_n (n := 104) d_Cp_setPosition_103 rfl rfl ?_
      refine V.getA (n := 107) d_Cp_setPosition_104 f_Cp_10 (by assumption) rfl rfl ?_
      refine V.getA (n := 110) d_Cp_setPosition_107 f_Cp_91 (by assumption) rfl rfl ?_
      refine V.cVv (n := 113) d_Cp_setPosition_110 k_Cp_95 (c_Tr_clear (by assumption)) rfl rfl (by decide) rfl ?_
      refine V.iload (n := 115) d_Cp_setPosition_113 rfl rfl ?_
      refine V.iret d_Cp_setPosition_115 ⟨_, rfl, rfl⟩ ?_
      refine hP _ _ ⟨_, rfl, rfl, Or.inr (Or.inr (Or.inr ⟨c1, hb, hne, rfl, hC1.at fun b b0 b1 => by rw [wr_a (by omega), wr_a (by omega), wr_a (by omega)], fun b hb => by rw [wr_a (by omega), wr_a (by omega), wr_a (by omega), fr b (by omega)], fun F' f1 f2 => ⟨⟨?_, fun u u0 u1 => ?_⟩, ShT.clr ?_ (wr_s _ _ _ _) f1⟩⟩))⟩
      · exact hS1.1.1.kept hW.1 (fun j _ _ => by rw [wr_a (by omega), wr_a (by omega), wr_a (by omega)]) (fun j _ _ => by rw [wr_a (by omega), wr_a (by omega), wr_a (by omega)]) (by rw [wr_a (by omega), wr_a (by omega), wr_a (by omega)])
      · have hu := hS1.1.2 u u0 u1
        rw [f2 u 0 u0 u1 (by omega) (by omega), f2 u 1 u0 u1 (by omega) (by omega), f2 u 2 u0 u1 (by omega) (by omega), f2 u 3 u0 u1 (by omega) (by omega)]
        rw [wr_a (show ¬ x + 1 + 1 + 2 = x + 1 + 14 by omega), wr_a (show ¬ x + 1 + 1 + 2 = x + 1 + 1 + 4 by omega), wr_v, wr_a (show ¬ x + 1 + 1 + 4 = x + 1 + 14 by omega), wr_v, wr_a (show ¬ x + 1 + 1 + 4 = x + 1 + 1 + 2 by omega), wr_a (show ¬ x + 1 + 1 + 6 = x + 1 + 14 by omega), wr_a (show ¬ x + 1 + 1 + 6 = x + 1 + 1 + 4 by omega), wr_a (show ¬ x + 1 + 1 + 6 = x + 1 + 1 + 2 by omega), wr_a (show ¬ x + 1 + 1 + 8 = x + 1 + 14 by omega), wr_a (show ¬ x + 1 + 1 + 8 = x + 1 + 1 + 4 by omega), wr_a (show ¬ x + 1 + 1 + 8 = x + 1 + 1 + 2 by omega)]
        by_cases e : u = p
        · rw [if_pos e, if_pos e, if_pos (by omega), if_neg (by omega), if_pos (by omega), if_neg (by omega), if_neg (by omega), if_neg (by omega), if_neg (by omega)]
          exact ⟨rfl, rfl, hu.2.2.1, hu.2.2.2⟩
        · rw [if_neg e, if_neg e, if_neg (by omega), if_neg (by omega), if_neg (by omega), if_neg (by omega), if_neg (by omega), if_neg (by omega), if_neg (by omega), if_neg (by omega)]
          exact hu
      · rw [wr_a (by omega), wr_a (by omega), wr_a (by omega), wr_a (by omega), wr_a (by omega), wr_a (by omega)]
        exact hS1.2.2.1
    refine V.if_neT (n2 := 9) d_Cp_setPosition_4 (by omega) (by omega) (by decide) ?_
    refine V.iload_n (n := 10) d_Cp_setPosition_9 rfl rfl ?_
    refine V.if_lt (n2 := 27) (n := 13) d_Cp_setPosition_10 (by omega) (by decide) rfl (fun d1 => ?_) (fun d1 => ?_)
    · refine V.loc (lo' := [(3, rI b), (2, rI a), (1, rI p), (0, rA E x)]) ⟨rfl, rfl, rfl, rfl, trivial⟩ ?_
      exact bad (by omega)
    · refine V.iload_n (n := 14) d_Cp_setPosition_13 rfl rfl ?_
      refine V.iconst (n := 15) d_Cp_setPosition_14 rfl ?_
      refine V.icmp_gt (n2 := 27) (n := 18) d_Cp_setPosition_15 (by omega) (by omega) (by decide) rfl (fun d2 => ?_) (fun d2 => ?_)
      · refine V.loc (lo' := [(3, rI b), (2, rI a), (1, rI p), (0, rA E x)]) ⟨rfl, rfl, rfl, rfl, trivial⟩ ?_
        exact bad (by omega)
      · refine V.iload_n (n := 19) d_Cp_setPosition_18 rfl rfl ?_
        refine V.if_lt (n2 := 27) (n := 22) d_Cp_setPosition_19 (by omega) (by decide) rfl (fun d3 => ?_) (fun d3 => ?_)
        · refine V.loc (lo' := [(3, rI b), (2, rI a), (1, rI p), (0, rA E x)]) ⟨rfl, rfl, rfl, rfl, trivial⟩ ?_
          exact bad (by omega)
        · refine V.iload_n (n := 23) d_Cp_setPosition_22 rfl rfl ?_
          refine V.iconst (n := 24) d_Cp_setPosition_23 rfl ?_
          refine V.icmp_le (n2 := 30) (n := 27) d_Cp_setPosition_24 (by omega) (by omega) (by decide) rfl (fun d4 => ?_) (fun d4 => ?_)
          · refine V.aload_n (n := 31) d_Cp_setPosition_30 rfl rfl ?_
            refine V.getA (n := 34) d_Cp_setPosition_31 f_Cp_10 (by assumption) rfl rfl ?_
            refine V.getA (n := 37) d_Cp_setPosition_34 f_Cp_64 (by assumption) rfl rfl ?_
            refine V.astore (n := 39) d_Cp_setPosition_37 (by decide) rfl ?_
            refine V.aload (n := 41) d_Cp_setPosition_39 rfl rfl ?_
            refine V.getA (n := 44) d_Cp_setPosition_41 f_Cp_68 (by assumption) rfl rfl ?_
            refine V.iload_n (n := 45) d_Cp_setPosition_44 rfl rfl ?_
            refine V.cVi (n := 48) d_Cp_setPosition_45 k_Cp_74 (c_Rw_get (by assumption) (by omega) (by omega)) rfl rfl (by decide) rfl ?_
            rw [hG.2.1]
            refine V.istore (n := 50) d_Cp_setPosition_48 (by decide) rfl ?_
            refine V.iload (n := 52) d_Cp_setPosition_50 rfl rfl ?_
            refine V.iload_n (n := 53) d_Cp_setPosition_52 rfl rfl ?_
            refine V.icmp_ne (n2 := 72) (n := 56) d_Cp_setPosition_53 (by omega) (by omega) (by decide) rfl (fun d5 => ?_) (fun d5 => ?_)
            · refine V.loc (lo' := [(5, rI (F (3 + 5 * p + 1))), (4, rA E (x + 1 + 1)), (3, rI b), (2, rI a), (1, rI p), (0, rA E x)]) ⟨rfl, rfl, rfl, rfl, rfl, rfl, trivial⟩ ?_
              exact good (by omega) (by omega)
            · refine V.aload (n := 58) d_Cp_setPosition_56 rfl rfl ?_
              refine V.getA (n := 61) d_Cp_setPosition_58 f_Cp_80 (by assumption) rfl rfl ?_
              refine V.iload_n (n := 62) d_Cp_setPosition_61 rfl rfl ?_
              refine V.cVi (n := 65) d_Cp_setPosition_62 k_Cp_74 (c_Rw_get (by assumption) (by omega) (by omega)) rfl rfl (by decide) rfl ?_
              rw [hG.1]
              refine V.iload_n (n := 66) d_Cp_setPosition_65 rfl rfl ?_
              refine V.icmp_ne (n2 := 72) (n := 69) d_Cp_setPosition_66 (by omega) (by omega) (by decide) rfl (fun d6 => ?_) (fun d6 => ?_)
              · refine V.loc (lo' := [(5, rI (F (3 + 5 * p + 1))), (4, rA E (x + 1 + 1)), (3, rI b), (2, rI a), (1, rI p), (0, rA E x)]) ⟨rfl, rfl, rfl, rfl, rfl, rfl, trivial⟩ ?_
                exact good (by omega) (by omega)
              · refine V.bipush (n := 71) d_Cp_setPosition_69 (by decide) rfl ?_
                refine V.iret d_Cp_setPosition_71 ⟨_, rfl, rfl⟩ ?_
                exact hP _ _ ⟨_, rfl, rfl, Or.inr (Or.inr (Or.inl ⟨c1, by omega, by omega, rfl, rfl⟩))⟩
          · refine V.loc (lo' := [(3, rI b), (2, rI a), (1, rI p), (0, rA E x)]) ⟨rfl, rfl, rfl, rfl, trivial⟩ ?_
            exact bad (by omega)
  · refine V.if_neF (n := 7) d_Cp_setPosition_4 (by omega) (by omega) rfl ⟨9, by decide⟩ ?_
    refine V.iconst (n := 8) d_Cp_setPosition_7 rfl ?_
    refine V.iret d_Cp_setPosition_8 ⟨_, rfl, rfl⟩ ?_
    exact hP _ _ ⟨_, rfl, rfl, Or.inl ⟨c1, rfl, rfl⟩⟩
theorem c_Cp_guess (hX : isCheap G x) (hS : ShS μ (x + 1) F L) (hW : WF F L) (hC : CHs x μ n h) (hp : inR p) (ha : inR a) (hb : inR b) : KV E l 7 m_Cp_guess x [rI p, rI a, rI b] G μ 0 0 (dqi (fun z μ' => (¬ (0 ≤ p ∧ p ≤ 19) ∧ z = -1 ∧ μ' = μ) ∨ ((0 ≤ p ∧ p ≤ 19) ∧ ¬ ((1 ≤ a ∧ a ≤ 9) ∧ 1 ≤ b ∧ b ≤ 9) ∧ z = -2 ∧ μ' = μ) ∨ ((0 ≤ p ∧ p ≤ 19) ∧ ((1 ≤ a ∧ a ≤ 9) ∧ 1 ≤ b ∧ b ≤ 9) ∧ (F (3 + 5 * p + 2) = a ∧ F (3 + 5 * p + 3) = b) ∧ z = -5 ∧ μ' = μ) ∨ ((0 ≤ p ∧ p ≤ 19) ∧ ((1 ≤ a ∧ a ≤ 9) ∧ 1 ≤ b ∧ b ≤ 9) ∧ ¬ (F (3 + 5 * p + 2) = a ∧ F (3 + 5 * p + 3) = b) ∧ z = F (3 + 5 * p + 2) ∧ CHs x μ' (pn n) (ph n h F L) ∧ FR x μ μ' ∧ ∀ F', F' 1 = 0 → (∀ u w : Int, 0 ≤ u → u < 20 → 0 ≤ w → w < 5 → F' (3 + 5 * u + w) = if u = p ∧ w = 2 then a else if u = p ∧ w = 3 then b else F (3 + 5 * u + w)) → ShS μ' (x + 1) F' L)) G) := by
  have hX0 := hX
  obtain ⟨x0, x1, x2, x3, x4, x5, x6, x7⟩ := hX
  have hx1 := x1
  obtain ⟨s0, s1, s2⟩ := x1
  obtain ⟨g0, g1, g2, g3, g4, g5, g6⟩ := id s1
  obtain ⟨t0, t1, t2, t3, t4, t5, t6, t7, t8⟩ := id s2
  have hsz := hC.2.2.1
  have hn4 := hC.2.1
  refine ⟨KC.ofP q_Cp_guess.1 rfl (Nat.le_of_ble_eq_true rfl) rfl (fun Post NT ST hP => ?_), ⟨_, _, _, x0, rfl, rfl⟩, q_Cp_guess, by decide⟩
  refine V.iload_n (n := 1) d_Cp_guess_0 rfl rfl ?_
  refine V.cSi (n := 4) d_Cp_guess_1 k_Cp_60 (c_Cp_isPosition (by omega)) rfl rfl rfl (by decide) rfl ?_
  rcases bi_or (0 ≤ p ∧ p ≤ 19) with ⟨c1, e⟩ | ⟨c1, e⟩ <;> rw [e]
  · have hp20 : p < 20 := by omega
    have hG := hS.1.2 p c1.1 hp20
    have hQ := hW.2.2.1.1 p c1.1 hp20
    have bad : ¬ ((1 ≤ a ∧ a ≤ 9) ∧ 1 ≤ b ∧ b ≤ 9) → V E l m_Cp_guess none 7 NT ST Post 23 [(3, rI b), (2, rI a), (1, rI p), (0, rA E x)] [] G μ := by
      intro hb
      refine V.bipush (n := 25) d_Cp_guess_23 (by decide) rfl ?_
      refine V.iret d_Cp_guess_25 ⟨_, rfl, rfl⟩ ?_
      exact hP _ _ ⟨_, rfl, rfl, Or.inr (Or.inl ⟨c1, hb, rfl, rfl⟩)⟩
    have good : ((1 ≤ a ∧ a ≤ 9) ∧ 1 ≤ b ∧ b ≤ 9) → ¬ (F (3 + 5 * p + 2) = a ∧ F (3 + 5 * p + 3) = b) → V E l m_Cp_guess none 7 NT ST Post 68 [(5, rI (F (3 + 5 * p + 2))), (4, rA E (x + 1 + 1)), (3, rI b), (2, rI a), (1, rI p), (0, rA E x)] [] G μ := by
      intro hb hne
      refine V.aload_n (n := 69) d_Cp_guess_68 rfl rfl ?_
      refine V.getA (n := 72) d_Cp_guess_69 f_Cp_26 (by assumption) rfl rfl ?_
      refine V.aload_n (n := 73) d_Cp_guess_72 rfl rfl ?_
      refine V.getA (n := 76) d_Cp_guess_73 f_Cp_10 (by assumption) rfl rfl ?_
      refine V.cVqv (n := 79) d_Cp_guess_76 k_Cp_83 (c_Hi_remember x3 hC.1 (by omega) (by omega) hx1 (by omega)) rfl rfl (by decide) rfl (fun ν hq => ?_)
      obtain ⟨hC1, fr⟩ := hC.push hS hW hq
      have hS1 : ShS ν (x + 1) F L := hS.at fun b b0 b1 => fr b (by omega)
      refine V.aload (n := 81) d_Cp_guess_79 rfl rfl ?_
      refine V.getA (n := 84) d_Cp_guess_81 f_Cp_103 (by assumption) rfl rfl ?_
      refine V.iload_n (n := 85) d_Cp_guess_84 rfl rfl ?_
      refine V.iload_n (n := 86) d_Cp_guess_85 rfl rfl ?_
      refine V.cVv (n := 89) d_Cp_guess_86 k_Cp_87 (c_Rw_set (by assumption) (by omega) (by omega)) rfl rfl (by decide) rfl ?_
      refine V.aload (n := 91) d_Cp_guess_89 rfl rfl ?_
      refine V.getA (n := 94) d_Cp_guess_91 f_Cp_106 (by assumption) rfl rfl ?_
      refine V.iload_n (n := 95) d_Cp_guess_94 rfl rfl ?_
      refine V.iload_n (n := 96) d_Cp_guess_95 rfl rfl ?_
      refine V.cVv (n := 99) d_Cp_guess_96 k_Cp_87 (c_Rw_set (by assumption) (by omega) (by omega)) rfl rfl (by decide) rfl ?_
      refine V.aload_n (n := 100) d_Cp_guess_99 rfl rfl ?_
      refine V.getA (n := 103) d_Cp_guess_100 f_Cp_10 (by assumption) rfl rfl ?_
      refine V.getA (n := 106) d_Cp_guess_103 f_Cp_91 (by assumption) rfl rfl ?_
      refine V.cVv (n := 109) d_Cp_guess_106 k_Cp_95 (c_Tr_clear (by assumption)) rfl rfl (by decide) rfl ?_
      refine V.iload (n := 111) d_Cp_guess_109 rfl rfl ?_
      refine V.iret d_Cp_guess_111 ⟨_, rfl, rfl⟩ ?_
      refine hP _ _ ⟨_, rfl, rfl, Or.inr (Or.inr (Or.inr ⟨c1, hb, hne, rfl, hC1.at fun b b0 b1 => by rw [wr_a (by omega), wr_a (by omega), wr_a (by omega)], fun b hb => by rw [wr_a (by omega), wr_a (by omega), wr_a (by omega), fr b (by omega)], fun F' f1 f2 => ⟨⟨?_, fun u u0 u1 => ?_⟩, ShT.clr ?_ (wr_s _ _ _ _) f1⟩⟩))⟩
      · exact hS1.1.1.kept hW.1 (fun j _ _ => by rw [wr_a (by omega), wr_a (by omega), wr_a (by omega)]) (fun j _ _ => by rw [wr_a (by omega), wr_a (by omega), wr_a (by omega)]) (by rw [wr_a (by omega), wr_a (by omega), wr_a (by omega)])
      · have hu := hS1.1.2 u u0 u1
        rw [f2 u 0 u0 u1 (by omega) (by omega), f2 u 1 u0 u1 (by omega) (by omega), f2 u 2 u0 u1 (by omega) (by omega), f2 u 3 u0 u1 (by omega) (by omega)]
        rw [wr_a (show ¬ x + 1 + 1 + 6 = x + 1 + 14 by omega), wr_a (show ¬ x + 1 + 1 + 6 = x + 1 + 1 + 8 by omega), wr_v, wr_a (show ¬ x + 1 + 1 + 8 = x + 1 + 14 by omega), wr_v, wr_a (show ¬ x + 1 + 1 + 8 = x + 1 + 1 + 6 by omega), wr_a (show ¬ x + 1 + 1 + 2 = x + 1 + 14 by omega), wr_a (show ¬ x + 1 + 1 + 2 = x + 1 + 1 + 8 by omega), wr_a (show ¬ x + 1 + 1 + 2 = x + 1 + 1 + 6 by omega), wr_a (show ¬ x + 1 + 1 + 4 = x + 1 + 14 by omega), wr_a (show ¬ x + 1 + 1 + 4 = x + 1 + 1 + 8 by omega), wr_a (show ¬ x + 1 + 1 + 4 = x + 1 + 1 + 6 by omega)]
        rw [if_neg (show ¬ (u = p ∧ (0 : Int) = 2) by omega), if_neg (show ¬ (u = p ∧ (0 : Int) = 3) by omega), if_neg (show ¬ (u = p ∧ (1 : Int) = 2) by omega), if_neg (show ¬ (u = p ∧ (1 : Int) = 3) by omega), if_neg (show ¬ (u = p ∧ (3 : Int) = 2) by omega)]
        by_cases e : u = p
        · rw [if_pos e, if_pos e, if_pos ⟨e, rfl⟩, if_pos ⟨e, rfl⟩]
          exact ⟨hu.1, hu.2.1, rfl, rfl⟩
        · rw [if_neg e, if_neg e, if_neg (fun q => e q.1), if_neg (fun q => e q.1), if_neg (fun q => e q.1)]
          exact hu
      · rw [wr_a (by omega), wr_a (by omega), wr_a (by omega), wr_a (by omega), wr_a (by omega), wr_a (by omega)]
        exact hS1.2.2.1
    refine V.if_neT (n2 := 9) d_Cp_guess_4 (by omega) (by omega) (by decide) ?_
    refine V.iload_n (n := 10) d_Cp_guess_9 rfl rfl ?_
    refine V.cSi (n := 13) d_Cp_guess_10 k_Cp_100 (c_Cp_isGuess (by omega)) rfl rfl rfl (by decide) rfl ?_
    rcases bi_or (1 ≤ a ∧ a ≤ 9) with ⟨d1, e⟩ | ⟨d1, e⟩ <;> rw [e]
    · refine V.if_eqF (n := 16) d_Cp_guess_13 (by omega) (by omega) rfl ⟨23, by decide⟩ ?_
      refine V.iload_n (n := 17) d_Cp_guess_16 rfl rfl ?_
      refine V.cSi (n := 20) d_Cp_guess_17 k_Cp_100 (c_Cp_isGuess (by omega)) rfl rfl rfl (by decide) rfl ?_
      rcases bi_or (1 ≤ b ∧ b ≤ 9) with ⟨d2, e⟩ | ⟨d2, e⟩ <;> rw [e]
      · refine V.if_neT (n2 := 26) d_Cp_guess_20 (by omega) (by omega) (by decide) ?_
        refine V.aload_n (n := 27) d_Cp_guess_26 rfl rfl ?_
        refine V.getA (n := 30) d_Cp_guess_27 f_Cp_10 (by assumption) rfl rfl ?_
        refine V.getA (n := 33) d_Cp_guess_30 f_Cp_64 (by assumption) rfl rfl ?_
        refine V.astore (n := 35) d_Cp_guess_33 (by decide) rfl ?_
        refine V.aload (n := 37) d_Cp_guess_35 rfl rfl ?_
        refine V.getA (n := 40) d_Cp_guess_37 f_Cp_103 (by assumption) rfl rfl ?_
        refine V.iload_n (n := 41) d_Cp_guess_40 rfl rfl ?_
        refine V.cVi (n := 44) d_Cp_guess_41 k_Cp_74 (c_Rw_get (by assumption) (by omega) (by omega)) rfl rfl (by decide) rfl ?_
        rw [hG.2.2.1]
        refine V.istore (n := 46) d_Cp_guess_44 (by decide) rfl ?_
        refine V.iload (n := 48) d_Cp_guess_46 rfl rfl ?_
        refine V.iload_n (n := 49) d_Cp_guess_48 rfl rfl ?_
        refine V.icmp_ne (n2 := 68) (n := 52) d_Cp_guess_49 (by omega) (by omega) (by decide) rfl (fun d5 => ?_) (fun d5 => ?_)
        · refine V.loc (lo' := [(5, rI (F (3 + 5 * p + 2))), (4, rA E (x + 1 + 1)), (3, rI b), (2, rI a), (1, rI p), (0, rA E x)]) ⟨rfl, rfl, rfl, rfl, rfl, rfl, trivial⟩ ?_
          exact good (by omega) (by omega)
        · refine V.aload (n := 54) d_Cp_guess_52 rfl rfl ?_
          refine V.getA (n := 57) d_Cp_guess_54 f_Cp_106 (by assumption) rfl rfl ?_
          refine V.iload_n (n := 58) d_Cp_guess_57 rfl rfl ?_
          refine V.cVi (n := 61) d_Cp_guess_58 k_Cp_74 (c_Rw_get (by assumption) (by omega) (by omega)) rfl rfl (by decide) rfl ?_
          rw [hG.2.2.2]
          refine V.iload_n (n := 62) d_Cp_guess_61 rfl rfl ?_
          refine V.icmp_ne (n2 := 68) (n := 65) d_Cp_guess_62 (by omega) (by omega) (by decide) rfl (fun d6 => ?_) (fun d6 => ?_)
          · refine V.loc (lo' := [(5, rI (F (3 + 5 * p + 2))), (4, rA E (x + 1 + 1)), (3, rI b), (2, rI a), (1, rI p), (0, rA E x)]) ⟨rfl, rfl, rfl, rfl, rfl, rfl, trivial⟩ ?_
            exact good (by omega) (by omega)
          · refine V.bipush (n := 67) d_Cp_guess_65 (by decide) rfl ?_
            refine V.iret d_Cp_guess_67 ⟨_, rfl, rfl⟩ ?_
            exact hP _ _ ⟨_, rfl, rfl, Or.inr (Or.inr (Or.inl ⟨c1, by omega, by omega, rfl, rfl⟩))⟩
      · refine V.if_neF (n := 23) d_Cp_guess_20 (by omega) (by omega) rfl ⟨26, by decide⟩ ?_
        refine V.loc (lo' := [(3, rI b), (2, rI a), (1, rI p), (0, rA E x)]) ⟨rfl, rfl, rfl, rfl, trivial⟩ ?_
        exact bad (by omega)
    · refine V.if_eqT (n2 := 23) d_Cp_guess_13 (by omega) (by omega) (by decide) ?_
      refine V.loc (lo' := [(3, rI b), (2, rI a), (1, rI p), (0, rA E x)]) ⟨rfl, rfl, rfl, rfl, trivial⟩ ?_
      exact bad (by omega)
  · refine V.if_neF (n := 7) d_Cp_guess_4 (by omega) (by omega) rfl ⟨9, by decide⟩ ?_
    refine V.iconst (n := 8) d_Cp_guess_7 rfl ?_
    refine V.iret d_Cp_guess_8 ⟨_, rfl, rfl⟩ ?_
    exact hP _ _ ⟨_, rfl, rfl, Or.inl ⟨c1, rfl, rfl⟩⟩
theorem c_Cp_addMove (hX : isCheap G x) (hS : ShS μ (x + 1) F L) (hW : WF F L) (hC : CHs x μ n h) (hp : inR p) (hq : inR q) : KV E l 7 m_Cp_addMove x [rI p, rI q] G μ 0 0 (dqi (fun z μ' => (¬ ((0 ≤ p ∧ p ≤ 19) ∧ 0 ≤ q ∧ q ≤ 19) ∧ z = -1 ∧ μ' = μ) ∨ (((0 ≤ p ∧ p ≤ 19) ∧ 0 ≤ q ∧ q ≤ 19) ∧ (p, q) ∈ L ∧ z = -5 ∧ μ' = μ) ∨ (((0 ≤ p ∧ p ≤ 19) ∧ 0 ≤ q ∧ q ≤ 19) ∧ ¬ (p, q) ∈ L ∧ L.length = 60 ∧ z = -3 ∧ μ' = μ) ∨ (((0 ≤ p ∧ p ≤ 19) ∧ 0 ≤ q ∧ q ≤ 19) ∧ ¬ (p, q) ∈ L ∧ L.length < 60 ∧ z = ((outs (L ++ [(p, q)]) p).length : Int) ∧ CHs x μ' (pn n) (ph n h F L) ∧ FR x μ μ' ∧ ∀ F', F' 1 = 0 → (∀ u w : Int, 0 ≤ u → u < 20 → 0 ≤ w → w < 5 → F' (3 + 5 * u + w) = F (3 + 5 * u + w)) → ShS μ' (x + 1) F' (L ++ [(p, q)]))) G) := by
  have hX0 := hX
  obtain ⟨x0, x1, x2, x3, x4, x5, x6, x7⟩ := hX
  have hx1 := x1
  obtain ⟨s0, s1, s2⟩ := x1
  obtain ⟨g0, g1, g2, g3, g4, g5, g6⟩ := id s1
  obtain ⟨t0, t1, t2, t3, t4, t5, t6, t7, t8⟩ := id s2
  have hsz := hC.2.2.1
  have hn4 := hC.2.1
  have hm := hS.1.1.2
  have h60 := hW.2.1.2.1
  have bad : ¬ ((0 ≤ p ∧ p ≤ 19) ∧ 0 ≤ q ∧ q ≤ 19) → ∀ {NT ST : Nat} {Post : Option Value → GG → MU → Prop}, (∀ v μ', (dqi (fun z μ' => (¬ ((0 ≤ p ∧ p ≤ 19) ∧ 0 ≤ q ∧ q ≤ 19) ∧ z = -1 ∧ μ' = μ)) G) v G μ' → Post v G μ') → V E l m_Cp_addMove none 7 NT ST Post 14 [(2, rI q), (1, rI p), (0, rA E x)] [] G μ := by
    intro hb NT ST Post hP
    refine V.iconst (n := 15) d_Cp_addMove_14 rfl ?_
    refine V.iret d_Cp_addMove_15 ⟨_, rfl, rfl⟩ ?_
    exact hP _ _ ⟨_, rfl, rfl, hb, rfl, rfl⟩
  refine ⟨KC.ofP q_Cp_addMove.1 rfl (Nat.le_of_ble_eq_true rfl) rfl (fun Post NT ST hP => ?_), ⟨_, _, _, x0, rfl, rfl⟩, q_Cp_addMove, by decide⟩
  refine V.iload_n (n := 1) d_Cp_addMove_0 rfl rfl ?_
  refine V.cSi (n := 4) d_Cp_addMove_1 k_Cp_60 (c_Cp_isPosition (by omega)) rfl rfl rfl (by decide) rfl ?_
  rcases bi_or (0 ≤ p ∧ p ≤ 19) with ⟨c1, e⟩ | ⟨c1, e⟩ <;> rw [e]
  · refine V.if_eqF (n := 7) d_Cp_addMove_4 (by omega) (by omega) rfl ⟨14, by decide⟩ ?_
    refine V.iload_n (n := 8) d_Cp_addMove_7 rfl rfl ?_
    refine V.cSi (n := 11) d_Cp_addMove_8 k_Cp_60 (c_Cp_isPosition (by omega)) rfl rfl rfl (by decide) rfl ?_
    rcases bi_or (0 ≤ q ∧ q ≤ 19) with ⟨c2, e⟩ | ⟨c2, e⟩ <;> rw [e]
    · have hp20 : 0 ≤ p ∧ p < 20 := by omega
      have hq20 : 0 ≤ q ∧ q < 20 := by omega
      refine V.if_neT (n2 := 16) d_Cp_addMove_11 (by omega) (by omega) (by decide) ?_
      refine V.aload_n (n := 17) d_Cp_addMove_16 rfl rfl ?_
      refine V.getA (n := 20) d_Cp_addMove_17 f_Cp_10 (by assumption) rfl rfl ?_
      refine V.getA (n := 23) d_Cp_addMove_20 f_Cp_64 (by assumption) rfl rfl ?_
      refine V.astore_n (n := 24) d_Cp_addMove_23 (by decide) rfl ?_
      refine V.aload_n (n := 25) d_Cp_addMove_24 rfl rfl ?_
      refine V.iload_n (n := 26) d_Cp_addMove_25 rfl rfl ?_
      refine V.iload_n (n := 27) d_Cp_addMove_26 rfl rfl ?_
      refine V.cVqi (n := 30) d_Cp_addMove_27 k_Cp_109 (c_Gm_rankL s1 hW.1 hS.1.1 hp20.1 hp20.2 hq) rfl rfl (by decide) rfl (fun z νx hq => ?_)
      obtain ⟨rfl, hr⟩ := hq
      have hle := outs_le hW.1 p
      rcases hr with ⟨z0, z1, r, z2, z3, -⟩ | ⟨z0, z1⟩
      · refine V.bipush (n := 32) d_Cp_addMove_30 (by decide) rfl ?_
        refine V.icmp_eqF (n := 35) d_Cp_addMove_32 (by omega) (by omega) (by omega) rfl ⟨38, by decide⟩ ?_
        refine V.bipush (n := 37) d_Cp_addMove_35 (by decide) rfl ?_
        refine V.iret d_Cp_addMove_37 ⟨_, rfl, rfl⟩ ?_
        exact hP _ _ ⟨_, rfl, rfl, Or.inr (Or.inl ⟨⟨c1, c2⟩, z1, rfl, rfl⟩)⟩
      · refine V.bipush (n := 32) d_Cp_addMove_30 (by decide) rfl ?_
        refine V.icmp_eqT (n2 := 38) d_Cp_addMove_32 (by omega) (by omega) (by omega) (by decide) ?_
        refine V.aload_n (n := 39) d_Cp_addMove_38 rfl rfl ?_
        refine V.getI (n := 42) d_Cp_addMove_39 f_Cp_113 (by assumption) rfl rfl ?_
        rw [hm]
        refine V.bipush (n := 44) d_Cp_addMove_42 (by decide) rfl ?_
        refine V.icmp_lt (n2 := 50) (n := 47) d_Cp_addMove_44 (by omega) (by omega) (by decide) rfl (fun h6 => ?_) (fun h6 => ?_)
        · refine V.aload_n (n := 51) d_Cp_addMove_50 rfl rfl ?_
          refine V.getA (n := 54) d_Cp_addMove_51 f_Cp_26 (by assumption) rfl rfl ?_
          refine V.aload_n (n := 55) d_Cp_addMove_54 rfl rfl ?_
          refine V.getA (n := 58) d_Cp_addMove_55 f_Cp_10 (by assumption) rfl rfl ?_
          refine V.cVqv (n := 61) d_Cp_addMove_58 k_Cp_83 (c_Hi_remember x3 hC.1 (by omega) (by omega) hx1 (by omega)) rfl rfl (by decide) rfl (fun ν hq => ?_)
          obtain ⟨hC1, fr⟩ := hC.push hS hW hq
          have hS1 : ShS ν (x + 1) F L := hS.at fun b b0 b1 => fr b (by omega)
          have hcp := (hS1.1.1.1 p hp20.1 hp20.2).1
          have hlt := outs_lt hW.1 hq20 z1
          have hadd := hS1.1.1.add hW.1 hp20 hq20 z1
          refine V.aload_n (n := 62) d_Cp_addMove_61 rfl rfl ?_
          refine V.iload_n (n := 63) d_Cp_addMove_62 rfl rfl ?_
          refine V.iload_n (n := 64) d_Cp_addMove_63 rfl rfl ?_
          refine V.cVv (n := 67) d_Cp_addMove_64 k_Cp_117 (c_Gm_append s1 hp20.1 hp20.2 (by omega) (by omega)) rfl rfl (by decide) rfl ?_
          refine V.aload_n (n := 68) d_Cp_addMove_67 rfl rfl ?_
          refine V.getA (n := 71) d_Cp_addMove_68 f_Cp_10 (by assumption) rfl rfl ?_
          refine V.getA (n := 74) d_Cp_addMove_71 f_Cp_91 (by assumption) rfl rfl ?_
          refine V.cVv (n := 77) d_Cp_addMove_74 k_Cp_95 (c_Tr_clear (by assumption)) rfl rfl (by decide) rfl ?_
          refine V.aload_n (n := 78) d_Cp_addMove_77 rfl rfl ?_
          refine V.getA (n := 81) d_Cp_addMove_78 f_Cp_120 (by assumption) rfl rfl ?_
          refine V.iload_n (n := 82) d_Cp_addMove_81 rfl rfl ?_
          have hres : wr (wr (wr (wr ν (x + 1 + 1 + 12) (p * 20 + ν (x + 1 + 1 + 10) p) q) (x + 1 + 1 + 10) p (ν (x + 1 + 1 + 10) p + 1)) (x + 1 + 1) 6 (ν (x + 1 + 1) 6 + 1)) (x + 1 + 14) 9 0 (x + 1 + 1 + 10) p = ((outs (L ++ [(p, q)]) p).length : Int) := by
            rw [wr_a (by omega)]
            exact (hadd.1 p hp20.1 hp20.2).1
          refine V.cVi (n := 85) d_Cp_addMove_82 k_Cp_74 (c_Rw_get (by assumption) (by omega) (by omega)) rfl rfl (by decide) rfl ?_
          rw [hres]
          refine V.iret d_Cp_addMove_85 ⟨_, rfl, rfl⟩ ?_
          refine hP _ _ ⟨_, rfl, rfl, Or.inr (Or.inr (Or.inr ⟨⟨c1, c2⟩, z1, by omega, rfl, hC1.at fun b b0 b1 => by rw [wr_a (by omega), wr_a (by omega), wr_a (by omega), wr_a (by omega)], fun b hb => by rw [wr_a (by omega), wr_a (by omega), wr_a (by omega), wr_a (by omega), fr b (by omega)], fun F' f1 f2 => ⟨⟨hadd.at fun b b0 b1 => wr_a (by omega), fun u u0 u1 => ?_⟩, ShT.clr ?_ (wr_s _ _ _ _) f1⟩⟩))⟩
          · have hu := hS1.1.2 u u0 u1
            rw [f2 u 0 u0 u1 (by omega) (by omega), f2 u 1 u0 u1 (by omega) (by omega), f2 u 2 u0 u1 (by omega) (by omega), f2 u 3 u0 u1 (by omega) (by omega)]
            rw [← hu.1, ← hu.2.1, ← hu.2.2.1, ← hu.2.2.2]
            refine ⟨?_, ?_, ?_, ?_⟩ <;> rw [wr_a (by omega), wr_a (by omega), wr_a (by omega), wr_a (by omega)]
          · rw [wr_a (by omega), wr_a (by omega), wr_a (by omega), wr_a (by omega), wr_a (by omega), wr_a (by omega), wr_a (by omega), wr_a (by omega)]
            exact hS1.2.2.1
        · refine V.bipush (n := 49) d_Cp_addMove_47 (by decide) rfl ?_
          refine V.iret d_Cp_addMove_49 ⟨_, rfl, rfl⟩ ?_
          exact hP _ _ ⟨_, rfl, rfl, Or.inr (Or.inr (Or.inl ⟨⟨c1, c2⟩, z1, by omega, rfl, rfl⟩))⟩
    · refine V.if_neF (n := 14) d_Cp_addMove_11 (by omega) (by omega) rfl ⟨16, by decide⟩ ?_
      refine V.loc (lo' := [(2, rI q), (1, rI p), (0, rA E x)]) ⟨rfl, rfl, rfl, trivial⟩ ?_
      exact bad (by omega) (fun v μ' hv => hP v μ' (by obtain ⟨z, a1, a2, a3⟩ := hv; exact ⟨z, a1, a2, Or.inl a3⟩))
  · refine V.if_eqT (n2 := 14) d_Cp_addMove_4 (by omega) (by omega) (by decide) ?_
    refine V.loc (lo' := [(2, rI q), (1, rI p), (0, rA E x)]) ⟨rfl, rfl, rfl, trivial⟩ ?_
    exact bad (by omega) (fun v μ' hv => hP v μ' (by obtain ⟨z, a1, a2, a3⟩ := hv; exact ⟨z, a1, a2, Or.inl a3⟩))
theorem c_Cp_removeMove (hX : isCheap G x) (hS : ShS μ (x + 1) F L) (hW : WF F L) (hC : CHs x μ n h) (hp : inR p) (hq : inR q) : KV E l 7 m_Cp_removeMove x [rI p, rI q] G μ 0 0 (dqi (fun z μ' => (¬ (p, q) ∈ L ∧ z = -1 ∧ μ' = μ) ∨ ((p, q) ∈ L ∧ CHs x μ' (pn n) (ph n h F L) ∧ FR x μ μ' ∧ ∀ k : Nat, k < L.length → L.getD k (0, 0) = (p, q) → z = ((outs (L.take k ++ L.drop (k + 1)) p).length : Int) ∧ ∀ F', F' 1 = 0 → (∀ u w : Int, 0 ≤ u → u < 20 → 0 ≤ w → w < 5 → F' (3 + 5 * u + w) = F (3 + 5 * u + w)) → ShS μ' (x + 1) F' (L.take k ++ L.drop (k + 1)))) G) := by
  have hX0 := hX
  obtain ⟨x0, x1, x2, x3, x4, x5, x6, x7⟩ := hX
  have hx1 := x1
  obtain ⟨s0, s1, s2⟩ := x1
  obtain ⟨g0, g1, g2, g3, g4, g5, g6⟩ := id s1
  obtain ⟨t0, t1, t2, t3, t4, t5, t6, t7, t8⟩ := id s2
  have hsz := hC.2.2.1
  have hn4 := hC.2.1
  have hm := hS.1.1.2
  have hout : ¬ ((0 ≤ p ∧ p ≤ 19) ∧ 0 ≤ q ∧ q ≤ 19) → ¬ (p, q) ∈ L := fun hn hi => by
    have := hW.1.2 _ hi
    have t1 : 0 ≤ p ∧ p < 20 ∧ 0 ≤ q ∧ q < 20 := this
    omega
  refine ⟨KC.ofP q_Cp_removeMove.1 rfl (Nat.le_of_ble_eq_true rfl) rfl (fun Post NT ST hP => ?_), ⟨_, _, _, x0, rfl, rfl⟩, q_Cp_removeMove, by decide⟩
  have bad : ¬ (p, q) ∈ L → V E l m_Cp_removeMove none 7 NT ST Post 14 [(2, rI q), (1, rI p), (0, rA E x)] [] G μ := by
    intro hb
    refine V.iconst (n := 15) d_Cp_removeMove_14 rfl ?_
    refine V.iret d_Cp_removeMove_15 ⟨_, rfl, rfl⟩ ?_
    exact hP _ _ ⟨_, rfl, rfl, Or.inl ⟨hb, rfl, rfl⟩⟩
  refine V.iload_n (n := 1) d_Cp_removeMove_0 rfl rfl ?_
  refine V.cSi (n := 4) d_Cp_removeMove_1 k_Cp_60 (c_Cp_isPosition (by omega)) rfl rfl rfl (by decide) rfl ?_
  rcases bi_or (0 ≤ p ∧ p ≤ 19) with ⟨c1, e⟩ | ⟨c1, e⟩ <;> rw [e]
  · refine V.if_eqF (n := 7) d_Cp_removeMove_4 (by omega) (by omega) rfl ⟨14, by decide⟩ ?_
    refine V.iload_n (n := 8) d_Cp_removeMove_7 rfl rfl ?_
    refine V.cSi (n := 11) d_Cp_removeMove_8 k_Cp_60 (c_Cp_isPosition (by omega)) rfl rfl rfl (by decide) rfl ?_
    rcases bi_or (0 ≤ q ∧ q ≤ 19) with ⟨c2, e⟩ | ⟨c2, e⟩ <;> rw [e]
    · have hp20 : 0 ≤ p ∧ p < 20 := by omega
      have hq20 : 0 ≤ q ∧ q < 20 := by omega
      refine V.if_neT (n2 := 16) d_Cp_removeMove_11 (by omega) (by omega) (by decide) ?_
      refine V.aload_n (n := 17) d_Cp_removeMove_16 rfl rfl ?_
      refine V.getA (n := 20) d_Cp_removeMove_17 f_Cp_10 (by assumption) rfl rfl ?_
      refine V.getA (n := 23) d_Cp_removeMove_20 f_Cp_64 (by assumption) rfl rfl ?_
      refine V.astore_n (n := 24) d_Cp_removeMove_23 (by decide) rfl ?_
      refine V.aload_n (n := 25) d_Cp_removeMove_24 rfl rfl ?_
      refine V.iload_n (n := 26) d_Cp_removeMove_25 rfl rfl ?_
      refine V.iload_n (n := 27) d_Cp_removeMove_26 rfl rfl ?_
      refine V.cVqi (n := 30) d_Cp_removeMove_27 k_Cp_109 (c_Gm_rankL s1 hW.1 hS.1.1 hp20.1 hp20.2 hq) rfl rfl (by decide) rfl (fun z νx hq => ?_)
      obtain ⟨rfl, hr⟩ := hq
      have hle := outs_le hW.1 p
      rcases hr with ⟨z0, z1, r, z2, z3, z4, z5⟩ | ⟨z0, z1⟩
      · refine V.istore (n := 32) d_Cp_removeMove_30 (by decide) rfl ?_
        refine V.iload (n := 34) d_Cp_removeMove_32 rfl rfl ?_
        refine V.bipush (n := 36) d_Cp_removeMove_34 (by decide) rfl ?_
        refine V.icmp_neT (n2 := 41) d_Cp_removeMove_36 (by omega) (by omega) (by omega) (by decide) ?_
        refine V.aload_n (n := 42) d_Cp_removeMove_41 rfl rfl ?_
        refine V.getA (n := 45) d_Cp_removeMove_42 f_Cp_26 (by assumption) rfl rfl ?_
        refine V.aload_n (n := 46) d_Cp_removeMove_45 rfl rfl ?_
        refine V.getA (n := 49) d_Cp_removeMove_46 f_Cp_10 (by assumption) rfl rfl ?_
        refine V.cVqv (n := 52) d_Cp_removeMove_49 k_Cp_83 (c_Hi_remember x3 hC.1 (by omega) (by omega) hx1 (by omega)) rfl rfl (by decide) rfl (fun ν hq => ?_)
        obtain ⟨hC1, fr⟩ := hC.push hS hW hq
        have hS1 : ShS ν (x + 1) F L := hS.at fun b b0 b1 => fr b (by omega)
        have hcp := (hS1.1.1.1 p hp20.1 hp20.2).1
        refine V.aload_n (n := 53) d_Cp_removeMove_52 rfl rfl ?_
        refine V.iload_n (n := 54) d_Cp_removeMove_53 rfl rfl ?_
        refine V.iload (n := 56) d_Cp_removeMove_54 rfl rfl ?_
        refine V.cVqv (n := 59) d_Cp_removeMove_56 k_Cp_123 (c_Gm_removeAt s1 hp20.1 hp20.2 (by omega) (by omega) (by omega)) rfl rfl (by decide) rfl (fun ν2 hq => ?_)
        obtain ⟨m1, m2, m3, m4⟩ := hq
        refine V.aload_n (n := 60) d_Cp_removeMove_59 rfl rfl ?_
        refine V.getA (n := 63) d_Cp_removeMove_60 f_Cp_10 (by assumption) rfl rfl ?_
        refine V.getA (n := 66) d_Cp_removeMove_63 f_Cp_91 (by assumption) rfl rfl ?_
        refine V.cVv (n := 69) d_Cp_removeMove_66 k_Cp_95 (c_Tr_clear (by assumption)) rfl rfl (by decide) rfl ?_
        refine V.aload_n (n := 70) d_Cp_removeMove_69 rfl rfl ?_
        refine V.getA (n := 73) d_Cp_removeMove_70 f_Cp_120 (by assumption) rfl rfl ?_
        refine V.iload_n (n := 74) d_Cp_removeMove_73 rfl rfl ?_
        refine V.cVi (n := 77) d_Cp_removeMove_74 k_Cp_74 (c_Rw_get (by assumption) (by omega) (by omega)) rfl rfl (by decide) rfl ?_
        rw [wr_a (show ¬ x + 1 + 1 + 10 = x + 1 + 14 by omega), m2 p, if_pos rfl, hcp]
        refine V.iret d_Cp_removeMove_77 ⟨_, rfl, rfl⟩ ?_
        refine hP _ _ ⟨_, rfl, rfl, Or.inr ⟨z1, hC1.at fun b b0 b1 => by rw [wr_a (by omega), m1 b (by omega) (by omega) (by omega)], fun b hb => by rw [wr_a (by omega), m1 b (by omega) (by omega) (by omega), fr b (by omega)], fun k hk hkg => ?_⟩⟩
        obtain ⟨o1, o2, o3, o4, o5⟩ := outs_cut hW.1 hk hkg
        have hlen : (outs L p).length = (outs (L.take k) p).length + 1 + (outs (L.drop (k + 1)) p).length := by
          rw [o2, List.length_append, List.length_append]
          rfl
        have hrk : r = (outs (L.take k) p).length := by
          by_cases e1 : r < (outs (L.take k) p).length
          · refine absurd ?_ o5
            have h7 := getD_mem (l := outs (L.take k) p) (r := r) e1
            have h8 : (outs L p).getD r 0 = (outs (L.take k) p).getD r 0 := by
              rw [o2, List.append_assoc, getD_app1 e1]
            rw [z4] at h8
            rw [← h8] at h7
            exact h7
          · by_cases e2 : (outs (L.take k) p).length < r
            · exact absurd o1 (z5 _ e2)
            · omega
        refine ⟨?_, fun F' f1 f2 => ⟨⟨⟨fun u u0 u1 => ?_, ?_⟩, fun u u0 u1 => ?_⟩, ShT.clr ?_ (wr_s _ _ _ _) f1⟩⟩
        · rw [o3, List.length_append, hlen]
          omega
        · have hu := hS1.1.1.1 u u0 u1
          have hul := outs_le hW.1 u
          rw [wr_a (show ¬ x + 1 + 1 + 10 = x + 1 + 14 by omega), wr_a (show ¬ x + 1 + 1 + 12 = x + 1 + 14 by omega), m2 u]
          by_cases eu : u = p
          · subst eu
            rw [if_pos rfl, o3, List.length_append]
            refine ⟨by omega, fun r' hr' => ?_⟩
            rw [m3]
            by_cases er : r' < r
            · rw [if_neg (by omega), hu.2 r' (by omega), o2, List.append_assoc, getD_app1 (by omega), getD_app1 (by omega)]
            · rw [if_pos (by omega), show u * 20 + (r' : Int) + 1 = u * 20 + ((r' + 1 : Nat) : Int) by omega, hu.2 (r' + 1) (by omega), o2]
              have h9 := getD_app2 (l := outs (L.take k) u ++ [q]) (m := outs (L.drop (k + 1)) u) (r := r' - r)
              have h10 := getD_app2 (l := outs (L.take k) u) (m := outs (L.drop (k + 1)) u) (r := r' - r)
              rw [List.length_append, show (outs (L.take k) u).length + [q].length + (r' - r) = r' + 1 by show (outs (L.take k) u).length + 1 + (r' - r) = r' + 1; omega] at h9
              rw [show (outs (L.take k) u).length + (r' - r) = r' by omega] at h10
              rw [h9, h10]
          · rw [if_neg eu, o4 u eu]
            refine ⟨hu.1, fun r' hr' => ?_⟩
            rw [m3, if_neg (by omega)]
            exact hu.2 r' hr'
        · rw [wr_a (by omega), m4]
          show (if (6 : Int) = 6 then ν (x + 1 + 1) 6 - 1 else ν (x + 1 + 1) 6) = _
          rw [if_pos rfl, hS1.1.1.2, cut_len hk]
          omega
        · have hu := hS1.1.2 u u0 u1
          rw [f2 u 0 u0 u1 (by omega) (by omega), f2 u 1 u0 u1 (by omega) (by omega), f2 u 2 u0 u1 (by omega) (by omega), f2 u 3 u0 u1 (by omega) (by omega)]
          rw [← hu.1, ← hu.2.1, ← hu.2.2.1, ← hu.2.2.2]
          refine ⟨?_, ?_, ?_, ?_⟩ <;> rw [wr_a (by omega), m1 _ (by omega) (by omega) (by omega)]
        · rw [wr_a (by omega), wr_a (by omega), m1 _ (by omega) (by omega) (by omega), m1 _ (by omega) (by omega) (by omega)]
          exact hS1.2.2.1
      · refine V.istore (n := 32) d_Cp_removeMove_30 (by decide) rfl ?_
        refine V.iload (n := 34) d_Cp_removeMove_32 rfl rfl ?_
        refine V.bipush (n := 36) d_Cp_removeMove_34 (by decide) rfl ?_
        refine V.icmp_neF (n := 39) d_Cp_removeMove_36 (by omega) (by omega) (by omega) rfl ⟨41, by decide⟩ ?_
        refine V.iconst (n := 40) d_Cp_removeMove_39 rfl ?_
        refine V.iret d_Cp_removeMove_40 ⟨_, rfl, rfl⟩ ?_
        exact hP _ _ ⟨_, rfl, rfl, Or.inl ⟨z1, rfl, rfl⟩⟩
    · refine V.if_neF (n := 14) d_Cp_removeMove_11 (by omega) (by omega) rfl ⟨16, by decide⟩ ?_
      refine V.loc (lo' := [(2, rI q), (1, rI p), (0, rA E x)]) ⟨rfl, rfl, rfl, trivial⟩ ?_
      exact bad (hout (by omega))
  · refine V.if_eqT (n2 := 14) d_Cp_removeMove_4 (by omega) (by omega) (by decide) ?_
    refine V.loc (lo' := [(2, rI q), (1, rI p), (0, rA E x)]) ⟨rfl, rfl, rfl, trivial⟩ ?_
    exact bad (hout (by omega))
end CCG
end
section
/-! THE CLASS: an opening shows the array's -/
theorem ShS.congr2 {μ : MU} {s : Nat} {F F' : Int → Int} {L : List (Int × Int)} (h : ShS μ s F L) (e : ∀ j, 0 ≤ j → ¬ j = 2 → F' j = F j) : ShS μ s F' L := by
  refine ⟨h.1.congr fun p k a b c d => e _ (by omega) (by omega), ?_⟩
  obtain ⟨-, a, b, c⟩ := h
  unfold ShT
  rw [e 1 (by omega) (by omega)]
  refine ⟨a, b, fun n n0 n1 => ?_⟩
  rw [e _ (by omega) (by omega), e _ (by omega) (by omega), e _ (by omega) (by omega), e _ (by omega) (by omega), e _ (by omega) (by omega), e _ (by omega) (by omega), e _ (by omega) (by omega)]
  exact c n n0 n1
theorem ShS.wo {μ : MU} {s : Nat} {F : Int → Int} {L : List (Int × Int)} {n : Int} (h : ShS μ s F L) (hK : SK F (F 1)) (n0 : 0 ≤ n) (n1 : n < F 1) : ShS (woM (s + 14) (s + 1) μ n) s (woF F n) L := by
  have hk := hK.2.2.1 n n0 n1
  have h200 := hK.2.1
  have hn := (h.2.2.2 n n0 n1).1
  have hp := h.1.2 (F (223 + 7 * n + 0)) hk.1 hk.2.1
  have hoff : ∀ b, ¬ b = s + 14 + 8 → ¬ b = s + 14 + 10 → woM (s + 14) (s + 1) μ n b = μ b := fun b b0 b1 => woM_off b0 b1
  have e1 : woF F n 1 = F 1 := woF_i (by omega) (by omega)
  have c8 : ∀ i : Nat, i < (F (223 + 7 * n + 4)).toNat → μ (s + 14 + 8) (F (223 + 7 * n + 5) + i) = nF F 2 (F (223 + 7 * n + 5) + i) := fun i hi => (h.2.2.2 _ (by omega) (by omega)).1.2.2.1
  have c10 : ∀ i : Nat, i < (F (223 + 7 * n + 4)).toNat → μ (s + 14 + 10) (F (223 + 7 * n + 5) + i) = nF F 3 (F (223 + 7 * n + 5) + i) := fun i hi => (h.2.2.2 _ (by omega) (by omega)).1.2.2.2.1
  have v8 : ∀ j, woM (s + 14) (s + 1) μ n (s + 14 + 8) j = if j = n then woF F n (223 + 7 * n + 2) else μ (s + 14 + 8) j := by
    intro j
    unfold woM
    rw [wr_a (by omega), wr_v, hn.1, hp.1, hn.2.2.2.2.1, hn.2.2.2.2.2.1, mn_c c8, sm_c c8, woF_2]
  have v10 : ∀ j, woM (s + 14) (s + 1) μ n (s + 14 + 10) j = if j = n then woF F n (223 + 7 * n + 3) else μ (s + 14 + 10) j := by
    intro j
    unfold woM
    rw [wr_v, hn.1, hp.1, hn.2.2.2.2.1, hn.2.2.2.2.2.1, mn_c c10, sm_c c10, woF_3, wr_a (show ¬ s + 14 + 10 = s + 14 + 8 by omega)]
  refine ⟨(h.1.at fun b b0 b1 => hoff b (by omega) (by omega)).congr fun p k a b c d => woF_i (by omega) (by omega), ?_, ?_, fun m m0 m1 => ?_⟩
  · rw [hoff _ (by omega) (by omega), e1]
    exact h.2.1
  · exact woM_X h.2.2.1 (by rw [hn.2.2.2.2.2.1]; omega) (by rw [hn.2.2.2.2.1, hn.2.2.2.2.2.1]; omega) (by rw [hn.2.2.2.2.1, hn.2.2.2.2.2.1]; omega)
  · rw [e1] at m1
    have hm := h.2.2.2 m m0 m1
    rw [hoff (s + 14 + 2) (by omega) (by omega), hoff (s + 14 + 4) (by omega) (by omega), hoff (s + 14 + 6) (by omega) (by omega), hoff (s + 14 + 12) (by omega) (by omega), hoff (s + 14 + 14) (by omega) (by omega), hoff (s + 14 + 16) (by omega) (by omega), v8, v10]
    rw [woF_i (F := F) (n := n) (j := 223 + 7 * m + 0) (by omega) (by omega), woF_i (F := F) (n := n) (j := 223 + 7 * m + 1) (by omega) (by omega), woF_i (F := F) (n := n) (j := 223 + 7 * m + 4) (by omega) (by omega), woF_i (F := F) (n := n) (j := 223 + 7 * m + 5) (by omega) (by omega), woF_i (F := F) (n := n) (j := 223 + 7 * m + 6) (by omega) (by omega)]
    by_cases e : m = n
    · subst e
      rw [if_pos rfl, if_pos rfl]
      exact ⟨⟨hm.1.1, hm.1.2.1, rfl, rfl, hm.1.2.2.2.2⟩, hm.2⟩
    · rw [if_neg e, if_neg e, woF_i (F := F) (n := n) (j := 223 + 7 * m + 2) (by omega) (by omega), woF_i (F := F) (n := n) (j := 223 + 7 * m + 3) (by omega) (by omega)]
      exact hm
theorem ShS.wu {s : Nat} {L : List (Int × Int)} : ∀ (k : Nat) (n : Int) (μ : MU) (F : Int → Int), ShS μ s F L → SK F (F 1) → (n = -5 ∨ (0 ≤ n ∧ n < F 1)) → ShS (wuM (s + 14) (s + 1) k n μ) s (wuF k n F) L := by
  intro k
  induction k with
  | zero => exact fun n μ F h _ _ => h
  | succ k ih =>
    intro n μ F h hK hn
    rw [wuM_s, wuF_s]
    by_cases e : n < 0
    · rw [if_pos e, if_pos e]
      exact h
    · rw [if_neg e, if_neg e]
      have hn0 : 0 ≤ n ∧ n < F 1 := by omega
      have hk := hK.2.2.1 n hn0.1 hn0.2
      have e1 : woF F n 1 = F 1 := woF_i (by omega) (by omega)
      rw [(h.2.2.2 n hn0.1 hn0.2).1.2.1]
      refine ih _ _ _ (h.wo hK hn0.1 hn0.2) (by rw [e1]; exact hK.wo) ?_
      rw [e1]
      by_cases e0 : n = 0
      · exact Or.inl (hk.2.2.2.2.2.2.1 e0)
      · have := hk.2.2.2.2.2.2.2 (by omega)
        omega
theorem WF.sk {F : Int → Int} {L : List (Int × Int)} (h : WF F L) : SK F (F 1) := by
  obtain ⟨hL, hF, ⟨hQ, hs0, hs1, hc, hX⟩, hP, hB, hE, hC, hl, h2⟩ := h
  refine ⟨hs0, hs1, fun x x0 x1 => ?_, hB⟩
  have a := okC_at hc x0 x1
  have b := okP_at hP x0 x1
  refine ⟨a.1, a.2.1, a.2.2.1, a.2.2.2.1, a.2.2.2.2.1, a.2.2.2.2.2, b.2.2.1, fun q => ?_⟩
  have c := hE x q x1
  have d := b.2.2.2 q
  omega
theorem ShS.grow {μ ν : MU} {s : Nat} {F : Int → Int} {L : List (Int × Int)} (h : ShS μ s F L) (hW : WF F L) (h0 : 0 < F 1) (hg : goF F L) (hGI : GI (s + 14) (s + 1) μ (wF F) ν (cF F L)) : ShS (wuM (s + 14) (s + 1) 200 (wF F) ν) s (opF F L) L := by
  have hWo := hW.op h0 hg
  have hu : ¬ (F 225 = 0 ∨ F 226 = 0) := fun q => hg (Or.inl q)
  have hroom : F 1 + cF F L ≤ 200 := by
    have : ¬ 200 < F 1 + cF F L := fun q => hg (Or.inr q)
    omega
  obtain ⟨w0, w1, w4, c0⟩ := hW.leaf h0 hu
  have hs0 := hW.2.2.1.2.1
  have hQ := hW.2.2.1.1
  have hwp := okC_at hW.2.2.1.2.2.2.1 w0 w1
  have htg : ∀ i : Nat, (i : Int) < cF F L → 0 ≤ (outs L (F (223 + 7 * wF F + 0))).getD i 0 ∧ (outs L (F (223 + 7 * wF F + 0))).getD i 0 < 20 := fun i hi => by
    have := hW.1.2 _ (mem_outs.mp (getD_mem (l := outs L (F (223 + 7 * wF F + 0))) (r := i) (by have q : (i : Int) < ((outs L (F (223 + 7 * wF F + 0))).length : Int) := hi; omega)))
    exact ⟨this.2.2.1, this.2.2.2⟩
  have hsk : SK (baF F L (wF F) (cF F L)) (F 1 + cF F L) := by
    have h1 := hWo.sk
    rw [op_1 hW h0 hg] at h1
    have e : ∀ x k, (¬ k = 2 ∧ ¬ k = 3 ∧ 0 ≤ k ∧ k < 7) → 0 ≤ x → opF F L (223 + 7 * x + k) = baF F L (wF F) (cF F L) (223 + 7 * x + k) := fun x k hk hx => by
      unfold opF
      rw [if_neg (by omega), wuF_k 200 (wF F) _ hk]
    refine ⟨h1.1, h1.2.1, fun x x0 x1 => ?_, fun x j x0 x1 => ?_⟩
    · have h2 := h1.2.2.1 x x0 x1
      rw [e x 0 (by omega) x0, e x 1 (by omega) x0, e x 4 (by omega) x0, e x 5 (by omega) x0] at h2
      refine ⟨h2.1, h2.2.1, h2.2.2.1, h2.2.2.2.1, h2.2.2.2.2.1, h2.2.2.2.2.2.1, h2.2.2.2.2.2.2.1, fun q => ?_⟩
      have h3 := h2.2.2.2.2.2.2.2 q
      rw [e _ 4 (by omega) h3.1] at h3
      exact h3
    · have h2 := h1.2.2.1 x x0 x1
      have h3 := h1.2.2.2 x j x0 x1
      rw [e x 4 (by omega) x0, e x 5 (by omega) x0] at h3 h2
      intro a b
      have h4 := h3 a b
      rw [e j 1 (by omega) (by omega)] at h4
      exact h4
  have hcF : μ (s + 1 + 10) (μ (s + 14 + 2) (wF F)) = cF F L := by
    rw [(h.2.2.2 (wF F) w0 w1).1.1]
    exact (h.1.1.1 _ hwp.1 hwp.2.1).1
  have hposw : μ (s + 14 + 2) (wF F) = F (223 + 7 * wF F + 0) := (h.2.2.2 (wF F) w0 w1).1.1
  have bo : ∀ x k, 0 ≤ x → x < F 1 → 0 ≤ k → k < 7 → baF F L (wF F) (cF F L) (223 + 7 * x + k) = if x = wF F ∧ k = 5 then F 1 else if x = wF F ∧ k = 4 then cF F L else F (223 + 7 * x + k) := fun x k a b c d => ba_old a b c d
  have bn : ∀ x k, F 1 ≤ x → x < F 1 + cF F L → 0 ≤ k → k < 7 → baF F L (wF F) (cF F L) (223 + 7 * x + k) = nlF F L (wF F) ((outs L (F (223 + 7 * wF F + 0))).getD (x - F 1).toNat 0) k := fun x k a b c d => ba_new w1 hs0 a b c d
  have bl : ∀ j, j < 223 → ¬ j = 1 → baF F L (wF F) (cF F L) j = F j := fun j a b => ba_low w0 hs0 a b
  have b1 : baF F L (wF F) (cF F L) 1 = F 1 + cF F L := if_pos rfl
  have fin : ShS ν s (baF F L (wF F) (cF F L)) L → ShS (wuM (s + 14) (s + 1) 200 (wF F) ν) s (opF F L) L := fun hB => by
    refine (ShS.wu 200 (wF F) ν _ hB (by rw [b1]; exact hsk) (Or.inr ⟨w0, by rw [b1]; omega⟩)).congr2 (fun j j0 j2 => ?_)
    unfold opF
    rw [if_neg j2]
  refine fin ?_
  obtain ⟨i1, i2, i3, i4⟩ := id hGI
  rw [h.2.1] at i2 i3 i4
  generalize baF F L (wF F) (cF F L) = B at *
  generalize wF F = w at *
  generalize cF F L = cn at *
  -- a new leaf
  have hnew : ∀ m, F 1 ≤ m → m < F 1 + cn → (ν (s + 14 + 2) m = B (223 + 7 * m + 0) ∧ ν (s + 14 + 4) m = B (223 + 7 * m + 1) ∧ ν (s + 14 + 8) m = B (223 + 7 * m + 2) ∧ ν (s + 14 + 10) m = B (223 + 7 * m + 3) ∧ ν (s + 14 + 12) m = B (223 + 7 * m + 4) ∧ ν (s + 14 + 14) m = B (223 + 7 * m + 5) ∧ ν (s + 14 + 16) m = B (223 + 7 * m + 6)) ∧ ν (s + 14 + 6) m = μ (s + 14 + 6) w + 1 ∧ B (223 + 7 * m + 1) = w := by
    intro m m0 m1
    have ht := htg (m - F 1).toNat (by omega)
    have hl := i4 (m - F 1) (by omega) (by omega)
    rw [show F 1 + (m - F 1) = m by omega] at hl
    have htgt : μ (s + 1 + 12) (μ (s + 14 + 2) w * 20 + (m - F 1)) = (outs L (F (223 + 7 * w + 0))).getD (m - F 1).toNat 0 := by
      have h6 := (h.1.1.1 (F (223 + 7 * w + 0)) hwp.1 hwp.2.1)
      have h7 := h6.2 (m - F 1).toNat (by rw [hposw, h6.1] at hcF; omega)
      rw [hposw, ← h7, show (((m - F 1).toNat : Nat) : Int) = m - F 1 by omega]
    rw [htgt] at hl
    have hbn := fun k => bn m k m0 m1
    generalize (outs L (F (223 + 7 * w + 0))).getD (m - F 1).toNat 0 = tg at *
    obtain ⟨l1, l2, l3, l4, l5, l6⟩ := hl
    have hp := h.1.2 tg ht.1 ht.2
    have hcq := (h.1.1.1 tg ht.1 ht.2).1
    have howe : ow (μ (s + 14 + 2)) (μ (s + 14 + 4)) tg 200 w = ow (nF F 0) (nF F 1) tg 200 w := ow_congr 200 w (fun y y0 y1 => by
      have hy := (h.2.2.2 y y0 (by omega)).1
      have hpy := okP_at hW.2.2.2.1 y0 (show y < F 1 by omega)
      refine ⟨hy.1, hy.2.1, ?_⟩
      show F (223 + 7 * y + 1) < y
      by_cases e : y = 0
      · rw [hpy.2.2.1 e]; omega
      · exact (hpy.2.2.2 (by omega)).2)
    obtain ⟨l7, l8, l9⟩ := l6 (enF F L tg) (F (3 + 5 * tg + 1) = 1) (ow (nF F 0) (nF F 1) tg 200 w = true) (by rw [hp.2.1, hcq]; show (_ ∨ _) ↔ (_ ∨ _); omega) (by rw [hp.2.1]) (by rw [howe])
    rw [hp.2.2.1] at l7
    rw [hp.2.2.2] at l8
    rw [hbn 0 (by omega) (by omega), hbn 1 (by omega) (by omega), hbn 2 (by omega) (by omega), hbn 3 (by omega) (by omega), hbn 4 (by omega) (by omega), hbn 5 (by omega) (by omega), hbn 6 (by omega) (by omega)]
    exact ⟨⟨l1, l2, l7, l8, l4, l5, l9⟩, l3, rfl⟩
  refine ⟨(h.1.at fun b b0 b1 => i1 b (by omega)).congr fun p k a b c d => bl _ (by omega) (by omega), ?_, ?_, fun m m0 m1 => ?_⟩
  · rw [i2, b1]
  · intro j j0 j1
    by_cases ej : j < F 1 ∨ F 1 + cn ≤ j
    · rw [hGI.at (b := s + 14 + 8) (by omega) (by omega) (by omega) (by omega) (by rw [h.2.1]; omega), hGI.at (b := s + 14 + 10) (by omega) (by omega) (by omega) (by omega) (by rw [h.2.1]; omega)]
      exact h.2.2.1 j j0 j1
    · have hj := (hnew j (by omega) (by omega)).1
      have ht := htg (j - F 1).toNat (by omega)
      rw [hj.2.2.1, hj.2.2.2.1, bn j 2 (by omega) (by omega) (by omega) (by omega), bn j 3 (by omega) (by omega) (by omega) (by omega)]
      exact (nl_in hQ ht.1 ht.2).1
  · rw [b1] at m1
    have hw6 : ν (s + 14 + 6) w = μ (s + 14 + 6) w := hGI.at (by omega) (by omega) (by omega) (by omega) (by rw [h.2.1]; omega)
    by_cases em : m < F 1
    · have hm := h.2.2.2 m m0 em
      have hpm := okP_at hW.2.2.2.1 m0 em
      have ho : ∀ b, s + 14 < b → b ≤ s + 14 + 16 → ¬ b = s + 14 + 12 → ¬ b = s + 14 + 14 → ν b m = μ b m := fun b a c d e => hGI.at a c d e (by rw [h.2.1]; omega)
      have h12 := i3 (s + 14 + 12) (by omega) (by omega) m (by omega)
      have h14 := i3 (s + 14 + 14) (by omega) (by omega) m (by omega)
      rw [if_neg (by omega)] at h12
      rw [ho (s + 14 + 2) (by omega) (by omega) (by omega) (by omega), ho (s + 14 + 4) (by omega) (by omega) (by omega) (by omega), ho (s + 14 + 6) (by omega) (by omega) (by omega) (by omega), ho (s + 14 + 8) (by omega) (by omega) (by omega) (by omega), ho (s + 14 + 10) (by omega) (by omega) (by omega) (by omega), ho (s + 14 + 16) (by omega) (by omega) (by omega) (by omega), h12, h14]
      have b4 := bo m 4 m0 em (by omega) (by omega)
      have b5 := bo m 5 m0 em (by omega) (by omega)
      rw [if_neg (by omega)] at b4
      have bq : ∀ k, 0 ≤ k → k < 7 → ¬ k = 4 → ¬ k = 5 → B (223 + 7 * m + k) = F (223 + 7 * m + k) := fun k a b c d => by rw [bo m k m0 em a b, if_neg (by omega), if_neg (by omega)]
      rw [bq 0 (by omega) (by omega) (by omega) (by omega), bq 1 (by omega) (by omega) (by omega) (by omega), bq 2 (by omega) (by omega) (by omega) (by omega), bq 3 (by omega) (by omega) (by omega) (by omega), bq 6 (by omega) (by omega) (by omega) (by omega), b4, b5]
      refine ⟨⟨hm.1.1, hm.1.2.1, hm.1.2.2.1, hm.1.2.2.2.1, ?_, ?_, hm.1.2.2.2.2.2.2⟩, hm.2.1, fun q => ?_⟩
      · by_cases e : m = w
        · rw [if_pos (show s + 14 + 12 = s + 14 + 12 ∧ m = w from ⟨rfl, e⟩), if_pos (show m = w ∧ (4 : Int) = 4 from ⟨e, rfl⟩), hcF]
        · rw [if_neg (show ¬ (s + 14 + 12 = s + 14 + 12 ∧ m = w) from fun q => e q.2), if_neg (show ¬ (m = w ∧ (4 : Int) = 4) from fun q => e q.1)]
          exact hm.1.2.2.2.2.1
      · by_cases e : m = w
        · rw [if_pos (show s + 14 + 14 = s + 14 + 14 ∧ m = w from ⟨rfl, e⟩), if_pos (show m = w ∧ (5 : Int) = 5 from ⟨e, rfl⟩)]
        · rw [if_neg (show ¬ (s + 14 + 14 = s + 14 + 14 ∧ m = w) from fun q => e q.2), if_neg (show ¬ (s + 14 + 14 = s + 14 + 12 ∧ m = w) from fun q => e q.2), if_neg (show ¬ (m = w ∧ (5 : Int) = 5) from fun q => e q.1), if_neg (show ¬ (m = w ∧ (5 : Int) = 4) from fun q => e q.1)]
          exact hm.1.2.2.2.2.2.1
      · have hp2 := hpm.2.2.2 q
        have h7 : ν (s + 14 + 6) (F (223 + 7 * m + 1)) = μ (s + 14 + 6) (F (223 + 7 * m + 1)) := hGI.at (by omega) (by omega) (by omega) (by omega) (by rw [h.2.1]; omega)
        rw [h7]
        exact hm.2.2 q
    · have hm := hnew m (by omega) m1
      refine ⟨hm.1, fun q => by omega, fun q => ?_⟩
      rw [hm.2.2, hw6]
      exact hm.2.1
end
section
/-! THE CLASS ITSELF: the rest of its calls -/
theorem wuM_off {t g : Nat} {b : Nat} (h1 : ¬ b = t + 8) (h2 : ¬ b = t + 10) : ∀ (k : Nat) (n : Int) (μ : MU), wuM t g k n μ b = μ b
  | 0, _, _ => rfl
  | k + 1, n, μ => by
    rw [wuM_s]
    by_cases e : n < 0
    · rw [if_pos e]
    · rw [if_neg e, wuM_off h1 h2 k, woM_off h1 h2]
theorem cn_eq {μ : MU} {s : Nat} {F : Int → Int} {L : List (Int × Int)} (h : ShS μ s F L) (hW : WF F L) (w0 : 0 ≤ wF F) (w1 : wF F < F 1) : μ (s + 1 + 10) (μ (s + 14 + 2) (wF F)) = cF F L := by
  have hwp := okC_at hW.2.2.1.2.2.2.1 w0 w1
  rw [(h.2.2.2 (wF F) w0 w1).1.1]
  exact (h.1.1.1 _ hwp.1 hwp.2.1).1
section CCO
variable {E : EV} {l : Launch} {G : GG} {μ : MU} {x n : Nat} {p q r v a b k : Int} {F : Int → Int} {L : List (Int × Int)} {h : HF}
theorem cg_eq (hS : ShS μ (x + 1) F L) (hW : WF F L) (h0 : 0 < F 1) : bi (¬ μ (x + 1 + 14) 9 = 0 ∧ oc (μ (x + 1 + 14) 9) (μ (x + 1 + 14 + 8) 0) (μ (x + 1 + 14 + 10) 0) = 0 ∧ μ (x + 1 + 1 + 10) (μ (x + 1 + 14 + 2) (lf (nxM (x + 1 + 14) (x + 1 + 1) μ) (μ (x + 1 + 14 + 12)) 200 0)) ≤ 200 - μ (x + 1 + 14) 9) = bi (goF F L) := by
  have hw := lfF_in hW.2.2.1 200 0 (Int.le_refl _) h0
  refine bi_c ?_
  rw [lf_eq hS hW 200 0 (Int.le_refl _) h0, cn_eq hS hW hw.1 hw.2, oc_eq hS h0, hS.2.1]
  unfold goF
  by_cases e1 : F 225 = 0
  · rw [if_pos e1]
    exact ⟨fun q => absurd q.2.1 (by decide), fun q => absurd (Or.inl (Or.inl e1)) q⟩
  · rw [if_neg e1]
    by_cases e2 : F 226 = 0
    · rw [if_pos e2]
      exact ⟨fun q => absurd q.2.1 (by decide), fun q => absurd (Or.inl (Or.inr e2)) q⟩
    · rw [if_neg e2]
      omega
theorem c_Cp_open (hX : isCheap G x) (hS : ShS μ (x + 1) F L) (hW : WF F L) (hC : CHs x μ n h) (hr : inR r) : KV E l 7 m_Cp_open x [rI r] G μ 0 0 (dqi (fun z μ' => (¬ (1 ≤ r ∧ r ≤ 100) ∧ z = -2 ∧ μ' = μ) ∨ ((1 ≤ r ∧ r ≤ 100) ∧ F 1 = 0 ∧ z = -4 ∧ μ' = μ) ∨ ((1 ≤ r ∧ r ≤ 100) ∧ 0 < F 1 ∧ ¬ goF F L ∧ z = -5 ∧ μ' = μ) ∨ ((1 ≤ r ∧ r ≤ 100) ∧ 0 < F 1 ∧ goF F L ∧ z = (opL L r.toNat F).2 ∧ CHs x μ' (pn n) (ph n h F L) ∧ FR x μ μ' ∧ ShS μ' (x + 1) (opL L r.toNat F).1 L)) G) := by
  have hX0 := hX
  obtain ⟨x0, x1, x2, x3, x4, x5, x6, x7⟩ := hX
  have hx1 := x1
  obtain ⟨s0, s1, s2⟩ := x1
  obtain ⟨t0, t1, t2, t3, t4, t5, t6, t7, t8⟩ := id s2
  have hsz := hC.2.2.1
  have hn4 := hC.2.1
  have hs0 := hW.2.2.1.2.1
  have hs1 := hW.2.2.1.2.2.1
  refine ⟨KC.ofP q_Cp_open.1 rfl (Nat.le_of_ble_eq_true rfl) rfl (fun Post NT ST hP => ?_), ⟨_, _, _, x0, rfl, rfl⟩, q_Cp_open, by decide⟩
  have bad : ¬ (1 ≤ r ∧ r ≤ 100) → V E l m_Cp_open none 7 NT ST Post 11 [(1, rI r), (0, rA E x)] [] G μ := by
    intro hb
    refine V.bipush (n := 13) d_Cp_open_11 (by decide) rfl ?_
    refine V.iret d_Cp_open_13 ⟨_, rfl, rfl⟩ ?_
    exact hP _ _ ⟨_, rfl, rfl, Or.inl ⟨hb, rfl, rfl⟩⟩
  have loop : goF F L → 0 < F 1 → (1 ≤ r ∧ r ≤ 100) → ∀ (k : Nat) (i : Int) (ν : MU) (Fi : Int → Int), i + k = r → 0 ≤ i → CHs x ν (pn n) (ph n h F L) → FR x μ ν → ShS ν (x + 1) Fi L → WF Fi L → 0 < Fi 1 → (opL L r.toNat F).2 = i + (opL L k Fi).2 → (opL L r.toNat F).1 = (opL L k Fi).1 → V E l m_Cp_open none 7 NT ST Post 55 [(3, rI i), (2, rA E (x + 1 + 14)), (1, rI r), (0, rA E x)] [] G ν := by
    intro hg0 h00 hr0 k
    induction k with
    | zero =>
      intro i ν Fi hk hi c1 c2 c3 c4 c5 c6 c7
      refine V.iload_n (n := 56) d_Cp_open_55 rfl rfl ?_
      refine V.iload_n (n := 57) d_Cp_open_56 rfl rfl ?_
      refine V.icmp_geT (n2 := 77) d_Cp_open_57 (by omega) (by omega) (by omega) (by decide) ?_
      refine V.iload_n (n := 78) d_Cp_open_77 rfl rfl ?_
      refine V.iret d_Cp_open_78 ⟨_, rfl, rfl⟩ ?_
      refine hP _ _ ⟨_, rfl, rfl, Or.inr (Or.inr (Or.inr ⟨hr0, h00, hg0, ?_, c1, c2, ?_⟩))⟩
      · rw [c6]
        exact (Int.add_zero i).symm
      · rw [c7]
        exact c3
    | succ k ih =>
      intro i ν Fi hk hi c1 c2 c3 c4 c5 c6 c7
      rw [opL_s] at c6 c7
      refine V.iload_n (n := 56) d_Cp_open_55 rfl rfl ?_
      refine V.iload_n (n := 57) d_Cp_open_56 rfl rfl ?_
      refine V.icmp_geF (n := 60) d_Cp_open_57 (by omega) (by omega) (by omega) rfl ⟨77, by decide⟩ ?_
      refine V.aload_n (n := 61) d_Cp_open_60 rfl rfl ?_
      refine V.cVi (n := 64) d_Cp_open_61 k_Cp_148 (c_Tr_canGrow s2 s1 (c3.okM c4)) rfl rfl (by decide) rfl ?_
      rw [cg_eq c3 c4 c5]
      rcases bi_or (goF Fi L) with ⟨hg, e⟩ | ⟨hg, e⟩ <;> rw [e]
      · rw [if_pos hg] at c6 c7
        have hl := c4.leaf c5 (fun q => hg (Or.inl q))
        have hcn := cn_eq c3 c4 hl.1 hl.2.1
        have hroom : Fi 1 + cF Fi L ≤ 200 := by
          have : ¬ 200 < Fi 1 + cF Fi L := fun q => hg (Or.inr q)
          omega
        refine V.if_eqF (n := 67) d_Cp_open_64 (by omega) (by omega) rfl ⟨77, by decide⟩ ?_
        refine V.aload_n (n := 68) d_Cp_open_67 rfl rfl ?_
        refine V.cVqv (n := 71) d_Cp_open_68 k_Cp_151 (c_Tr_grow (w := wF Fi) s2 s1 (by omega) (c3.okM c4) (c3.okP c4) (c3.1.1.okT c4.1) (by rw [c3.2.1]; exact c5) (lf_eq c3 c4 200 0 (Int.le_refl _) c5).symm (by rw [hcn, c3.2.1]; omega)) rfl rfl (by decide) rfl (fun ν1 hq => ?_)
        obtain ⟨ν2, g1, rfl⟩ := hq
        rw [hcn] at g1
        have hg2 := c3.grow c4 c5 hg g1
        have hoff : ∀ b, b < x + 1 + 14 ∨ x + 1 + 14 + 16 < b → wuM (x + 1 + 14) (x + 1 + 1) 200 (wF Fi) ν2 b = ν b := fun b hb => by rw [wuM_off (by omega) (by omega), g1.1 b hb]
        refine V.iinc (n := 74) d_Cp_open_71 rfl (by decide) rfl ?_
        refine V.goto (n := 55) d_Cp_open_74 (by decide) ?_
        refine V.loc (lo' := [(3, rI (i + 1)), (2, rA E (x + 1 + 14)), (1, rI r), (0, rA E x)]) ⟨rfl, rfl, rfl, rfl, trivial⟩ ?_
        refine ih (i + 1) _ (opF Fi L) (by omega) (by omega) (c1.at fun b b0 b1 => hoff b (by omega)) (fun b hb => by rw [hoff b (by omega), c2 b hb]) hg2 (c4.op c5 hg) (by rw [op_1 c4 c5 hg]; omega) ?_ ?_
        · rw [c6]
          show i + ((opL L k (opF Fi L)).2 + 1) = _
          omega
        · rw [c7]
      · rw [if_neg hg] at c6 c7
        refine V.if_eqT (n2 := 77) d_Cp_open_64 (by omega) (by omega) (by decide) ?_
        refine V.iload_n (n := 78) d_Cp_open_77 rfl rfl ?_
        refine V.iret d_Cp_open_78 ⟨_, rfl, rfl⟩ ?_
        refine hP _ _ ⟨_, rfl, rfl, Or.inr (Or.inr (Or.inr ⟨hr0, h00, hg0, ?_, c1, c2, ?_⟩))⟩
        · rw [c6]
          exact (Int.add_zero i).symm
        · rw [c7]
          exact c3
  refine V.iload_n (n := 1) d_Cp_open_0 rfl rfl ?_
  refine V.iconst (n := 2) d_Cp_open_1 rfl ?_
  refine V.icmp_lt (n2 := 11) (n := 5) d_Cp_open_2 (by omega) (by omega) (by decide) rfl (fun d1 => ?_) (fun d1 => ?_)
  · refine V.loc (lo' := [(1, rI r), (0, rA E x)]) ⟨rfl, rfl, trivial⟩ ?_
    exact bad (by omega)
  · refine V.iload_n (n := 6) d_Cp_open_5 rfl rfl ?_
    refine V.bipush (n := 8) d_Cp_open_6 (by decide) rfl ?_
    refine V.icmp_le (n2 := 14) (n := 11) d_Cp_open_8 (by omega) (by omega) (by decide) rfl (fun d2 => ?_) (fun d2 => ?_)
    · refine V.aload_n (n := 15) d_Cp_open_14 rfl rfl ?_
      refine V.getA (n := 18) d_Cp_open_15 f_Cp_10 (by assumption) rfl rfl ?_
      refine V.getA (n := 21) d_Cp_open_18 f_Cp_91 (by assumption) rfl rfl ?_
      refine V.astore_n (n := 22) d_Cp_open_21 (by decide) rfl ?_
      refine V.aload_n (n := 23) d_Cp_open_22 rfl rfl ?_
      refine V.cVi (n := 26) d_Cp_open_23 k_Cp_144 (c_Tr_isEmpty s2 (by rw [hS.2.1]; omega)) rfl rfl (by decide) rfl ?_
      rw [hS.2.1]
      rcases bi_or (F 1 = 0) with ⟨e0, e⟩ | ⟨e0, e⟩ <;> rw [e]
      · refine V.if_eqF (n := 29) d_Cp_open_26 (by omega) (by omega) rfl ⟨32, by decide⟩ ?_
        refine V.bipush (n := 31) d_Cp_open_29 (by decide) rfl ?_
        refine V.iret d_Cp_open_31 ⟨_, rfl, rfl⟩ ?_
        exact hP _ _ ⟨_, rfl, rfl, Or.inr (Or.inl ⟨by omega, e0, rfl, rfl⟩)⟩
      · refine V.if_eqT (n2 := 32) d_Cp_open_26 (by omega) (by omega) (by decide) ?_
        refine V.aload_n (n := 33) d_Cp_open_32 rfl rfl ?_
        refine V.cVi (n := 36) d_Cp_open_33 k_Cp_148 (c_Tr_canGrow s2 s1 (hS.okM hW)) rfl rfl (by decide) rfl ?_
        rw [cg_eq hS hW (by omega)]
        rcases bi_or (goF F L) with ⟨hg, e⟩ | ⟨hg, e⟩ <;> rw [e]
        · refine V.if_neT (n2 := 42) d_Cp_open_36 (by omega) (by omega) (by decide) ?_
          refine V.aload_n (n := 43) d_Cp_open_42 rfl rfl ?_
          refine V.getA (n := 46) d_Cp_open_43 f_Cp_26 (by assumption) rfl rfl ?_
          refine V.aload_n (n := 47) d_Cp_open_46 rfl rfl ?_
          refine V.getA (n := 50) d_Cp_open_47 f_Cp_10 (by assumption) rfl rfl ?_
          refine V.cVqv (n := 53) d_Cp_open_50 k_Cp_83 (c_Hi_remember x3 hC.1 (by omega) (by omega) hx1 (by omega)) rfl rfl (by decide) rfl (fun ν hq => ?_)
          obtain ⟨hC1, fr⟩ := hC.push hS hW hq
          have hS1 : ShS ν (x + 1) F L := hS.at fun b b0 b1 => fr b (by omega)
          refine V.iconst (n := 54) d_Cp_open_53 rfl ?_
          refine V.istore_n (n := 55) d_Cp_open_54 (by decide) rfl ?_
          refine V.loc (lo' := [(3, rI 0), (2, rA E (x + 1 + 14)), (1, rI r), (0, rA E x)]) ⟨rfl, rfl, rfl, rfl, trivial⟩ ?_
          exact loop hg (by omega) (by omega) r.toNat 0 ν F (by omega) (Int.le_refl _) hC1 (fun b hb => fr b (by omega)) hS1 hW (by omega) (by omega) rfl
        · refine V.if_neF (n := 39) d_Cp_open_36 (by omega) (by omega) rfl ⟨42, by decide⟩ ?_
          refine V.bipush (n := 41) d_Cp_open_39 (by decide) rfl ?_
          refine V.iret d_Cp_open_41 ⟨_, rfl, rfl⟩ ?_
          exact hP _ _ ⟨_, rfl, rfl, Or.inr (Or.inr (Or.inl ⟨by omega, by omega, hg, rfl, rfl⟩))⟩
    · refine V.loc (lo' := [(1, rI r), (0, rA E x)]) ⟨rfl, rfl, trivial⟩ ?_
      exact bad (by omega)
theorem c_Tr_plant2 {t g : Nat} (hT : isTree G t g) (hG : isGame G g) (hgt : t + 16 < g ∨ g + 12 < t) (hp0 : 0 ≤ p) (hp1 : p < 20) (hm : inR (μ (g + 4) p)) (hc : inR (μ (g + 10) p)) : KV E l 4 m_Tr_plant t [rI p] G μ 0 0 (dqv (fun μ' => (∀ b, b < t ∨ t + 16 < b → μ' b = μ b) ∧ μ' t 9 = 1 ∧ μ' (t + 2) 0 = p ∧ μ' (t + 4) 0 = -5 ∧ μ' (t + 6) 0 = 0 ∧ μ' (t + 12) 0 = 0 ∧ μ' (t + 14) 0 = -5 ∧ (∀ e w : Prop, ∀ [Decidable e] [Decidable w], (e ↔ (¬ μ (g + 4) p = 0 ∨ μ (g + 10) p = 0)) → (w ↔ μ (g + 4) p = 1) → μ' (t + 8) 0 = lcP e w False (μ (g + 6) p) ∧ μ' (t + 10) 0 = lcD e w False (μ (g + 8) p) ∧ μ' (t + 16) 0 = 0) ∧ ∀ b, t < b → b ≤ t + 16 → ∀ j, ¬ j = 0 → μ' b j = μ b j) G) := by
  have hT0 := hT
  have hG0 := hG
  obtain ⟨t0, t1, t2, t3, t4, t5, t6, t7, t8⟩ := hT
  refine ⟨KC.ofP q_Tr_plant.1 rfl (Nat.le_of_ble_eq_true rfl) rfl (fun Post NT ST hP => ?_), ⟨_, _, _, t0, rfl, rfl⟩, q_Tr_plant, by decide⟩
  refine V.aload_n (n := 1) d_Tr_plant_0 rfl rfl ?_
  refine V.cVv (n := 4) d_Tr_plant_1 k_Tr_66 (c_Tr_clear (by assumption)) rfl rfl (by decide) rfl ?_
  refine V.aload_n (n := 5) d_Tr_plant_4 rfl rfl ?_
  refine V.iload_n (n := 6) d_Tr_plant_5 rfl rfl ?_
  refine V.bipush (n := 8) d_Tr_plant_6 (by decide) rfl ?_
  generalize hm1 : wr μ t 9 0 = μ1
  have e9 : μ1 t 9 = 0 := by rw [← hm1, wr_s]
  have ea : ∀ b, ¬ b = t → μ1 b = μ b := fun b hb => by rw [← hm1, wr_a hb]
  refine V.cVqv (n := 11) d_Tr_plant_8 k_Tr_69 (c_Tr_addLeaf hT0 hG0 hgt (by omega) (by omega) hp0 hp1 (by omega) (fun m m0 m1 => by omega) (by rw [ea _ (by omega)]; exact hm) (by rw [ea _ (by omega)]; exact hc)) rfl rfl (by decide) rfl (fun μ' hq => ?_)
  rw [e9] at hq
  obtain ⟨q1, q2, q3, q4, q5, q6, q7, q8, q9⟩ := hq
  refine V.vret d_Tr_plant_11 rfl ?_
  refine hP _ _ ⟨rfl, rfl, fun b hb => by rw [q1 b hb, ea b (by omega)], q2, q4, q5, by rw [q6, if_neg (by omega)], q7, q8, fun e w _ _ h1 h2 => ?_, fun b b0 b1 j hj => by rw [q3 b b0 b1 j hj, ea b (by omega)]⟩
  rw [ea (g + 4) (by omega), ea (g + 10) (by omega), ea (g + 6) (by omega), ea (g + 8) (by omega)] at q9
  have h3 := q9 e w False h1 h2 ⟨fun x => x.elim, fun x => by rw [ow_neg (by omega)] at x; cases x⟩
  exact ⟨h3.1, h3.2.1, by rw [h3.2.2, bi_f (fun x => x.2)]⟩
theorem c_Cp_begin (hX : isCheap G x) (hS : ShS μ (x + 1) F L) (hW : WF F L) (hC : CHs x μ n h) (hp : inR p) : KV E l 7 m_Cp_begin x [rI p] G μ 0 0 (dqi (fun z μ' => (¬ (0 ≤ p ∧ p ≤ 19) ∧ z = -1 ∧ μ' = μ) ∨ ((0 ≤ p ∧ p ≤ 19) ∧ z = lcP (enF F L p) (F (3 + 5 * p + 1) = 1) False (F (3 + 5 * p + 2)) ∧ CHs x μ' (pn n) (ph n h F L) ∧ FR x μ μ' ∧ ∀ F', F' 1 = 1 → (∀ u w : Int, 0 ≤ u → u < 20 → 0 ≤ w → w < 5 → F' (3 + 5 * u + w) = F (3 + 5 * u + w)) → F' (223 + 7 * 0 + 0) = p → F' (223 + 7 * 0 + 1) = -5 → F' (223 + 7 * 0 + 2) = lcP (enF F L p) (F (3 + 5 * p + 1) = 1) False (F (3 + 5 * p + 2)) → F' (223 + 7 * 0 + 3) = lcD (enF F L p) (F (3 + 5 * p + 1) = 1) False (F (3 + 5 * p + 3)) → F' (223 + 7 * 0 + 4) = 0 → F' (223 + 7 * 0 + 5) = -5 → F' (223 + 7 * 0 + 6) = 0 → ShS μ' (x + 1) F' L)) G) := by
  have hX0 := hX
  obtain ⟨x0, x1, x2, x3, x4, x5, x6, x7⟩ := hX
  have hx1 := x1
  obtain ⟨s0, s1, s2⟩ := x1
  obtain ⟨t0, t1, t2, t3, t4, t5, t6, t7, t8⟩ := id s2
  have hsz := hC.2.2.1
  have hn4 := hC.2.1
  refine ⟨KC.ofP q_Cp_begin.1 rfl (Nat.le_of_ble_eq_true rfl) rfl (fun Post NT ST hP => ?_), ⟨_, _, _, x0, rfl, rfl⟩, q_Cp_begin, by decide⟩
  refine V.iload_n (n := 1) d_Cp_begin_0 rfl rfl ?_
  refine V.cSi (n := 4) d_Cp_begin_1 k_Cp_60 (c_Cp_isPosition (by omega)) rfl rfl rfl (by decide) rfl ?_
  rcases bi_or (0 ≤ p ∧ p ≤ 19) with ⟨c1, e⟩ | ⟨c1, e⟩ <;> rw [e]
  · have hp20 : p < 20 := by omega
    have hQ := hW.2.2.1.1 p c1.1 hp20
    have hle := outs_le hW.1 p
    refine V.if_neT (n2 := 9) d_Cp_begin_4 (by omega) (by omega) (by decide) ?_
    refine V.aload_n (n := 10) d_Cp_begin_9 rfl rfl ?_
    refine V.getA (n := 13) d_Cp_begin_10 f_Cp_26 (by assumption) rfl rfl ?_
    refine V.aload_n (n := 14) d_Cp_begin_13 rfl rfl ?_
    refine V.getA (n := 17) d_Cp_begin_14 f_Cp_10 (by assumption) rfl rfl ?_
    refine V.cVqv (n := 20) d_Cp_begin_17 k_Cp_83 (c_Hi_remember x3 hC.1 (by omega) (by omega) hx1 (by omega)) rfl rfl (by decide) rfl (fun ν hq => ?_)
    obtain ⟨hC1, fr⟩ := hC.push hS hW hq
    have hS1 : ShS ν (x + 1) F L := hS.at fun b b0 b1 => fr b (by omega)
    have hG1 := hS1.1.2 p c1.1 hp20
    have hc1 := (hS1.1.1.1 p c1.1 hp20).1
    refine V.aload_n (n := 21) d_Cp_begin_20 rfl rfl ?_
    refine V.getA (n := 24) d_Cp_begin_21 f_Cp_10 (by assumption) rfl rfl ?_
    refine V.getA (n := 27) d_Cp_begin_24 f_Cp_91 (by assumption) rfl rfl ?_
    refine V.iload_n (n := 28) d_Cp_begin_27 rfl rfl ?_
    refine V.cVqv (n := 31) d_Cp_begin_28 k_Cp_137 (c_Tr_plant2 s2 s1 (by omega) c1.1 hp20 (by omega) (by omega)) rfl rfl (by decide) rfl (fun ν1 hq => ?_)
    obtain ⟨m1, m2, m3, m4, m5, m6, m7, m8, m9⟩ := hq
    obtain ⟨m10, m11, m12⟩ := m8 (enF F L p) (F (3 + 5 * p + 1) = 1) (by rw [hG1.2.1, hc1]; show (_ ∨ _) ↔ (_ ∨ _); omega) (by rw [hG1.2.1])
    rw [hG1.2.2.1] at m10
    rw [hG1.2.2.2] at m11
    refine V.aload_n (n := 32) d_Cp_begin_31 rfl rfl ?_
    refine V.getA (n := 35) d_Cp_begin_32 f_Cp_10 (by assumption) rfl rfl ?_
    refine V.getA (n := 38) d_Cp_begin_35 f_Cp_91 (by assumption) rfl rfl ?_
    refine V.getA (n := 41) d_Cp_begin_38 f_Cp_141 (by assumption) rfl rfl ?_
    refine V.iconst (n := 42) d_Cp_begin_41 rfl ?_
    refine V.cVi (n := 45) d_Cp_begin_42 k_Cp_74 (c_Rw_get (by assumption) (by omega) (by omega)) rfl rfl (by decide) rfl ?_
    rw [m10]
    refine V.iret d_Cp_begin_45 ⟨_, rfl, rfl⟩ ?_
    refine hP _ _ ⟨_, rfl, rfl, Or.inr ⟨c1, rfl, hC1.at fun b b0 b1 => m1 b (by omega), fun b hb => by rw [m1 b (by omega), fr b (by omega)], fun F' f1 f2 f3 f4 f5 f6 f7 f8 f9 => ⟨(hS1.1.at fun b b0 b1 => m1 b (by omega)).congr fun u w a b c d => f2 u w a b c (by omega), ?_, ?_, fun y y0 y1 => ?_⟩⟩⟩
    · rw [m2, f1]
    · intro j j0 j1
      by_cases ej : j = 0
      · subst ej
        rw [m10, m11]
        unfold lcP lcD
        (repeat' split) <;> omega
      · rw [m9 _ (by omega) (by omega) j ej, m9 _ (by omega) (by omega) j ej]
        exact hS1.2.2.1 j j0 j1
    · have ey : y = 0 := by omega
      subst ey
      rw [f3, f4, f5, f6, f7, f8, f9]
      exact ⟨⟨m3, m4, m10, m11, m6, m7, m12⟩, fun _ => m5, fun q => absurd q (Int.lt_irrefl _)⟩
  · refine V.if_neF (n := 7) d_Cp_begin_4 (by omega) (by omega) rfl ⟨9, by decide⟩ ?_
    refine V.iconst (n := 8) d_Cp_begin_7 rfl ?_
    refine V.iret d_Cp_begin_8 ⟨_, rfl, rfl⟩ ?_
    exact hP _ _ ⟨_, rfl, rfl, Or.inl ⟨c1, rfl, rfl⟩⟩
end CCO
end
section
/-! THE CLASS ITSELF: texts, undo, snapshots -/
section CCP
variable {E : EV} {l : Launch} {G : GG} {μ : MU} {x n : Nat} {p q r v a b k : Int} {F F2 : Int → Int} {L L2 : List (Int × Int)} {h : HF}
theorem c_Cp_undo (hX : isCheap G x) (hC : CHs x μ n h) : KV E l 7 m_Cp_undo x [] G μ 0 0 (dqi (fun z μ' => (n = 0 ∧ z = -5 ∧ μ' = μ) ∨ (0 < n ∧ z = (n : Int) - 1 ∧ CHs x μ' (n - 1) h ∧ FR x μ μ' ∧ ShS μ' (x + 1) (h (n - 1)).1 (h (n - 1)).2)) G) := by
  obtain ⟨x0, x1, x2, x3, x4, x5, x6, x7⟩ := hX
  have hx1 := x1
  obtain ⟨s0, s1, s2⟩ := x1
  obtain ⟨h0, h1, h2⟩ := id x3
  obtain ⟨k1, k2, k3, k4⟩ := id hC
  refine ⟨KC.ofP q_Cp_undo.1 rfl (Nat.le_of_ble_eq_true rfl) rfl (fun Post NT ST hP => ?_), ⟨_, _, _, x0, rfl, rfl⟩, q_Cp_undo, by decide⟩
  refine V.aload_n (n := 1) d_Cp_undo_0 rfl rfl ?_
  refine V.getA (n := 4) d_Cp_undo_1 f_Cp_26 (by assumption) rfl rfl ?_
  refine V.getI (n := 7) d_Cp_undo_4 f_Cp_164 (by assumption) rfl rfl ?_
  rw [k3]
  refine V.if_ne (n2 := 13) (n := 10) d_Cp_undo_7 (by omega) (by decide) rfl (fun d1 => ?_) (fun d1 => ?_)
  · obtain ⟨s, e1, e2, e3⟩ := k4 (n - 1) (by omega)
    have e1' : μ (x + 63 + 1) (μ (x + 63) 1 - 1) = (s : Int) := by
      rw [k3, show (n : Int) - 1 = ((n - 1 : Nat) : Int) by omega]
      exact e1
    obtain ⟨qk, q1, q2⟩ := k1.1 ((n - 1 : Nat) : Int) (by omega) (by omega)
    refine V.aload_n (n := 14) d_Cp_undo_13 rfl rfl ?_
    refine V.getA (n := 17) d_Cp_undo_14 f_Cp_26 (by assumption) rfl rfl ?_
    refine V.aload_n (n := 18) d_Cp_undo_17 rfl rfl ?_
    refine V.getA (n := 21) d_Cp_undo_18 f_Cp_10 (by assumption) rfl rfl ?_
    refine V.cVqv (n := 24) d_Cp_undo_21 k_Cp_167 (c_Hi_takeLatest x3 k1 (by omega) (by omega) hx1 (by omega) e1') rfl rfl (by decide) rfl (fun ν hq => ?_)
    obtain ⟨m1, m2, m3⟩ := hq
    have hv : ν (x + 63) 1 = (n : Int) - 1 := by
      rw [m1]
      show (if (1 : Int) = 1 then μ (x + 63) 1 - 1 else μ (x + 63) 1) = _
      rw [if_pos rfl, k3]
    refine V.aload_n (n := 25) d_Cp_undo_24 rfl rfl ?_
    refine V.getA (n := 28) d_Cp_undo_25 f_Cp_26 (by assumption) rfl rfl ?_
    refine V.getI (n := 31) d_Cp_undo_28 f_Cp_164 (by assumption) rfl rfl ?_
    rw [hv]
    refine V.iret d_Cp_undo_31 ⟨_, rfl, rfl⟩ ?_
    refine hP _ _ ⟨_, rfl, rfl, Or.inr ⟨by omega, rfl, ⟨k1.at (m2 _ (by omega) (by omega)), by omega, by rw [hv]; omega, fun i hi => ?_⟩, fun b hb => m2 b (by omega) (by omega), e2.copy e3 m3⟩⟩
    obtain ⟨s', f1, f2, f3⟩ := k4 i (by omega)
    obtain ⟨qk', q1', q2'⟩ := k1.1 (i : Int) (by omega) (by omega)
    exact ⟨s', by rw [m2 _ (by omega) (by omega)]; exact f1, f2.at fun b b0 b1 => m2 b (by omega) (by omega), f3⟩
  · refine V.bipush (n := 12) d_Cp_undo_10 (by decide) rfl ?_
    refine V.iret d_Cp_undo_12 ⟨_, rfl, rfl⟩ ?_
    exact hP _ _ ⟨_, rfl, rfl, Or.inl ⟨by omega, rfl, rfl⟩⟩
theorem c_Cp_keep (hX : isCheap G x) (hS : ShS μ (x + 1) F L) (hW : WF F L) : KV E l 5 m_Cp_keep x [] G μ 0 0 (dqi (fun z μ' => z = F 0 ∧ (∀ b, ¬ b = x → (b < x + 32 ∨ x + 62 < b) → μ' b = μ b) ∧ μ' x 2 = 1 ∧ ShS μ' (x + 32) F L) G) := by
  obtain ⟨x0, x1, x2, x3, x4, x5, x6, x7⟩ := hX
  have hx1 := x1
  obtain ⟨s0, s1, s2⟩ := x1
  obtain ⟨g0, g1, g2, g3, g4, g5, g6⟩ := id s1
  refine ⟨KC.ofP q_Cp_keep.1 rfl (Nat.le_of_ble_eq_true rfl) rfl (fun Post NT ST hP => ?_), ⟨_, _, _, x0, rfl, rfl⟩, q_Cp_keep, by decide⟩
  refine V.aload_n (n := 1) d_Cp_keep_0 rfl rfl ?_
  refine V.getA (n := 4) d_Cp_keep_1 f_Cp_16 (by assumption) rfl rfl ?_
  refine V.aload_n (n := 5) d_Cp_keep_4 rfl rfl ?_
  refine V.getA (n := 8) d_Cp_keep_5 f_Cp_10 (by assumption) rfl rfl ?_
  refine V.cVqv (n := 11) d_Cp_keep_8 k_Cp_170 (c_St_copyFrom x2 hx1 (by omega)) rfl rfl (by decide) rfl (fun ν hq => ?_)
  obtain ⟨m1, m2⟩ := hq
  have hm : ν (x + 1 + 1) 6 = F 0 := by
    rw [m1 _ (by omega), hW.2.1.1]
    exact hS.1.1.2
  refine V.aload_n (n := 12) d_Cp_keep_11 rfl rfl ?_
  refine V.iconst (n := 13) d_Cp_keep_12 rfl ?_
  refine V.putI (n := 16) d_Cp_keep_13 f_Cp_19 t_Cp_hasSnapshot ⟨rfl, rfl⟩ (by assumption) rfl rfl ?_
  refine V.aload_n (n := 17) d_Cp_keep_16 rfl rfl ?_
  refine V.getA (n := 20) d_Cp_keep_17 f_Cp_10 (by assumption) rfl rfl ?_
  refine V.getA (n := 23) d_Cp_keep_20 f_Cp_64 (by assumption) rfl rfl ?_
  refine V.getI (n := 26) d_Cp_keep_23 f_Cp_113 (by assumption) rfl rfl ?_
  rw [wr_a (show ¬ x + 1 + 1 = x by omega), hm]
  refine V.iret d_Cp_keep_26 ⟨_, rfl, rfl⟩ ?_
  exact hP _ _ ⟨_, rfl, rfl, rfl, fun b b0 b1 => by rw [wr_a b0, m1 b (by omega)], wr_s _ _ _ _, (hS.copy hW m2).at fun b b0 b1 => wr_a (by omega)⟩
theorem c_Cp_restore (hX : isCheap G x) (hS : ShS μ (x + 1) F L) (hW : WF F L) (hC : CHs x μ n h) (hb : inR (μ x 2)) (h2 : ¬ μ x 2 = 0 → ShS μ (x + 32) F2 L2 ∧ WF F2 L2) : KV E l 7 m_Cp_restore x [] G μ 0 0 (dqi (fun z μ' => (μ x 2 = 0 ∧ z = -5 ∧ μ' = μ) ∨ (¬ μ x 2 = 0 ∧ z = F2 0 ∧ CHs x μ' (pn n) (ph n h F L) ∧ FR x μ μ' ∧ ShS μ' (x + 1) F2 L2)) G) := by
  obtain ⟨x0, x1, x2, x3, x4, x5, x6, x7⟩ := hX
  have hx1 := x1
  obtain ⟨s0, s1, s2⟩ := x1
  obtain ⟨g0, g1, g2, g3, g4, g5, g6⟩ := id s1
  have hsz := hC.2.2.1
  have hn4 := hC.2.1
  refine ⟨KC.ofP q_Cp_restore.1 rfl (Nat.le_of_ble_eq_true rfl) rfl (fun Post NT ST hP => ?_), ⟨_, _, _, x0, rfl, rfl⟩, q_Cp_restore, by decide⟩
  refine V.aload_n (n := 1) d_Cp_restore_0 rfl rfl ?_
  refine V.getI (n := 4) d_Cp_restore_1 f_Cp_19 (by assumption) rfl rfl ?_
  refine V.if_ne (n2 := 10) (n := 7) d_Cp_restore_4 (by omega) (by decide) rfl (fun d1 => ?_) (fun d1 => ?_)
  · obtain ⟨hS2, hW2⟩ := h2 (by omega)
    refine V.aload_n (n := 11) d_Cp_restore_10 rfl rfl ?_
    refine V.getA (n := 14) d_Cp_restore_11 f_Cp_26 (by assumption) rfl rfl ?_
    refine V.aload_n (n := 15) d_Cp_restore_14 rfl rfl ?_
    refine V.getA (n := 18) d_Cp_restore_15 f_Cp_10 (by assumption) rfl rfl ?_
    refine V.cVqv (n := 21) d_Cp_restore_18 k_Cp_83 (c_Hi_remember x3 hC.1 (by omega) (by omega) hx1 (by omega)) rfl rfl (by decide) rfl (fun ν hq => ?_)
    obtain ⟨hC1, fr⟩ := hC.push hS hW hq
    have hS3 : ShS ν (x + 32) F2 L2 := hS2.at fun b b0 b1 => fr b (by omega)
    refine V.aload_n (n := 22) d_Cp_restore_21 rfl rfl ?_
    refine V.getA (n := 25) d_Cp_restore_22 f_Cp_10 (by assumption) rfl rfl ?_
    refine V.aload_n (n := 26) d_Cp_restore_25 rfl rfl ?_
    refine V.getA (n := 29) d_Cp_restore_26 f_Cp_16 (by assumption) rfl rfl ?_
    refine V.cVqv (n := 32) d_Cp_restore_29 k_Cp_170 (c_St_copyFrom hx1 x2 (by omega)) rfl rfl (by decide) rfl (fun ν1 hq => ?_)
    obtain ⟨m1, m2⟩ := hq
    have hS4 := hS3.copy hW2 m2
    have hm : ν1 (x + 1 + 1) 6 = F2 0 := by
      rw [hW2.2.1.1]
      exact hS4.1.1.2
    refine V.aload_n (n := 33) d_Cp_restore_32 rfl rfl ?_
    refine V.getA (n := 36) d_Cp_restore_33 f_Cp_10 (by assumption) rfl rfl ?_
    refine V.getA (n := 39) d_Cp_restore_36 f_Cp_64 (by assumption) rfl rfl ?_
    refine V.getI (n := 42) d_Cp_restore_39 f_Cp_113 (by assumption) rfl rfl ?_
    rw [hm]
    refine V.iret d_Cp_restore_42 ⟨_, rfl, rfl⟩ ?_
    exact hP _ _ ⟨_, rfl, rfl, Or.inr ⟨by omega, rfl, hC1.at fun b b0 b1 => m1 b (by omega), fun b hb => by rw [m1 b (by omega), fr b (by omega)], hS4⟩⟩
  · refine V.bipush (n := 9) d_Cp_restore_7 (by decide) rfl ?_
    refine V.iret d_Cp_restore_9 ⟨_, rfl, rfl⟩ ?_
    exact hP _ _ ⟨_, rfl, rfl, Or.inl ⟨by omega, rfl, rfl⟩⟩
end CCP
end
section
/-! BOTH SIDES TOGETHER: what holds between two calls; the calls that tell -/
theorem KV.wk {E : EV} {l : Launch} {d : Nat} {my : MR} {b : Nat} {as : List Value} {G G' : GG} {μ : MU} {mc ms : Nat} {P Q : Int → MU → Prop} (k : KV E l d my b as G μ mc ms (dqi P G')) (hq : ∀ z μ', P z μ' → Q z μ') : KV E l d my b as G μ mc ms (dqi Q G') := by
  obtain ⟨k1, k2⟩ := k
  refine ⟨k1.post ?_, k2⟩
  rintro v G1 μ1 ⟨z, h1, h2, h3⟩
  exact ⟨z, h1, h2, hq z μ1 h3⟩
theorem KV.wkd {E : EV} {l : Launch} {d : Nat} {my : MR} {b : Nat} {as : List Value} {G G' : GG} {μ μ0 : MU} {mc ms : Nat} {z0 : Int} {Q : Int → MU → Prop} (k : KV E l d my b as G μ mc ms (dq (some (rI z0)) G' μ0)) (hq : Q z0 μ0) : KV E l d my b as G μ mc ms (dqi Q G') := by
  obtain ⟨k1, k2⟩ := k
  refine ⟨k1.post ?_, k2⟩
  rintro v G1 μ1 ⟨h1, h2, h3⟩
  subst h3
  exact ⟨z0, h1, h2, hq⟩
/-- what is kept and what is typed, on both sides -/
def KE (x m : Nat) (μ : MU) : Prop := μ x 2 = μ m 5 ∧ (μ m 5 = 0 ∨ (μ m 5 = 1 ∧ ∃ L2, ShS μ (x + 32) (μ (m + 3)) L2 ∧ WF (μ (m + 3)) L2))
def TE (x m : Nat) (μ : MU) : Prop := μ (x + 189) 1 = μ m 7 ∧ 0 ≤ μ m 7 ∧ μ m 7 ≤ 60 ∧ ∀ i : Int, 0 ≤ i → i < μ m 7 → μ (x + 189 + 1) i = μ (m + 4) i ∧ 0 ≤ μ (m + 4) i ∧ μ (m + 4) i < 65536
def INV (x m : Nat) (μ : MU) : Prop := ∃ (L : List (Int × Int)) (n : Nat) (h : HF), ShS μ (x + 1) (μ (m + 1)) L ∧ WF (μ (m + 1)) L ∧ CHs x μ n h ∧ MHs m μ n h ∧ KE x m μ ∧ TE x m μ
theorem KE.at {x m : Nat} {μ μ' : MU} (h : KE x m μ) (e0 : μ' x 2 = μ x 2) (e1 : ∀ b, x + 32 ≤ b → b ≤ x + 62 → μ' b = μ b) (e2 : μ' (m + 3) = μ (m + 3)) (e3 : μ' m 5 = μ m 5) : KE x m μ' := by
  unfold KE at *
  rw [e0, e2, e3]
  refine ⟨h.1, ?_⟩
  rcases h.2 with h2 | ⟨h2, L2, h3, h4⟩
  · exact Or.inl h2
  · exact Or.inr ⟨h2, L2, h3.at fun b b0 b1 => e1 b b0 (by omega), h4⟩
theorem TE.at {x m : Nat} {μ μ' : MU} (h : TE x m μ) (e0 : μ' (x + 189) = μ (x + 189)) (e1 : μ' (x + 189 + 1) = μ (x + 189 + 1)) (e2 : μ' (m + 4) = μ (m + 4)) (e3 : μ' m 7 = μ m 7) : TE x m μ' := by
  unfold TE at *
  rw [e0, e1, e2, e3]
  exact h
theorem MHs.at {m n : Nat} {μ μ' : MU} {h : HF} (k : MHs m μ n h) (e0 : μ' m 3 = μ m 3) (e1 : μ' (m + 2) = μ (m + 2)) : MHs m μ' n h := by
  unfold MHs at *
  rw [e0, e1]
  exact k
theorem INV.at {x m : Nat} {μ μ' : MU} (k : INV x m μ) (e1 : ∀ b, x ≤ b → b ≤ x + 190 → μ' b = μ b) (e2 : ∀ b, m + 1 ≤ b → b ≤ m + 4 → μ' b = μ b) (e3 : ∀ j, j = 3 ∨ j = 5 ∨ j = 7 → μ' m j = μ m j) : INV x m μ' := by
  obtain ⟨L, n, h, k1, k2, k3, k4, k5, k6⟩ := k
  refine ⟨L, n, h, ?_, by rw [e2 _ (by omega) (by omega)]; exact k2, k3.at fun b b0 b1 => e1 b (by omega) (by omega), k4.at (e3 3 (by omega)) (e2 _ (by omega) (by omega)), k5.at (by rw [e1 x (by omega) (by omega)]) (fun b b0 b1 => e1 b (by omega) (by omega)) (e2 _ (by omega) (by omega)) (e3 5 (by omega)), k6.at (e1 _ (by omega) (by omega)) (e1 _ (by omega) (by omega)) (e2 _ (by omega) (by omega)) (e3 7 (by omega))⟩
  rw [e2 (m + 1) (by omega) (by omega)]
  exact k1.at fun b b0 b1 => e1 b (by omega) (by omega)
/-- no tree -/
theorem WF.clr {F : Int → Int} {L : List (Int × Int)} (hL : okL L) (hM : ML F L) (hQ : okQ F) (h1 : F 1 = 0) (h2 : F 2 = 0) (h3 : ∀ j : Int, 223 ≤ j → j < 1624 → F j = 0) : WF F L := by
  refine ⟨hL, hM, ⟨hQ, by omega, by omega, fun n a b => by omega, fun j a b => ?_⟩, fun n a b => by omega, fun n j a b => by omega, fun n a b => by omega, fun n a b => by omega, fun n a b => by omega, ?_⟩
  · show 0 ≤ F (223 + 7 * j + 2) ∧ F (223 + 7 * j + 2) ≤ 9999 ∧ 0 ≤ F (223 + 7 * j + 3) ∧ F (223 + 7 * j + 3) ≤ 9999
    rw [h3 _ (by omega) (by omega), h3 _ (by omega) (by omega)]
    omega
  · rw [h1, h2]
    rfl
section PT
variable {E : EV} {l : Launch} {G : GG} {μ : MU} {x m : Nat} {n p q r v a b k : Int}
end PT
end
section
/-! BOTH SIDES TOGETHER: games changed -/
section PT2
variable {E : EV} {l : Launch} {G : GG} {μ : MU} {x m : Nat} {n p q r v a b k : Int}
theorem okQ.of {F F' : Int → Int} (h : okQ F) (e : ∀ u w : Int, 0 ≤ u → u < 20 → 0 ≤ w → w < 5 → F' (3 + 5 * u + w) = F (3 + 5 * u + w)) : okQ F' := fun u u0 u1 => by
  rw [e u 0 u0 u1 (by omega) (by omega), e u 1 u0 u1 (by omega) (by omega), e u 2 u0 u1 (by omega) (by omega), e u 3 u0 u1 (by omega) (by omega)]
  exact h u u0 u1
end PT2
end
section
/-! NEW OBJECTS: what their fields begin with; the fields that constructors put -/
theorem nf_Gm : NEWF 0 7 [some none, some none, some none, some none, some none, some none, none] := by
  refine ⟨RX0, TX0, rfl, rfl, fun j hj => ?_⟩
  match j, hj with
    | 0, _ => exact ⟨tyX0 0, by decide +kernel, Or.inr ⟨rfl, rfl⟩⟩
    | 1, _ => exact ⟨tyX0 1, by decide +kernel, Or.inr ⟨rfl, rfl⟩⟩
    | 2, _ => exact ⟨tyX0 2, by decide +kernel, Or.inr ⟨rfl, rfl⟩⟩
    | 3, _ => exact ⟨tyX0 3, by decide +kernel, Or.inr ⟨rfl, rfl⟩⟩
    | 4, _ => exact ⟨tyX0 4, by decide +kernel, Or.inr ⟨rfl, rfl⟩⟩
    | 5, _ => exact ⟨tyX0 5, by decide +kernel, Or.inr ⟨rfl, rfl⟩⟩
    | 6, _ => exact ⟨tyX0 6, by decide +kernel, Or.inl ⟨rfl, rfl⟩⟩
    | j + 7, hj => exact absurd hj (by omega)
theorem nf_Hi : NEWF 1 2 [some none, none] := by
  refine ⟨RX1, TX1, rfl, rfl, fun j hj => ?_⟩
  match j, hj with
    | 0, _ => exact ⟨tyX1 0, by decide +kernel, Or.inr ⟨rfl, rfl⟩⟩
    | 1, _ => exact ⟨tyX1 1, by decide +kernel, Or.inl ⟨rfl, rfl⟩⟩
    | j + 2, hj => exact absurd hj (by omega)
theorem nf_Pf : NEWF 2 1 [some none] := by
  refine ⟨RX2, TX2, rfl, rfl, fun j hj => ?_⟩
  match j, hj with
    | 0, _ => exact ⟨tyX2 0, by decide +kernel, Or.inr ⟨rfl, rfl⟩⟩
    | j + 1, hj => exact absurd hj (by omega)
theorem nf_Rd : NEWF 3 3 [some none, some none, none] := by
  refine ⟨RX3, TX3, rfl, rfl, fun j hj => ?_⟩
  match j, hj with
    | 0, _ => exact ⟨tyX3 0, by decide +kernel, Or.inr ⟨rfl, rfl⟩⟩
    | 1, _ => exact ⟨tyX3 1, by decide +kernel, Or.inr ⟨rfl, rfl⟩⟩
    | 2, _ => exact ⟨tyX3 2, by decide +kernel, Or.inl ⟨rfl, rfl⟩⟩
    | j + 3, hj => exact absurd hj (by omega)
theorem nf_Ro : NEWF 4 1 [some none] := by
  refine ⟨RX4, TX4, rfl, rfl, fun j hj => ?_⟩
  match j, hj with
    | 0, _ => exact ⟨tyX4 0, by decide +kernel, Or.inr ⟨rfl, rfl⟩⟩
    | j + 1, hj => exact absurd hj (by omega)
theorem nf_Rw : NEWF 5 1 [some none] := by
  refine ⟨RX5, TX5, rfl, rfl, fun j hj => ?_⟩
  match j, hj with
    | 0, _ => exact ⟨tyX5 0, by decide +kernel, Or.inr ⟨rfl, rfl⟩⟩
    | j + 1, hj => exact absurd hj (by omega)
theorem nf_St : NEWF 6 2 [some none, some none] := by
  refine ⟨RX6, TX6, rfl, rfl, fun j hj => ?_⟩
  match j, hj with
    | 0, _ => exact ⟨tyX6 0, by decide +kernel, Or.inr ⟨rfl, rfl⟩⟩
    | 1, _ => exact ⟨tyX6 1, by decide +kernel, Or.inr ⟨rfl, rfl⟩⟩
    | j + 2, hj => exact absurd hj (by omega)
theorem nf_Tx : NEWF 7 2 [some none, none] := by
  refine ⟨RX7, TX7, rfl, rfl, fun j hj => ?_⟩
  match j, hj with
    | 0, _ => exact ⟨tyX7 0, by decide +kernel, Or.inr ⟨rfl, rfl⟩⟩
    | 1, _ => exact ⟨tyX7 1, by decide +kernel, Or.inl ⟨rfl, rfl⟩⟩
    | j + 2, hj => exact absurd hj (by omega)
theorem nf_Tr : NEWF 8 10 [some none, some none, some none, some none, some none, some none, some none, some none, some none, none] := by
  refine ⟨RX8, TX8, rfl, rfl, fun j hj => ?_⟩
  match j, hj with
    | 0, _ => exact ⟨tyX8 0, by decide +kernel, Or.inr ⟨rfl, rfl⟩⟩
    | 1, _ => exact ⟨tyX8 1, by decide +kernel, Or.inr ⟨rfl, rfl⟩⟩
    | 2, _ => exact ⟨tyX8 2, by decide +kernel, Or.inr ⟨rfl, rfl⟩⟩
    | 3, _ => exact ⟨tyX8 3, by decide +kernel, Or.inr ⟨rfl, rfl⟩⟩
    | 4, _ => exact ⟨tyX8 4, by decide +kernel, Or.inr ⟨rfl, rfl⟩⟩
    | 5, _ => exact ⟨tyX8 5, by decide +kernel, Or.inr ⟨rfl, rfl⟩⟩
    | 6, _ => exact ⟨tyX8 6, by decide +kernel, Or.inr ⟨rfl, rfl⟩⟩
    | 7, _ => exact ⟨tyX8 7, by decide +kernel, Or.inr ⟨rfl, rfl⟩⟩
    | 8, _ => exact ⟨tyX8 8, by decide +kernel, Or.inr ⟨rfl, rfl⟩⟩
    | 9, _ => exact ⟨tyX8 9, by decide +kernel, Or.inl ⟨rfl, rfl⟩⟩
    | j + 10, hj => exact absurd hj (by omega)
theorem pf_Gm_14 : ∃ (T : u_T) (N : Nat), vwCl[0]? = some (RX0, T, N) ∧ Cond.fieldLink RX0 14 (T 0).1 (T 0).2.1 (T 0).2.2.1 ∈ gw := ⟨TX0, 7, rfl, gw_of 65 (by decide +kernel) (by decide +kernel)⟩
theorem pf_Gm_20 : ∃ (T : u_T) (N : Nat), vwCl[0]? = some (RX0, T, N) ∧ Cond.fieldLink RX0 20 (T 1).1 (T 1).2.1 (T 1).2.2.1 ∈ gw := ⟨TX0, 7, rfl, gw_of 69 (by decide +kernel) (by decide +kernel)⟩
theorem pf_Gm_23 : ∃ (T : u_T) (N : Nat), vwCl[0]? = some (RX0, T, N) ∧ Cond.fieldLink RX0 23 (T 2).1 (T 2).2.1 (T 2).2.2.1 ∈ gw := ⟨TX0, 7, rfl, gw_of 71 (by decide +kernel) (by decide +kernel)⟩
theorem pf_Gm_26 : ∃ (T : u_T) (N : Nat), vwCl[0]? = some (RX0, T, N) ∧ Cond.fieldLink RX0 26 (T 3).1 (T 3).2.1 (T 3).2.2.1 ∈ gw := ⟨TX0, 7, rfl, gw_of 74 (by decide +kernel) (by decide +kernel)⟩
theorem pf_Gm_29 : ∃ (T : u_T) (N : Nat), vwCl[0]? = some (RX0, T, N) ∧ Cond.fieldLink RX0 29 (T 4).1 (T 4).2.1 (T 4).2.2.1 ∈ gw := ⟨TX0, 7, rfl, gw_of 77 (by decide +kernel) (by decide +kernel)⟩
theorem pf_Gm_32 : ∃ (T : u_T) (N : Nat), vwCl[0]? = some (RX0, T, N) ∧ Cond.fieldLink RX0 32 (T 5).1 (T 5).2.1 (T 5).2.2.1 ∈ gw := ⟨TX0, 7, rfl, gw_of 81 (by decide +kernel) (by decide +kernel)⟩
theorem pf_Hi_11 : ∃ (T : u_T) (N : Nat), vwCl[1]? = some (RX1, T, N) ∧ Cond.fieldLink RX1 11 (T 0).1 (T 0).2.1 (T 0).2.2.1 ∈ gw := ⟨TX1, 2, rfl, gw_of 167 (by decide +kernel) (by decide +kernel)⟩
theorem pf_Pf_14 : ∃ (T : u_T) (N : Nat), vwCl[2]? = some (RX2, T, N) ∧ Cond.fieldLink RX2 14 (T 0).1 (T 0).2.1 (T 0).2.2.1 ∈ gw := ⟨TX2, 1, rfl, gw_of 226 (by decide +kernel) (by decide +kernel)⟩
theorem pf_Rd_12 : ∃ (T : u_T) (N : Nat), vwCl[3]? = some (RX3, T, N) ∧ Cond.fieldLink RX3 12 (T 1).1 (T 1).2.1 (T 1).2.2.1 ∈ gw := ⟨TX3, 3, rfl, gw_of 198 (by decide +kernel) (by decide +kernel)⟩
theorem pf_Rd_18 : ∃ (T : u_T) (N : Nat), vwCl[3]? = some (RX3, T, N) ∧ Cond.fieldLink RX3 18 (T 0).1 (T 0).2.1 (T 0).2.2.1 ∈ gw := ⟨TX3, 3, rfl, gw_of 197 (by decide +kernel) (by decide +kernel)⟩
theorem pf_Ro_14 : ∃ (T : u_T) (N : Nat), vwCl[4]? = some (RX4, T, N) ∧ Cond.fieldLink RX4 14 (T 0).1 (T 0).2.1 (T 0).2.2.1 ∈ gw := ⟨TX4, 1, rfl, gw_of 214 (by decide +kernel) (by decide +kernel)⟩
theorem pf_Rw_13 : ∃ (T : u_T) (N : Nat), vwCl[5]? = some (RX5, T, N) ∧ Cond.fieldLink RX5 13 (T 0).1 (T 0).2.1 (T 0).2.2.1 ∈ gw := ⟨TX5, 1, rfl, gw_of 56 (by decide +kernel) (by decide +kernel)⟩
theorem pf_St_10 : ∃ (T : u_T) (N : Nat), vwCl[6]? = some (RX6, T, N) ∧ Cond.fieldLink RX6 10 (T 0).1 (T 0).2.1 (T 0).2.2.1 ∈ gw := ⟨TX6, 2, rfl, gw_of 149 (by decide +kernel) (by decide +kernel)⟩
theorem pf_St_21 : ∃ (T : u_T) (N : Nat), vwCl[6]? = some (RX6, T, N) ∧ Cond.fieldLink RX6 21 (T 1).1 (T 1).2.1 (T 1).2.2.1 ∈ gw := ⟨TX6, 2, rfl, gw_of 151 (by decide +kernel) (by decide +kernel)⟩
theorem pf_Tx_9 : ∃ (T : u_T) (N : Nat), vwCl[7]? = some (RX7, T, N) ∧ Cond.fieldLink RX7 9 (T 0).1 (T 0).2.1 (T 0).2.2.1 ∈ gw := ⟨TX7, 2, rfl, gw_of 181 (by decide +kernel) (by decide +kernel)⟩
theorem pf_Tr_14 : ∃ (T : u_T) (N : Nat), vwCl[8]? = some (RX8, T, N) ∧ Cond.fieldLink RX8 14 (T 1).1 (T 1).2.1 (T 1).2.2.1 ∈ gw := ⟨TX8, 10, rfl, gw_of 108 (by decide +kernel) (by decide +kernel)⟩
theorem pf_Tr_20 : ∃ (T : u_T) (N : Nat), vwCl[8]? = some (RX8, T, N) ∧ Cond.fieldLink RX8 20 (T 2).1 (T 2).2.1 (T 2).2.2.1 ∈ gw := ⟨TX8, 10, rfl, gw_of 110 (by decide +kernel) (by decide +kernel)⟩
theorem pf_Tr_23 : ∃ (T : u_T) (N : Nat), vwCl[8]? = some (RX8, T, N) ∧ Cond.fieldLink RX8 23 (T 3).1 (T 3).2.1 (T 3).2.2.1 ∈ gw := ⟨TX8, 10, rfl, gw_of 112 (by decide +kernel) (by decide +kernel)⟩
theorem pf_Tr_26 : ∃ (T : u_T) (N : Nat), vwCl[8]? = some (RX8, T, N) ∧ Cond.fieldLink RX8 26 (T 4).1 (T 4).2.1 (T 4).2.2.1 ∈ gw := ⟨TX8, 10, rfl, gw_of 114 (by decide +kernel) (by decide +kernel)⟩
theorem pf_Tr_29 : ∃ (T : u_T) (N : Nat), vwCl[8]? = some (RX8, T, N) ∧ Cond.fieldLink RX8 29 (T 5).1 (T 5).2.1 (T 5).2.2.1 ∈ gw := ⟨TX8, 10, rfl, gw_of 116 (by decide +kernel) (by decide +kernel)⟩
theorem pf_Tr_32 : ∃ (T : u_T) (N : Nat), vwCl[8]? = some (RX8, T, N) ∧ Cond.fieldLink RX8 32 (T 6).1 (T 6).2.1 (T 6).2.2.1 ∈ gw := ⟨TX8, 10, rfl, gw_of 118 (by decide +kernel) (by decide +kernel)⟩
theorem pf_Tr_35 : ∃ (T : u_T) (N : Nat), vwCl[8]? = some (RX8, T, N) ∧ Cond.fieldLink RX8 35 (T 7).1 (T 7).2.1 (T 7).2.2.1 ∈ gw := ⟨TX8, 10, rfl, gw_of 120 (by decide +kernel) (by decide +kernel)⟩
theorem pf_Tr_38 : ∃ (T : u_T) (N : Nat), vwCl[8]? = some (RX8, T, N) ∧ Cond.fieldLink RX8 38 (T 8).1 (T 8).2.1 (T 8).2.2.1 ∈ gw := ⟨TX8, 10, rfl, gw_of 123 (by decide +kernel) (by decide +kernel)⟩
theorem pf_Tr_41 : ∃ (T : u_T) (N : Nat), vwCl[8]? = some (RX8, T, N) ∧ Cond.fieldLink RX8 41 (T 0).1 (T 0).2.1 (T 0).2.2.1 ∈ gw := ⟨TX8, 10, rfl, gw_of 107 (by decide +kernel) (by decide +kernel)⟩
theorem pf_Cp_10 : ∃ (T : u_T) (N : Nat), vwCl[9]? = some (RX9, T, N) ∧ Cond.fieldLink RX9 10 (T 0).1 (T 0).2.1 (T 0).2.2.1 ∈ gw := ⟨TX9, 8, rfl, gw_of 230 (by decide +kernel) (by decide +kernel)⟩
theorem pf_Cp_16 : ∃ (T : u_T) (N : Nat), vwCl[9]? = some (RX9, T, N) ∧ Cond.fieldLink RX9 16 (T 1).1 (T 1).2.1 (T 1).2.2.1 ∈ gw := ⟨TX9, 8, rfl, gw_of 231 (by decide +kernel) (by decide +kernel)⟩
theorem pf_Cp_26 : ∃ (T : u_T) (N : Nat), vwCl[9]? = some (RX9, T, N) ∧ Cond.fieldLink RX9 26 (T 3).1 (T 3).2.1 (T 3).2.2.1 ∈ gw := ⟨TX9, 8, rfl, gw_of 233 (by decide +kernel) (by decide +kernel)⟩
theorem pf_Cp_33 : ∃ (T : u_T) (N : Nat), vwCl[9]? = some (RX9, T, N) ∧ Cond.fieldLink RX9 33 (T 4).1 (T 4).2.1 (T 4).2.2.1 ∈ gw := ⟨TX9, 8, rfl, gw_of 234 (by decide +kernel) (by decide +kernel)⟩
theorem pf_Cp_42 : ∃ (T : u_T) (N : Nat), vwCl[9]? = some (RX9, T, N) ∧ Cond.fieldLink RX9 42 (T 5).1 (T 5).2.1 (T 5).2.2.1 ∈ gw := ⟨TX9, 8, rfl, gw_of 235 (by decide +kernel) (by decide +kernel)⟩
theorem pf_Cp_49 : ∃ (T : u_T) (N : Nat), vwCl[9]? = some (RX9, T, N) ∧ Cond.fieldLink RX9 49 (T 6).1 (T 6).2.1 (T 6).2.2.1 ∈ gw := ⟨TX9, 8, rfl, gw_of 236 (by decide +kernel) (by decide +kernel)⟩
theorem pf_Cp_56 : ∃ (T : u_T) (N : Nat), vwCl[9]? = some (RX9, T, N) ∧ Cond.fieldLink RX9 56 (T 7).1 (T 7).2.1 (T 7).2.2.1 ∈ gw := ⟨TX9, 8, rfl, gw_of 237 (by decide +kernel) (by decide +kernel)⟩
theorem grow_obj {G : GG} {sl b : Nat} {o q : Ob} (h : obj G b o) : obj (grow G sl q) b o := ⟨by show b < G.1 + 1; have := h.1; omega, by
  show (if b = G.1 then q else G.2.2 b) = o
  rw [if_neg (by have := h.1; omega)]
  exact h.2⟩
theorem grow_new (G : GG) (sl : Nat) (q : Ob) : obj (grow G sl q) G.1 q := ⟨by show G.1 < G.1 + 1; omega, if_pos rfl⟩
theorem shp_obj {G : GG} {a b : Nat} {o q : Ob} (h : obj G b o) (hb : ¬ b = a) : obj (shp G a q) b o := ⟨h.1, by
  show (if b = a then q else G.2.2 b) = o
  rw [if_neg hb]
  exact h.2⟩
theorem shp_new {G : GG} {a : Nat} {o q : Ob} (h : obj G a o) : obj (shp G a q) a q := ⟨h.1, if_pos rfl⟩
theorem wrC_s (μ : MU) (a : Nat) (f : Int → Int) : wrC μ a f a = f := if_pos rfl
theorem wrC_a {μ : MU} {a b : Nat} {f : Int → Int} (h : ¬ b = a) : wrC μ a f b = μ b := if_neg h
section CTN
variable {E : EV} {l : Launch} {G : GG} {μ : MU} {r N : Nat}
theorem c_Rw_init (ho : obj G r (.inl (5, [some none]))) (h0 : 0 < N) (hN : N ≤ 65536) : KI E l 1 m_Rw_init r [rI N] G μ 1 N (dq none (shp (grow G N (.inr (0, N))) r (.inl (5, [some (some G.1)]))) (wrC μ G.1 (fun _ => 0))) := by
  refine ⟨KC.ofV q_Rw_init.1 rfl (Nat.le_of_ble_eq_true rfl) rfl ?_, q_Rw_init, by decide⟩
  refine V.aload_n (n := 1) d_Rw_init_0 rfl rfl ?_
  refine V.objInit (n := 4) d_Rw_init_1 k_Rw_1 rfl (by decide) rfl ?_
  refine V.aload_n (n := 5) d_Rw_init_4 rfl rfl ?_
  refine V.iconst (n := 6) d_Rw_init_5 rfl ?_
  refine V.iload_n (n := 7) d_Rw_init_6 rfl rfl ?_
  refine V.mmax (n := 10) d_Rw_init_7 k_Rw_7 (by omega) (by omega) rfl (by decide) rfl ?_
  refine V.newa (n := 12) d_Rw_init_10 ja_i na_i (show max 0 (N : Int) = ((N : Nat) : Int) by omega) (by omega) (by omega) (by omega) rfl ?_
  have ho2 : obj (grow G N (.inr (0, N))) r (.inl (5, [some none])) := grow_obj ho
  refine V.putFA (n := 15) d_Rw_init_12 f_Rw_13 pf_Rw_13 t_Rw_cells rfl (fun _ => ⟨rfl, rfl⟩) (by assumption) (Nat.le_of_ble_eq_true rfl) rfl ?_
  refine V.vret d_Rw_init_15 rfl ?_
  exact ⟨⟨rfl, rfl, rfl⟩, rfl, rfl⟩
end CTN
section VRW
variable {E : EV} {l : Launch} {my : MR} {sc : Option (Nat × Nat × (Nat → Int))} {d NT ST : Nat} {Post : Option Value → GG → MU → Prop} {pc n : Nat} {lo : List (Nat × Value)} {G : GG} {μ : MU}
/-- a row is made and put into a field -/
theorem V.row {idxN idxI idxP ci k pc3 N a : Nat} {kz : Int} {ty : FieldType} {fds : List (Option (Option Nat))} (d0 : dec my pc = .ok (.aload_n 0, 1)) (d1 : dec my (pc + 1) = .ok (.new idxN, 3)) (d2 : dec my (pc + 4) = .ok (.dup, 1))
    (d3 : ∀ {st : List Value} {G : GG} {μ : MU}, V E l my sc d NT ST Post pc3 lo (rI N :: st) G μ → V E l my sc d NT ST Post (pc + 5) lo st G μ) (d4 : dec my pc3 = .ok (.invokespecial idxI, 3)) (d5 : dec my (pc3 + 3) = .ok (.putfield idxP, 3))
    (hl : lkp lo 0 = some (rA E a)) (hcl : Cond.classLink my.1 idxN RX5 ∈ gw) (hk : Cond.methodLink my.1 idxI m_Rw_init.2.1 ∈ gw ∨ ∃ host, Cond.methodLinkNest my.1 idxI m_Rw_init.2.1 host ∈ nw) (hf : FL my.1 idxP ci k kz) (hnest : ∃ (T : u_T) (N : Nat), vwCl[ci]? = some (my.1, T, N) ∧ Cond.fieldLink my.1 idxP (T k).1 (T k).2.1 (T k).2.2.1 ∈ gw) (ht : FTY ci k ty true) (hini : my.2.1.name = "<init>") (hfit : ∀ x, narrow ty (.ref x) = .ref x ∧ fits ty (.ref x) = true)
    (ho : obj G a (.inl (ci, fds))) (hkl : k < fds.length) (h0 : 0 < N) (hN : N ≤ 65536) (h1 : G.1 + 2 ≤ NT) (h2 : G.2.1 + (1 + N) ≤ ST) (hd : 2 ≤ d) (hn : pc3 + 6 = n)
    (kk : ∀ (G' : GG) (μ' : MU), G'.1 = G.1 + 2 → G'.2.1 = G.2.1 + (1 + N) → (∀ b o, ¬ b = a → obj G b o → obj G' b o) → obj G' a (.inl (ci, fds.set k (some (some G.1)))) → isRow G' G.1 (G.1 + 1) N → (∀ b, b < G.1 → μ' b = μ b) → (∀ j, μ' (G.1 + 1) j = 0) → V E l my sc d NT ST Post n lo [] G' μ') : V E l my sc d NT ST Post pc lo [] G μ := by
  have ha := ho.1
  refine V.aload_n (n := pc + 1) d0 hl rfl ?_
  refine V.newO (ci := 5) (n := pc + 4) d1 rfl hcl i_Rw ini_Rw nf_Rw (by omega) (by omega) rfl ?_
  refine V.dup (n := pc + 5) d2 rfl rfl ?_
  refine d3 ?_
  have hr : obj (grow G 1 (.inl (5, [some none]))) G.1 (.inl (5, [some none])) := grow_new _ _ _
  refine V.cIv (n := pc3 + 3) d4 hk (c_Rw_init hr h0 hN) rfl rfl rfl (by omega) ⟨by show G.1 + 1 + 1 ≤ NT; omega, by show G.2.1 + 1 + N ≤ ST; omega⟩ rfl ?_
  have hb : obj (shp (grow (grow G 1 (.inl (5, [some none]))) N (.inr (0, N))) G.1 (.inl (5, [some (some (grow G 1 (.inl (5, [some none]))).1)]))) a (.inl (ci, fds)) := shp_obj (grow_obj (grow_obj ho)) (by omega)
  refine V.putFA (n := n) d5 hf hnest ht hini hfit hb hkl (by omega) ?_
  refine kk _ _ rfl ?_ (fun b o hba hbo => shp_obj (shp_obj (grow_obj (grow_obj hbo)) (by have := hbo.1; omega)) hba) (shp_new hb) ⟨shp_obj (shp_new (grow_obj hr)) (by omega), shp_obj (shp_obj (grow_new _ _ _) (by show ¬ G.1 + 1 = G.1; omega)) (by show ¬ G.1 + 1 = a; omega), hN⟩ (fun b hb2 => ?_) (fun j => ?_)
  · show G.2.1 + 1 + N = G.2.1 + (1 + N)
    omega
  · rw [wrC_a (by show ¬ b = G.1 + 1; omega), wrC_a (by omega)]
  · show wrC _ (G.1 + 1) (fun _ => 0) (G.1 + 1) j = 0
    rw [wrC_s]
theorem isRow.mv {G G' : GG} {a r c n : Nat} (h : isRow G r c n) (t : ∀ b o, ¬ b = a → obj G b o → obj G' b o) (hr : ¬ r = a) (hc : ¬ c = a) : isRow G' r c n := ⟨t _ _ hr h.1, t _ _ hc h.2.1, h.2.2⟩
end VRW
end
section
/-! NEW GAMES AND TREES -/
/-- what a constructor of the object r leaves -/
def NWQ (r mc ms : Nat) (G : GG) (μ : MU) (P : GG → MU → Prop) : Option Value → GG → MU → Prop := fun v G' μ' => v = none ∧ G'.1 = G.1 + mc ∧ G'.2.1 = G.2.1 + ms ∧ (∀ b o, ¬ b = r → obj G b o → obj G' b o) ∧ (∀ b, b < G.1 → ¬ b = r → μ' b = μ b) ∧ P G' μ'
section CTN2
variable {E : EV} {l : Launch} {G : GG} {μ : MU} {g t : Nat}
theorem c_Gm_init (ho : obj G g (.inl (0, [some none, some none, some none, some none, some none, some none, none]))) (hg : G.1 = g + 1) (hz : ∀ j, μ g j = 0) : KI E l 2 m_Gm_init g [] G μ 12 506 (NWQ g 12 506 G μ (fun G' μ' => isGame G' g ∧ (∀ j, μ' g j = 0) ∧ (∀ j, μ' (g + 2) j = 0 ∧ μ' (g + 4) j = 0 ∧ μ' (g + 10) j = 0 ∧ μ' (g + 12) j = 0) ∧ ∀ j : Int, 0 ≤ j → j < 20 → μ' (g + 6) j = 1 ∧ μ' (g + 8) j = 1)) := by
  refine ⟨KC.ofV q_Gm_init.1 rfl (Nat.le_of_ble_eq_true rfl) rfl ?_, q_Gm_init, by decide⟩
  refine V.aload_n (n := 1) d_Gm_init_0 rfl rfl ?_
  refine V.objInit (n := 4) d_Gm_init_1 k_Gm_3 rfl (by decide) rfl ?_
  refine V.row (N := 20) (n := 17) d_Gm_init_4 d_Gm_init_5 d_Gm_init_8 (fun kk => V.bipush (n := 11) d_Gm_init_9 (by decide) rfl kk) d_Gm_init_11 d_Gm_init_14 rfl c_Gm_9 (Or.inl k_Gm_11) f_Gm_14 pf_Gm_14 t_Gm_turns rfl (fun _ => ⟨rfl, rfl⟩) (by assumption) (Nat.le_of_ble_eq_true rfl) (by decide) (by decide) (by omega) (by omega) (by decide) rfl (fun G1 μ1 e1a e1b tp1 ho1 rw1 em1 ez1 => ?_)
  have f0 : G.1 = g + 1 := hg
  rw [f0] at rw1 ho1 ez1
  have rw1 : isRow G1 (g + 1) (g + 2) 20 := rw1
  have ez1 : ∀ j, μ1 (g + 2) j = 0 := ez1
  have ho1 : obj G1 g (.inl (0, [some (some (g + 1)), some none, some none, some none, some none, some none, none])) := ho1
  refine V.row (N := 20) (n := 30) d_Gm_init_17 d_Gm_init_18 d_Gm_init_21 (fun kk => V.bipush (n := 24) d_Gm_init_22 (by decide) rfl kk) d_Gm_init_24 d_Gm_init_27 rfl c_Gm_9 (Or.inl k_Gm_11) f_Gm_20 pf_Gm_20 t_Gm_marks rfl (fun _ => ⟨rfl, rfl⟩) (by assumption) (Nat.le_of_ble_eq_true rfl) (by decide) (by decide) (by omega) (by omega) (by decide) rfl (fun G2 μ2 e2a e2b tp2 ho2 rw2 em2 ez2 => ?_)
  have f1 : G1.1 = g + 3 := by omega
  rw [f1] at rw2 ho2 ez2
  have rw2 : isRow G2 (g + 3) (g + 4) 20 := rw2
  have ez2 : ∀ j, μ2 (g + 4) j = 0 := ez2
  have ho2 : obj G2 g (.inl (0, [some (some (g + 1)), some (some (g + 3)), some none, some none, some none, some none, none])) := ho2
  have rw1 := rw1.mv tp2 (by omega) (by omega)
  refine V.row (N := 20) (n := 43) d_Gm_init_30 d_Gm_init_31 d_Gm_init_34 (fun kk => V.bipush (n := 37) d_Gm_init_35 (by decide) rfl kk) d_Gm_init_37 d_Gm_init_40 rfl c_Gm_9 (Or.inl k_Gm_11) f_Gm_23 pf_Gm_23 t_Gm_proveGuesses rfl (fun _ => ⟨rfl, rfl⟩) (by assumption) (Nat.le_of_ble_eq_true rfl) (by decide) (by decide) (by omega) (by omega) (by decide) rfl (fun G3 μ3 e3a e3b tp3 ho3 rw3 em3 ez3 => ?_)
  have f2 : G2.1 = g + 5 := by omega
  rw [f2] at rw3 ho3 ez3
  have rw3 : isRow G3 (g + 5) (g + 6) 20 := rw3
  have ez3 : ∀ j, μ3 (g + 6) j = 0 := ez3
  have ho3 : obj G3 g (.inl (0, [some (some (g + 1)), some (some (g + 3)), some (some (g + 5)), some none, some none, some none, none])) := ho3
  have rw1 := rw1.mv tp3 (by omega) (by omega)
  have rw2 := rw2.mv tp3 (by omega) (by omega)
  refine V.row (N := 20) (n := 56) d_Gm_init_43 d_Gm_init_44 d_Gm_init_47 (fun kk => V.bipush (n := 50) d_Gm_init_48 (by decide) rfl kk) d_Gm_init_50 d_Gm_init_53 rfl c_Gm_9 (Or.inl k_Gm_11) f_Gm_26 pf_Gm_26 t_Gm_disproveGuesses rfl (fun _ => ⟨rfl, rfl⟩) (by assumption) (Nat.le_of_ble_eq_true rfl) (by decide) (by decide) (by omega) (by omega) (by decide) rfl (fun G4 μ4 e4a e4b tp4 ho4 rw4 em4 ez4 => ?_)
  have f3 : G3.1 = g + 7 := by omega
  rw [f3] at rw4 ho4 ez4
  have rw4 : isRow G4 (g + 7) (g + 8) 20 := rw4
  have ez4 : ∀ j, μ4 (g + 8) j = 0 := ez4
  have ho4 : obj G4 g (.inl (0, [some (some (g + 1)), some (some (g + 3)), some (some (g + 5)), some (some (g + 7)), some none, some none, none])) := ho4
  have rw1 := rw1.mv tp4 (by omega) (by omega)
  have rw2 := rw2.mv tp4 (by omega) (by omega)
  have rw3 := rw3.mv tp4 (by omega) (by omega)
  refine V.row (N := 20) (n := 69) d_Gm_init_56 d_Gm_init_57 d_Gm_init_60 (fun kk => V.bipush (n := 63) d_Gm_init_61 (by decide) rfl kk) d_Gm_init_63 d_Gm_init_66 rfl c_Gm_9 (Or.inl k_Gm_11) f_Gm_29 pf_Gm_29 t_Gm_moveCounts rfl (fun _ => ⟨rfl, rfl⟩) (by assumption) (Nat.le_of_ble_eq_true rfl) (by decide) (by decide) (by omega) (by omega) (by decide) rfl (fun G5 μ5 e5a e5b tp5 ho5 rw5 em5 ez5 => ?_)
  have f4 : G4.1 = g + 9 := by omega
  rw [f4] at rw5 ho5 ez5
  have rw5 : isRow G5 (g + 9) (g + 10) 20 := rw5
  have ez5 : ∀ j, μ5 (g + 10) j = 0 := ez5
  have ho5 : obj G5 g (.inl (0, [some (some (g + 1)), some (some (g + 3)), some (some (g + 5)), some (some (g + 7)), some (some (g + 9)), some none, none])) := ho5
  have rw1 := rw1.mv tp5 (by omega) (by omega)
  have rw2 := rw2.mv tp5 (by omega) (by omega)
  have rw3 := rw3.mv tp5 (by omega) (by omega)
  have rw4 := rw4.mv tp5 (by omega) (by omega)
  refine V.row (N := 400) (n := 83) d_Gm_init_69 d_Gm_init_70 d_Gm_init_73 (fun kk => V.sipush (n := 77) d_Gm_init_74 (by decide) rfl kk) d_Gm_init_77 d_Gm_init_80 rfl c_Gm_9 (Or.inl k_Gm_11) f_Gm_32 pf_Gm_32 t_Gm_targets rfl (fun _ => ⟨rfl, rfl⟩) (by assumption) (Nat.le_of_ble_eq_true rfl) (by decide) (by decide) (by omega) (by omega) (by decide) rfl (fun G6 μ6 e6a e6b tp6 ho6 rw6 em6 ez6 => ?_)
  have f5 : G5.1 = g + 11 := by omega
  rw [f5] at rw6 ho6 ez6
  have rw6 : isRow G6 (g + 11) (g + 12) 400 := rw6
  have ez6 : ∀ j, μ6 (g + 12) j = 0 := ez6
  have ho6 : obj G6 g (.inl (0, [some (some (g + 1)), some (some (g + 3)), some (some (g + 5)), some (some (g + 7)), some (some (g + 9)), some (some (g + 11)), none])) := ho6
  have rw1 := rw1.mv tp6 (by omega) (by omega)
  have rw2 := rw2.mv tp6 (by omega) (by omega)
  have rw3 := rw3.mv tp6 (by omega) (by omega)
  have rw4 := rw4.mv tp6 (by omega) (by omega)
  have rw5 := rw5.mv tp6 (by omega) (by omega)
  have f6 : G6.1 = g + 13 := by omega
  refine V.aload_n (n := 84) d_Gm_init_83 rfl rfl ?_
  refine V.getA (n := 87) d_Gm_init_84 f_Gm_23 (by assumption) rfl rfl ?_
  refine V.iconst (n := 88) d_Gm_init_87 rfl ?_
  refine V.cVqv (n := 91) d_Gm_init_88 k_Gm_35 (c_Rw_fill rw3) rfl rfl (by decide) rfl (fun μ7 hq => ?_)
  obtain ⟨p1, p2⟩ := hq
  refine V.aload_n (n := 92) d_Gm_init_91 rfl rfl ?_
  refine V.getA (n := 95) d_Gm_init_92 f_Gm_26 (by assumption) rfl rfl ?_
  refine V.iconst (n := 96) d_Gm_init_95 rfl ?_
  refine V.cVqv (n := 99) d_Gm_init_96 k_Gm_35 (c_Rw_fill rw4) rfl rfl (by decide) rfl (fun μ8 hq => ?_)
  obtain ⟨p3, p4⟩ := hq
  refine V.vret d_Gm_init_99 rfl ?_
  have pb : ∀ b, ¬ b = g + 6 → ¬ b = g + 8 → μ8 b = μ6 b := fun b b0 b1 => by rw [p3 b b1, p1 b b0]
  have pa : ∀ b, b < G.1 → μ6 b = μ b := fun b hb => by rw [em6 _ (by omega), em5 _ (by omega), em4 _ (by omega), em3 _ (by omega), em2 _ (by omega), em1 _ (by omega)]
  have tpa : ∀ b o, ¬ b = g → obj G b o → obj G6 b o := fun b o hb h => tp6 b o hb (tp5 b o hb (tp4 b o hb (tp3 b o hb (tp2 b o hb (tp1 b o hb h)))))
  refine ⟨⟨rfl, by omega, by omega, tpa, fun b hb hbg => by rw [pb b (by omega) (by omega), pa b hb], ⟨ho6, rw1, rw2, rw3, rw4, rw5, rw6⟩, fun j => ?_, fun j => ⟨?_, ?_, ?_, ?_⟩, fun j j0 j1 => ⟨?_, p4 j j0 j1⟩⟩, by omega, by omega⟩
  · rw [pb g (by omega) (by omega), pa g (by omega)]; exact hz j
  · rw [pb _ (by omega) (by omega), em6 _ (by omega), em5 _ (by omega), em4 _ (by omega), em3 _ (by omega), em2 _ (by omega)]; exact ez1 j
  · rw [pb _ (by omega) (by omega), em6 _ (by omega), em5 _ (by omega), em4 _ (by omega), em3 _ (by omega)]; exact ez2 j
  · rw [pb _ (by omega) (by omega), em6 _ (by omega)]; exact ez5 j
  · rw [pb _ (by omega) (by omega)]; exact ez6 j
  · rw [p3 _ (by omega)]; exact p2 j j0 j1
theorem c_Tr_init {gm : Nat} (ho : obj G t (.inl (8, [some none, some none, some none, some none, some none, some none, some none, some none, some none, none]))) (hg : G.1 = t + 1) (hgm : gm < t) (hz : ∀ j, μ t j = 0) : KI E l 2 m_Tr_init t [rA E gm] G μ 16 1608 (NWQ t 16 1608 G μ (fun G' μ' => isTree G' t gm ∧ (∀ j, μ' t j = 0) ∧ ∀ j, μ' (t + 2) j = 0 ∧ μ' (t + 4) j = 0 ∧ μ' (t + 6) j = 0 ∧ μ' (t + 8) j = 0 ∧ μ' (t + 10) j = 0 ∧ μ' (t + 12) j = 0 ∧ μ' (t + 14) j = 0 ∧ μ' (t + 16) j = 0)) := by
  refine ⟨KC.ofV q_Tr_init.1 rfl (Nat.le_of_ble_eq_true rfl) rfl ?_, q_Tr_init, by decide⟩
  refine V.aload_n (n := 1) d_Tr_init_0 rfl rfl ?_
  refine V.objInit (n := 4) d_Tr_init_1 k_Tr_3 rfl (by decide) rfl ?_
  refine V.row (N := 200) (n := 18) d_Tr_init_4 d_Tr_init_5 d_Tr_init_8 (fun kk => V.sipush (n := 12) d_Tr_init_9 (by decide) rfl kk) d_Tr_init_12 d_Tr_init_15 rfl c_Tr_9 (Or.inl k_Tr_11) f_Tr_14 pf_Tr_14 t_Tr_positions rfl (fun _ => ⟨rfl, rfl⟩) (by assumption) (Nat.le_of_ble_eq_true rfl) (by decide) (by decide) (by omega) (by omega) (by decide) rfl (fun G1 μ1 e1a e1b tp1 ho1 rw1 em1 ez1 => ?_)
  have f0 : G.1 = t + 1 := hg
  rw [f0] at rw1 ho1 ez1
  have rw1 : isRow G1 (t + 1) (t + 2) 200 := rw1
  have ez1 : ∀ j, μ1 (t + 2) j = 0 := ez1
  have ho1 : obj G1 t (.inl (8, [some none, some (some (t + 1)), some none, some none, some none, some none, some none, some none, some none, none])) := ho1
  refine V.row (N := 200) (n := 32) d_Tr_init_18 d_Tr_init_19 d_Tr_init_22 (fun kk => V.sipush (n := 26) d_Tr_init_23 (by decide) rfl kk) d_Tr_init_26 d_Tr_init_29 rfl c_Tr_9 (Or.inl k_Tr_11) f_Tr_20 pf_Tr_20 t_Tr_parents rfl (fun _ => ⟨rfl, rfl⟩) (by assumption) (Nat.le_of_ble_eq_true rfl) (by decide) (by decide) (by omega) (by omega) (by decide) rfl (fun G2 μ2 e2a e2b tp2 ho2 rw2 em2 ez2 => ?_)
  have f1 : G1.1 = t + 3 := by omega
  rw [f1] at rw2 ho2 ez2
  have rw2 : isRow G2 (t + 3) (t + 4) 200 := rw2
  have ez2 : ∀ j, μ2 (t + 4) j = 0 := ez2
  have ho2 : obj G2 t (.inl (8, [some none, some (some (t + 1)), some (some (t + 3)), some none, some none, some none, some none, some none, some none, none])) := ho2
  have rw1 := rw1.mv tp2 (by omega) (by omega)
  refine V.row (N := 200) (n := 46) d_Tr_init_32 d_Tr_init_33 d_Tr_init_36 (fun kk => V.sipush (n := 40) d_Tr_init_37 (by decide) rfl kk) d_Tr_init_40 d_Tr_init_43 rfl c_Tr_9 (Or.inl k_Tr_11) f_Tr_23 pf_Tr_23 t_Tr_depths rfl (fun _ => ⟨rfl, rfl⟩) (by assumption) (Nat.le_of_ble_eq_true rfl) (by decide) (by decide) (by omega) (by omega) (by decide) rfl (fun G3 μ3 e3a e3b tp3 ho3 rw3 em3 ez3 => ?_)
  have f2 : G2.1 = t + 5 := by omega
  rw [f2] at rw3 ho3 ez3
  have rw3 : isRow G3 (t + 5) (t + 6) 200 := rw3
  have ez3 : ∀ j, μ3 (t + 6) j = 0 := ez3
  have ho3 : obj G3 t (.inl (8, [some none, some (some (t + 1)), some (some (t + 3)), some (some (t + 5)), some none, some none, some none, some none, some none, none])) := ho3
  have rw1 := rw1.mv tp3 (by omega) (by omega)
  have rw2 := rw2.mv tp3 (by omega) (by omega)
  refine V.row (N := 200) (n := 60) d_Tr_init_46 d_Tr_init_47 d_Tr_init_50 (fun kk => V.sipush (n := 54) d_Tr_init_51 (by decide) rfl kk) d_Tr_init_54 d_Tr_init_57 rfl c_Tr_9 (Or.inl k_Tr_11) f_Tr_26 pf_Tr_26 t_Tr_proves rfl (fun _ => ⟨rfl, rfl⟩) (by assumption) (Nat.le_of_ble_eq_true rfl) (by decide) (by decide) (by omega) (by omega) (by decide) rfl (fun G4 μ4 e4a e4b tp4 ho4 rw4 em4 ez4 => ?_)
  have f3 : G3.1 = t + 7 := by omega
  rw [f3] at rw4 ho4 ez4
  have rw4 : isRow G4 (t + 7) (t + 8) 200 := rw4
  have ez4 : ∀ j, μ4 (t + 8) j = 0 := ez4
  have ho4 : obj G4 t (.inl (8, [some none, some (some (t + 1)), some (some (t + 3)), some (some (t + 5)), some (some (t + 7)), some none, some none, some none, some none, none])) := ho4
  have rw1 := rw1.mv tp4 (by omega) (by omega)
  have rw2 := rw2.mv tp4 (by omega) (by omega)
  have rw3 := rw3.mv tp4 (by omega) (by omega)
  refine V.row (N := 200) (n := 74) d_Tr_init_60 d_Tr_init_61 d_Tr_init_64 (fun kk => V.sipush (n := 68) d_Tr_init_65 (by decide) rfl kk) d_Tr_init_68 d_Tr_init_71 rfl c_Tr_9 (Or.inl k_Tr_11) f_Tr_29 pf_Tr_29 t_Tr_disproves rfl (fun _ => ⟨rfl, rfl⟩) (by assumption) (Nat.le_of_ble_eq_true rfl) (by decide) (by decide) (by omega) (by omega) (by decide) rfl (fun G5 μ5 e5a e5b tp5 ho5 rw5 em5 ez5 => ?_)
  have f4 : G4.1 = t + 9 := by omega
  rw [f4] at rw5 ho5 ez5
  have rw5 : isRow G5 (t + 9) (t + 10) 200 := rw5
  have ez5 : ∀ j, μ5 (t + 10) j = 0 := ez5
  have ho5 : obj G5 t (.inl (8, [some none, some (some (t + 1)), some (some (t + 3)), some (some (t + 5)), some (some (t + 7)), some (some (t + 9)), some none, some none, some none, none])) := ho5
  have rw1 := rw1.mv tp5 (by omega) (by omega)
  have rw2 := rw2.mv tp5 (by omega) (by omega)
  have rw3 := rw3.mv tp5 (by omega) (by omega)
  have rw4 := rw4.mv tp5 (by omega) (by omega)
  refine V.row (N := 200) (n := 88) d_Tr_init_74 d_Tr_init_75 d_Tr_init_78 (fun kk => V.sipush (n := 82) d_Tr_init_79 (by decide) rfl kk) d_Tr_init_82 d_Tr_init_85 rfl c_Tr_9 (Or.inl k_Tr_11) f_Tr_32 pf_Tr_32 t_Tr_childCounts rfl (fun _ => ⟨rfl, rfl⟩) (by assumption) (Nat.le_of_ble_eq_true rfl) (by decide) (by decide) (by omega) (by omega) (by decide) rfl (fun G6 μ6 e6a e6b tp6 ho6 rw6 em6 ez6 => ?_)
  have f5 : G5.1 = t + 11 := by omega
  rw [f5] at rw6 ho6 ez6
  have rw6 : isRow G6 (t + 11) (t + 12) 200 := rw6
  have ez6 : ∀ j, μ6 (t + 12) j = 0 := ez6
  have ho6 : obj G6 t (.inl (8, [some none, some (some (t + 1)), some (some (t + 3)), some (some (t + 5)), some (some (t + 7)), some (some (t + 9)), some (some (t + 11)), some none, some none, none])) := ho6
  have rw1 := rw1.mv tp6 (by omega) (by omega)
  have rw2 := rw2.mv tp6 (by omega) (by omega)
  have rw3 := rw3.mv tp6 (by omega) (by omega)
  have rw4 := rw4.mv tp6 (by omega) (by omega)
  have rw5 := rw5.mv tp6 (by omega) (by omega)
  refine V.row (N := 200) (n := 102) d_Tr_init_88 d_Tr_init_89 d_Tr_init_92 (fun kk => V.sipush (n := 96) d_Tr_init_93 (by decide) rfl kk) d_Tr_init_96 d_Tr_init_99 rfl c_Tr_9 (Or.inl k_Tr_11) f_Tr_35 pf_Tr_35 t_Tr_firstChildren rfl (fun _ => ⟨rfl, rfl⟩) (by assumption) (Nat.le_of_ble_eq_true rfl) (by decide) (by decide) (by omega) (by omega) (by decide) rfl (fun G7 μ7 e7a e7b tp7 ho7 rw7 em7 ez7 => ?_)
  have f6 : G6.1 = t + 13 := by omega
  rw [f6] at rw7 ho7 ez7
  have rw7 : isRow G7 (t + 13) (t + 14) 200 := rw7
  have ez7 : ∀ j, μ7 (t + 14) j = 0 := ez7
  have ho7 : obj G7 t (.inl (8, [some none, some (some (t + 1)), some (some (t + 3)), some (some (t + 5)), some (some (t + 7)), some (some (t + 9)), some (some (t + 11)), some (some (t + 13)), some none, none])) := ho7
  have rw1 := rw1.mv tp7 (by omega) (by omega)
  have rw2 := rw2.mv tp7 (by omega) (by omega)
  have rw3 := rw3.mv tp7 (by omega) (by omega)
  have rw4 := rw4.mv tp7 (by omega) (by omega)
  have rw5 := rw5.mv tp7 (by omega) (by omega)
  have rw6 := rw6.mv tp7 (by omega) (by omega)
  refine V.row (N := 200) (n := 116) d_Tr_init_102 d_Tr_init_103 d_Tr_init_106 (fun kk => V.sipush (n := 110) d_Tr_init_107 (by decide) rfl kk) d_Tr_init_110 d_Tr_init_113 rfl c_Tr_9 (Or.inl k_Tr_11) f_Tr_38 pf_Tr_38 t_Tr_loops rfl (fun _ => ⟨rfl, rfl⟩) (by assumption) (Nat.le_of_ble_eq_true rfl) (by decide) (by decide) (by omega) (by omega) (by decide) rfl (fun G8 μ8 e8a e8b tp8 ho8 rw8 em8 ez8 => ?_)
  have f7 : G7.1 = t + 15 := by omega
  rw [f7] at rw8 ho8 ez8
  have rw8 : isRow G8 (t + 15) (t + 16) 200 := rw8
  have ez8 : ∀ j, μ8 (t + 16) j = 0 := ez8
  have ho8 : obj G8 t (.inl (8, [some none, some (some (t + 1)), some (some (t + 3)), some (some (t + 5)), some (some (t + 7)), some (some (t + 9)), some (some (t + 11)), some (some (t + 13)), some (some (t + 15)), none])) := ho8
  have rw1 := rw1.mv tp8 (by omega) (by omega)
  have rw2 := rw2.mv tp8 (by omega) (by omega)
  have rw3 := rw3.mv tp8 (by omega) (by omega)
  have rw4 := rw4.mv tp8 (by omega) (by omega)
  have rw5 := rw5.mv tp8 (by omega) (by omega)
  have rw6 := rw6.mv tp8 (by omega) (by omega)
  have rw7 := rw7.mv tp8 (by omega) (by omega)
  have f8 : G8.1 = t + 17 := by omega
  refine V.aload_n (n := 117) d_Tr_init_116 rfl rfl ?_
  refine V.aload_n (n := 118) d_Tr_init_117 rfl rfl ?_
  refine V.putFA (n := 121) d_Tr_init_118 f_Tr_41 pf_Tr_41 t_Tr_game rfl (fun _ => ⟨rfl, rfl⟩) (by assumption) (Nat.le_of_ble_eq_true rfl) rfl ?_
  refine V.vret d_Tr_init_121 rfl ?_
  have pa : ∀ b, b < G.1 → μ8 b = μ b := fun b hb => by rw [em8 _ (by omega), em7 _ (by omega), em6 _ (by omega), em5 _ (by omega), em4 _ (by omega), em3 _ (by omega), em2 _ (by omega), em1 _ (by omega)]
  have tpa : ∀ b o, ¬ b = t → obj G b o → obj (shp G8 t (.inl (8, [some (some gm), some (some (t + 1)), some (some (t + 3)), some (some (t + 5)), some (some (t + 7)), some (some (t + 9)), some (some (t + 11)), some (some (t + 13)), some (some (t + 15)), none]))) b o := fun b o hb h => shp_obj (tp8 b o hb (tp7 b o hb (tp6 b o hb (tp5 b o hb (tp4 b o hb (tp3 b o hb (tp2 b o hb (tp1 b o hb h)))))))) hb
  have sr : ∀ {r c : Nat}, isRow G8 r c 200 → ¬ r = t → ¬ c = t → isRow (shp G8 t (.inl (8, [some (some gm), some (some (t + 1)), some (some (t + 3)), some (some (t + 5)), some (some (t + 7)), some (some (t + 9)), some (some (t + 11)), some (some (t + 13)), some (some (t + 15)), none]))) r c 200 := fun h h1 h2 => h.mv (fun b o hb hq => shp_obj hq hb) h1 h2
  refine ⟨⟨rfl, by show G8.1 = G.1 + 16; omega, by show G8.2.1 = G.2.1 + 1608; omega, tpa, fun b hb hbg => pa b hb, ⟨shp_new ho8, sr rw1 (by omega) (by omega), sr rw2 (by omega) (by omega), sr rw3 (by omega) (by omega), sr rw4 (by omega) (by omega), sr rw5 (by omega) (by omega), sr rw6 (by omega) (by omega), sr rw7 (by omega) (by omega), sr rw8 (by omega) (by omega)⟩, fun j => ?_, fun j => ⟨?_, ?_, ?_, ?_, ?_, ?_, ?_, ?_⟩⟩, by show G8.1 = G.1 + 16; omega, by show G8.2.1 = G.2.1 + 1608; omega⟩
  · rw [pa t (by omega)]; exact hz j
  · rw [em8 _ (by omega), em7 _ (by omega), em6 _ (by omega), em5 _ (by omega), em4 _ (by omega), em3 _ (by omega), em2 _ (by omega)]; exact ez1 j
  · rw [em8 _ (by omega), em7 _ (by omega), em6 _ (by omega), em5 _ (by omega), em4 _ (by omega), em3 _ (by omega)]; exact ez2 j
  · rw [em8 _ (by omega), em7 _ (by omega), em6 _ (by omega), em5 _ (by omega), em4 _ (by omega)]; exact ez3 j
  · rw [em8 _ (by omega), em7 _ (by omega), em6 _ (by omega), em5 _ (by omega)]; exact ez4 j
  · rw [em8 _ (by omega), em7 _ (by omega), em6 _ (by omega)]; exact ez5 j
  · rw [em8 _ (by omega), em7 _ (by omega)]; exact ez6 j
  · rw [em8 _ (by omega)]; exact ez7 j
  · exact ez8 j
end CTN2
end
section
/-! NEW STATES, HISTORIES, TEXTS .. -/
section VNW
variable {E : EV} {l : Launch} {my : MR} {sc : Option (Nat × Nat × (Nat → Int))} {d NT ST : Nat} {Post : Option Value → GG → MU → Prop} {pc n : Nat} {lo : List (Nat × Value)} {st st0 : List Value} {G : GG} {μ : MU}
theorem V.newF {idx ci N a : Nat} {C' : String} {T : u_T} {fds : List (Option (Option Nat))} (hd : dec my pc = .ok (.new idx, 3)) (hc : vwCl[ci]? = some (C', T, N)) (hcl : Cond.classLink my.1 idx C' ∈ gw) (hins : Cond.instantiable C' N ∈ gw) (hini : Cond.initialized C' ∈ gw) (hnf : NEWF ci N fds) (ha : G.1 = a) (h1 : a + 1 ≤ NT) (h2 : G.2.1 + N ≤ ST) (hn : pc + 3 = n)
    (kk : ∀ (G' : GG) (μ' : MU), G'.1 = a + 1 → G'.2.1 = G.2.1 + N → (∀ b o, obj G b o → obj G' b o) → obj G' a (.inl (ci, fds)) → (∀ b, ¬ b = a → μ' b = μ b) → (∀ j, μ' a j = 0) → V E l my sc d NT ST Post n lo (rA E a :: st) G' μ') : V E l my sc d NT ST Post pc lo st G μ := by
  subst ha
  exact V.newO hd hc hcl hins hini hnf h1 h2 hn (kk _ _ rfl rfl (fun b o h => grow_obj h) (grow_new _ _ _) (fun b hb => wrC_a hb) (fun j => by rw [wrC_s]))
theorem V.putFF {a t idx ci k : Nat} {kz : Int} {ty : FieldType} {fds : List (Option (Option Nat))} (hd : dec my pc = .ok (.putfield idx, 3)) (hf : FL my.1 idx ci k kz) (hnest : ∃ (T : u_T) (N : Nat), vwCl[ci]? = some (my.1, T, N) ∧ Cond.fieldLink my.1 idx (T k).1 (T k).2.1 (T k).2.2.1 ∈ gw) (ht : FTY ci k ty true) (hini : my.2.1.name = "<init>") (hfit : ∀ x, narrow ty (.ref x) = .ref x ∧ fits ty (.ref x) = true) (ho : obj G a (.inl (ci, fds))) (hk : k < fds.length) (hn : pc + 3 = n)
    (kk : ∀ G' : GG, G'.1 = G.1 → G'.2.1 = G.2.1 → (∀ b o, ¬ b = a → obj G b o → obj G' b o) → obj G' a (.inl (ci, fds.set k (some (some t)))) → V E l my sc d NT ST Post n lo st G' μ) : V E l my sc d NT ST Post pc lo (rA E t :: rA E a :: st) G μ :=
  V.putFA hd hf hnest ht hini hfit ho hk hn (kk _ rfl rfl (fun b o hb h => shp_obj h hb) (shp_new ho))
theorem V.newaF {at0 : ArrayType} {t N a : Nat} {z : Int} (hd : dec my pc = .ok (.newarray at0, 2)) (hw : Cond.arrayClass (newarray.typeOf at0) ∈ gw) (ht : t < 3 ∧ (∀ E : EV, (tyE E)[t]? = some (E.2.1 t, newarray.typeOf at0)) ∧ defaultValue (newarray.typeOf at0) = .int 0 ∧ componentBytes (newarray.typeOf at0) ≤ 8 ∧ (∀ (U : State) (cA : ClassId), va_RA U cA (newarray.typeOf at0) ↔ U.vm.findClass ("[" ++ (newarray.typeOf at0).toString) = some cA)) (hz : z = (N : Int)) (hN : N ≤ 65536) (ha : G.1 = a) (h1 : a + 1 ≤ NT) (h2 : G.2.1 + N ≤ ST) (hn : pc + 2 = n)
    (kk : ∀ (G' : GG) (μ' : MU), G'.1 = a + 1 → G'.2.1 = G.2.1 + N → (∀ b o, obj G b o → obj G' b o) → obj G' a (.inr (t, N)) → (∀ b, ¬ b = a → μ' b = μ b) → (∀ j, μ' a j = 0) → V E l my sc d NT ST Post n lo (rA E a :: st) G' μ') : V E l my sc d NT ST Post pc lo (rI z :: st) G μ := by
  subst ha
  exact V.newa hd hw ht hz hN h1 h2 hn (kk _ _ rfl rfl (fun b o h => grow_obj h) (grow_new _ _ _) (fun b hb => wrC_a hb) (fun j => by rw [wrC_s]))
theorem V.newqF {idx N a : Nat} {z : Int} (hd : dec my pc = .ok (.anewarray idx, 3)) (hw : Cond.classLink my.1 idx RX6 ∈ gw) (hz : z = (N : Int)) (hN : N ≤ 65536) (ha : G.1 = a) (h1 : a + 1 ≤ NT) (h2 : G.2.1 + N ≤ ST) (hn : pc + 3 = n)
    (kk : ∀ (G' : GG) (μ' : MU), G'.1 = a + 1 → G'.2.1 = G.2.1 + N → (∀ b o, obj G b o → obj G' b o) → obj G' a (.inr (3, N)) → (∀ b, ¬ b = a → μ' b = μ b) → V E l my sc d NT ST Post n lo (rA E a :: st) G' μ') : V E l my sc d NT ST Post pc lo (rI z :: st) G μ := by
  subst ha
  exact V.newq hd hw hz hN h1 h2 hn (kk _ _ rfl rfl (fun b o h => grow_obj h) (grow_new _ _ _) (fun b hb => wrC_a hb))
theorem V.cIf {idx hc mc ms b : Nat} {y : MR} {As : List Value} {P : GG → MU → Prop} (hd : dec my pc = .ok (.invokespecial idx, 3)) (hk : Cond.methodLink my.1 idx y.2.1 ∈ gw ∨ ∃ host, Cond.methodLinkNest my.1 idx y.2.1 host ∈ nw) (hK : KI E l hc y b As G μ mc ms (NWQ b mc ms G μ P)) (hret : y.2.2.2.2 = none) (hst : st0 = As.reverse ++ rA E b :: st) (hcat : ck st = true) (hdep : hc + 1 ≤ d) (h1 : G.1 + mc ≤ NT) (h2 : G.2.1 + ms ≤ ST) (hn : pc + 3 = n)
    (kk : ∀ (G' : GG) (μ' : MU), G'.1 = G.1 + mc → G'.2.1 = G.2.1 + ms → (∀ c o, ¬ c = b → obj G c o → obj G' c o) → (∀ c, c < G.1 → ¬ c = b → μ' c = μ c) → P G' μ' → V E l my sc d NT ST Post n lo st G' μ') : V E l my sc d NT ST Post pc lo st0 G μ :=
  V.callI hd hk hK hret hst (ck_of hcat) hdep ⟨h1, h2⟩ hn (fun v G' μ' h => by
    obtain ⟨rfl, a1, a2, a3, a4, a5⟩ := h
    exact kk G' μ' a1 a2 a3 a4 a5)
end VNW
section MOV
variable {G G' : GG} {a g t gm s h r tx : Nat}
theorem isGame.mv (h : isGame G g) (t : ∀ b o, ¬ b = a → obj G b o → obj G' b o) (ha : a < g ∨ g + 12 < a) : isGame G' g := by
  obtain ⟨h0, h1, h2, h3, h4, h5, h6⟩ := h
  exact ⟨t _ _ (by omega) h0, h1.mv t (by omega) (by omega), h2.mv t (by omega) (by omega), h3.mv t (by omega) (by omega), h4.mv t (by omega) (by omega), h5.mv t (by omega) (by omega), h6.mv t (by omega) (by omega)⟩
theorem isTree.mv (h : isTree G s gm) (t : ∀ b o, ¬ b = a → obj G b o → obj G' b o) (ha : a < s ∨ s + 16 < a) : isTree G' s gm := by
  obtain ⟨h0, h1, h2, h3, h4, h5, h6, h7, h8⟩ := h
  exact ⟨t _ _ (by omega) h0, h1.mv t (by omega) (by omega), h2.mv t (by omega) (by omega), h3.mv t (by omega) (by omega), h4.mv t (by omega) (by omega), h5.mv t (by omega) (by omega), h6.mv t (by omega) (by omega), h7.mv t (by omega) (by omega), h8.mv t (by omega) (by omega)⟩
theorem isState.mv (h : isState G s) (t : ∀ b o, ¬ b = a → obj G b o → obj G' b o) (ha : a < s ∨ s + 30 < a) : isState G' s := ⟨t _ _ (by omega) h.1, h.2.1.mv t (by omega), h.2.2.mv t (by omega)⟩
theorem isHist.mv (hh : isHist G h) (t : ∀ b o, ¬ b = a → obj G b o → obj G' b o) (ha : a < h ∨ h + 125 < a) : isHist G' h := ⟨t _ _ (by omega) hh.1, t _ _ (by omega) hh.2.1, fun k hk => (hh.2.2 k hk).mv t (by omega)⟩
theorem isText.mv (h : isText G s) (t : ∀ b o, ¬ b = a → obj G b o → obj G' b o) (ha : a < s ∨ s + 1 < a) : isText G' s := ⟨t _ _ (by omega) h.1, t _ _ (by omega) h.2⟩
theorem isReader.mv (h : isReader G r tx) (t : ∀ b o, ¬ b = a → obj G b o → obj G' b o) (ha : a < r ∨ r + 13 < a) (hb : a < tx ∨ tx + 1 < a) : isReader G' r tx := ⟨t _ _ (by omega) h.1, h.2.1.mv t hb, h.2.2.mv t (by omega)⟩
theorem isRounds.mv (h : isRounds G r) (t : ∀ b o, ¬ b = a → obj G b o → obj G' b o) (ha : a < r ∨ r + 2 < a) : isRounds G' r := ⟨t _ _ (by omega) h.1, h.2.mv t (by omega) (by omega)⟩
theorem isProof.mv (h : isProof G r) (t : ∀ b o, ¬ b = a → obj G b o → obj G' b o) (ha : a < r ∨ r + 2 < a) : isProof G' r := ⟨t _ _ (by omega) h.1, h.2.mv t (by omega) (by omega)⟩
end MOV
/-- a state that was just made -/
def Z0 (μ : MU) (s : Nat) : Prop := (∀ j, μ (s + 1) j = 0) ∧ (∀ j, μ (s + 1 + 2) j = 0 ∧ μ (s + 1 + 4) j = 0 ∧ μ (s + 1 + 10) j = 0 ∧ μ (s + 1 + 12) j = 0) ∧ (∀ j : Int, 0 ≤ j → j < 20 → μ (s + 1 + 6) j = 1 ∧ μ (s + 1 + 8) j = 1) ∧ (∀ j, μ (s + 14) j = 0) ∧ ∀ j, μ (s + 14 + 8) j = 0 ∧ μ (s + 14 + 10) j = 0
theorem Z0.at {μ μ' : MU} {s : Nat} (h : Z0 μ s) (e : ∀ b, s ≤ b → b ≤ s + 30 → μ' b = μ b) : Z0 μ' s := by
  unfold Z0 at *
  rw [e (s + 1) (by omega) (by omega), e (s + 1 + 2) (by omega) (by omega), e (s + 1 + 4) (by omega) (by omega), e (s + 1 + 6) (by omega) (by omega), e (s + 1 + 8) (by omega) (by omega), e (s + 1 + 10) (by omega) (by omega), e (s + 1 + 12) (by omega) (by omega), e (s + 14) (by omega) (by omega), e (s + 14 + 8) (by omega) (by omega), e (s + 14 + 10) (by omega) (by omega)]
  exact h
theorem Z0.sh {μ : MU} {s : Nat} (h : Z0 μ s) {F : Int → Int} (h1 : F 1 = 0) (hF : ∀ u w : Int, 0 ≤ u → u < 20 → 0 ≤ w → w < 5 → F (3 + 5 * u + w) = if w = 2 ∨ w = 3 then 1 else 0) : ShS μ s F [] := by
  obtain ⟨a0, a1, a2, a3, a4⟩ := h
  refine ⟨⟨CM.nil (fun p _ _ => (a1 p).2.2.1) (a0 6), fun p p0 p1 => ?_⟩, ShT.clr (fun j _ _ => ?_) (a3 9) h1⟩
  · rw [hF p 0 p0 p1 (by omega) (by omega), hF p 1 p0 p1 (by omega) (by omega), hF p 2 p0 p1 (by omega) (by omega), hF p 3 p0 p1 (by omega) (by omega), if_neg (by omega), if_neg (by omega), if_pos (by omega), if_pos (by omega)]
    exact ⟨(a1 p).1, (a1 p).2.1, (a2 p p0 p1).1, (a2 p p0 p1).2⟩
  · rw [(a4 j).1, (a4 j).2]
    omega
section CTN3
variable {E : EV} {l : Launch} {G : GG} {μ : MU} {s t r h tx : Nat}
theorem c_St_init (ho : obj G s (.inl (6, [some none, some none]))) (hg : G.1 = s + 1) (hz : ∀ j, μ s j = 0) : KI E l 3 m_St_init s [] G μ 30 2131 (NWQ s 30 2131 G μ (fun G' μ' => isState G' s ∧ (∀ j, μ' s j = 0) ∧ Z0 μ' s)) := by
  refine ⟨KC.ofV q_St_init.1 rfl (Nat.le_of_ble_eq_true rfl) rfl ?_, q_St_init, by decide⟩
  refine V.aload_n (n := 1) d_St_init_0 rfl rfl ?_
  refine V.objInit (n := 4) d_St_init_1 k_St_1 rfl (by decide) rfl ?_
  refine V.aload_n (n := 5) d_St_init_4 rfl rfl ?_
  refine V.newF (a := s + 1) (ci := 0) (n := 8) d_St_init_5 rfl c_St_7 i_Gm ini_Gm nf_Gm (by omega) (by omega) (by omega) rfl (fun  G1 μ1 e1 e2 tp1 ho1 em1 ez1 => ?_)
  have hs1 := tp1 _ _ ho
  refine V.dup (n := 9) d_St_init_8 rfl rfl ?_
  refine V.cIf (n := 12) d_St_init_9 (Or.inl k_St_9) (c_Gm_init ho1 (by omega) ez1) rfl rfl rfl (by decide) (by omega) (by omega) rfl (fun  G2 μ2 e3 e4 tp2 em2 hP2 => ?_)
  obtain ⟨q1, q2, q3, q4⟩ := hP2
  have hs2 := tp2 _ _ (by omega) hs1
  refine V.putFF (n := 15) d_St_init_12 f_St_10 pf_St_10 t_St_game rfl (fun _ => ⟨rfl, rfl⟩) (by assumption) (Nat.le_of_ble_eq_true rfl) rfl (fun G3 e5 e6 tp3 hs3 => ?_)
  have hs3 : obj G3 s (.inl (6, [some (some (s + 1)), some none])) := hs3
  have r1 := q1.mv tp3 (by omega)
  refine V.aload_n (n := 16) d_St_init_15 rfl rfl ?_
  refine V.newF (a := s + 14) (ci := 8) (n := 19) d_St_init_16 rfl c_St_16 i_Tr ini_Tr nf_Tr (by omega) (by omega) (by omega) rfl (fun  G4 μ4 e7 e8 tp4 ho4 em4 ez4 => ?_)
  have hs4 := tp4 _ _ hs3
  have r2 := r1.mv (a := s) (fun b o _ => tp4 b o) (by omega)
  refine V.dup (n := 20) d_St_init_19 rfl rfl ?_
  refine V.aload_n (n := 21) d_St_init_20 rfl rfl ?_
  refine V.getA (n := 24) d_St_init_21 f_St_10 (by assumption) rfl rfl ?_
  refine V.cIf (n := 27) d_St_init_24 (Or.inl k_St_18) (c_Tr_init ho4 (by omega) (by omega) ez4) rfl rfl rfl (by decide) (by omega) (by omega) rfl (fun  G5 μ5 e9 e10 tp5 em5 hP5 => ?_)
  obtain ⟨w1, w2, w3⟩ := hP5
  have hs5 := tp5 _ _ (by omega) hs4
  have r3 := r2.mv tp5 (by omega)
  refine V.putFF (n := 30) d_St_init_27 f_St_21 pf_St_21 t_St_tree rfl (fun _ => ⟨rfl, rfl⟩) (by assumption) (Nat.le_of_ble_eq_true rfl) rfl (fun G6 e11 e12 tp6 hs6 => ?_)
  have hs6 : obj G6 s (.inl (6, [some (some (s + 1)), some (some (s + 14))])) := hs6
  refine V.vret d_St_init_30 rfl ?_
  have em : ∀ b, b < s + 14 → μ5 b = μ2 b := fun b hb => by rw [em5 b (by omega) (by omega), em4 b (by omega)]
  have em0 : ∀ b, b < s + 1 → μ5 b = μ b := fun b hb => by rw [em b (by omega), em2 b (by omega) (by omega), em1 b (by omega)]
  refine ⟨⟨rfl, by omega, by omega, fun b o hb hq => tp6 b o hb (tp5 b o (by have := hq.1; omega) (tp4 b o (tp3 b o hb (tp2 b o (by have := hq.1; omega) (tp1 b o hq))))), fun b hb hbs => em0 b (by omega), ⟨hs6, r3.mv tp6 (by omega), w1.mv tp6 (by omega)⟩, fun j => by rw [em0 s (by omega)]; exact hz j, ?_, ?_, ?_, w2, fun j => ⟨(w3 j).2.2.2.1, (w3 j).2.2.2.2.1⟩⟩, by omega, by omega⟩
  · rw [em _ (by omega)]
    exact q2
  · rw [em _ (by omega), em _ (by omega), em _ (by omega), em _ (by omega)]
    exact q3
  · rw [em _ (by omega), em _ (by omega)]
    exact q4
theorem c_Tx_init (ho : obj G t (.inl (7, [some none, none]))) (hg : G.1 = t + 1) (hz : ∀ j, μ t j = 0) : KI E l 1 m_Tx_init t [] G μ 1 60 (NWQ t 1 60 G μ (fun G' μ' => isText G' t ∧ ∀ j, μ' t j = 0)) := by
  refine ⟨KC.ofV q_Tx_init.1 rfl (Nat.le_of_ble_eq_true rfl) rfl ?_, q_Tx_init, by decide⟩
  refine V.aload_n (n := 1) d_Tx_init_0 rfl rfl ?_
  refine V.objInit (n := 4) d_Tx_init_1 k_Tx_3 rfl (by decide) rfl ?_
  refine V.aload_n (n := 5) d_Tx_init_4 rfl rfl ?_
  refine V.bipush (n := 7) d_Tx_init_5 (by decide) rfl ?_
  refine V.newaF (a := t + 1) (N := 60) (n := 9) d_Tx_init_7 ja_c na_c rfl (by decide) (by omega) (by omega) (by omega) rfl (fun  G1 μ1 e1 e2 tp1 ho1 em1 ez1 => ?_)
  have hs1 := tp1 _ _ ho
  refine V.putFF (n := 12) d_Tx_init_9 f_Tx_9 pf_Tx_9 t_Tx_signs rfl (fun _ => ⟨rfl, rfl⟩) (by assumption) (Nat.le_of_ble_eq_true rfl) rfl (fun G2 e3 e4 tp2 hs2 => ?_)
  have hs2 : obj G2 t (.inl (7, [some (some (t + 1)), none])) := hs2
  refine V.vret d_Tx_init_12 rfl ?_
  exact ⟨⟨rfl, by omega, by omega, fun b o hb hq => tp2 b o hb (tp1 b o hq), fun b hb hbs => em1 b (by omega), ⟨hs2, tp2 _ _ (by omega) ho1⟩, fun j => by rw [em1 t (by omega)]; exact hz j⟩, by omega, by omega⟩
theorem c_Ro_init (ho : obj G r (.inl (4, [some none]))) (hg : G.1 = r + 1) : KI E l 2 m_Ro_init r [] G μ 2 21 (NWQ r 2 21 G μ (fun G' μ' => isRounds G' r)) := by
  refine ⟨KC.ofV q_Ro_init.1 rfl (Nat.le_of_ble_eq_true rfl) rfl ?_, q_Ro_init, by decide⟩
  refine V.aload_n (n := 1) d_Ro_init_0 rfl rfl ?_
  refine V.objInit (n := 4) d_Ro_init_1 k_Ro_3 rfl (by decide) rfl ?_
  refine V.row (N := 20) (n := 17) d_Ro_init_4 d_Ro_init_5 d_Ro_init_8 (fun kk => V.bipush (n := 11) d_Ro_init_9 (by decide) rfl kk) d_Ro_init_11 d_Ro_init_14 rfl c_Ro_9 (Or.inl k_Ro_11) f_Ro_14 pf_Ro_14 t_Ro_wonIn rfl (fun _ => ⟨rfl, rfl⟩) (by assumption) (Nat.le_of_ble_eq_true rfl) (by decide) (by decide) (by omega) (by omega) (by decide) rfl (fun G1 μ1 e1 e2 tp ho1 rw1 em ez => ?_)
  rw [hg] at ho1 rw1
  refine V.vret d_Ro_init_17 rfl ?_
  exact ⟨⟨rfl, by omega, by omega, tp, fun b hb _ => em b hb, ho1, rw1⟩, by omega, by omega⟩
theorem c_Pf_init (ho : obj G r (.inl (2, [some none]))) (hg : G.1 = r + 1) : KI E l 2 m_Pf_init r [] G μ 2 201 (NWQ r 2 201 G μ (fun G' μ' => isProof G' r)) := by
  refine ⟨KC.ofV q_Pf_init.1 rfl (Nat.le_of_ble_eq_true rfl) rfl ?_, q_Pf_init, by decide⟩
  refine V.aload_n (n := 1) d_Pf_init_0 rfl rfl ?_
  refine V.objInit (n := 4) d_Pf_init_1 k_Pf_3 rfl (by decide) rfl ?_
  refine V.row (N := 200) (n := 18) d_Pf_init_4 d_Pf_init_5 d_Pf_init_8 (fun kk => V.sipush (n := 12) d_Pf_init_9 (by decide) rfl kk) d_Pf_init_12 d_Pf_init_15 rfl c_Pf_9 (Or.inl k_Pf_11) f_Pf_14 pf_Pf_14 t_Pf_members rfl (fun _ => ⟨rfl, rfl⟩) (by assumption) (Nat.le_of_ble_eq_true rfl) (by decide) (by decide) (by omega) (by omega) (by decide) rfl (fun G1 μ1 e1 e2 tp ho1 rw1 em ez => ?_)
  rw [hg] at ho1 rw1
  refine V.vret d_Pf_init_18 rfl ?_
  exact ⟨⟨rfl, by omega, by omega, tp, fun b hb _ => em b hb, ho1, rw1⟩, by omega, by omega⟩
theorem c_Rd_init (ho : obj G r (.inl (3, [some none, some none, none]))) (hg : G.1 = r + 1) (htx : isText G tx) (hd : tx + 1 < r) : KI E l 3 m_Rd_init r [rA E tx] G μ 13 513 (NWQ r 13 513 G μ (fun G' μ' => isReader G' r tx)) := by
  refine ⟨KC.ofV q_Rd_init.1 rfl (Nat.le_of_ble_eq_true rfl) rfl ?_, q_Rd_init, by decide⟩
  refine V.aload_n (n := 1) d_Rd_init_0 rfl rfl ?_
  refine V.objInit (n := 4) d_Rd_init_1 k_Rd_3 rfl (by decide) rfl ?_
  refine V.aload_n (n := 5) d_Rd_init_4 rfl rfl ?_
  refine V.newF (a := r + 1) (ci := 0) (n := 8) d_Rd_init_5 rfl c_Rd_9 i_Gm ini_Gm nf_Gm (by omega) (by omega) (by omega) rfl (fun  G1 μ1 e1 e2 tp1 ho1 em1 ez1 => ?_)
  have hs1 := tp1 _ _ ho
  refine V.dup (n := 9) d_Rd_init_8 rfl rfl ?_
  refine V.cIf (n := 12) d_Rd_init_9 (Or.inl k_Rd_11) (c_Gm_init ho1 (by omega) ez1) rfl rfl rfl (by decide) (by omega) (by omega) rfl (fun  G2 μ2 e3 e4 tp2 em2 hP2 => ?_)
  obtain ⟨q1, q2, q3, q4⟩ := hP2
  have hs2 := tp2 _ _ (by omega) hs1
  refine V.putFF (n := 15) d_Rd_init_12 f_Rd_12 pf_Rd_12 t_Rd_draft rfl (fun _ => ⟨rfl, rfl⟩) (by assumption) (Nat.le_of_ble_eq_true rfl) rfl (fun G3 e5 e6 tp3 hs3 => ?_)
  have hs3 : obj G3 r (.inl (3, [some none, some (some (r + 1)), none])) := hs3
  refine V.aload_n (n := 16) d_Rd_init_15 rfl rfl ?_
  refine V.aload_n (n := 17) d_Rd_init_16 rfl rfl ?_
  refine V.putFF (n := 20) d_Rd_init_17 f_Rd_18 pf_Rd_18 t_Rd_text rfl (fun _ => ⟨rfl, rfl⟩) (by assumption) (Nat.le_of_ble_eq_true rfl) rfl (fun G4 e7 e8 tp4 hs4 => ?_)
  have hs4 : obj G4 r (.inl (3, [some (some tx), some (some (r + 1)), none])) := hs4
  refine V.vret d_Rd_init_20 rfl ?_
  have tpa : ∀ b o, ¬ b = r → obj G b o → obj G4 b o := fun b o hb hq => tp4 b o hb (tp3 b o hb (tp2 b o (by have := hq.1; omega) (tp1 b o hq)))
  exact ⟨⟨rfl, by omega, by omega, tpa, fun b hb hbs => by rw [em2 b (by omega) (by omega), em1 b (by omega)], hs4, htx.mv tpa (by omega), (q1.mv tp3 (by omega)).mv tp4 (by omega)⟩, by omega, by omega⟩
theorem c_Hi_init (ho : obj G h (.inl (1, [some none, none]))) (hg : G.1 = h + 1) (hz : ∀ j, μ h j = 0) : KI E l 4 m_Hi_init h [] G μ 125 8536 (NWQ h 125 8536 G μ (fun G' μ' => isHist G' h ∧ okH μ' h ∧ ∀ j, μ' h j = 0)) := by
  refine ⟨KC.ofV q_Hi_init.1 rfl (Nat.le_of_ble_eq_true rfl) rfl ?_, q_Hi_init, by decide⟩
  refine V.aload_n (n := 1) d_Hi_init_0 rfl rfl ?_
  refine V.objInit (n := 4) d_Hi_init_1 k_Hi_3 rfl (by decide) rfl ?_
  refine V.aload_n (n := 5) d_Hi_init_4 rfl rfl ?_
  refine V.iconst (n := 6) d_Hi_init_5 rfl ?_
  refine V.newqF (a := h + 1) (N := 4) (n := 9) d_Hi_init_6 c_Hi_9 rfl (by decide) (by omega) (by omega) (by omega) rfl (fun  G1 μ1 e1 e2 tp1 ho1 em1 => ?_)
  have hs1 := tp1 _ _ ho
  refine V.putFF (n := 12) d_Hi_init_9 f_Hi_11 pf_Hi_11 t_Hi_states rfl (fun _ => ⟨rfl, rfl⟩) (by assumption) (Nat.le_of_ble_eq_true rfl) rfl (fun G2 e3 e4 tp2 hs2 => ?_)
  have hs2 : obj G2 h (.inl (1, [some (some (h + 1)), none])) := hs2
  have ha2 := tp2 _ _ (by omega) ho1
  have loop : ∀ (k i : Nat) (Gi : GG) (ν : MU), i + k = 4 → Gi.1 = h + 2 + 31 * i → Gi.2.1 = G.2.1 + 4 + 2133 * i → (∀ b o, ¬ b = h → obj G b o → obj Gi b o) → obj Gi h (.inl (1, [some (some (h + 1)), none])) → obj Gi (h + 1) (.inr (3, 4)) → (∀ q : Nat, q < i → isState Gi (h + 2 + 31 * q) ∧ ν (h + 1) q = ((h + 2 + 31 * q : Nat) : Int)) → (∀ b, b ≤ h → ν b = μ b) → V E l m_Hi_init none 4 (G.1 + 125) (G.2.1 + 8536) (fun v G' μ' => NWQ h 125 8536 G μ (fun G' μ' => isHist G' h ∧ okH μ' h ∧ ∀ j, μ' h j = 0) v G' μ' ∧ G'.1 = G.1 + 125 ∧ G'.2.1 = G.2.1 + 8536) 14 [(1, rI i), (0, rA E h)] [] Gi ν := by
    intro k
    induction k with
    | zero =>
      intro i Gi ν hk n1 n2 n3 n4 n5 n6 n7
      refine V.iload_n (n := 15) d_Hi_init_14 rfl rfl ?_
      refine V.aload_n (n := 16) d_Hi_init_15 rfl rfl ?_
      refine V.getA (n := 19) d_Hi_init_16 f_Hi_11 (by assumption) rfl rfl ?_
      refine V.alen (n := 20) d_Hi_init_19 (by assumption) (by decide) rfl ?_
      refine V.icmp_geT (n2 := 42) d_Hi_init_20 (by omega) (by omega) (by omega) (by decide) ?_
      refine V.vret d_Hi_init_42 rfl ?_
      refine ⟨⟨rfl, by omega, by omega, n3, fun b hb hbs => n7 b (by omega), ⟨n4, n5, fun q hq => (n6 q (by omega)).1⟩, ⟨fun j j0 j1 => ⟨j.toNat, by omega, ?_⟩, fun j j' j0 j1 j2 j3 he => ?_⟩, fun j => by rw [n7 h (Nat.le_refl _)]; exact hz j⟩, by omega, by omega⟩
      · have := (n6 j.toNat (by omega)).2
        rw [show ((j.toNat : Nat) : Int) = j by omega] at this
        exact this
      · have a1 := (n6 j.toNat (by omega)).2
        have a2 := (n6 j'.toNat (by omega)).2
        rw [show ((j.toNat : Nat) : Int) = j by omega] at a1
        rw [show ((j'.toNat : Nat) : Int) = j' by omega] at a2
        omega
    | succ k ih =>
      intro i Gi ν hk n1 n2 n3 n4 n5 n6 n7
      refine V.iload_n (n := 15) d_Hi_init_14 rfl rfl ?_
      refine V.aload_n (n := 16) d_Hi_init_15 rfl rfl ?_
      refine V.getA (n := 19) d_Hi_init_16 f_Hi_11 (by assumption) rfl rfl ?_
      refine V.alen (n := 20) d_Hi_init_19 (by assumption) (by decide) rfl ?_
      refine V.icmp_geF (n := 23) d_Hi_init_20 (by omega) (by omega) (by omega) rfl ⟨42, by decide⟩ ?_
      refine V.aload_n (n := 24) d_Hi_init_23 rfl rfl ?_
      refine V.getA (n := 27) d_Hi_init_24 f_Hi_11 (by assumption) rfl rfl ?_
      refine V.iload_n (n := 28) d_Hi_init_27 rfl rfl ?_
      refine V.newF (a := h + 2 + 31 * i) (ci := 6) (n := 31) d_Hi_init_28 rfl c_Hi_9 i_St ini_St nf_St (by omega) (by omega) (by omega) rfl (fun  G3 μ3 d1 d2 tp3 ho3 em3 ez3 => ?_)
      refine V.dup (n := 32) d_Hi_init_31 rfl rfl ?_
      refine V.cIf (n := 35) d_Hi_init_32 (Or.inl k_Hi_17) (c_St_init ho3 (by omega) ez3) rfl rfl rfl (by decide) (by omega) (by omega) rfl (fun  G4 μ4 d3 d4 tp4 em4 hP4 => ?_)
      obtain ⟨w1, w2, w3⟩ := hP4
      have a4 := tp4 _ _ (by omega) (tp3 _ _ n4)
      have a5 := tp4 _ _ (by omega) (tp3 _ _ n5)
      have w0 := w1.1
      refine V.aast (n := 36) d_Hi_init_35 (by assumption) (by assumption) (by omega) (by omega) (by omega) rfl ?_
      refine V.iinc (n := 39) d_Hi_init_36 rfl (by decide) rfl ?_
      refine V.goto (n := 14) d_Hi_init_39 (by decide) ?_
      refine V.loc (lo' := [(1, rI ((i : Int) + 1)), (0, rA E h)]) ⟨rfl, rfl, trivial⟩ ?_
      have hx := ih (i + 1) G4 (wr μ4 (h + 1) i ((h + 2 + 31 * i : Nat) : Int)) (by omega) (by omega) (by rw [d4, d2, n2, Nat.mul_succ]; generalize 2133 * i = y; omega) (fun b o hb hq => tp4 b o (by have := hq.1; omega) (tp3 b o (n3 b o hb hq))) a4 a5 (fun q hq => ?_) (fun b hb => by rw [wr_a (by omega), em4 b (by omega) (by omega), em3 b (by omega), n7 b hb])
      · rw [show ((i + 1 : Nat) : Int) = (i : Int) + 1 by omega] at hx
        exact hx
      · rw [wr_v]
        by_cases e : q = i
        · subst e
          rw [if_pos rfl]
          exact ⟨w1, rfl⟩
        · have n8 := n6 q (by omega)
          rw [if_neg (by omega), em4 (h + 1) (by omega) (by omega), em3 (h + 1) (by omega)]
          exact ⟨(n8.1.mv (a := h) (fun b o _ => tp3 b o) (by omega)).mv tp4 (by omega), n8.2⟩
  refine V.iconst (n := 13) d_Hi_init_12 rfl ?_
  refine V.istore_n (n := 14) d_Hi_init_13 (by decide) rfl ?_
  refine V.loc (lo' := [(1, rI (0 : Nat)), (0, rA E h)]) ⟨rfl, rfl, trivial⟩ ?_
  exact loop 4 0 G2 μ1 (by omega) (by omega) (by omega) (fun b o hb hq => tp2 b o hb (tp1 b o hq)) hs2 ha2 (fun q hq => absurd hq (Nat.not_lt_zero _)) (fun b hb => em1 b (by omega))
end CTN3
end
section
/-! THE CLASS AND THE REFERENCE ARE MADE -/
section CTN4
variable {E : EV} {l : Launch} {G : GG} {μ : MU} {x m : Nat}
theorem c_Cp_init (ho : obj G x (.inl (9, [some none, some none, none, some none, some none, some none, some none, some none]))) (hg : G.1 = x + 1) (hz : ∀ j, μ x j = 0) : KI E l 5 m_Cp_init x [] G μ 210 13606 (NWQ x 210 13606 G μ (fun G' μ' => isCheap G' x ∧ Z0 μ' (x + 1) ∧ okH μ' (x + 63) ∧ (∀ j, μ' (x + 63) j = 0) ∧ (∀ j, μ' x j = 0) ∧ ∀ j, μ' (x + 189) j = 0)) := by
  refine ⟨KC.ofV q_Cp_init.1 rfl (Nat.le_of_ble_eq_true rfl) rfl ?_, q_Cp_init, by decide⟩
  refine V.aload_n (n := 1) d_Cp_init_0 rfl rfl ?_
  refine V.objInit (n := 4) d_Cp_init_1 k_Cp_1 rfl (by decide) rfl ?_
  refine V.aload_n (n := 5) d_Cp_init_4 rfl rfl ?_
  refine V.newF (a := x + 1) (ci := 6) (n := 8) d_Cp_init_5 rfl c_Cp_7 i_St ini_St nf_St (by omega) (by omega) (by omega) rfl (fun  G1 μ1 e1 e2 tp1 ho1 em1 ez1 => ?_)
  have hs1 := tp1 _ _ ho
  refine V.dup (n := 9) d_Cp_init_8 rfl rfl ?_
  refine V.cIf (n := 12) d_Cp_init_9 (Or.inl k_Cp_9) (c_St_init ho1 (by omega) ez1) rfl rfl rfl (by decide) (by omega) (by omega) rfl (fun  G2 μ2 e3 e4 tp2 em2 hP2 => ?_)
  obtain ⟨a1, a2, a3⟩ := hP2
  have hs2 := tp2 _ _ (by omega) hs1
  refine V.putFF (n := 15) d_Cp_init_12 f_Cp_10 pf_Cp_10 t_Cp_now rfl (fun _ => ⟨rfl, rfl⟩) (by assumption) (Nat.le_of_ble_eq_true rfl) rfl (fun G3 e5 e6 tp3 hs3 => ?_)
  have hs3 : obj G3 x (.inl (9, [some (some (x + 1)), some none, none, some none, some none, some none, some none, some none])) := hs3
  have a4 := a1.mv tp3 (by omega)
  refine V.aload_n (n := 16) d_Cp_init_15 rfl rfl ?_
  refine V.newF (a := x + 32) (ci := 6) (n := 19) d_Cp_init_16 rfl c_Cp_7 i_St ini_St nf_St (by omega) (by omega) (by omega) rfl (fun  G4 μ4 e7 e8 tp4 ho4 em4 ez4 => ?_)
  have hs4 := tp4 _ _ hs3
  refine V.dup (n := 20) d_Cp_init_19 rfl rfl ?_
  refine V.cIf (n := 23) d_Cp_init_20 (Or.inl k_Cp_9) (c_St_init ho4 (by omega) ez4) rfl rfl rfl (by decide) (by omega) (by omega) rfl (fun  G5 μ5 e9 e10 tp5 em5 hP5 => ?_)
  obtain ⟨b1, b2, b3⟩ := hP5
  have hs5 := tp5 _ _ (by omega) hs4
  have a5 := (a4.mv (a := x) (fun b o _ => tp4 b o) (by omega)).mv tp5 (by omega)
  refine V.putFF (n := 26) d_Cp_init_23 f_Cp_16 pf_Cp_16 t_Cp_snapshot rfl (fun _ => ⟨rfl, rfl⟩) (by assumption) (Nat.le_of_ble_eq_true rfl) rfl (fun G6 e11 e12 tp6 hs6 => ?_)
  have hs6 : obj G6 x (.inl (9, [some (some (x + 1)), some (some (x + 32)), none, some none, some none, some none, some none, some none])) := hs6
  have a6 := a5.mv tp6 (by omega)
  have b6 := b1.mv tp6 (by omega)
  refine V.aload_n (n := 27) d_Cp_init_26 rfl rfl ?_
  refine V.iconst (n := 28) d_Cp_init_27 rfl ?_
  refine V.putI (n := 31) d_Cp_init_28 f_Cp_19 t_Cp_hasSnapshot ⟨rfl, rfl⟩ (by assumption) rfl rfl ?_
  refine V.aload_n (n := 32) d_Cp_init_31 rfl rfl ?_
  refine V.newF (a := x + 63) (ci := 1) (n := 35) d_Cp_init_32 rfl c_Cp_23 i_Hi ini_Hi nf_Hi (by omega) (by omega) (by omega) rfl (fun  G7 μ7 e13 e14 tp7 ho7 em7 ez7 => ?_)
  have hs7 := tp7 _ _ hs6
  refine V.dup (n := 36) d_Cp_init_35 rfl rfl ?_
  refine V.cIf (n := 39) d_Cp_init_36 (Or.inl k_Cp_25) (c_Hi_init ho7 (by omega) ez7) rfl rfl rfl (by decide) (by omega) (by omega) rfl (fun  G8 μ8 e15 e16 tp8 em8 hP8 => ?_)
  obtain ⟨c1, c2, c3⟩ := hP8
  have hs8 := tp8 _ _ (by omega) hs7
  have a8 := (a6.mv (a := x) (fun b o _ => tp7 b o) (by omega)).mv tp8 (by omega)
  have b8 := (b6.mv (a := x) (fun b o _ => tp7 b o) (by omega)).mv tp8 (by omega)
  refine V.putFF (n := 42) d_Cp_init_39 f_Cp_26 pf_Cp_26 t_Cp_history rfl (fun _ => ⟨rfl, rfl⟩) (by assumption) (Nat.le_of_ble_eq_true rfl) rfl (fun G9 e17 e18 tp9 hs9 => ?_)
  have hs9 : obj G9 x (.inl (9, [some (some (x + 1)), some (some (x + 32)), none, some (some (x + 63)), some none, some none, some none, some none])) := hs9
  have a9 := a8.mv tp9 (by omega)
  have b9 := b8.mv tp9 (by omega)
  have c9 := c1.mv tp9 (by omega)
  refine V.aload_n (n := 43) d_Cp_init_42 rfl rfl ?_
  refine V.newF (a := x + 189) (ci := 7) (n := 46) d_Cp_init_43 rfl c_Cp_30 i_Tx ini_Tx nf_Tx (by omega) (by omega) (by omega) rfl (fun  Ga μa f1 f2 tpa hoa ema eza => ?_)
  have hsa := tpa _ _ hs9
  refine V.dup (n := 47) d_Cp_init_46 rfl rfl ?_
  refine V.cIf (n := 50) d_Cp_init_47 (Or.inr ⟨_, k_Cp_32⟩) (c_Tx_init hoa (by omega) eza) rfl rfl rfl (by decide) (by omega) (by omega) rfl (fun  Gb μb f3 f4 tpb emb hPb => ?_)
  obtain ⟨d1, d2⟩ := hPb
  have hsb := tpb _ _ (by omega) hsa
  have ab := (a9.mv (a := x) (fun b o _ => tpa b o) (by omega)).mv tpb (by omega)
  have bb := (b9.mv (a := x) (fun b o _ => tpa b o) (by omega)).mv tpb (by omega)
  have cb := (c9.mv (a := x) (fun b o _ => tpa b o) (by omega)).mv tpb (by omega)
  refine V.putFF (n := 53) d_Cp_init_50 f_Cp_33 pf_Cp_33 t_Cp_text rfl (fun _ => ⟨rfl, rfl⟩) (by assumption) (Nat.le_of_ble_eq_true rfl) rfl (fun Gc f5 f6 tpc hsc => ?_)
  have hsc : obj Gc x (.inl (9, [some (some (x + 1)), some (some (x + 32)), none, some (some (x + 63)), some (some (x + 189)), some none, some none, some none])) := hsc
  have ac := ab.mv tpc (by omega)
  have bc := bb.mv tpc (by omega)
  have cc := cb.mv tpc (by omega)
  have dc := d1.mv tpc (by omega)
  refine V.aload_n (n := 54) d_Cp_init_53 rfl rfl ?_
  refine V.newF (a := x + 191) (ci := 3) (n := 57) d_Cp_init_54 rfl c_Cp_37 i_Rd ini_Rd nf_Rd (by omega) (by omega) (by omega) rfl (fun  Gd μd f7 f8 tpd hod emd ezd => ?_)
  have hsd := tpd _ _ hsc
  have dd := dc.mv (a := x) (fun b o _ => tpd b o) (by omega)
  refine V.dup (n := 58) d_Cp_init_57 rfl rfl ?_
  refine V.aload_n (n := 59) d_Cp_init_58 rfl rfl ?_
  refine V.getA (n := 62) d_Cp_init_59 f_Cp_33 (by assumption) rfl rfl ?_
  refine V.cIf (n := 65) d_Cp_init_62 (Or.inl k_Cp_39) (c_Rd_init hod (by omega) dd (by omega)) rfl rfl rfl (by decide) (by omega) (by omega) rfl (fun  Ge μe f9 f10 tpe eme hPe => ?_)
  have hse := tpe _ _ (by omega) hsd
  have ae := (ac.mv (a := x) (fun b o _ => tpd b o) (by omega)).mv tpe (by omega)
  have be := (bc.mv (a := x) (fun b o _ => tpd b o) (by omega)).mv tpe (by omega)
  have ce := (cc.mv (a := x) (fun b o _ => tpd b o) (by omega)).mv tpe (by omega)
  have de := dd.mv tpe (by omega)
  refine V.putFF (n := 68) d_Cp_init_65 f_Cp_42 pf_Cp_42 t_Cp_reader rfl (fun _ => ⟨rfl, rfl⟩) (by assumption) (Nat.le_of_ble_eq_true rfl) rfl (fun Gf f11 f12 tpf hsf => ?_)
  have hsf : obj Gf x (.inl (9, [some (some (x + 1)), some (some (x + 32)), none, some (some (x + 63)), some (some (x + 189)), some (some (x + 191)), some none, some none])) := hsf
  have af := ae.mv tpf (by omega)
  have bf := be.mv tpf (by omega)
  have cf := ce.mv tpf (by omega)
  have df := de.mv tpf (by omega)
  have ef := hPe.mv tpf (by omega) (by omega)
  refine V.aload_n (n := 69) d_Cp_init_68 rfl rfl ?_
  refine V.newF (a := x + 205) (ci := 4) (n := 72) d_Cp_init_69 rfl c_Cp_46 i_Ro ini_Ro nf_Ro (by omega) (by omega) (by omega) rfl (fun  Gg μg g1 g2 tpg hog emg ezg => ?_)
  have hsg := tpg _ _ hsf
  refine V.dup (n := 73) d_Cp_init_72 rfl rfl ?_
  refine V.cIf (n := 76) d_Cp_init_73 (Or.inr ⟨_, k_Cp_48⟩) (c_Ro_init hog (by omega)) rfl rfl rfl (by decide) (by omega) (by omega) rfl (fun  Gh μh g3 g4 tph emh hPh => ?_)
  have hsh := tph _ _ (by omega) hsg
  have ah := (af.mv (a := x) (fun b o _ => tpg b o) (by omega)).mv tph (by omega)
  have bh := (bf.mv (a := x) (fun b o _ => tpg b o) (by omega)).mv tph (by omega)
  have ch := (cf.mv (a := x) (fun b o _ => tpg b o) (by omega)).mv tph (by omega)
  have dh := (df.mv (a := x) (fun b o _ => tpg b o) (by omega)).mv tph (by omega)
  have eh := (ef.mv (a := x) (fun b o _ => tpg b o) (by omega) (by omega)).mv tph (by omega) (by omega)
  refine V.putFF (n := 79) d_Cp_init_76 f_Cp_49 pf_Cp_49 t_Cp_rounds rfl (fun _ => ⟨rfl, rfl⟩) (by assumption) (Nat.le_of_ble_eq_true rfl) rfl (fun Gi g5 g6 tpi hsi => ?_)
  have hsi : obj Gi x (.inl (9, [some (some (x + 1)), some (some (x + 32)), none, some (some (x + 63)), some (some (x + 189)), some (some (x + 191)), some (some (x + 205)), some none])) := hsi
  have ai := ah.mv tpi (by omega)
  have bi1 := bh.mv tpi (by omega)
  have ci := ch.mv tpi (by omega)
  have di := dh.mv tpi (by omega)
  have ei := eh.mv tpi (by omega) (by omega)
  have fi := hPh.mv tpi (by omega)
  refine V.aload_n (n := 80) d_Cp_init_79 rfl rfl ?_
  refine V.newF (a := x + 208) (ci := 2) (n := 83) d_Cp_init_80 rfl c_Cp_53 i_Pf ini_Pf nf_Pf (by omega) (by omega) (by omega) rfl (fun  Gj μj g7 g8 tpj hoj emj ezj => ?_)
  have hsj := tpj _ _ hsi
  refine V.dup (n := 84) d_Cp_init_83 rfl rfl ?_
  refine V.cIf (n := 87) d_Cp_init_84 (Or.inr ⟨_, k_Cp_55⟩) (c_Pf_init hoj (by omega)) rfl rfl rfl (by decide) (by omega) (by omega) rfl (fun  Gk μk g9 g10 tpk emk hPk => ?_)
  have hsk := tpk _ _ (by omega) hsj
  have ak := (ai.mv (a := x) (fun b o _ => tpj b o) (by omega)).mv tpk (by omega)
  have bk := (bi1.mv (a := x) (fun b o _ => tpj b o) (by omega)).mv tpk (by omega)
  have ck1 := (ci.mv (a := x) (fun b o _ => tpj b o) (by omega)).mv tpk (by omega)
  have dk := (di.mv (a := x) (fun b o _ => tpj b o) (by omega)).mv tpk (by omega)
  have ek := (ei.mv (a := x) (fun b o _ => tpj b o) (by omega) (by omega)).mv tpk (by omega) (by omega)
  have fk := (fi.mv (a := x) (fun b o _ => tpj b o) (by omega)).mv tpk (by omega)
  refine V.putFF (n := 90) d_Cp_init_87 f_Cp_56 pf_Cp_56 t_Cp_proof rfl (fun _ => ⟨rfl, rfl⟩) (by assumption) (Nat.le_of_ble_eq_true rfl) rfl (fun Gl g11 g12 tpl hsl => ?_)
  have hsl : obj Gl x (.inl (9, [some (some (x + 1)), some (some (x + 32)), none, some (some (x + 63)), some (some (x + 189)), some (some (x + 191)), some (some (x + 205)), some (some (x + 208))])) := hsl
  refine V.vret d_Cp_init_90 rfl ?_
  have m5 : ∀ b, b < x + 189 → μk b = μ8 b := fun b hb => by rw [emk b (by omega) (by omega), emj b (by omega), emh b (by omega) (by omega), emg b (by omega), eme b (by omega) (by omega), emd b (by omega), emb b (by omega) (by omega), ema b (by omega)]
  have mw : ∀ b, b < x + 63 → μ8 b = wr μ5 x 2 0 b := fun b hb => by rw [em8 b (by omega) (by omega), em7 b (by omega)]
  have m2 : ∀ b, ¬ b = x → b < x + 32 → μk b = μ2 b := fun b hb hb2 => by rw [m5 b (by omega), mw b (by omega), wr_a hb, em5 b (by omega) (by omega), em4 b (by omega)]
  have m0 : ∀ b, b < x → μk b = μ b := fun b hb => by rw [m2 b (by omega) (by omega), em2 b (by omega) (by omega), em1 b (by omega)]
  have mt : ∀ b, b < x + 191 → μk b = μb b := fun b hb => by rw [emk b (by omega) (by omega), emj b (by omega), emh b (by omega) (by omega), emg b (by omega), eme b (by omega) (by omega), emd b (by omega)]
  refine ⟨⟨rfl, by omega, by omega, fun b o hb hq => ?_, fun b hb hbx => m0 b (by omega), ⟨hsl, ak.mv tpl (by omega), bk.mv tpl (by omega), ck1.mv tpl (by omega), dk.mv tpl (by omega), ek.mv tpl (by omega) (by omega), fk.mv tpl (by omega), hPk.mv tpl (by omega)⟩, a3.at (fun b b0 b1 => m2 b (by omega) (by omega)), c2.at (m5 _ (by omega)), fun j => by rw [m5 _ (by omega)]; exact c3 j, fun j => ?_, fun j => by rw [mt _ (by omega)]; exact d2 j⟩, by omega, by omega⟩
  · have hlt := hq.1
    exact tpl b o hb (tpk b o (by omega) (tpj b o (tpi b o hb (tph b o (by omega) (tpg b o (tpf b o hb (tpe b o (by omega) (tpd b o (tpc b o hb (tpb b o (by omega) (tpa b o (tp9 b o hb (tp8 b o (by omega) (tp7 b o (tp6 b o hb (tp5 b o (by omega) (tp4 b o (tp3 b o hb (tp2 b o (by omega) (tp1 b o hq))))))))))))))))))))
  · rw [m5 x (by omega), mw x (by omega), wr_v]
    by_cases e : j = 2
    · rw [if_pos e]
    · rw [if_neg e, em5 x (by omega) (by omega), em4 x (by omega), em2 x (by omega) (by omega), em1 x (by omega)]
      exact hz j
/-- between two calls, at first -/
theorem INV.new {μ : MU} {x m : Nat} (h1 : Z0 μ (x + 1)) (h2 : okH μ (x + 63)) (h3 : ∀ j, μ (x + 63) j = 0) (h4 : ∀ j, μ x j = 0) (h5 : ∀ j, μ (x + 189) j = 0) (h6 : ∀ j, μ m j = 0) (h7 : ∀ j, μ (m + 1) j = if 3 ≤ j ∧ j < 103 ∧ ((j - 3) % 5 = 2 ∨ (j - 3) % 5 = 3) then 1 else 0) : INV x m μ := by
  have hF : ∀ u w : Int, 0 ≤ u → u < 20 → 0 ≤ w → w < 5 → μ (m + 1) (3 + 5 * u + w) = if w = 2 ∨ w = 3 then 1 else 0 := fun u w u0 u1 w0 w1 => by
    rw [h7]
    by_cases c : w = 2 ∨ w = 3
    · rw [if_pos c, if_pos (by omega)]
    · rw [if_neg c, if_neg (by omega)]
  have hzero : ∀ j, (j < 3 ∨ 103 ≤ j) → μ (m + 1) j = 0 := fun j hj => by rw [h7, if_neg (by omega)]
  refine ⟨[], 0, fun _ => (fun _ => 0, []), h1.sh (hzero 1 (by omega)) hF, WF.clr ⟨List.nodup_nil, fun x hx => by cases hx⟩ ⟨hzero 0 (by omega), Nat.zero_le _, fun k hk => absurd hk (Nat.not_lt_zero _)⟩ (fun u u0 u1 => ?_) (hzero 1 (by omega)) (hzero 2 (by omega)) (fun j j0 _ => hzero j (by omega)), ⟨h2, Nat.zero_le _, h3 1, fun i hi => absurd hi (Nat.not_lt_zero _)⟩, ⟨h6 3, Nat.zero_le _, fun i hi => absurd hi (Nat.not_lt_zero _)⟩, ⟨by rw [h4, h6], Or.inl (h6 5)⟩, ⟨by rw [h5, h6], by rw [h6]; omega, by rw [h6]; omega, fun i i0 i1 => by rw [h6] at i1; omega⟩⟩
  rw [hF u 0 u0 u1 (by omega) (by omega), hF u 1 u0 u1 (by omega) (by omega), hF u 2 u0 u1 (by omega) (by omega), hF u 3 u0 u1 (by omega) (by omega)]
  (repeat' split) <;> omega
end CTN4
end
section
/-! ROUNDS: after twenty of them nothing changes; what a round is -/
theorem bi_1 {p : Prop} [Decidable p] : bi p = 1 ↔ p := by
  rcases bi_or p with ⟨h, e⟩ | ⟨h, e⟩
  · exact ⟨fun _ => h, fun _ => e⟩
  · exact ⟨fun q => by omega, fun q => absurd q h⟩
theorem cs_ex {f : Int → Int} : ∀ {k : Nat}, (∀ j : Nat, j < k → 0 ≤ f j ∧ f j ≤ 1) → (0 < cs f k ↔ ∃ i : Nat, i < k ∧ f i = 1)
  | 0, _ => ⟨fun q => absurd q (Int.lt_irrefl _), fun ⟨i, h, _⟩ => absurd h (Nat.not_lt_zero _)⟩
  | k + 1, h => by
    have h1 := cs_ex (f := f) (k := k) (fun j hj => h j (by omega))
    have h2 := h k (by omega)
    have h3 := cs_bd (f := f) (k := k) (fun j hj => h j (by omega))
    rw [cs_s]
    constructor
    · intro q
      by_cases e : f k = 1
      · exact ⟨k, by omega, e⟩
      · obtain ⟨i, i1, i2⟩ := h1.mp (by omega)
        exact ⟨i, by omega, i2⟩
    · rintro ⟨i, i1, i2⟩
      by_cases e : i = k
      · subst e; omega
      · have := h1.mpr ⟨i, by omega, i2⟩
        omega
theorem cs_al {f : Int → Int} : ∀ {k : Nat}, (∀ j : Nat, j < k → 0 ≤ f j ∧ f j ≤ 1) → (cs f k = k ↔ ∀ i : Nat, i < k → f i = 1)
  | 0, _ => ⟨fun _ i h => absurd h (Nat.not_lt_zero _), fun _ => rfl⟩
  | k + 1, h => by
    have h1 := cs_al (f := f) (k := k) (fun j hj => h j (by omega))
    have h2 := h k (by omega)
    have h3 := cs_bd (f := f) (k := k) (fun j hj => h j (by omega))
    rw [cs_s]
    constructor
    · intro q i hi
      by_cases e : i = k
      · subst e; omega
      · exact h1.mp (by omega) i (by omega)
    · intro q
      have a := h1.mpr (fun i hi => q i (by omega))
      have b := q k (by omega)
      omega
theorem cs_lt {f g : Int → Int} {w : Nat} : ∀ {N : Nat}, (∀ j : Nat, j < N → f j ≤ g j) → w < N → f w + 1 ≤ g w → cs f N + 1 ≤ cs g N
  | 0, _, h, _ => absurd h (Nat.not_lt_zero _)
  | N + 1, h, hw, hd => by
    rw [cs_s, cs_s]
    have hN := h N (by omega)
    by_cases e : w = N
    · subst e
      have := cs_le (f := f) (g := g) (N := w) (fun j hj => h j (by omega))
      omega
    · have := cs_lt (f := f) (g := g) (w := w) (N := N) (fun j hj => h j (by omega)) (by omega) hd
      omega
section RF
variable {tn mk cn : Int → Int} {tg : Int → Int → Int}
theorem wb_a {s : Int → Bool} {p : Int} (h : tn p = 0) : wb tn cn tg s p = true ↔ ∃ i : Nat, i < (cn p).toNat ∧ s (tg p i) = true := by
  unfold wb
  rw [if_pos h, decide_eq_true_iff, cs_ex (fun j _ => bi_in _)]
  exact ⟨fun ⟨i, a, b⟩ => ⟨i, a, bi_1.mp b⟩, fun ⟨i, a, b⟩ => ⟨i, a, bi_1.mpr b⟩⟩
theorem wb_d {s : Int → Bool} {p : Int} (h : ¬ tn p = 0) (hn : 0 ≤ cn p) : wb tn cn tg s p = true ↔ ∀ i : Nat, i < (cn p).toNat → s (tg p i) = true := by
  unfold wb
  rw [if_neg h, decide_eq_true_iff]
  have h1 := cs_al (f := fun i => bi (s (tg p i) = true)) (k := (cn p).toNat) (fun j _ => bi_in _)
  rw [show (((cn p).toNat : Nat) : Int) = cn p from Int.toNat_of_nonneg hn] at h1
  rw [h1]
  exact ⟨fun q i hi => bi_1.mp (q i hi), fun q i hi => bi_1.mpr (q i hi)⟩
theorem wk_mono {k : Nat} {p : Int} (h : wk tn mk cn tg k p = true) : wk tn mk cn tg (k + 1) p = true := by
  rw [wk_s, h]
  rfl
theorem wk_fixs {k : Nat} (ht : ∀ p (i : Nat), 0 ≤ p → p < 20 → i < (cn p).toNat → 0 ≤ tg p i ∧ tg p i < 20) (h : ∀ p, 0 ≤ p → p < 20 → wk tn mk cn tg (k + 1) p = wk tn mk cn tg k p) : ∀ p, 0 ≤ p → p < 20 → wk tn mk cn tg (k + 1 + 1) p = wk tn mk cn tg (k + 1) p := by
  intro p p0 p1
  have e : wb tn cn tg (wk tn mk cn tg (k + 1)) p = wb tn cn tg (wk tn mk cn tg k) p := wb_c rfl rfl (fun i hi => by
    have := ht p i p0 p1 hi
    exact h _ this.1 this.2)
  rw [wk_s (k + 1), e, h p p0 p1, ← wk_s k]
  exact h p p0 p1
theorem wk_grow {k : Nat} {p : Int} (p0 : 0 ≤ p) (p1 : p < 20) (h : ¬ wk tn mk cn tg (k + 1) p = wk tn mk cn tg k p) : cs (fun q => bi (wk tn mk cn tg k q = true)) 20 + 1 ≤ cs (fun q => bi (wk tn mk cn tg (k + 1) q = true)) 20 := by
  refine cs_lt (w := p.toNat) (fun j _ => ?_) (by omega) ?_
  · rcases bi_or (wk tn mk cn tg k j = true) with ⟨a, e⟩ | ⟨a, e⟩
    · show bi (wk tn mk cn tg k j = true) ≤ bi (wk tn mk cn tg (k + 1) j = true)
      rw [e, bi_t (wk_mono a)]
      exact Int.le_refl _
    · show bi (wk tn mk cn tg k j = true) ≤ bi (wk tn mk cn tg (k + 1) j = true)
      rw [e]
      exact (bi_in _).1
  · rw [show ((p.toNat : Nat) : Int) = p by omega]
    show bi (wk tn mk cn tg k p = true) + 1 ≤ bi (wk tn mk cn tg (k + 1) p = true)
    have a : ¬ wk tn mk cn tg k p = true := fun q => h (by rw [q, wk_mono q])
    have b : wk tn mk cn tg (k + 1) p = true := by
      cases e : wk tn mk cn tg (k + 1) p
      · exact absurd (by rw [e]; cases e2 : wk tn mk cn tg k p; rfl; exact absurd e2 a) h
      · rfl
    rw [bi_f a, bi_t b]
    exact Int.le_refl _
theorem wk_fix (ht : ∀ p (i : Nat), 0 ≤ p → p < 20 → i < (cn p).toNat → 0 ≤ tg p i ∧ tg p i < 20) : ∀ k : Nat, (∀ p, 0 ≤ p → p < 20 → wk tn mk cn tg (k + 1) p = wk tn mk cn tg k p) ∨ (k : Int) + 1 ≤ cs (fun q => bi (wk tn mk cn tg (k + 1) q = true)) 20 := by
  intro k
  induction k with
  | zero =>
    by_cases c : ∀ p, 0 ≤ p → p < 20 → wk tn mk cn tg (0 + 1) p = wk tn mk cn tg 0 p
    · exact Or.inl c
    · refine Or.inr ?_
      have h0 := cs_bd (f := fun q => bi (wk tn mk cn tg 0 q = true)) (k := 20) (fun j _ => bi_in _)
      simp only [Classical.not_forall] at c
      obtain ⟨p, p0, p1, h⟩ := c
      have := wk_grow p0 p1 h
      omega
  | succ k ih =>
    by_cases c : ∀ p, 0 ≤ p → p < 20 → wk tn mk cn tg (k + 1 + 1) p = wk tn mk cn tg (k + 1) p
    · exact Or.inl c
    · rcases ih with ih | ih
      · exact absurd (wk_fixs ht ih) c
      · refine Or.inr ?_
        simp only [Classical.not_forall] at c
        obtain ⟨p, p0, p1, h⟩ := c
        have := wk_grow p0 p1 h
        omega
theorem wk_20 (ht : ∀ p (i : Nat), 0 ≤ p → p < 20 → i < (cn p).toNat → 0 ≤ tg p i ∧ tg p i < 20) {p : Int} (p0 : 0 ≤ p) (p1 : p < 20) : wk tn mk cn tg 21 p = wk tn mk cn tg 20 p := by
  rcases wk_fix (mk := mk) (tn := tn) ht 20 with h | h
  · exact h p p0 p1
  · have := cs_bd (f := fun q => bi (wk tn mk cn tg (20 + 1) q = true)) (k := 20) (fun j _ => bi_in _)
    omega
theorem rd_st (k : Nat) (p : Int) : ∀ j : Nat, (¬ rdk tn mk cn tg k p = -5 → rdk tn mk cn tg (k + j) p = rdk tn mk cn tg k p) ∧ (rdk tn mk cn tg k p = -5 → rdk tn mk cn tg (k + j) p = -5 ∨ (k : Int) < rdk tn mk cn tg (k + j) p) := by
  intro j
  induction j with
  | zero => exact ⟨fun _ => rfl, fun h => Or.inl h⟩
  | succ j ih =>
    have e : rdk tn mk cn tg (k + (j + 1)) p = if rdk tn mk cn tg (k + j) p = -5 then (if wk tn mk cn tg (k + j + 1) p = true then ((k + j + 1 : Nat) : Int) else -5) else rdk tn mk cn tg (k + j) p := rdk_s (k + j) p
    rw [e]
    refine ⟨fun h => ?_, fun h => ?_⟩
    · have h1 := ih.1 h
      rw [if_neg (by rw [h1]; exact h)]
      exact h1
    · rcases ih.2 h with h1 | h1
      · rw [if_pos h1]
        by_cases c : wk tn mk cn tg (k + j + 1) p = true
        · rw [if_pos c]
          exact Or.inr (by omega)
        · rw [if_neg c]
          exact Or.inl rfl
      · rw [if_neg (by omega)]
        exact Or.inr h1
theorem rd_wk {k : Nat} (hk : k ≤ 20) (p : Int) : wk tn mk cn tg k p = true ↔ (0 ≤ rdk tn mk cn tg 20 p ∧ rdk tn mk cn tg 20 p ≤ k) := by
  have h1 := rdk_in (tn := tn) (mk := mk) (cn := cn) (tg := tg) k p
  have h2 := rd_st (tn := tn) (mk := mk) (cn := cn) (tg := tg) k p (20 - k)
  rw [show k + (20 - k) = 20 by omega] at h2
  rcases h1 with ⟨a, b⟩ | ⟨a, b, c⟩
  · rw [b]
    refine ⟨fun q => (by cases q), fun q => ?_⟩
    rcases h2.2 a with h3 | h3 <;> omega
  · rw [c]
    have := h2.1 (by omega)
    exact ⟨fun _ => by omega, fun _ => rfl⟩
theorem rd_20 (p : Int) : rdk tn mk cn tg 20 p = -5 ∨ (0 ≤ rdk tn mk cn tg 20 p ∧ rdk tn mk cn tg 20 p ≤ 20) := by
  rcases rdk_in (tn := tn) (mk := mk) (cn := cn) (tg := tg) 20 p with ⟨a, b⟩ | ⟨a, b, c⟩
  · exact Or.inl a
  · exact Or.inr ⟨a, b⟩
theorem wk_end {p : Int} (he : ¬ mk p = 0 ∨ cn p = 0) : ∀ k : Nat, wk tn mk cn tg k p = decide (mk p = 1)
  | 0 => rfl
  | k + 1 => by
    rw [wk_s, wk_end he k, decide_eq_true he]
    simp
theorem rd_end {p : Int} (he : ¬ mk p = 0 ∨ cn p = 0) : rdk tn mk cn tg 20 p = if mk p = 1 then 0 else -5 := by
  by_cases c : mk p = 1
  · rw [if_pos c]
    have := (rd_wk (tn := tn) (mk := mk) (cn := cn) (tg := tg) (Nat.zero_le 20) p).mp (by rw [wk_end he]; exact decide_eq_true c)
    omega
  · rw [if_neg c]
    rcases rdk_in (tn := tn) (mk := mk) (cn := cn) (tg := tg) 20 p with ⟨a, b⟩ | ⟨a, b, d⟩
    · exact a
    · rw [wk_end he, decide_eq_true_iff] at d
      exact absurd d c
theorem wb_mono {s s' : Int → Bool} {p : Int} (hn : 0 ≤ cn p) (h : ∀ q, s q = true → s' q = true) (hw : wb tn cn tg s p = true) : wb tn cn tg s' p = true := by
  by_cases c : tn p = 0
  · obtain ⟨i, a, b⟩ := (wb_a c).mp hw
    exact (wb_a c).mpr ⟨i, a, h _ b⟩
  · exact (wb_d c hn).mpr (fun i hi => h _ ((wb_d c hn).mp hw i hi))
theorem wk_ne {p : Int} (hn : 0 ≤ cn p) (he : ¬ (¬ mk p = 0 ∨ cn p = 0)) : ∀ k : Nat, wk tn mk cn tg (k + 1) p = wb tn cn tg (wk tn mk cn tg k) p
  | 0 => by
    rw [wk_s, decide_eq_false he]
    have h0 : wk tn mk cn tg 0 p = false := by
      show decide (mk p = 1) = false
      exact decide_eq_false (by omega)
    rw [h0]
    simp
  | k + 1 => by
    rw [wk_s (k + 1), decide_eq_false he, wk_ne hn he k]
    cases e : wb tn cn tg (wk tn mk cn tg k) p
    · simp
    · rw [wb_mono hn (fun q hq => wk_mono hq) e]
      rfl
theorem rd_one {p : Int} (he : ¬ (¬ mk p = 0 ∨ cn p = 0)) (h : 0 ≤ rdk tn mk cn tg 20 p) : ∃ k : Nat, rdk tn mk cn tg 20 p = (k : Int) + 1 ∧ k + 1 ≤ 20 := by
  have h1 := rd_20 (tn := tn) (mk := mk) (cn := cn) (tg := tg) p
  have h2 : ¬ rdk tn mk cn tg 20 p = 0 := fun q => by
    have := (rd_wk (tn := tn) (mk := mk) (cn := cn) (tg := tg) (Nat.zero_le 20) p).mpr ⟨by omega, by omega⟩
    have h3 : decide (mk p = 1) = true := this
    rw [decide_eq_true_iff] at h3
    omega
  exact ⟨(rdk tn mk cn tg 20 p - 1).toNat, by omega, by omega⟩
theorem wk_le {k : Nat} (ht : ∀ p (i : Nat), 0 ≤ p → p < 20 → i < (cn p).toNat → 0 ≤ tg p i ∧ tg p i < 20) {p : Int} (p0 : 0 ≤ p) (p1 : p < 20) (hk : k ≤ 20) (h : wk tn mk cn tg (k + 1) p = true) : 0 ≤ rdk tn mk cn tg 20 p ∧ rdk tn mk cn tg 20 p ≤ (k : Int) + 1 := by
  by_cases c : k = 20
  · subst c
    rw [wk_20 ht p0 p1] at h
    have := (rd_wk (Nat.le_refl 20) p).mp h
    omega
  · have := (rd_wk (k := k + 1) (by omega) p).mp h
    omega
theorem rd_A {p : Int} (ht : ∀ p (i : Nat), 0 ≤ p → p < 20 → i < (cn p).toNat → 0 ≤ tg p i ∧ tg p i < 20) (hn : 0 ≤ cn p) (p0 : 0 ≤ p) (p1 : p < 20) (he : ¬ (¬ mk p = 0 ∨ cn p = 0)) (h0 : tn p = 0) : (0 ≤ rdk tn mk cn tg 20 p → ∃ i : Nat, i < (cn p).toNat ∧ 0 ≤ rdk tn mk cn tg 20 (tg p i) ∧ rdk tn mk cn tg 20 (tg p i) + 1 ≤ rdk tn mk cn tg 20 p) ∧ ∀ i : Nat, i < (cn p).toNat → 0 ≤ rdk tn mk cn tg 20 (tg p i) → 0 ≤ rdk tn mk cn tg 20 p ∧ rdk tn mk cn tg 20 p ≤ rdk tn mk cn tg 20 (tg p i) + 1 := by
  refine ⟨fun h => ?_, fun i hi h => ?_⟩
  · obtain ⟨k, e, hk⟩ := rd_one he h
    have h1 := (rd_wk (tn := tn) (mk := mk) (cn := cn) (tg := tg) (k := k + 1) hk p).mpr ⟨h, by omega⟩
    rw [wk_ne hn he] at h1
    obtain ⟨i, a, b⟩ := (wb_a h0).mp h1
    have h2 := (rd_wk (tn := tn) (mk := mk) (cn := cn) (tg := tg) (k := k) (by omega) (tg p i)).mp b
    exact ⟨i, a, h2.1, by omega⟩
  · have h1 := rd_20 (tn := tn) (mk := mk) (cn := cn) (tg := tg) (tg p i)
    obtain ⟨k, e⟩ : ∃ k : Nat, rdk tn mk cn tg 20 (tg p i) = (k : Int) := ⟨(rdk tn mk cn tg 20 (tg p i)).toNat, by omega⟩
    have h2 := (rd_wk (tn := tn) (mk := mk) (cn := cn) (tg := tg) (k := k) (by omega) (tg p i)).mpr ⟨h, by omega⟩
    have h3 : wk tn mk cn tg (k + 1) p = true := by
      rw [wk_ne hn he]
      exact (wb_a h0).mpr ⟨i, hi, h2⟩
    rw [e]
    exact wk_le ht p0 p1 (by omega) h3
theorem rd_D {p : Int} (ht : ∀ p (i : Nat), 0 ≤ p → p < 20 → i < (cn p).toNat → 0 ≤ tg p i ∧ tg p i < 20) (hn : 0 ≤ cn p) (p0 : 0 ≤ p) (p1 : p < 20) (he : ¬ (¬ mk p = 0 ∨ cn p = 0)) (h0 : ¬ tn p = 0) : (0 ≤ rdk tn mk cn tg 20 p → ∀ i : Nat, i < (cn p).toNat → 0 ≤ rdk tn mk cn tg 20 (tg p i) ∧ rdk tn mk cn tg 20 (tg p i) + 1 ≤ rdk tn mk cn tg 20 p) ∧ ∀ k : Nat, k ≤ 20 → (∀ i : Nat, i < (cn p).toNat → 0 ≤ rdk tn mk cn tg 20 (tg p i) ∧ rdk tn mk cn tg 20 (tg p i) ≤ k) → 0 ≤ rdk tn mk cn tg 20 p ∧ rdk tn mk cn tg 20 p ≤ (k : Int) + 1 := by
  refine ⟨fun h i hi => ?_, fun k hk h => ?_⟩
  · obtain ⟨k, e, hk⟩ := rd_one he h
    have h1 := (rd_wk (tn := tn) (mk := mk) (cn := cn) (tg := tg) (k := k + 1) hk p).mpr ⟨h, by omega⟩
    rw [wk_ne hn he] at h1
    have h2 := (rd_wk (tn := tn) (mk := mk) (cn := cn) (tg := tg) (k := k) (by omega) (tg p i)).mp ((wb_d h0 hn).mp h1 i hi)
    exact ⟨h2.1, by omega⟩
  · have h3 : wk tn mk cn tg (k + 1) p = true := by
      rw [wk_ne hn he]
      exact (wb_d h0 hn).mpr (fun i hi => (rd_wk (k := k) hk (tg p i)).mpr (h i hi))
    exact wk_le ht p0 p1 hk h3
end RF
/-! the same of the array and the moves -/
abbrev rdR (F : Int → Int) (L : List (Int × Int)) (p : Int) : Int := rdL F L 20 p
theorem tgL_ok {L : List (Int × Int)} (hL : okL L) : ∀ p (i : Nat), 0 ≤ p → p < 20 → i < (cnL L p).toNat → 0 ≤ tgL L p i ∧ tgL L p i < 20 := fun p i _ _ hi => tgL_in hL p i hi
theorem enF_iff {F : Int → Int} {L : List (Int × Int)} {p : Int} : enF F L p ↔ (¬ mkF F p = 0 ∨ cnL L p = 0) := by
  show (¬ F (3 + 5 * p + 1) = 0 ∨ (outs L p).length = 0) ↔ (¬ F (3 + 5 * p + 1) = 0 ∨ ((outs L p).length : Int) = 0)
  omega
theorem rR_in (F : Int → Int) (L : List (Int × Int)) (p : Int) : rdR F L p = -5 ∨ (0 ≤ rdR F L p ∧ rdR F L p ≤ 20) := rd_20 p
theorem rR_end {F : Int → Int} {L : List (Int × Int)} {p : Int} (h : enF F L p) : rdR F L p = if F (3 + 5 * p + 1) = 1 then 0 else -5 := rd_end (enF_iff.mp h)
theorem rR_A {F : Int → Int} {L : List (Int × Int)} (hL : okL L) {p : Int} (p0 : 0 ≤ p) (p1 : p < 20) (he : ¬ enF F L p) (h0 : F (3 + 5 * p + 0) = 0) : (0 ≤ rdR F L p → ∃ i : Nat, i < (outs L p).length ∧ 0 ≤ rdR F L ((outs L p).getD i 0) ∧ rdR F L ((outs L p).getD i 0) + 1 ≤ rdR F L p) ∧ ∀ i : Nat, i < (outs L p).length → 0 ≤ rdR F L ((outs L p).getD i 0) → 0 ≤ rdR F L p ∧ rdR F L p ≤ rdR F L ((outs L p).getD i 0) + 1 := by
  have h := rd_A (tn := tnF F) (mk := mkF F) (cn := cnL L) (tg := tgL L) (p := p) (tgL_ok hL) (Int.natCast_nonneg _) p0 p1 (fun q => he (enF_iff.mpr q)) h0
  rw [show (cnL L p).toNat = (outs L p).length from Int.toNat_natCast _] at h
  exact h
theorem rR_D {F : Int → Int} {L : List (Int × Int)} (hL : okL L) {p : Int} (p0 : 0 ≤ p) (p1 : p < 20) (he : ¬ enF F L p) (h0 : ¬ F (3 + 5 * p + 0) = 0) : (0 ≤ rdR F L p → ∀ i : Nat, i < (outs L p).length → 0 ≤ rdR F L ((outs L p).getD i 0) ∧ rdR F L ((outs L p).getD i 0) + 1 ≤ rdR F L p) ∧ ∀ k : Nat, k ≤ 20 → (∀ i : Nat, i < (outs L p).length → 0 ≤ rdR F L ((outs L p).getD i 0) ∧ rdR F L ((outs L p).getD i 0) ≤ k) → 0 ≤ rdR F L p ∧ rdR F L p ≤ (k : Int) + 1 := by
  have h := rd_D (tn := tnF F) (mk := mkF F) (cn := cnL L) (tg := tgL L) (p := p) (tgL_ok hL) (Int.natCast_nonneg _) p0 p1 (fun q => he (enF_iff.mpr q)) h0
  rw [show (cnL L p).toNat = (outs L p).length from Int.toNat_natCast _] at h
  exact h
end
section
/-! WHAT A PROVED OR DISPROVED ROOT SAYS OF THE ROUNDS -/
/-- where a leaf's costs come from; whose children the children are -/
def WGl (F : Int → Int) (L : List (Int × Int)) (n : Int) : Prop := F (223 + 7 * n + 4) = 0 → (F (223 + 7 * n + 2) = 0 → enF F L (F (223 + 7 * n + 0)) ∧ F (3 + 5 * F (223 + 7 * n + 0) + 1) = 1) ∧ (F (223 + 7 * n + 3) = 0 → (enF F L (F (223 + 7 * n + 0)) ∧ ¬ F (3 + 5 * F (223 + 7 * n + 0) + 1) = 1) ∨ ow (nF F 0) (nF F 1) (F (223 + 7 * n + 0)) 200 (F (223 + 7 * n + 1)) = true) ∧ (¬ F (223 + 7 * n + 2) = 0 → ¬ F (223 + 7 * n + 3) = 0 → ¬ enF F L (F (223 + 7 * n + 0)))
def WGi (F : Int → Int) (L : List (Int × Int)) (n : Int) : Prop := 0 < F (223 + 7 * n + 4) → ¬ enF F L (F (223 + 7 * n + 0)) ∧ F (223 + 7 * n + 4) = ((outs L (F (223 + 7 * n + 0))).length : Int) ∧ ∀ i : Nat, (i : Int) < F (223 + 7 * n + 4) → F (223 + 7 * (F (223 + 7 * n + 5) + i) + 0) = (outs L (F (223 + 7 * n + 0))).getD i 0
def WG (F : Int → Int) (L : List (Int × Int)) : Prop := ∀ n, 0 ≤ n → n < F 1 → WGl F L n ∧ WGi F L n
theorem WG.clr {F : Int → Int} {L : List (Int × Int)} (h : F 1 = 0) : WG F L := fun n a b => by omega
theorem mn_0 {c : Int → Int} {lo : Int} : ∀ {k : Nat}, mn c lo k = 0 → ∃ i : Nat, i < k ∧ c (lo + i) = 0
  | 0, h => absurd h (by show ¬ (9999 : Int) = 0; omega)
  | k + 1, h => by
    have h1 : min (mn c lo k) (c (lo + k)) = 0 := h
    by_cases e : c (lo + k) = 0
    · exact ⟨k, by omega, e⟩
    · obtain ⟨i, a, b⟩ := mn_0 (c := c) (lo := lo) (k := k) (by omega)
      exact ⟨i, by omega, b⟩
theorem sm_0 {c : Int → Int} {lo : Int} : ∀ {k : Nat}, (∀ i : Nat, i < k → 0 ≤ c (lo + i) ∧ c (lo + i) ≤ 9999) → sm c lo k = 0 → ∀ i : Nat, i < k → c (lo + i) = 0
  | 0, _, _, i, hi => absurd hi (Nat.not_lt_zero _)
  | k + 1, h, h0, i, hi => by
    have h1 : min 9999 (sm c lo k + c (lo + k)) = 0 := h0
    have h2 := sm_in (c := c) (lo := lo) (k := k) (fun j hj => h j (by omega))
    have h3 := h k (by omega)
    by_cases e : i = k
    · subst e; omega
    · exact sm_0 (c := c) (lo := lo) (k := k) (fun j hj => h j (by omega)) (by omega) i (by omega)
section SND
variable {F : Int → Int} {L : List (Int × Int)}
/-- a proved node's position is won -/
theorem WG.pr (g : WG F L) (h : WF F L) : ∀ (k : Nat) (n : Int), 0 ≤ n → n < F 1 → F 1 - n ≤ k → F (223 + 7 * n + 2) = 0 → 0 ≤ rdR F L (F (223 + 7 * n + 0)) := by
  have hR := h.2.2.1
  intro k
  induction k with
  | zero => intro n h0 h1 h2; omega
  | succ k ih =>
    intro n h0 h1 hk hp
    have hcn := okC_at hR.2.2.2.1 h0 h1
    have gn := g n h0 h1
    by_cases ec : F (223 + 7 * n + 4) = 0
    · have g1 := (gn.1 ec).1 hp
      rw [rR_end g1.1, if_pos g1.2]
      exact Int.le_refl _
    · obtain ⟨g1, g2, g3⟩ := gn.2 (by omega)
      have hco := h.2.2.2.2.2.2.1 n h0 h1 (by omega)
      have hch : ∀ i : Nat, (i : Int) < F (223 + 7 * n + 4) → F (223 + 7 * (F (223 + 7 * n + 5) + i) + 2) = 0 → 0 ≤ rdR F L ((outs L (F (223 + 7 * n + 0))).getD i 0) := fun i hi hz => by
        have := ih (F (223 + 7 * n + 5) + i) (by omega) (by omega) (by omega) hz
        rw [g3 i hi] at this
        exact this
      have hin : ∀ i : Nat, i < (F (223 + 7 * n + 4)).toNat → 0 ≤ nF F 2 (F (223 + 7 * n + 5) + i) ∧ nF F 2 (F (223 + 7 * n + 5) + i) ≤ 9999 := fun i hi => by
        have := okX_at hR.2.2.2.2 (n := F (223 + 7 * n + 5) + i) (by omega) (by have := hR.2.2.1; omega)
        exact ⟨this.1, this.2.1⟩
      by_cases et : tuF F n = 0
      · rw [if_pos et, hp] at hco
        obtain ⟨i, a, b⟩ := mn_0 hco.1.symm
        have := hch i (by omega) b
        exact ((rR_A h.1 hcn.1 hcn.2.1 g1 et).2 i (by omega) this).1
      · rw [if_neg et, hp] at hco
        have hz := sm_0 hin hco.1.symm
        refine ((rR_D h.1 hcn.1 hcn.2.1 g1 et).2 20 (Nat.le_refl _) (fun i hi => ?_)).1
        have h5 := hch i (by omega) (hz i (by omega))
        have h6 := rR_in F L ((outs L (F (223 + 7 * n + 0))).getD i 0)
        exact ⟨h5, by omega⟩
/-- a disproved node's position is not won, if all above it were won later -/
theorem WG.dp (g : WG F L) (h : WF F L) : ∀ (k : Nat) (n : Int), 0 ≤ n → n < F 1 → F 1 - n ≤ k → F (223 + 7 * n + 3) = 0 → 0 ≤ rdR F L (F (223 + 7 * n + 0)) → (∀ (p : Int) (j : Nat), ow (nF F 0) (nF F 1) p j (F (223 + 7 * n + 1)) = true → rdR F L (F (223 + 7 * n + 0)) < rdR F L p) → False := by
  have hR := h.2.2.1
  intro k
  induction k with
  | zero => intro n h0 h1 h2; omega
  | succ k ih =>
    intro n h0 h1 hk hp hw hab
    have hcn := okC_at hR.2.2.2.1 h0 h1
    have gn := g n h0 h1
    by_cases ec : F (223 + 7 * n + 4) = 0
    · rcases (gn.1 ec).2.1 hp with g1 | g1
      · rw [rR_end g1.1, if_neg g1.2] at hw
        omega
      · exact absurd (hab _ _ g1) (Int.lt_irrefl _)
    · obtain ⟨g1, g2, g3⟩ := gn.2 (by omega)
      have hco := h.2.2.2.2.2.2.1 n h0 h1 (by omega)
      have hch : ∀ i : Nat, (i : Int) < F (223 + 7 * n + 4) → F (223 + 7 * (F (223 + 7 * n + 5) + i) + 3) = 0 → 0 ≤ rdR F L ((outs L (F (223 + 7 * n + 0))).getD i 0) → rdR F L ((outs L (F (223 + 7 * n + 0))).getD i 0) + 1 ≤ rdR F L (F (223 + 7 * n + 0)) → False := fun i hi hz h2 h3 => by
        have hpa : F (223 + 7 * (F (223 + 7 * n + 5) + i) + 1) = n := h.2.2.2.2.1 n (F (223 + 7 * n + 5) + i) h0 h1 (by omega) (by omega)
        refine ih (F (223 + 7 * n + 5) + i) (by omega) (by omega) (by omega) hz (by rw [g3 i hi]; exact h2) (fun p j hj => ?_)
        rw [hpa] at hj
        rw [g3 i hi]
        cases j with
        | zero => cases hj
        | succ j =>
          rw [ow_s, Bool.and_eq_true, Bool.or_eq_true, decide_eq_true_iff, decide_eq_true_iff] at hj
          rcases hj.2 with e | e
          · have e' : F (223 + 7 * n + 0) = p := e
            rw [← e']
            omega
          · have := hab p j e
            omega
      have hin : ∀ i : Nat, i < (F (223 + 7 * n + 4)).toNat → 0 ≤ nF F 3 (F (223 + 7 * n + 5) + i) ∧ nF F 3 (F (223 + 7 * n + 5) + i) ≤ 9999 := fun i hi => by
        have := okX_at hR.2.2.2.2 (n := F (223 + 7 * n + 5) + i) (by omega) (by have := hR.2.2.1; omega)
        exact ⟨this.2.2.1, this.2.2.2⟩
      by_cases et : tuF F n = 0
      · rw [if_pos et, if_pos et, hp] at hco
        have hz := sm_0 hin hco.2.symm
        obtain ⟨i, a, b, c⟩ := (rR_A h.1 hcn.1 hcn.2.1 g1 et).1 hw
        exact hch i (by omega) (hz i (by omega)) b c
      · rw [if_neg et, if_neg et, hp] at hco
        obtain ⟨i, a, b⟩ := mn_0 hco.2.symm
        have h5 := (rR_D h.1 hcn.1 hcn.2.1 g1 et).1 hw i (by omega)
        exact hch i (by omega) b h5.1 h5.2
theorem WG.root (g : WG F L) (h : WF F L) (h0 : 0 < F 1) : (F 225 = 0 → 0 ≤ rdR F L (F 223)) ∧ (F 226 = 0 → rdR F L (F 223) = -5) := by
  refine ⟨fun q => g.pr h (F 1).toNat 0 (Int.le_refl _) h0 (by omega) q, fun q => ?_⟩
  rcases rR_in F L (F 223) with e | e
  · exact e
  · refine (g.dp h (F 1).toNat 0 (Int.le_refl _) h0 (by omega) q e.1 (fun p j hj => ?_)).elim
    have e1 : F (223 + 7 * 0 + 1) = -5 := (okP_at h.2.2.2.1 (n := 0) (Int.le_refl _) h0).2.2.1 rfl
    rw [e1, ow_neg (by omega)] at hj
    cases hj
end SND
/-- one opening keeps it -/
theorem lc_what {e w o : Prop} [Decidable e] [Decidable w] [Decidable o] {a b : Int} (ha : 1 ≤ a) (hb : 1 ≤ b) : (lcP e w o a = 0 → e ∧ w) ∧ (lcD e w o b = 0 → (e ∧ ¬ w) ∨ o) ∧ (¬ lcP e w o a = 0 → ¬ lcD e w o b = 0 → ¬ e) := by
  unfold lcP lcD
  by_cases c : e
  · rw [if_pos c, if_pos c]
    by_cases d : w
    · rw [if_pos d, if_pos d]
      exact ⟨fun _ => ⟨c, d⟩, fun q => by omega, fun q => absurd rfl q⟩
    · rw [if_neg d, if_neg d]
      exact ⟨fun q => by omega, fun _ => Or.inl ⟨c, d⟩, fun _ q => absurd rfl q⟩
  · rw [if_neg c, if_neg c]
    by_cases d : o
    · rw [if_pos d, if_pos d]
      exact ⟨fun q => by omega, fun _ => Or.inr d, fun _ _ => c⟩
    · rw [if_neg d, if_neg d]
      exact ⟨fun q => by omega, fun q => by omega, fun _ _ => c⟩
theorem WG.op {F : Int → Int} {L : List (Int × Int)} (h : WF F L) (g : WG F L) (h0 : 0 < F 1) (hg : goF F L) : WG (opF F L) L := by
  have hu : ¬ (F 225 = 0 ∨ F 226 = 0) := fun q => hg (Or.inl q)
  have hroom : F 1 + cF F L ≤ 200 := by
    have : ¬ 200 < F 1 + cF F L := fun q => hg (Or.inr q)
    omega
  obtain ⟨w0, w1, w4, c0⟩ := h.leaf h0 hu
  have hwy := h.way 200 0 (Int.le_refl _) h0 (fun q => hu (Or.inl q)) (fun q => hu (Or.inr q))
  have hwn : ¬ enF F L (F (223 + 7 * wF F + 0)) := ((g (wF F) w0 w1).1 w4).2.2 hwy.2.2.1 hwy.2.2.2.1
  have hop1 := op_1 h h0 hg
  obtain ⟨hL, hF, hR, hP, hB, hE, hC, hl, h2⟩ := h
  obtain ⟨hQ, hs0, hs1, hc, hX⟩ := hR
  have htg : ∀ i : Nat, (i : Int) < cF F L → 0 ≤ (outs L (F (223 + 7 * wF F + 0))).getD i 0 ∧ (outs L (F (223 + 7 * wF F + 0))).getD i 0 < 20 := fun i hi => by
    have := hL.2 _ (mem_outs.mp (getD_mem (l := outs L (F (223 + 7 * wF F + 0))) (r := i) (by have q : (i : Int) < ((outs L (F (223 + 7 * wF F + 0))).length : Int) := hi; omega)))
    exact ⟨this.2.2.1, this.2.2.2⟩
  have hwp := okC_at hc w0 w1
  have hcf : cF F L = ((outs L (F (223 + 7 * wF F + 0))).length : Int) := rfl
  unfold opF at hop1 ⊢
  generalize hw : wF F = w at *
  generalize hcn : cF F L = cn at *
  have bo : ∀ x k, 0 ≤ x → x < F 1 → 0 ≤ k → k < 7 → baF F L w cn (223 + 7 * x + k) = if x = w ∧ k = 5 then F 1 else if x = w ∧ k = 4 then cn else F (223 + 7 * x + k) := fun x k a b c d => ba_old a b c d
  have bn : ∀ x k, F 1 ≤ x → x < F 1 + cn → 0 ≤ k → k < 7 → baF F L w cn (223 + 7 * x + k) = nlF F L w ((outs L (F (223 + 7 * w + 0))).getD (x - F 1).toNat 0) k := fun x k a b c d => ba_new w1 hs0 a b c d
  have bl : ∀ j, j < 223 → ¬ j = 1 → baF F L w cn j = F j := fun j a b => ba_low w0 hs0 a b
  have b1 : baF F L w cn 1 = F 1 + cn := if_pos rfl
  have bh : ∀ j, 223 + 7 * (F 1 + cn) ≤ j → baF F L w cn j = F j := fun j a => ba_high w1 hs0 (by omega) a
  generalize baF F L w cn = B at *
  have bw4 : B (223 + 7 * w + 4) = cn := by rw [bo w 4 w0 w1 (by omega) (by omega), if_neg (by omega), if_pos ⟨rfl, rfl⟩]
  have bw5 : B (223 + 7 * w + 5) = F 1 := by rw [bo w 5 w0 w1 (by omega) (by omega), if_pos ⟨rfl, rfl⟩]
  have bo' : ∀ x k, 0 ≤ x → x < F 1 → 0 ≤ k → k < 7 → (¬ x = w ∨ (¬ k = 4 ∧ ¬ k = 5)) → B (223 + 7 * x + k) = F (223 + 7 * x + k) := fun x k a b c d e => by rw [bo x k a b c d, if_neg (by omega), if_neg (by omega)]
  have bn0 : ∀ x, F 1 ≤ x → x < F 1 + cn → B (223 + 7 * x + 0) = (outs L (F (223 + 7 * w + 0))).getD (x - F 1).toNat 0 := fun x a b => bn x 0 a b (by omega) (by omega)
  have bn1 : ∀ x, F 1 ≤ x → x < F 1 + cn → B (223 + 7 * x + 1) = w := fun x a b => bn x 1 a b (by omega) (by omega)
  have bn4 : ∀ x, F 1 ≤ x → x < F 1 + cn → B (223 + 7 * x + 4) = 0 := fun x a b => bn x 4 a b (by omega) (by omega)
  have bn5 : ∀ x, F 1 ≤ x → x < F 1 + cn → B (223 + 7 * x + 5) = -5 := fun x a b => bn x 5 a b (by omega) (by omega)
  have hpw : ∀ x, 0 < x → x < F 1 → ¬ F (223 + 7 * x + 1) = w := fun x a b q => by
    have := hE x a b
    rw [q] at this
    omega
  have hSK : SK B (F 1 + cn) := by
    refine ⟨by omega, hroom, fun x x0 x1 => ?_, fun x j x0 x1 => ?_⟩
    · by_cases ex : x < F 1
      · have hcx := okC_at hc x0 ex
        have hpx := okP_at hP x0 ex
        rw [bo' x 0 x0 ex (by omega) (by omega) (by omega), bo' x 1 x0 ex (by omega) (by omega) (by omega)]
        have h5 : 0 < x → 0 ≤ F (223 + 7 * x + 1) ∧ F (223 + 7 * x + 1) < x ∧ 0 < B (223 + 7 * F (223 + 7 * x + 1) + 4) := fun q => by
          have h6 := hpx.2.2.2 q
          have h7 := hE x q ex
          have h8 := hpw x q ex
          rw [bo' _ 4 h6.1 (by omega) (by omega) (by omega) (by omega)]
          omega
        by_cases exw : x = w
        · subst exw
          rw [bw4, bw5]
          exact ⟨hcx.1, hcx.2.1, by omega, by omega, fun _ => by omega, by omega, hpx.2.2.1, h5⟩
        · rw [bo' x 4 x0 ex (by omega) (by omega) (by omega), bo' x 5 x0 ex (by omega) (by omega) (by omega)]
          exact ⟨hcx.1, hcx.2.1, by omega, by omega, by omega, by omega, hpx.2.2.1, h5⟩
      · have := htg (x - F 1).toNat (by omega)
        rw [bn0 x (by omega) x1, bn1 x (by omega) x1, bn4 x (by omega) x1, bn5 x (by omega) x1, bw4]
        omega
    · by_cases ex : x < F 1
      · have hcx := okC_at hc x0 ex
        by_cases exw : x = w
        · subst exw
          rw [bw4, bw5]
          exact fun a b => bn1 j a b
        · rw [bo' x 4 x0 ex (by omega) (by omega) (by omega), bo' x 5 x0 ex (by omega) (by omega) (by omega)]
          intro a b
          rw [bo' j 1 (by omega) (by omega) (by omega) (by omega) (by omega)]
          exact hB x j x0 ex a b
      · rw [bn4 x (by omega) x1, bn5 x (by omega) x1]
        intro a b
        omega
  have hXB : okX (nF B 2) (nF B 3) := by
    intro x x0 x1
    show 0 ≤ B (223 + 7 * x + 2) ∧ B (223 + 7 * x + 2) ≤ 9999 ∧ 0 ≤ B (223 + 7 * x + 3) ∧ B (223 + 7 * x + 3) ≤ 9999
    by_cases ex : x < F 1
    · rw [bo' x 2 x0 ex (by omega) (by omega) (by omega), bo' x 3 x0 ex (by omega) (by omega) (by omega)]
      exact okX_at hX x0 x1
    · by_cases ey : x < F 1 + cn
      · have ht := htg (x - F 1).toNat (by omega)
        rw [bn x 2 (by omega) ey (by omega) (by omega), bn x 3 (by omega) ey (by omega) (by omega)]
        exact (nl_in hQ ht.1 ht.2).1
      · rw [bh _ (by omega), bh _ (by omega)]
        exact okX_at hX x0 x1
  obtain ⟨a1, a2, a3⟩ := wuF_all 200 w B hSK (Or.inr ⟨w0, by omega, by rw [bw4]; exact c0⟩) hXB
  have ak : ∀ x k, (¬ k = 2 ∧ ¬ k = 3 ∧ 0 ≤ k ∧ k < 7) → wuF 200 w B (223 + 7 * x + k) = B (223 + 7 * x + k) := fun x k hk => wuF_k 200 w B hk
  have al : ∀ j, j < 225 → wuF 200 w B j = B j := fun j hj => wuF_l 200 w B hj
  generalize wuF 200 w B = A at *
  have fA : ∀ x k, 0 ≤ x → 0 ≤ k → k < 7 → (fun j => if j = 2 then F 2 + 1 else A j) (223 + 7 * x + k) = A (223 + 7 * x + k) := fun x k a b c => if_neg (by omega)
  have fl : ∀ j, j < 223 → ¬ j = 1 → ¬ j = 2 → (fun j => if j = 2 then F 2 + 1 else A j) j = F j := fun j a b c => by
    show (if j = 2 then F 2 + 1 else A j) = F j
    rw [if_neg c, al j (by omega), bl j a b]
  have f1 : (fun j => if j = 2 then F 2 + 1 else A j) 1 = F 1 + cn := hop1
  generalize (fun j => if j = 2 then F 2 + 1 else A j) = F' at *
  have fk : ∀ x k, 0 ≤ x → (¬ k = 2 ∧ ¬ k = 3 ∧ 0 ≤ k ∧ k < 7) → F' (223 + 7 * x + k) = B (223 + 7 * x + k) := fun x k a b => by rw [fA x k a (by omega) (by omega), ak x k b]
  have hq3 : ∀ p k : Int, 0 ≤ p → p < 20 → 0 ≤ k → k < 5 → F' (3 + 5 * p + k) = F (3 + 5 * p + k) := fun p k a b c d => fl _ (by omega) (by omega) (by omega)
  have flf : ∀ x, 0 ≤ x → B (223 + 7 * x + 4) = 0 → F' (223 + 7 * x + 2) = B (223 + 7 * x + 2) ∧ F' (223 + 7 * x + 3) = B (223 + 7 * x + 3) := fun x a b => by
    rw [fA x 2 a (by omega) (by omega), fA x 3 a (by omega) (by omega)]
    exact a2 x b
  have hen : ∀ p, 0 ≤ p → p < 20 → (enF F' L p ↔ enF F L p) := fun p a b => by
    show (¬ F' (3 + 5 * p + 1) = 0 ∨ (outs L p).length = 0) ↔ _
    rw [hq3 p 1 a b (by omega) (by omega)]
  have hpos : ∀ x, 0 ≤ x → x < F 1 → F' (223 + 7 * x + 0) = F (223 + 7 * x + 0) := fun x a b => by rw [fk x 0 a (by omega), bo' x 0 a b (by omega) (by omega) (by omega)]
  have hpar : ∀ x, 0 ≤ x → x < F 1 → F' (223 + 7 * x + 1) = F (223 + 7 * x + 1) := fun x a b => by rw [fk x 1 a (by omega), bo' x 1 a b (by omega) (by omega) (by omega)]
  have how : ∀ (p : Int) (k : Nat) (x : Int), x < F 1 → ow (nF F' 0) (nF F' 1) p k x = ow (nF F 0) (nF F 1) p k x := fun p k x hx => ow_congr k x (fun m m0 m1 => by
    have hpm := okP_at hP m0 (by omega)
    refine ⟨hpos m m0 (by omega), hpar m m0 (by omega), ?_⟩
    show F (223 + 7 * m + 1) < m
    by_cases e : m = 0
    · rw [hpm.2.2.1 e]; omega
    · exact (hpm.2.2.2 (by omega)).2)
  intro x x0 x1
  rw [f1] at x1
  constructor
  · -- a leaf
    intro h4
    rw [fk x 4 x0 (by omega)] at h4
    have hcost := flf x x0 h4
    rw [hcost.1, hcost.2]
    by_cases ex : x < F 1
    · have exw : ¬ x = w := fun q => by subst q; omega
      have hcx := okC_at hc x0 ex
      have hpx := okP_at hP x0 ex
      have hp1 : F (223 + 7 * x + 1) < F 1 := by
        by_cases e : x = 0
        · rw [hpx.2.2.1 e]; omega
        · have := (hpx.2.2.2 (by omega)).2; omega
      rw [bo' x 4 x0 ex (by omega) (by omega) (by omega)] at h4
      have gx := (g x x0 ex).1 h4
      rw [hpos x x0 ex, hpar x x0 ex, how _ _ _ hp1, hen _ hcx.1 hcx.2.1, hq3 _ 1 hcx.1 hcx.2.1 (by omega) (by omega), bo' x 2 x0 ex (by omega) (by omega) (by omega), bo' x 3 x0 ex (by omega) (by omega) (by omega)]
      exact gx
    · have ht := htg (x - F 1).toNat (by omega)
      rw [fk x 0 x0 (by omega), fk x 1 x0 (by omega), bn0 x (by omega) x1, bn1 x (by omega) x1, bn x 2 (by omega) x1 (by omega) (by omega), bn x 3 (by omega) x1 (by omega) (by omega), how _ _ _ w1, hen _ ht.1 ht.2, hq3 _ 1 ht.1 ht.2 (by omega) (by omega)]
      have hqt := hQ _ ht.1 ht.2
      exact lc_what (by omega) (by omega)
  · intro h4
    rw [fk x 4 x0 (by omega)] at h4 ⊢
    by_cases ex : x < F 1
    · have hcx := okC_at hc x0 ex
      rw [hpos x x0 ex, fk x 5 x0 (by omega)]
      by_cases exw : x = w
      · subst exw
        rw [bw4, bw5]
        refine ⟨fun q => hwn ((hen _ hcx.1 hcx.2.1).mp q), hcf, fun i hi => ?_⟩
        rw [fk _ 0 (by omega) (by omega), bn0 _ (by omega) (by omega), show (F 1 + (i : Int) - F 1).toNat = i by omega]
      · rw [bo' x 4 x0 ex (by omega) (by omega) (by omega)] at h4 ⊢
        rw [bo' x 5 x0 ex (by omega) (by omega) (by omega)]
        obtain ⟨g1, g2, g3⟩ := (g x x0 ex).2 h4
        refine ⟨fun q => g1 ((hen _ hcx.1 hcx.2.1).mp q), g2, fun i hi => ?_⟩
        rw [hpos _ (by omega) (by omega)]
        exact g3 i hi
    · rw [bn4 x (by omega) x1] at h4
      exact absurd h4 (Int.lt_irrefl _)
end
section
/-! WHAT EACH CALL MAKES OF A STATE, as a function -/
abbrev SF : Type := (Int → Int) × List (Int × Int)
abbrev RS : Type := Int × Option SF
def upF (F : Int → Int) (p s a b : Int) : Int → Int := fun j => if j = 3 + 5 * p + s then a else if j = 3 + 5 * p + s + 1 then b else F j
/-- these moves, and no tree -/
def clF (F : Int → Int) (L : List (Int × Int)) : Int → Int := fun j => if j = 0 then (L.length : Int) else if j = 1 ∨ j = 2 then 0 else if j < 103 then F j else if j < 223 then (if (j - 103) % 2 = 0 then (L.getD ((j - 103) / 2).toNat (0, 0)).1 else (L.getD ((j - 103) / 2).toNat (0, 0)).2) else 0
/-- a tree that is a root -/
def bgF (F : Int → Int) (L : List (Int × Int)) (p : Int) : Int → Int := fun j => if j = 1 then 1 else if j = 2 then 0 else if j < 223 then F j else if j = 223 then p else if j = 224 then -5 else if j = 225 then lcP (enF F L p) (F (3 + 5 * p + 1) = 1) False (F (3 + 5 * p + 2)) else if j = 226 then lcD (enF F L p) (F (3 + 5 * p + 1) = 1) False (F (3 + 5 * p + 3)) else if j = 228 then -5 else 0
def fnd (x : Int × Int) : List (Int × Int) → Nat
  | [] => 0
  | y :: r => if y = x then 0 else fnd x r + 1
theorem fnd_ok {x : Int × Int} : ∀ {L : List (Int × Int)}, x ∈ L → fnd x L < L.length ∧ L.getD (fnd x L) (0, 0) = x
  | [], h => by cases h
  | y :: r, h => by
    unfold fnd
    by_cases e : y = x
    · rw [if_pos e]
      exact ⟨Nat.zero_lt_succ _, e⟩
    · rw [if_neg e]
      have h1 := fnd_ok (x := x) (L := r) (by
        rcases List.mem_cons.mp h with h | h
        · exact absurd h.symm e
        · exact h)
      exact ⟨Nat.succ_lt_succ h1.1, h1.2⟩
abbrev cutL (L : List (Int × Int)) (x : Int × Int) : List (Int × Int) := L.take (fnd x L) ++ L.drop (fnd x L + 1)
def sSet (F : Int → Int) (L : List (Int × Int)) (p a b : Int) : RS := if ¬ (0 ≤ p ∧ p ≤ 19) then (-1, none) else if ¬ ((0 ≤ a ∧ a ≤ 1) ∧ 0 ≤ b ∧ b ≤ 2) then (-2, none) else if F (3 + 5 * p + 0) = a ∧ F (3 + 5 * p + 1) = b then (-5, none) else (F (3 + 5 * p + 1), some (clF (upF F p 0 a b) L, L))
def sGue (F : Int → Int) (L : List (Int × Int)) (p a b : Int) : RS := if ¬ (0 ≤ p ∧ p ≤ 19) then (-1, none) else if ¬ ((1 ≤ a ∧ a ≤ 9) ∧ 1 ≤ b ∧ b ≤ 9) then (-2, none) else if F (3 + 5 * p + 2) = a ∧ F (3 + 5 * p + 3) = b then (-5, none) else (F (3 + 5 * p + 2), some (clF (upF F p 2 a b) L, L))
def sAdd (F : Int → Int) (L : List (Int × Int)) (p q : Int) : RS := if ¬ ((0 ≤ p ∧ p ≤ 19) ∧ 0 ≤ q ∧ q ≤ 19) then (-1, none) else if (p, q) ∈ L then (-5, none) else if L.length = 60 then (-3, none) else (((outs (L ++ [(p, q)]) p).length : Int), some (clF F (L ++ [(p, q)]), L ++ [(p, q)]))
def sRem (F : Int → Int) (L : List (Int × Int)) (p q : Int) : RS := if (p, q) ∈ L then (((outs (cutL L (p, q)) p).length : Int), some (clF F (cutL L (p, q)), cutL L (p, q))) else (-1, none)
def sBeg (F : Int → Int) (L : List (Int × Int)) (p : Int) : RS := if ¬ (0 ≤ p ∧ p ≤ 19) then (-1, none) else (lcP (enF F L p) (F (3 + 5 * p + 1) = 1) False (F (3 + 5 * p + 2)), some (bgF F L p, L))
def sOpe (F : Int → Int) (L : List (Int × Int)) (r : Int) : RS := if ¬ (1 ≤ r ∧ r ≤ 100) then (-2, none) else if F 1 = 0 then (-4, none) else if ¬ goF F L then (-5, none) else ((opL L r.toNat F).2, some ((opL L r.toNat F).1, L))
def sRes (q : SF) : RS := (q.1 0, some q)
/-- a call that changes nothing tells an error; one that does leaves a state that is right -/
def GS (r : RS) : Prop := (r.2 = none ∧ r.1 < 0) ∨ ∃ q : SF, r.2 = some q ∧ 0 ≤ r.1 ∧ WF q.1 q.2 ∧ WG q.1 q.2
section STP
variable {F : Int → Int} {L : List (Int × Int)}
theorem clF_1 : clF F L 1 = 0 := by
  unfold clF
  rw [if_neg (by omega), if_pos (by omega)]
theorem clF_q {j : Int} (h0 : 3 ≤ j) (h1 : j < 103) : clF F L j = F j := by
  unfold clF
  rw [if_neg (by omega), if_neg (by omega), if_pos h1]
theorem clF_ML (h : L.length ≤ 60) : ML (clF F L) L := by
  refine ⟨?_, h, fun k hk => ⟨?_, ?_⟩⟩
  · unfold clF
    exact if_pos rfl
  · unfold clF
    rw [if_neg (by omega), if_neg (by omega), if_neg (by omega), if_pos (by omega), if_pos (by omega), show ((103 + 2 * (k : Int) - 103) / 2).toNat = k by omega]
  · unfold clF
    rw [if_neg (by omega), if_neg (by omega), if_neg (by omega), if_pos (by omega), if_neg (by omega), show ((103 + 2 * (k : Int) + 1 - 103) / 2).toNat = k by omega]
theorem WF.cl (hL : okL L) (h : L.length ≤ 60) (hQ : okQ F) : WF (clF F L) L ∧ WG (clF F L) L := by
  refine ⟨WF.clr hL (clF_ML h) (fun p p0 p1 => ?_) clF_1 ?_ (fun j a b => ?_), WG.clr clF_1⟩
  · have := hQ p p0 p1
    rw [clF_q (by omega) (by omega), clF_q (by omega) (by omega), clF_q (by omega) (by omega), clF_q (by omega) (by omega)]
    exact this
  · unfold clF
    rw [if_neg (by omega), if_pos (by omega)]
  · unfold clF
    rw [if_neg (by omega), if_neg (by omega), if_neg (by omega), if_neg (by omega)]
theorem upF_v {p s a b u w : Int} (w0 : 0 ≤ w) (w1 : w < 5) (s0 : 0 ≤ s) (s1 : s < 4) : upF F p s a b (3 + 5 * u + w) = if u = p ∧ w = s then a else if u = p ∧ w = s + 1 then b else F (3 + 5 * u + w) := by
  unfold upF
  by_cases c : u = p ∧ w = s
  · rw [if_pos (by omega), if_pos c]
  · rw [if_neg (by omega), if_neg c]
    by_cases d : u = p ∧ w = s + 1
    · rw [if_pos (by omega), if_pos d]
    · rw [if_neg (by omega), if_neg d]
theorem gs_set (h : WF F L) (p a b : Int) : GS (sSet F L p a b) := by
  unfold sSet
  by_cases c1 : 0 ≤ p ∧ p ≤ 19
  · rw [if_neg (fun q => q c1)]
    by_cases c2 : (0 ≤ a ∧ a ≤ 1) ∧ 0 ≤ b ∧ b ≤ 2
    · rw [if_neg (fun q => q c2)]
      by_cases c3 : F (3 + 5 * p + 0) = a ∧ F (3 + 5 * p + 1) = b
      · rw [if_pos c3]; exact Or.inl ⟨rfl, by show (-5 : Int) < 0; omega⟩
      · rw [if_neg c3]
        have hQ := h.2.2.1.1
        refine Or.inr ⟨_, rfl, (hQ p c1.1 (by omega)).2.2.1, WF.cl h.1 h.2.1.2.1 (fun u u0 u1 => ?_)⟩
        have := hQ u u0 u1
        rw [upF_v (by omega) (by omega) (by omega) (by omega), upF_v (by omega) (by omega) (by omega) (by omega), upF_v (by omega) (by omega) (by omega) (by omega), upF_v (by omega) (by omega) (by omega) (by omega)]
        (repeat' split) <;> omega
    · rw [if_pos c2]; exact Or.inl ⟨rfl, by show (-2 : Int) < 0; omega⟩
  · rw [if_pos c1]; exact Or.inl ⟨rfl, by show (-1 : Int) < 0; omega⟩
theorem gs_gue (h : WF F L) (p a b : Int) : GS (sGue F L p a b) := by
  unfold sGue
  by_cases c1 : 0 ≤ p ∧ p ≤ 19
  · rw [if_neg (fun q => q c1)]
    by_cases c2 : (1 ≤ a ∧ a ≤ 9) ∧ 1 ≤ b ∧ b ≤ 9
    · rw [if_neg (fun q => q c2)]
      by_cases c3 : F (3 + 5 * p + 2) = a ∧ F (3 + 5 * p + 3) = b
      · rw [if_pos c3]; exact Or.inl ⟨rfl, by show (-5 : Int) < 0; omega⟩
      · rw [if_neg c3]
        have hQ := h.2.2.1.1
        refine Or.inr ⟨_, rfl, by have := hQ p c1.1 (by omega); show 0 ≤ F (3 + 5 * p + 2); omega, WF.cl h.1 h.2.1.2.1 (fun u u0 u1 => ?_)⟩
        have := hQ u u0 u1
        rw [upF_v (by omega) (by omega) (by omega) (by omega), upF_v (by omega) (by omega) (by omega) (by omega), upF_v (by omega) (by omega) (by omega) (by omega), upF_v (by omega) (by omega) (by omega) (by omega)]
        (repeat' split) <;> omega
    · rw [if_pos c2]; exact Or.inl ⟨rfl, by show (-2 : Int) < 0; omega⟩
  · rw [if_pos c1]; exact Or.inl ⟨rfl, by show (-1 : Int) < 0; omega⟩
theorem okL_app (hL : okL L) {p q : Int} (hp : 0 ≤ p ∧ p ≤ 19) (hq : 0 ≤ q ∧ q ≤ 19) (hn : ¬ (p, q) ∈ L) : okL (L ++ [(p, q)]) := by
  refine ⟨?_, fun x hx => ?_⟩
  · rw [List.nodup_append]
    refine ⟨hL.1, List.nodup_cons.mpr ⟨fun h => (by cases h), List.nodup_nil⟩, fun a ha b hb e => ?_⟩
    rw [List.mem_singleton] at hb
    subst hb
    subst e
    exact hn ha
  · rcases List.mem_append.mp hx with hx | hx
    · exact hL.2 x hx
    · rw [List.mem_singleton] at hx
      subst hx
      exact ⟨hp.1, by show p < 20; omega, hq.1, by show q < 20; omega⟩
theorem gs_add (h : WF F L) (p q : Int) : GS (sAdd F L p q) := by
  unfold sAdd
  by_cases c1 : (0 ≤ p ∧ p ≤ 19) ∧ 0 ≤ q ∧ q ≤ 19
  · rw [if_neg (fun x => x c1)]
    by_cases c2 : (p, q) ∈ L
    · rw [if_pos c2]; exact Or.inl ⟨rfl, by show (-5 : Int) < 0; omega⟩
    · rw [if_neg c2]
      by_cases c3 : L.length = 60
      · rw [if_pos c3]; exact Or.inl ⟨rfl, by show (-3 : Int) < 0; omega⟩
      · rw [if_neg c3]
        have hl := h.2.1.2.1
        exact Or.inr ⟨_, rfl, Int.natCast_nonneg _, WF.cl (okL_app h.1 c1.1 c1.2 c2) (by rw [List.length_append]; show L.length + 1 ≤ 60; omega) h.2.2.1.1⟩
  · rw [if_pos c1]; exact Or.inl ⟨rfl, by show (-1 : Int) < 0; omega⟩
theorem okL_cut (hL : okL L) (k : Nat) : okL (L.take k ++ L.drop (k + 1)) := by
  have hs : List.Sublist (L.take k ++ L.drop (k + 1)) L := by
    have h1 : List.Sublist (L.drop (k + 1)) (L.drop k) := by
      rw [← List.drop_drop]
      exact List.drop_sublist _ _
    have h2 : List.Sublist (L.take k ++ L.drop (k + 1)) (L.take k ++ L.drop k) := List.Sublist.append (List.Sublist.refl _) h1
    rw [List.take_append_drop] at h2
    exact h2
  exact ⟨hL.1.sublist hs, fun x hx => hL.2 x (hs.subset hx)⟩
theorem gs_rem (h : WF F L) (p q : Int) : GS (sRem F L p q) := by
  unfold sRem
  by_cases c1 : (p, q) ∈ L
  · rw [if_pos c1]
    have hl := h.2.1.2.1
    have hf := fnd_ok c1
    exact Or.inr ⟨_, rfl, Int.natCast_nonneg _, WF.cl (okL_cut h.1 _) (by rw [List.length_append, List.length_take, List.length_drop]; omega) h.2.2.1.1⟩
  · rw [if_neg c1]; exact Or.inl ⟨rfl, by show (-1 : Int) < 0; omega⟩
theorem bgF_l {p j : Int} (h0 : j < 223) (h1 : ¬ j = 1) (h2 : ¬ j = 2) : bgF F L p j = F j := by
  unfold bgF
  rw [if_neg h1, if_neg h2, if_pos h0]
theorem WF.bg (h : WF F L) {p : Int} (hp : 0 ≤ p ∧ p ≤ 19) : WF (bgF F L p) L ∧ WG (bgF F L p) L := by
  have hq := h.2.2.1.1 p hp.1 (by omega)
  have r4 : bgF F L p 1 = 1 := if_pos rfl
  have z2 : bgF F L p 2 = 0 := by unfold bgF; rw [if_neg (by omega), if_pos rfl]
  have ev : ∀ u w : Int, 0 ≤ u → u < 20 → 0 ≤ w → w < 5 → bgF F L p (3 + 5 * u + w) = F (3 + 5 * u + w) := fun u w u0 u1 w0 w1 => bgF_l (by omega) (by omega) (by omega)
  have l1 : bgF F L p (223 + 7 * 0 + 0) = p := by unfold bgF; rw [if_neg (by omega), if_neg (by omega), if_neg (by omega), if_pos (by omega)]
  have l2 : bgF F L p (223 + 7 * 0 + 1) = -5 := by unfold bgF; rw [if_neg (by omega), if_neg (by omega), if_neg (by omega), if_neg (by omega), if_pos (by omega)]
  have l6 : bgF F L p (223 + 7 * 0 + 2) = lcP (enF F L p) (F (3 + 5 * p + 1) = 1) False (F (3 + 5 * p + 2)) := by unfold bgF; rw [if_neg (by omega), if_neg (by omega), if_neg (by omega), if_neg (by omega), if_neg (by omega), if_pos (by omega)]
  have l7 : bgF F L p (223 + 7 * 0 + 3) = lcD (enF F L p) (F (3 + 5 * p + 1) = 1) False (F (3 + 5 * p + 3)) := by unfold bgF; rw [if_neg (by omega), if_neg (by omega), if_neg (by omega), if_neg (by omega), if_neg (by omega), if_neg (by omega), if_pos (by omega)]
  have l3 : bgF F L p (223 + 7 * 0 + 4) = 0 := by unfold bgF; rw [if_neg (by omega), if_neg (by omega), if_neg (by omega), if_neg (by omega), if_neg (by omega), if_neg (by omega), if_neg (by omega), if_neg (by omega)]
  have l4 : bgF F L p (223 + 7 * 0 + 5) = -5 := by unfold bgF; rw [if_neg (by omega), if_neg (by omega), if_neg (by omega), if_neg (by omega), if_neg (by omega), if_neg (by omega), if_neg (by omega), if_pos (by omega)]
  have zo : ∀ j : Int, 230 ≤ j → bgF F L p j = 0 := fun j a => by unfold bgF; rw [if_neg (by omega), if_neg (by omega), if_neg (by omega), if_neg (by omega), if_neg (by omega), if_neg (by omega), if_neg (by omega), if_neg (by omega)]
  have r5 : ∀ j : Int, (j = 0 ∨ (103 ≤ j ∧ j < 223)) → bgF F L p j = F j := fun j hj => bgF_l (by omega) (by omega) (by omega)
  generalize bgF F L p = F' at *
  have hX1 : okX (nF F' 2) (nF F' 3) := by
    intro j j0 j1
    show 0 ≤ F' (223 + 7 * j + 2) ∧ F' (223 + 7 * j + 2) ≤ 9999 ∧ 0 ≤ F' (223 + 7 * j + 3) ∧ F' (223 + 7 * j + 3) ≤ 9999
    by_cases ej : j = 0
    · subst ej
      rw [l6, l7]
      unfold lcP lcD
      (repeat' split) <;> omega
    · rw [zo _ (by omega), zo _ (by omega)]
      omega
  refine ⟨⟨h.1, h.2.1.of r5, ⟨h.2.2.1.1.of ev, by omega, by omega, fun y y0 y1 => ?_, hX1⟩, fun y y0 y1 => ?_, fun y j y0 y1 => ?_, fun y y0 y1 => by omega, fun y y0 y1 => ?_, fun y y0 y1 => ?_, ?_⟩, fun y y0 y1 => ?_⟩
  · have ey : y = 0 := by omega
    subst ey
    show 0 ≤ F' (223 + 7 * 0 + 0) ∧ F' (223 + 7 * 0 + 0) < 20 ∧ 0 ≤ F' (223 + 7 * 0 + 4) ∧ -5 ≤ F' (223 + 7 * 0 + 5) ∧ (0 < F' (223 + 7 * 0 + 4) → 0 < F' (223 + 7 * 0 + 5)) ∧ F' (223 + 7 * 0 + 5) + F' (223 + 7 * 0 + 4) ≤ F' 1
    omega
  · have ey : y = 0 := by omega
    subst ey
    show 0 ≤ F' (223 + 7 * 0 + 0) ∧ F' (223 + 7 * 0 + 0) < 20 ∧ ((0 : Int) = 0 → F' (223 + 7 * 0 + 1) = -5) ∧ ((0 : Int) < 0 → 0 ≤ F' (223 + 7 * 0 + 1) ∧ F' (223 + 7 * 0 + 1) < 0)
    omega
  · have ey : y = 0 := by omega
    subst ey
    omega
  · have ey : y = 0 := by omega
    subst ey
    intro h4
    omega
  · have ey : y = 0 := by omega
    subst ey
    intro h4
    rw [l6, l7, l1]
    unfold lcP lcD
    by_cases c1 : enF F L p
    · rw [if_pos c1, if_pos c1]
      by_cases c2 : F (3 + 5 * p + 1) = 1
      · rw [if_pos c2, if_pos c2]
        omega
      · rw [if_neg c2, if_neg c2]
        omega
    · rw [if_neg c1, if_neg c1, if_neg (fun q => q), if_neg (fun q => q)]
      have c3 : ¬ (outs L p).length = 0 := fun q => c1 (Or.inr q)
      omega
  · rw [z2, r4]
    show (0 : Int) = 0 + bi (¬ F' (223 + 7 * 0 + 4) = 0)
    rw [l3, bi_f (fun q => q rfl)]
    rfl
  · have ey : y = 0 := by omega
    subst ey
    have he : enF F' L p ↔ enF F L p := by
      show (¬ F' (3 + 5 * p + 1) = 0 ∨ (outs L p).length = 0) ↔ _
      rw [ev p 1 hp.1 (by omega) (by omega) (by omega)]
    refine ⟨fun _ => ?_, fun h4 => by omega⟩
    rw [l6, l7, l1, he, ev p 1 hp.1 (by omega) (by omega) (by omega)]
    have hw := lc_what (e := enF F L p) (w := F (3 + 5 * p + 1) = 1) (o := False) (a := F (3 + 5 * p + 2)) (b := F (3 + 5 * p + 3)) (by omega) (by omega)
    refine ⟨hw.1, fun q => Or.inl ?_, hw.2.2⟩
    rcases hw.2.1 q with r | r
    · exact r
    · exact r.elim
theorem lcP_0 {e w o : Prop} [Decidable e] [Decidable w] [Decidable o] {a : Int} (ha : 1 ≤ a) : 0 ≤ lcP e w o a := by
  unfold lcP
  (repeat' split) <;> omega
theorem gs_beg (h : WF F L) (p : Int) : GS (sBeg F L p) := by
  unfold sBeg
  by_cases c1 : 0 ≤ p ∧ p ≤ 19
  · rw [if_neg (fun q => q c1)]
    have hq := h.2.2.1.1 p c1.1 (by omega)
    exact Or.inr ⟨_, rfl, lcP_0 (by omega), h.bg c1⟩
  · rw [if_pos c1]; exact Or.inl ⟨rfl, by show (-1 : Int) < 0; omega⟩
theorem opL_ok : ∀ (k : Nat) (F : Int → Int), WF F L → WG F L → 0 < F 1 → WF (opL L k F).1 L ∧ WG (opL L k F).1 L ∧ 0 ≤ (opL L k F).2 := by
  intro k
  induction k with
  | zero => exact fun F hW hG _ => ⟨hW, hG, Int.le_refl _⟩
  | succ k ih =>
    intro F hW hG h0
    rw [opL_s]
    by_cases c : goF F L
    · rw [if_pos c]
      have := ih _ (hW.op h0 c) (WG.op hW hG h0 c) (by rw [op_1 hW h0 c]; have : (0 : Int) ≤ cF F L := Int.natCast_nonneg _; omega)
      exact ⟨this.1, this.2.1, by show 0 ≤ (opL L k (opF F L)).2 + 1; have := this.2.2; omega⟩
    · rw [if_neg c]
      exact ⟨hW, hG, Int.le_refl _⟩
theorem gs_ope (h : WF F L) (g : WG F L) (r : Int) : GS (sOpe F L r) := by
  unfold sOpe
  by_cases c1 : 1 ≤ r ∧ r ≤ 100
  · rw [if_neg (fun q => q c1)]
    by_cases c2 : F 1 = 0
    · rw [if_pos c2]; exact Or.inl ⟨rfl, by show (-4 : Int) < 0; omega⟩
    · rw [if_neg c2]
      by_cases c3 : goF F L
      · rw [if_neg (fun q => q c3)]
        have h1 := h.2.2.1.2.1
        have := opL_ok r.toNat F h g (by omega)
        exact Or.inr ⟨_, rfl, this.2.2, this.1, this.2.1⟩
      · rw [if_pos c3]; exact Or.inl ⟨rfl, by show (-5 : Int) < 0; omega⟩
  · rw [if_pos c1]; exact Or.inl ⟨rfl, by show (-2 : Int) < 0; omega⟩
theorem gs_res {q : SF} (h : WF q.1 q.2) (g : WG q.1 q.2) : GS (sRes q) := by
  refine Or.inr ⟨q, rfl, ?_, h, g⟩
  show 0 ≤ q.1 0
  rw [h.2.1.1]
  exact Int.natCast_nonneg _
end STP
end
section
/-! A STATE BETWEEN TWO CALLS, AND THE CALLS -/
def SN (x : Nat) (μ : MU) (q : SF) : Prop := μ x 2 = 1 ∧ ShS μ (x + 32) q.1 q.2 ∧ WF q.1 q.2 ∧ WG q.1 q.2
def IN (x : Nat) (μ : MU) (s : SF) (n : Nat) (h : HF) (q : SF) : Prop := ShS μ (x + 1) s.1 s.2 ∧ WF s.1 s.2 ∧ WG s.1 s.2 ∧ CHs x μ n h ∧ SN x μ q
def IN2 (x : Nat) (μ : MU) (s : SF) (n : Nat) (h : HF) (q : SF) (r : RS) : Prop := (r.2 = none ∧ r.1 < 0 ∧ IN x μ s n h q) ∨ ∃ t : SF, r.2 = some t ∧ 0 ≤ r.1 ∧ IN x μ t (pn n) (ph n h s.1 s.2) q
section INS
variable {E : EV} {l : Launch} {G : GG} {μ μ' : MU} {x n : Nat} {s q : SF} {h : HF} {p a b r k : Int}
theorem IN.at (hI : IN x μ s n h q) (e : ∀ b, x ≤ b → b ≤ x + 188 → μ' b = μ b) : IN x μ' s n h q :=
  ⟨hI.1.at fun b b0 b1 => e b (by omega) (by omega), hI.2.1, hI.2.2.1, hI.2.2.2.1.at fun b b0 b1 => e b (by omega) (by omega), by rw [e x (by omega) (by omega)]; exact hI.2.2.2.2.1, hI.2.2.2.2.2.1.at fun b b0 b1 => e b (by omega) (by omega), hI.2.2.2.2.2.2⟩
theorem IN.go (hI : IN x μ s n h q) (c : CHs x μ' (pn n) (ph n h s.1 s.2)) (fr : FR x μ μ') {t : SF} (hs : ShS μ' (x + 1) t.1 t.2) (w : WF t.1 t.2) (g : WG t.1 t.2) : IN x μ' t (pn n) (ph n h s.1 s.2) q :=
  ⟨hs, w, g, c, by rw [fr x (by omega)]; exact hI.2.2.2.2.1, hI.2.2.2.2.2.1.at fun b b0 b1 => fr b (by omega), hI.2.2.2.2.2.2⟩
theorem IN2.no {z : Int} (hI : IN x μ s n h q) {r : RS} (e : r = (z, none)) (hz : z < 0) : z = r.1 ∧ IN2 x μ s n h q r := by
  subst e
  exact ⟨rfl, Or.inl ⟨rfl, hz, hI⟩⟩
theorem IN2.yes {z : Int} (hI : IN x μ s n h q) {r : RS} {t : SF} (e : r = (z, some t)) (gs : GS r) (c : CHs x μ' (pn n) (ph n h s.1 s.2)) (fr : FR x μ μ') (hs : ShS μ' (x + 1) t.1 t.2) : z = r.1 ∧ IN2 x μ' s n h q r := by
  subst e
  refine ⟨rfl, Or.inr ⟨t, rfl, ?_⟩⟩
  rcases gs with ⟨g1, g2⟩ | ⟨t', g1, g2, g3, g4⟩
  · cases g1
  · have e2 : t = t' := Option.some.inj g1
    subst e2
    exact ⟨g2, hI.go c fr hs g3 g4⟩
theorem a_set (hX : isCheap G x) (hI : IN x μ s n h q) (hp : inR p) (ha : inR a) (hb : inR b) : KV E l 7 m_Cp_setPosition x [rI p, rI a, rI b] G μ 0 0 (dqi (fun z μ' => z = (sSet s.1 s.2 p a b).1 ∧ IN2 x μ' s n h q (sSet s.1 s.2 p a b)) G) := by
  refine KV.wk (c_Cp_setPosition hX hI.1 hI.2.1 hI.2.2.2.1 hp ha hb) (fun z μ1 hz => ?_)
  have gs := gs_set hI.2.1 p a b
  rcases hz with ⟨a1, rfl, rfl⟩ | ⟨a1, a2, rfl, rfl⟩ | ⟨a1, a2, a3, rfl, rfl⟩ | ⟨a1, a2, a3, rfl, a4, a5, a6⟩
  · exact IN2.no hI (by unfold sSet; rw [if_pos a1]) (by omega)
  · exact IN2.no hI (by unfold sSet; rw [if_neg (fun q => q a1), if_pos a2]) (by omega)
  · exact IN2.no hI (by unfold sSet; rw [if_neg (fun q => q a1), if_neg (fun q => q a2), if_pos a3]) (by omega)
  · exact IN2.yes hI (t := (clF (upF s.1 p 0 a b) s.2, s.2)) (by unfold sSet; rw [if_neg (fun q => q a1), if_neg (fun q => q a2), if_neg a3]) gs a4 a5 (a6 (clF (upF s.1 p 0 a b) s.2) clF_1 (fun u w u0 u1 w0 w1 => (clF_q (by omega) (by omega)).trans (upF_v w0 w1 (by omega) (by omega))))
theorem a_gue (hX : isCheap G x) (hI : IN x μ s n h q) (hp : inR p) (ha : inR a) (hb : inR b) : KV E l 7 m_Cp_guess x [rI p, rI a, rI b] G μ 0 0 (dqi (fun z μ' => z = (sGue s.1 s.2 p a b).1 ∧ IN2 x μ' s n h q (sGue s.1 s.2 p a b)) G) := by
  refine KV.wk (c_Cp_guess hX hI.1 hI.2.1 hI.2.2.2.1 hp ha hb) (fun z μ1 hz => ?_)
  have gs := gs_gue hI.2.1 p a b
  rcases hz with ⟨a1, rfl, rfl⟩ | ⟨a1, a2, rfl, rfl⟩ | ⟨a1, a2, a3, rfl, rfl⟩ | ⟨a1, a2, a3, rfl, a4, a5, a6⟩
  · exact IN2.no hI (by unfold sGue; rw [if_pos a1]) (by omega)
  · exact IN2.no hI (by unfold sGue; rw [if_neg (fun q => q a1), if_pos a2]) (by omega)
  · exact IN2.no hI (by unfold sGue; rw [if_neg (fun q => q a1), if_neg (fun q => q a2), if_pos a3]) (by omega)
  · exact IN2.yes hI (t := (clF (upF s.1 p 2 a b) s.2, s.2)) (by unfold sGue; rw [if_neg (fun q => q a1), if_neg (fun q => q a2), if_neg a3]) gs a4 a5 (a6 (clF (upF s.1 p 2 a b) s.2) clF_1 (fun u w u0 u1 w0 w1 => (clF_q (by omega) (by omega)).trans (upF_v w0 w1 (by omega) (by omega))))
theorem a_add (hX : isCheap G x) (hI : IN x μ s n h q) (hp : inR p) (hq : inR a) : KV E l 7 m_Cp_addMove x [rI p, rI a] G μ 0 0 (dqi (fun z μ' => z = (sAdd s.1 s.2 p a).1 ∧ IN2 x μ' s n h q (sAdd s.1 s.2 p a)) G) := by
  refine KV.wk (c_Cp_addMove hX hI.1 hI.2.1 hI.2.2.2.1 hp hq) (fun z μ1 hz => ?_)
  have gs := gs_add hI.2.1 p a
  rcases hz with ⟨a1, rfl, rfl⟩ | ⟨a1, a2, rfl, rfl⟩ | ⟨a1, a2, a3, rfl, rfl⟩ | ⟨a1, a2, a3, rfl, a4, a5, a6⟩
  · exact IN2.no hI (by unfold sAdd; rw [if_pos a1]) (by omega)
  · exact IN2.no hI (by unfold sAdd; rw [if_neg (fun q => q a1), if_pos a2]) (by omega)
  · exact IN2.no hI (by unfold sAdd; rw [if_neg (fun q => q a1), if_neg a2, if_pos a3]) (by omega)
  · exact IN2.yes hI (t := (clF s.1 (s.2 ++ [(p, a)]), s.2 ++ [(p, a)])) (by unfold sAdd; rw [if_neg (fun q => q a1), if_neg a2, if_neg (by omega)]) gs a4 a5 (a6 (clF s.1 (s.2 ++ [(p, a)])) clF_1 (fun u w u0 u1 w0 w1 => clF_q (by omega) (by omega)))
theorem a_rem (hX : isCheap G x) (hI : IN x μ s n h q) (hp : inR p) (hq : inR a) : KV E l 7 m_Cp_removeMove x [rI p, rI a] G μ 0 0 (dqi (fun z μ' => z = (sRem s.1 s.2 p a).1 ∧ IN2 x μ' s n h q (sRem s.1 s.2 p a)) G) := by
  refine KV.wk (c_Cp_removeMove hX hI.1 hI.2.1 hI.2.2.2.1 hp hq) (fun z μ1 hz => ?_)
  have gs := gs_rem hI.2.1 p a
  rcases hz with ⟨a1, rfl, rfl⟩ | ⟨a1, a4, a5, a6⟩
  · exact IN2.no hI (by unfold sRem; rw [if_neg a1]) (by omega)
  · have hf := fnd_ok a1
    obtain ⟨rfl, a7⟩ := a6 _ hf.1 hf.2
    exact IN2.yes hI (t := (clF s.1 (cutL s.2 (p, a)), cutL s.2 (p, a))) (by unfold sRem; rw [if_pos a1]) gs a4 a5 (a7 (clF s.1 (cutL s.2 (p, a))) clF_1 (fun u w u0 u1 w0 w1 => clF_q (by omega) (by omega)))
theorem a_beg (hX : isCheap G x) (hI : IN x μ s n h q) (hp : inR p) : KV E l 7 m_Cp_begin x [rI p] G μ 0 0 (dqi (fun z μ' => z = (sBeg s.1 s.2 p).1 ∧ IN2 x μ' s n h q (sBeg s.1 s.2 p)) G) := by
  refine KV.wk (c_Cp_begin hX hI.1 hI.2.1 hI.2.2.2.1 hp) (fun z μ1 hz => ?_)
  have gs := gs_beg hI.2.1 p
  rcases hz with ⟨a1, rfl, rfl⟩ | ⟨a1, rfl, a4, a5, a6⟩
  · exact IN2.no hI (by unfold sBeg; rw [if_pos a1]) (by omega)
  · refine IN2.yes hI (t := (bgF s.1 s.2 p, s.2)) (by unfold sBeg; rw [if_neg (fun q => q a1)]) gs a4 a5 (a6 (bgF s.1 s.2 p) (if_pos rfl) (fun u w u0 u1 w0 w1 => bgF_l (by omega) (by omega) (by omega)) ?_ ?_ ?_ ?_ ?_ ?_ ?_)
    · unfold bgF; rw [if_neg (by omega), if_neg (by omega), if_neg (by omega), if_pos (by omega)]
    · unfold bgF; rw [if_neg (by omega), if_neg (by omega), if_neg (by omega), if_neg (by omega), if_pos (by omega)]
    · unfold bgF; rw [if_neg (by omega), if_neg (by omega), if_neg (by omega), if_neg (by omega), if_neg (by omega), if_pos (by omega)]
    · unfold bgF; rw [if_neg (by omega), if_neg (by omega), if_neg (by omega), if_neg (by omega), if_neg (by omega), if_neg (by omega), if_pos (by omega)]
    · unfold bgF; rw [if_neg (by omega), if_neg (by omega), if_neg (by omega), if_neg (by omega), if_neg (by omega), if_neg (by omega), if_neg (by omega), if_neg (by omega)]
    · unfold bgF; rw [if_neg (by omega), if_neg (by omega), if_neg (by omega), if_neg (by omega), if_neg (by omega), if_neg (by omega), if_neg (by omega), if_pos (by omega)]
    · unfold bgF; rw [if_neg (by omega), if_neg (by omega), if_neg (by omega), if_neg (by omega), if_neg (by omega), if_neg (by omega), if_neg (by omega), if_neg (by omega)]
theorem a_ope (hX : isCheap G x) (hI : IN x μ s n h q) (hr : inR r) : KV E l 7 m_Cp_open x [rI r] G μ 0 0 (dqi (fun z μ' => z = (sOpe s.1 s.2 r).1 ∧ IN2 x μ' s n h q (sOpe s.1 s.2 r)) G) := by
  refine KV.wk (c_Cp_open hX hI.1 hI.2.1 hI.2.2.2.1 hr) (fun z μ1 hz => ?_)
  have gs := gs_ope hI.2.1 hI.2.2.1 r
  rcases hz with ⟨a1, rfl, rfl⟩ | ⟨a1, a2, rfl, rfl⟩ | ⟨a1, a2, a3, rfl, rfl⟩ | ⟨a1, a2, a3, rfl, a4, a5, a6⟩
  · exact IN2.no hI (by unfold sOpe; rw [if_pos a1]) (by omega)
  · exact IN2.no hI (by unfold sOpe; rw [if_neg (fun q => q a1), if_pos a2]) (by omega)
  · exact IN2.no hI (by unfold sOpe; rw [if_neg (fun q => q a1), if_neg (by omega), if_pos a3]) (by omega)
  · exact IN2.yes hI (t := ((opL s.2 r.toNat s.1).1, s.2)) (by unfold sOpe; rw [if_neg (fun q => q a1), if_neg (by omega), if_neg (fun q => q a3)]) gs a4 a5 a6
theorem a_res (hX : isCheap G x) (hI : IN x μ s n h q) : KV E l 7 m_Cp_restore x [] G μ 0 0 (dqi (fun z μ' => z = (sRes q).1 ∧ IN2 x μ' s n h q (sRes q)) G) := by
  have hS := hI.2.2.2.2
  refine KV.wk (c_Cp_restore hX hI.1 hI.2.1 hI.2.2.2.1 (by rw [hS.1]; omega) (fun _ => ⟨hS.2.1, hS.2.2.1⟩)) (fun z μ1 hz => ?_)
  rcases hz with ⟨a1, -, -⟩ | ⟨a1, rfl, a4, a5, a6⟩
  · rw [hS.1] at a1
    exact absurd a1 (by omega)
  · exact IN2.yes hI (t := q) rfl (gs_res hS.2.2.1 hS.2.2.2) a4 a5 a6
theorem a_und (hX : isCheap G x) (hI : IN x μ s n h q) (hn : 0 < n) (hg : WG (h (n - 1)).1 (h (n - 1)).2) : KV E l 7 m_Cp_undo x [] G μ 0 0 (dqi (fun z μ' => z = (n : Int) - 1 ∧ IN x μ' (h (n - 1)) (n - 1) h q) G) := by
  refine KV.wk (c_Cp_undo hX hI.2.2.2.1) (fun z μ1 hz => ?_)
  rcases hz with ⟨a1, -, -⟩ | ⟨a1, rfl, a4, a5, a6⟩
  · exact absurd a1 (by omega)
  · obtain ⟨s0, -, -, hw⟩ := hI.2.2.2.1.2.2.2 (n - 1) (by omega)
    exact ⟨rfl, a6, hw, hg, a4, by rw [a5 x (by omega)]; exact hI.2.2.2.2.1, hI.2.2.2.2.2.1.at fun b b0 b1 => a5 b (by omega), hI.2.2.2.2.2.2⟩
theorem a_kee (hX : isCheap G x) (hS : ShS μ (x + 1) s.1 s.2) (hW : WF s.1 s.2) (hg : WG s.1 s.2) (hC : CHs x μ n h) : KV E l 5 m_Cp_keep x [] G μ 0 0 (dqi (fun z μ' => z = s.1 0 ∧ IN x μ' s n h s) G) := by
  refine KV.wk (c_Cp_keep hX hS hW) (fun z μ1 hz => ?_)
  obtain ⟨rfl, a1, a2, a3⟩ := hz
  exact ⟨rfl, hS.at fun b b0 b1 => a1 b (by omega) (by omega), hW, hg, hC.at fun b b0 b1 => a1 b (by omega) (by omega), a2, a3, hW, hg⟩
theorem t_pos (hX : isCheap G x) (hI : IN x μ s n h q) (hp : inR p) (hk : inR k) : KV E l 5 m_Cp_position x [rI p, rI k] G μ 0 0 (dqi (fun z μ' => z = psF s.1 s.2 p k ∧ IN x μ' s n h q) G) :=
  KV.wk (c_Cp_position hX hI.1 hI.2.1 hp hk) (fun z μ1 hz => ⟨hz.2, hI.at fun b b0 b1 => hz.1 b (by omega)⟩)
theorem t_mov (hX : isCheap G x) (hI : IN x μ s n h q) (hp : inR p) (hr : inR r) : KV E l 2 m_Cp_move x [rI p, rI r] G μ 0 0 (dqi (fun z μ' => z = mvF s.2 p r ∧ IN x μ' s n h q) G) :=
  KV.wk (c_Cp_move hX hI.1 hI.2.1 hp hr) (fun z μ1 hz => ⟨hz.2, by rw [hz.1]; exact hI⟩)
theorem t_nod (hX : isCheap G x) (hI : IN x μ s n h q) (hp : inR p) (hk : inR k) : KV E l 1 m_Cp_node x [rI p, rI k] G μ 0 0 (dqi (fun z μ' => z = ndF s.1 p k ∧ IN x μ' s n h q) G) :=
  KV.wk (c_Cp_node hX hI.1 hI.2.1 hp hk) (fun z μ1 hz => ⟨hz.2, by rw [hz.1]; exact hI⟩)
theorem t_way (hX : isCheap G x) (hI : IN x μ s n h q) (hr : inR r) : KV E l 4 m_Cp_way x [rI r] G μ 0 0 (dqi (fun z μ' => z = wyF s.1 r ∧ IN x μ' s n h q) G) :=
  KV.wk (c_Cp_way hX hI.1 hI.2.1 hr) (fun z μ1 hz => ⟨hz.2, by rw [hz.1]; exact hI⟩)
theorem t_siz (hX : isCheap G x) (hI : IN x μ s n h q) : KV E l 5 m_Cp_proofSize x [] G μ 0 0 (dqi (fun z μ' => z = szF s.1 ∧ IN x μ' s n h q) G) :=
  KV.wk (c_Cp_proofSize hX hI.1 hI.2.1) (fun z μ1 hz => ⟨hz.2, hI.at fun b b0 b1 => hz.1 b (by omega)⟩)
theorem ctF_c {F : Int → Int} {L : List (Int × Int)} {hn tn hn' tn' k : Int} (h : k = 9 → hn = hn') (h2 : ¬ k = 10) : ctF F L hn tn k = ctF F L hn' tn' k := by
  unfold ctF
  by_cases c : k = 9
  · rw [if_neg (by omega), if_neg (by omega), if_neg (by omega), if_pos c, if_neg (by omega), if_neg (by omega), if_neg (by omega), if_pos c]
    exact h c
  · rw [if_neg c, if_neg c, if_neg h2, if_neg h2]
theorem t_cnt (hX : isCheap G x) (hI : IN x μ s n h q) (hk : 0 ≤ k ∧ k ≤ 9) : KV E l 5 m_Cp_count x [rI k] G μ 0 0 (dqi (fun z μ' => z = ctF s.1 s.2 (n : Int) 0 k ∧ IN x μ' s n h q) G) :=
  KV.wk (c_Cp_count hX hI.1 hI.2.1 (by omega)) (fun z μ1 hz => ⟨by rw [hz.2]; exact ctF_c (fun _ => hI.2.2.2.1.2.2.1) (by omega), hI.at fun b b0 b1 => hz.1 b (by omega)⟩)
end INS
end

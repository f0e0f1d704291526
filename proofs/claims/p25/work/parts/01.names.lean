-- ===== PART A: goes FIRST, ahead of the names: the tables' words, and 'selects' of the private methods out of them =====
/-- a private method of a class that the tables say can be made, by its rows of tables_1 -/
def lw_okq (q : MethodName × Nat) : Prop := (q.1.cls ≠ "java/lang/invoke/MethodHandle" ∧ q.1.cls ≠ "java/lang/invoke/VarHandle") ∧ Cond.instantiable q.1.cls q.2 ∈ tables_1 ∧ Cond.privateMethod q.1 ∈ tables_1 ∧ Cond.instanceMethod q.1 ∈ tables_1
theorem lw_p0 : lw_okq (⟨"RetryStorm", "keepState", "()V"⟩, 4) := ⟨⟨by decide +kernel, by decide +kernel⟩, List.mem_of_getElem? (i := 11) (by decide +kernel), List.mem_of_getElem? (i := 172) (by decide +kernel), List.mem_of_getElem? (i := 173) (by decide +kernel)⟩
theorem lw_p1 : lw_okq (⟨"RetryStorm", "dropOldestRecord", "()V"⟩, 4) := ⟨⟨by decide +kernel, by decide +kernel⟩, List.mem_of_getElem? (i := 11) (by decide +kernel), List.mem_of_getElem? (i := 176) (by decide +kernel), List.mem_of_getElem? (i := 177) (by decide +kernel)⟩
theorem lw_p2 : lw_okq (⟨"RetryStorm", "isInUseBeyond", "(II)Z"⟩, 4) := ⟨⟨by decide +kernel, by decide +kernel⟩, List.mem_of_getElem? (i := 11) (by decide +kernel), List.mem_of_getElem? (i := 404) (by decide +kernel), List.mem_of_getElem? (i := 405) (by decide +kernel)⟩
theorem lw_p3 : lw_okq (⟨"RetryStorm", "goodWorkWith", "(II)I"⟩, 4) := ⟨⟨by decide +kernel, by decide +kernel⟩, List.mem_of_getElem? (i := 11) (by decide +kernel), List.mem_of_getElem? (i := 454) (by decide +kernel), List.mem_of_getElem? (i := 455) (by decide +kernel)⟩
theorem lw_p4 : lw_okq (⟨"RetryStorm", "hashOfClients", "(J)J"⟩, 4) := ⟨⟨by decide +kernel, by decide +kernel⟩, List.mem_of_getElem? (i := 11) (by decide +kernel), List.mem_of_getElem? (i := 469) (by decide +kernel), List.mem_of_getElem? (i := 470) (by decide +kernel)⟩
theorem lw_p5 : lw_okq (⟨"RetryStorm", "hashOfServer", "(JII)J"⟩, 4) := ⟨⟨by decide +kernel, by decide +kernel⟩, List.mem_of_getElem? (i := 11) (by decide +kernel), List.mem_of_getElem? (i := 478) (by decide +kernel), List.mem_of_getElem? (i := 479) (by decide +kernel)⟩
def lw_privs_1 : List (MethodName × Nat) := [(⟨"RetryStorm", "keepState", "()V"⟩, 4), (⟨"RetryStorm", "dropOldestRecord", "()V"⟩, 4), (⟨"RetryStorm", "isInUseBeyond", "(II)Z"⟩, 4), (⟨"RetryStorm", "goodWorkWith", "(II)I"⟩, 4), (⟨"RetryStorm", "hashOfClients", "(J)J"⟩, 4), (⟨"RetryStorm", "hashOfServer", "(JII)J"⟩, 4)]
theorem lw_r1 : ∀ q ∈ lw_privs_1, lw_okq q := List.forall_mem_cons.mpr ⟨lw_p0, List.forall_mem_cons.mpr ⟨lw_p1, List.forall_mem_cons.mpr ⟨lw_p2, List.forall_mem_cons.mpr ⟨lw_p3, List.forall_mem_cons.mpr ⟨lw_p4, List.forall_mem_cons.mpr ⟨lw_p5, fun _ h => absurd h List.not_mem_nil⟩⟩⟩⟩⟩⟩
def lw_privs : List (MethodName × Nat) := lw_privs_1
def lw_tbl : List Cond := k2_sels lw_privs ++ tables_1
theorem lw_privs_ok : ∀ q ∈ lw_privs, lw_okq q := lw_r1

def RX0 : String := "RetryStorm$Clients"
def TX0 : u_T := fun k => match k with
  | _ => ("", "", "", false)
def tyX0 : Nat → FieldType := fun k => match k with
  | _ => .int
abbrev wsX00 : List Cond := u_ws RX0 TX0 0
theorem nmX0 : ∀ a, a < 0 → ∀ b, b < 0 → a ≠ b → (TX0 a).2.1 ≠ (TX0 b).2.1 := by decide +kernel
theorem tyX0_ok : ∀ k, k < 0 → parseFieldDescriptor (TX0 k).2.2.1 = some (tyX0 k) := by decide +kernel
abbrev cX0_createRequests : ByteArray := prog_2_method_2_code
def yX0_createRequests : MethodName := ⟨RX0, "createRequests", "(LRetryStorm$State;)V"⟩
abbrev cX0_sendWaiting : ByteArray := prog_2_method_3_code
def yX0_sendWaiting : MethodName := ⟨RX0, "sendWaiting", "(LRetryStorm$State;)V"⟩
abbrev cX0_abandonExpired : ByteArray := prog_2_method_4_code
def yX0_abandonExpired : MethodName := ⟨RX0, "abandonExpired", "(LRetryStorm$State;)V"⟩
abbrev cX0_births : ByteArray := prog_2_method_5_code
def yX0_births : MethodName := ⟨RX0, "births", "(LRetryStorm$State;I)I"⟩
abbrev cX0_create : ByteArray := prog_2_method_6_code
def yX0_create : MethodName := ⟨RX0, "create", "(LRetryStorm$State;I)I"⟩
abbrev cX0_send : ByteArray := prog_2_method_7_code
def yX0_send : MethodName := ⟨RX0, "send", "(LRetryStorm$State;I)I"⟩
abbrev cX0_fail : ByteArray := prog_2_method_8_code
def yX0_fail : MethodName := ⟨RX0, "fail", "(LRetryStorm$State;II)V"⟩
abbrev cX0_delay : ByteArray := prog_2_method_9_code
def yX0_delay : MethodName := ⟨RX0, "delay", "(LRetryStorm$State;II)I"⟩
abbrev cX0_draw : ByteArray := prog_2_method_10_code
def yX0_draw : MethodName := ⟨RX0, "draw", "(LRetryStorm$State;)I"⟩
def RX1 : String := "RetryStorm$Servers"
def TX1 : u_T := fun k => match k with
  | _ => ("", "", "", false)
def tyX1 : Nat → FieldType := fun k => match k with
  | _ => .int
abbrev wsX10 : List Cond := u_ws RX1 TX1 0
theorem nmX1 : ∀ a, a < 0 → ∀ b, b < 0 → a ≠ b → (TX1 a).2.1 ≠ (TX1 b).2.1 := by decide +kernel
theorem tyX1_ok : ∀ k, k < 0 → parseFieldDescriptor (TX1 k).2.2.1 = some (tyX1 k) := by decide +kernel
abbrev cX1_enqueue : ByteArray := prog_3_method_2_code
def yX1_enqueue : MethodName := ⟨RX1, "enqueue", "(LRetryStorm$State;I)V"⟩
abbrev cX1_fillBackWorkers : ByteArray := prog_3_method_3_code
def yX1_fillBackWorkers : MethodName := ⟨RX1, "fillBackWorkers", "(LRetryStorm$State;)V"⟩
abbrev cX1_fillFrontWorkers : ByteArray := prog_3_method_4_code
def yX1_fillFrontWorkers : MethodName := ⟨RX1, "fillFrontWorkers", "(LRetryStorm$State;)V"⟩
abbrev cX1_takeAtBack : ByteArray := prog_3_method_5_code
def yX1_takeAtBack : MethodName := ⟨RX1, "takeAtBack", "(LRetryStorm$State;I)I"⟩
abbrev cX1_takeAtFront : ByteArray := prog_3_method_6_code
def yX1_takeAtFront : MethodName := ⟨RX1, "takeAtFront", "(LRetryStorm$State;II)I"⟩
abbrev cX1_nextInQueue : ByteArray := prog_3_method_7_code
def yX1_nextInQueue : MethodName := ⟨RX1, "nextInQueue", "(LRetryStorm$State;)I"⟩
abbrev cX1_firstToExpire : ByteArray := prog_3_method_8_code
def yX1_firstToExpire : MethodName := ⟨RX1, "firstToExpire", "(LRetryStorm$Table;)I"⟩
abbrev cX1_isHopeless : ByteArray := prog_3_method_9_code
def yX1_isHopeless : MethodName := ⟨RX1, "isHopeless", "(LRetryStorm$State;LRetryStorm$Table;I)Z"⟩
abbrev cX1_work : ByteArray := prog_3_method_10_code
def yX1_work : MethodName := ⟨RX1, "work", "(LRetryStorm$State;)V"⟩
abbrev cX1_endBackWork : ByteArray := prog_3_method_11_code
def yX1_endBackWork : MethodName := ⟨RX1, "endBackWork", "(LRetryStorm$State;)V"⟩
abbrev cX1_endFrontWork : ByteArray := prog_3_method_12_code
def yX1_endFrontWork : MethodName := ⟨RX1, "endFrontWork", "(LRetryStorm$State;)V"⟩
abbrev cX1_callBack : ByteArray := prog_3_method_13_code
def yX1_callBack : MethodName := ⟨RX1, "callBack", "(LRetryStorm$State;I)I"⟩
abbrev cX1_answer : ByteArray := prog_3_method_14_code
def yX1_answer : MethodName := ⟨RX1, "answer", "(LRetryStorm$State;I)V"⟩
abbrev cX1_waste : ByteArray := prog_3_method_15_code
def yX1_waste : MethodName := ⟨RX1, "waste", "(LRetryStorm$State;I)I"⟩
abbrev cX1_abandon : ByteArray := prog_3_method_16_code
def yX1_abandon : MethodName := ⟨RX1, "abandon", "(LRetryStorm$State;I)V"⟩
def RX2 : String := "RetryStorm$State"
def TX2 : u_T := fun k => match k with
  | 0 => ("RetryStorm$State", "clients", "LRetryStorm$Table;", true)
  | 1 => ("RetryStorm$State", "tallies", "LRetryStorm$Table;", true)
  | 2 => ("RetryStorm$State", "surges", "LRetryStorm$Table;", true)
  | 3 => ("RetryStorm$State", "servers", "LRetryStorm$Table;", true)
  | 4 => ("RetryStorm$State", "switches", "LRetryStorm$Table;", true)
  | 5 => ("RetryStorm$State", "requests", "LRetryStorm$Table;", true)
  | 6 => ("RetryStorm$State", "queue", "LRetryStorm$Table;", true)
  | 7 => ("RetryStorm$State", "workers", "LRetryStorm$Table;", true)
  | 8 => ("RetryStorm$State", "backQueue", "LRetryStorm$Table;", true)
  | 9 => ("RetryStorm$State", "backWorkers", "LRetryStorm$Table;", true)
  | 10 => ("RetryStorm$State", "history", "LRetryStorm$Table;", true)
  | 11 => ("RetryStorm$State", "discipline", "I", false)
  | 12 => ("RetryStorm$State", "clock", "I", false)
  | 13 => ("RetryStorm$State", "seed", "I", false)
  | 14 => ("RetryStorm$State", "numbers", "I", false)
  | 15 => ("RetryStorm$State", "good", "I", false)
  | 16 => ("RetryStorm$State", "wasted", "I", false)
  | _ => ("RetryStorm$State", "longest", "I", false)
def tyX2 : Nat → FieldType := fun k => match k with
  | 0 => .object "RetryStorm$Table"
  | 1 => .object "RetryStorm$Table"
  | 2 => .object "RetryStorm$Table"
  | 3 => .object "RetryStorm$Table"
  | 4 => .object "RetryStorm$Table"
  | 5 => .object "RetryStorm$Table"
  | 6 => .object "RetryStorm$Table"
  | 7 => .object "RetryStorm$Table"
  | 8 => .object "RetryStorm$Table"
  | 9 => .object "RetryStorm$Table"
  | 10 => .object "RetryStorm$Table"
  | 11 => .int
  | 12 => .int
  | 13 => .int
  | 14 => .int
  | 15 => .int
  | 16 => .int
  | _ => .int
abbrev wsX20 : List Cond := u_ws RX2 TX2 18
theorem nmX2 : ∀ a, a < 18 → ∀ b, b < 18 → a ≠ b → (TX2 a).2.1 ≠ (TX2 b).2.1 := by decide +kernel
theorem tyX2_ok : ∀ k, k < 18 → parseFieldDescriptor (TX2 k).2.2.1 = some (tyX2 k) := by decide +kernel
abbrev cX2_init : ByteArray := prog_4_method_1_code
def yX2_init : MethodName := ⟨RX2, "<init>", "()V"⟩
abbrev cX2_copyFrom : ByteArray := prog_4_method_2_code
def yX2_copyFrom : MethodName := ⟨RX2, "copyFrom", "(LRetryStorm$State;)V"⟩
abbrev cX2_total : ByteArray := prog_4_method_3_code
def yX2_total : MethodName := ⟨RX2, "total", "(I)I"⟩
abbrev cX2_pendingWork : ByteArray := prog_4_method_4_code
def yX2_pendingWork : MethodName := ⟨RX2, "pendingWork", "()I"⟩
abbrev cX2_placeOf : ByteArray := prog_4_method_5_code
def yX2_placeOf : MethodName := ⟨RX2, "placeOf", "(I)I"⟩
abbrev cX2_nextDue : ByteArray := prog_4_method_6_code
def yX2_nextDue : MethodName := ⟨RX2, "nextDue", "(IZ)I"⟩
abbrev cX2_ofTick : ByteArray := prog_4_method_7_code
def yX2_ofTick : MethodName := ⟨RX2, "ofTick", "(II)I"⟩
def RX3 : String := "RetryStorm$Table"
def TX3 : u_T := fun k => match k with
  | 0 => ("RetryStorm$Table", "width", "I", true)
  | 1 => ("RetryStorm$Table", "cells", "[I", true)
  | _ => ("RetryStorm$Table", "size", "I", false)
def tyX3 : Nat → FieldType := fun k => match k with
  | 0 => .int
  | 1 => .array .int
  | _ => .int
abbrev wsX30 : List Cond := u_ws RX3 TX3 3
theorem nmX3 : ∀ a, a < 3 → ∀ b, b < 3 → a ≠ b → (TX3 a).2.1 ≠ (TX3 b).2.1 := by decide +kernel
theorem tyX3_ok : ∀ k, k < 3 → parseFieldDescriptor (TX3 k).2.2.1 = some (tyX3 k) := by decide +kernel
abbrev cX3_init : ByteArray := prog_5_method_1_code
def yX3_init : MethodName := ⟨RX3, "<init>", "(III)V"⟩
abbrev cX3_size : ByteArray := prog_5_method_2_code
def yX3_size : MethodName := ⟨RX3, "size", "()I"⟩
abbrev cX3_get : ByteArray := prog_5_method_3_code
def yX3_get : MethodName := ⟨RX3, "get", "(II)I"⟩
abbrev cX3_put : ByteArray := prog_5_method_4_code
def yX3_put : MethodName := ⟨RX3, "put", "(III)V"⟩
abbrev cX3_add : ByteArray := prog_5_method_5_code
def yX3_add : MethodName := ⟨RX3, "add", "(III)V"⟩
abbrev cX3_putInAll : ByteArray := prog_5_method_6_code
def yX3_putInAll : MethodName := ⟨RX3, "putInAll", "(II)V"⟩
abbrev cX3_append : ByteArray := prog_5_method_7_code
def yX3_append : MethodName := ⟨RX3, "append", "()I"⟩
abbrev cX3_drop : ByteArray := prog_5_method_8_code
def yX3_drop : MethodName := ⟨RX3, "drop", "(I)V"⟩
abbrev cX3_find : ByteArray := prog_5_method_9_code
def yX3_find : MethodName := ⟨RX3, "find", "(II)I"⟩
abbrev cX3_rowsWith : ByteArray := prog_5_method_10_code
def yX3_rowsWith : MethodName := ⟨RX3, "rowsWith", "(II)I"⟩
abbrev cX3_sumOf : ByteArray := prog_5_method_11_code
def yX3_sumOf : MethodName := ⟨RX3, "sumOf", "(I)I"⟩
abbrev cX3_copyRow : ByteArray := prog_5_method_12_code
def yX3_copyRow : MethodName := ⟨RX3, "copyRow", "(ILRetryStorm$Table;I)V"⟩
abbrev cX3_copyFrom : ByteArray := prog_5_method_13_code
def yX3_copyFrom : MethodName := ⟨RX3, "copyFrom", "(LRetryStorm$Table;)V"⟩
def RX4 : String := "RetryStorm$Ticks"
def TX4 : u_T := fun k => match k with
  | _ => ("", "", "", false)
def tyX4 : Nat → FieldType := fun k => match k with
  | _ => .int
abbrev wsX40 : List Cond := u_ws RX4 TX4 0
theorem nmX4 : ∀ a, a < 0 → ∀ b, b < 0 → a ≠ b → (TX4 a).2.1 ≠ (TX4 b).2.1 := by decide +kernel
theorem tyX4_ok : ∀ k, k < 0 → parseFieldDescriptor (TX4 k).2.2.1 = some (tyX4 k) := by decide +kernel
abbrev cX4_pass : ByteArray := prog_6_method_2_code
def yX4_pass : MethodName := ⟨RX4, "pass", "(LRetryStorm$State;)V"⟩
def RX5 : String := "RetryStorm"
def TX5 : u_T := fun k => match k with
  | 0 => ("RetryStorm", "state", "LRetryStorm$State;", true)
  | 1 => ("RetryStorm", "trial", "LRetryStorm$State;", true)
  | 2 => ("RetryStorm", "recorded", "[LRetryStorm$State;", true)
  | _ => ("RetryStorm", "records", "I", false)
def tyX5 : Nat → FieldType := fun k => match k with
  | 0 => .object "RetryStorm$State"
  | 1 => .object "RetryStorm$State"
  | 2 => .array (.object "RetryStorm$State")
  | _ => .int
abbrev wsX50 : List Cond := u_ws RX5 TX5 4
theorem nmX5 : ∀ a, a < 4 → ∀ b, b < 4 → a ≠ b → (TX5 a).2.1 ≠ (TX5 b).2.1 := by decide +kernel
theorem tyX5_ok : ∀ k, k < 4 → parseFieldDescriptor (TX5 k).2.2.1 = some (tyX5 k) := by decide +kernel
abbrev cX5_init : ByteArray := prog_1_method_1_code
def yX5_init : MethodName := ⟨RX5, "<init>", "()V"⟩
abbrev cX5_set : ByteArray := prog_1_method_2_code
def yX5_set : MethodName := ⟨RX5, "set", "(III)I"⟩
abbrev cX5_property : ByteArray := prog_1_method_3_code
def yX5_property : MethodName := ⟨RX5, "property", "(II)I"⟩
abbrev cX5_setServer : ByteArray := prog_1_method_4_code
def yX5_setServer : MethodName := ⟨RX5, "setServer", "(II)I"⟩
abbrev cX5_setDiscipline : ByteArray := prog_1_method_5_code
def yX5_setDiscipline : MethodName := ⟨RX5, "setDiscipline", "(I)I"⟩
abbrev cX5_setSwitch : ByteArray := prog_1_method_6_code
def yX5_setSwitch : MethodName := ⟨RX5, "setSwitch", "(IZ)I"⟩
abbrev cX5_surge : ByteArray := prog_1_method_7_code
def yX5_surge : MethodName := ⟨RX5, "surge", "(IIII)I"⟩
abbrev cX5_run : ByteArray := prog_1_method_8_code
def yX5_run : MethodName := ⟨RX5, "run", "(I)I"⟩
abbrev cX5_ifRun : ByteArray := prog_1_method_9_code
def yX5_ifRun : MethodName := ⟨RX5, "ifRun", "(II)I"⟩
abbrev cX5_bestDiscipline : ByteArray := prog_1_method_10_code
def yX5_bestDiscipline : MethodName := ⟨RX5, "bestDiscipline", "(I)I"⟩
abbrev cX5_count : ByteArray := prog_1_method_11_code
def yX5_count : MethodName := ⟨RX5, "count", "(II)I"⟩
abbrev cX5_succeededAt : ByteArray := prog_1_method_12_code
def yX5_succeededAt : MethodName := ⟨RX5, "succeededAt", "(II)I"⟩
abbrev cX5_told : ByteArray := prog_1_method_13_code
def yX5_told : MethodName := ⟨RX5, "told", "(I)I"⟩
abbrev cX5_live : ByteArray := prog_1_method_14_code
def yX5_live : MethodName := ⟨RX5, "live", "(I)I"⟩
abbrev cX5_request : ByteArray := prog_1_method_15_code
def yX5_request : MethodName := ⟨RX5, "request", "(II)I"⟩
abbrev cX5_queued : ByteArray := prog_1_method_16_code
def yX5_queued : MethodName := ⟨RX5, "queued", "(ZI)I"⟩
abbrev cX5_atWorker : ByteArray := prog_1_method_17_code
def yX5_atWorker : MethodName := ⟨RX5, "atWorker", "(ZI)I"⟩
abbrev cX5_window : ByteArray := prog_1_method_18_code
def yX5_window : MethodName := ⟨RX5, "window", "(II)I"⟩
abbrev cX5_amplification : ByteArray := prog_1_method_21_code
def yX5_amplification : MethodName := ⟨RX5, "amplification", "()I"⟩
abbrev cX5_undo : ByteArray := prog_1_method_22_code
def yX5_undo : MethodName := ⟨RX5, "undo", "()I"⟩
abbrev cX5_digest : ByteArray := prog_1_method_23_code
def yX5_digest : MethodName := ⟨RX5, "digest", "()J"⟩
abbrev cX5_hashOfClients : ByteArray := prog_1_method_24_code
def yX5_hashOfClients : MethodName := ⟨RX5, "hashOfClients", "(J)J"⟩
abbrev cX5_hashOfServer : ByteArray := prog_1_method_25_code
def yX5_hashOfServer : MethodName := ⟨RX5, "hashOfServer", "(JII)J"⟩
abbrev cX5_isClient : ByteArray := prog_1_method_26_code
def yX5_isClient : MethodName := ⟨RX5, "isClient", "(I)Z"⟩
abbrev cX5_mostOfServer : ByteArray := prog_1_method_27_code
def yX5_mostOfServer : MethodName := ⟨RX5, "mostOfServer", "(I)I"⟩
abbrev cX5_isInUseBeyond : ByteArray := prog_1_method_28_code
def yX5_isInUseBeyond : MethodName := ⟨RX5, "isInUseBeyond", "(II)Z"⟩
abbrev cX5_isAnyTakenFrom : ByteArray := prog_1_method_29_code
def yX5_isAnyTakenFrom : MethodName := ⟨RX5, "isAnyTakenFrom", "(LRetryStorm$Table;I)Z"⟩
abbrev cX5_goodWorkWith : ByteArray := prog_1_method_30_code
def yX5_goodWorkWith : MethodName := ⟨RX5, "goodWorkWith", "(II)I"⟩
abbrev cX5_keepState : ByteArray := prog_1_method_31_code
def yX5_keepState : MethodName := ⟨RX5, "keepState", "()V"⟩
abbrev cX5_dropOldestRecord : ByteArray := prog_1_method_32_code
def yX5_dropOldestRecord : MethodName := ⟨RX5, "dropOldestRecord", "()V"⟩
def RX6 : String := "RetryStormModel"
def TX6 : u_T := fun k => match k with
  | _ => ("", "", "", false)
def tyX6 : Nat → FieldType := fun k => match k with
  | _ => .int
abbrev wsX60 : List Cond := u_ws RX6 TX6 0
theorem nmX6 : ∀ a, a < 0 → ∀ b, b < 0 → a ≠ b → (TX6 a).2.1 ≠ (TX6 b).2.1 := by decide +kernel
theorem tyX6_ok : ∀ k, k < 0 → parseFieldDescriptor (TX6 k).2.2.1 = some (tyX6 k) := by decide +kernel
def RJ9 : String := "java/lang/Math"
abbrev cJ9_floorMod_7cf53 : ByteArray := prog_9_method_50_code
def yJ9_floorMod_7cf53 : MethodName := ⟨RJ9, "floorMod", "(II)I"⟩
abbrev cJ9_max_7cf53 : ByteArray := prog_9_method_65_code
def yJ9_max_7cf53 : MethodName := ⟨RJ9, "max", "(II)I"⟩
abbrev cJ9_min_7cf53 : ByteArray := prog_9_method_69_code
def yJ9_min_7cf53 : MethodName := ⟨RJ9, "min", "(II)I"⟩
def RJ10 : String := "java/lang/System"
def RJ7 : String := "java/util/Arrays"
abbrev cJ7_rangeCheck_23922 : ByteArray := prog_11_method_30_code
def yJ7_rangeCheck_23922 : MethodName := ⟨RJ7, "rangeCheck", "(III)V"⟩
abbrev cJ7_fill_fda19 : ByteArray := prog_11_method_104_code
def yJ7_fill_fda19 : MethodName := ⟨RJ7, "fill", "([IIII)V"⟩
def RL : String := "RetryStormLaw"
abbrev cL_cell : ByteArray := method_2_code
def yL_cell : MethodName := ⟨RL, "cell", "([II)I"⟩
abbrev cL_value : ByteArray := method_3_code
def yL_value : MethodName := ⟨RL, "value", "(II)I"⟩
abbrev cL_sets : ByteArray := method_4_code
def yL_sets : MethodName := ⟨RL, "sets", "(LRetryStorm;[I)Z"⟩
abbrev cL_requests : ByteArray := method_5_code
def yL_requests : MethodName := ⟨RL, "requests", "(LRetryStorm;)Z"⟩
abbrev cL_ticks : ByteArray := method_6_code
def yL_ticks : MethodName := ⟨RL, "ticks", "(LRetryStorm;II)Z"⟩
abbrev cL_wouldBe : ByteArray := method_7_code
def yL_wouldBe : MethodName := ⟨RL, "wouldBe", "(LRetryStorm;II)Z"⟩
abbrev cL_law : ByteArray := code
def yL_law : MethodName := ⟨RL, "law", "([I)Z"⟩
abbrev vwCl : List vw_C := [(RX2, TX2, 18), (RX3, TX3, 3), (RX5, TX5, 4)]

/-- the tables' words that hold at any time: every method's list is its own code and these -/
def WS : List Cond := lw_tbl.filter goodWord
theorem WS_tbl : ∀ w ∈ WS, w ∈ lw_tbl := fun _ h => (List.mem_filter.mp h).1
theorem WS_good : ∀ w ∈ WS, (w.onTables && w.keeps) = true ∨ ∃ ty, w = .arrayClass ty := fun _ h => good_of_word (List.mem_filter.mp h).2
theorem WS_of {w : Cond} (h : w ∈ lw_tbl) (g : goodWord w = true) : w ∈ WS := List.mem_filter.mpr ⟨h, g⟩
theorem WS_1 {w : Cond} (k : Nat) (h : tables_1_1[k]? = some w) (g : goodWord w = true) : w ∈ WS := WS_of (List.mem_append_right _ (List.mem_append_left _ (List.mem_of_getElem? h))) g
theorem WS_2 {w : Cond} (k : Nat) (h : tables_1_2[k]? = some w) (g : goodWord w = true) : w ∈ WS := WS_of (List.mem_append_right _ (List.mem_append_right _ (List.mem_append_left _ (List.mem_of_getElem? h)))) g
theorem WS_3 {w : Cond} (k : Nat) (h : tables_1_3[k]? = some w) (g : goodWord w = true) : w ∈ WS := WS_of (List.mem_append_right _ (List.mem_append_right _ (List.mem_append_right _ (List.mem_of_getElem? h)))) g
theorem WS_p1 {y : MethodName} {n : Nat} (k : Nat) (h : lw_privs_1[k]? = some (y, n)) : Cond.selects y.cls y y ∈ WS := WS_of (List.mem_append_left _ (List.mem_map.mpr ⟨(y, n), List.mem_of_getElem? h, rfl⟩)) rfl

theorem wz_L : Jvm.Cond.initialized "RetryStormLaw" ∈ WS := WS_1 0 (by decide +kernel) rfl
theorem wz_X5 : Jvm.Cond.initialized "RetryStorm" ∈ WS := WS_1 1 (by decide +kernel) rfl
theorem wz_X2 : Jvm.Cond.initialized "RetryStorm$State" ∈ WS := WS_1 2 (by decide +kernel) rfl
theorem wz_X3 : Jvm.Cond.initialized "RetryStorm$Table" ∈ WS := WS_1 3 (by decide +kernel) rfl
theorem wz_J9 : Jvm.Cond.initialized "java/lang/Math" ∈ WS := WS_1 4 (by decide +kernel) rfl
theorem wz_J10 : Jvm.Cond.initialized "java/lang/System" ∈ WS := WS_1 5 (by decide +kernel) rfl
theorem wz_X4 : Jvm.Cond.initialized "RetryStorm$Ticks" ∈ WS := WS_1 6 (by decide +kernel) rfl
theorem wz_X0 : Jvm.Cond.initialized "RetryStorm$Clients" ∈ WS := WS_1 7 (by decide +kernel) rfl
theorem wz_J7 : Jvm.Cond.initialized "java/util/Arrays" ∈ WS := WS_1 8 (by decide +kernel) rfl
theorem wz_X1 : Jvm.Cond.initialized "RetryStorm$Servers" ∈ WS := WS_1 9 (by decide +kernel) rfl
theorem wk_L_20 : Jvm.Cond.classLink "RetryStormLaw" (20 : Nat) "RetryStorm" ∈ WS := WS_1 10 (by decide +kernel) rfl
theorem wa_X5 : Jvm.Cond.instantiable "RetryStorm" (4 : Nat) ∈ WS := WS_1 11 (by decide +kernel) rfl
theorem wm_L_78 : Jvm.Cond.methodLink "RetryStormLaw" (78 : Nat) ({ cls := "RetryStorm", name := "<init>", desc := "()V" } : Jvm.MethodName) ∈ WS := WS_1 12 (by decide +kernel) rfl
theorem wi_X5_init : Jvm.Cond.instanceMethod ({ cls := "RetryStorm", name := "<init>", desc := "()V" } : Jvm.MethodName) ∈ WS := WS_1 13 (by decide +kernel) rfl
theorem wc_X5_init : Jvm.Cond.code ({ cls := "RetryStorm", name := "<init>", desc := "()V" } : Jvm.MethodName) prog_1_method_1_code (2 : Nat) (Option.none : Option Jvm.ClassFile.FieldType) ∈ WS := WS_1 14 rfl rfl
theorem wm_X5_1 : Jvm.Cond.methodLink "RetryStorm" (1 : Nat) ({ cls := "java/lang/Object", name := "<init>", desc := "()V" } : Jvm.MethodName) ∈ WS := WS_1 15 (by decide +kernel) rfl
theorem wi__java_lang_Object_init___V : Jvm.Cond.instanceMethod ({ cls := "java/lang/Object", name := "<init>", desc := "()V" } : Jvm.MethodName) ∈ WS := WS_1 16 (by decide +kernel) rfl
theorem wc__java_lang_Object__init_ : Jvm.Cond.code ({ cls := "java/lang/Object", name := "<init>", desc := "()V" } : Jvm.MethodName) object_method_1_code (1 : Nat) (Option.none : Option Jvm.ClassFile.FieldType) ∈ WS := WS_1 17 rfl rfl
theorem wk_X5_7 : Jvm.Cond.classLink "RetryStorm" (7 : Nat) "RetryStorm$State" ∈ WS := WS_1 18 (by decide +kernel) rfl
theorem wa_X2 : Jvm.Cond.instantiable "RetryStorm$State" (18 : Nat) ∈ WS := WS_1 19 (by decide +kernel) rfl
theorem wm_X5_9 : Jvm.Cond.methodLink "RetryStorm" (9 : Nat) ({ cls := "RetryStorm$State", name := "<init>", desc := "()V" } : Jvm.MethodName) ∈ WS := WS_1 20 (by decide +kernel) rfl
theorem wi_X2_init : Jvm.Cond.instanceMethod ({ cls := "RetryStorm$State", name := "<init>", desc := "()V" } : Jvm.MethodName) ∈ WS := WS_1 21 (by decide +kernel) rfl
theorem wc_X2_init : Jvm.Cond.code ({ cls := "RetryStorm$State", name := "<init>", desc := "()V" } : Jvm.MethodName) prog_4_method_1_code (2 : Nat) (Option.none : Option Jvm.ClassFile.FieldType) ∈ WS := WS_1 22 rfl rfl
theorem wm_X2_3 : Jvm.Cond.methodLink "RetryStorm$State" (3 : Nat) ({ cls := "java/lang/Object", name := "<init>", desc := "()V" } : Jvm.MethodName) ∈ WS := WS_1 23 (by decide +kernel) rfl
theorem wk_X2_9 : Jvm.Cond.classLink "RetryStorm$State" (9 : Nat) "RetryStorm$Table" ∈ WS := WS_1 24 (by decide +kernel) rfl
theorem wa_X3 : Jvm.Cond.instantiable "RetryStorm$Table" (3 : Nat) ∈ WS := WS_1 25 (by decide +kernel) rfl
theorem wm_X2_11 : Jvm.Cond.methodLink "RetryStorm$State" (11 : Nat) ({ cls := "RetryStorm$Table", name := "<init>", desc := "(III)V" } : Jvm.MethodName) ∈ WS := WS_1 26 (by decide +kernel) rfl
theorem wi_X3_init : Jvm.Cond.instanceMethod ({ cls := "RetryStorm$Table", name := "<init>", desc := "(III)V" } : Jvm.MethodName) ∈ WS := WS_1 27 (by decide +kernel) rfl
theorem wc_X3_init : Jvm.Cond.code ({ cls := "RetryStorm$Table", name := "<init>", desc := "(III)V" } : Jvm.MethodName) prog_5_method_1_code (4 : Nat) (Option.none : Option Jvm.ClassFile.FieldType) ∈ WS := WS_1 28 rfl rfl
theorem wm_X3_3 : Jvm.Cond.methodLink "RetryStorm$Table" (3 : Nat) ({ cls := "java/lang/Object", name := "<init>", desc := "()V" } : Jvm.MethodName) ∈ WS := WS_1 29 (by decide +kernel) rfl
theorem wm_X3_15 : Jvm.Cond.methodLink "RetryStorm$Table" (15 : Nat) ({ cls := "java/lang/Math", name := "max", desc := "(II)I" } : Jvm.MethodName) ∈ WS := WS_1 30 (by decide +kernel) rfl
theorem wt_J9_max_7cf53 : Jvm.Cond.static ({ cls := "java/lang/Math", name := "max", desc := "(II)I" } : Jvm.MethodName) ∈ WS := WS_1 31 (by decide +kernel) rfl
theorem wc_J9_max_7cf53 : Jvm.Cond.code ({ cls := "java/lang/Math", name := "max", desc := "(II)I" } : Jvm.MethodName) prog_9_method_65_code (2 : Nat) (Option.some Jvm.ClassFile.FieldType.int) ∈ WS := WS_1 32 rfl rfl
theorem wf_X3_9 : Jvm.Cond.fieldLink "RetryStorm$Table" (9 : Nat) "RetryStorm$Table" "width" "I" ∈ WS := WS_1 33 (by decide +kernel) rfl
theorem wf_X3_21 : Jvm.Cond.fieldLink "RetryStorm$Table" (21 : Nat) "RetryStorm$Table" "cells" "[I" ∈ WS := WS_1 34 (by decide +kernel) rfl
theorem wf_X3_25 : Jvm.Cond.fieldLink "RetryStorm$Table" (25 : Nat) "RetryStorm$Table" "size" "I" ∈ WS := WS_1 35 (by decide +kernel) rfl
theorem wl_X3_width : Jvm.Cond.laysFinal "RetryStorm$Table" "RetryStorm$Table" "width" "I" ∈ WS := WS_1 36 (by decide +kernel) rfl
theorem wl_X3_cells : Jvm.Cond.laysFinal "RetryStorm$Table" "RetryStorm$Table" "cells" "[I" ∈ WS := WS_1 38 (by decide +kernel) rfl
theorem wl_X3_size : Jvm.Cond.lays "RetryStorm$Table" "RetryStorm$Table" "size" "I" ∈ WS := WS_1 40 (by decide +kernel) rfl
theorem w_arrI : Jvm.Cond.arrayClass Jvm.ClassFile.FieldType.int ∈ WS := WS_1 43 (by decide +kernel) rfl
theorem wf_X2_54 : Jvm.Cond.fieldLinkNest "RetryStorm$State" (54 : Nat) "RetryStorm" "AT_FIRST" "[I" "RetryStorm" ∈ lw_tbl := List.mem_append_right _ (List.mem_append_left _ (List.mem_of_getElem? (i := 44) (by decide +kernel)))
theorem wl_X5_AT_FIRST : Jvm.Cond.laysStatic "RetryStorm" "AT_FIRST" "[I" ∈ lw_tbl := List.mem_append_right _ (List.mem_append_left _ (List.mem_of_getElem? (i := 45) (by decide +kernel)))
theorem wm_X2_58 : Jvm.Cond.methodLink "RetryStorm$State" (58 : Nat) ({ cls := "RetryStorm$Table", name := "putInAll", desc := "(II)V" } : Jvm.MethodName) ∈ WS := WS_1 46 (by decide +kernel) rfl
theorem wi_X3_putInAll : Jvm.Cond.instanceMethod ({ cls := "RetryStorm$Table", name := "putInAll", desc := "(II)V" } : Jvm.MethodName) ∈ WS := WS_1 47 (by decide +kernel) rfl
theorem we_X3_putInAll : Jvm.Cond.selects "RetryStorm$Table" ({ cls := "RetryStorm$Table", name := "putInAll", desc := "(II)V" } : Jvm.MethodName) ({ cls := "RetryStorm$Table", name := "putInAll", desc := "(II)V" } : Jvm.MethodName) ∈ WS := WS_1 48 (by decide +kernel) rfl
theorem wc_X3_putInAll : Jvm.Cond.code ({ cls := "RetryStorm$Table", name := "putInAll", desc := "(II)V" } : Jvm.MethodName) prog_5_method_6_code (4 : Nat) (Option.none : Option Jvm.ClassFile.FieldType) ∈ WS := WS_1 49 rfl rfl
theorem wm_X3_31 : Jvm.Cond.methodLink "RetryStorm$Table" (31 : Nat) ({ cls := "RetryStorm$Table", name := "put", desc := "(III)V" } : Jvm.MethodName) ∈ WS := WS_1 50 (by decide +kernel) rfl
theorem wi_X3_put : Jvm.Cond.instanceMethod ({ cls := "RetryStorm$Table", name := "put", desc := "(III)V" } : Jvm.MethodName) ∈ WS := WS_1 51 (by decide +kernel) rfl
theorem we_X3_put : Jvm.Cond.selects "RetryStorm$Table" ({ cls := "RetryStorm$Table", name := "put", desc := "(III)V" } : Jvm.MethodName) ({ cls := "RetryStorm$Table", name := "put", desc := "(III)V" } : Jvm.MethodName) ∈ WS := WS_1 52 (by decide +kernel) rfl
theorem wc_X3_put : Jvm.Cond.code ({ cls := "RetryStorm$Table", name := "put", desc := "(III)V" } : Jvm.MethodName) prog_5_method_4_code (5 : Nat) (Option.none : Option Jvm.ClassFile.FieldType) ∈ WS := WS_1 53 rfl rfl
theorem wm_X2_62 : Jvm.Cond.methodLink "RetryStorm$State" (62 : Nat) ({ cls := "RetryStorm$Table", name := "put", desc := "(III)V" } : Jvm.MethodName) ∈ WS := WS_1 54 (by decide +kernel) rfl
theorem wf_X2_14 : Jvm.Cond.fieldLink "RetryStorm$State" (14 : Nat) "RetryStorm$State" "clients" "LRetryStorm$Table;" ∈ WS := WS_1 55 (by decide +kernel) rfl
theorem wf_X5_37 : Jvm.Cond.fieldLink "RetryStorm" (37 : Nat) "RetryStorm$State" "clients" "LRetryStorm$Table;" ∈ WS := WS_1 56 (by decide +kernel) rfl
theorem wf_X1_32 : Jvm.Cond.fieldLink "RetryStorm$Servers" (32 : Nat) "RetryStorm$State" "clients" "LRetryStorm$Table;" ∈ WS := WS_1 57 (by decide +kernel) rfl
theorem wf_X0_37 : Jvm.Cond.fieldLink "RetryStorm$Clients" (37 : Nat) "RetryStorm$State" "clients" "LRetryStorm$Table;" ∈ WS := WS_1 58 (by decide +kernel) rfl
theorem wf_X2_20 : Jvm.Cond.fieldLink "RetryStorm$State" (20 : Nat) "RetryStorm$State" "tallies" "LRetryStorm$Table;" ∈ WS := WS_1 59 (by decide +kernel) rfl
theorem wf_X5_51 : Jvm.Cond.fieldLink "RetryStorm" (51 : Nat) "RetryStorm$State" "tallies" "LRetryStorm$Table;" ∈ WS := WS_1 60 (by decide +kernel) rfl
theorem wf_X0_54 : Jvm.Cond.fieldLink "RetryStorm$Clients" (54 : Nat) "RetryStorm$State" "tallies" "LRetryStorm$Table;" ∈ WS := WS_1 61 (by decide +kernel) rfl
theorem wf_X1_120 : Jvm.Cond.fieldLink "RetryStorm$Servers" (120 : Nat) "RetryStorm$State" "tallies" "LRetryStorm$Table;" ∈ WS := WS_1 62 (by decide +kernel) rfl
theorem wf_X2_23 : Jvm.Cond.fieldLink "RetryStorm$State" (23 : Nat) "RetryStorm$State" "surges" "LRetryStorm$Table;" ∈ WS := WS_1 63 (by decide +kernel) rfl
theorem wf_X0_51 : Jvm.Cond.fieldLink "RetryStorm$Clients" (51 : Nat) "RetryStorm$State" "surges" "LRetryStorm$Table;" ∈ WS := WS_1 64 (by decide +kernel) rfl
theorem wf_X5_75 : Jvm.Cond.fieldLink "RetryStorm" (75 : Nat) "RetryStorm$State" "surges" "LRetryStorm$Table;" ∈ WS := WS_1 65 (by decide +kernel) rfl
theorem wf_X2_26 : Jvm.Cond.fieldLink "RetryStorm$State" (26 : Nat) "RetryStorm$State" "servers" "LRetryStorm$Table;" ∈ WS := WS_1 66 (by decide +kernel) rfl
theorem wf_X1_35 : Jvm.Cond.fieldLink "RetryStorm$Servers" (35 : Nat) "RetryStorm$State" "servers" "LRetryStorm$Table;" ∈ WS := WS_1 67 (by decide +kernel) rfl
theorem wf_X5_62 : Jvm.Cond.fieldLink "RetryStorm" (62 : Nat) "RetryStorm$State" "servers" "LRetryStorm$Table;" ∈ WS := WS_1 68 (by decide +kernel) rfl
theorem wf_X0_88 : Jvm.Cond.fieldLink "RetryStorm$Clients" (88 : Nat) "RetryStorm$State" "servers" "LRetryStorm$Table;" ∈ WS := WS_1 69 (by decide +kernel) rfl
theorem wf_X2_29 : Jvm.Cond.fieldLink "RetryStorm$State" (29 : Nat) "RetryStorm$State" "switches" "LRetryStorm$Table;" ∈ WS := WS_1 70 (by decide +kernel) rfl
theorem wf_X5_69 : Jvm.Cond.fieldLink "RetryStorm" (69 : Nat) "RetryStorm$State" "switches" "LRetryStorm$Table;" ∈ WS := WS_1 71 (by decide +kernel) rfl
theorem wf_X0_91 : Jvm.Cond.fieldLink "RetryStorm$Clients" (91 : Nat) "RetryStorm$State" "switches" "LRetryStorm$Table;" ∈ WS := WS_1 72 (by decide +kernel) rfl
theorem wf_X1_101 : Jvm.Cond.fieldLink "RetryStorm$Servers" (101 : Nat) "RetryStorm$State" "switches" "LRetryStorm$Table;" ∈ WS := WS_1 73 (by decide +kernel) rfl
theorem wf_X2_32 : Jvm.Cond.fieldLink "RetryStorm$State" (32 : Nat) "RetryStorm$State" "requests" "LRetryStorm$Table;" ∈ WS := WS_1 74 (by decide +kernel) rfl
theorem wf_X1_9 : Jvm.Cond.fieldLink "RetryStorm$Servers" (9 : Nat) "RetryStorm$State" "requests" "LRetryStorm$Table;" ∈ WS := WS_1 75 (by decide +kernel) rfl
theorem wf_X0_69 : Jvm.Cond.fieldLink "RetryStorm$Clients" (69 : Nat) "RetryStorm$State" "requests" "LRetryStorm$Table;" ∈ WS := WS_1 76 (by decide +kernel) rfl
theorem wf_X5_90 : Jvm.Cond.fieldLink "RetryStorm" (90 : Nat) "RetryStorm$State" "requests" "LRetryStorm$Table;" ∈ WS := WS_1 77 (by decide +kernel) rfl
theorem wf_X2_35 : Jvm.Cond.fieldLink "RetryStorm$State" (35 : Nat) "RetryStorm$State" "queue" "LRetryStorm$Table;" ∈ WS := WS_1 78 (by decide +kernel) rfl
theorem wf_X1_21 : Jvm.Cond.fieldLink "RetryStorm$Servers" (21 : Nat) "RetryStorm$State" "queue" "LRetryStorm$Table;" ∈ WS := WS_1 79 (by decide +kernel) rfl
theorem wf_X4_61 : Jvm.Cond.fieldLink "RetryStorm$Ticks" (61 : Nat) "RetryStorm$State" "queue" "LRetryStorm$Table;" ∈ WS := WS_1 80 (by decide +kernel) rfl
theorem wf_X0_82 : Jvm.Cond.fieldLink "RetryStorm$Clients" (82 : Nat) "RetryStorm$State" "queue" "LRetryStorm$Table;" ∈ WS := WS_1 81 (by decide +kernel) rfl
theorem wf_X5_100 : Jvm.Cond.fieldLink "RetryStorm" (100 : Nat) "RetryStorm$State" "queue" "LRetryStorm$Table;" ∈ WS := WS_1 82 (by decide +kernel) rfl
theorem wf_X2_38 : Jvm.Cond.fieldLink "RetryStorm$State" (38 : Nat) "RetryStorm$State" "workers" "LRetryStorm$Table;" ∈ WS := WS_1 83 (by decide +kernel) rfl
theorem wf_X1_59 : Jvm.Cond.fieldLink "RetryStorm$Servers" (59 : Nat) "RetryStorm$State" "workers" "LRetryStorm$Table;" ∈ WS := WS_1 84 (by decide +kernel) rfl
theorem wf_X5_106 : Jvm.Cond.fieldLink "RetryStorm" (106 : Nat) "RetryStorm$State" "workers" "LRetryStorm$Table;" ∈ WS := WS_1 85 (by decide +kernel) rfl
theorem wf_X2_41 : Jvm.Cond.fieldLink "RetryStorm$State" (41 : Nat) "RetryStorm$State" "backQueue" "LRetryStorm$Table;" ∈ WS := WS_1 86 (by decide +kernel) rfl
theorem wf_X1_38 : Jvm.Cond.fieldLink "RetryStorm$Servers" (38 : Nat) "RetryStorm$State" "backQueue" "LRetryStorm$Table;" ∈ WS := WS_1 87 (by decide +kernel) rfl
theorem wf_X5_103 : Jvm.Cond.fieldLink "RetryStorm" (103 : Nat) "RetryStorm$State" "backQueue" "LRetryStorm$Table;" ∈ WS := WS_1 88 (by decide +kernel) rfl
theorem wf_X2_44 : Jvm.Cond.fieldLink "RetryStorm$State" (44 : Nat) "RetryStorm$State" "backWorkers" "LRetryStorm$Table;" ∈ WS := WS_1 89 (by decide +kernel) rfl
theorem wf_X1_44 : Jvm.Cond.fieldLink "RetryStorm$Servers" (44 : Nat) "RetryStorm$State" "backWorkers" "LRetryStorm$Table;" ∈ WS := WS_1 90 (by decide +kernel) rfl
theorem wf_X5_109 : Jvm.Cond.fieldLink "RetryStorm" (109 : Nat) "RetryStorm$State" "backWorkers" "LRetryStorm$Table;" ∈ WS := WS_1 91 (by decide +kernel) rfl
theorem wf_X2_47 : Jvm.Cond.fieldLink "RetryStorm$State" (47 : Nat) "RetryStorm$State" "history" "LRetryStorm$Table;" ∈ WS := WS_1 92 (by decide +kernel) rfl
theorem wf_X4_57 : Jvm.Cond.fieldLink "RetryStorm$Ticks" (57 : Nat) "RetryStorm$State" "history" "LRetryStorm$Table;" ∈ WS := WS_1 93 (by decide +kernel) rfl
theorem wf_X2_69 : Jvm.Cond.fieldLink "RetryStorm$State" (69 : Nat) "RetryStorm$State" "discipline" "I" ∈ WS := WS_1 94 (by decide +kernel) rfl
theorem wf_X5_65 : Jvm.Cond.fieldLink "RetryStorm" (65 : Nat) "RetryStorm$State" "discipline" "I" ∈ WS := WS_1 95 (by decide +kernel) rfl
theorem wf_X1_85 : Jvm.Cond.fieldLink "RetryStorm$Servers" (85 : Nat) "RetryStorm$State" "discipline" "I" ∈ WS := WS_1 96 (by decide +kernel) rfl
theorem wf_X4_39 : Jvm.Cond.fieldLink "RetryStorm$Ticks" (39 : Nat) "RetryStorm$State" "clock" "I" ∈ WS := WS_1 97 (by decide +kernel) rfl
theorem wf_X2_72 : Jvm.Cond.fieldLink "RetryStorm$State" (72 : Nat) "RetryStorm$State" "clock" "I" ∈ WS := WS_1 98 (by decide +kernel) rfl
theorem wf_X0_47 : Jvm.Cond.fieldLink "RetryStorm$Clients" (47 : Nat) "RetryStorm$State" "clock" "I" ∈ WS := WS_1 99 (by decide +kernel) rfl
theorem wf_X5_72 : Jvm.Cond.fieldLink "RetryStorm" (72 : Nat) "RetryStorm$State" "clock" "I" ∈ WS := WS_1 100 (by decide +kernel) rfl
theorem wf_X1_93 : Jvm.Cond.fieldLink "RetryStorm$Servers" (93 : Nat) "RetryStorm$State" "clock" "I" ∈ WS := WS_1 101 (by decide +kernel) rfl
theorem wf_X2_50 : Jvm.Cond.fieldLink "RetryStorm$State" (50 : Nat) "RetryStorm$State" "seed" "I" ∈ WS := WS_1 102 (by decide +kernel) rfl
theorem wf_X0_112 : Jvm.Cond.fieldLink "RetryStorm$Clients" (112 : Nat) "RetryStorm$State" "seed" "I" ∈ WS := WS_1 103 (by decide +kernel) rfl
theorem wf_X2_75 : Jvm.Cond.fieldLink "RetryStorm$State" (75 : Nat) "RetryStorm$State" "numbers" "I" ∈ WS := WS_1 104 (by decide +kernel) rfl
theorem wf_X0_76 : Jvm.Cond.fieldLink "RetryStorm$Clients" (76 : Nat) "RetryStorm$State" "numbers" "I" ∈ WS := WS_1 105 (by decide +kernel) rfl
theorem wf_X2_78 : Jvm.Cond.fieldLink "RetryStorm$State" (78 : Nat) "RetryStorm$State" "good" "I" ∈ WS := WS_1 106 (by decide +kernel) rfl
theorem wf_X5_112 : Jvm.Cond.fieldLink "RetryStorm" (112 : Nat) "RetryStorm$State" "good" "I" ∈ WS := WS_1 107 (by decide +kernel) rfl
theorem wf_X1_117 : Jvm.Cond.fieldLink "RetryStorm$Servers" (117 : Nat) "RetryStorm$State" "good" "I" ∈ WS := WS_1 108 (by decide +kernel) rfl
theorem wf_X4_15 : Jvm.Cond.fieldLink "RetryStorm$Ticks" (15 : Nat) "RetryStorm$State" "wasted" "I" ∈ WS := WS_1 109 (by decide +kernel) rfl
theorem wf_X2_81 : Jvm.Cond.fieldLink "RetryStorm$State" (81 : Nat) "RetryStorm$State" "wasted" "I" ∈ WS := WS_1 110 (by decide +kernel) rfl
theorem wf_X5_115 : Jvm.Cond.fieldLink "RetryStorm" (115 : Nat) "RetryStorm$State" "wasted" "I" ∈ WS := WS_1 111 (by decide +kernel) rfl
theorem wf_X1_123 : Jvm.Cond.fieldLink "RetryStorm$Servers" (123 : Nat) "RetryStorm$State" "wasted" "I" ∈ WS := WS_1 112 (by decide +kernel) rfl
theorem wf_X4_74 : Jvm.Cond.fieldLink "RetryStorm$Ticks" (74 : Nat) "RetryStorm$State" "longest" "I" ∈ WS := WS_1 113 (by decide +kernel) rfl
theorem wf_X2_84 : Jvm.Cond.fieldLink "RetryStorm$State" (84 : Nat) "RetryStorm$State" "longest" "I" ∈ WS := WS_1 114 (by decide +kernel) rfl
theorem wf_X5_121 : Jvm.Cond.fieldLink "RetryStorm" (121 : Nat) "RetryStorm$State" "longest" "I" ∈ WS := WS_1 115 (by decide +kernel) rfl
theorem wl_X2_clients : Jvm.Cond.laysFinal "RetryStorm$State" "RetryStorm$State" "clients" "LRetryStorm$Table;" ∈ WS := WS_1 116 (by decide +kernel) rfl
theorem wl_X2_tallies : Jvm.Cond.laysFinal "RetryStorm$State" "RetryStorm$State" "tallies" "LRetryStorm$Table;" ∈ WS := WS_1 118 (by decide +kernel) rfl
theorem wl_X2_surges : Jvm.Cond.laysFinal "RetryStorm$State" "RetryStorm$State" "surges" "LRetryStorm$Table;" ∈ WS := WS_1 120 (by decide +kernel) rfl
theorem wl_X2_servers : Jvm.Cond.laysFinal "RetryStorm$State" "RetryStorm$State" "servers" "LRetryStorm$Table;" ∈ WS := WS_1 122 (by decide +kernel) rfl
theorem wl_X2_switches : Jvm.Cond.laysFinal "RetryStorm$State" "RetryStorm$State" "switches" "LRetryStorm$Table;" ∈ WS := WS_1 124 (by decide +kernel) rfl
theorem wl_X2_requests : Jvm.Cond.laysFinal "RetryStorm$State" "RetryStorm$State" "requests" "LRetryStorm$Table;" ∈ WS := WS_1 126 (by decide +kernel) rfl
theorem wl_X2_queue : Jvm.Cond.laysFinal "RetryStorm$State" "RetryStorm$State" "queue" "LRetryStorm$Table;" ∈ WS := WS_1 128 (by decide +kernel) rfl
theorem wl_X2_workers : Jvm.Cond.laysFinal "RetryStorm$State" "RetryStorm$State" "workers" "LRetryStorm$Table;" ∈ WS := WS_1 130 (by decide +kernel) rfl
theorem wl_X2_backQueue : Jvm.Cond.laysFinal "RetryStorm$State" "RetryStorm$State" "backQueue" "LRetryStorm$Table;" ∈ WS := WS_1 132 (by decide +kernel) rfl
theorem wl_X2_backWorkers : Jvm.Cond.laysFinal "RetryStorm$State" "RetryStorm$State" "backWorkers" "LRetryStorm$Table;" ∈ WS := WS_1 134 (by decide +kernel) rfl
theorem wl_X2_history : Jvm.Cond.laysFinal "RetryStorm$State" "RetryStorm$State" "history" "LRetryStorm$Table;" ∈ WS := WS_1 136 (by decide +kernel) rfl
theorem wl_X2_discipline : Jvm.Cond.lays "RetryStorm$State" "RetryStorm$State" "discipline" "I" ∈ WS := WS_1 138 (by decide +kernel) rfl
theorem wl_X2_clock : Jvm.Cond.lays "RetryStorm$State" "RetryStorm$State" "clock" "I" ∈ WS := WS_1 140 (by decide +kernel) rfl
theorem wl_X2_seed : Jvm.Cond.lays "RetryStorm$State" "RetryStorm$State" "seed" "I" ∈ WS := WS_1 142 (by decide +kernel) rfl
theorem wl_X2_numbers : Jvm.Cond.lays "RetryStorm$State" "RetryStorm$State" "numbers" "I" ∈ WS := WS_1 144 (by decide +kernel) rfl
theorem wl_X2_good : Jvm.Cond.lays "RetryStorm$State" "RetryStorm$State" "good" "I" ∈ WS := WS_1 146 (by decide +kernel) rfl
theorem wl_X2_wasted : Jvm.Cond.lays "RetryStorm$State" "RetryStorm$State" "wasted" "I" ∈ WS := WS_1 148 (by decide +kernel) rfl
theorem wl_X2_longest : Jvm.Cond.lays "RetryStorm$State" "RetryStorm$State" "longest" "I" ∈ WS := WS_1 150 (by decide +kernel) rfl
theorem w_arrS : Jvm.Cond.arrayOver (Jvm.ClassFile.FieldType.object "RetryStorm$State") ∈ lw_tbl := List.mem_append_right _ (List.mem_append_left _ (List.mem_of_getElem? (i := 153) (by decide +kernel)))
theorem wf_X5_10 : Jvm.Cond.fieldLink "RetryStorm" (10 : Nat) "RetryStorm" "state" "LRetryStorm$State;" ∈ WS := WS_1 154 (by decide +kernel) rfl
theorem wf_X5_16 : Jvm.Cond.fieldLink "RetryStorm" (16 : Nat) "RetryStorm" "trial" "LRetryStorm$State;" ∈ WS := WS_1 155 (by decide +kernel) rfl
theorem wf_X5_19 : Jvm.Cond.fieldLink "RetryStorm" (19 : Nat) "RetryStorm" "recorded" "[LRetryStorm$State;" ∈ WS := WS_1 156 (by decide +kernel) rfl
theorem wf_X5_124 : Jvm.Cond.fieldLink "RetryStorm" (124 : Nat) "RetryStorm" "records" "I" ∈ WS := WS_1 157 (by decide +kernel) rfl
theorem wl_X5_state : Jvm.Cond.laysFinal "RetryStorm" "RetryStorm" "state" "LRetryStorm$State;" ∈ WS := WS_1 158 (by decide +kernel) rfl
theorem wl_X5_trial : Jvm.Cond.laysFinal "RetryStorm" "RetryStorm" "trial" "LRetryStorm$State;" ∈ WS := WS_1 160 (by decide +kernel) rfl
theorem wl_X5_recorded : Jvm.Cond.laysFinal "RetryStorm" "RetryStorm" "recorded" "[LRetryStorm$State;" ∈ WS := WS_1 162 (by decide +kernel) rfl
theorem wl_X5_records : Jvm.Cond.lays "RetryStorm" "RetryStorm" "records" "I" ∈ WS := WS_1 164 (by decide +kernel) rfl
theorem wm_L_58 : Jvm.Cond.methodLink "RetryStormLaw" (58 : Nat) ({ cls := "RetryStorm", name := "run", desc := "(I)I" } : Jvm.MethodName) ∈ WS := WS_1 167 (by decide +kernel) rfl
theorem wi_X5_run : Jvm.Cond.instanceMethod ({ cls := "RetryStorm", name := "run", desc := "(I)I" } : Jvm.MethodName) ∈ WS := WS_1 168 (by decide +kernel) rfl
theorem we_X5_run : Jvm.Cond.selects "RetryStorm" ({ cls := "RetryStorm", name := "run", desc := "(I)I" } : Jvm.MethodName) ({ cls := "RetryStorm", name := "run", desc := "(I)I" } : Jvm.MethodName) ∈ WS := WS_1 169 (by decide +kernel) rfl
theorem wc_X5_run : Jvm.Cond.code ({ cls := "RetryStorm", name := "run", desc := "(I)I" } : Jvm.MethodName) prog_1_method_8_code (4 : Nat) (Option.some Jvm.ClassFile.FieldType.int) ∈ WS := WS_1 170 rfl rfl
theorem wm_X5_34 : Jvm.Cond.methodLink "RetryStorm" (34 : Nat) ({ cls := "RetryStorm", name := "keepState", desc := "()V" } : Jvm.MethodName) ∈ WS := WS_1 171 (by decide +kernel) rfl
theorem wi_X5_keepState : Jvm.Cond.instanceMethod ({ cls := "RetryStorm", name := "keepState", desc := "()V" } : Jvm.MethodName) ∈ WS := WS_1 173 (by decide +kernel) rfl
theorem wc_X5_keepState : Jvm.Cond.code ({ cls := "RetryStorm", name := "keepState", desc := "()V" } : Jvm.MethodName) prog_1_method_31_code (2 : Nat) (Option.none : Option Jvm.ClassFile.FieldType) ∈ WS := WS_1 174 rfl rfl
theorem wm_X5_193 : Jvm.Cond.methodLink "RetryStorm" (193 : Nat) ({ cls := "RetryStorm", name := "dropOldestRecord", desc := "()V" } : Jvm.MethodName) ∈ WS := WS_1 175 (by decide +kernel) rfl
theorem wi_X5_dropOldestRecord : Jvm.Cond.instanceMethod ({ cls := "RetryStorm", name := "dropOldestRecord", desc := "()V" } : Jvm.MethodName) ∈ WS := WS_1 177 (by decide +kernel) rfl
theorem wc_X5_dropOldestRecord : Jvm.Cond.code ({ cls := "RetryStorm", name := "dropOldestRecord", desc := "()V" } : Jvm.MethodName) prog_1_method_32_code (3 : Nat) (Option.none : Option Jvm.ClassFile.FieldType) ∈ WS := WS_1 178 rfl rfl
theorem wm_X5_146 : Jvm.Cond.methodLink "RetryStorm" (146 : Nat) ({ cls := "RetryStorm$State", name := "copyFrom", desc := "(LRetryStorm$State;)V" } : Jvm.MethodName) ∈ WS := WS_1 179 (by decide +kernel) rfl
theorem wi_X2_copyFrom : Jvm.Cond.instanceMethod ({ cls := "RetryStorm$State", name := "copyFrom", desc := "(LRetryStorm$State;)V" } : Jvm.MethodName) ∈ WS := WS_1 180 (by decide +kernel) rfl
theorem we_X2_copyFrom : Jvm.Cond.selects "RetryStorm$State" ({ cls := "RetryStorm$State", name := "copyFrom", desc := "(LRetryStorm$State;)V" } : Jvm.MethodName) ({ cls := "RetryStorm$State", name := "copyFrom", desc := "(LRetryStorm$State;)V" } : Jvm.MethodName) ∈ WS := WS_1 181 (by decide +kernel) rfl
theorem wc_X2_copyFrom : Jvm.Cond.code ({ cls := "RetryStorm$State", name := "copyFrom", desc := "(LRetryStorm$State;)V" } : Jvm.MethodName) prog_4_method_2_code (2 : Nat) (Option.none : Option Jvm.ClassFile.FieldType) ∈ WS := WS_1 182 rfl rfl
theorem wm_X2_65 : Jvm.Cond.methodLink "RetryStorm$State" (65 : Nat) ({ cls := "RetryStorm$Table", name := "copyFrom", desc := "(LRetryStorm$Table;)V" } : Jvm.MethodName) ∈ WS := WS_1 183 (by decide +kernel) rfl
theorem wi_X3_copyFrom : Jvm.Cond.instanceMethod ({ cls := "RetryStorm$Table", name := "copyFrom", desc := "(LRetryStorm$Table;)V" } : Jvm.MethodName) ∈ WS := WS_1 184 (by decide +kernel) rfl
theorem we_X3_copyFrom : Jvm.Cond.selects "RetryStorm$Table" ({ cls := "RetryStorm$Table", name := "copyFrom", desc := "(LRetryStorm$Table;)V" } : Jvm.MethodName) ({ cls := "RetryStorm$Table", name := "copyFrom", desc := "(LRetryStorm$Table;)V" } : Jvm.MethodName) ∈ WS := WS_1 185 (by decide +kernel) rfl
theorem wc_X3_copyFrom : Jvm.Cond.code ({ cls := "RetryStorm$Table", name := "copyFrom", desc := "(LRetryStorm$Table;)V" } : Jvm.MethodName) prog_5_method_13_code (2 : Nat) (Option.none : Option Jvm.ClassFile.FieldType) ∈ WS := WS_1 186 rfl rfl
theorem wm_X3_47 : Jvm.Cond.methodLink "RetryStorm$Table" (47 : Nat) ({ cls := "java/lang/Math", name := "min", desc := "(II)I" } : Jvm.MethodName) ∈ WS := WS_1 187 (by decide +kernel) rfl
theorem wt_J9_min_7cf53 : Jvm.Cond.static ({ cls := "java/lang/Math", name := "min", desc := "(II)I" } : Jvm.MethodName) ∈ WS := WS_1 188 (by decide +kernel) rfl
theorem wc_J9_min_7cf53 : Jvm.Cond.code ({ cls := "java/lang/Math", name := "min", desc := "(II)I" } : Jvm.MethodName) prog_9_method_69_code (2 : Nat) (Option.some Jvm.ClassFile.FieldType.int) ∈ WS := WS_1 189 rfl rfl
theorem wm_X3_41 : Jvm.Cond.methodLink "RetryStorm$Table" (41 : Nat) ({ cls := "java/lang/System", name := "arraycopy", desc := "(Ljava/lang/Object;ILjava/lang/Object;II)V" } : Jvm.MethodName) ∈ WS := WS_1 190 (by decide +kernel) rfl
theorem wt__java_lang_System_arraycopy : Jvm.Cond.static ({ cls := "java/lang/System", name := "arraycopy", desc := "(Ljava/lang/Object;ILjava/lang/Object;II)V" } : Jvm.MethodName) ∈ WS := WS_1 191 (by decide +kernel) rfl
theorem wn_arraycopy : Jvm.Cond.native ({ cls := "java/lang/System", name := "arraycopy", desc := "(Ljava/lang/Object;ILjava/lang/Object;II)V" } : Jvm.MethodName) ∈ WS := WS_1 192 (by decide +kernel) rfl
theorem wm_X5_78 : Jvm.Cond.methodLink "RetryStorm" (78 : Nat) ({ cls := "RetryStorm$State", name := "total", desc := "(I)I" } : Jvm.MethodName) ∈ WS := WS_1 193 (by decide +kernel) rfl
theorem wi_X2_total : Jvm.Cond.instanceMethod ({ cls := "RetryStorm$State", name := "total", desc := "(I)I" } : Jvm.MethodName) ∈ WS := WS_1 194 (by decide +kernel) rfl
theorem we_X2_total : Jvm.Cond.selects "RetryStorm$State" ({ cls := "RetryStorm$State", name := "total", desc := "(I)I" } : Jvm.MethodName) ({ cls := "RetryStorm$State", name := "total", desc := "(I)I" } : Jvm.MethodName) ∈ WS := WS_1 195 (by decide +kernel) rfl
theorem wc_X2_total : Jvm.Cond.code ({ cls := "RetryStorm$State", name := "total", desc := "(I)I" } : Jvm.MethodName) prog_4_method_3_code (2 : Nat) (Option.some Jvm.ClassFile.FieldType.int) ∈ WS := WS_1 196 rfl rfl
theorem wm_X2_87 : Jvm.Cond.methodLink "RetryStorm$State" (87 : Nat) ({ cls := "RetryStorm$Table", name := "sumOf", desc := "(I)I" } : Jvm.MethodName) ∈ WS := WS_1 197 (by decide +kernel) rfl
theorem wi_X3_sumOf : Jvm.Cond.instanceMethod ({ cls := "RetryStorm$Table", name := "sumOf", desc := "(I)I" } : Jvm.MethodName) ∈ WS := WS_1 198 (by decide +kernel) rfl
theorem we_X3_sumOf : Jvm.Cond.selects "RetryStorm$Table" ({ cls := "RetryStorm$Table", name := "sumOf", desc := "(I)I" } : Jvm.MethodName) ({ cls := "RetryStorm$Table", name := "sumOf", desc := "(I)I" } : Jvm.MethodName) ∈ WS := WS_1 199 (by decide +kernel) rfl
theorem wc_X3_sumOf : Jvm.Cond.code ({ cls := "RetryStorm$Table", name := "sumOf", desc := "(I)I" } : Jvm.MethodName) prog_5_method_11_code (4 : Nat) (Option.some Jvm.ClassFile.FieldType.int) ∈ WS := WS_1 200 rfl rfl
theorem wm_X3_28 : Jvm.Cond.methodLink "RetryStorm$Table" (28 : Nat) ({ cls := "RetryStorm$Table", name := "get", desc := "(II)I" } : Jvm.MethodName) ∈ WS := WS_1 201 (by decide +kernel) rfl
theorem wi_X3_get : Jvm.Cond.instanceMethod ({ cls := "RetryStorm$Table", name := "get", desc := "(II)I" } : Jvm.MethodName) ∈ WS := WS_1 202 (by decide +kernel) rfl
theorem we_X3_get : Jvm.Cond.selects "RetryStorm$Table" ({ cls := "RetryStorm$Table", name := "get", desc := "(II)I" } : Jvm.MethodName) ({ cls := "RetryStorm$Table", name := "get", desc := "(II)I" } : Jvm.MethodName) ∈ WS := WS_1 203 (by decide +kernel) rfl
theorem wc_X3_get : Jvm.Cond.code ({ cls := "RetryStorm$Table", name := "get", desc := "(II)I" } : Jvm.MethodName) prog_5_method_3_code (4 : Nat) (Option.some Jvm.ClassFile.FieldType.int) ∈ WS := WS_1 204 rfl rfl
theorem wm_X5_81 : Jvm.Cond.methodLink "RetryStorm" (81 : Nat) ({ cls := "RetryStorm$Ticks", name := "pass", desc := "(LRetryStorm$State;)V" } : Jvm.MethodName) ∈ WS := WS_1 205 (by decide +kernel) rfl
theorem wt_X4_pass : Jvm.Cond.static ({ cls := "RetryStorm$Ticks", name := "pass", desc := "(LRetryStorm$State;)V" } : Jvm.MethodName) ∈ WS := WS_1 206 (by decide +kernel) rfl
theorem wc_X4_pass : Jvm.Cond.code ({ cls := "RetryStorm$Ticks", name := "pass", desc := "(LRetryStorm$State;)V" } : Jvm.MethodName) prog_6_method_2_code (5 : Nat) (Option.none : Option Jvm.ClassFile.FieldType) ∈ WS := WS_1 207 rfl rfl
theorem wm_X4_9 : Jvm.Cond.methodLink "RetryStorm$Ticks" (9 : Nat) ({ cls := "RetryStorm$State", name := "total", desc := "(I)I" } : Jvm.MethodName) ∈ WS := WS_1 208 (by decide +kernel) rfl
theorem wm_X4_19 : Jvm.Cond.methodLink "RetryStorm$Ticks" (19 : Nat) ({ cls := "RetryStorm$Clients", name := "createRequests", desc := "(LRetryStorm$State;)V" } : Jvm.MethodName) ∈ WS := WS_1 209 (by decide +kernel) rfl
theorem wt_X0_createRequests : Jvm.Cond.static ({ cls := "RetryStorm$Clients", name := "createRequests", desc := "(LRetryStorm$State;)V" } : Jvm.MethodName) ∈ WS := WS_1 210 (by decide +kernel) rfl
theorem wc_X0_createRequests : Jvm.Cond.code ({ cls := "RetryStorm$Clients", name := "createRequests", desc := "(LRetryStorm$State;)V" } : Jvm.MethodName) prog_2_method_2_code (5 : Nat) (Option.none : Option Jvm.ClassFile.FieldType) ∈ WS := WS_1 211 rfl rfl
theorem wm_X0_9 : Jvm.Cond.methodLink "RetryStorm$Clients" (9 : Nat) ({ cls := "RetryStorm$Clients", name := "births", desc := "(LRetryStorm$State;I)I" } : Jvm.MethodName) ∈ WS := WS_1 212 (by decide +kernel) rfl
theorem wt_X0_births : Jvm.Cond.static ({ cls := "RetryStorm$Clients", name := "births", desc := "(LRetryStorm$State;I)I" } : Jvm.MethodName) ∈ WS := WS_1 213 (by decide +kernel) rfl
theorem wc_X0_births : Jvm.Cond.code ({ cls := "RetryStorm$Clients", name := "births", desc := "(LRetryStorm$State;I)I" } : Jvm.MethodName) prog_2_method_5_code (5 : Nat) (Option.some Jvm.ClassFile.FieldType.int) ∈ WS := WS_1 214 rfl rfl
theorem wm_X0_41 : Jvm.Cond.methodLink "RetryStorm$Clients" (41 : Nat) ({ cls := "RetryStorm$Table", name := "get", desc := "(II)I" } : Jvm.MethodName) ∈ WS := WS_1 215 (by decide +kernel) rfl
theorem wm_X0_15 : Jvm.Cond.methodLink "RetryStorm$Clients" (15 : Nat) ({ cls := "RetryStorm$Clients", name := "create", desc := "(LRetryStorm$State;I)I" } : Jvm.MethodName) ∈ WS := WS_1 216 (by decide +kernel) rfl
theorem wt_X0_create : Jvm.Cond.static ({ cls := "RetryStorm$Clients", name := "create", desc := "(LRetryStorm$State;I)I" } : Jvm.MethodName) ∈ WS := WS_1 217 (by decide +kernel) rfl
theorem wc_X0_create : Jvm.Cond.code ({ cls := "RetryStorm$Clients", name := "create", desc := "(LRetryStorm$State;I)I" } : Jvm.MethodName) prog_2_method_6_code (5 : Nat) (Option.some Jvm.ClassFile.FieldType.int) ∈ WS := WS_1 218 rfl rfl
theorem wm_X0_57 : Jvm.Cond.methodLink "RetryStorm$Clients" (57 : Nat) ({ cls := "RetryStorm$Table", name := "add", desc := "(III)V" } : Jvm.MethodName) ∈ WS := WS_1 219 (by decide +kernel) rfl
theorem wi_X3_add : Jvm.Cond.instanceMethod ({ cls := "RetryStorm$Table", name := "add", desc := "(III)V" } : Jvm.MethodName) ∈ WS := WS_1 220 (by decide +kernel) rfl
theorem we_X3_add : Jvm.Cond.selects "RetryStorm$Table" ({ cls := "RetryStorm$Table", name := "add", desc := "(III)V" } : Jvm.MethodName) ({ cls := "RetryStorm$Table", name := "add", desc := "(III)V" } : Jvm.MethodName) ∈ WS := WS_1 221 (by decide +kernel) rfl
theorem wc_X3_add : Jvm.Cond.code ({ cls := "RetryStorm$Table", name := "add", desc := "(III)V" } : Jvm.MethodName) prog_5_method_5_code (4 : Nat) (Option.none : Option Jvm.ClassFile.FieldType) ∈ WS := WS_1 222 rfl rfl
theorem wm_X0_61 : Jvm.Cond.methodLink "RetryStorm$Clients" (61 : Nat) ({ cls := "java/lang/Math", name := "min", desc := "(II)I" } : Jvm.MethodName) ∈ WS := WS_1 223 (by decide +kernel) rfl
theorem wm_X0_66 : Jvm.Cond.methodLink "RetryStorm$Clients" (66 : Nat) ({ cls := "RetryStorm$Table", name := "put", desc := "(III)V" } : Jvm.MethodName) ∈ WS := WS_1 224 (by decide +kernel) rfl
theorem wm_X0_72 : Jvm.Cond.methodLink "RetryStorm$Clients" (72 : Nat) ({ cls := "RetryStorm$Table", name := "append", desc := "()I" } : Jvm.MethodName) ∈ WS := WS_1 225 (by decide +kernel) rfl
theorem wi_X3_append : Jvm.Cond.instanceMethod ({ cls := "RetryStorm$Table", name := "append", desc := "()I" } : Jvm.MethodName) ∈ WS := WS_1 226 (by decide +kernel) rfl
theorem we_X3_append : Jvm.Cond.selects "RetryStorm$Table" ({ cls := "RetryStorm$Table", name := "append", desc := "()I" } : Jvm.MethodName) ({ cls := "RetryStorm$Table", name := "append", desc := "()I" } : Jvm.MethodName) ∈ WS := WS_1 227 (by decide +kernel) rfl
theorem wc_X3_append : Jvm.Cond.code ({ cls := "RetryStorm$Table", name := "append", desc := "()I" } : Jvm.MethodName) prog_5_method_7_code (3 : Nat) (Option.some Jvm.ClassFile.FieldType.int) ∈ WS := WS_1 228 rfl rfl
theorem wm_X3_35 : Jvm.Cond.methodLink "RetryStorm$Table" (35 : Nat) ({ cls := "java/util/Arrays", name := "fill", desc := "([IIII)V" } : Jvm.MethodName) ∈ WS := WS_1 229 (by decide +kernel) rfl
theorem wt_J7_fill_fda19 : Jvm.Cond.static ({ cls := "java/util/Arrays", name := "fill", desc := "([IIII)V" } : Jvm.MethodName) ∈ WS := WS_1 230 (by decide +kernel) rfl
theorem wc_J7_fill_fda19 : Jvm.Cond.code ({ cls := "java/util/Arrays", name := "fill", desc := "([IIII)V" } : Jvm.MethodName) prog_11_method_104_code (5 : Nat) (Option.none : Option Jvm.ClassFile.FieldType) ∈ WS := WS_1 231 rfl rfl
theorem wm_J7_13 : Jvm.Cond.methodLink "java/util/Arrays" (13 : Nat) ({ cls := "java/util/Arrays", name := "rangeCheck", desc := "(III)V" } : Jvm.MethodName) ∈ WS := WS_1 232 (by decide +kernel) rfl
theorem wt_J7_rangeCheck_23922 : Jvm.Cond.static ({ cls := "java/util/Arrays", name := "rangeCheck", desc := "(III)V" } : Jvm.MethodName) ∈ WS := WS_1 233 (by decide +kernel) rfl
theorem wc_J7_rangeCheck_23922 : Jvm.Cond.code ({ cls := "java/util/Arrays", name := "rangeCheck", desc := "(III)V" } : Jvm.MethodName) prog_11_method_30_code (3 : Nat) (Option.none : Option Jvm.ClassFile.FieldType) ∈ WS := WS_1 234 rfl rfl
theorem wm_X0_18 : Jvm.Cond.methodLink "RetryStorm$Clients" (18 : Nat) ({ cls := "RetryStorm$Clients", name := "send", desc := "(LRetryStorm$State;I)I" } : Jvm.MethodName) ∈ WS := WS_1 235 (by decide +kernel) rfl
theorem wt_X0_send : Jvm.Cond.static ({ cls := "RetryStorm$Clients", name := "send", desc := "(LRetryStorm$State;I)I" } : Jvm.MethodName) ∈ WS := WS_1 236 (by decide +kernel) rfl
theorem wc_X0_send : Jvm.Cond.code ({ cls := "RetryStorm$Clients", name := "send", desc := "(LRetryStorm$State;I)I" } : Jvm.MethodName) prog_2_method_7_code (6 : Nat) (Option.some Jvm.ClassFile.FieldType.int) ∈ WS := WS_1 237 rfl rfl
theorem wm_X0_79 : Jvm.Cond.methodLink "RetryStorm$Clients" (79 : Nat) ({ cls := "RetryStorm$Table", name := "find", desc := "(II)I" } : Jvm.MethodName) ∈ WS := WS_1 238 (by decide +kernel) rfl
theorem wi_X3_find : Jvm.Cond.instanceMethod ({ cls := "RetryStorm$Table", name := "find", desc := "(II)I" } : Jvm.MethodName) ∈ WS := WS_1 239 (by decide +kernel) rfl
theorem we_X3_find : Jvm.Cond.selects "RetryStorm$Table" ({ cls := "RetryStorm$Table", name := "find", desc := "(II)I" } : Jvm.MethodName) ({ cls := "RetryStorm$Table", name := "find", desc := "(II)I" } : Jvm.MethodName) ∈ WS := WS_2 0 (by decide +kernel) rfl
theorem wc_X3_find : Jvm.Cond.code ({ cls := "RetryStorm$Table", name := "find", desc := "(II)I" } : Jvm.MethodName) prog_5_method_9_code (4 : Nat) (Option.some Jvm.ClassFile.FieldType.int) ∈ WS := WS_2 1 rfl rfl
theorem wm_X0_85 : Jvm.Cond.methodLink "RetryStorm$Clients" (85 : Nat) ({ cls := "RetryStorm$Table", name := "size", desc := "()I" } : Jvm.MethodName) ∈ WS := WS_2 2 (by decide +kernel) rfl
theorem wi_X3_size : Jvm.Cond.instanceMethod ({ cls := "RetryStorm$Table", name := "size", desc := "()I" } : Jvm.MethodName) ∈ WS := WS_2 3 (by decide +kernel) rfl
theorem we_X3_size : Jvm.Cond.selects "RetryStorm$Table" ({ cls := "RetryStorm$Table", name := "size", desc := "()I" } : Jvm.MethodName) ({ cls := "RetryStorm$Table", name := "size", desc := "()I" } : Jvm.MethodName) ∈ WS := WS_2 4 (by decide +kernel) rfl
theorem wc_X3_size : Jvm.Cond.code ({ cls := "RetryStorm$Table", name := "size", desc := "()I" } : Jvm.MethodName) prog_5_method_2_code (1 : Nat) (Option.some Jvm.ClassFile.FieldType.int) ∈ WS := WS_2 5 rfl rfl
theorem wm_X0_94 : Jvm.Cond.methodLink "RetryStorm$Clients" (94 : Nat) ({ cls := "RetryStorm$Table", name := "drop", desc := "(I)V" } : Jvm.MethodName) ∈ WS := WS_2 6 (by decide +kernel) rfl
theorem wi_X3_drop : Jvm.Cond.instanceMethod ({ cls := "RetryStorm$Table", name := "drop", desc := "(I)V" } : Jvm.MethodName) ∈ WS := WS_2 7 (by decide +kernel) rfl
theorem we_X3_drop : Jvm.Cond.selects "RetryStorm$Table" ({ cls := "RetryStorm$Table", name := "drop", desc := "(I)V" } : Jvm.MethodName) ({ cls := "RetryStorm$Table", name := "drop", desc := "(I)V" } : Jvm.MethodName) ∈ WS := WS_2 8 (by decide +kernel) rfl
theorem wc_X3_drop : Jvm.Cond.code ({ cls := "RetryStorm$Table", name := "drop", desc := "(I)V" } : Jvm.MethodName) prog_5_method_8_code (5 : Nat) (Option.none : Option Jvm.ClassFile.FieldType) ∈ WS := WS_2 9 rfl rfl
theorem wm_X0_98 : Jvm.Cond.methodLink "RetryStorm$Clients" (98 : Nat) ({ cls := "RetryStorm$Servers", name := "enqueue", desc := "(LRetryStorm$State;I)V" } : Jvm.MethodName) ∈ WS := WS_2 10 (by decide +kernel) rfl
theorem wt_X1_enqueue : Jvm.Cond.static ({ cls := "RetryStorm$Servers", name := "enqueue", desc := "(LRetryStorm$State;I)V" } : Jvm.MethodName) ∈ WS := WS_2 11 (by decide +kernel) rfl
theorem wc_X1_enqueue : Jvm.Cond.code ({ cls := "RetryStorm$Servers", name := "enqueue", desc := "(LRetryStorm$State;I)V" } : Jvm.MethodName) prog_3_method_2_code (4 : Nat) (Option.none : Option Jvm.ClassFile.FieldType) ∈ WS := WS_2 12 rfl rfl
theorem wm_X1_15 : Jvm.Cond.methodLink "RetryStorm$Servers" (15 : Nat) ({ cls := "RetryStorm$Table", name := "get", desc := "(II)I" } : Jvm.MethodName) ∈ WS := WS_2 13 (by decide +kernel) rfl
theorem wm_X1_24 : Jvm.Cond.methodLink "RetryStorm$Servers" (24 : Nat) ({ cls := "RetryStorm$Table", name := "append", desc := "()I" } : Jvm.MethodName) ∈ WS := WS_2 14 (by decide +kernel) rfl
theorem wm_X1_28 : Jvm.Cond.methodLink "RetryStorm$Servers" (28 : Nat) ({ cls := "RetryStorm$Table", name := "put", desc := "(III)V" } : Jvm.MethodName) ∈ WS := WS_2 15 (by decide +kernel) rfl
theorem wm_X0_21 : Jvm.Cond.methodLink "RetryStorm$Clients" (21 : Nat) ({ cls := "RetryStorm$Clients", name := "fail", desc := "(LRetryStorm$State;II)V" } : Jvm.MethodName) ∈ WS := WS_2 16 (by decide +kernel) rfl
theorem wt_X0_fail : Jvm.Cond.static ({ cls := "RetryStorm$Clients", name := "fail", desc := "(LRetryStorm$State;II)V" } : Jvm.MethodName) ∈ WS := WS_2 17 (by decide +kernel) rfl
theorem wc_X0_fail : Jvm.Cond.code ({ cls := "RetryStorm$Clients", name := "fail", desc := "(LRetryStorm$State;II)V" } : Jvm.MethodName) prog_2_method_8_code (8 : Nat) (Option.none : Option Jvm.ClassFile.FieldType) ∈ WS := WS_2 18 rfl rfl
theorem wm_X0_101 : Jvm.Cond.methodLink "RetryStorm$Clients" (101 : Nat) ({ cls := "RetryStorm$Clients", name := "delay", desc := "(LRetryStorm$State;II)I" } : Jvm.MethodName) ∈ WS := WS_2 19 (by decide +kernel) rfl
theorem wt_X0_delay : Jvm.Cond.static ({ cls := "RetryStorm$Clients", name := "delay", desc := "(LRetryStorm$State;II)I" } : Jvm.MethodName) ∈ WS := WS_2 20 (by decide +kernel) rfl
theorem wc_X0_delay : Jvm.Cond.code ({ cls := "RetryStorm$Clients", name := "delay", desc := "(LRetryStorm$State;II)I" } : Jvm.MethodName) prog_2_method_9_code (8 : Nat) (Option.some Jvm.ClassFile.FieldType.int) ∈ WS := WS_2 21 rfl rfl
theorem wm_X0_105 : Jvm.Cond.methodLink "RetryStorm$Clients" (105 : Nat) ({ cls := "java/lang/Math", name := "max", desc := "(II)I" } : Jvm.MethodName) ∈ WS := WS_2 22 (by decide +kernel) rfl
theorem wm_X0_108 : Jvm.Cond.methodLink "RetryStorm$Clients" (108 : Nat) ({ cls := "RetryStorm$Clients", name := "draw", desc := "(LRetryStorm$State;)I" } : Jvm.MethodName) ∈ WS := WS_2 23 (by decide +kernel) rfl
theorem wt_X0_draw : Jvm.Cond.static ({ cls := "RetryStorm$Clients", name := "draw", desc := "(LRetryStorm$State;)I" } : Jvm.MethodName) ∈ WS := WS_2 24 (by decide +kernel) rfl
theorem wc_X0_draw : Jvm.Cond.code ({ cls := "RetryStorm$Clients", name := "draw", desc := "(LRetryStorm$State;)I" } : Jvm.MethodName) prog_2_method_10_code (1 : Nat) (Option.some Jvm.ClassFile.FieldType.int) ∈ WS := WS_2 25 rfl rfl
theorem wq_X0_115 : Jvm.Cond.constant "RetryStorm$Clients" (115 : Nat) (1103515245 : Int32) ∈ WS := WS_2 26 (by decide +kernel) rfl
theorem wm_X4_25 : Jvm.Cond.methodLink "RetryStorm$Ticks" (25 : Nat) ({ cls := "RetryStorm$Clients", name := "sendWaiting", desc := "(LRetryStorm$State;)V" } : Jvm.MethodName) ∈ WS := WS_2 27 (by decide +kernel) rfl
theorem wt_X0_sendWaiting : Jvm.Cond.static ({ cls := "RetryStorm$Clients", name := "sendWaiting", desc := "(LRetryStorm$State;)V" } : Jvm.MethodName) ∈ WS := WS_2 28 (by decide +kernel) rfl
theorem wc_X0_sendWaiting : Jvm.Cond.code ({ cls := "RetryStorm$Clients", name := "sendWaiting", desc := "(LRetryStorm$State;)V" } : Jvm.MethodName) prog_2_method_3_code (3 : Nat) (Option.none : Option Jvm.ClassFile.FieldType) ∈ WS := WS_2 29 rfl rfl
theorem wm_X0_25 : Jvm.Cond.methodLink "RetryStorm$Clients" (25 : Nat) ({ cls := "RetryStorm$State", name := "nextDue", desc := "(IZ)I" } : Jvm.MethodName) ∈ WS := WS_2 30 (by decide +kernel) rfl
theorem wi_X2_nextDue : Jvm.Cond.instanceMethod ({ cls := "RetryStorm$State", name := "nextDue", desc := "(IZ)I" } : Jvm.MethodName) ∈ WS := WS_2 31 (by decide +kernel) rfl
theorem we_X2_nextDue : Jvm.Cond.selects "RetryStorm$State" ({ cls := "RetryStorm$State", name := "nextDue", desc := "(IZ)I" } : Jvm.MethodName) ({ cls := "RetryStorm$State", name := "nextDue", desc := "(IZ)I" } : Jvm.MethodName) ∈ WS := WS_2 32 (by decide +kernel) rfl
theorem wc_X2_nextDue : Jvm.Cond.code ({ cls := "RetryStorm$State", name := "nextDue", desc := "(IZ)I" } : Jvm.MethodName) prog_4_method_6_code (5 : Nat) (Option.some Jvm.ClassFile.FieldType.int) ∈ WS := WS_2 33 rfl rfl
theorem wm_X2_98 : Jvm.Cond.methodLink "RetryStorm$State" (98 : Nat) ({ cls := "RetryStorm$Table", name := "size", desc := "()I" } : Jvm.MethodName) ∈ WS := WS_2 34 (by decide +kernel) rfl
theorem wm_X2_91 : Jvm.Cond.methodLink "RetryStorm$State" (91 : Nat) ({ cls := "RetryStorm$Table", name := "get", desc := "(II)I" } : Jvm.MethodName) ∈ WS := WS_2 35 (by decide +kernel) rfl
theorem wm_X4_28 : Jvm.Cond.methodLink "RetryStorm$Ticks" (28 : Nat) ({ cls := "RetryStorm$Servers", name := "fillBackWorkers", desc := "(LRetryStorm$State;)V" } : Jvm.MethodName) ∈ WS := WS_2 36 (by decide +kernel) rfl
theorem wt_X1_fillBackWorkers : Jvm.Cond.static ({ cls := "RetryStorm$Servers", name := "fillBackWorkers", desc := "(LRetryStorm$State;)V" } : Jvm.MethodName) ∈ WS := WS_2 37 (by decide +kernel) rfl
theorem wc_X1_fillBackWorkers : Jvm.Cond.code ({ cls := "RetryStorm$Servers", name := "fillBackWorkers", desc := "(LRetryStorm$State;)V" } : Jvm.MethodName) prog_3_method_3_code (4 : Nat) (Option.none : Option Jvm.ClassFile.FieldType) ∈ WS := WS_2 38 rfl rfl
theorem wm_X1_41 : Jvm.Cond.methodLink "RetryStorm$Servers" (41 : Nat) ({ cls := "RetryStorm$Table", name := "size", desc := "()I" } : Jvm.MethodName) ∈ WS := WS_2 39 (by decide +kernel) rfl
theorem wm_X1_47 : Jvm.Cond.methodLink "RetryStorm$Servers" (47 : Nat) ({ cls := "RetryStorm$Servers", name := "takeAtBack", desc := "(LRetryStorm$State;I)I" } : Jvm.MethodName) ∈ WS := WS_2 40 (by decide +kernel) rfl
theorem wt_X1_takeAtBack : Jvm.Cond.static ({ cls := "RetryStorm$Servers", name := "takeAtBack", desc := "(LRetryStorm$State;I)I" } : Jvm.MethodName) ∈ WS := WS_2 41 (by decide +kernel) rfl
theorem wc_X1_takeAtBack : Jvm.Cond.code ({ cls := "RetryStorm$Servers", name := "takeAtBack", desc := "(LRetryStorm$State;I)I" } : Jvm.MethodName) prog_3_method_5_code (3 : Nat) (Option.some Jvm.ClassFile.FieldType.int) ∈ WS := WS_2 42 rfl rfl
theorem wm_X1_70 : Jvm.Cond.methodLink "RetryStorm$Servers" (70 : Nat) ({ cls := "RetryStorm$Table", name := "drop", desc := "(I)V" } : Jvm.MethodName) ∈ WS := WS_2 43 (by decide +kernel) rfl
theorem wm_X1_74 : Jvm.Cond.methodLink "RetryStorm$Servers" (74 : Nat) ({ cls := "RetryStorm$Servers", name := "isHopeless", desc := "(LRetryStorm$State;LRetryStorm$Table;I)Z" } : Jvm.MethodName) ∈ WS := WS_2 44 (by decide +kernel) rfl
theorem wt_X1_isHopeless : Jvm.Cond.static ({ cls := "RetryStorm$Servers", name := "isHopeless", desc := "(LRetryStorm$State;LRetryStorm$Table;I)Z" } : Jvm.MethodName) ∈ WS := WS_2 45 (by decide +kernel) rfl
theorem wc_X1_isHopeless : Jvm.Cond.code ({ cls := "RetryStorm$Servers", name := "isHopeless", desc := "(LRetryStorm$State;LRetryStorm$Table;I)Z" } : Jvm.MethodName) prog_3_method_9_code (5 : Nat) (Option.some Jvm.ClassFile.FieldType.boolean) ∈ WS := WS_2 46 rfl rfl
theorem wm_X1_96 : Jvm.Cond.methodLink "RetryStorm$Servers" (96 : Nat) ({ cls := "java/lang/Math", name := "max", desc := "(II)I" } : Jvm.MethodName) ∈ WS := WS_2 47 (by decide +kernel) rfl
theorem wm_X1_78 : Jvm.Cond.methodLink "RetryStorm$Servers" (78 : Nat) ({ cls := "RetryStorm$Servers", name := "waste", desc := "(LRetryStorm$State;I)I" } : Jvm.MethodName) ∈ WS := WS_2 48 (by decide +kernel) rfl
theorem wt_X1_waste : Jvm.Cond.static ({ cls := "RetryStorm$Servers", name := "waste", desc := "(LRetryStorm$State;I)I" } : Jvm.MethodName) ∈ WS := WS_2 49 (by decide +kernel) rfl
theorem wc_X1_waste : Jvm.Cond.code ({ cls := "RetryStorm$Servers", name := "waste", desc := "(LRetryStorm$State;I)I" } : Jvm.MethodName) prog_3_method_15_code (3 : Nat) (Option.some Jvm.ClassFile.FieldType.int) ∈ WS := WS_2 50 rfl rfl
theorem wm_X1_53 : Jvm.Cond.methodLink "RetryStorm$Servers" (53 : Nat) ({ cls := "RetryStorm$Clients", name := "fail", desc := "(LRetryStorm$State;II)V" } : Jvm.MethodName) ∈ WS := WS_2 51 (by decide +kernel) rfl
theorem wm_X4_33 : Jvm.Cond.methodLink "RetryStorm$Ticks" (33 : Nat) ({ cls := "RetryStorm$Servers", name := "fillFrontWorkers", desc := "(LRetryStorm$State;)V" } : Jvm.MethodName) ∈ WS := WS_2 52 (by decide +kernel) rfl
theorem wt_X1_fillFrontWorkers : Jvm.Cond.static ({ cls := "RetryStorm$Servers", name := "fillFrontWorkers", desc := "(LRetryStorm$State;)V" } : Jvm.MethodName) ∈ WS := WS_2 53 (by decide +kernel) rfl
theorem wc_X1_fillFrontWorkers : Jvm.Cond.code ({ cls := "RetryStorm$Servers", name := "fillFrontWorkers", desc := "(LRetryStorm$State;)V" } : Jvm.MethodName) prog_3_method_4_code (4 : Nat) (Option.none : Option Jvm.ClassFile.FieldType) ∈ WS := WS_2 54 rfl rfl
theorem wm_X1_62 : Jvm.Cond.methodLink "RetryStorm$Servers" (62 : Nat) ({ cls := "RetryStorm$Servers", name := "nextInQueue", desc := "(LRetryStorm$State;)I" } : Jvm.MethodName) ∈ WS := WS_2 55 (by decide +kernel) rfl
theorem wt_X1_nextInQueue : Jvm.Cond.static ({ cls := "RetryStorm$Servers", name := "nextInQueue", desc := "(LRetryStorm$State;)I" } : Jvm.MethodName) ∈ WS := WS_2 56 (by decide +kernel) rfl
theorem wc_X1_nextInQueue : Jvm.Cond.code ({ cls := "RetryStorm$Servers", name := "nextInQueue", desc := "(LRetryStorm$State;)I" } : Jvm.MethodName) prog_3_method_7_code (2 : Nat) (Option.some Jvm.ClassFile.FieldType.int) ∈ WS := WS_2 57 rfl rfl
theorem wm_X1_89 : Jvm.Cond.methodLink "RetryStorm$Servers" (89 : Nat) ({ cls := "RetryStorm$Servers", name := "firstToExpire", desc := "(LRetryStorm$Table;)I" } : Jvm.MethodName) ∈ WS := WS_2 58 (by decide +kernel) rfl
theorem wt_X1_firstToExpire : Jvm.Cond.static ({ cls := "RetryStorm$Servers", name := "firstToExpire", desc := "(LRetryStorm$Table;)I" } : Jvm.MethodName) ∈ WS := WS_2 59 (by decide +kernel) rfl
theorem wc_X1_firstToExpire : Jvm.Cond.code ({ cls := "RetryStorm$Servers", name := "firstToExpire", desc := "(LRetryStorm$Table;)I" } : Jvm.MethodName) prog_3_method_8_code (3 : Nat) (Option.some Jvm.ClassFile.FieldType.int) ∈ WS := WS_2 60 rfl rfl
theorem wm_X1_66 : Jvm.Cond.methodLink "RetryStorm$Servers" (66 : Nat) ({ cls := "RetryStorm$Servers", name := "takeAtFront", desc := "(LRetryStorm$State;II)I" } : Jvm.MethodName) ∈ WS := WS_2 61 (by decide +kernel) rfl
theorem wt_X1_takeAtFront : Jvm.Cond.static ({ cls := "RetryStorm$Servers", name := "takeAtFront", desc := "(LRetryStorm$State;II)I" } : Jvm.MethodName) ∈ WS := WS_2 62 (by decide +kernel) rfl
theorem wc_X1_takeAtFront : Jvm.Cond.code ({ cls := "RetryStorm$Servers", name := "takeAtFront", desc := "(LRetryStorm$State;II)I" } : Jvm.MethodName) prog_3_method_6_code (4 : Nat) (Option.some Jvm.ClassFile.FieldType.int) ∈ WS := WS_2 63 rfl rfl
theorem wm_X1_81 : Jvm.Cond.methodLink "RetryStorm$Servers" (81 : Nat) ({ cls := "RetryStorm$Table", name := "copyRow", desc := "(ILRetryStorm$Table;I)V" } : Jvm.MethodName) ∈ WS := WS_2 64 (by decide +kernel) rfl
theorem wi_X3_copyRow : Jvm.Cond.instanceMethod ({ cls := "RetryStorm$Table", name := "copyRow", desc := "(ILRetryStorm$Table;I)V" } : Jvm.MethodName) ∈ WS := WS_2 65 (by decide +kernel) rfl
theorem we_X3_copyRow : Jvm.Cond.selects "RetryStorm$Table" ({ cls := "RetryStorm$Table", name := "copyRow", desc := "(ILRetryStorm$Table;I)V" } : Jvm.MethodName) ({ cls := "RetryStorm$Table", name := "copyRow", desc := "(ILRetryStorm$Table;I)V" } : Jvm.MethodName) ∈ WS := WS_2 66 (by decide +kernel) rfl
theorem wc_X3_copyRow : Jvm.Cond.code ({ cls := "RetryStorm$Table", name := "copyRow", desc := "(ILRetryStorm$Table;I)V" } : Jvm.MethodName) prog_5_method_12_code (5 : Nat) (Option.none : Option Jvm.ClassFile.FieldType) ∈ WS := WS_2 67 rfl rfl
theorem wm_X4_36 : Jvm.Cond.methodLink "RetryStorm$Ticks" (36 : Nat) ({ cls := "RetryStorm$Servers", name := "work", desc := "(LRetryStorm$State;)V" } : Jvm.MethodName) ∈ WS := WS_2 68 (by decide +kernel) rfl
theorem wt_X1_work : Jvm.Cond.static ({ cls := "RetryStorm$Servers", name := "work", desc := "(LRetryStorm$State;)V" } : Jvm.MethodName) ∈ WS := WS_2 69 (by decide +kernel) rfl
theorem wc_X1_work : Jvm.Cond.code ({ cls := "RetryStorm$Servers", name := "work", desc := "(LRetryStorm$State;)V" } : Jvm.MethodName) prog_3_method_10_code (4 : Nat) (Option.none : Option Jvm.ClassFile.FieldType) ∈ WS := WS_2 70 rfl rfl
theorem wm_X1_104 : Jvm.Cond.methodLink "RetryStorm$Servers" (104 : Nat) ({ cls := "RetryStorm$Table", name := "add", desc := "(III)V" } : Jvm.MethodName) ∈ WS := WS_2 71 (by decide +kernel) rfl
theorem wm_X4_42 : Jvm.Cond.methodLink "RetryStorm$Ticks" (42 : Nat) ({ cls := "RetryStorm$Servers", name := "endBackWork", desc := "(LRetryStorm$State;)V" } : Jvm.MethodName) ∈ WS := WS_2 72 (by decide +kernel) rfl
theorem wt_X1_endBackWork : Jvm.Cond.static ({ cls := "RetryStorm$Servers", name := "endBackWork", desc := "(LRetryStorm$State;)V" } : Jvm.MethodName) ∈ WS := WS_2 73 (by decide +kernel) rfl
theorem wc_X1_endBackWork : Jvm.Cond.code ({ cls := "RetryStorm$Servers", name := "endBackWork", desc := "(LRetryStorm$State;)V" } : Jvm.MethodName) prog_3_method_11_code (3 : Nat) (Option.none : Option Jvm.ClassFile.FieldType) ∈ WS := WS_2 74 rfl rfl
theorem wm_X1_107 : Jvm.Cond.methodLink "RetryStorm$Servers" (107 : Nat) ({ cls := "RetryStorm$Servers", name := "answer", desc := "(LRetryStorm$State;I)V" } : Jvm.MethodName) ∈ WS := WS_2 75 (by decide +kernel) rfl
theorem wt_X1_answer : Jvm.Cond.static ({ cls := "RetryStorm$Servers", name := "answer", desc := "(LRetryStorm$State;I)V" } : Jvm.MethodName) ∈ WS := WS_2 76 (by decide +kernel) rfl
theorem wc_X1_answer : Jvm.Cond.code ({ cls := "RetryStorm$Servers", name := "answer", desc := "(LRetryStorm$State;I)V" } : Jvm.MethodName) prog_3_method_14_code (4 : Nat) (Option.none : Option Jvm.ClassFile.FieldType) ∈ WS := WS_2 77 rfl rfl
theorem wm_X1_114 : Jvm.Cond.methodLink "RetryStorm$Servers" (114 : Nat) ({ cls := "RetryStorm$Table", name := "find", desc := "(II)I" } : Jvm.MethodName) ∈ WS := WS_2 78 (by decide +kernel) rfl
theorem wm_X4_45 : Jvm.Cond.methodLink "RetryStorm$Ticks" (45 : Nat) ({ cls := "RetryStorm$Servers", name := "endFrontWork", desc := "(LRetryStorm$State;)V" } : Jvm.MethodName) ∈ WS := WS_2 79 (by decide +kernel) rfl
theorem wt_X1_endFrontWork : Jvm.Cond.static ({ cls := "RetryStorm$Servers", name := "endFrontWork", desc := "(LRetryStorm$State;)V" } : Jvm.MethodName) ∈ WS := WS_2 80 (by decide +kernel) rfl
theorem wc_X1_endFrontWork : Jvm.Cond.code ({ cls := "RetryStorm$Servers", name := "endFrontWork", desc := "(LRetryStorm$State;)V" } : Jvm.MethodName) prog_3_method_12_code (3 : Nat) (Option.none : Option Jvm.ClassFile.FieldType) ∈ WS := WS_2 81 rfl rfl
theorem wm_X1_111 : Jvm.Cond.methodLink "RetryStorm$Servers" (111 : Nat) ({ cls := "RetryStorm$Servers", name := "callBack", desc := "(LRetryStorm$State;I)I" } : Jvm.MethodName) ∈ WS := WS_2 82 (by decide +kernel) rfl
theorem wt_X1_callBack : Jvm.Cond.static ({ cls := "RetryStorm$Servers", name := "callBack", desc := "(LRetryStorm$State;I)I" } : Jvm.MethodName) ∈ WS := WS_2 83 (by decide +kernel) rfl
theorem wc_X1_callBack : Jvm.Cond.code ({ cls := "RetryStorm$Servers", name := "callBack", desc := "(LRetryStorm$State;I)I" } : Jvm.MethodName) prog_3_method_13_code (3 : Nat) (Option.some Jvm.ClassFile.FieldType.int) ∈ WS := WS_2 84 rfl rfl
theorem wm_X4_48 : Jvm.Cond.methodLink "RetryStorm$Ticks" (48 : Nat) ({ cls := "RetryStorm$Clients", name := "abandonExpired", desc := "(LRetryStorm$State;)V" } : Jvm.MethodName) ∈ WS := WS_2 85 (by decide +kernel) rfl
theorem wt_X0_abandonExpired : Jvm.Cond.static ({ cls := "RetryStorm$Clients", name := "abandonExpired", desc := "(LRetryStorm$State;)V" } : Jvm.MethodName) ∈ WS := WS_2 86 (by decide +kernel) rfl
theorem wc_X0_abandonExpired : Jvm.Cond.code ({ cls := "RetryStorm$Clients", name := "abandonExpired", desc := "(LRetryStorm$State;)V" } : Jvm.MethodName) prog_2_method_4_code (3 : Nat) (Option.none : Option Jvm.ClassFile.FieldType) ∈ WS := WS_2 87 rfl rfl
theorem wm_X0_31 : Jvm.Cond.methodLink "RetryStorm$Clients" (31 : Nat) ({ cls := "RetryStorm$Servers", name := "abandon", desc := "(LRetryStorm$State;I)V" } : Jvm.MethodName) ∈ WS := WS_2 88 (by decide +kernel) rfl
theorem wt_X1_abandon : Jvm.Cond.static ({ cls := "RetryStorm$Servers", name := "abandon", desc := "(LRetryStorm$State;I)V" } : Jvm.MethodName) ∈ WS := WS_2 89 (by decide +kernel) rfl
theorem wc_X1_abandon : Jvm.Cond.code ({ cls := "RetryStorm$Servers", name := "abandon", desc := "(LRetryStorm$State;I)V" } : Jvm.MethodName) prog_3_method_16_code (4 : Nat) (Option.none : Option Jvm.ClassFile.FieldType) ∈ WS := WS_2 90 rfl rfl
theorem wm_X4_51 : Jvm.Cond.methodLink "RetryStorm$Ticks" (51 : Nat) ({ cls := "java/lang/Math", name := "floorMod", desc := "(II)I" } : Jvm.MethodName) ∈ WS := WS_2 91 (by decide +kernel) rfl
theorem wt_J9_floorMod_7cf53 : Jvm.Cond.static ({ cls := "java/lang/Math", name := "floorMod", desc := "(II)I" } : Jvm.MethodName) ∈ WS := WS_2 92 (by decide +kernel) rfl
theorem wc_J9_floorMod_7cf53 : Jvm.Cond.code ({ cls := "java/lang/Math", name := "floorMod", desc := "(II)I" } : Jvm.MethodName) prog_9_method_50_code (3 : Nat) (Option.some Jvm.ClassFile.FieldType.int) ∈ WS := WS_2 93 rfl rfl
theorem wm_X4_64 : Jvm.Cond.methodLink "RetryStorm$Ticks" (64 : Nat) ({ cls := "RetryStorm$Table", name := "size", desc := "()I" } : Jvm.MethodName) ∈ WS := WS_2 94 (by decide +kernel) rfl
theorem wm_X4_70 : Jvm.Cond.methodLink "RetryStorm$Ticks" (70 : Nat) ({ cls := "RetryStorm$Table", name := "put", desc := "(III)V" } : Jvm.MethodName) ∈ WS := WS_2 95 (by decide +kernel) rfl
theorem wm_X4_77 : Jvm.Cond.methodLink "RetryStorm$Ticks" (77 : Nat) ({ cls := "java/lang/Math", name := "max", desc := "(II)I" } : Jvm.MethodName) ∈ WS := WS_2 96 (by decide +kernel) rfl
theorem wm_L_52 : Jvm.Cond.methodLink "RetryStormLaw" (52 : Nat) ({ cls := "RetryStorm", name := "count", desc := "(II)I" } : Jvm.MethodName) ∈ WS := WS_2 97 (by decide +kernel) rfl
theorem wi_X5_count : Jvm.Cond.instanceMethod ({ cls := "RetryStorm", name := "count", desc := "(II)I" } : Jvm.MethodName) ∈ WS := WS_2 98 (by decide +kernel) rfl
theorem we_X5_count : Jvm.Cond.selects "RetryStorm" ({ cls := "RetryStorm", name := "count", desc := "(II)I" } : Jvm.MethodName) ({ cls := "RetryStorm", name := "count", desc := "(II)I" } : Jvm.MethodName) ∈ WS := WS_2 99 (by decide +kernel) rfl
theorem wc_X5_count : Jvm.Cond.code ({ cls := "RetryStorm", name := "count", desc := "(II)I" } : Jvm.MethodName) prog_1_method_11_code (3 : Nat) (Option.some Jvm.ClassFile.FieldType.int) ∈ WS := WS_2 100 rfl rfl
theorem wm_X5_23 : Jvm.Cond.methodLink "RetryStorm" (23 : Nat) ({ cls := "RetryStorm", name := "isClient", desc := "(I)Z" } : Jvm.MethodName) ∈ WS := WS_2 101 (by decide +kernel) rfl
theorem wt_X5_isClient : Jvm.Cond.static ({ cls := "RetryStorm", name := "isClient", desc := "(I)Z" } : Jvm.MethodName) ∈ WS := WS_2 102 (by decide +kernel) rfl
theorem wc_X5_isClient : Jvm.Cond.code ({ cls := "RetryStorm", name := "isClient", desc := "(I)Z" } : Jvm.MethodName) prog_1_method_26_code (1 : Nat) (Option.some Jvm.ClassFile.FieldType.boolean) ∈ WS := WS_2 103 rfl rfl
theorem wm_X5_41 : Jvm.Cond.methodLink "RetryStorm" (41 : Nat) ({ cls := "RetryStorm$Table", name := "get", desc := "(II)I" } : Jvm.MethodName) ∈ WS := WS_2 104 (by decide +kernel) rfl
theorem wm_L_43 : Jvm.Cond.methodLink "RetryStormLaw" (43 : Nat) ({ cls := "RetryStorm", name := "told", desc := "(I)I" } : Jvm.MethodName) ∈ WS := WS_2 105 (by decide +kernel) rfl
theorem wi_X5_told : Jvm.Cond.instanceMethod ({ cls := "RetryStorm", name := "told", desc := "(I)I" } : Jvm.MethodName) ∈ WS := WS_2 106 (by decide +kernel) rfl
theorem we_X5_told : Jvm.Cond.selects "RetryStorm" ({ cls := "RetryStorm", name := "told", desc := "(I)I" } : Jvm.MethodName) ({ cls := "RetryStorm", name := "told", desc := "(I)I" } : Jvm.MethodName) ∈ WS := WS_2 107 (by decide +kernel) rfl
theorem wc_X5_told : Jvm.Cond.code ({ cls := "RetryStorm", name := "told", desc := "(I)I" } : Jvm.MethodName) prog_1_method_13_code (2 : Nat) (Option.some Jvm.ClassFile.FieldType.int) ∈ WS := WS_2 108 rfl rfl
theorem wm_X5_93 : Jvm.Cond.methodLink "RetryStorm" (93 : Nat) ({ cls := "RetryStorm$Table", name := "size", desc := "()I" } : Jvm.MethodName) ∈ WS := WS_2 109 (by decide +kernel) rfl
theorem wm_X5_97 : Jvm.Cond.methodLink "RetryStorm" (97 : Nat) ({ cls := "RetryStorm$Table", name := "rowsWith", desc := "(II)I" } : Jvm.MethodName) ∈ WS := WS_2 110 (by decide +kernel) rfl
theorem wi_X3_rowsWith : Jvm.Cond.instanceMethod ({ cls := "RetryStorm$Table", name := "rowsWith", desc := "(II)I" } : Jvm.MethodName) ∈ WS := WS_2 111 (by decide +kernel) rfl
theorem we_X3_rowsWith : Jvm.Cond.selects "RetryStorm$Table" ({ cls := "RetryStorm$Table", name := "rowsWith", desc := "(II)I" } : Jvm.MethodName) ({ cls := "RetryStorm$Table", name := "rowsWith", desc := "(II)I" } : Jvm.MethodName) ∈ WS := WS_2 112 (by decide +kernel) rfl
theorem wc_X3_rowsWith : Jvm.Cond.code ({ cls := "RetryStorm$Table", name := "rowsWith", desc := "(II)I" } : Jvm.MethodName) prog_5_method_10_code (5 : Nat) (Option.some Jvm.ClassFile.FieldType.int) ∈ WS := WS_2 113 rfl rfl
theorem wm_X5_118 : Jvm.Cond.methodLink "RetryStorm" (118 : Nat) ({ cls := "RetryStorm$State", name := "pendingWork", desc := "()I" } : Jvm.MethodName) ∈ WS := WS_2 114 (by decide +kernel) rfl
theorem wi_X2_pendingWork : Jvm.Cond.instanceMethod ({ cls := "RetryStorm$State", name := "pendingWork", desc := "()I" } : Jvm.MethodName) ∈ WS := WS_2 115 (by decide +kernel) rfl
theorem we_X2_pendingWork : Jvm.Cond.selects "RetryStorm$State" ({ cls := "RetryStorm$State", name := "pendingWork", desc := "()I" } : Jvm.MethodName) ({ cls := "RetryStorm$State", name := "pendingWork", desc := "()I" } : Jvm.MethodName) ∈ WS := WS_2 116 (by decide +kernel) rfl
theorem wc_X2_pendingWork : Jvm.Cond.code ({ cls := "RetryStorm$State", name := "pendingWork", desc := "()I" } : Jvm.MethodName) prog_4_method_4_code (3 : Nat) (Option.some Jvm.ClassFile.FieldType.int) ∈ WS := WS_2 117 rfl rfl
theorem wm_L_61 : Jvm.Cond.methodLink "RetryStormLaw" (61 : Nat) ({ cls := "RetryStorm", name := "window", desc := "(II)I" } : Jvm.MethodName) ∈ WS := WS_2 118 (by decide +kernel) rfl
theorem wi_X5_window : Jvm.Cond.instanceMethod ({ cls := "RetryStorm", name := "window", desc := "(II)I" } : Jvm.MethodName) ∈ WS := WS_2 119 (by decide +kernel) rfl
theorem we_X5_window : Jvm.Cond.selects "RetryStorm" ({ cls := "RetryStorm", name := "window", desc := "(II)I" } : Jvm.MethodName) ({ cls := "RetryStorm", name := "window", desc := "(II)I" } : Jvm.MethodName) ∈ WS := WS_2 120 (by decide +kernel) rfl
theorem wc_X5_window : Jvm.Cond.code ({ cls := "RetryStorm", name := "window", desc := "(II)I" } : Jvm.MethodName) prog_1_method_18_code (5 : Nat) (Option.some Jvm.ClassFile.FieldType.int) ∈ WS := WS_2 121 rfl rfl
theorem wm_X5_133 : Jvm.Cond.methodLink "RetryStorm" (133 : Nat) ({ cls := "RetryStorm$State", name := "ofTick", desc := "(II)I" } : Jvm.MethodName) ∈ WS := WS_2 122 (by decide +kernel) rfl
theorem wi_X2_ofTick : Jvm.Cond.instanceMethod ({ cls := "RetryStorm$State", name := "ofTick", desc := "(II)I" } : Jvm.MethodName) ∈ WS := WS_2 123 (by decide +kernel) rfl
theorem we_X2_ofTick : Jvm.Cond.selects "RetryStorm$State" ({ cls := "RetryStorm$State", name := "ofTick", desc := "(II)I" } : Jvm.MethodName) ({ cls := "RetryStorm$State", name := "ofTick", desc := "(II)I" } : Jvm.MethodName) ∈ WS := WS_2 124 (by decide +kernel) rfl
theorem wc_X2_ofTick : Jvm.Cond.code ({ cls := "RetryStorm$State", name := "ofTick", desc := "(II)I" } : Jvm.MethodName) prog_4_method_7_code (3 : Nat) (Option.some Jvm.ClassFile.FieldType.int) ∈ WS := WS_2 125 rfl rfl
theorem wm_X2_102 : Jvm.Cond.methodLink "RetryStorm$State" (102 : Nat) ({ cls := "java/lang/Math", name := "floorMod", desc := "(II)I" } : Jvm.MethodName) ∈ WS := WS_2 126 (by decide +kernel) rfl
theorem wm_L_91 : Jvm.Cond.methodLink "RetryStormLaw" (91 : Nat) ({ cls := "RetryStorm", name := "amplification", desc := "()I" } : Jvm.MethodName) ∈ WS := WS_2 127 (by decide +kernel) rfl
theorem wi_X5_amplification : Jvm.Cond.instanceMethod ({ cls := "RetryStorm", name := "amplification", desc := "()I" } : Jvm.MethodName) ∈ WS := WS_2 128 (by decide +kernel) rfl
theorem we_X5_amplification : Jvm.Cond.selects "RetryStorm" ({ cls := "RetryStorm", name := "amplification", desc := "()I" } : Jvm.MethodName) ({ cls := "RetryStorm", name := "amplification", desc := "()I" } : Jvm.MethodName) ∈ WS := WS_2 129 (by decide +kernel) rfl
theorem wc_X5_amplification : Jvm.Cond.code ({ cls := "RetryStorm", name := "amplification", desc := "()I" } : Jvm.MethodName) prog_1_method_21_code (2 : Nat) (Option.some Jvm.ClassFile.FieldType.int) ∈ WS := WS_2 130 rfl rfl
theorem wq_X5_144 : Jvm.Cond.constantLong "RetryStorm" (144 : Nat) (100 : Int64) ∈ WS := WS_2 131 (by decide +kernel) rfl
theorem wm_L_9 : Jvm.Cond.methodLink "RetryStormLaw" (9 : Nat) ({ cls := "RetryStormLaw", name := "cell", desc := "([II)I" } : Jvm.MethodName) ∈ WS := WS_2 132 (by decide +kernel) rfl
theorem wt_L_cell : Jvm.Cond.static ({ cls := "RetryStormLaw", name := "cell", desc := "([II)I" } : Jvm.MethodName) ∈ WS := WS_2 133 (by decide +kernel) rfl
theorem wc_L_cell : Jvm.Cond.code ({ cls := "RetryStormLaw", name := "cell", desc := "([II)I" } : Jvm.MethodName) method_2_code (2 : Nat) (Option.some Jvm.ClassFile.FieldType.int) ∈ WS := WS_2 134 rfl rfl
theorem wq_L_7 : Jvm.Cond.constant "RetryStormLaw" (7 : Nat) (15485977 : Int32) ∈ WS := WS_2 135 (by decide +kernel) rfl
theorem wq_L_8 : Jvm.Cond.constant "RetryStormLaw" (8 : Nat) (2147483647 : Int32) ∈ WS := WS_2 136 (by decide +kernel) rfl
theorem wm_L_79 : Jvm.Cond.methodLink "RetryStormLaw" (79 : Nat) ({ cls := "RetryStormLaw", name := "sets", desc := "(LRetryStorm;[I)Z" } : Jvm.MethodName) ∈ WS := WS_2 137 (by decide +kernel) rfl
theorem wt_L_sets : Jvm.Cond.static ({ cls := "RetryStormLaw", name := "sets", desc := "(LRetryStorm;[I)Z" } : Jvm.MethodName) ∈ WS := WS_2 138 (by decide +kernel) rfl
theorem wc_L_sets : Jvm.Cond.code ({ cls := "RetryStormLaw", name := "sets", desc := "(LRetryStorm;[I)Z" } : Jvm.MethodName) method_4_code (7 : Nat) (Option.some Jvm.ClassFile.FieldType.boolean) ∈ WS := WS_2 139 rfl rfl
theorem wm_L_15 : Jvm.Cond.methodLink "RetryStormLaw" (15 : Nat) ({ cls := "RetryStormLaw", name := "value", desc := "(II)I" } : Jvm.MethodName) ∈ WS := WS_2 140 (by decide +kernel) rfl
theorem wt_L_value : Jvm.Cond.static ({ cls := "RetryStormLaw", name := "value", desc := "(II)I" } : Jvm.MethodName) ∈ WS := WS_2 141 (by decide +kernel) rfl
theorem wc_L_value : Jvm.Cond.code ({ cls := "RetryStormLaw", name := "value", desc := "(II)I" } : Jvm.MethodName) method_3_code (2 : Nat) (Option.some Jvm.ClassFile.FieldType.int) ∈ WS := WS_2 142 rfl rfl
theorem wm_L_19 : Jvm.Cond.methodLink "RetryStormLaw" (19 : Nat) ({ cls := "RetryStorm", name := "property", desc := "(II)I" } : Jvm.MethodName) ∈ WS := WS_2 143 (by decide +kernel) rfl
theorem wi_X5_property : Jvm.Cond.instanceMethod ({ cls := "RetryStorm", name := "property", desc := "(II)I" } : Jvm.MethodName) ∈ WS := WS_2 144 (by decide +kernel) rfl
theorem we_X5_property : Jvm.Cond.selects "RetryStorm" ({ cls := "RetryStorm", name := "property", desc := "(II)I" } : Jvm.MethodName) ({ cls := "RetryStorm", name := "property", desc := "(II)I" } : Jvm.MethodName) ∈ WS := WS_2 145 (by decide +kernel) rfl
theorem wc_X5_property : Jvm.Cond.code ({ cls := "RetryStorm", name := "property", desc := "(II)I" } : Jvm.MethodName) prog_1_method_3_code (3 : Nat) (Option.some Jvm.ClassFile.FieldType.int) ∈ WS := WS_2 146 rfl rfl
theorem wm_L_24 : Jvm.Cond.methodLink "RetryStormLaw" (24 : Nat) ({ cls := "RetryStorm", name := "set", desc := "(III)I" } : Jvm.MethodName) ∈ WS := WS_2 147 (by decide +kernel) rfl
theorem wi_X5_set : Jvm.Cond.instanceMethod ({ cls := "RetryStorm", name := "set", desc := "(III)I" } : Jvm.MethodName) ∈ WS := WS_2 148 (by decide +kernel) rfl
theorem we_X5_set : Jvm.Cond.selects "RetryStorm" ({ cls := "RetryStorm", name := "set", desc := "(III)I" } : Jvm.MethodName) ({ cls := "RetryStorm", name := "set", desc := "(III)I" } : Jvm.MethodName) ∈ WS := WS_2 149 (by decide +kernel) rfl
theorem wc_X5_set : Jvm.Cond.code ({ cls := "RetryStorm", name := "set", desc := "(III)I" } : Jvm.MethodName) prog_1_method_2_code (5 : Nat) (Option.some Jvm.ClassFile.FieldType.int) ∈ WS := WS_2 150 rfl rfl
theorem wf_X5_27 : Jvm.Cond.fieldLink "RetryStorm" (27 : Nat) "RetryStorm" "LEAST" "[I" ∈ WS := WS_2 151 (by decide +kernel) rfl
theorem wl_X5_LEAST : Jvm.Cond.laysStatic "RetryStorm" "LEAST" "[I" ∈ lw_tbl := List.mem_append_right _ (List.mem_append_right _ (List.mem_append_left _ (List.mem_of_getElem? (i := 152) (by decide +kernel))))
theorem wf_X5_31 : Jvm.Cond.fieldLink "RetryStorm" (31 : Nat) "RetryStorm" "MOST" "[I" ∈ WS := WS_2 153 (by decide +kernel) rfl
theorem wl_X5_MOST : Jvm.Cond.laysStatic "RetryStorm" "MOST" "[I" ∈ lw_tbl := List.mem_append_right _ (List.mem_append_right _ (List.mem_append_left _ (List.mem_of_getElem? (i := 154) (by decide +kernel))))
theorem wm_X5_47 : Jvm.Cond.methodLink "RetryStorm" (47 : Nat) ({ cls := "RetryStorm$Table", name := "put", desc := "(III)V" } : Jvm.MethodName) ∈ WS := WS_2 155 (by decide +kernel) rfl
theorem wm_L_28 : Jvm.Cond.methodLink "RetryStormLaw" (28 : Nat) ({ cls := "RetryStorm", name := "setServer", desc := "(II)I" } : Jvm.MethodName) ∈ WS := WS_2 156 (by decide +kernel) rfl
theorem wi_X5_setServer : Jvm.Cond.instanceMethod ({ cls := "RetryStorm", name := "setServer", desc := "(II)I" } : Jvm.MethodName) ∈ WS := WS_2 157 (by decide +kernel) rfl
theorem we_X5_setServer : Jvm.Cond.selects "RetryStorm" ({ cls := "RetryStorm", name := "setServer", desc := "(II)I" } : Jvm.MethodName) ({ cls := "RetryStorm", name := "setServer", desc := "(II)I" } : Jvm.MethodName) ∈ WS := WS_2 158 (by decide +kernel) rfl
theorem wc_X5_setServer : Jvm.Cond.code ({ cls := "RetryStorm", name := "setServer", desc := "(II)I" } : Jvm.MethodName) prog_1_method_4_code (4 : Nat) (Option.some Jvm.ClassFile.FieldType.int) ∈ WS := WS_2 159 rfl rfl
theorem wm_X5_54 : Jvm.Cond.methodLink "RetryStorm" (54 : Nat) ({ cls := "RetryStorm", name := "mostOfServer", desc := "(I)I" } : Jvm.MethodName) ∈ WS := WS_2 160 (by decide +kernel) rfl
theorem wt_X5_mostOfServer : Jvm.Cond.static ({ cls := "RetryStorm", name := "mostOfServer", desc := "(I)I" } : Jvm.MethodName) ∈ WS := WS_2 161 (by decide +kernel) rfl
theorem wc_X5_mostOfServer : Jvm.Cond.code ({ cls := "RetryStorm", name := "mostOfServer", desc := "(I)I" } : Jvm.MethodName) prog_1_method_27_code (1 : Nat) (Option.some Jvm.ClassFile.FieldType.int) ∈ WS := WS_2 162 rfl rfl
theorem wm_X5_58 : Jvm.Cond.methodLink "RetryStorm" (58 : Nat) ({ cls := "RetryStorm", name := "isInUseBeyond", desc := "(II)Z" } : Jvm.MethodName) ∈ WS := WS_2 163 (by decide +kernel) rfl
theorem wi_X5_isInUseBeyond : Jvm.Cond.instanceMethod ({ cls := "RetryStorm", name := "isInUseBeyond", desc := "(II)Z" } : Jvm.MethodName) ∈ WS := WS_2 165 (by decide +kernel) rfl
theorem wc_X5_isInUseBeyond : Jvm.Cond.code ({ cls := "RetryStorm", name := "isInUseBeyond", desc := "(II)Z" } : Jvm.MethodName) prog_1_method_28_code (3 : Nat) (Option.some Jvm.ClassFile.FieldType.boolean) ∈ WS := WS_2 166 rfl rfl
theorem wm_X5_189 : Jvm.Cond.methodLink "RetryStorm" (189 : Nat) ({ cls := "RetryStorm", name := "isAnyTakenFrom", desc := "(LRetryStorm$Table;I)Z" } : Jvm.MethodName) ∈ WS := WS_2 167 (by decide +kernel) rfl
theorem wt_X5_isAnyTakenFrom : Jvm.Cond.static ({ cls := "RetryStorm", name := "isAnyTakenFrom", desc := "(LRetryStorm$Table;I)Z" } : Jvm.MethodName) ∈ WS := WS_2 168 (by decide +kernel) rfl
theorem wc_X5_isAnyTakenFrom : Jvm.Cond.code ({ cls := "RetryStorm", name := "isAnyTakenFrom", desc := "(LRetryStorm$Table;I)Z" } : Jvm.MethodName) prog_1_method_29_code (3 : Nat) (Option.some Jvm.ClassFile.FieldType.boolean) ∈ WS := WS_2 169 rfl rfl
theorem wm_L_31 : Jvm.Cond.methodLink "RetryStormLaw" (31 : Nat) ({ cls := "RetryStorm", name := "setDiscipline", desc := "(I)I" } : Jvm.MethodName) ∈ WS := WS_2 170 (by decide +kernel) rfl
theorem wi_X5_setDiscipline : Jvm.Cond.instanceMethod ({ cls := "RetryStorm", name := "setDiscipline", desc := "(I)I" } : Jvm.MethodName) ∈ WS := WS_2 171 (by decide +kernel) rfl
theorem we_X5_setDiscipline : Jvm.Cond.selects "RetryStorm" ({ cls := "RetryStorm", name := "setDiscipline", desc := "(I)I" } : Jvm.MethodName) ({ cls := "RetryStorm", name := "setDiscipline", desc := "(I)I" } : Jvm.MethodName) ∈ WS := WS_2 172 (by decide +kernel) rfl
theorem wc_X5_setDiscipline : Jvm.Cond.code ({ cls := "RetryStorm", name := "setDiscipline", desc := "(I)I" } : Jvm.MethodName) prog_1_method_5_code (3 : Nat) (Option.some Jvm.ClassFile.FieldType.int) ∈ WS := WS_2 173 rfl rfl
theorem wm_L_35 : Jvm.Cond.methodLink "RetryStormLaw" (35 : Nat) ({ cls := "RetryStorm", name := "setSwitch", desc := "(IZ)I" } : Jvm.MethodName) ∈ WS := WS_2 174 (by decide +kernel) rfl
theorem wi_X5_setSwitch : Jvm.Cond.instanceMethod ({ cls := "RetryStorm", name := "setSwitch", desc := "(IZ)I" } : Jvm.MethodName) ∈ WS := WS_2 175 (by decide +kernel) rfl
theorem we_X5_setSwitch : Jvm.Cond.selects "RetryStorm" ({ cls := "RetryStorm", name := "setSwitch", desc := "(IZ)I" } : Jvm.MethodName) ({ cls := "RetryStorm", name := "setSwitch", desc := "(IZ)I" } : Jvm.MethodName) ∈ WS := WS_2 176 (by decide +kernel) rfl
theorem wc_X5_setSwitch : Jvm.Cond.code ({ cls := "RetryStorm", name := "setSwitch", desc := "(IZ)I" } : Jvm.MethodName) prog_1_method_6_code (4 : Nat) (Option.some Jvm.ClassFile.FieldType.int) ∈ WS := WS_2 177 rfl rfl
theorem wm_L_39 : Jvm.Cond.methodLink "RetryStormLaw" (39 : Nat) ({ cls := "RetryStorm", name := "surge", desc := "(IIII)I" } : Jvm.MethodName) ∈ WS := WS_2 178 (by decide +kernel) rfl
theorem wi_X5_surge : Jvm.Cond.instanceMethod ({ cls := "RetryStorm", name := "surge", desc := "(IIII)I" } : Jvm.MethodName) ∈ WS := WS_2 179 (by decide +kernel) rfl
theorem we_X5_surge : Jvm.Cond.selects "RetryStorm" ({ cls := "RetryStorm", name := "surge", desc := "(IIII)I" } : Jvm.MethodName) ({ cls := "RetryStorm", name := "surge", desc := "(IIII)I" } : Jvm.MethodName) ∈ WS := WS_2 180 (by decide +kernel) rfl
theorem wc_X5_surge : Jvm.Cond.code ({ cls := "RetryStorm", name := "surge", desc := "(IIII)I" } : Jvm.MethodName) prog_1_method_7_code (6 : Nat) (Option.some Jvm.ClassFile.FieldType.int) ∈ WS := WS_2 181 rfl rfl
theorem wm_L_87 : Jvm.Cond.methodLink "RetryStormLaw" (87 : Nat) ({ cls := "RetryStormLaw", name := "requests", desc := "(LRetryStorm;)Z" } : Jvm.MethodName) ∈ WS := WS_2 182 (by decide +kernel) rfl
theorem wt_L_requests : Jvm.Cond.static ({ cls := "RetryStormLaw", name := "requests", desc := "(LRetryStorm;)Z" } : Jvm.MethodName) ∈ WS := WS_2 183 (by decide +kernel) rfl
theorem wc_L_requests : Jvm.Cond.code ({ cls := "RetryStormLaw", name := "requests", desc := "(LRetryStorm;)Z" } : Jvm.MethodName) method_5_code (10 : Nat) (Option.some Jvm.ClassFile.FieldType.boolean) ∈ WS := WS_2 184 rfl rfl
theorem wm_L_46 : Jvm.Cond.methodLink "RetryStormLaw" (46 : Nat) ({ cls := "RetryStorm", name := "live", desc := "(I)I" } : Jvm.MethodName) ∈ WS := WS_2 185 (by decide +kernel) rfl
theorem wi_X5_live : Jvm.Cond.instanceMethod ({ cls := "RetryStorm", name := "live", desc := "(I)I" } : Jvm.MethodName) ∈ WS := WS_2 186 (by decide +kernel) rfl
theorem we_X5_live : Jvm.Cond.selects "RetryStorm" ({ cls := "RetryStorm", name := "live", desc := "(I)I" } : Jvm.MethodName) ({ cls := "RetryStorm", name := "live", desc := "(I)I" } : Jvm.MethodName) ∈ WS := WS_2 187 (by decide +kernel) rfl
theorem wc_X5_live : Jvm.Cond.code ({ cls := "RetryStorm", name := "live", desc := "(I)I" } : Jvm.MethodName) prog_1_method_14_code (2 : Nat) (Option.some Jvm.ClassFile.FieldType.int) ∈ WS := WS_2 188 rfl rfl
theorem wm_L_49 : Jvm.Cond.methodLink "RetryStormLaw" (49 : Nat) ({ cls := "RetryStorm", name := "request", desc := "(II)I" } : Jvm.MethodName) ∈ WS := WS_2 189 (by decide +kernel) rfl
theorem wi_X5_request : Jvm.Cond.instanceMethod ({ cls := "RetryStorm", name := "request", desc := "(II)I" } : Jvm.MethodName) ∈ WS := WS_2 190 (by decide +kernel) rfl
theorem we_X5_request : Jvm.Cond.selects "RetryStorm" ({ cls := "RetryStorm", name := "request", desc := "(II)I" } : Jvm.MethodName) ({ cls := "RetryStorm", name := "request", desc := "(II)I" } : Jvm.MethodName) ∈ WS := WS_2 191 (by decide +kernel) rfl
theorem wc_X5_request : Jvm.Cond.code ({ cls := "RetryStorm", name := "request", desc := "(II)I" } : Jvm.MethodName) prog_1_method_15_code (4 : Nat) (Option.some Jvm.ClassFile.FieldType.int) ∈ WS := WS_2 192 rfl rfl
theorem wm_X5_127 : Jvm.Cond.methodLink "RetryStorm" (127 : Nat) ({ cls := "RetryStorm$Table", name := "find", desc := "(II)I" } : Jvm.MethodName) ∈ WS := WS_2 193 (by decide +kernel) rfl
theorem wm_X5_130 : Jvm.Cond.methodLink "RetryStorm" (130 : Nat) ({ cls := "RetryStorm$State", name := "placeOf", desc := "(I)I" } : Jvm.MethodName) ∈ WS := WS_2 194 (by decide +kernel) rfl
theorem wi_X2_placeOf : Jvm.Cond.instanceMethod ({ cls := "RetryStorm$State", name := "placeOf", desc := "(I)I" } : Jvm.MethodName) ∈ WS := WS_2 195 (by decide +kernel) rfl
theorem we_X2_placeOf : Jvm.Cond.selects "RetryStorm$State" ({ cls := "RetryStorm$State", name := "placeOf", desc := "(I)I" } : Jvm.MethodName) ({ cls := "RetryStorm$State", name := "placeOf", desc := "(I)I" } : Jvm.MethodName) ∈ WS := WS_2 196 (by decide +kernel) rfl
theorem wc_X2_placeOf : Jvm.Cond.code ({ cls := "RetryStorm$State", name := "placeOf", desc := "(I)I" } : Jvm.MethodName) prog_4_method_5_code (3 : Nat) (Option.some Jvm.ClassFile.FieldType.int) ∈ WS := WS_2 197 rfl rfl
theorem wm_X2_95 : Jvm.Cond.methodLink "RetryStorm$State" (95 : Nat) ({ cls := "RetryStorm$Table", name := "find", desc := "(II)I" } : Jvm.MethodName) ∈ WS := WS_2 198 (by decide +kernel) rfl
theorem wm_L_55 : Jvm.Cond.methodLink "RetryStormLaw" (55 : Nat) ({ cls := "RetryStorm", name := "succeededAt", desc := "(II)I" } : Jvm.MethodName) ∈ WS := WS_2 199 (by decide +kernel) rfl
theorem wi_X5_succeededAt : Jvm.Cond.instanceMethod ({ cls := "RetryStorm", name := "succeededAt", desc := "(II)I" } : Jvm.MethodName) ∈ WS := WS_2 200 (by decide +kernel) rfl
theorem we_X5_succeededAt : Jvm.Cond.selects "RetryStorm" ({ cls := "RetryStorm", name := "succeededAt", desc := "(II)I" } : Jvm.MethodName) ({ cls := "RetryStorm", name := "succeededAt", desc := "(II)I" } : Jvm.MethodName) ∈ WS := WS_2 201 (by decide +kernel) rfl
theorem wc_X5_succeededAt : Jvm.Cond.code ({ cls := "RetryStorm", name := "succeededAt", desc := "(II)I" } : Jvm.MethodName) prog_1_method_12_code (3 : Nat) (Option.some Jvm.ClassFile.FieldType.int) ∈ WS := WS_2 202 rfl rfl
theorem wm_L_83 : Jvm.Cond.methodLink "RetryStormLaw" (83 : Nat) ({ cls := "RetryStormLaw", name := "ticks", desc := "(LRetryStorm;II)Z" } : Jvm.MethodName) ∈ WS := WS_2 203 (by decide +kernel) rfl
theorem wt_L_ticks : Jvm.Cond.static ({ cls := "RetryStormLaw", name := "ticks", desc := "(LRetryStorm;II)Z" } : Jvm.MethodName) ∈ WS := WS_2 204 (by decide +kernel) rfl
theorem wc_L_ticks : Jvm.Cond.code ({ cls := "RetryStormLaw", name := "ticks", desc := "(LRetryStorm;II)Z" } : Jvm.MethodName) method_6_code (11 : Nat) (Option.some Jvm.ClassFile.FieldType.boolean) ∈ WS := WS_2 205 rfl rfl
theorem wm_L_94 : Jvm.Cond.methodLink "RetryStormLaw" (94 : Nat) ({ cls := "RetryStormLaw", name := "wouldBe", desc := "(LRetryStorm;II)Z" } : Jvm.MethodName) ∈ WS := WS_2 206 (by decide +kernel) rfl
theorem wt_L_wouldBe : Jvm.Cond.static ({ cls := "RetryStormLaw", name := "wouldBe", desc := "(LRetryStorm;II)Z" } : Jvm.MethodName) ∈ WS := WS_2 207 (by decide +kernel) rfl
theorem wc_L_wouldBe : Jvm.Cond.code ({ cls := "RetryStormLaw", name := "wouldBe", desc := "(LRetryStorm;II)Z" } : Jvm.MethodName) method_7_code (9 : Nat) (Option.some Jvm.ClassFile.FieldType.boolean) ∈ WS := WS_2 208 rfl rfl
theorem wm_L_64 : Jvm.Cond.methodLink "RetryStormLaw" (64 : Nat) ({ cls := "RetryStorm", name := "ifRun", desc := "(II)I" } : Jvm.MethodName) ∈ WS := WS_2 209 (by decide +kernel) rfl
theorem wi_X5_ifRun : Jvm.Cond.instanceMethod ({ cls := "RetryStorm", name := "ifRun", desc := "(II)I" } : Jvm.MethodName) ∈ WS := WS_2 210 (by decide +kernel) rfl
theorem we_X5_ifRun : Jvm.Cond.selects "RetryStorm" ({ cls := "RetryStorm", name := "ifRun", desc := "(II)I" } : Jvm.MethodName) ({ cls := "RetryStorm", name := "ifRun", desc := "(II)I" } : Jvm.MethodName) ∈ WS := WS_2 211 (by decide +kernel) rfl
theorem wc_X5_ifRun : Jvm.Cond.code ({ cls := "RetryStorm", name := "ifRun", desc := "(II)I" } : Jvm.MethodName) prog_1_method_9_code (3 : Nat) (Option.some Jvm.ClassFile.FieldType.int) ∈ WS := WS_2 212 rfl rfl
theorem wm_X5_87 : Jvm.Cond.methodLink "RetryStorm" (87 : Nat) ({ cls := "RetryStorm", name := "goodWorkWith", desc := "(II)I" } : Jvm.MethodName) ∈ WS := WS_2 213 (by decide +kernel) rfl
theorem wi_X5_goodWorkWith : Jvm.Cond.instanceMethod ({ cls := "RetryStorm", name := "goodWorkWith", desc := "(II)I" } : Jvm.MethodName) ∈ WS := WS_2 215 (by decide +kernel) rfl
theorem wc_X5_goodWorkWith : Jvm.Cond.code ({ cls := "RetryStorm", name := "goodWorkWith", desc := "(II)I" } : Jvm.MethodName) prog_1_method_30_code (4 : Nat) (Option.some Jvm.ClassFile.FieldType.int) ∈ WS := WS_2 216 rfl rfl
theorem wm_L_67 : Jvm.Cond.methodLink "RetryStormLaw" (67 : Nat) ({ cls := "RetryStorm", name := "bestDiscipline", desc := "(I)I" } : Jvm.MethodName) ∈ WS := WS_2 217 (by decide +kernel) rfl
theorem wi_X5_bestDiscipline : Jvm.Cond.instanceMethod ({ cls := "RetryStorm", name := "bestDiscipline", desc := "(I)I" } : Jvm.MethodName) ∈ WS := WS_2 218 (by decide +kernel) rfl
theorem we_X5_bestDiscipline : Jvm.Cond.selects "RetryStorm" ({ cls := "RetryStorm", name := "bestDiscipline", desc := "(I)I" } : Jvm.MethodName) ({ cls := "RetryStorm", name := "bestDiscipline", desc := "(I)I" } : Jvm.MethodName) ∈ WS := WS_2 219 (by decide +kernel) rfl
theorem wc_X5_bestDiscipline : Jvm.Cond.code ({ cls := "RetryStorm", name := "bestDiscipline", desc := "(I)I" } : Jvm.MethodName) prog_1_method_10_code (6 : Nat) (Option.some Jvm.ClassFile.FieldType.int) ∈ WS := WS_2 220 rfl rfl
theorem wm_L_70 : Jvm.Cond.methodLink "RetryStormLaw" (70 : Nat) ({ cls := "RetryStorm", name := "digest", desc := "()J" } : Jvm.MethodName) ∈ WS := WS_2 221 (by decide +kernel) rfl
theorem wi_X5_digest : Jvm.Cond.instanceMethod ({ cls := "RetryStorm", name := "digest", desc := "()J" } : Jvm.MethodName) ∈ WS := WS_2 222 (by decide +kernel) rfl
theorem we_X5_digest : Jvm.Cond.selects "RetryStorm" ({ cls := "RetryStorm", name := "digest", desc := "()J" } : Jvm.MethodName) ({ cls := "RetryStorm", name := "digest", desc := "()J" } : Jvm.MethodName) ∈ WS := WS_2 223 (by decide +kernel) rfl
theorem wc_X5_digest : Jvm.Cond.code ({ cls := "RetryStorm", name := "digest", desc := "()J" } : Jvm.MethodName) prog_1_method_23_code (6 : Nat) (Option.some Jvm.ClassFile.FieldType.long) ∈ WS := WS_2 224 rfl rfl
theorem wq_X5_149 : Jvm.Cond.constantLong "RetryStorm" (149 : Nat) (18520 : Int64) ∈ WS := WS_2 225 (by decide +kernel) rfl
theorem wq_X5_151 : Jvm.Cond.constantLong "RetryStorm" (151 : Nat) (31 : Int64) ∈ WS := WS_2 226 (by decide +kernel) rfl
theorem wm_X5_153 : Jvm.Cond.methodLink "RetryStorm" (153 : Nat) ({ cls := "RetryStorm", name := "told", desc := "(I)I" } : Jvm.MethodName) ∈ WS := WS_2 227 (by decide +kernel) rfl
theorem wm_X5_156 : Jvm.Cond.methodLink "RetryStorm" (156 : Nat) ({ cls := "RetryStorm", name := "hashOfClients", desc := "(J)J" } : Jvm.MethodName) ∈ WS := WS_2 228 (by decide +kernel) rfl
theorem wi_X5_hashOfClients : Jvm.Cond.instanceMethod ({ cls := "RetryStorm", name := "hashOfClients", desc := "(J)J" } : Jvm.MethodName) ∈ WS := WS_2 230 (by decide +kernel) rfl
theorem wc_X5_hashOfClients : Jvm.Cond.code ({ cls := "RetryStorm", name := "hashOfClients", desc := "(J)J" } : Jvm.MethodName) prog_1_method_24_code (7 : Nat) (Option.some Jvm.ClassFile.FieldType.long) ∈ WS := WS_2 231 rfl rfl
theorem wm_X5_173 : Jvm.Cond.methodLink "RetryStorm" (173 : Nat) ({ cls := "RetryStorm", name := "property", desc := "(II)I" } : Jvm.MethodName) ∈ WS := WS_2 232 (by decide +kernel) rfl
theorem wm_X5_176 : Jvm.Cond.methodLink "RetryStorm" (176 : Nat) ({ cls := "RetryStorm", name := "count", desc := "(II)I" } : Jvm.MethodName) ∈ WS := WS_2 233 (by decide +kernel) rfl
theorem wm_X5_179 : Jvm.Cond.methodLink "RetryStorm" (179 : Nat) ({ cls := "RetryStorm", name := "succeededAt", desc := "(II)I" } : Jvm.MethodName) ∈ WS := WS_2 234 (by decide +kernel) rfl
theorem wm_X5_160 : Jvm.Cond.methodLink "RetryStorm" (160 : Nat) ({ cls := "RetryStorm", name := "live", desc := "(I)I" } : Jvm.MethodName) ∈ WS := WS_2 235 (by decide +kernel) rfl
theorem wm_X5_163 : Jvm.Cond.methodLink "RetryStorm" (163 : Nat) ({ cls := "RetryStorm", name := "request", desc := "(II)I" } : Jvm.MethodName) ∈ WS := WS_2 236 (by decide +kernel) rfl
theorem wm_X5_166 : Jvm.Cond.methodLink "RetryStorm" (166 : Nat) ({ cls := "RetryStorm", name := "hashOfServer", desc := "(JII)J" } : Jvm.MethodName) ∈ WS := WS_2 237 (by decide +kernel) rfl
theorem wi_X5_hashOfServer : Jvm.Cond.instanceMethod ({ cls := "RetryStorm", name := "hashOfServer", desc := "(JII)J" } : Jvm.MethodName) ∈ WS := WS_2 239 (by decide +kernel) rfl
theorem wc_X5_hashOfServer : Jvm.Cond.code ({ cls := "RetryStorm", name := "hashOfServer", desc := "(JII)J" } : Jvm.MethodName) prog_1_method_25_code (8 : Nat) (Option.some Jvm.ClassFile.FieldType.long) ∈ WS := WS_3 0 rfl rfl
theorem wm_X5_182 : Jvm.Cond.methodLink "RetryStorm" (182 : Nat) ({ cls := "RetryStorm", name := "queued", desc := "(ZI)I" } : Jvm.MethodName) ∈ WS := WS_3 1 (by decide +kernel) rfl
theorem wi_X5_queued : Jvm.Cond.instanceMethod ({ cls := "RetryStorm", name := "queued", desc := "(ZI)I" } : Jvm.MethodName) ∈ WS := WS_3 2 (by decide +kernel) rfl
theorem we_X5_queued : Jvm.Cond.selects "RetryStorm" ({ cls := "RetryStorm", name := "queued", desc := "(ZI)I" } : Jvm.MethodName) ({ cls := "RetryStorm", name := "queued", desc := "(ZI)I" } : Jvm.MethodName) ∈ WS := WS_3 3 (by decide +kernel) rfl
theorem wc_X5_queued : Jvm.Cond.code ({ cls := "RetryStorm", name := "queued", desc := "(ZI)I" } : Jvm.MethodName) prog_1_method_16_code (3 : Nat) (Option.some Jvm.ClassFile.FieldType.int) ∈ WS := WS_3 4 rfl rfl
theorem wm_X5_186 : Jvm.Cond.methodLink "RetryStorm" (186 : Nat) ({ cls := "RetryStorm", name := "atWorker", desc := "(ZI)I" } : Jvm.MethodName) ∈ WS := WS_3 5 (by decide +kernel) rfl
theorem wi_X5_atWorker : Jvm.Cond.instanceMethod ({ cls := "RetryStorm", name := "atWorker", desc := "(ZI)I" } : Jvm.MethodName) ∈ WS := WS_3 6 (by decide +kernel) rfl
theorem we_X5_atWorker : Jvm.Cond.selects "RetryStorm" ({ cls := "RetryStorm", name := "atWorker", desc := "(ZI)I" } : Jvm.MethodName) ({ cls := "RetryStorm", name := "atWorker", desc := "(ZI)I" } : Jvm.MethodName) ∈ WS := WS_3 7 (by decide +kernel) rfl
theorem wc_X5_atWorker : Jvm.Cond.code ({ cls := "RetryStorm", name := "atWorker", desc := "(ZI)I" } : Jvm.MethodName) prog_1_method_17_code (3 : Nat) (Option.some Jvm.ClassFile.FieldType.int) ∈ WS := WS_3 8 rfl rfl
theorem wm_X5_170 : Jvm.Cond.methodLink "RetryStorm" (170 : Nat) ({ cls := "RetryStorm", name := "amplification", desc := "()I" } : Jvm.MethodName) ∈ WS := WS_3 9 (by decide +kernel) rfl
theorem wm_L_74 : Jvm.Cond.methodLink "RetryStormLaw" (74 : Nat) ({ cls := "RetryStorm", name := "undo", desc := "()I" } : Jvm.MethodName) ∈ WS := WS_3 10 (by decide +kernel) rfl
theorem wi_X5_undo : Jvm.Cond.instanceMethod ({ cls := "RetryStorm", name := "undo", desc := "()I" } : Jvm.MethodName) ∈ WS := WS_3 11 (by decide +kernel) rfl
theorem we_X5_undo : Jvm.Cond.selects "RetryStorm" ({ cls := "RetryStorm", name := "undo", desc := "()I" } : Jvm.MethodName) ({ cls := "RetryStorm", name := "undo", desc := "()I" } : Jvm.MethodName) ∈ WS := WS_3 12 (by decide +kernel) rfl
theorem wc_X5_undo : Jvm.Cond.code ({ cls := "RetryStorm", name := "undo", desc := "()I" } : Jvm.MethodName) prog_1_method_22_code (2 : Nat) (Option.some Jvm.ClassFile.FieldType.int) ∈ WS := WS_3 13 rfl rfl
theorem we_X5_keepState : Cond.selects "RetryStorm" (⟨"RetryStorm", "keepState", "()V"⟩ : MethodName) ⟨"RetryStorm", "keepState", "()V"⟩ ∈ WS := WS_p1 (y := ⟨"RetryStorm", "keepState", "()V"⟩) (n := 4) 0 rfl
theorem we_X5_dropOldestRecord : Cond.selects "RetryStorm" (⟨"RetryStorm", "dropOldestRecord", "()V"⟩ : MethodName) ⟨"RetryStorm", "dropOldestRecord", "()V"⟩ ∈ WS := WS_p1 (y := ⟨"RetryStorm", "dropOldestRecord", "()V"⟩) (n := 4) 1 rfl
theorem we_X5_isInUseBeyond : Cond.selects "RetryStorm" (⟨"RetryStorm", "isInUseBeyond", "(II)Z"⟩ : MethodName) ⟨"RetryStorm", "isInUseBeyond", "(II)Z"⟩ ∈ WS := WS_p1 (y := ⟨"RetryStorm", "isInUseBeyond", "(II)Z"⟩) (n := 4) 2 rfl
theorem we_X5_goodWorkWith : Cond.selects "RetryStorm" (⟨"RetryStorm", "goodWorkWith", "(II)I"⟩ : MethodName) ⟨"RetryStorm", "goodWorkWith", "(II)I"⟩ ∈ WS := WS_p1 (y := ⟨"RetryStorm", "goodWorkWith", "(II)I"⟩) (n := 4) 3 rfl
theorem we_X5_hashOfClients : Cond.selects "RetryStorm" (⟨"RetryStorm", "hashOfClients", "(J)J"⟩ : MethodName) ⟨"RetryStorm", "hashOfClients", "(J)J"⟩ ∈ WS := WS_p1 (y := ⟨"RetryStorm", "hashOfClients", "(J)J"⟩) (n := 4) 4 rfl
theorem we_X5_hashOfServer : Cond.selects "RetryStorm" (⟨"RetryStorm", "hashOfServer", "(JII)J"⟩ : MethodName) ⟨"RetryStorm", "hashOfServer", "(JII)J"⟩ ∈ WS := WS_p1 (y := ⟨"RetryStorm", "hashOfServer", "(JII)J"⟩) (n := 4) 5 rfl

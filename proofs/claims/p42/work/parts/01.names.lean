-- ===== PART A: goes FIRST, ahead of the names: the tables' words, and 'selects' of the private methods out of them =====
/-- a private method of a class that the tables say can be made, by its rows of tables_1 -/
def lw_okq (q : MethodName × Nat) : Prop := (q.1.cls ≠ "java/lang/invoke/MethodHandle" ∧ q.1.cls ≠ "java/lang/invoke/VarHandle") ∧ Cond.instantiable q.1.cls q.2 ∈ tables_1 ∧ Cond.privateMethod q.1 ∈ tables_1 ∧ Cond.instanceMethod q.1 ∈ tables_1
theorem lw_p0 : lw_okq (⟨"OwnerlessCoin$History", "dropOldest", "()V"⟩, 2) := ⟨⟨by decide +kernel, by decide +kernel⟩, List.mem_of_getElem? (i := 194) (by decide +kernel), List.mem_of_getElem? (i := 255) (by decide +kernel), List.mem_of_getElem? (i := 256) (by decide +kernel)⟩
theorem lw_p1 : lw_okq (⟨"OwnerlessCoin", "settingError", "(III)I"⟩, 3) := ⟨⟨by decide +kernel, by decide +kernel⟩, List.mem_of_getElem? (i := 13) (by decide +kernel), List.mem_of_getElem? (i := 284) (by decide +kernel), List.mem_of_getElem? (i := 285) (by decide +kernel)⟩
theorem lw_p2 : lw_okq (⟨"OwnerlessCoin$Person", "provenPower", "(II)I"⟩, 12) := ⟨⟨by decide +kernel, by decide +kernel⟩, List.mem_of_getElem? (i := 67) (by decide +kernel), List.mem_of_getElem? (i := 422) (by decide +kernel), List.mem_of_getElem? (i := 423) (by decide +kernel)⟩
theorem lw_p3 : lw_okq (⟨"OwnerlessCoin$Lab", "canRecoverAll", "(I)Z"⟩, 14) := ⟨⟨by decide +kernel, by decide +kernel⟩, List.mem_of_getElem? (i := 21) (by decide +kernel), List.mem_of_getElem? (i := 464) (by decide +kernel), List.mem_of_getElem? (i := 465) (by decide +kernel)⟩
theorem lw_p4 : lw_okq (⟨"OwnerlessCoin$Coalition", "add", "(I)V"⟩, 5) := ⟨⟨by decide +kernel, by decide +kernel⟩, List.mem_of_getElem? (i := 211) (by decide +kernel), List.mem_of_getElem? (i := 474) (by decide +kernel), List.mem_of_getElem? (i := 475) (by decide +kernel)⟩
theorem lw_p5 : lw_okq (⟨"OwnerlessCoin$Coalition", "isNew", "(I)Z"⟩, 5) := ⟨⟨by decide +kernel, by decide +kernel⟩, List.mem_of_getElem? (i := 211) (by decide +kernel), List.mem_of_getElem? (i := 486) (by decide +kernel), List.mem_of_getElem? (i := 487) (by decide +kernel)⟩
theorem lw_p6 : lw_okq (⟨"OwnerlessCoin$Coalition", "spread", "(III)V"⟩, 5) := ⟨⟨by decide +kernel, by decide +kernel⟩, List.mem_of_getElem? (i := 211) (by decide +kernel), List.mem_of_getElem? (i := 501) (by decide +kernel), List.mem_of_getElem? (i := 502) (by decide +kernel)⟩
theorem lw_p7 : lw_okq (⟨"OwnerlessCoin$Lab", "chargeOrCredit", "()V"⟩, 14) := ⟨⟨by decide +kernel, by decide +kernel⟩, List.mem_of_getElem? (i := 21) (by decide +kernel), List.mem_of_getElem? (i := 525) (by decide +kernel), List.mem_of_getElem? (i := 526) (by decide +kernel)⟩
theorem lw_p8 : lw_okq (⟨"OwnerlessCoin$Chronicle", "put", "(IIIIII)V"⟩, 8) := ⟨⟨by decide +kernel, by decide +kernel⟩, List.mem_of_getElem? (i := 29) (by decide +kernel), List.mem_of_getElem? (i := 533) (by decide +kernel), List.mem_of_getElem? (i := 534) (by decide +kernel)⟩
theorem lw_p9 : lw_okq (⟨"OwnerlessCoin$Lab", "sharePot", "(I)V"⟩, 14) := ⟨⟨by decide +kernel, by decide +kernel⟩, List.mem_of_getElem? (i := 21) (by decide +kernel), List.mem_of_getElem? (i := 546) (by decide +kernel), List.mem_of_getElem? (i := 547) (by decide +kernel)⟩
theorem lw_p10 : lw_okq (⟨"OwnerlessCoin$Lab", "ableToPay", "()I"⟩, 14) := ⟨⟨by decide +kernel, by decide +kernel⟩, List.mem_of_getElem? (i := 21) (by decide +kernel), List.mem_of_getElem? (i := 567) (by decide +kernel), List.mem_of_getElem? (i := 568) (by decide +kernel)⟩
def lw_privs_1 : List (MethodName × Nat) := [(⟨"OwnerlessCoin$History", "dropOldest", "()V"⟩, 2), (⟨"OwnerlessCoin", "settingError", "(III)I"⟩, 3), (⟨"OwnerlessCoin$Person", "provenPower", "(II)I"⟩, 12), (⟨"OwnerlessCoin$Lab", "canRecoverAll", "(I)Z"⟩, 14), (⟨"OwnerlessCoin$Coalition", "add", "(I)V"⟩, 5), (⟨"OwnerlessCoin$Coalition", "isNew", "(I)Z"⟩, 5), (⟨"OwnerlessCoin$Coalition", "spread", "(III)V"⟩, 5), (⟨"OwnerlessCoin$Lab", "chargeOrCredit", "()V"⟩, 14), (⟨"OwnerlessCoin$Chronicle", "put", "(IIIIII)V"⟩, 8), (⟨"OwnerlessCoin$Lab", "sharePot", "(I)V"⟩, 14), (⟨"OwnerlessCoin$Lab", "ableToPay", "()I"⟩, 14)]
theorem lw_r1 : ∀ q ∈ lw_privs_1, lw_okq q := List.forall_mem_cons.mpr ⟨lw_p0, List.forall_mem_cons.mpr ⟨lw_p1, List.forall_mem_cons.mpr ⟨lw_p2, List.forall_mem_cons.mpr ⟨lw_p3, List.forall_mem_cons.mpr ⟨lw_p4, List.forall_mem_cons.mpr ⟨lw_p5, List.forall_mem_cons.mpr ⟨lw_p6, List.forall_mem_cons.mpr ⟨lw_p7, List.forall_mem_cons.mpr ⟨lw_p8, List.forall_mem_cons.mpr ⟨lw_p9, List.forall_mem_cons.mpr ⟨lw_p10, fun _ h => absurd h List.not_mem_nil⟩⟩⟩⟩⟩⟩⟩⟩⟩⟩⟩
def lw_privs : List (MethodName × Nat) := lw_privs_1
def lw_tbl : List Cond := k2_sels lw_privs ++ tables_1
theorem lw_privs_ok : ∀ q ∈ lw_privs, lw_okq q := lw_r1

def RX0 : String := "OwnerlessCoin$Chronicle"
def TX0 : u_T := fun k => match k with
  | 0 => ("OwnerlessCoin$Chronicle", "ended", "I", false)
  | 1 => ("OwnerlessCoin$Chronicle", "latestOutput", "I", false)
  | 2 => ("OwnerlessCoin$Chronicle", "zeros", "I", false)
  | 3 => ("OwnerlessCoin$Chronicle", "ones", "I", false)
  | 4 => ("OwnerlessCoin$Chronicle", "longest", "I", false)
  | 5 => ("OwnerlessCoin$Chronicle", "run", "I", false)
  | 6 => ("OwnerlessCoin$Chronicle", "runCoin", "I", false)
  | _ => ("OwnerlessCoin$Chronicle", "entries", "[I", true)
def tyX0 : Nat → FieldType := fun k => match k with
  | 0 => .int
  | 1 => .int
  | 2 => .int
  | 3 => .int
  | 4 => .int
  | 5 => .int
  | 6 => .int
  | _ => .array .int
abbrev wsX00 : List Cond := u_ws RX0 TX0 8
theorem nmX0 : ∀ a, a < 8 → ∀ b, b < 8 → a ≠ b → (TX0 a).2.1 ≠ (TX0 b).2.1 := by decide +kernel
theorem tyX0_ok : ∀ k, k < 8 → parseFieldDescriptor (TX0 k).2.2.1 = some (tyX0 k) := by decide +kernel
abbrev cX0_init : ByteArray := prog_2_method_1_code
def yX0_init : MethodName := ⟨RX0, "<init>", "()V"⟩
abbrev cX0_copy : ByteArray := prog_2_method_2_code
def yX0_copy : MethodName := ⟨RX0, "copy", "(LOwnerlessCoin$Chronicle;)V"⟩
abbrev cX0_keeps : ByteArray := prog_2_method_3_code
def yX0_keeps : MethodName := ⟨RX0, "keeps", "(I)Z"⟩
abbrev cX0_entry : ByteArray := prog_2_method_4_code
def yX0_entry : MethodName := ⟨RX0, "entry", "(II)I"⟩
abbrev cX0_addFailure : ByteArray := prog_2_method_5_code
def yX0_addFailure : MethodName := ⟨RX0, "addFailure", "(III)V"⟩
abbrev cX0_addOutput : ByteArray := prog_2_method_6_code
def yX0_addOutput : MethodName := ⟨RX0, "addOutput", "(IIII)V"⟩
abbrev cX0_put : ByteArray := prog_2_method_7_code
def yX0_put : MethodName := ⟨RX0, "put", "(IIIIII)V"⟩
def RX1 : String := "OwnerlessCoin$Coalition"
def TX1 : u_T := fun k => match k with
  | 0 => ("OwnerlessCoin$Coalition", "counted", "[I", true)
  | 1 => ("OwnerlessCoin$Coalition", "outputs", "[I", true)
  | 2 => ("OwnerlessCoin$Coalition", "secrets", "[I", true)
  | 3 => ("OwnerlessCoin$Coalition", "size", "I", false)
  | _ => ("OwnerlessCoin$Coalition", "canFail", "Z", false)
def tyX1 : Nat → FieldType := fun k => match k with
  | 0 => .array .int
  | 1 => .array .int
  | 2 => .array .int
  | 3 => .int
  | _ => .boolean
abbrev wsX10 : List Cond := u_ws RX1 TX1 5
theorem nmX1 : ∀ a, a < 5 → ∀ b, b < 5 → a ≠ b → (TX1 a).2.1 ≠ (TX1 b).2.1 := by decide +kernel
theorem tyX1_ok : ∀ k, k < 5 → parseFieldDescriptor (TX1 k).2.2.1 = some (tyX1 k) := by decide +kernel
abbrev cX1_init : ByteArray := prog_3_method_1_code
def yX1_init : MethodName := ⟨RX1, "<init>", "()V"⟩
abbrev cX1_gather : ByteArray := prog_3_method_2_code
def yX1_gather : MethodName := ⟨RX1, "gather", "(LOwnerlessCoin$Lab;I)V"⟩
abbrev cX1_add : ByteArray := prog_3_method_3_code
def yX1_add : MethodName := ⟨RX1, "add", "(I)V"⟩
abbrev cX1_countResults : ByteArray := prog_3_method_4_code
def yX1_countResults : MethodName := ⟨RX1, "countResults", "(LOwnerlessCoin$Lab;)I"⟩
abbrev cX1_isNew : ByteArray := prog_3_method_5_code
def yX1_isNew : MethodName := ⟨RX1, "isNew", "(I)Z"⟩
abbrev cX1_reaches : ByteArray := prog_3_method_6_code
def yX1_reaches : MethodName := ⟨RX1, "reaches", "(LOwnerlessCoin$Lab;[II)Z"⟩
abbrev cX1_countForced : ByteArray := prog_3_method_7_code
def yX1_countForced : MethodName := ⟨RX1, "countForced", "(LOwnerlessCoin$Lab;II)I"⟩
abbrev cX1_spread : ByteArray := prog_3_method_8_code
def yX1_spread : MethodName := ⟨RX1, "spread", "(III)V"⟩
def RX2 : String := "OwnerlessCoin$Game"
def TX2 : u_T := fun k => match k with
  | _ => ("", "", "", false)
def tyX2 : Nat → FieldType := fun k => match k with
  | _ => .int
abbrev wsX20 : List Cond := u_ws RX2 TX2 0
theorem nmX2 : ∀ a, a < 0 → ∀ b, b < 0 → a ≠ b → (TX2 a).2.1 ≠ (TX2 b).2.1 := by decide +kernel
theorem tyX2_ok : ∀ k, k < 0 → parseFieldDescriptor (TX2 k).2.2.1 = some (tyX2 k) := by decide +kernel
abbrev cX2_playRound : ByteArray := prog_4_method_2_code
def yX2_playRound : MethodName := ⟨RX2, "playRound", "(LOwnerlessCoin$Lab;I)I"⟩
abbrev cX2_commitAll : ByteArray := prog_4_method_3_code
def yX2_commitAll : MethodName := ⟨RX2, "commitAll", "(LOwnerlessCoin$Lab;I)V"⟩
abbrev cX2_cheat : ByteArray := prog_4_method_4_code
def yX2_cheat : MethodName := ⟨RX2, "cheat", "(LOwnerlessCoin$Lab;)V"⟩
abbrev cX2_memberAfter : ByteArray := prog_4_method_5_code
def yX2_memberAfter : MethodName := ⟨RX2, "memberAfter", "(LOwnerlessCoin$Lab;I)I"⟩
abbrev cX2_complainAll : ByteArray := prog_4_method_6_code
def yX2_complainAll : MethodName := ⟨RX2, "complainAll", "(LOwnerlessCoin$Lab;)V"⟩
abbrev cX2_openHonest : ByteArray := prog_4_method_7_code
def yX2_openHonest : MethodName := ⟨RX2, "openHonest", "(LOwnerlessCoin$Lab;)V"⟩
abbrev cX2_openSelfish : ByteArray := prog_4_method_8_code
def yX2_openSelfish : MethodName := ⟨RX2, "openSelfish", "(LOwnerlessCoin$Lab;)V"⟩
abbrev cX2_givesOne : ByteArray := prog_4_method_9_code
def yX2_givesOne : MethodName := ⟨RX2, "givesOne", "(LOwnerlessCoin$Lab;I)Z"⟩
def RX3 : String := "OwnerlessCoin$History"
def TX3 : u_T := fun k => match k with
  | 0 => ("OwnerlessCoin$History", "states", "[LOwnerlessCoin$Lab;", true)
  | _ => ("OwnerlessCoin$History", "size", "I", false)
def tyX3 : Nat → FieldType := fun k => match k with
  | 0 => .array (.object "OwnerlessCoin$Lab")
  | _ => .int
abbrev wsX30 : List Cond := u_ws RX3 TX3 2
theorem nmX3 : ∀ a, a < 2 → ∀ b, b < 2 → a ≠ b → (TX3 a).2.1 ≠ (TX3 b).2.1 := by decide +kernel
theorem tyX3_ok : ∀ k, k < 2 → parseFieldDescriptor (TX3 k).2.2.1 = some (tyX3 k) := by decide +kernel
abbrev cX3_init : ByteArray := prog_5_method_1_code
def yX3_init : MethodName := ⟨RX3, "<init>", "()V"⟩
abbrev cX3_remember : ByteArray := prog_5_method_2_code
def yX3_remember : MethodName := ⟨RX3, "remember", "(LOwnerlessCoin$Lab;)V"⟩
abbrev cX3_dropOldest : ByteArray := prog_5_method_3_code
def yX3_dropOldest : MethodName := ⟨RX3, "dropOldest", "()V"⟩
abbrev cX3_restore : ByteArray := prog_5_method_4_code
def yX3_restore : MethodName := ⟨RX3, "restore", "(LOwnerlessCoin$Lab;)V"⟩
def RX4 : String := "OwnerlessCoin$Lab"
def TX4 : u_T := fun k => match k with
  | 0 => ("OwnerlessCoin$Lab", "people", "[LOwnerlessCoin$Person;", true)
  | 1 => ("OwnerlessCoin$Lab", "secrets", "[I", true)
  | 2 => ("OwnerlessCoin$Lab", "chronicle", "LOwnerlessCoin$Chronicle;", true)
  | 3 => ("OwnerlessCoin$Lab", "count", "I", false)
  | 4 => ("OwnerlessCoin$Lab", "pot", "I", false)
  | 5 => ("OwnerlessCoin$Lab", "method", "I", false)
  | 6 => ("OwnerlessCoin$Lab", "threshold", "I", false)
  | 7 => ("OwnerlessCoin$Lab", "fine", "I", false)
  | 8 => ("OwnerlessCoin$Lab", "delay", "I", false)
  | 9 => ("OwnerlessCoin$Lab", "phase", "I", false)
  | 10 => ("OwnerlessCoin$Lab", "members", "I", false)
  | 11 => ("OwnerlessCoin$Lab", "committed", "I", false)
  | 12 => ("OwnerlessCoin$Lab", "opened", "I", false)
  | _ => ("OwnerlessCoin$Lab", "expelled", "I", false)
def tyX4 : Nat → FieldType := fun k => match k with
  | 0 => .array (.object "OwnerlessCoin$Person")
  | 1 => .array .int
  | 2 => .object "OwnerlessCoin$Chronicle"
  | 3 => .int
  | 4 => .int
  | 5 => .int
  | 6 => .int
  | 7 => .int
  | 8 => .int
  | 9 => .int
  | 10 => .int
  | 11 => .int
  | 12 => .int
  | _ => .int
abbrev wsX40 : List Cond := u_ws RX4 TX4 14
theorem nmX4 : ∀ a, a < 14 → ∀ b, b < 14 → a ≠ b → (TX4 a).2.1 ≠ (TX4 b).2.1 := by decide +kernel
theorem tyX4_ok : ∀ k, k < 14 → parseFieldDescriptor (TX4 k).2.2.1 = some (tyX4 k) := by decide +kernel
abbrev cX4_init : ByteArray := prog_6_method_1_code
def yX4_init : MethodName := ⟨RX4, "<init>", "()V"⟩
abbrev cX4_copy : ByteArray := prog_6_method_2_code
def yX4_copy : MethodName := ⟨RX4, "copy", "(LOwnerlessCoin$Lab;)V"⟩
abbrev cX4_isParticipant : ByteArray := prog_6_method_3_code
def yX4_isParticipant : MethodName := ⟨RX4, "isParticipant", "(I)Z"⟩
abbrev cX4_isCommitted : ByteArray := prog_6_method_4_code
def yX4_isCommitted : MethodName := ⟨RX4, "isCommitted", "(I)Z"⟩
abbrev cX4_hasDealt : ByteArray := prog_6_method_5_code
def yX4_hasDealt : MethodName := ⟨RX4, "hasDealt", "(I)Z"⟩
abbrev cX4_hasShare : ByteArray := prog_6_method_6_code
def yX4_hasShare : MethodName := ⟨RX4, "hasShare", "(II)Z"⟩
abbrev cX4_canConspire : ByteArray := prog_6_method_7_code
def yX4_canConspire : MethodName := ⟨RX4, "canConspire", "(I)Z"⟩
abbrev cX4_admit : ByteArray := prog_6_method_8_code
/-- the method that a word 'instanceMethod' of the Statement's tables names -/
def nm_of : Option Cond → MethodName
  | some (Cond.instanceMethod y) => y
  | _ => ⟨"", "", ""⟩
def yX4_admit : MethodName := nm_of tables_1_2[36]?
abbrev cX4_canStart : ByteArray := prog_6_method_9_code
def yX4_canStart : MethodName := ⟨RX4, "canStart", "()Z"⟩
abbrev cX4_ableToPay : ByteArray := prog_6_method_10_code
def yX4_ableToPay : MethodName := ⟨RX4, "ableToPay", "()I"⟩
abbrev cX4_start : ByteArray := prog_6_method_11_code
def yX4_start : MethodName := ⟨RX4, "start", "()V"⟩
abbrev cX4_digestOf : ByteArray := prog_6_method_12_code
def yX4_digestOf : MethodName := ⟨RX4, "digestOf", "(II)I"⟩
abbrev cX4_isTaken : ByteArray := prog_6_method_13_code
def yX4_isTaken : MethodName := ⟨RX4, "isTaken", "(I)Z"⟩
abbrev cX4_accept : ByteArray := prog_6_method_14_code
def yX4_accept : MethodName := ⟨RX4, "accept", "(III)V"⟩
abbrev cX4_payFine : ByteArray := prog_6_method_15_code
def yX4_payFine : MethodName := ⟨RX4, "payFine", "(I)V"⟩
abbrev cX4_expel : ByteArray := prog_6_method_16_code
def yX4_expel : MethodName := ⟨RX4, "expel", "(I)V"⟩
abbrev cX4_startOpening : ByteArray := prog_6_method_17_code
def yX4_startOpening : MethodName := ⟨RX4, "startOpening", "()I"⟩
abbrev cX4_finish : ByteArray := prog_6_method_18_code
def yX4_finish : MethodName := ⟨RX4, "finish", "()I"⟩
abbrev cX4_chargeOrCredit : ByteArray := prog_6_method_19_code
def yX4_chargeOrCredit : MethodName := ⟨RX4, "chargeOrCredit", "()V"⟩
abbrev cX4_sharePot : ByteArray := prog_6_method_20_code
def yX4_sharePot : MethodName := ⟨RX4, "sharePot", "(I)V"⟩
abbrev cX4_countedIf : ByteArray := prog_6_method_21_code
def yX4_countedIf : MethodName := ⟨RX4, "countedIf", "(I)I"⟩
abbrev cX4_canRecoverAll : ByteArray := prog_6_method_22_code
def yX4_canRecoverAll : MethodName := ⟨RX4, "canRecoverAll", "(I)Z"⟩
abbrev cX4_mixed : ByteArray := prog_6_method_23_code
def yX4_mixed : MethodName := ⟨RX4, "mixed", "([II)I"⟩
def RX5 : String := "OwnerlessCoin$Person"
def TX5 : u_T := fun k => match k with
  | 0 => ("OwnerlessCoin$Person", "balance", "I", false)
  | 1 => ("OwnerlessCoin$Person", "behavior", "I", false)
  | 2 => ("OwnerlessCoin$Person", "roundsOpened", "I", false)
  | 3 => ("OwnerlessCoin$Person", "roundsWithheld", "I", false)
  | 4 => ("OwnerlessCoin$Person", "roundsExpelled", "I", false)
  | 5 => ("OwnerlessCoin$Person", "nonce", "I", false)
  | 6 => ("OwnerlessCoin$Person", "digest", "I", false)
  | 7 => ("OwnerlessCoin$Person", "lockBase", "I", false)
  | 8 => ("OwnerlessCoin$Person", "lockNumber", "I", false)
  | 9 => ("OwnerlessCoin$Person", "rightHolders", "I", false)
  | 10 => ("OwnerlessCoin$Person", "shares", "[I", true)
  | _ => ("OwnerlessCoin$Person", "checks", "[I", true)
def tyX5 : Nat → FieldType := fun k => match k with
  | 0 => .int
  | 1 => .int
  | 2 => .int
  | 3 => .int
  | 4 => .int
  | 5 => .int
  | 6 => .int
  | 7 => .int
  | 8 => .int
  | 9 => .int
  | 10 => .array .int
  | _ => .array .int
abbrev wsX50 : List Cond := u_ws RX5 TX5 12
theorem nmX5 : ∀ a, a < 12 → ∀ b, b < 12 → a ≠ b → (TX5 a).2.1 ≠ (TX5 b).2.1 := by decide +kernel
theorem tyX5_ok : ∀ k, k < 12 → parseFieldDescriptor (TX5 k).2.2.1 = some (tyX5 k) := by decide +kernel
abbrev cX5_init : ByteArray := prog_7_method_1_code
def yX5_init : MethodName := ⟨RX5, "<init>", "()V"⟩
abbrev cX5_copy : ByteArray := prog_7_method_2_code
def yX5_copy : MethodName := ⟨RX5, "copy", "(LOwnerlessCoin$Person;)V"⟩
abbrev cX5_deal : ByteArray := prog_7_method_3_code
def yX5_deal : MethodName := ⟨RX5, "deal", "(II)V"⟩
abbrev cX5_putLock : ByteArray := prog_7_method_4_code
def yX5_putLock : MethodName := ⟨RX5, "putLock", "(II)V"⟩
abbrev cX5_changeShare : ByteArray := prog_7_method_5_code
def yX5_changeShare : MethodName := ⟨RX5, "changeShare", "(III)V"⟩
abbrev cX5_provenPower : ByteArray := prog_7_method_6_code
def yX5_provenPower : MethodName := ⟨RX5, "provenPower", "(II)I"⟩
abbrev cX5_valueAtZero : ByteArray := prog_7_method_7_code
def yX5_valueAtZero : MethodName := ⟨RX5, "valueAtZero", "(I)I"⟩
abbrev cX5_weight : ByteArray := prog_7_method_8_code
def yX5_weight : MethodName := ⟨RX5, "weight", "(II)I"⟩
def RX6 : String := "OwnerlessCoin$SlowWork"
def TX6 : u_T := fun k => match k with
  | _ => ("", "", "", false)
def tyX6 : Nat → FieldType := fun k => match k with
  | _ => .int
abbrev wsX60 : List Cond := u_ws RX6 TX6 0
theorem nmX6 : ∀ a, a < 0 → ∀ b, b < 0 → a ≠ b → (TX6 a).2.1 ≠ (TX6 b).2.1 := by decide +kernel
theorem tyX6_ok : ∀ k, k < 0 → parseFieldDescriptor (TX6 k).2.2.1 = some (tyX6 k) := by decide +kernel
abbrev cX6_value : ByteArray := prog_8_method_2_code
def yX6_value : MethodName := ⟨RX6, "value", "(II)I"⟩
def RX7 : String := "OwnerlessCoin"
def TX7 : u_T := fun k => match k with
  | 0 => ("OwnerlessCoin", "lab", "LOwnerlessCoin$Lab;", true)
  | 1 => ("OwnerlessCoin", "history", "LOwnerlessCoin$History;", true)
  | _ => ("OwnerlessCoin", "coalitions", "LOwnerlessCoin$Coalition;", true)
def tyX7 : Nat → FieldType := fun k => match k with
  | 0 => .object "OwnerlessCoin$Lab"
  | 1 => .object "OwnerlessCoin$History"
  | _ => .object "OwnerlessCoin$Coalition"
abbrev wsX70 : List Cond := u_ws RX7 TX7 3
theorem nmX7 : ∀ a, a < 3 → ∀ b, b < 3 → a ≠ b → (TX7 a).2.1 ≠ (TX7 b).2.1 := by decide +kernel
theorem tyX7_ok : ∀ k, k < 3 → parseFieldDescriptor (TX7 k).2.2.1 = some (tyX7 k) := by decide +kernel
abbrev cX7_init : ByteArray := prog_1_method_1_code
def yX7_init : MethodName := ⟨RX7, "<init>", "()V"⟩
abbrev cX7_addParticipant : ByteArray := prog_1_method_2_code
def yX7_addParticipant : MethodName := ⟨RX7, "addParticipant", "(I)I"⟩
abbrev cX7_behave : ByteArray := prog_1_method_3_code
def yX7_behave : MethodName := ⟨RX7, "behave", "(II)I"⟩
abbrev cX7_setMethod : ByteArray := prog_1_method_4_code
def yX7_setMethod : MethodName := ⟨RX7, "setMethod", "(I)I"⟩
abbrev cX7_setThreshold : ByteArray := prog_1_method_5_code
def yX7_setThreshold : MethodName := ⟨RX7, "setThreshold", "(I)I"⟩
abbrev cX7_setFine : ByteArray := prog_1_method_6_code
def yX7_setFine : MethodName := ⟨RX7, "setFine", "(I)I"⟩
abbrev cX7_setDelay : ByteArray := prog_1_method_7_code
def yX7_setDelay : MethodName := ⟨RX7, "setDelay", "(I)I"⟩
abbrev cX7_settingError : ByteArray := prog_1_method_8_code
def yX7_settingError : MethodName := ⟨RX7, "settingError", "(III)I"⟩
abbrev cX7_begin : ByteArray := prog_1_method_9_code
def yX7_begin : MethodName := ⟨RX7, "begin", "()I"⟩
abbrev cX7_commit : ByteArray := prog_1_method_10_code
def yX7_commit : MethodName := ⟨RX7, "commit", "(III)I"⟩
abbrev cX7_spoil : ByteArray := prog_1_method_11_code
def yX7_spoil : MethodName := ⟨RX7, "spoil", "(III)I"⟩
abbrev cX7_complain : ByteArray := prog_1_method_12_code
def yX7_complain : MethodName := ⟨RX7, "complain", "(II)I"⟩
abbrev cX7_beginOpening : ByteArray := prog_1_method_13_code
def yX7_beginOpening : MethodName := ⟨RX7, "beginOpening", "()I"⟩
abbrev cX7_open : ByteArray := prog_1_method_14_code
def yX7_open : MethodName := ⟨RX7, "open", "(III)I"⟩
abbrev cX7_close : ByteArray := prog_1_method_15_code
def yX7_close : MethodName := ⟨RX7, "close", "()I"⟩
abbrev cX7_play : ByteArray := prog_1_method_16_code
def yX7_play : MethodName := ⟨RX7, "play", "(I)I"⟩
abbrev cX7_phase : ByteArray := prog_1_method_17_code
def yX7_phase : MethodName := ⟨RX7, "phase", "()I"⟩
abbrev cX7_set : ByteArray := prog_1_method_18_code
def yX7_set : MethodName := ⟨RX7, "set", "(I)I"⟩
abbrev cX7_digest : ByteArray := prog_1_method_19_code
def yX7_digest : MethodName := ⟨RX7, "digest", "(I)I"⟩
abbrev cX7_share : ByteArray := prog_1_method_20_code
def yX7_share : MethodName := ⟨RX7, "share", "(II)I"⟩
abbrev cX7_isRight : ByteArray := prog_1_method_21_code
def yX7_isRight : MethodName := ⟨RX7, "isRight", "(II)I"⟩
abbrev cX7_recover : ByteArray := prog_1_method_23_code
def yX7_recover : MethodName := ⟨RX7, "recover", "(II)I"⟩
abbrev cX7_results : ByteArray := prog_1_method_25_code
def yX7_results : MethodName := ⟨RX7, "results", "(I)I"⟩
abbrev cX7_canForce : ByteArray := prog_1_method_26_code
def yX7_canForce : MethodName := ⟨RX7, "canForce", "(II)I"⟩
abbrev cX7_bias : ByteArray := prog_1_method_27_code
def yX7_bias : MethodName := ⟨RX7, "bias", "(II)I"⟩
abbrev cX7_account : ByteArray := prog_1_method_33_code
def yX7_account : MethodName := ⟨RX7, "account", "(II)I"⟩
abbrev cX7_pot : ByteArray := prog_1_method_34_code
def yX7_pot : MethodName := ⟨RX7, "pot", "()I"⟩
abbrev cX7_rounds : ByteArray := prog_1_method_35_code
def yX7_rounds : MethodName := ⟨RX7, "rounds", "()I"⟩
abbrev cX7_past : ByteArray := prog_1_method_36_code
def yX7_past : MethodName := ⟨RX7, "past", "(II)I"⟩
abbrev cX7_output : ByteArray := prog_1_method_37_code
def yX7_output : MethodName := ⟨RX7, "output", "(I)I"⟩
abbrev cX7_coins : ByteArray := prog_1_method_38_code
def yX7_coins : MethodName := ⟨RX7, "coins", "(I)I"⟩
abbrev cX7_longestRun : ByteArray := prog_1_method_39_code
def yX7_longestRun : MethodName := ⟨RX7, "longestRun", "()I"⟩
abbrev cX7_undo : ByteArray := prog_1_method_40_code
def yX7_undo : MethodName := ⟨RX7, "undo", "()I"⟩
abbrev cX7_fingerprint : ByteArray := prog_1_method_41_code
def yX7_fingerprint : MethodName := ⟨RX7, "fingerprint", "()J"⟩
abbrev cX7_isWithin : ByteArray := prog_1_method_42_code
def yX7_isWithin : MethodName := ⟨RX7, "isWithin", "(III)Z"⟩
abbrev cX7_has : ByteArray := prog_1_method_44_code
def yX7_has : MethodName := ⟨RX7, "has", "(II)Z"⟩
abbrev cX7_smallest : ByteArray := prog_1_method_45_code
def yX7_smallest : MethodName := ⟨RX7, "smallest", "(II)I"⟩
abbrev cX7_mix : ByteArray := prog_1_method_46_code
def yX7_mix : MethodName := ⟨RX7, "mix", "(II)I"⟩
abbrev cX7_stepped : ByteArray := prog_1_method_47_code
def yX7_stepped : MethodName := ⟨RX7, "stepped", "(I)I"⟩
abbrev cX7_drawn : ByteArray := prog_1_method_48_code
def yX7_drawn : MethodName := ⟨RX7, "drawn", "(I)I"⟩
abbrev cX7_product : ByteArray := prog_1_method_49_code
def yX7_product : MethodName := ⟨RX7, "product", "(III)I"⟩
abbrev cX7_power : ByteArray := prog_1_method_50_code
def yX7_power : MethodName := ⟨RX7, "power", "(III)I"⟩
def RX8 : String := "OwnerlessCoinModel"
def TX8 : u_T := fun k => match k with
  | _ => ("", "", "", false)
def tyX8 : Nat → FieldType := fun k => match k with
  | _ => .int
abbrev wsX80 : List Cond := u_ws RX8 TX8 0
theorem nmX8 : ∀ a, a < 0 → ∀ b, b < 0 → a ≠ b → (TX8 a).2.1 ≠ (TX8 b).2.1 := by decide +kernel
theorem tyX8_ok : ∀ k, k < 0 → parseFieldDescriptor (TX8 k).2.2.1 = some (tyX8 k) := by decide +kernel
def RJ6 : String := "java/lang/Integer"
def TJ6 : u_T := fun k => match k with
  | _ => ("", "", "", false)
def tyJ6 : Nat → FieldType := fun k => match k with
  | _ => .int
abbrev wsJ60 : List Cond := u_ws RJ6 TJ6 0
theorem nmJ6 : ∀ a, a < 0 → ∀ b, b < 0 → a ≠ b → (TJ6 a).2.1 ≠ (TJ6 b).2.1 := by decide +kernel
theorem tyJ6_ok : ∀ k, k < 0 → parseFieldDescriptor (TJ6 k).2.2.1 = some (tyJ6 k) := by decide +kernel
abbrev cJ6_bitCount_0f7a4 : ByteArray := prog_11_method_49_code
def yJ6_bitCount_0f7a4 : MethodName := ⟨RJ6, "bitCount", "(I)I"⟩
def RJ9 : String := "java/lang/Math"
def TJ9 : u_T := fun k => match k with
  | _ => ("", "", "", false)
def tyJ9 : Nat → FieldType := fun k => match k with
  | _ => .int
abbrev wsJ90 : List Cond := u_ws RJ9 TJ9 0
theorem nmJ9 : ∀ a, a < 0 → ∀ b, b < 0 → a ≠ b → (TJ9 a).2.1 ≠ (TJ9 b).2.1 := by decide +kernel
theorem tyJ9_ok : ∀ k, k < 0 → parseFieldDescriptor (TJ9 k).2.2.1 = some (tyJ9 k) := by decide +kernel
abbrev cJ9_max_7cf53 : ByteArray := prog_12_method_65_code
def yJ9_max_7cf53 : MethodName := ⟨RJ9, "max", "(II)I"⟩
abbrev cJ9_min_7cf53 : ByteArray := prog_12_method_69_code
def yJ9_min_7cf53 : MethodName := ⟨RJ9, "min", "(II)I"⟩
def RJ10 : String := "java/lang/System"
def TJ10 : u_T := fun k => match k with
  | _ => ("", "", "", false)
def tyJ10 : Nat → FieldType := fun k => match k with
  | _ => .int
abbrev wsJ100 : List Cond := u_ws RJ10 TJ10 0
theorem nmJ10 : ∀ a, a < 0 → ∀ b, b < 0 → a ≠ b → (TJ10 a).2.1 ≠ (TJ10 b).2.1 := by decide +kernel
theorem tyJ10_ok : ∀ k, k < 0 → parseFieldDescriptor (TJ10 k).2.2.1 = some (tyJ10 k) := by decide +kernel
def RL : String := "OwnerlessCoinLaw"
abbrev cL_cell : ByteArray := method_2_code
def yL_cell : MethodName := ⟨RL, "cell", "([II)I"⟩
abbrev cL_up : ByteArray := method_3_code
def yL_up : MethodName := ⟨RL, "up", "(II)I"⟩
abbrev cL_sum : ByteArray := method_4_code
def yL_sum : MethodName := ⟨RL, "sum", "(LOwnerlessCoin;I)J"⟩
abbrev cL_fails : ByteArray := method_5_code
def yL_fails : MethodName := ⟨RL, "fails", "(LOwnerlessCoin;I)Z"⟩
abbrev cL_sets : ByteArray := method_6_code
def yL_sets : MethodName := ⟨RL, "sets", "(LOwnerlessCoin;I)Z"⟩
abbrev cL_accounts : ByteArray := method_7_code
def yL_accounts : MethodName := ⟨RL, "accounts", "(LOwnerlessCoin;IJ)Z"⟩
abbrev cL_coalitions : ByteArray := method_8_code
def yL_coalitions : MethodName := ⟨RL, "coalitions", "(LOwnerlessCoin;I)Z"⟩
abbrev cL_plays : ByteArray := method_9_code
def yL_plays : MethodName := ⟨RL, "plays", "(LOwnerlessCoin;I)Z"⟩
abbrev cL_commits : ByteArray := method_10_code
def yL_commits : MethodName := ⟨RL, "commits", "(LOwnerlessCoin;II)Z"⟩
abbrev cL_steps : ByteArray := method_11_code
def yL_steps : MethodName := ⟨RL, "steps", "(LOwnerlessCoin;IIII)Z"⟩
abbrev cL_law : ByteArray := code
def yL_law : MethodName := ⟨RL, "law", "([I)Z"⟩
abbrev vwCl : List vw_C := [(RX0, TX0, 8), (RX1, TX1, 5), (RX3, TX3, 2), (RX4, TX4, 14), (RX5, TX5, 12), (RX7, TX7, 3)]

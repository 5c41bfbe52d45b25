-- ===== PART A: goes FIRST, ahead of the names: the tables' words, and 'selects' of the private methods out of them =====
/-- a private method of a class that the tables say can be made, by its rows of tables_1 -/
def lw_okq (q : MethodName × Nat) : Prop := (q.1.cls ≠ "java/lang/invoke/MethodHandle" ∧ q.1.cls ≠ "java/lang/invoke/VarHandle") ∧ Cond.instantiable q.1.cls q.2 ∈ tables_1 ∧ Cond.privateMethod q.1 ∈ tables_1 ∧ Cond.instanceMethod q.1 ∈ tables_1
theorem lw_p0 : lw_okq (⟨"ChoirBook$Placing", "addVoice", "(III)V"⟩, 10) := ⟨⟨by decide +kernel, by decide +kernel⟩, List.mem_of_getElem? (i := 235) (by decide +kernel), List.mem_of_getElem? (i := 355) (by decide +kernel), List.mem_of_getElem? (i := 356) (by decide +kernel)⟩
theorem lw_p1 : lw_okq (⟨"ChoirBook$Placing", "weighPairs", "(II)V"⟩, 10) := ⟨⟨by decide +kernel, by decide +kernel⟩, List.mem_of_getElem? (i := 235) (by decide +kernel), List.mem_of_getElem? (i := 366) (by decide +kernel), List.mem_of_getElem? (i := 367) (by decide +kernel)⟩
theorem lw_p2 : lw_okq (⟨"ChoirBook$Split", "gives", "(II)Z"⟩, 2) := ⟨⟨by decide +kernel, by decide +kernel⟩, List.mem_of_getElem? (i := 241) (by decide +kernel), List.mem_of_getElem? (i := 374) (by decide +kernel), List.mem_of_getElem? (i := 375) (by decide +kernel)⟩
theorem lw_p3 : lw_okq (⟨"ChoirBook$Placing", "firstGoodPart", "(I)I"⟩, 10) := ⟨⟨by decide +kernel, by decide +kernel⟩, List.mem_of_getElem? (i := 235) (by decide +kernel), List.mem_of_getElem? (i := 385) (by decide +kernel), List.mem_of_getElem? (i := 386) (by decide +kernel)⟩
theorem lw_p4 : lw_okq (⟨"ChoirBook$Placing", "canFinish", "(I)Z"⟩, 10) := ⟨⟨by decide +kernel, by decide +kernel⟩, List.mem_of_getElem? (i := 235) (by decide +kernel), List.mem_of_getElem? (i := 389) (by decide +kernel), List.mem_of_getElem? (i := 390) (by decide +kernel)⟩
theorem lw_p5 : lw_okq (⟨"ChoirBook$Placing", "pairCanReach", "(LChoirBook$Split;II)Z"⟩, 10) := ⟨⟨by decide +kernel, by decide +kernel⟩, List.mem_of_getElem? (i := 235) (by decide +kernel), List.mem_of_getElem? (i := 393) (by decide +kernel), List.mem_of_getElem? (i := 394) (by decide +kernel)⟩
theorem lw_p6 : lw_okq (⟨"ChoirBook$Rehearsal", "findStandIns", "(LChoirBook$Choir;I)V"⟩, 3) := ⟨⟨by decide +kernel, by decide +kernel⟩, List.mem_of_getElem? (i := 217) (by decide +kernel), List.mem_of_getElem? (i := 468) (by decide +kernel), List.mem_of_getElem? (i := 469) (by decide +kernel)⟩
theorem lw_p7 : lw_okq (⟨"ChoirBook$Rehearsal", "canStandIn", "(LChoirBook$Choir;II)Z"⟩, 3) := ⟨⟨by decide +kernel, by decide +kernel⟩, List.mem_of_getElem? (i := 217) (by decide +kernel), List.mem_of_getElem? (i := 473) (by decide +kernel), List.mem_of_getElem? (i := 474) (by decide +kernel)⟩
theorem lw_p8 : lw_okq (⟨"ChoirBook$Rehearsal", "findSoloist", "(LChoirBook$Choir;I)I"⟩, 3) := ⟨⟨by decide +kernel, by decide +kernel⟩, List.mem_of_getElem? (i := 217) (by decide +kernel), List.mem_of_getElem? (i := 479) (by decide +kernel), List.mem_of_getElem? (i := 480) (by decide +kernel)⟩
theorem lw_p9 : lw_okq (⟨"ChoirBook$Reader", "read", "(LChoirBook$Text;)Z"⟩, 11) := ⟨⟨by decide +kernel, by decide +kernel⟩, List.mem_of_getElem? (i := 175) (by decide +kernel), List.mem_of_getElem? (i := 576) (by decide +kernel), List.mem_of_getElem? (i := 577) (by decide +kernel)⟩
theorem lw_p10 : lw_okq (⟨"ChoirBook$Reader", "take", "(II)Z"⟩, 11) := ⟨⟨by decide +kernel, by decide +kernel⟩, List.mem_of_getElem? (i := 175) (by decide +kernel), List.mem_of_getElem? (i := 580) (by decide +kernel), List.mem_of_getElem? (i := 581) (by decide +kernel)⟩
theorem lw_p11 : lw_okq (⟨"ChoirBook$Reader", "inNumber", "()Z"⟩, 11) := ⟨⟨by decide +kernel, by decide +kernel⟩, List.mem_of_getElem? (i := 175) (by decide +kernel), List.mem_of_getElem? (i := 584) (by decide +kernel), List.mem_of_getElem? (i := 585) (by decide +kernel)⟩
theorem lw_p12 : lw_okq (⟨"ChoirBook$Reader", "takeDigit", "(II)Z"⟩, 11) := ⟨⟨by decide +kernel, by decide +kernel⟩, List.mem_of_getElem? (i := 175) (by decide +kernel), List.mem_of_getElem? (i := 588) (by decide +kernel), List.mem_of_getElem? (i := 589) (by decide +kernel)⟩
theorem lw_p13 : lw_okq (⟨"ChoirBook$Reader", "fail", "(II)Z"⟩, 11) := ⟨⟨by decide +kernel, by decide +kernel⟩, List.mem_of_getElem? (i := 175) (by decide +kernel), List.mem_of_getElem? (i := 592) (by decide +kernel), List.mem_of_getElem? (i := 593) (by decide +kernel)⟩
theorem lw_p14 : lw_okq (⟨"ChoirBook$Reader", "takeBehindNumber", "(II)Z"⟩, 11) := ⟨⟨by decide +kernel, by decide +kernel⟩, List.mem_of_getElem? (i := 175) (by decide +kernel), List.mem_of_getElem? (i := 596) (by decide +kernel), List.mem_of_getElem? (i := 597) (by decide +kernel)⟩
theorem lw_p15 : lw_okq (⟨"ChoirBook$Reader", "numberStands", "()Z"⟩, 11) := ⟨⟨by decide +kernel, by decide +kernel⟩, List.mem_of_getElem? (i := 175) (by decide +kernel), List.mem_of_getElem? (i := 600) (by decide +kernel), List.mem_of_getElem? (i := 601) (by decide +kernel)⟩
def lw_privs_1 : List (MethodName × Nat) := [(⟨"ChoirBook$Placing", "addVoice", "(III)V"⟩, 10), (⟨"ChoirBook$Placing", "weighPairs", "(II)V"⟩, 10), (⟨"ChoirBook$Split", "gives", "(II)Z"⟩, 2), (⟨"ChoirBook$Placing", "firstGoodPart", "(I)I"⟩, 10), (⟨"ChoirBook$Placing", "canFinish", "(I)Z"⟩, 10), (⟨"ChoirBook$Placing", "pairCanReach", "(LChoirBook$Split;II)Z"⟩, 10), (⟨"ChoirBook$Rehearsal", "findStandIns", "(LChoirBook$Choir;I)V"⟩, 3), (⟨"ChoirBook$Rehearsal", "canStandIn", "(LChoirBook$Choir;II)Z"⟩, 3), (⟨"ChoirBook$Rehearsal", "findSoloist", "(LChoirBook$Choir;I)I"⟩, 3), (⟨"ChoirBook$Reader", "read", "(LChoirBook$Text;)Z"⟩, 11), (⟨"ChoirBook$Reader", "take", "(II)Z"⟩, 11), (⟨"ChoirBook$Reader", "inNumber", "()Z"⟩, 11), (⟨"ChoirBook$Reader", "takeDigit", "(II)Z"⟩, 11), (⟨"ChoirBook$Reader", "fail", "(II)Z"⟩, 11), (⟨"ChoirBook$Reader", "takeBehindNumber", "(II)Z"⟩, 11), (⟨"ChoirBook$Reader", "numberStands", "()Z"⟩, 11)]
theorem lw_r1 : ∀ q ∈ lw_privs_1, lw_okq q := List.forall_mem_cons.mpr ⟨lw_p0, List.forall_mem_cons.mpr ⟨lw_p1, List.forall_mem_cons.mpr ⟨lw_p2, List.forall_mem_cons.mpr ⟨lw_p3, List.forall_mem_cons.mpr ⟨lw_p4, List.forall_mem_cons.mpr ⟨lw_p5, List.forall_mem_cons.mpr ⟨lw_p6, List.forall_mem_cons.mpr ⟨lw_p7, List.forall_mem_cons.mpr ⟨lw_p8, List.forall_mem_cons.mpr ⟨lw_p9, List.forall_mem_cons.mpr ⟨lw_p10, List.forall_mem_cons.mpr ⟨lw_p11, List.forall_mem_cons.mpr ⟨lw_p12, List.forall_mem_cons.mpr ⟨lw_p13, List.forall_mem_cons.mpr ⟨lw_p14, List.forall_mem_cons.mpr ⟨lw_p15, fun _ h => absurd h List.not_mem_nil⟩⟩⟩⟩⟩⟩⟩⟩⟩⟩⟩⟩⟩⟩⟩⟩
theorem lw_p16 : lw_okq (⟨"ChoirBook$Reader", "closeWord", "(Z)V"⟩, 11) := ⟨⟨by decide +kernel, by decide +kernel⟩, List.mem_of_getElem? (i := 175) (by decide +kernel), List.mem_of_getElem? (i := 604) (by decide +kernel), List.mem_of_getElem? (i := 605) (by decide +kernel)⟩
theorem lw_p17 : lw_okq (⟨"ChoirBook$Reader", "beginNumber", "(II)V"⟩, 11) := ⟨⟨by decide +kernel, by decide +kernel⟩, List.mem_of_getElem? (i := 175) (by decide +kernel), List.mem_of_getElem? (i := 609) (by decide +kernel), List.mem_of_getElem? (i := 610) (by decide +kernel)⟩
theorem lw_p18 : lw_okq (⟨"ChoirBook$Reader", "end", "(I)Z"⟩, 11) := ⟨⟨by decide +kernel, by decide +kernel⟩, List.mem_of_getElem? (i := 175) (by decide +kernel), List.mem_of_getElem? (i := 613) (by decide +kernel), List.mem_of_getElem? (i := 614) (by decide +kernel)⟩
def lw_privs_2 : List (MethodName × Nat) := [(⟨"ChoirBook$Reader", "closeWord", "(Z)V"⟩, 11), (⟨"ChoirBook$Reader", "beginNumber", "(II)V"⟩, 11), (⟨"ChoirBook$Reader", "end", "(I)Z"⟩, 11)]
theorem lw_r2 : ∀ q ∈ lw_privs_2, lw_okq q := List.forall_mem_cons.mpr ⟨lw_p16, List.forall_mem_cons.mpr ⟨lw_p17, List.forall_mem_cons.mpr ⟨lw_p18, fun _ h => absurd h List.not_mem_nil⟩⟩⟩
def lw_privs : List (MethodName × Nat) := lw_privs_1 ++ (lw_privs_2)
def lw_tbl : List Cond := k2_sels lw_privs ++ tables_1
theorem lw_privs_ok : ∀ q ∈ lw_privs, lw_okq q := by
  show ∀ q ∈ lw_privs_1 ++ (lw_privs_2), lw_okq q
  exact List.forall_mem_append.mpr ⟨lw_r1, lw_r2⟩
/-- the streams that the claim lets the run draw from -/
abbrev lw_cs : List Choice := [Jvm.Choice.named "NaN.bits"]
theorem lw_bits : nanBits ∈ lw_cs := by first | decide | exact List.mem_cons_self | simp [lw_cs, nanBits]
/-! names -/
def RX0 : String := "ChoirBook$Choir"
def TX0 : u_T := fun k => match k with
  | 0 => ("ChoirBook$Choir", "singers", "[LChoirBook$Singer;", true)
  | 1 => ("ChoirBook$Choir", "settings", "[I", true)
  | 2 => ("ChoirBook$Choir", "soloists", "[I", true)
  | 3 => ("ChoirBook$Choir", "weak", "[I", true)
  | 4 => ("ChoirBook$Choir", "count", "I", false)
  | 5 => ("ChoirBook$Choir", "held", "I", false)
  | 6 => ("ChoirBook$Choir", "solos", "I", false)
  | _ => ("ChoirBook$Choir", "standIns", "I", false)
def tyX0 : Nat → FieldType := fun k => match k with
  | 0 => .array (.object "ChoirBook$Singer")
  | 1 => .array .int
  | 2 => .array .int
  | 3 => .array .int
  | 4 => .int
  | 5 => .int
  | 6 => .int
  | _ => .int
abbrev wsX00 : List Cond := u_ws RX0 TX0 8
theorem nmX0 : ∀ a, a < 8 → ∀ b, b < 8 → a ≠ b → (TX0 a).2.1 ≠ (TX0 b).2.1 := by decide +kernel
theorem tyX0_ok : ∀ k, k < 8 → parseFieldDescriptor (TX0 k).2.2.1 = some (tyX0 k) := by decide +kernel
abbrev cX0_init : ByteArray := prog_2_method_1_code
def yX0_init : MethodName := ⟨RX0, "<init>", "()V"⟩
abbrev cX0_copyFrom : ByteArray := prog_2_method_2_code
def yX0_copyFrom : MethodName := ⟨RX0, "copyFrom", "(LChoirBook$Choir;)V"⟩
abbrev cX0_has : ByteArray := prog_2_method_3_code
def yX0_has : MethodName := ⟨RX0, "has", "(I)Z"⟩
abbrev cX0_join : ByteArray := prog_2_method_4_code
def yX0_join : MethodName := ⟨RX0, "join", "(II)V"⟩
abbrev cX0_dismiss : ByteArray := prog_2_method_5_code
def yX0_dismiss : MethodName := ⟨RX0, "dismiss", "(I)V"⟩
abbrev cX0_fits : ByteArray := prog_2_method_6_code
def yX0_fits : MethodName := ⟨RX0, "fits", "(II)Z"⟩
abbrev cX0_fittingParts : ByteArray := prog_2_method_7_code
def yX0_fittingParts : MethodName := ⟨RX0, "fittingParts", "(I)I"⟩
abbrev cX0_placed : ByteArray := prog_2_method_8_code
def yX0_placed : MethodName := ⟨RX0, "placed", "()I"⟩
abbrev cX0_absent : ByteArray := prog_2_method_9_code
def yX0_absent : MethodName := ⟨RX0, "absent", "()I"⟩
abbrev cX0_members : ByteArray := prog_2_method_10_code
def yX0_members : MethodName := ⟨RX0, "members", "(I)I"⟩
abbrev cX0_strength : ByteArray := prog_2_method_11_code
def yX0_strength : MethodName := ⟨RX0, "strength", "(I)I"⟩
abbrev cX0_strengthPresent : ByteArray := prog_2_method_12_code
def yX0_strengthPresent : MethodName := ⟨RX0, "strengthPresent", "(I)I"⟩
abbrev cX0_covers : ByteArray := prog_2_method_13_code
def yX0_covers : MethodName := ⟨RX0, "covers", "(I)Z"⟩
abbrev cX0_coveredParts : ByteArray := prog_2_method_14_code
def yX0_coveredParts : MethodName := ⟨RX0, "coveredParts", "()I"⟩
abbrev cX0_rested : ByteArray := prog_2_method_15_code
def yX0_rested : MethodName := ⟨RX0, "rested", "(LChoirBook$Singer;)Z"⟩
abbrev cX0_width : ByteArray := prog_2_method_16_code
def yX0_width : MethodName := ⟨RX0, "width", "()I"⟩
abbrev cX0_rows : ByteArray := prog_2_method_17_code
def yX0_rows : MethodName := ⟨RX0, "rows", "(I)I"⟩
abbrev cX0_rowsBefore : ByteArray := prog_2_method_18_code
def yX0_rowsBefore : MethodName := ⟨RX0, "rowsBefore", "(I)I"⟩
abbrev cX0_seatedBefore : ByteArray := prog_2_method_19_code
def yX0_seatedBefore : MethodName := ⟨RX0, "seatedBefore", "(I)I"⟩
def RX1 : String := "ChoirBook$History"
def TX1 : u_T := fun k => match k with
  | 0 => ("ChoirBook$History", "states", "[LChoirBook$Choir;", true)
  | 1 => ("ChoirBook$History", "oldest", "I", false)
  | _ => ("ChoirBook$History", "size", "I", false)
def tyX1 : Nat → FieldType := fun k => match k with
  | 0 => .array (.object "ChoirBook$Choir")
  | 1 => .int
  | _ => .int
abbrev wsX10 : List Cond := u_ws RX1 TX1 3
theorem nmX1 : ∀ a, a < 3 → ∀ b, b < 3 → a ≠ b → (TX1 a).2.1 ≠ (TX1 b).2.1 := by decide +kernel
theorem tyX1_ok : ∀ k, k < 3 → parseFieldDescriptor (TX1 k).2.2.1 = some (tyX1 k) := by decide +kernel
abbrev cX1_init : ByteArray := prog_3_method_1_code
def yX1_init : MethodName := ⟨RX1, "<init>", "()V"⟩
abbrev cX1_record : ByteArray := prog_3_method_2_code
def yX1_record : MethodName := ⟨RX1, "record", "(LChoirBook$Choir;)V"⟩
abbrev cX1_restore : ByteArray := prog_3_method_3_code
def yX1_restore : MethodName := ⟨RX1, "restore", "(LChoirBook$Choir;)V"⟩
def RX2 : String := "ChoirBook$Placing"
def TX2 : u_T := fun k => match k with
  | 0 => ("ChoirBook$Placing", "upper", "LChoirBook$Split;", true)
  | 1 => ("ChoirBook$Placing", "lower", "LChoirBook$Split;", true)
  | 2 => ("ChoirBook$Placing", "sum", "[I", true)
  | 3 => ("ChoirBook$Placing", "got", "[I", true)
  | 4 => ("ChoirBook$Placing", "voice", "[I", true)
  | 5 => ("ChoirBook$Placing", "strength", "[I", true)
  | 6 => ("ChoirBook$Placing", "fitting", "[I", true)
  | 7 => ("ChoirBook$Placing", "voices", "I", false)
  | 8 => ("ChoirBook$Placing", "least", "I", false)
  | _ => ("ChoirBook$Placing", "greatest", "I", false)
def tyX2 : Nat → FieldType := fun k => match k with
  | 0 => .object "ChoirBook$Split"
  | 1 => .object "ChoirBook$Split"
  | 2 => .array .int
  | 3 => .array .int
  | 4 => .array .int
  | 5 => .array .int
  | 6 => .array .int
  | 7 => .int
  | 8 => .int
  | _ => .int
abbrev wsX20 : List Cond := u_ws RX2 TX2 10
theorem nmX2 : ∀ a, a < 10 → ∀ b, b < 10 → a ≠ b → (TX2 a).2.1 ≠ (TX2 b).2.1 := by decide +kernel
theorem tyX2_ok : ∀ k, k < 10 → parseFieldDescriptor (TX2 k).2.2.1 = some (tyX2 k) := by decide +kernel
abbrev cX2_init : ByteArray := prog_4_method_1_code
def yX2_init : MethodName := ⟨RX2, "<init>", "()V"⟩
abbrev cX2_weigh : ByteArray := prog_4_method_2_code
def yX2_weigh : MethodName := ⟨RX2, "weigh", "(LChoirBook$Choir;I)V"⟩
abbrev cX2_addVoice : ByteArray := prog_4_method_3_code
def yX2_addVoice : MethodName := ⟨RX2, "addVoice", "(III)V"⟩
abbrev cX2_weighPairs : ByteArray := prog_4_method_4_code
def yX2_weighPairs : MethodName := ⟨RX2, "weighPairs", "(II)V"⟩
abbrev cX2_choose : ByteArray := prog_4_method_5_code
def yX2_choose : MethodName := ⟨RX2, "choose", "(LChoirBook$Choir;)V"⟩
abbrev cX2_firstGoodPart : ByteArray := prog_4_method_6_code
def yX2_firstGoodPart : MethodName := ⟨RX2, "firstGoodPart", "(I)I"⟩
abbrev cX2_canFinish : ByteArray := prog_4_method_7_code
def yX2_canFinish : MethodName := ⟨RX2, "canFinish", "(I)Z"⟩
abbrev cX2_pairCanReach : ByteArray := prog_4_method_8_code
def yX2_pairCanReach : MethodName := ⟨RX2, "pairCanReach", "(LChoirBook$Split;II)Z"⟩
def RX3 : String := "ChoirBook$Reader"
def TX3 : u_T := fun k => match k with
  | 0 => ("ChoirBook$Reader", "told", "J", false)
  | 1 => ("ChoirBook$Reader", "sung", "J", false)
  | 2 => ("ChoirBook$Reader", "faultKind", "I", false)
  | 3 => ("ChoirBook$Reader", "faultPlace", "I", false)
  | 4 => ("ChoirBook$Reader", "highest", "I", false)
  | 5 => ("ChoirBook$Reader", "signs", "Z", false)
  | 6 => ("ChoirBook$Reader", "where", "I", false)
  | 7 => ("ChoirBook$Reader", "value", "I", false)
  | 8 => ("ChoirBook$Reader", "digits", "I", false)
  | 9 => ("ChoirBook$Reader", "start", "I", false)
  | _ => ("ChoirBook$Reader", "first", "I", false)
def tyX3 : Nat → FieldType := fun k => match k with
  | 0 => .long
  | 1 => .long
  | 2 => .int
  | 3 => .int
  | 4 => .int
  | 5 => .boolean
  | 6 => .int
  | 7 => .int
  | 8 => .int
  | 9 => .int
  | _ => .int
abbrev wsX30 : List Cond := u_ws RX3 TX3 11
theorem nmX3 : ∀ a, a < 11 → ∀ b, b < 11 → a ≠ b → (TX3 a).2.1 ≠ (TX3 b).2.1 := by decide +kernel
theorem tyX3_ok : ∀ k, k < 11 → parseFieldDescriptor (TX3 k).2.2.1 = some (tyX3 k) := by decide +kernel
abbrev cX3_init : ByteArray := prog_5_method_1_code
def yX3_init : MethodName := ⟨RX3, "<init>", "()V"⟩
abbrev cX3_readTests : ByteArray := prog_5_method_2_code
def yX3_readTests : MethodName := ⟨RX3, "readTests", "(LChoirBook$Text;LChoirBook$Singer;)Z"⟩
abbrev cX3_readAbsent : ByteArray := prog_5_method_3_code
def yX3_readAbsent : MethodName := ⟨RX3, "readAbsent", "(LChoirBook$Text;I)Z"⟩
abbrev cX3_read : ByteArray := prog_5_method_4_code
def yX3_read : MethodName := ⟨RX3, "read", "(LChoirBook$Text;)Z"⟩
abbrev cX3_take : ByteArray := prog_5_method_5_code
def yX3_take : MethodName := ⟨RX3, "take", "(II)Z"⟩
abbrev cX3_inNumber : ByteArray := prog_5_method_6_code
def yX3_inNumber : MethodName := ⟨RX3, "inNumber", "()Z"⟩
abbrev cX3_beginNumber : ByteArray := prog_5_method_7_code
def yX3_beginNumber : MethodName := ⟨RX3, "beginNumber", "(II)V"⟩
abbrev cX3_takeDigit : ByteArray := prog_5_method_8_code
def yX3_takeDigit : MethodName := ⟨RX3, "takeDigit", "(II)Z"⟩
abbrev cX3_takeBehindNumber : ByteArray := prog_5_method_9_code
def yX3_takeBehindNumber : MethodName := ⟨RX3, "takeBehindNumber", "(II)Z"⟩
abbrev cX3_end : ByteArray := prog_5_method_10_code
def yX3_end : MethodName := ⟨RX3, "end", "(I)Z"⟩
abbrev cX3_numberStands : ByteArray := prog_5_method_11_code
def yX3_numberStands : MethodName := ⟨RX3, "numberStands", "()Z"⟩
abbrev cX3_closeWord : ByteArray := prog_5_method_12_code
def yX3_closeWord : MethodName := ⟨RX3, "closeWord", "(Z)V"⟩
abbrev cX3_fail : ByteArray := prog_5_method_13_code
def yX3_fail : MethodName := ⟨RX3, "fail", "(II)Z"⟩
def RX4 : String := "ChoirBook$Rehearsal"
def TX4 : u_T := fun k => match k with
  | 0 => ("ChoirBook$Rehearsal", "standsIn", "[I", true)
  | 1 => ("ChoirBook$Rehearsal", "strength", "[I", true)
  | _ => ("ChoirBook$Rehearsal", "soloist", "[I", true)
def tyX4 : Nat → FieldType := fun k => match k with
  | 0 => .array .int
  | 1 => .array .int
  | _ => .array .int
abbrev wsX40 : List Cond := u_ws RX4 TX4 3
theorem nmX4 : ∀ a, a < 3 → ∀ b, b < 3 → a ≠ b → (TX4 a).2.1 ≠ (TX4 b).2.1 := by decide +kernel
theorem tyX4_ok : ∀ k, k < 3 → parseFieldDescriptor (TX4 k).2.2.1 = some (tyX4 k) := by decide +kernel
abbrev cX4_init : ByteArray := prog_6_method_1_code
def yX4_init : MethodName := ⟨RX4, "<init>", "()V"⟩
abbrev cX4_plan : ByteArray := prog_6_method_2_code
def yX4_plan : MethodName := ⟨RX4, "plan", "(LChoirBook$Choir;)V"⟩
abbrev cX4_findStandIns : ByteArray := prog_6_method_3_code
def yX4_findStandIns : MethodName := ⟨RX4, "findStandIns", "(LChoirBook$Choir;I)V"⟩
abbrev cX4_canStandIn : ByteArray := prog_6_method_4_code
def yX4_canStandIn : MethodName := ⟨RX4, "canStandIn", "(LChoirBook$Choir;II)Z"⟩
abbrev cX4_findSoloist : ByteArray := prog_6_method_5_code
def yX4_findSoloist : MethodName := ⟨RX4, "findSoloist", "(LChoirBook$Choir;I)I"⟩
abbrev cX4_happen : ByteArray := prog_6_method_6_code
def yX4_happen : MethodName := ⟨RX4, "happen", "(LChoirBook$Choir;)I"⟩
def RX5 : String := "ChoirBook$Singer"
def TX5 : u_T := fun k => match k with
  | 0 => ("ChoirBook$Singer", "strength", "I", false)
  | 1 => ("ChoirBook$Singer", "height", "I", false)
  | 2 => ("ChoirBook$Singer", "tested", "J", false)
  | 3 => ("ChoirBook$Singer", "sung", "J", false)
  | 4 => ("ChoirBook$Singer", "lowest", "I", false)
  | 5 => ("ChoirBook$Singer", "range", "I", false)
  | 6 => ("ChoirBook$Singer", "part", "I", false)
  | 7 => ("ChoirBook$Singer", "present", "Z", false)
  | 8 => ("ChoirBook$Singer", "solos", "I", false)
  | 9 => ("ChoirBook$Singer", "latestSolo", "I", false)
  | _ => ("ChoirBook$Singer", "standIns", "I", false)
def tyX5 : Nat → FieldType := fun k => match k with
  | 0 => .int
  | 1 => .int
  | 2 => .long
  | 3 => .long
  | 4 => .int
  | 5 => .int
  | 6 => .int
  | 7 => .boolean
  | 8 => .int
  | 9 => .int
  | _ => .int
abbrev wsX50 : List Cond := u_ws RX5 TX5 11
theorem nmX5 : ∀ a, a < 11 → ∀ b, b < 11 → a ≠ b → (TX5 a).2.1 ≠ (TX5 b).2.1 := by decide +kernel
theorem tyX5_ok : ∀ k, k < 11 → parseFieldDescriptor (TX5 k).2.2.1 = some (tyX5 k) := by decide +kernel
abbrev cX5_init : ByteArray := prog_7_method_1_code
def yX5_init : MethodName := ⟨RX5, "<init>", "()V"⟩
abbrev cX5_begin : ByteArray := prog_7_method_2_code
def yX5_begin : MethodName := ⟨RX5, "begin", "(II)V"⟩
abbrev cX5_copyFrom : ByteArray := prog_7_method_3_code
def yX5_copyFrom : MethodName := ⟨RX5, "copyFrom", "(LChoirBook$Singer;)V"⟩
abbrev cX5_learn : ByteArray := prog_7_method_4_code
def yX5_learn : MethodName := ⟨RX5, "learn", "(JJ)V"⟩
abbrev cX5_notesIn : ByteArray := prog_7_method_5_code
def yX5_notesIn : MethodName := ⟨RX5, "notesIn", "(I)I"⟩
abbrev cX5_sitsBefore : ByteArray := prog_7_method_6_code
def yX5_sitsBefore : MethodName := ⟨RX5, "sitsBefore", "(LChoirBook$Singer;Z)Z"⟩
abbrev cX5_singsBefore : ByteArray := prog_7_method_7_code
def yX5_singsBefore : MethodName := ⟨RX5, "singsBefore", "(LChoirBook$Singer;)Z"⟩
def RX6 : String := "ChoirBook$Split"
def TX6 : u_T := fun k => match k with
  | 0 => ("ChoirBook$Split", "low", "[J", true)
  | _ => ("ChoirBook$Split", "high", "[J", true)
def tyX6 : Nat → FieldType := fun k => match k with
  | 0 => .array .long
  | _ => .array .long
abbrev wsX60 : List Cond := u_ws RX6 TX6 2
theorem nmX6 : ∀ a, a < 2 → ∀ b, b < 2 → a ≠ b → (TX6 a).2.1 ≠ (TX6 b).2.1 := by decide +kernel
theorem tyX6_ok : ∀ k, k < 2 → parseFieldDescriptor (TX6 k).2.2.1 = some (tyX6 k) := by decide +kernel
abbrev cX6_init : ByteArray := prog_8_method_1_code
def yX6_init : MethodName := ⟨RX6, "<init>", "()V"⟩
abbrev cX6_addVoice : ByteArray := prog_8_method_2_code
def yX6_addVoice : MethodName := ⟨RX6, "addVoice", "(IIZZ)V"⟩
abbrev cX6_evenest : ByteArray := prog_8_method_3_code
def yX6_evenest : MethodName := ⟨RX6, "evenest", "(II)I"⟩
abbrev cX6_gives : ByteArray := prog_8_method_4_code
def yX6_gives : MethodName := ⟨RX6, "gives", "(II)Z"⟩
abbrev cX6_reaches : ByteArray := prog_8_method_5_code
def yX6_reaches : MethodName := ⟨RX6, "reaches", "(III)Z"⟩
abbrev cX6_bits : ByteArray := prog_8_method_6_code
def yX6_bits : MethodName := ⟨RX6, "bits", "(II)J"⟩
def RX7 : String := "ChoirBook$Text"
def TX7 : u_T := fun k => match k with
  | 0 => ("ChoirBook$Text", "codes", "[I", true)
  | _ => ("ChoirBook$Text", "length", "I", false)
def tyX7 : Nat → FieldType := fun k => match k with
  | 0 => .array .int
  | _ => .int
abbrev wsX70 : List Cond := u_ws RX7 TX7 2
theorem nmX7 : ∀ a, a < 2 → ∀ b, b < 2 → a ≠ b → (TX7 a).2.1 ≠ (TX7 b).2.1 := by decide +kernel
theorem tyX7_ok : ∀ k, k < 2 → parseFieldDescriptor (TX7 k).2.2.1 = some (tyX7 k) := by decide +kernel
abbrev cX7_init : ByteArray := prog_9_method_1_code
def yX7_init : MethodName := ⟨RX7, "<init>", "()V"⟩
def RX8 : String := "ChoirBook"
def TX8 : u_T := fun k => match k with
  | 0 => ("ChoirBook", "choir", "LChoirBook$Choir;", true)
  | 1 => ("ChoirBook", "history", "LChoirBook$History;", true)
  | 2 => ("ChoirBook", "images", "[LChoirBook$Choir;", true)
  | 3 => ("ChoirBook", "kept", "[Z", true)
  | 4 => ("ChoirBook", "text", "LChoirBook$Text;", true)
  | 5 => ("ChoirBook", "reader", "LChoirBook$Reader;", true)
  | 6 => ("ChoirBook", "next", "LChoirBook$Rehearsal;", true)
  | _ => ("ChoirBook", "placing", "LChoirBook$Placing;", true)
def tyX8 : Nat → FieldType := fun k => match k with
  | 0 => .object "ChoirBook$Choir"
  | 1 => .object "ChoirBook$History"
  | 2 => .array (.object "ChoirBook$Choir")
  | 3 => .array .boolean
  | 4 => .object "ChoirBook$Text"
  | 5 => .object "ChoirBook$Reader"
  | 6 => .object "ChoirBook$Rehearsal"
  | _ => .object "ChoirBook$Placing"
abbrev wsX80 : List Cond := u_ws RX8 TX8 8
theorem nmX8 : ∀ a, a < 8 → ∀ b, b < 8 → a ≠ b → (TX8 a).2.1 ≠ (TX8 b).2.1 := by decide +kernel
theorem tyX8_ok : ∀ k, k < 8 → parseFieldDescriptor (TX8 k).2.2.1 = some (tyX8 k) := by decide +kernel
abbrev cX8_init : ByteArray := prog_1_method_1_code
def yX8_init : MethodName := ⟨RX8, "<init>", "()V"⟩
abbrev cX8_add : ByteArray := prog_1_method_2_code
def yX8_add : MethodName := ⟨RX8, "add", "(II)I"⟩
abbrev cX8_remove : ByteArray := prog_1_method_3_code
def yX8_remove : MethodName := ⟨RX8, "remove", "(I)I"⟩
abbrev cX8_set : ByteArray := prog_1_method_4_code
def yX8_set : MethodName := ⟨RX8, "set", "(II)I"⟩
abbrev cX8_test : ByteArray := prog_1_method_5_code
def yX8_test : MethodName := ⟨RX8, "test", "(I)I"⟩
abbrev cX8_place : ByteArray := prog_1_method_6_code
def yX8_place : MethodName := ⟨RX8, "place", "(II)I"⟩
abbrev cX8_placeAll : ByteArray := prog_1_method_7_code
def yX8_placeAll : MethodName := ⟨RX8, "placeAll", "()I"⟩
abbrev cX8_attendance : ByteArray := prog_1_method_8_code
def yX8_attendance : MethodName := ⟨RX8, "attendance", "()I"⟩
abbrev cX8_hold : ByteArray := prog_1_method_9_code
def yX8_hold : MethodName := ⟨RX8, "hold", "()I"⟩
abbrev cX8_undo : ByteArray := prog_1_method_10_code
def yX8_undo : MethodName := ⟨RX8, "undo", "()I"⟩
abbrev cX8_write : ByteArray := prog_1_method_11_code
def yX8_write : MethodName := ⟨RX8, "write", "(I)I"⟩
abbrev cX8_wipe : ByteArray := prog_1_method_12_code
def yX8_wipe : MethodName := ⟨RX8, "wipe", "()I"⟩
abbrev cX8_told : ByteArray := prog_1_method_14_code
def yX8_told : MethodName := ⟨RX8, "told", "(I)I"⟩
abbrev cX8_setting : ByteArray := prog_1_method_15_code
def yX8_setting : MethodName := ⟨RX8, "setting", "(I)I"⟩
abbrev cX8_singer : ByteArray := prog_1_method_16_code
def yX8_singer : MethodName := ⟨RX8, "singer", "(II)I"⟩
abbrev cX8_note : ByteArray := prog_1_method_17_code
def yX8_note : MethodName := ⟨RX8, "note", "(II)I"⟩
abbrev cX8_overlap : ByteArray := prog_1_method_18_code
def yX8_overlap : MethodName := ⟨RX8, "overlap", "(II)I"⟩
abbrev cX8_part : ByteArray := prog_1_method_19_code
def yX8_part : MethodName := ⟨RX8, "part", "(II)I"⟩
abbrev cX8_seat : ByteArray := prog_1_method_20_code
def yX8_seat : MethodName := ⟨RX8, "seat", "(II)I"⟩
abbrev cX8_solo : ByteArray := prog_1_method_21_code
def yX8_solo : MethodName := ⟨RX8, "solo", "(II)I"⟩
abbrev cX8_mean : ByteArray := prog_1_method_22_code
def yX8_mean : MethodName := ⟨RX8, "mean", "()F"⟩
abbrev cX8_standIn : ByteArray := prog_1_method_23_code
def yX8_standIn : MethodName := ⟨RX8, "standIn", "(I)I"⟩
abbrev cX8_passedOver : ByteArray := prog_1_method_24_code
def yX8_passedOver : MethodName := ⟨RX8, "passedOver", "(I)I"⟩
abbrev cX8_without : ByteArray := prog_1_method_25_code
def yX8_without : MethodName := ⟨RX8, "without", "(I)I"⟩
abbrev cX8_keep : ByteArray := prog_1_method_26_code
def yX8_keep : MethodName := ⟨RX8, "keep", "(I)I"⟩
abbrev cX8_back : ByteArray := prog_1_method_27_code
def yX8_back : MethodName := ⟨RX8, "back", "(I)I"⟩
abbrev cX8_isSetting : ByteArray := prog_1_method_28_code
def yX8_isSetting : MethodName := ⟨RX8, "isSetting", "(I)Z"⟩
abbrev cX8_isPart : ByteArray := prog_1_method_29_code
def yX8_isPart : MethodName := ⟨RX8, "isPart", "(I)Z"⟩
abbrev cX8_isImage : ByteArray := prog_1_method_30_code
def yX8_isImage : MethodName := ⟨RX8, "isImage", "(I)Z"⟩
abbrev cX8_contains : ByteArray := prog_1_method_31_code
def yX8_contains : MethodName := ⟨RX8, "contains", "(JI)Z"⟩
def RX9 : String := "ChoirBookModel"
def TX9 : u_T := fun k => match k with
  | _ => ("", "", "", false)
def tyX9 : Nat → FieldType := fun k => match k with
  | _ => .int
abbrev wsX90 : List Cond := u_ws RX9 TX9 0
theorem nmX9 : ∀ a, a < 0 → ∀ b, b < 0 → a ≠ b → (TX9 a).2.1 ≠ (TX9 b).2.1 := by decide +kernel
theorem tyX9_ok : ∀ k, k < 0 → parseFieldDescriptor (TX9 k).2.2.1 = some (tyX9 k) := by decide +kernel
def RL : String := "ChoirBookLaw"
abbrev cL_cell : ByteArray := method_2_code
def yL_cell : MethodName := ⟨RL, "cell", "([II)I"⟩
abbrev cL_low : ByteArray := method_3_code
def yL_low : MethodName := ⟨RL, "low", "(II)I"⟩
abbrev cL_number : ByteArray := method_4_code
def yL_number : MethodName := ⟨RL, "number", "(LChoirBook;I)I"⟩
abbrev cL_test : ByteArray := method_5_code
def yL_test : MethodName := ⟨RL, "test", "(LChoirBook;III)I"⟩
abbrev cL_attendance : ByteArray := method_6_code
def yL_attendance : MethodName := ⟨RL, "attendance", "(LChoirBook;I)I"⟩
abbrev cL_change : ByteArray := method_7_code
def yL_change : MethodName := ⟨RL, "change", "(LChoirBook;II)I"⟩
abbrev cL_isRange : ByteArray := method_8_code
def yL_isRange : MethodName := ⟨RL, "isRange", "(LChoirBook;I)Z"⟩
abbrev cL_areParts : ByteArray := method_9_code
def yL_areParts : MethodName := ⟨RL, "areParts", "(LChoirBook;)Z"⟩
abbrev cL_isHeld : ByteArray := method_10_code
def yL_isHeld : MethodName := ⟨RL, "isHeld", "(LChoirBook;)Z"⟩
abbrev cL_areAlike : ByteArray := method_11_code
def yL_areAlike : MethodName := ⟨RL, "areAlike", "(LChoirBook;LChoirBook;)Z"⟩
abbrev cL_law : ByteArray := code
def yL_law : MethodName := ⟨RL, "law", "([I)Z"⟩
abbrev vwCl : List vw_C := [(RX0, TX0, 8), (RX1, TX1, 3), (RX2, TX2, 10), (RX3, TX3, 11), (RX4, TX4, 3), (RX5, TX5, 11), (RX6, TX6, 2), (RX7, TX7, 2), (RX8, TX8, 8)]

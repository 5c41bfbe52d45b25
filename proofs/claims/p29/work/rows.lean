section
-- ===== PART A: goes FIRST, ahead of the names: the tables' words, and 'selects' of the private methods out of them =====
/-- a private method of a class that the tables say can be made, by its rows of tables_1 -/
def lw_okq (q : MethodName × Nat) : Prop := (q.1.cls ≠ "java/lang/invoke/MethodHandle" ∧ q.1.cls ≠ "java/lang/invoke/VarHandle") ∧ Cond.instantiable q.1.cls q.2 ∈ tables_1 ∧ Cond.privateMethod q.1 ∈ tables_1 ∧ Cond.instanceMethod q.1 ∈ tables_1
theorem lw_p0 : lw_okq (⟨"ChoirBook$Placing", "addVoice", "(III)V"⟩, 10) := ⟨⟨by decide +kernel, by decide +kernel⟩, List.mem_of_getElem? (i := 235) (by decide +kernel), List.mem_of_getElem? (i := 355) (by decide +kernel), List.mem_of_getElem? (i := 356) (by decide +kernel)⟩
theorem lw_p1 : lw_okq (⟨"ChoirBook$Placing", "weighPairs", "(II)V"⟩, 10) := ⟨⟨by decide +kernel, by decide +kernel⟩, List.mem_of_getElem? (i := 235) (by decide +kernel), List.mem_of_getElem? (i := 366) (by decide +kernel), List.mem_of_getElem? (i := 367) (by decide +kernel)⟩
theorem lw_p2 : lw_okq (⟨"ChoirBook$Split", "gives", "(II)Z"⟩, 2) := ⟨⟨by decide +kernel, by decide +kernel⟩, List.mem_of_getElem? (i := 241) (by decide +kernel), List.mem_of_getElem? (i := 374) (by decide +kernel), List.mem_of_getElem? (i := 375) (by decide +kernel)⟩
theorem lw_p3 : lw_okq (⟨"ChoirBook$Placing", "firstGoodPart", "(I)I"⟩, 10) := ⟨⟨by decide +kernel, by decide +kernel⟩, List.mem_of_getElem? (i := 235) (by decide +kernel), List.mem_of_getElem? (i := 385) (by decide +kernel), List.mem_of_getElem? (i := 386) (by decide +kernel)⟩
theorem lw_p4 : lw_okq (⟨"ChoirBook$Placing", "canFinish", "(I)Z"⟩, 10) := ⟨⟨by decide +kernel, by decide +kernel⟩, List.mem_of_getElem? (i := 235) (by decide +kernel), List.mem_of_getElem? (i := 389) (by decide +kernel), List.mem_of_getElem? (i := 390) (by decide +kernel)⟩
theorem lw_p5 : lw_okq (⟨"ChoirBook$Placing", "pairCanReach", "(LChoirBook$Split;II)Z"⟩, 10) := ⟨⟨by decide +kernel, by decide +kernel⟩, List.mem_of_getElem? (i := 235) (by decide +kernel), List.mem_of_getElem? (i := 393) (by decide +kernel), List.mem_of_getElem? (i := 394) (by decide +kernel)⟩
theorem lw_p6 : lw_okq (⟨"ChoirBook$Rehearsal", "findStandIns", "(LChoirBook$Choir;I)V"⟩, 3) := ⟨⟨by decide +kernel, by decide +kernel⟩, List.mem_of_getElem? (i := 217) (by decide +kernel), List.mem_of_getElem? (i := 468) (by decide +kernel), List.mem_of_getElem? (i := 469) (by decide +kernel)⟩
theorem lw_p7 : lw_okq (⟨"ChoirBook$Rehearsal", "canStandIn", "(LChoirBook$Choir;II)Z"⟩, 3) := ⟨⟨by decide +kernel, by decide +kernel⟩, List.mem_of_getElem? (i := 217) (by decide +kernel), List.mem_of_getElem? (i := 473) (by decide +kernel), List.mem_of_getElem? (i := 474) (by decide +kernel)⟩
theorem lw_p8 : lw_okq (⟨"ChoirBook$Rehearsal", "findSoloist", "(LChoirBook$Choir;I)I"⟩, 3) := ⟨⟨by decide +kernel, by decide +kernel⟩, List.mem_of_getElem? (i := 217) (by decide +kernel), List.mem_of_getElem? (i := 479) (by decide +kernel), List.mem_of_getElem? (i := 480) (by decide +kernel)⟩
theorem lw_p9 : lw_okq (⟨"ChoirBook$Reader", "read", "(LChoirBook$Text;)Z"⟩, 11) := ⟨⟨by decide +kernel, by decide +kernel⟩, List.mem_of_getElem? (i := 175) (by decide +kernel), List.mem_of_getElem? (i := 576) (by decide +kernel), List.mem_of_getElem? (i := 577) (by decide +kernel)⟩
theorem lw_p10 : lw_okq (⟨"ChoirBook$Reader", "take", "(II)Z"⟩, 11) := ⟨⟨by decide +kernel, by decide +kernel⟩, List.mem_of_getElem? (i := 175) (by decide +kernel), List.mem_of_getElem? (i := 580) (by decide +kernel), List.mem_of_getElem? (i := 581) (by decide +kernel)⟩
theorem lw_p11 : lw_okq (⟨"ChoirBook$Reader", "inNumber", "()Z"⟩, 11) := ⟨⟨by decide +kernel, by decide +kernel⟩, List.mem_of_getElem? (i := 175) (by decide +kernel), List.mem_of_getElem? (i := 584) (by decide +kernel), List.mem_of_getElem? (i := 585) (by decide +kernel)⟩
theorem lw_p12 : lw_okq (⟨"ChoirBook$Reader", "takeDigit", "(II)Z"⟩, 11) := ⟨⟨by decide +kernel, by decide +kernel⟩, List.mem_of_getElem? (i := 175) (by decide +kernel), List.mem_of_getElem? (i := 588) (by decide +kernel), List.mem_of_getElem? (i := 589) (by decide +kernel)⟩
theorem lw_p13 : lw_okq (⟨"ChoirBook$Reader", "fail", "(II)Z"⟩, 11) := ⟨⟨by decide +kernel, by decide +kernel⟩, List.mem_of_getElem? (i := 175) (by decide +kernel), List.mem_of_getElem? (i := 592) (by decide +kernel), List.mem_of_getElem? (i := 593) (by decide +kernel)⟩
theorem lw_p14 : lw_okq (⟨"ChoirBook$Reader", "takeBehindNumber", "(II)Z"⟩, 11) := ⟨⟨by decide +kernel, by decide +kernel⟩, List.mem_of_getElem? (i := 175) (by decide +kernel), List.mem_of_getElem? (i := 596) (by decide +kernel), List.mem_of_getElem? (i := 597) (by decide +kernel)⟩
theorem lw_p15 : lw_okq (⟨"ChoirBook$Reader", "numberStands", "()Z"⟩, 11) := ⟨⟨by decide +kernel, by decide +kernel⟩, List.mem_of_getElem? (i := 175) (by decide +kernel), List.mem_of_getElem? (i := 600) (by decide +kernel), List.mem_of_getElem? (i := 601) (by decide +kernel)⟩
def lw_privs_1 : List (MethodName × Nat) := [(⟨"ChoirBook$Placing", "addVoice", "(III)V"⟩, 10), (⟨"ChoirBook$Placing", "weighPairs", "(II)V"⟩, 10), (⟨"ChoirBook$Split", "gives", "(II)Z"⟩, 2), (⟨"ChoirBook$Placing", "firstGoodPart", "(I)I"⟩, 10), (⟨"ChoirBook$Placing", "canFinish", "(I)Z"⟩, 10), (⟨"ChoirBook$Placing", "pairCanReach", "(LChoirBook$Split;II)Z"⟩, 10), (⟨"ChoirBook$Rehearsal", "findStandIns", "(LChoirBook$Choir;I)V"⟩, 3), (⟨"ChoirBook$Rehearsal", "canStandIn", "(LChoirBook$Choir;II)Z"⟩, 3), (⟨"ChoirBook$Rehearsal", "findSoloist", "(LChoirBook$Choir;I)I"⟩, 3), (⟨"ChoirBook$Reader", "read", "(LChoirBook$Text;)Z"⟩, 11), (⟨"ChoirBook$Reader", "take", "(II)Z"⟩, 11), (⟨"ChoirBook$Reader", "inNumber", "()Z"⟩, 11), (⟨"ChoirBook$Reader", "takeDigit", "(II)Z"⟩, 11), (⟨"ChoirBook$Reader", "fail", "(II)Z"⟩, 11), (⟨"ChoirBook$Reader", "takeBehindNumber", "(II)Z"⟩, 11), (⟨"ChoirBook$Reader", "numberStands", "()Z"⟩, 11)]
theorem lw_r1 : ∀ q ∈ lw_privs_1, lw_okq q := List.forall_mem_cons.mpr ⟨lw_p0, List.forall_mem_cons.mpr ⟨lw_p1, List.forall_mem_cons.mpr ⟨lw_p2, List.forall_mem_cons.mpr ⟨lw_p3, List.forall_mem_cons.mpr ⟨lw_p4, List.forall_mem_cons.mpr ⟨lw_p5, List.forall_mem_cons.mpr ⟨lw_p6, List.forall_mem_cons.mpr ⟨lw_p7, List.forall_mem_cons.mpr ⟨lw_p8, List.forall_mem_cons.mpr ⟨lw_p9, List.forall_mem_cons.mpr ⟨lw_p10, List.forall_mem_cons.mpr ⟨lw_p11, List.forall_mem_cons.mpr ⟨lw_p12, List.forall_mem_cons.mpr ⟨lw_p13, List.forall_mem_cons.mpr ⟨lw_p14, List.forall_mem_cons.mpr ⟨lw_p15, fun _ h => absurd h List.not_mem_nil⟩⟩⟩⟩⟩⟩⟩⟩⟩⟩⟩⟩⟩⟩⟩⟩
theorem lw_p16 : lw_okq (⟨"ChoirBook$Reader", "closeWord", "(Z)V"⟩, 11) := ⟨⟨by decide +kernel, by decide +kernel⟩, List.mem_of_getElem? (i := 175) (by decide +kernel), List.mem_of_getElem? (i := 604) (by decide +kernel), List.mem_of_getElem? (i := 605) (by decide +kernel)⟩
theorem lw_p17 : lw_okq (⟨"ChoirBook$Reader", "beginNumber", "(II)V"⟩, 11) := ⟨⟨by decide +kernel, by decide +kernel⟩, List.mem_of_getElem? (i := 175) (by decide +kernel), List.mem_of_getElem? (i := 609) (by decide +kernel), List.mem_of_getElem? (i := 610) (by decide +kernel)⟩
theorem lw_p18 : lw_okq (⟨"ChoirBook$Reader", "end", "(I)Z"⟩, 11) := ⟨⟨by decide +kernel, by decide +kernel⟩, List.mem_of_getElem? (i := 175) (by decide +kernel), List.mem_of_getElem? (i := 613) (by decide +kernel), List.mem_of_getElem? (i := 614) (by decide +kernel)⟩
def lw_privs_2 : List (MethodName × Nat) := [(⟨"ChoirBook$Reader", "closeWord", "(Z)V"⟩, 11), (⟨"ChoirBook$Reader", "beginNumber", "(II)V"⟩, 11), (⟨"ChoirBook$Reader", "end", "(I)Z"⟩, 11)]
theorem lw_r2 : ∀ q ∈ lw_privs_2, lw_okq q := List.forall_mem_cons.mpr ⟨lw_p16, List.forall_mem_cons.mpr ⟨lw_p17, List.forall_mem_cons.mpr ⟨lw_p18, fun _ h => absurd h List.not_mem_nil⟩⟩⟩
def lw_privs : List (MethodName × Nat) := lw_privs_1 ++ (lw_privs_2)
def lw_tbl : List Cond := k2_sels lw_privs ++ tables_1
theorem lw_privs_ok : ∀ q ∈ lw_privs, lw_okq q := by
  show ∀ q ∈ lw_privs_1 ++ (lw_privs_2), lw_okq q
  exact List.forall_mem_append.mpr ⟨lw_r1, lw_r2⟩
/-- the streams that the claim lets the run draw from -/
abbrev lw_cs : List Choice := [Jvm.Choice.named "NaN.bits"]
theorem lw_bits : nanBits ∈ lw_cs := by first | decide | exact List.mem_cons_self | simp [lw_cs, nanBits]
/-! names -/
def RX0 : String := "ChoirBook$Choir"
def TX0 : u_T := fun k => match k with
  | 0 => ("ChoirBook$Choir", "singers", "[LChoirBook$Singer;", true)
  | 1 => ("ChoirBook$Choir", "settings", "[I", true)
  | 2 => ("ChoirBook$Choir", "soloists", "[I", true)
  | 3 => ("ChoirBook$Choir", "weak", "[I", true)
  | 4 => ("ChoirBook$Choir", "count", "I", false)
  | 5 => ("ChoirBook$Choir", "held", "I", false)
  | 6 => ("ChoirBook$Choir", "solos", "I", false)
  | _ => ("ChoirBook$Choir", "standIns", "I", false)
def tyX0 : Nat → FieldType := fun k => match k with
  | 0 => .array (.object "ChoirBook$Singer")
  | 1 => .array .int
  | 2 => .array .int
  | 3 => .array .int
  | 4 => .int
  | 5 => .int
  | 6 => .int
  | _ => .int
abbrev wsX00 : List Cond := u_ws RX0 TX0 8
theorem nmX0 : ∀ a, a < 8 → ∀ b, b < 8 → a ≠ b → (TX0 a).2.1 ≠ (TX0 b).2.1 := by decide +kernel
theorem tyX0_ok : ∀ k, k < 8 → parseFieldDescriptor (TX0 k).2.2.1 = some (tyX0 k) := by decide +kernel
abbrev cX0_init : ByteArray := prog_2_method_1_code
def yX0_init : MethodName := ⟨RX0, "<init>", "()V"⟩
abbrev cX0_copyFrom : ByteArray := prog_2_method_2_code
def yX0_copyFrom : MethodName := ⟨RX0, "copyFrom", "(LChoirBook$Choir;)V"⟩
abbrev cX0_has : ByteArray := prog_2_method_3_code
def yX0_has : MethodName := ⟨RX0, "has", "(I)Z"⟩
abbrev cX0_join : ByteArray := prog_2_method_4_code
def yX0_join : MethodName := ⟨RX0, "join", "(II)V"⟩
abbrev cX0_dismiss : ByteArray := prog_2_method_5_code
def yX0_dismiss : MethodName := ⟨RX0, "dismiss", "(I)V"⟩
abbrev cX0_fits : ByteArray := prog_2_method_6_code
def yX0_fits : MethodName := ⟨RX0, "fits", "(II)Z"⟩
abbrev cX0_fittingParts : ByteArray := prog_2_method_7_code
def yX0_fittingParts : MethodName := ⟨RX0, "fittingParts", "(I)I"⟩
abbrev cX0_placed : ByteArray := prog_2_method_8_code
def yX0_placed : MethodName := ⟨RX0, "placed", "()I"⟩
abbrev cX0_absent : ByteArray := prog_2_method_9_code
def yX0_absent : MethodName := ⟨RX0, "absent", "()I"⟩
abbrev cX0_members : ByteArray := prog_2_method_10_code
def yX0_members : MethodName := ⟨RX0, "members", "(I)I"⟩
abbrev cX0_strength : ByteArray := prog_2_method_11_code
def yX0_strength : MethodName := ⟨RX0, "strength", "(I)I"⟩
abbrev cX0_strengthPresent : ByteArray := prog_2_method_12_code
def yX0_strengthPresent : MethodName := ⟨RX0, "strengthPresent", "(I)I"⟩
abbrev cX0_covers : ByteArray := prog_2_method_13_code
def yX0_covers : MethodName := ⟨RX0, "covers", "(I)Z"⟩
abbrev cX0_coveredParts : ByteArray := prog_2_method_14_code
def yX0_coveredParts : MethodName := ⟨RX0, "coveredParts", "()I"⟩
abbrev cX0_rested : ByteArray := prog_2_method_15_code
def yX0_rested : MethodName := ⟨RX0, "rested", "(LChoirBook$Singer;)Z"⟩
abbrev cX0_width : ByteArray := prog_2_method_16_code
def yX0_width : MethodName := ⟨RX0, "width", "()I"⟩
abbrev cX0_rows : ByteArray := prog_2_method_17_code
def yX0_rows : MethodName := ⟨RX0, "rows", "(I)I"⟩
abbrev cX0_rowsBefore : ByteArray := prog_2_method_18_code
def yX0_rowsBefore : MethodName := ⟨RX0, "rowsBefore", "(I)I"⟩
abbrev cX0_seatedBefore : ByteArray := prog_2_method_19_code
def yX0_seatedBefore : MethodName := ⟨RX0, "seatedBefore", "(I)I"⟩
def RX1 : String := "ChoirBook$History"
def TX1 : u_T := fun k => match k with
  | 0 => ("ChoirBook$History", "states", "[LChoirBook$Choir;", true)
  | 1 => ("ChoirBook$History", "oldest", "I", false)
  | _ => ("ChoirBook$History", "size", "I", false)
def tyX1 : Nat → FieldType := fun k => match k with
  | 0 => .array (.object "ChoirBook$Choir")
  | 1 => .int
  | _ => .int
abbrev wsX10 : List Cond := u_ws RX1 TX1 3
theorem nmX1 : ∀ a, a < 3 → ∀ b, b < 3 → a ≠ b → (TX1 a).2.1 ≠ (TX1 b).2.1 := by decide +kernel
theorem tyX1_ok : ∀ k, k < 3 → parseFieldDescriptor (TX1 k).2.2.1 = some (tyX1 k) := by decide +kernel
abbrev cX1_init : ByteArray := prog_3_method_1_code
def yX1_init : MethodName := ⟨RX1, "<init>", "()V"⟩
abbrev cX1_record : ByteArray := prog_3_method_2_code
def yX1_record : MethodName := ⟨RX1, "record", "(LChoirBook$Choir;)V"⟩
abbrev cX1_restore : ByteArray := prog_3_method_3_code
def yX1_restore : MethodName := ⟨RX1, "restore", "(LChoirBook$Choir;)V"⟩
def RX2 : String := "ChoirBook$Placing"
def TX2 : u_T := fun k => match k with
  | 0 => ("ChoirBook$Placing", "upper", "LChoirBook$Split;", true)
  | 1 => ("ChoirBook$Placing", "lower", "LChoirBook$Split;", true)
  | 2 => ("ChoirBook$Placing", "sum", "[I", true)
  | 3 => ("ChoirBook$Placing", "got", "[I", true)
  | 4 => ("ChoirBook$Placing", "voice", "[I", true)
  | 5 => ("ChoirBook$Placing", "strength", "[I", true)
  | 6 => ("ChoirBook$Placing", "fitting", "[I", true)
  | 7 => ("ChoirBook$Placing", "voices", "I", false)
  | 8 => ("ChoirBook$Placing", "least", "I", false)
  | _ => ("ChoirBook$Placing", "greatest", "I", false)
def tyX2 : Nat → FieldType := fun k => match k with
  | 0 => .object "ChoirBook$Split"
  | 1 => .object "ChoirBook$Split"
  | 2 => .array .int
  | 3 => .array .int
  | 4 => .array .int
  | 5 => .array .int
  | 6 => .array .int
  | 7 => .int
  | 8 => .int
  | _ => .int
abbrev wsX20 : List Cond := u_ws RX2 TX2 10
theorem nmX2 : ∀ a, a < 10 → ∀ b, b < 10 → a ≠ b → (TX2 a).2.1 ≠ (TX2 b).2.1 := by decide +kernel
theorem tyX2_ok : ∀ k, k < 10 → parseFieldDescriptor (TX2 k).2.2.1 = some (tyX2 k) := by decide +kernel
abbrev cX2_init : ByteArray := prog_4_method_1_code
def yX2_init : MethodName := ⟨RX2, "<init>", "()V"⟩
abbrev cX2_weigh : ByteArray := prog_4_method_2_code
def yX2_weigh : MethodName := ⟨RX2, "weigh", "(LChoirBook$Choir;I)V"⟩
abbrev cX2_addVoice : ByteArray := prog_4_method_3_code
def yX2_addVoice : MethodName := ⟨RX2, "addVoice", "(III)V"⟩
abbrev cX2_weighPairs : ByteArray := prog_4_method_4_code
def yX2_weighPairs : MethodName := ⟨RX2, "weighPairs", "(II)V"⟩
abbrev cX2_choose : ByteArray := prog_4_method_5_code
def yX2_choose : MethodName := ⟨RX2, "choose", "(LChoirBook$Choir;)V"⟩
abbrev cX2_firstGoodPart : ByteArray := prog_4_method_6_code
def yX2_firstGoodPart : MethodName := ⟨RX2, "firstGoodPart", "(I)I"⟩
abbrev cX2_canFinish : ByteArray := prog_4_method_7_code
def yX2_canFinish : MethodName := ⟨RX2, "canFinish", "(I)Z"⟩
abbrev cX2_pairCanReach : ByteArray := prog_4_method_8_code
def yX2_pairCanReach : MethodName := ⟨RX2, "pairCanReach", "(LChoirBook$Split;II)Z"⟩
def RX3 : String := "ChoirBook$Reader"
def TX3 : u_T := fun k => match k with
  | 0 => ("ChoirBook$Reader", "told", "J", false)
  | 1 => ("ChoirBook$Reader", "sung", "J", false)
  | 2 => ("ChoirBook$Reader", "faultKind", "I", false)
  | 3 => ("ChoirBook$Reader", "faultPlace", "I", false)
  | 4 => ("ChoirBook$Reader", "highest", "I", false)
  | 5 => ("ChoirBook$Reader", "signs", "Z", false)
  | 6 => ("ChoirBook$Reader", "where", "I", false)
  | 7 => ("ChoirBook$Reader", "value", "I", false)
  | 8 => ("ChoirBook$Reader", "digits", "I", false)
  | 9 => ("ChoirBook$Reader", "start", "I", false)
  | _ => ("ChoirBook$Reader", "first", "I", false)
def tyX3 : Nat → FieldType := fun k => match k with
  | 0 => .long
  | 1 => .long
  | 2 => .int
  | 3 => .int
  | 4 => .int
  | 5 => .boolean
  | 6 => .int
  | 7 => .int
  | 8 => .int
  | 9 => .int
  | _ => .int
abbrev wsX30 : List Cond := u_ws RX3 TX3 11
theorem nmX3 : ∀ a, a < 11 → ∀ b, b < 11 → a ≠ b → (TX3 a).2.1 ≠ (TX3 b).2.1 := by decide +kernel
theorem tyX3_ok : ∀ k, k < 11 → parseFieldDescriptor (TX3 k).2.2.1 = some (tyX3 k) := by decide +kernel
abbrev cX3_init : ByteArray := prog_5_method_1_code
def yX3_init : MethodName := ⟨RX3, "<init>", "()V"⟩
abbrev cX3_readTests : ByteArray := prog_5_method_2_code
def yX3_readTests : MethodName := ⟨RX3, "readTests", "(LChoirBook$Text;LChoirBook$Singer;)Z"⟩
abbrev cX3_readAbsent : ByteArray := prog_5_method_3_code
def yX3_readAbsent : MethodName := ⟨RX3, "readAbsent", "(LChoirBook$Text;I)Z"⟩
abbrev cX3_read : ByteArray := prog_5_method_4_code
def yX3_read : MethodName := ⟨RX3, "read", "(LChoirBook$Text;)Z"⟩
abbrev cX3_take : ByteArray := prog_5_method_5_code
def yX3_take : MethodName := ⟨RX3, "take", "(II)Z"⟩
abbrev cX3_inNumber : ByteArray := prog_5_method_6_code
def yX3_inNumber : MethodName := ⟨RX3, "inNumber", "()Z"⟩
abbrev cX3_beginNumber : ByteArray := prog_5_method_7_code
def yX3_beginNumber : MethodName := ⟨RX3, "beginNumber", "(II)V"⟩
abbrev cX3_takeDigit : ByteArray := prog_5_method_8_code
def yX3_takeDigit : MethodName := ⟨RX3, "takeDigit", "(II)Z"⟩
abbrev cX3_takeBehindNumber : ByteArray := prog_5_method_9_code
def yX3_takeBehindNumber : MethodName := ⟨RX3, "takeBehindNumber", "(II)Z"⟩
abbrev cX3_end : ByteArray := prog_5_method_10_code
def yX3_end : MethodName := ⟨RX3, "end", "(I)Z"⟩
abbrev cX3_numberStands : ByteArray := prog_5_method_11_code
def yX3_numberStands : MethodName := ⟨RX3, "numberStands", "()Z"⟩
abbrev cX3_closeWord : ByteArray := prog_5_method_12_code
def yX3_closeWord : MethodName := ⟨RX3, "closeWord", "(Z)V"⟩
abbrev cX3_fail : ByteArray := prog_5_method_13_code
def yX3_fail : MethodName := ⟨RX3, "fail", "(II)Z"⟩
def RX4 : String := "ChoirBook$Rehearsal"
def TX4 : u_T := fun k => match k with
  | 0 => ("ChoirBook$Rehearsal", "standsIn", "[I", true)
  | 1 => ("ChoirBook$Rehearsal", "strength", "[I", true)
  | _ => ("ChoirBook$Rehearsal", "soloist", "[I", true)
def tyX4 : Nat → FieldType := fun k => match k with
  | 0 => .array .int
  | 1 => .array .int
  | _ => .array .int
abbrev wsX40 : List Cond := u_ws RX4 TX4 3
theorem nmX4 : ∀ a, a < 3 → ∀ b, b < 3 → a ≠ b → (TX4 a).2.1 ≠ (TX4 b).2.1 := by decide +kernel
theorem tyX4_ok : ∀ k, k < 3 → parseFieldDescriptor (TX4 k).2.2.1 = some (tyX4 k) := by decide +kernel
abbrev cX4_init : ByteArray := prog_6_method_1_code
def yX4_init : MethodName := ⟨RX4, "<init>", "()V"⟩
abbrev cX4_plan : ByteArray := prog_6_method_2_code
def yX4_plan : MethodName := ⟨RX4, "plan", "(LChoirBook$Choir;)V"⟩
abbrev cX4_findStandIns : ByteArray := prog_6_method_3_code
def yX4_findStandIns : MethodName := ⟨RX4, "findStandIns", "(LChoirBook$Choir;I)V"⟩
abbrev cX4_canStandIn : ByteArray := prog_6_method_4_code
def yX4_canStandIn : MethodName := ⟨RX4, "canStandIn", "(LChoirBook$Choir;II)Z"⟩
abbrev cX4_findSoloist : ByteArray := prog_6_method_5_code
def yX4_findSoloist : MethodName := ⟨RX4, "findSoloist", "(LChoirBook$Choir;I)I"⟩
abbrev cX4_happen : ByteArray := prog_6_method_6_code
def yX4_happen : MethodName := ⟨RX4, "happen", "(LChoirBook$Choir;)I"⟩
def RX5 : String := "ChoirBook$Singer"
def TX5 : u_T := fun k => match k with
  | 0 => ("ChoirBook$Singer", "strength", "I", false)
  | 1 => ("ChoirBook$Singer", "height", "I", false)
  | 2 => ("ChoirBook$Singer", "tested", "J", false)
  | 3 => ("ChoirBook$Singer", "sung", "J", false)
  | 4 => ("ChoirBook$Singer", "lowest", "I", false)
  | 5 => ("ChoirBook$Singer", "range", "I", false)
  | 6 => ("ChoirBook$Singer", "part", "I", false)
  | 7 => ("ChoirBook$Singer", "present", "Z", false)
  | 8 => ("ChoirBook$Singer", "solos", "I", false)
  | 9 => ("ChoirBook$Singer", "latestSolo", "I", false)
  | _ => ("ChoirBook$Singer", "standIns", "I", false)
def tyX5 : Nat → FieldType := fun k => match k with
  | 0 => .int
  | 1 => .int
  | 2 => .long
  | 3 => .long
  | 4 => .int
  | 5 => .int
  | 6 => .int
  | 7 => .boolean
  | 8 => .int
  | 9 => .int
  | _ => .int
abbrev wsX50 : List Cond := u_ws RX5 TX5 11
theorem nmX5 : ∀ a, a < 11 → ∀ b, b < 11 → a ≠ b → (TX5 a).2.1 ≠ (TX5 b).2.1 := by decide +kernel
theorem tyX5_ok : ∀ k, k < 11 → parseFieldDescriptor (TX5 k).2.2.1 = some (tyX5 k) := by decide +kernel
abbrev cX5_init : ByteArray := prog_7_method_1_code
def yX5_init : MethodName := ⟨RX5, "<init>", "()V"⟩
abbrev cX5_begin : ByteArray := prog_7_method_2_code
def yX5_begin : MethodName := ⟨RX5, "begin", "(II)V"⟩
abbrev cX5_copyFrom : ByteArray := prog_7_method_3_code
def yX5_copyFrom : MethodName := ⟨RX5, "copyFrom", "(LChoirBook$Singer;)V"⟩
abbrev cX5_learn : ByteArray := prog_7_method_4_code
def yX5_learn : MethodName := ⟨RX5, "learn", "(JJ)V"⟩
abbrev cX5_notesIn : ByteArray := prog_7_method_5_code
def yX5_notesIn : MethodName := ⟨RX5, "notesIn", "(I)I"⟩
abbrev cX5_sitsBefore : ByteArray := prog_7_method_6_code
def yX5_sitsBefore : MethodName := ⟨RX5, "sitsBefore", "(LChoirBook$Singer;Z)Z"⟩
abbrev cX5_singsBefore : ByteArray := prog_7_method_7_code
def yX5_singsBefore : MethodName := ⟨RX5, "singsBefore", "(LChoirBook$Singer;)Z"⟩
def RX6 : String := "ChoirBook$Split"
def TX6 : u_T := fun k => match k with
  | 0 => ("ChoirBook$Split", "low", "[J", true)
  | _ => ("ChoirBook$Split", "high", "[J", true)
def tyX6 : Nat → FieldType := fun k => match k with
  | 0 => .array .long
  | _ => .array .long
abbrev wsX60 : List Cond := u_ws RX6 TX6 2
theorem nmX6 : ∀ a, a < 2 → ∀ b, b < 2 → a ≠ b → (TX6 a).2.1 ≠ (TX6 b).2.1 := by decide +kernel
theorem tyX6_ok : ∀ k, k < 2 → parseFieldDescriptor (TX6 k).2.2.1 = some (tyX6 k) := by decide +kernel
abbrev cX6_init : ByteArray := prog_8_method_1_code
def yX6_init : MethodName := ⟨RX6, "<init>", "()V"⟩
abbrev cX6_addVoice : ByteArray := prog_8_method_2_code
def yX6_addVoice : MethodName := ⟨RX6, "addVoice", "(IIZZ)V"⟩
abbrev cX6_evenest : ByteArray := prog_8_method_3_code
def yX6_evenest : MethodName := ⟨RX6, "evenest", "(II)I"⟩
abbrev cX6_gives : ByteArray := prog_8_method_4_code
def yX6_gives : MethodName := ⟨RX6, "gives", "(II)Z"⟩
abbrev cX6_reaches : ByteArray := prog_8_method_5_code
def yX6_reaches : MethodName := ⟨RX6, "reaches", "(III)Z"⟩
abbrev cX6_bits : ByteArray := prog_8_method_6_code
def yX6_bits : MethodName := ⟨RX6, "bits", "(II)J"⟩
def RX7 : String := "ChoirBook$Text"
def TX7 : u_T := fun k => match k with
  | 0 => ("ChoirBook$Text", "codes", "[I", true)
  | _ => ("ChoirBook$Text", "length", "I", false)
def tyX7 : Nat → FieldType := fun k => match k with
  | 0 => .array .int
  | _ => .int
abbrev wsX70 : List Cond := u_ws RX7 TX7 2
theorem nmX7 : ∀ a, a < 2 → ∀ b, b < 2 → a ≠ b → (TX7 a).2.1 ≠ (TX7 b).2.1 := by decide +kernel
theorem tyX7_ok : ∀ k, k < 2 → parseFieldDescriptor (TX7 k).2.2.1 = some (tyX7 k) := by decide +kernel
abbrev cX7_init : ByteArray := prog_9_method_1_code
def yX7_init : MethodName := ⟨RX7, "<init>", "()V"⟩
def RX8 : String := "ChoirBook"
def TX8 : u_T := fun k => match k with
  | 0 => ("ChoirBook", "choir", "LChoirBook$Choir;", true)
  | 1 => ("ChoirBook", "history", "LChoirBook$History;", true)
  | 2 => ("ChoirBook", "images", "[LChoirBook$Choir;", true)
  | 3 => ("ChoirBook", "kept", "[Z", true)
  | 4 => ("ChoirBook", "text", "LChoirBook$Text;", true)
  | 5 => ("ChoirBook", "reader", "LChoirBook$Reader;", true)
  | 6 => ("ChoirBook", "next", "LChoirBook$Rehearsal;", true)
  | _ => ("ChoirBook", "placing", "LChoirBook$Placing;", true)
def tyX8 : Nat → FieldType := fun k => match k with
  | 0 => .object "ChoirBook$Choir"
  | 1 => .object "ChoirBook$History"
  | 2 => .array (.object "ChoirBook$Choir")
  | 3 => .array .boolean
  | 4 => .object "ChoirBook$Text"
  | 5 => .object "ChoirBook$Reader"
  | 6 => .object "ChoirBook$Rehearsal"
  | _ => .object "ChoirBook$Placing"
abbrev wsX80 : List Cond := u_ws RX8 TX8 8
theorem nmX8 : ∀ a, a < 8 → ∀ b, b < 8 → a ≠ b → (TX8 a).2.1 ≠ (TX8 b).2.1 := by decide +kernel
theorem tyX8_ok : ∀ k, k < 8 → parseFieldDescriptor (TX8 k).2.2.1 = some (tyX8 k) := by decide +kernel
abbrev cX8_init : ByteArray := prog_1_method_1_code
def yX8_init : MethodName := ⟨RX8, "<init>", "()V"⟩
abbrev cX8_add : ByteArray := prog_1_method_2_code
def yX8_add : MethodName := ⟨RX8, "add", "(II)I"⟩
abbrev cX8_remove : ByteArray := prog_1_method_3_code
def yX8_remove : MethodName := ⟨RX8, "remove", "(I)I"⟩
abbrev cX8_set : ByteArray := prog_1_method_4_code
def yX8_set : MethodName := ⟨RX8, "set", "(II)I"⟩
abbrev cX8_test : ByteArray := prog_1_method_5_code
def yX8_test : MethodName := ⟨RX8, "test", "(I)I"⟩
abbrev cX8_place : ByteArray := prog_1_method_6_code
def yX8_place : MethodName := ⟨RX8, "place", "(II)I"⟩
abbrev cX8_placeAll : ByteArray := prog_1_method_7_code
def yX8_placeAll : MethodName := ⟨RX8, "placeAll", "()I"⟩
abbrev cX8_attendance : ByteArray := prog_1_method_8_code
def yX8_attendance : MethodName := ⟨RX8, "attendance", "()I"⟩
abbrev cX8_hold : ByteArray := prog_1_method_9_code
def yX8_hold : MethodName := ⟨RX8, "hold", "()I"⟩
abbrev cX8_undo : ByteArray := prog_1_method_10_code
def yX8_undo : MethodName := ⟨RX8, "undo", "()I"⟩
abbrev cX8_write : ByteArray := prog_1_method_11_code
def yX8_write : MethodName := ⟨RX8, "write", "(I)I"⟩
abbrev cX8_wipe : ByteArray := prog_1_method_12_code
def yX8_wipe : MethodName := ⟨RX8, "wipe", "()I"⟩
abbrev cX8_told : ByteArray := prog_1_method_14_code
def yX8_told : MethodName := ⟨RX8, "told", "(I)I"⟩
abbrev cX8_setting : ByteArray := prog_1_method_15_code
def yX8_setting : MethodName := ⟨RX8, "setting", "(I)I"⟩
abbrev cX8_singer : ByteArray := prog_1_method_16_code
def yX8_singer : MethodName := ⟨RX8, "singer", "(II)I"⟩
abbrev cX8_note : ByteArray := prog_1_method_17_code
def yX8_note : MethodName := ⟨RX8, "note", "(II)I"⟩
abbrev cX8_overlap : ByteArray := prog_1_method_18_code
def yX8_overlap : MethodName := ⟨RX8, "overlap", "(II)I"⟩
abbrev cX8_part : ByteArray := prog_1_method_19_code
def yX8_part : MethodName := ⟨RX8, "part", "(II)I"⟩
abbrev cX8_seat : ByteArray := prog_1_method_20_code
def yX8_seat : MethodName := ⟨RX8, "seat", "(II)I"⟩
abbrev cX8_solo : ByteArray := prog_1_method_21_code
def yX8_solo : MethodName := ⟨RX8, "solo", "(II)I"⟩
abbrev cX8_mean : ByteArray := prog_1_method_22_code
def yX8_mean : MethodName := ⟨RX8, "mean", "()F"⟩
abbrev cX8_standIn : ByteArray := prog_1_method_23_code
def yX8_standIn : MethodName := ⟨RX8, "standIn", "(I)I"⟩
abbrev cX8_passedOver : ByteArray := prog_1_method_24_code
def yX8_passedOver : MethodName := ⟨RX8, "passedOver", "(I)I"⟩
abbrev cX8_without : ByteArray := prog_1_method_25_code
def yX8_without : MethodName := ⟨RX8, "without", "(I)I"⟩
abbrev cX8_keep : ByteArray := prog_1_method_26_code
def yX8_keep : MethodName := ⟨RX8, "keep", "(I)I"⟩
abbrev cX8_back : ByteArray := prog_1_method_27_code
def yX8_back : MethodName := ⟨RX8, "back", "(I)I"⟩
abbrev cX8_isSetting : ByteArray := prog_1_method_28_code
def yX8_isSetting : MethodName := ⟨RX8, "isSetting", "(I)Z"⟩
abbrev cX8_isPart : ByteArray := prog_1_method_29_code
def yX8_isPart : MethodName := ⟨RX8, "isPart", "(I)Z"⟩
abbrev cX8_isImage : ByteArray := prog_1_method_30_code
def yX8_isImage : MethodName := ⟨RX8, "isImage", "(I)Z"⟩
abbrev cX8_contains : ByteArray := prog_1_method_31_code
def yX8_contains : MethodName := ⟨RX8, "contains", "(JI)Z"⟩
def RX9 : String := "ChoirBookModel"
def TX9 : u_T := fun k => match k with
  | _ => ("", "", "", false)
def tyX9 : Nat → FieldType := fun k => match k with
  | _ => .int
abbrev wsX90 : List Cond := u_ws RX9 TX9 0
theorem nmX9 : ∀ a, a < 0 → ∀ b, b < 0 → a ≠ b → (TX9 a).2.1 ≠ (TX9 b).2.1 := by decide +kernel
theorem tyX9_ok : ∀ k, k < 0 → parseFieldDescriptor (TX9 k).2.2.1 = some (tyX9 k) := by decide +kernel
def RL : String := "ChoirBookLaw"
abbrev cL_cell : ByteArray := method_2_code
def yL_cell : MethodName := ⟨RL, "cell", "([II)I"⟩
abbrev cL_low : ByteArray := method_3_code
def yL_low : MethodName := ⟨RL, "low", "(II)I"⟩
abbrev cL_number : ByteArray := method_4_code
def yL_number : MethodName := ⟨RL, "number", "(LChoirBook;I)I"⟩
abbrev cL_test : ByteArray := method_5_code
def yL_test : MethodName := ⟨RL, "test", "(LChoirBook;III)I"⟩
abbrev cL_attendance : ByteArray := method_6_code
def yL_attendance : MethodName := ⟨RL, "attendance", "(LChoirBook;I)I"⟩
abbrev cL_change : ByteArray := method_7_code
def yL_change : MethodName := ⟨RL, "change", "(LChoirBook;II)I"⟩
abbrev cL_isRange : ByteArray := method_8_code
def yL_isRange : MethodName := ⟨RL, "isRange", "(LChoirBook;I)Z"⟩
abbrev cL_areParts : ByteArray := method_9_code
def yL_areParts : MethodName := ⟨RL, "areParts", "(LChoirBook;)Z"⟩
abbrev cL_isHeld : ByteArray := method_10_code
def yL_isHeld : MethodName := ⟨RL, "isHeld", "(LChoirBook;)Z"⟩
abbrev cL_areAlike : ByteArray := method_11_code
def yL_areAlike : MethodName := ⟨RL, "areAlike", "(LChoirBook;LChoirBook;)Z"⟩
abbrev cL_law : ByteArray := code
def yL_law : MethodName := ⟨RL, "law", "([I)Z"⟩
abbrev vwCl : List vw_C := [(RX0, TX0, 8), (RX1, TX1, 3), (RX2, TX2, 10), (RX3, TX3, 11), (RX4, TX4, 3), (RX5, TX5, 11), (RX6, TX6, 2), (RX7, TX7, 2), (RX8, TX8, 8)]
end
section
def tb_X0_init : List (Nat × Instr × Nat) := [(0, .aload_n 0, 1), (1, .invokespecial 3, 3), (4, .aload_n 0, 1), (5, .bipush 10, 2), (7, .anewarray 9, 3), (10, .putfield 11, 3), (13, .iconst 0, 1), (14, .istore_n 1, 1), (15, .iload_n 1, 1), (16, .bipush 10, 2), (18, .if_icmp .ge 22, 3), (21, .aload_n 0, 1), (22, .getfield 11, 3), (25, .iload_n 1, 1), (26, .new 9, 3), (29, .dup, 1), (30, .invokespecial 17, 3), (33, .aastore, 1), (34, .iinc 1 1, 3), (37, .goto (-22), 3), (40, .aload_n 0, 1), (41, .iconst 4, 1), (42, .newarray .int, 2), (44, .putfield 18, 3), (47, .iconst 0, 1), (48, .istore_n 1, 1), (49, .iload_n 1, 1), (50, .iconst 4, 1), (51, .if_icmp .ge 20, 3), (54, .aload_n 0, 1), (55, .getfield 18, 3), (58, .iload_n 1, 1), (59, .getstatic 22, 3), (62, .iload_n 1, 1), (63, .iaload, 1), (64, .iastore, 1), (65, .iinc 1 1, 3), (68, .goto (-19), 3), (71, .aload_n 0, 1), (72, .sipush 160, 3), (75, .newarray .int, 2), (77, .putfield 25, 3), (80, .aload_n 0, 1), (81, .iconst 4, 1), (82, .newarray .int, 2), (84, .putfield 28, 3), (87, .return_, 1)]
theorem dc_X0_init : ∀ q ∈ tb_X0_init, decode cX0_init q.1 = .ok q.2 := by decide +kernel
def tb_X0_copyFrom : List (Nat × Instr × Nat) := [(0, .iconst 0, 1), (1, .istore_n 2, 1), (2, .iload_n 2, 1), (3, .aload_n 1, 1), (4, .getfield 31, 3), (7, .if_icmp .ge 24, 3), (10, .aload_n 0, 1), (11, .getfield 11, 3), (14, .iload_n 2, 1), (15, .aaload, 1), (16, .aload_n 1, 1), (17, .getfield 11, 3), (20, .iload_n 2, 1), (21, .aaload, 1), (22, .invokevirtual 35, 3), (25, .iinc 2 1, 3), (28, .goto (-26), 3), (31, .aload_n 1, 1), (32, .getfield 18, 3), (35, .iconst 0, 1), (36, .aload_n 0, 1), (37, .getfield 18, 3), (40, .iconst 0, 1), (41, .iconst 4, 1), (42, .invokestatic 39, 3), (45, .aload_n 1, 1), (46, .getfield 25, 3), (49, .iconst 0, 1), (50, .aload_n 0, 1), (51, .getfield 25, 3), (54, .iconst 0, 1), (55, .aload_n 1, 1), (56, .getfield 45, 3), (59, .iconst 4, 1), (60, .imul, 1), (61, .invokestatic 39, 3), (64, .aload_n 1, 1), (65, .getfield 28, 3), (68, .iconst 0, 1), (69, .aload_n 0, 1), (70, .getfield 28, 3), (73, .iconst 0, 1), (74, .iconst 4, 1), (75, .invokestatic 39, 3), (78, .aload_n 0, 1), (79, .aload_n 1, 1), (80, .getfield 31, 3), (83, .putfield 31, 3), (86, .aload_n 0, 1), (87, .aload_n 1, 1), (88, .getfield 45, 3), (91, .putfield 45, 3), (94, .aload_n 0, 1), (95, .aload_n 1, 1), (96, .getfield 48, 3), (99, .putfield 48, 3), (102, .aload_n 0, 1), (103, .aload_n 1, 1), (104, .getfield 51, 3), (107, .putfield 51, 3), (110, .return_, 1)]
theorem dc_X0_copyFrom : ∀ q ∈ tb_X0_copyFrom, decode cX0_copyFrom q.1 = .ok q.2 := by decide +kernel
def tb_X0_has : List (Nat × Instr × Nat) := [(0, .iload_n 1, 1), (1, .ifCond .lt 15, 3), (4, .iload_n 1, 1), (5, .aload_n 0, 1), (6, .getfield 31, 3), (9, .if_icmp .ge 7, 3), (12, .iconst 1, 1), (13, .goto 4, 3), (16, .iconst 0, 1), (17, .ireturn, 1)]
theorem dc_X0_has : ∀ q ∈ tb_X0_has, decode cX0_has q.1 = .ok q.2 := by decide +kernel
def tb_X0_join : List (Nat × Instr × Nat) := [(0, .aload_n 0, 1), (1, .getfield 11, 3), (4, .aload_n 0, 1), (5, .getfield 31, 3), (8, .aaload, 1), (9, .iload_n 1, 1), (10, .iload_n 2, 1), (11, .invokevirtual 54, 3), (14, .aload_n 0, 1), (15, .dup, 1), (16, .getfield 31, 3), (19, .iconst 1, 1), (20, .iadd, 1), (21, .putfield 31, 3), (24, .return_, 1)]
theorem dc_X0_join : ∀ q ∈ tb_X0_join, decode cX0_join q.1 = .ok q.2 := by decide +kernel
def tb_X0_dismiss : List (Nat × Instr × Nat) := [(0, .iload_n 1, 1), (1, .istore_n 2, 1), (2, .iload_n 2, 1), (3, .iconst 1, 1), (4, .iadd, 1), (5, .aload_n 0, 1), (6, .getfield 31, 3), (9, .if_icmp .ge 26, 3), (12, .aload_n 0, 1), (13, .getfield 11, 3), (16, .iload_n 2, 1), (17, .aaload, 1), (18, .aload_n 0, 1), (19, .getfield 11, 3), (22, .iload_n 2, 1), (23, .iconst 1, 1), (24, .iadd, 1), (25, .aaload, 1), (26, .invokevirtual 35, 3), (29, .iinc 2 1, 3), (32, .goto (-30), 3), (35, .aload_n 0, 1), (36, .dup, 1), (37, .getfield 31, 3), (40, .iconst 1, 1), (41, .isub, 1), (42, .putfield 31, 3), (45, .return_, 1)]
theorem dc_X0_dismiss : ∀ q ∈ tb_X0_dismiss, decode cX0_dismiss q.1 = .ok q.2 := by decide +kernel
def tb_X0_fits : List (Nat × Instr × Nat) := [(0, .aload_n 0, 1), (1, .getfield 11, 3), (4, .iload_n 1, 1), (5, .aaload, 1), (6, .iload_n 2, 1), (7, .invokevirtual 58, 3), (10, .aload_n 0, 1), (11, .getfield 18, 3), (14, .iconst 0, 1), (15, .iaload, 1), (16, .if_icmp .lt 7, 3), (19, .iconst 1, 1), (20, .goto 4, 3), (23, .iconst 0, 1), (24, .ireturn, 1)]
theorem dc_X0_fits : ∀ q ∈ tb_X0_fits, decode cX0_fits q.1 = .ok q.2 := by decide +kernel
def tb_X0_fittingParts : List (Nat × Instr × Nat) := [(0, .iconst 0, 1), (1, .istore_n 2, 1), (2, .iconst 0, 1), (3, .istore_n 3, 1), (4, .iload_n 3, 1), (5, .iconst 4, 1), (6, .if_icmp .ge 24, 3), (9, .aload_n 0, 1), (10, .iload_n 1, 1), (11, .iload_n 3, 1), (12, .invokevirtual 62, 3), (15, .ifCond .eq 9, 3), (18, .iload_n 2, 1), (19, .iconst 1, 1), (20, .iload_n 3, 1), (21, .ishl, 1), (22, .ior, 1), (23, .istore_n 2, 1), (24, .iinc 3 1, 3), (27, .goto (-23), 3), (30, .iload_n 2, 1), (31, .ireturn, 1)]
theorem dc_X0_fittingParts : ∀ q ∈ tb_X0_fittingParts, decode cX0_fittingParts q.1 = .ok q.2 := by decide +kernel
def tb_X0_placed : List (Nat × Instr × Nat) := [(0, .iconst 0, 1), (1, .istore_n 1, 1), (2, .iconst 0, 1), (3, .istore_n 2, 1), (4, .iload_n 2, 1), (5, .iconst 4, 1), (6, .if_icmp .ge 17, 3), (9, .iload_n 1, 1), (10, .aload_n 0, 1), (11, .iload_n 2, 1), (12, .invokevirtual 66, 3), (15, .iadd, 1), (16, .istore_n 1, 1), (17, .iinc 2 1, 3), (20, .goto (-16), 3), (23, .iload_n 1, 1), (24, .ireturn, 1)]
theorem dc_X0_placed : ∀ q ∈ tb_X0_placed, decode cX0_placed q.1 = .ok q.2 := by decide +kernel
def tb_X0_absent : List (Nat × Instr × Nat) := [(0, .iconst 0, 1), (1, .istore_n 1, 1), (2, .iconst 0, 1), (3, .istore_n 2, 1), (4, .iload_n 2, 1), (5, .aload_n 0, 1), (6, .getfield 31, 3), (9, .if_icmp .ge 29, 3), (12, .iload_n 1, 1), (13, .aload_n 0, 1), (14, .getfield 11, 3), (17, .iload_n 2, 1), (18, .aaload, 1), (19, .getfield 69, 3), (22, .ifCond .eq 7, 3), (25, .iconst 0, 1), (26, .goto 4, 3), (29, .iconst 1, 1), (30, .iadd, 1), (31, .istore_n 1, 1), (32, .iinc 2 1, 3), (35, .goto (-31), 3), (38, .iload_n 1, 1), (39, .ireturn, 1)]
theorem dc_X0_absent : ∀ q ∈ tb_X0_absent, decode cX0_absent q.1 = .ok q.2 := by decide +kernel
def tb_X0_members : List (Nat × Instr × Nat) := [(0, .iconst 0, 1), (1, .istore_n 2, 1), (2, .iconst 0, 1), (3, .istore_n 3, 1), (4, .iload_n 3, 1), (5, .aload_n 0, 1), (6, .getfield 31, 3), (9, .if_icmp .ge 30, 3), (12, .iload_n 2, 1), (13, .aload_n 0, 1), (14, .getfield 11, 3), (17, .iload_n 3, 1), (18, .aaload, 1), (19, .getfield 73, 3), (22, .iload_n 1, 1), (23, .if_icmp .ne 7, 3), (26, .iconst 1, 1), (27, .goto 4, 3), (30, .iconst 0, 1), (31, .iadd, 1), (32, .istore_n 2, 1), (33, .iinc 3 1, 3), (36, .goto (-32), 3), (39, .iload_n 2, 1), (40, .ireturn, 1)]
theorem dc_X0_members : ∀ q ∈ tb_X0_members, decode cX0_members q.1 = .ok q.2 := by decide +kernel
def tb_X0_strength : List (Nat × Instr × Nat) := [(0, .iconst 0, 1), (1, .istore_n 2, 1), (2, .iconst 0, 1), (3, .istore_n 3, 1), (4, .iload_n 3, 1), (5, .aload_n 0, 1), (6, .getfield 31, 3), (9, .if_icmp .ge 38, 3), (12, .iload_n 2, 1), (13, .aload_n 0, 1), (14, .getfield 11, 3), (17, .iload_n 3, 1), (18, .aaload, 1), (19, .getfield 73, 3), (22, .iload_n 1, 1), (23, .if_icmp .ne 15, 3), (26, .aload_n 0, 1), (27, .getfield 11, 3), (30, .iload_n 3, 1), (31, .aaload, 1), (32, .getfield 76, 3), (35, .goto 4, 3), (38, .iconst 0, 1), (39, .iadd, 1), (40, .istore_n 2, 1), (41, .iinc 3 1, 3), (44, .goto (-40), 3), (47, .iload_n 2, 1), (48, .ireturn, 1)]
theorem dc_X0_strength : ∀ q ∈ tb_X0_strength, decode cX0_strength q.1 = .ok q.2 := by decide +kernel
def tb_X0_strengthPresent : List (Nat × Instr × Nat) := [(0, .iconst 0, 1), (1, .istore_n 2, 1), (2, .iconst 0, 1), (3, .istore_n 3, 1), (4, .iload_n 3, 1), (5, .aload_n 0, 1), (6, .getfield 31, 3), (9, .if_icmp .ge 46, 3), (12, .aload_n 0, 1), (13, .getfield 11, 3), (16, .iload_n 3, 1), (17, .aaload, 1), (18, .astore 4, 2), (20, .iload_n 2, 1), (21, .aload 4, 2), (23, .getfield 73, 3), (26, .iload_n 1, 1), (27, .if_icmp .ne 19, 3), (30, .aload 4, 2), (32, .getfield 69, 3), (35, .ifCond .eq 11, 3), (38, .aload 4, 2), (40, .getfield 76, 3), (43, .goto 4, 3), (46, .iconst 0, 1), (47, .iadd, 1), (48, .istore_n 2, 1), (49, .iinc 3 1, 3), (52, .goto (-48), 3), (55, .iload_n 2, 1), (56, .ireturn, 1)]
theorem dc_X0_strengthPresent : ∀ q ∈ tb_X0_strengthPresent, decode cX0_strengthPresent q.1 = .ok q.2 := by decide +kernel
def tb_X0_covers : List (Nat × Instr × Nat) := [(0, .iload_n 1, 1), (1, .aload_n 0, 1), (2, .getfield 18, 3), (5, .iconst 1, 1), (6, .iaload, 1), (7, .if_icmp .lt 7, 3), (10, .iconst 1, 1), (11, .goto 4, 3), (14, .iconst 0, 1), (15, .ireturn, 1)]
theorem dc_X0_covers : ∀ q ∈ tb_X0_covers, decode cX0_covers q.1 = .ok q.2 := by decide +kernel
def tb_X0_coveredParts : List (Nat × Instr × Nat) := [(0, .iconst 0, 1), (1, .istore_n 1, 1), (2, .iconst 0, 1), (3, .istore_n 2, 1), (4, .iload_n 2, 1), (5, .iconst 4, 1), (6, .if_icmp .ge 27, 3), (9, .aload_n 0, 1), (10, .aload_n 0, 1), (11, .iload_n 2, 1), (12, .invokevirtual 79, 3), (15, .invokevirtual 82, 3), (18, .ifCond .eq 9, 3), (21, .iload_n 1, 1), (22, .iconst 1, 1), (23, .iload_n 2, 1), (24, .ishl, 1), (25, .ior, 1), (26, .istore_n 1, 1), (27, .iinc 2 1, 3), (30, .goto (-26), 3), (33, .iload_n 1, 1), (34, .ireturn, 1)]
theorem dc_X0_coveredParts : ∀ q ∈ tb_X0_coveredParts, decode cX0_coveredParts q.1 = .ok q.2 := by decide +kernel
def tb_X0_rested : List (Nat × Instr × Nat) := [(0, .aload_n 1, 1), (1, .getfield 86, 3), (4, .bipush (-9), 2), (6, .if_icmp .eq 21, 3), (9, .aload_n 0, 1), (10, .getfield 45, 3), (13, .aload_n 1, 1), (14, .getfield 86, 3), (17, .isub, 1), (18, .aload_n 0, 1), (19, .getfield 18, 3), (22, .iconst 2, 1), (23, .iaload, 1), (24, .if_icmp .le 7, 3), (27, .iconst 1, 1), (28, .goto 4, 3), (31, .iconst 0, 1), (32, .ireturn, 1)]
theorem dc_X0_rested : ∀ q ∈ tb_X0_rested, decode cX0_rested q.1 = .ok q.2 := by decide +kernel
def tb_X0_width : List (Nat × Instr × Nat) := [(0, .iconst 1, 1), (1, .aload_n 0, 1), (2, .getfield 18, 3), (5, .iconst 3, 1), (6, .iaload, 1), (7, .invokestatic 89, 3), (10, .ireturn, 1)]
theorem dc_X0_width : ∀ q ∈ tb_X0_width, decode cX0_width q.1 = .ok q.2 := by decide +kernel
def tb_X0_rows : List (Nat × Instr × Nat) := [(0, .aload_n 0, 1), (1, .iload_n 1, 1), (2, .invokevirtual 66, 3), (5, .aload_n 0, 1), (6, .invokevirtual 95, 3), (9, .iadd, 1), (10, .iconst 1, 1), (11, .isub, 1), (12, .aload_n 0, 1), (13, .invokevirtual 95, 3), (16, .idiv, 1), (17, .ireturn, 1)]
theorem dc_X0_rows : ∀ q ∈ tb_X0_rows, decode cX0_rows q.1 = .ok q.2 := by decide +kernel
def tb_X0_rowsBefore : List (Nat × Instr × Nat) := [(0, .iconst 0, 1), (1, .istore_n 2, 1), (2, .iconst 0, 1), (3, .istore_n 3, 1), (4, .iload_n 3, 1), (5, .iload_n 1, 1), (6, .if_icmp .ge 17, 3), (9, .iload_n 2, 1), (10, .aload_n 0, 1), (11, .iload_n 3, 1), (12, .invokevirtual 99, 3), (15, .iadd, 1), (16, .istore_n 2, 1), (17, .iinc 3 1, 3), (20, .goto (-16), 3), (23, .iload_n 2, 1), (24, .ireturn, 1)]
theorem dc_X0_rowsBefore : ∀ q ∈ tb_X0_rowsBefore, decode cX0_rowsBefore q.1 = .ok q.2 := by decide +kernel
def tb_X0_seatedBefore : List (Nat × Instr × Nat) := [(0, .aload_n 0, 1), (1, .getfield 11, 3), (4, .iload_n 1, 1), (5, .aaload, 1), (6, .astore_n 2, 1), (7, .iconst 0, 1), (8, .istore_n 3, 1), (9, .iconst 0, 1), (10, .istore 4, 2), (12, .iload 4, 2), (14, .aload_n 0, 1), (15, .getfield 31, 3), (18, .if_icmp .ge 53, 3), (21, .aload_n 0, 1), (22, .getfield 11, 3), (25, .iload 4, 2), (27, .aaload, 1), (28, .astore 5, 2), (30, .aload 5, 2), (32, .getfield 73, 3), (35, .aload_n 2, 1), (36, .getfield 73, 3), (39, .if_icmp .ne 26, 3), (42, .aload 5, 2), (44, .aload_n 2, 1), (45, .iload 4, 2), (47, .iload_n 1, 1), (48, .if_icmp .ge 7, 3), (51, .iconst 1, 1), (52, .goto 4, 3), (55, .iconst 0, 1), (56, .invokevirtual 102, 3), (59, .ifCond .eq 6, 3), (62, .iinc 3 1, 3), (65, .iinc 4 1, 3), (68, .goto (-56), 3), (71, .iload_n 3, 1), (72, .ireturn, 1)]
theorem dc_X0_seatedBefore : ∀ q ∈ tb_X0_seatedBefore, decode cX0_seatedBefore q.1 = .ok q.2 := by decide +kernel
def tb_X1_init : List (Nat × Instr × Nat) := [(0, .aload_n 0, 1), (1, .invokespecial 3, 3), (4, .aload_n 0, 1), (5, .bipush 8, 2), (7, .anewarray 9, 3), (10, .putfield 11, 3), (13, .iconst 0, 1), (14, .istore_n 1, 1), (15, .iload_n 1, 1), (16, .bipush 8, 2), (18, .if_icmp .ge 22, 3), (21, .aload_n 0, 1), (22, .getfield 11, 3), (25, .iload_n 1, 1), (26, .new 9, 3), (29, .dup, 1), (30, .invokespecial 17, 3), (33, .aastore, 1), (34, .iinc 1 1, 3), (37, .goto (-22), 3), (40, .return_, 1)]
theorem dc_X1_init : ∀ q ∈ tb_X1_init, decode cX1_init q.1 = .ok q.2 := by decide +kernel
def tb_X1_record : List (Nat × Instr × Nat) := [(0, .aload_n 0, 1), (1, .getfield 11, 3), (4, .aload_n 0, 1), (5, .getfield 18, 3), (8, .aload_n 0, 1), (9, .getfield 22, 3), (12, .iadd, 1), (13, .bipush 8, 2), (15, .irem, 1), (16, .aaload, 1), (17, .aload_n 1, 1), (18, .invokevirtual 25, 3), (21, .aload_n 0, 1), (22, .getfield 22, 3), (25, .bipush 8, 2), (27, .if_icmp .ge 16, 3), (30, .aload_n 0, 1), (31, .dup, 1), (32, .getfield 22, 3), (35, .iconst 1, 1), (36, .iadd, 1), (37, .putfield 22, 3), (40, .goto 16, 3), (43, .aload_n 0, 1), (44, .aload_n 0, 1), (45, .getfield 18, 3), (48, .iconst 1, 1), (49, .iadd, 1), (50, .bipush 8, 2), (52, .irem, 1), (53, .putfield 18, 3), (56, .return_, 1)]
theorem dc_X1_record : ∀ q ∈ tb_X1_record, decode cX1_record q.1 = .ok q.2 := by decide +kernel
def tb_X1_restore : List (Nat × Instr × Nat) := [(0, .aload_n 0, 1), (1, .dup, 1), (2, .getfield 22, 3), (5, .iconst 1, 1), (6, .isub, 1), (7, .putfield 22, 3), (10, .aload_n 1, 1), (11, .aload_n 0, 1), (12, .getfield 11, 3), (15, .aload_n 0, 1), (16, .getfield 18, 3), (19, .aload_n 0, 1), (20, .getfield 22, 3), (23, .iadd, 1), (24, .bipush 8, 2), (26, .irem, 1), (27, .aaload, 1), (28, .invokevirtual 25, 3), (31, .return_, 1)]
theorem dc_X1_restore : ∀ q ∈ tb_X1_restore, decode cX1_restore q.1 = .ok q.2 := by decide +kernel
def tb_X2_init : List (Nat × Instr × Nat) := [(0, .aload_n 0, 1), (1, .invokespecial 3, 3), (4, .aload_n 0, 1), (5, .new 9, 3), (8, .dup, 1), (9, .invokespecial 11, 3), (12, .putfield 12, 3), (15, .aload_n 0, 1), (16, .new 9, 3), (19, .dup, 1), (20, .invokespecial 11, 3), (23, .putfield 18, 3), (26, .aload_n 0, 1), (27, .sipush 1024, 3), (30, .newarray .int, 2), (32, .putfield 21, 3), (35, .aload_n 0, 1), (36, .iconst 4, 1), (37, .newarray .int, 2), (39, .putfield 25, 3), (42, .aload_n 0, 1), (43, .bipush 10, 2), (45, .newarray .int, 2), (47, .putfield 28, 3), (50, .aload_n 0, 1), (51, .bipush 10, 2), (53, .newarray .int, 2), (55, .putfield 31, 3), (58, .aload_n 0, 1), (59, .bipush 10, 2), (61, .newarray .int, 2), (63, .putfield 34, 3), (66, .return_, 1)]
theorem dc_X2_init : ∀ q ∈ tb_X2_init, decode cX2_init q.1 = .ok q.2 := by decide +kernel
def tb_X2_weigh : List (Nat × Instr × Nat) := [(0, .aload_n 0, 1), (1, .iconst 0, 1), (2, .putfield 37, 3), (5, .iconst 0, 1), (6, .istore_n 3, 1), (7, .iload_n 3, 1), (8, .aload_n 1, 1), (9, .getfield 41, 3), (12, .if_icmp .ge 42, 3), (15, .aload_n 1, 1), (16, .iload_n 3, 1), (17, .invokevirtual 46, 3), (20, .istore 4, 2), (22, .iload_n 3, 1), (23, .iload_n 2, 1), (24, .if_icmp .eq 24, 3), (27, .iload 4, 2), (29, .ifCond .eq 19, 3), (32, .aload_n 0, 1), (33, .iload_n 3, 1), (34, .aload_n 1, 1), (35, .getfield 50, 3), (38, .iload_n 3, 1), (39, .aaload, 1), (40, .getfield 54, 3), (43, .iload 4, 2), (45, .invokevirtual 58, 3), (48, .iinc 3 1, 3), (51, .goto (-44), 3), (54, .iconst 1, 1), (55, .aload_n 0, 1), (56, .getfield 37, 3), (59, .ishl, 1), (60, .iconst 1, 1), (61, .isub, 1), (62, .istore_n 3, 1), (63, .aload_n 0, 1), (64, .iconst (-1), 1), (65, .putfield 62, 3), (68, .aload_n 0, 1), (69, .iconst 0, 1), (70, .putfield 65, 3), (73, .iconst 0, 1), (74, .istore 4, 2), (76, .iload 4, 2), (78, .iload_n 3, 1), (79, .if_icmp .gt 19, 3), (82, .aload_n 0, 1), (83, .iload 4, 2), (85, .iload_n 3, 1), (86, .iload 4, 2), (88, .ixor, 1), (89, .invokevirtual 68, 3), (92, .iinc 4 1, 3), (95, .goto (-19), 3), (98, .return_, 1)]
theorem dc_X2_weigh : ∀ q ∈ tb_X2_weigh, decode cX2_weigh q.1 = .ok q.2 := by decide +kernel
def tb_X2_addVoice : List (Nat × Instr × Nat) := [(0, .aload_n 0, 1), (1, .getfield 28, 3), (4, .aload_n 0, 1), (5, .getfield 37, 3), (8, .iload_n 1, 1), (9, .iastore, 1), (10, .aload_n 0, 1), (11, .getfield 31, 3), (14, .aload_n 0, 1), (15, .getfield 37, 3), (18, .iload_n 2, 1), (19, .iastore, 1), (20, .aload_n 0, 1), (21, .getfield 34, 3), (24, .aload_n 0, 1), (25, .getfield 37, 3), (28, .iload_n 3, 1), (29, .iastore, 1), (30, .iconst 1, 1), (31, .aload_n 0, 1), (32, .getfield 37, 3), (35, .ishl, 1), (36, .istore 4, 2), (38, .iconst 0, 1), (39, .istore 5, 2), (41, .iload 5, 2), (43, .iload 4, 2), (45, .if_icmp .ge 28, 3), (48, .aload_n 0, 1), (49, .getfield 21, 3), (52, .iload 4, 2), (54, .iload 5, 2), (56, .ior, 1), (57, .aload_n 0, 1), (58, .getfield 21, 3), (61, .iload 5, 2), (63, .iaload, 1), (64, .iload_n 2, 1), (65, .iadd, 1), (66, .iastore, 1), (67, .iinc 5 1, 3), (70, .goto (-29), 3), (73, .aload_n 0, 1), (74, .getfield 12, 3), (77, .aload_n 0, 1), (78, .getfield 37, 3), (81, .iload_n 2, 1), (82, .iload_n 3, 1), (83, .i2l, 1), (84, .iconst 0, 1), (85, .invokestatic 72, 3), (88, .iload_n 3, 1), (89, .i2l, 1), (90, .iconst 1, 1), (91, .invokestatic 72, 3), (94, .invokevirtual 76, 3), (97, .aload_n 0, 1), (98, .getfield 18, 3), (101, .aload_n 0, 1), (102, .getfield 37, 3), (105, .iload_n 2, 1), (106, .iload_n 3, 1), (107, .i2l, 1), (108, .iconst 2, 1), (109, .invokestatic 72, 3), (112, .iload_n 3, 1), (113, .i2l, 1), (114, .iconst 3, 1), (115, .invokestatic 72, 3), (118, .invokevirtual 76, 3), (121, .aload_n 0, 1), (122, .dup, 1), (123, .getfield 37, 3), (126, .iconst 1, 1), (127, .iadd, 1), (128, .putfield 37, 3), (131, .return_, 1)]
theorem dc_X2_addVoice : ∀ q ∈ tb_X2_addVoice, decode cX2_addVoice q.1 = .ok q.2 := by decide +kernel
def tb_X2_weighPairs : List (Nat × Instr × Nat) := [(0, .aload_n 0, 1), (1, .getfield 12, 3), (4, .iload_n 1, 1), (5, .aload_n 0, 1), (6, .getfield 21, 3), (9, .iload_n 1, 1), (10, .iaload, 1), (11, .invokevirtual 79, 3), (14, .istore_n 3, 1), (15, .aload_n 0, 1), (16, .getfield 18, 3), (19, .iload_n 2, 1), (20, .aload_n 0, 1), (21, .getfield 21, 3), (24, .iload_n 2, 1), (25, .iaload, 1), (26, .invokevirtual 79, 3), (29, .istore 4, 2), (31, .iload_n 3, 1), (32, .ifCond .lt 8, 3), (35, .iload 4, 2), (37, .ifCond .ge 4, 3), (40, .return_, 1), (41, .iload_n 3, 1), (42, .iload 4, 2), (44, .invokestatic 83, 3), (47, .istore 5, 2), (49, .aload_n 0, 1), (50, .getfield 21, 3), (53, .iload_n 1, 1), (54, .iaload, 1), (55, .iload_n 3, 1), (56, .isub, 1), (57, .aload_n 0, 1), (58, .getfield 21, 3), (61, .iload_n 2, 1), (62, .iaload, 1), (63, .iload 4, 2), (65, .isub, 1), (66, .invokestatic 88, 3), (69, .istore 6, 2), (71, .iload 5, 2), (73, .aload_n 0, 1), (74, .getfield 62, 3), (77, .if_icmp .gt 21, 3), (80, .iload 5, 2), (82, .aload_n 0, 1), (83, .getfield 62, 3), (86, .if_icmp .ne 24, 3), (89, .iload 6, 2), (91, .aload_n 0, 1), (92, .getfield 65, 3), (95, .if_icmp .ge 15, 3), (98, .aload_n 0, 1), (99, .iload 5, 2), (101, .putfield 62, 3), (104, .aload_n 0, 1), (105, .iload 6, 2), (107, .putfield 65, 3), (110, .return_, 1)]
theorem dc_X2_weighPairs : ∀ q ∈ tb_X2_weighPairs, decode cX2_weighPairs q.1 = .ok q.2 := by decide +kernel
def tb_X2_choose : List (Nat × Instr × Nat) := [(0, .iconst 0, 1), (1, .istore_n 2, 1), (2, .iload_n 2, 1), (3, .aload_n 1, 1), (4, .getfield 41, 3), (7, .if_icmp .ge 20, 3), (10, .aload_n 1, 1), (11, .getfield 50, 3), (14, .iload_n 2, 1), (15, .aaload, 1), (16, .bipush (-9), 2), (18, .putfield 91, 3), (21, .iinc 2 1, 3), (24, .goto (-22), 3), (27, .iconst 0, 1), (28, .istore_n 2, 1), (29, .iload_n 2, 1), (30, .iconst 4, 1), (31, .if_icmp .ge 16, 3), (34, .aload_n 0, 1), (35, .getfield 25, 3), (38, .iload_n 2, 1), (39, .iconst 0, 1), (40, .iastore, 1), (41, .iinc 2 1, 3), (44, .goto (-15), 3), (47, .iconst 0, 1), (48, .istore_n 2, 1), (49, .iload_n 2, 1), (50, .aload_n 0, 1), (51, .getfield 37, 3), (54, .if_icmp .ge 28, 3), (57, .aload_n 1, 1), (58, .getfield 50, 3), (61, .aload_n 0, 1), (62, .getfield 28, 3), (65, .iload_n 2, 1), (66, .iaload, 1), (67, .aaload, 1), (68, .aload_n 0, 1), (69, .iload_n 2, 1), (70, .invokevirtual 94, 3), (73, .putfield 91, 3), (76, .iinc 2 1, 3), (79, .goto (-30), 3), (82, .return_, 1)]
theorem dc_X2_choose : ∀ q ∈ tb_X2_choose, decode cX2_choose q.1 = .ok q.2 := by decide +kernel
def tb_X2_firstGoodPart : List (Nat × Instr × Nat) := [(0, .iconst 0, 1), (1, .istore_n 2, 1), (2, .iload_n 2, 1), (3, .iconst 4, 1), (4, .if_icmp .ge 65, 3), (7, .aload_n 0, 1), (8, .getfield 34, 3), (11, .iload_n 1, 1), (12, .iaload, 1), (13, .i2l, 1), (14, .iload_n 2, 1), (15, .invokestatic 72, 3), (18, .ifCond .eq 45, 3), (21, .aload_n 0, 1), (22, .getfield 25, 3), (25, .iload_n 2, 1), (26, .dup2, 1), (27, .iaload, 1), (28, .aload_n 0, 1), (29, .getfield 31, 3), (32, .iload_n 1, 1), (33, .iaload, 1), (34, .iadd, 1), (35, .iastore, 1), (36, .aload_n 0, 1), (37, .iload_n 1, 1), (38, .iconst 1, 1), (39, .iadd, 1), (40, .invokevirtual 97, 3), (43, .ifCond .eq 5, 3), (46, .iload_n 2, 1), (47, .ireturn, 1), (48, .aload_n 0, 1), (49, .getfield 25, 3), (52, .iload_n 2, 1), (53, .dup2, 1), (54, .iaload, 1), (55, .aload_n 0, 1), (56, .getfield 31, 3), (59, .iload_n 1, 1), (60, .iaload, 1), (61, .isub, 1), (62, .iastore, 1), (63, .iinc 2 1, 3), (66, .goto (-64), 3), (69, .bipush (-9), 2), (71, .ireturn, 1)]
theorem dc_X2_firstGoodPart : ∀ q ∈ tb_X2_firstGoodPart, decode cX2_firstGoodPart q.1 = .ok q.2 := by decide +kernel
def tb_X2_canFinish : List (Nat × Instr × Nat) := [(0, .iconst 1, 1), (1, .aload_n 0, 1), (2, .getfield 37, 3), (5, .iload_n 1, 1), (6, .isub, 1), (7, .ishl, 1), (8, .iconst 1, 1), (9, .isub, 1), (10, .istore_n 2, 1), (11, .iconst 0, 1), (12, .istore_n 3, 1), (13, .iload_n 3, 1), (14, .iload_n 2, 1), (15, .if_icmp .gt 51, 3), (18, .iload_n 3, 1), (19, .iload_n 1, 1), (20, .ishl, 1), (21, .istore 4, 2), (23, .iload_n 2, 1), (24, .iload_n 3, 1), (25, .ixor, 1), (26, .iload_n 1, 1), (27, .ishl, 1), (28, .istore 5, 2), (30, .aload_n 0, 1), (31, .aload_n 0, 1), (32, .getfield 12, 3), (35, .iload 4, 2), (37, .iconst 0, 1), (38, .invokevirtual 101, 3), (41, .ifCond .eq 19, 3), (44, .aload_n 0, 1), (45, .aload_n 0, 1), (46, .getfield 18, 3), (49, .iload 5, 2), (51, .iconst 2, 1), (52, .invokevirtual 101, 3), (55, .ifCond .eq 5, 3), (58, .iconst 1, 1), (59, .ireturn, 1), (60, .iinc 3 1, 3), (63, .goto (-50), 3), (66, .iconst 0, 1), (67, .ireturn, 1)]
theorem dc_X2_canFinish : ∀ q ∈ tb_X2_canFinish, decode cX2_canFinish q.1 = .ok q.2 := by decide +kernel
def tb_X2_pairCanReach : List (Nat × Instr × Nat) := [(0, .aload_n 0, 1), (1, .getfield 65, 3), (4, .aload_n 0, 1), (5, .getfield 25, 3), (8, .iload_n 3, 1), (9, .iaload, 1), (10, .isub, 1), (11, .aload_n 0, 1), (12, .getfield 25, 3), (15, .iload_n 3, 1), (16, .iconst 1, 1), (17, .iadd, 1), (18, .iaload, 1), (19, .aload_n 0, 1), (20, .getfield 21, 3), (23, .iload_n 2, 1), (24, .iaload, 1), (25, .iadd, 1), (26, .aload_n 0, 1), (27, .getfield 62, 3), (30, .isub, 1), (31, .invokestatic 83, 3), (34, .istore 4, 2), (36, .aload_n 0, 1), (37, .getfield 62, 3), (40, .aload_n 0, 1), (41, .getfield 25, 3), (44, .iload_n 3, 1), (45, .iaload, 1), (46, .isub, 1), (47, .aload_n 0, 1), (48, .getfield 25, 3), (51, .iload_n 3, 1), (52, .iconst 1, 1), (53, .iadd, 1), (54, .iaload, 1), (55, .aload_n 0, 1), (56, .getfield 21, 3), (59, .iload_n 2, 1), (60, .iaload, 1), (61, .iadd, 1), (62, .aload_n 0, 1), (63, .getfield 65, 3), (66, .isub, 1), (67, .invokestatic 88, 3), (70, .istore 5, 2), (72, .aload_n 1, 1), (73, .iload_n 2, 1), (74, .iload 5, 2), (76, .iload 4, 2), (78, .invokevirtual 105, 3), (81, .ireturn, 1)]
theorem dc_X2_pairCanReach : ∀ q ∈ tb_X2_pairCanReach, decode cX2_pairCanReach q.1 = .ok q.2 := by decide +kernel
def tb_X3_init : List (Nat × Instr × Nat) := [(0, .aload_n 0, 1), (1, .invokespecial 3, 3), (4, .aload_n 0, 1), (5, .bipush (-9), 2), (7, .putfield 9, 3), (10, .aload_n 0, 1), (11, .bipush (-9), 2), (13, .putfield 15, 3), (16, .return_, 1)]
theorem dc_X3_init : ∀ q ∈ tb_X3_init, decode cX3_init q.1 = .ok q.2 := by decide +kernel
def tb_X3_readTests : List (Nat × Instr × Nat) := [(0, .aload_n 0, 1), (1, .aload_n 2, 1), (2, .getfield 18, 3), (5, .putfield 24, 3), (8, .aload_n 0, 1), (9, .aload_n 2, 1), (10, .getfield 27, 3), (13, .putfield 30, 3), (16, .aload_n 0, 1), (17, .bipush 40, 2), (19, .putfield 31, 3), (22, .aload_n 0, 1), (23, .iconst 1, 1), (24, .putfield 34, 3), (27, .aload_n 0, 1), (28, .aload_n 1, 1), (29, .invokevirtual 38, 3), (32, .ireturn, 1)]
theorem dc_X3_readTests : ∀ q ∈ tb_X3_readTests, decode cX3_readTests q.1 = .ok q.2 := by decide +kernel
def tb_X3_readAbsent : List (Nat × Instr × Nat) := [(0, .aload_n 0, 1), (1, .lconst 0, 1), (2, .putfield 24, 3), (5, .aload_n 0, 1), (6, .lconst 0, 1), (7, .putfield 30, 3), (10, .aload_n 0, 1), (11, .iload_n 2, 1), (12, .iconst 1, 1), (13, .isub, 1), (14, .putfield 31, 3), (17, .aload_n 0, 1), (18, .iconst 0, 1), (19, .putfield 34, 3), (22, .aload_n 0, 1), (23, .aload_n 1, 1), (24, .invokevirtual 38, 3), (27, .ireturn, 1)]
theorem dc_X3_readAbsent : ∀ q ∈ tb_X3_readAbsent, decode cX3_readAbsent q.1 = .ok q.2 := by decide +kernel
def tb_X3_read : List (Nat × Instr × Nat) := [(0, .aload_n 0, 1), (1, .iconst 0, 1), (2, .putfield 42, 3), (5, .iconst 0, 1), (6, .istore_n 2, 1), (7, .iload_n 2, 1), (8, .aload_n 1, 1), (9, .getfield 45, 3), (12, .if_icmp .ge 25, 3), (15, .aload_n 0, 1), (16, .aload_n 1, 1), (17, .getfield 50, 3), (20, .iload_n 2, 1), (21, .iaload, 1), (22, .iload_n 2, 1), (23, .invokevirtual 54, 3), (26, .ifCond .ne 5, 3), (29, .iconst 0, 1), (30, .ireturn, 1), (31, .iinc 2 1, 3), (34, .goto (-27), 3), (37, .aload_n 0, 1), (38, .aload_n 1, 1), (39, .getfield 45, 3), (42, .invokevirtual 58, 3), (45, .ireturn, 1)]
theorem dc_X3_read : ∀ q ∈ tb_X3_read, decode cX3_read q.1 = .ok q.2 := by decide +kernel
def tb_X3_take : List (Nat × Instr × Nat) := [(0, .iload_n 1, 1), (1, .bipush 48, 2), (3, .if_icmp .lt 13, 3), (6, .iload_n 1, 1), (7, .bipush 57, 2), (9, .if_icmp .gt 7, 3), (12, .iconst 1, 1), (13, .goto 4, 3), (16, .iconst 0, 1), (17, .istore_n 3, 1), (18, .aload_n 0, 1), (19, .invokevirtual 62, 3), (22, .ifCond .eq 23, 3), (25, .iload_n 3, 1), (26, .ifCond .eq 12, 3), (29, .aload_n 0, 1), (30, .iload_n 1, 1), (31, .iload_n 2, 1), (32, .invokevirtual 66, 3), (35, .goto 9, 3), (38, .aload_n 0, 1), (39, .iload_n 1, 1), (40, .iload_n 2, 1), (41, .invokevirtual 69, 3), (44, .ireturn, 1), (45, .iload_n 3, 1), (46, .ifCond .eq 19, 3), (49, .aload_n 0, 1), (50, .getfield 42, 3), (53, .iconst 4, 1), (54, .if_icmp .eq 11, 3), (57, .aload_n 0, 1), (58, .iload_n 1, 1), (59, .iload_n 2, 1), (60, .invokevirtual 72, 3), (63, .iconst 1, 1), (64, .ireturn, 1), (65, .iload_n 1, 1), (66, .bipush 32, 2), (68, .if_icmp .ne 18, 3), (71, .aload_n 0, 1), (72, .getfield 42, 3), (75, .iconst 2, 1), (76, .if_icmp .eq 10, 3), (79, .aload_n 0, 1), (80, .iconst 0, 1), (81, .putfield 42, 3), (84, .iconst 1, 1), (85, .ireturn, 1), (86, .aload_n 0, 1), (87, .iconst 1, 1), (88, .iload_n 2, 1), (89, .invokevirtual 76, 3), (92, .ireturn, 1)]
theorem dc_X3_take : ∀ q ∈ tb_X3_take, decode cX3_take q.1 = .ok q.2 := by decide +kernel
def tb_X3_inNumber : List (Nat × Instr × Nat) := [(0, .aload_n 0, 1), (1, .getfield 42, 3), (4, .iconst 1, 1), (5, .if_icmp .eq 11, 3), (8, .aload_n 0, 1), (9, .getfield 42, 3), (12, .iconst 3, 1), (13, .if_icmp .ne 7, 3), (16, .iconst 1, 1), (17, .goto 4, 3), (20, .iconst 0, 1), (21, .ireturn, 1)]
theorem dc_X3_inNumber : ∀ q ∈ tb_X3_inNumber, decode cX3_inNumber q.1 = .ok q.2 := by decide +kernel
def tb_X3_beginNumber : List (Nat × Instr × Nat) := [(0, .aload_n 0, 1), (1, .aload_n 0, 1), (2, .getfield 42, 3), (5, .iconst 2, 1), (6, .if_icmp .ne 7, 3), (9, .iconst 3, 1), (10, .goto 4, 3), (13, .iconst 1, 1), (14, .putfield 42, 3), (17, .aload_n 0, 1), (18, .iload_n 1, 1), (19, .bipush 48, 2), (21, .isub, 1), (22, .putfield 79, 3), (25, .aload_n 0, 1), (26, .iconst 1, 1), (27, .putfield 82, 3), (30, .aload_n 0, 1), (31, .iload_n 2, 1), (32, .putfield 85, 3), (35, .return_, 1)]
theorem dc_X3_beginNumber : ∀ q ∈ tb_X3_beginNumber, decode cX3_beginNumber q.1 = .ok q.2 := by decide +kernel
def tb_X3_takeDigit : List (Nat × Instr × Nat) := [(0, .aload_n 0, 1), (1, .getfield 82, 3), (4, .iconst 2, 1), (5, .if_icmp .ne 10, 3), (8, .aload_n 0, 1), (9, .iconst 1, 1), (10, .iload_n 2, 1), (11, .invokevirtual 76, 3), (14, .ireturn, 1), (15, .aload_n 0, 1), (16, .aload_n 0, 1), (17, .getfield 79, 3), (20, .bipush 10, 2), (22, .imul, 1), (23, .iload_n 1, 1), (24, .iadd, 1), (25, .bipush 48, 2), (27, .isub, 1), (28, .putfield 79, 3), (31, .aload_n 0, 1), (32, .iconst 2, 1), (33, .putfield 82, 3), (36, .iconst 1, 1), (37, .ireturn, 1)]
theorem dc_X3_takeDigit : ∀ q ∈ tb_X3_takeDigit, decode cX3_takeDigit q.1 = .ok q.2 := by decide +kernel
def tb_X3_takeBehindNumber : List (Nat × Instr × Nat) := [(0, .aload_n 0, 1), (1, .invokevirtual 88, 3), (4, .ifCond .ne 13, 3), (7, .aload_n 0, 1), (8, .iconst 2, 1), (9, .aload_n 0, 1), (10, .getfield 85, 3), (13, .invokevirtual 76, 3), (16, .ireturn, 1), (17, .iload_n 1, 1), (18, .bipush 32, 2), (20, .if_icmp .ne 15, 3), (23, .aload_n 0, 1), (24, .iconst 1, 1), (25, .invokevirtual 91, 3), (28, .aload_n 0, 1), (29, .iconst 0, 1), (30, .putfield 42, 3), (33, .iconst 1, 1), (34, .ireturn, 1), (35, .iload_n 1, 1), (36, .bipush 33, 2), (38, .if_icmp .ne 22, 3), (41, .aload_n 0, 1), (42, .getfield 34, 3), (45, .ifCond .eq 15, 3), (48, .aload_n 0, 1), (49, .iconst 0, 1), (50, .invokevirtual 91, 3), (53, .aload_n 0, 1), (54, .iconst 4, 1), (55, .putfield 42, 3), (58, .iconst 1, 1), (59, .ireturn, 1), (60, .iload_n 1, 1), (61, .bipush 45, 2), (63, .if_icmp .ne 33, 3), (66, .aload_n 0, 1), (67, .getfield 34, 3), (70, .ifCond .eq 26, 3), (73, .aload_n 0, 1), (74, .getfield 42, 3), (77, .iconst 1, 1), (78, .if_icmp .ne 18, 3), (81, .aload_n 0, 1), (82, .aload_n 0, 1), (83, .getfield 79, 3), (86, .putfield 95, 3), (89, .aload_n 0, 1), (90, .iconst 2, 1), (91, .putfield 42, 3), (94, .iconst 1, 1), (95, .ireturn, 1), (96, .aload_n 0, 1), (97, .iconst 1, 1), (98, .iload_n 2, 1), (99, .invokevirtual 76, 3), (102, .ireturn, 1)]
theorem dc_X3_takeBehindNumber : ∀ q ∈ tb_X3_takeBehindNumber, decode cX3_takeBehindNumber q.1 = .ok q.2 := by decide +kernel
def tb_X3_end : List (Nat × Instr × Nat) := [(0, .aload_n 0, 1), (1, .getfield 42, 3), (4, .iconst 2, 1), (5, .if_icmp .ne 10, 3), (8, .aload_n 0, 1), (9, .iconst 3, 1), (10, .iload_n 1, 1), (11, .invokevirtual 76, 3), (14, .ireturn, 1), (15, .aload_n 0, 1), (16, .invokevirtual 62, 3), (19, .ifCond .ne 5, 3), (22, .iconst 1, 1), (23, .ireturn, 1), (24, .aload_n 0, 1), (25, .invokevirtual 88, 3), (28, .ifCond .ne 13, 3), (31, .aload_n 0, 1), (32, .iconst 2, 1), (33, .aload_n 0, 1), (34, .getfield 85, 3), (37, .invokevirtual 76, 3), (40, .ireturn, 1), (41, .aload_n 0, 1), (42, .iconst 1, 1), (43, .invokevirtual 91, 3), (46, .iconst 1, 1), (47, .ireturn, 1)]
theorem dc_X3_end : ∀ q ∈ tb_X3_end, decode cX3_end q.1 = .ok q.2 := by decide +kernel
def tb_X3_numberStands : List (Nat × Instr × Nat) := [(0, .aload_n 0, 1), (1, .getfield 79, 3), (4, .aload_n 0, 1), (5, .getfield 31, 3), (8, .if_icmp .gt 26, 3), (11, .aload_n 0, 1), (12, .getfield 42, 3), (15, .iconst 1, 1), (16, .if_icmp .eq 14, 3), (19, .aload_n 0, 1), (20, .getfield 79, 3), (23, .aload_n 0, 1), (24, .getfield 95, 3), (27, .if_icmp .lt 7, 3), (30, .iconst 1, 1), (31, .goto 4, 3), (34, .iconst 0, 1), (35, .ireturn, 1)]
theorem dc_X3_numberStands : ∀ q ∈ tb_X3_numberStands, decode cX3_numberStands q.1 = .ok q.2 := by decide +kernel
def tb_X3_closeWord : List (Nat × Instr × Nat) := [(0, .aload_n 0, 1), (1, .getfield 42, 3), (4, .iconst 3, 1), (5, .if_icmp .ne 10, 3), (8, .aload_n 0, 1), (9, .getfield 95, 3), (12, .goto 7, 3), (15, .aload_n 0, 1), (16, .getfield 79, 3), (19, .istore_n 2, 1), (20, .lconst 1, 1), (21, .aload_n 0, 1), (22, .getfield 79, 3), (25, .iload_n 2, 1), (26, .isub, 1), (27, .iconst 1, 1), (28, .iadd, 1), (29, .lshl, 1), (30, .lconst 1, 1), (31, .lsub, 1), (32, .iload_n 2, 1), (33, .lshl, 1), (34, .lstore_n 3, 1), (35, .aload_n 0, 1), (36, .dup, 1), (37, .getfield 24, 3), (40, .lload_n 3, 1), (41, .lor, 1), (42, .putfield 24, 3), (45, .aload_n 0, 1), (46, .iload_n 1, 1), (47, .ifCond .eq 12, 3), (50, .aload_n 0, 1), (51, .getfield 30, 3), (54, .lload_n 3, 1), (55, .lor, 1), (56, .goto 13, 3), (59, .aload_n 0, 1), (60, .getfield 30, 3), (63, .lload_n 3, 1), (64, .ldc2_w 98, 3), (67, .lxor, 1), (68, .land, 1), (69, .putfield 30, 3), (72, .return_, 1)]
theorem dc_X3_closeWord : ∀ q ∈ tb_X3_closeWord, decode cX3_closeWord q.1 = .ok q.2 := by decide +kernel
def tb_X3_fail : List (Nat × Instr × Nat) := [(0, .aload_n 0, 1), (1, .iload_n 1, 1), (2, .putfield 9, 3), (5, .aload_n 0, 1), (6, .iload_n 2, 1), (7, .putfield 15, 3), (10, .iconst 0, 1), (11, .ireturn, 1)]
theorem dc_X3_fail : ∀ q ∈ tb_X3_fail, decode cX3_fail q.1 = .ok q.2 := by decide +kernel
def tb_X4_init : List (Nat × Instr × Nat) := [(0, .aload_n 0, 1), (1, .invokespecial 3, 3), (4, .aload_n 0, 1), (5, .bipush 10, 2), (7, .newarray .int, 2), (9, .putfield 9, 3), (12, .aload_n 0, 1), (13, .iconst 4, 1), (14, .newarray .int, 2), (16, .putfield 15, 3), (19, .aload_n 0, 1), (20, .iconst 4, 1), (21, .newarray .int, 2), (23, .putfield 18, 3), (26, .return_, 1)]
theorem dc_X4_init : ∀ q ∈ tb_X4_init, decode cX4_init q.1 = .ok q.2 := by decide +kernel
def tb_X4_plan : List (Nat × Instr × Nat) := [(0, .iconst 0, 1), (1, .istore_n 2, 1), (2, .iload_n 2, 1), (3, .bipush 10, 2), (5, .if_icmp .ge 17, 3), (8, .aload_n 0, 1), (9, .getfield 9, 3), (12, .iload_n 2, 1), (13, .bipush (-9), 2), (15, .iastore, 1), (16, .iinc 2 1, 3), (19, .goto (-17), 3), (22, .iconst 0, 1), (23, .istore_n 2, 1), (24, .iload_n 2, 1), (25, .iconst 4, 1), (26, .if_icmp .ge 20, 3), (29, .aload_n 0, 1), (30, .getfield 15, 3), (33, .iload_n 2, 1), (34, .aload_n 1, 1), (35, .iload_n 2, 1), (36, .invokevirtual 21, 3), (39, .iastore, 1), (40, .iinc 2 1, 3), (43, .goto (-19), 3), (46, .iconst 0, 1), (47, .istore_n 2, 1), (48, .iload_n 2, 1), (49, .iconst 4, 1), (50, .if_icmp .ge 15, 3), (53, .aload_n 0, 1), (54, .aload_n 1, 1), (55, .iload_n 2, 1), (56, .invokevirtual 27, 3), (59, .iinc 2 1, 3), (62, .goto (-14), 3), (65, .iconst 0, 1), (66, .istore_n 2, 1), (67, .iload_n 2, 1), (68, .iconst 4, 1), (69, .if_icmp .ge 21, 3), (72, .aload_n 0, 1), (73, .getfield 18, 3), (76, .iload_n 2, 1), (77, .aload_n 0, 1), (78, .aload_n 1, 1), (79, .iload_n 2, 1), (80, .invokevirtual 31, 3), (83, .iastore, 1), (84, .iinc 2 1, 3), (87, .goto (-20), 3), (90, .return_, 1)]
theorem dc_X4_plan : ∀ q ∈ tb_X4_plan, decode cX4_plan q.1 = .ok q.2 := by decide +kernel
def tb_X4_findStandIns : List (Nat × Instr × Nat) := [(0, .iconst 0, 1), (1, .istore_n 3, 1), (2, .iload_n 3, 1), (3, .aload_n 1, 1), (4, .getfield 35, 3), (7, .if_icmp .ge 79, 3), (10, .aload_n 1, 1), (11, .aload_n 0, 1), (12, .getfield 15, 3), (15, .iload_n 2, 1), (16, .iaload, 1), (17, .invokevirtual 39, 3), (20, .ifCond .ne 66, 3), (23, .aload_n 0, 1), (24, .aload_n 1, 1), (25, .iload_n 3, 1), (26, .iload_n 2, 1), (27, .invokevirtual 43, 3), (30, .ifCond .eq 50, 3), (33, .aload_n 1, 1), (34, .getfield 47, 3), (37, .iload_n 3, 1), (38, .aaload, 1), (39, .astore 4, 2), (41, .aload_n 0, 1), (42, .getfield 15, 3), (45, .aload 4, 2), (47, .getfield 51, 3), (50, .dup2, 1), (51, .iaload, 1), (52, .aload 4, 2), (54, .getfield 56, 3), (57, .isub, 1), (58, .iastore, 1), (59, .aload_n 0, 1), (60, .getfield 15, 3), (63, .iload_n 2, 1), (64, .dup2, 1), (65, .iaload, 1), (66, .aload 4, 2), (68, .getfield 56, 3), (71, .iadd, 1), (72, .iastore, 1), (73, .aload_n 0, 1), (74, .getfield 9, 3), (77, .iload_n 3, 1), (78, .iload_n 2, 1), (79, .iastore, 1), (80, .iinc 3 1, 3), (83, .goto (-81), 3), (86, .return_, 1)]
theorem dc_X4_findStandIns : ∀ q ∈ tb_X4_findStandIns, decode cX4_findStandIns q.1 = .ok q.2 := by decide +kernel
def tb_X4_canStandIn : List (Nat × Instr × Nat) := [(0, .aload_n 1, 1), (1, .getfield 47, 3), (4, .iload_n 2, 1), (5, .aaload, 1), (6, .astore 4, 2), (8, .aload 4, 2), (10, .getfield 58, 3), (13, .ifCond .eq 70, 3), (16, .aload 4, 2), (18, .getfield 51, 3), (21, .invokestatic 62, 3), (24, .ifCond .eq 59, 3), (27, .aload 4, 2), (29, .getfield 51, 3), (32, .iload_n 3, 1), (33, .if_icmp .eq 50, 3), (36, .aload_n 0, 1), (37, .getfield 9, 3), (40, .iload_n 2, 1), (41, .iaload, 1), (42, .bipush (-9), 2), (44, .if_icmp .ne 39, 3), (47, .aload_n 1, 1), (48, .iload_n 2, 1), (49, .iload_n 3, 1), (50, .invokevirtual 65, 3), (53, .ifCond .eq 30, 3), (56, .aload_n 1, 1), (57, .aload_n 0, 1), (58, .getfield 15, 3), (61, .aload 4, 2), (63, .getfield 51, 3), (66, .iaload, 1), (67, .aload 4, 2), (69, .getfield 56, 3), (72, .isub, 1), (73, .invokevirtual 39, 3), (76, .ifCond .eq 7, 3), (79, .iconst 1, 1), (80, .goto 4, 3), (83, .iconst 0, 1), (84, .ireturn, 1)]
theorem dc_X4_canStandIn : ∀ q ∈ tb_X4_canStandIn, decode cX4_canStandIn q.1 = .ok q.2 := by decide +kernel
def tb_X4_findSoloist : List (Nat × Instr × Nat) := [(0, .bipush (-9), 2), (2, .istore_n 3, 1), (3, .iconst 0, 1), (4, .istore 4, 2), (6, .iload 4, 2), (8, .aload_n 1, 1), (9, .getfield 35, 3), (12, .if_icmp .ge 91, 3), (15, .aload_n 1, 1), (16, .getfield 47, 3), (19, .iload 4, 2), (21, .aaload, 1), (22, .astore 5, 2), (24, .aload 5, 2), (26, .getfield 51, 3), (29, .iload_n 2, 1), (30, .if_icmp .ne 36, 3), (33, .aload 5, 2), (35, .getfield 58, 3), (38, .ifCond .eq 28, 3), (41, .aload_n 0, 1), (42, .getfield 9, 3), (45, .iload 4, 2), (47, .iaload, 1), (48, .bipush (-9), 2), (50, .if_icmp .ne 16, 3), (53, .aload_n 1, 1), (54, .aload 5, 2), (56, .invokevirtual 69, 3), (59, .ifCond .eq 7, 3), (62, .iconst 1, 1), (63, .goto 4, 3), (66, .iconst 0, 1), (67, .istore 6, 2), (69, .iload 6, 2), (71, .ifCond .eq 26, 3), (74, .iload_n 3, 1), (75, .bipush (-9), 2), (77, .if_icmp .eq 17, 3), (80, .aload 5, 2), (82, .aload_n 1, 1), (83, .getfield 47, 3), (86, .iload_n 3, 1), (87, .aaload, 1), (88, .invokevirtual 73, 3), (91, .ifCond .eq 6, 3), (94, .iload 4, 2), (96, .istore_n 3, 1), (97, .iinc 4 1, 3), (100, .goto (-94), 3), (103, .iload_n 3, 1), (104, .ireturn, 1)]
theorem dc_X4_findSoloist : ∀ q ∈ tb_X4_findSoloist, decode cX4_findSoloist q.1 = .ok q.2 := by decide +kernel
def tb_X4_happen_0 : List (Nat × Instr × Nat) := [(0, .iconst 0, 1), (1, .istore_n 2, 1), (2, .iconst 0, 1), (3, .istore_n 3, 1), (4, .iload_n 3, 1), (5, .iconst 4, 1), (6, .if_icmp .ge 103, 3), (9, .aload_n 1, 1), (10, .aload_n 0, 1), (11, .getfield 15, 3), (14, .iload_n 3, 1), (15, .iaload, 1), (16, .invokevirtual 39, 3), (19, .ifCond .ne 13, 3), (22, .aload_n 1, 1), (23, .getfield 76, 3), (26, .iload_n 3, 1), (27, .dup2, 1), (28, .iaload, 1), (29, .iconst 1, 1), (30, .iadd, 1), (31, .iastore, 1), (32, .aload_n 1, 1), (33, .getfield 79, 3), (36, .aload_n 1, 1), (37, .getfield 82, 3), (40, .iconst 4, 1), (41, .imul, 1), (42, .iload_n 3, 1), (43, .iadd, 1), (44, .aload_n 0, 1), (45, .getfield 18, 3), (48, .iload_n 3, 1), (49, .iaload, 1), (50, .iastore, 1), (51, .aload_n 0, 1), (52, .getfield 18, 3), (55, .iload_n 3, 1), (56, .iaload, 1), (57, .bipush (-9), 2), (59, .if_icmp .eq 44, 3), (62, .aload_n 1, 1), (63, .getfield 47, 3), (66, .aload_n 0, 1), (67, .getfield 18, 3), (70, .iload_n 3, 1), (71, .iaload, 1), (72, .aaload, 1), (73, .dup, 1), (74, .getfield 85, 3), (77, .iconst 1, 1), (78, .iadd, 1), (79, .putfield 85, 3), (82, .aload_n 1, 1), (83, .getfield 47, 3), (86, .aload_n 0, 1), (87, .getfield 18, 3), (90, .iload_n 3, 1), (91, .iaload, 1), (92, .aaload, 1)]
theorem dc_X4_happen_0 : ∀ q ∈ tb_X4_happen_0, decode cX4_happen q.1 = .ok q.2 := by decide +kernel
def tb_X4_happen_1 : List (Nat × Instr × Nat) := [(93, .aload_n 1, 1), (94, .getfield 82, 3), (97, .putfield 88, 3), (100, .iinc 2 1, 3), (103, .iinc 3 1, 3), (106, .goto (-102), 3), (109, .aload_n 1, 1), (110, .dup, 1), (111, .getfield 91, 3), (114, .iload_n 2, 1), (115, .iadd, 1), (116, .putfield 91, 3), (119, .iconst 0, 1), (120, .istore_n 3, 1), (121, .iload_n 3, 1), (122, .aload_n 1, 1), (123, .getfield 35, 3), (126, .if_icmp .ge 55, 3), (129, .aload_n 0, 1), (130, .getfield 9, 3), (133, .iload_n 3, 1), (134, .iaload, 1), (135, .bipush (-9), 2), (137, .if_icmp .eq 28, 3), (140, .aload_n 1, 1), (141, .getfield 47, 3), (144, .iload_n 3, 1), (145, .aaload, 1), (146, .dup, 1), (147, .getfield 92, 3), (150, .iconst 1, 1), (151, .iadd, 1), (152, .putfield 92, 3), (155, .aload_n 1, 1), (156, .dup, 1), (157, .getfield 95, 3), (160, .iconst 1, 1), (161, .iadd, 1), (162, .putfield 95, 3), (165, .aload_n 1, 1), (166, .getfield 47, 3), (169, .iload_n 3, 1), (170, .aaload, 1), (171, .iconst 1, 1), (172, .putfield 58, 3), (175, .iinc 3 1, 3), (178, .goto (-57), 3), (181, .aload_n 1, 1), (182, .dup, 1), (183, .getfield 82, 3), (186, .iconst 1, 1), (187, .iadd, 1), (188, .putfield 82, 3), (191, .iload_n 2, 1), (192, .ireturn, 1)]
theorem dc_X4_happen_1 : ∀ q ∈ tb_X4_happen_1, decode cX4_happen q.1 = .ok q.2 := by decide +kernel
def tb_X4_happen : List (Nat × Instr × Nat) := tb_X4_happen_0 ++ tb_X4_happen_1
theorem dc_X4_happen : ∀ q ∈ tb_X4_happen, decode cX4_happen q.1 = .ok q.2 := by
  intro q h
  simp only [tb_X4_happen, List.mem_append] at h
  rcases h with (h | h)
  · exact dc_X4_happen_0 q h
  · exact dc_X4_happen_1 q h
def tb_X5_init : List (Nat × Instr × Nat) := [(0, .aload_n 0, 1), (1, .invokespecial 3, 3), (4, .return_, 1)]
theorem dc_X5_init : ∀ q ∈ tb_X5_init, decode cX5_init q.1 = .ok q.2 := by decide +kernel
def tb_X5_begin : List (Nat × Instr × Nat) := [(0, .aload_n 0, 1), (1, .iload_n 1, 1), (2, .putfield 9, 3), (5, .aload_n 0, 1), (6, .iload_n 2, 1), (7, .putfield 15, 3), (10, .aload_n 0, 1), (11, .lconst 0, 1), (12, .lconst 0, 1), (13, .invokevirtual 18, 3), (16, .aload_n 0, 1), (17, .bipush (-9), 2), (19, .putfield 22, 3), (22, .aload_n 0, 1), (23, .iconst 1, 1), (24, .putfield 25, 3), (27, .aload_n 0, 1), (28, .iconst 0, 1), (29, .putfield 29, 3), (32, .aload_n 0, 1), (33, .bipush (-9), 2), (35, .putfield 32, 3), (38, .aload_n 0, 1), (39, .iconst 0, 1), (40, .putfield 35, 3), (43, .return_, 1)]
theorem dc_X5_begin : ∀ q ∈ tb_X5_begin, decode cX5_begin q.1 = .ok q.2 := by decide +kernel
def tb_X5_copyFrom : List (Nat × Instr × Nat) := [(0, .aload_n 0, 1), (1, .aload_n 1, 1), (2, .getfield 9, 3), (5, .putfield 9, 3), (8, .aload_n 0, 1), (9, .aload_n 1, 1), (10, .getfield 15, 3), (13, .putfield 15, 3), (16, .aload_n 0, 1), (17, .aload_n 1, 1), (18, .getfield 38, 3), (21, .putfield 38, 3), (24, .aload_n 0, 1), (25, .aload_n 1, 1), (26, .getfield 42, 3), (29, .putfield 42, 3), (32, .aload_n 0, 1), (33, .aload_n 1, 1), (34, .getfield 45, 3), (37, .putfield 45, 3), (40, .aload_n 0, 1), (41, .aload_n 1, 1), (42, .getfield 48, 3), (45, .putfield 48, 3), (48, .aload_n 0, 1), (49, .aload_n 1, 1), (50, .getfield 22, 3), (53, .putfield 22, 3), (56, .aload_n 0, 1), (57, .aload_n 1, 1), (58, .getfield 25, 3), (61, .putfield 25, 3), (64, .aload_n 0, 1), (65, .aload_n 1, 1), (66, .getfield 29, 3), (69, .putfield 29, 3), (72, .aload_n 0, 1), (73, .aload_n 1, 1), (74, .getfield 32, 3), (77, .putfield 32, 3), (80, .aload_n 0, 1), (81, .aload_n 1, 1), (82, .getfield 35, 3), (85, .putfield 35, 3), (88, .return_, 1)]
theorem dc_X5_copyFrom : ∀ q ∈ tb_X5_copyFrom, decode cX5_copyFrom q.1 = .ok q.2 := by decide +kernel
def tb_X5_learn : List (Nat × Instr × Nat) := [(0, .aload_n 0, 1), (1, .lload_n 1, 1), (2, .putfield 38, 3), (5, .aload_n 0, 1), (6, .lload_n 3, 1), (7, .putfield 42, 3), (10, .aload_n 0, 1), (11, .iconst 0, 1), (12, .putfield 45, 3), (15, .aload_n 0, 1), (16, .iconst 0, 1), (17, .putfield 48, 3), (20, .iconst 0, 1), (21, .istore 5, 2), (23, .iconst 0, 1), (24, .istore 6, 2), (26, .iload 6, 2), (28, .bipush 41, 2), (30, .if_icmp .ge 57, 3), (33, .aload_n 0, 1), (34, .getfield 42, 3), (37, .iload 6, 2), (39, .invokestatic 51, 3), (42, .ifCond .eq 10, 3), (45, .iload 5, 2), (47, .iconst 1, 1), (48, .iadd, 1), (49, .goto 4, 3), (52, .iconst 0, 1), (53, .istore 5, 2), (55, .iload 5, 2), (57, .aload_n 0, 1), (58, .getfield 48, 3), (61, .if_icmp .le 20, 3), (64, .aload_n 0, 1), (65, .iload 5, 2), (67, .putfield 48, 3), (70, .aload_n 0, 1), (71, .iload 6, 2), (73, .iload 5, 2), (75, .isub, 1), (76, .iconst 1, 1), (77, .iadd, 1), (78, .putfield 45, 3), (81, .iinc 6 1, 3), (84, .goto (-58), 3), (87, .return_, 1)]
theorem dc_X5_learn : ∀ q ∈ tb_X5_learn, decode cX5_learn q.1 = .ok q.2 := by decide +kernel
def tb_X5_notesIn : List (Nat × Instr × Nat) := [(0, .aload_n 0, 1), (1, .getfield 45, 3), (4, .getstatic 55, 3), (7, .iload_n 1, 1), (8, .iaload, 1), (9, .invokestatic 59, 3), (12, .istore_n 2, 1), (13, .aload_n 0, 1), (14, .getfield 45, 3), (17, .aload_n 0, 1), (18, .getfield 48, 3), (21, .iadd, 1), (22, .getstatic 55, 3), (25, .iload_n 1, 1), (26, .iaload, 1), (27, .bipush 15, 2), (29, .iadd, 1), (30, .invokestatic 65, 3), (33, .istore_n 3, 1), (34, .iconst 0, 1), (35, .iload_n 3, 1), (36, .iload_n 2, 1), (37, .isub, 1), (38, .invokestatic 59, 3), (41, .ireturn, 1)]
theorem dc_X5_notesIn : ∀ q ∈ tb_X5_notesIn, decode cX5_notesIn q.1 = .ok q.2 := by decide +kernel
def tb_X5_sitsBefore : List (Nat × Instr × Nat) := [(0, .aload_n 0, 1), (1, .getfield 15, 3), (4, .aload_n 1, 1), (5, .getfield 15, 3), (8, .if_icmp .lt 18, 3), (11, .aload_n 0, 1), (12, .getfield 15, 3), (15, .aload_n 1, 1), (16, .getfield 15, 3), (19, .if_icmp .ne 11, 3), (22, .iload_n 2, 1), (23, .ifCond .eq 7, 3), (26, .iconst 1, 1), (27, .goto 4, 3), (30, .iconst 0, 1), (31, .ireturn, 1)]
theorem dc_X5_sitsBefore : ∀ q ∈ tb_X5_sitsBefore, decode cX5_sitsBefore q.1 = .ok q.2 := by decide +kernel
def tb_X5_singsBefore : List (Nat × Instr × Nat) := [(0, .aload_n 0, 1), (1, .getfield 29, 3), (4, .aload_n 1, 1), (5, .getfield 29, 3), (8, .if_icmp .lt 25, 3), (11, .aload_n 0, 1), (12, .getfield 29, 3), (15, .aload_n 1, 1), (16, .getfield 29, 3), (19, .if_icmp .ne 18, 3), (22, .aload_n 0, 1), (23, .getfield 32, 3), (26, .aload_n 1, 1), (27, .getfield 32, 3), (30, .if_icmp .ge 7, 3), (33, .iconst 1, 1), (34, .goto 4, 3), (37, .iconst 0, 1), (38, .ireturn, 1)]
theorem dc_X5_singsBefore : ∀ q ∈ tb_X5_singsBefore, decode cX5_singsBefore q.1 = .ok q.2 := by decide +kernel
def tb_X6_init : List (Nat × Instr × Nat) := [(0, .aload_n 0, 1), (1, .invokespecial 3, 3), (4, .aload_n 0, 1), (5, .sipush 1024, 3), (8, .newarray .long, 2), (10, .putfield 9, 3), (13, .aload_n 0, 1), (14, .sipush 1024, 3), (17, .newarray .long, 2), (19, .putfield 15, 3), (22, .aload_n 0, 1), (23, .getfield 9, 3), (26, .iconst 0, 1), (27, .lconst 1, 1), (28, .lastore, 1), (29, .return_, 1)]
theorem dc_X6_init : ∀ q ∈ tb_X6_init, decode cX6_init q.1 = .ok q.2 := by decide +kernel
def tb_X6_addVoice : List (Nat × Instr × Nat) := [(0, .iconst 1, 1), (1, .iload_n 1, 1), (2, .ishl, 1), (3, .istore 5, 2), (5, .iconst 0, 1), (6, .istore 6, 2), (8, .iload 6, 2), (10, .iload 5, 2), (12, .if_icmp .ge 114, 3), (15, .iload 4, 2), (17, .ifCond .eq 13, 3), (20, .aload_n 0, 1), (21, .getfield 9, 3), (24, .iload 6, 2), (26, .laload, 1), (27, .goto 4, 3), (30, .lconst 0, 1), (31, .lstore 7, 2), (33, .iload 4, 2), (35, .ifCond .eq 13, 3), (38, .aload_n 0, 1), (39, .getfield 15, 3), (42, .iload 6, 2), (44, .laload, 1), (45, .goto 4, 3), (48, .lconst 0, 1), (49, .lstore 9, 2), (51, .iload_n 3, 1), (52, .ifCond .eq 44, 3), (55, .lload 7, 2), (57, .aload_n 0, 1), (58, .getfield 9, 3), (61, .iload 6, 2), (63, .laload, 1), (64, .iload_n 2, 1), (65, .lshl, 1), (66, .lor, 1), (67, .lstore 7, 2), (69, .lload 9, 2), (71, .aload_n 0, 1), (72, .getfield 15, 3), (75, .iload 6, 2), (77, .laload, 1), (78, .iload_n 2, 1), (79, .lshl, 1), (80, .aload_n 0, 1), (81, .getfield 9, 3), (84, .iload 6, 2), (86, .laload, 1), (87, .bipush 64, 2), (89, .iload_n 2, 1), (90, .isub, 1), (91, .lushr, 1), (92, .lor, 1), (93, .lor, 1), (94, .lstore 9, 2), (96, .aload_n 0, 1), (97, .getfield 9, 3), (100, .iload 5, 2), (102, .iload 6, 2), (104, .ior, 1), (105, .lload 7, 2), (107, .lastore, 1), (108, .aload_n 0, 1), (109, .getfield 15, 3), (112, .iload 5, 2), (114, .iload 6, 2), (116, .ior, 1), (117, .lload 9, 2), (119, .lastore, 1), (120, .iinc 6 1, 3), (123, .goto (-115), 3), (126, .return_, 1)]
theorem dc_X6_addVoice : ∀ q ∈ tb_X6_addVoice, decode cX6_addVoice q.1 = .ok q.2 := by decide +kernel
def tb_X6_evenest : List (Nat × Instr × Nat) := [(0, .aload_n 0, 1), (1, .getfield 9, 3), (4, .iload_n 1, 1), (5, .laload, 1), (6, .aload_n 0, 1), (7, .getfield 15, 3), (10, .iload_n 1, 1), (11, .laload, 1), (12, .lor, 1), (13, .lconst 0, 1), (14, .lcmp, 1), (15, .ifCond .ne 5, 3), (18, .iconst (-1), 1), (19, .ireturn, 1), (20, .iload_n 2, 1), (21, .iconst 2, 1), (22, .idiv, 1), (23, .istore_n 3, 1), (24, .iload_n 3, 1), (25, .ifCond .lt 31, 3), (28, .aload_n 0, 1), (29, .iload_n 1, 1), (30, .iload_n 3, 1), (31, .invokevirtual 18, 3), (34, .ifCond .ne 14, 3), (37, .aload_n 0, 1), (38, .iload_n 1, 1), (39, .iload_n 2, 1), (40, .iload_n 3, 1), (41, .isub, 1), (42, .invokevirtual 18, 3), (45, .ifCond .eq 5, 3), (48, .iload_n 3, 1), (49, .ireturn, 1), (50, .iinc 3 (-1), 3), (53, .goto (-29), 3), (56, .iconst (-1), 1), (57, .ireturn, 1)]
theorem dc_X6_evenest : ∀ q ∈ tb_X6_evenest, decode cX6_evenest q.1 = .ok q.2 := by decide +kernel
def tb_X6_gives : List (Nat × Instr × Nat) := [(0, .iload_n 2, 1), (1, .bipush 64, 2), (3, .if_icmp .ge 16, 3), (6, .aload_n 0, 1), (7, .getfield 9, 3), (10, .iload_n 1, 1), (11, .laload, 1), (12, .iload_n 2, 1), (13, .invokestatic 22, 3), (16, .goto 16, 3), (19, .aload_n 0, 1), (20, .getfield 15, 3), (23, .iload_n 1, 1), (24, .laload, 1), (25, .iload_n 2, 1), (26, .bipush 64, 2), (28, .isub, 1), (29, .invokestatic 22, 3), (32, .ireturn, 1)]
theorem dc_X6_gives : ∀ q ∈ tb_X6_gives, decode cX6_gives q.1 = .ok q.2 := by decide +kernel
def tb_X6_reaches : List (Nat × Instr × Nat) := [(0, .aload_n 0, 1), (1, .getfield 9, 3), (4, .iload_n 1, 1), (5, .laload, 1), (6, .iload_n 2, 1), (7, .iload_n 3, 1), (8, .invokestatic 26, 3), (11, .land, 1), (12, .lconst 0, 1), (13, .lcmp, 1), (14, .ifCond .ne 26, 3), (17, .aload_n 0, 1), (18, .getfield 15, 3), (21, .iload_n 1, 1), (22, .laload, 1), (23, .iload_n 2, 1), (24, .bipush 64, 2), (26, .isub, 1), (27, .iload_n 3, 1), (28, .bipush 64, 2), (30, .isub, 1), (31, .invokestatic 26, 3), (34, .land, 1), (35, .lconst 0, 1), (36, .lcmp, 1), (37, .ifCond .eq 7, 3), (40, .iconst 1, 1), (41, .goto 4, 3), (44, .iconst 0, 1), (45, .ireturn, 1)]
theorem dc_X6_reaches : ∀ q ∈ tb_X6_reaches, decode cX6_reaches q.1 = .ok q.2 := by decide +kernel
def tb_X6_bits : List (Nat × Instr × Nat) := [(0, .iload_n 0, 1), (1, .ifCond .le 7, 3), (4, .iload_n 0, 1), (5, .goto 4, 3), (8, .iconst 0, 1), (9, .istore_n 2, 1), (10, .iload_n 1, 1), (11, .bipush 63, 2), (13, .if_icmp .ge 7, 3), (16, .iload_n 1, 1), (17, .goto 5, 3), (20, .bipush 63, 2), (22, .istore_n 3, 1), (23, .iload_n 2, 1), (24, .iload_n 3, 1), (25, .if_icmp .le 7, 3), (28, .lconst 0, 1), (29, .goto 15, 3), (32, .ldc2_w 30, 3), (35, .bipush 63, 2), (37, .iload_n 3, 1), (38, .iload_n 2, 1), (39, .isub, 1), (40, .isub, 1), (41, .lushr, 1), (42, .iload_n 2, 1), (43, .lshl, 1), (44, .lreturn, 1)]
theorem dc_X6_bits : ∀ q ∈ tb_X6_bits, decode cX6_bits q.1 = .ok q.2 := by decide +kernel
def tb_X7_init : List (Nat × Instr × Nat) := [(0, .aload_n 0, 1), (1, .invokespecial 3, 3), (4, .aload_n 0, 1), (5, .bipush 60, 2), (7, .newarray .int, 2), (9, .putfield 9, 3), (12, .return_, 1)]
theorem dc_X7_init : ∀ q ∈ tb_X7_init, decode cX7_init q.1 = .ok q.2 := by decide +kernel
def tb_X8_init : List (Nat × Instr × Nat) := [(0, .aload_n 0, 1), (1, .invokespecial 1, 3), (4, .aload_n 0, 1), (5, .new 7, 3), (8, .dup, 1), (9, .invokespecial 9, 3), (12, .putfield 10, 3), (15, .aload_n 0, 1), (16, .new 16, 3), (19, .dup, 1), (20, .invokespecial 18, 3), (23, .putfield 19, 3), (26, .aload_n 0, 1), (27, .iconst 2, 1), (28, .anewarray 7, 3), (31, .putfield 23, 3), (34, .iconst 0, 1), (35, .istore_n 1, 1), (36, .iload_n 1, 1), (37, .iconst 2, 1), (38, .if_icmp .ge 22, 3), (41, .aload_n 0, 1), (42, .getfield 23, 3), (45, .iload_n 1, 1), (46, .new 7, 3), (49, .dup, 1), (50, .invokespecial 9, 3), (53, .aastore, 1), (54, .iinc 1 1, 3), (57, .goto (-21), 3), (60, .aload_n 0, 1), (61, .iconst 2, 1), (62, .newarray .boolean, 2), (64, .putfield 27, 3), (67, .aload_n 0, 1), (68, .new 31, 3), (71, .dup, 1), (72, .invokespecial 33, 3), (75, .putfield 34, 3), (78, .aload_n 0, 1), (79, .new 38, 3), (82, .dup, 1), (83, .invokespecial 40, 3), (86, .putfield 41, 3), (89, .aload_n 0, 1), (90, .new 45, 3), (93, .dup, 1), (94, .invokespecial 47, 3), (97, .putfield 48, 3), (100, .aload_n 0, 1), (101, .new 52, 3), (104, .dup, 1), (105, .invokespecial 54, 3), (108, .putfield 55, 3), (111, .return_, 1)]
theorem dc_X8_init : ∀ q ∈ tb_X8_init, decode cX8_init q.1 = .ok q.2 := by decide +kernel
def tb_X8_add : List (Nat × Instr × Nat) := [(0, .iload_n 1, 1), (1, .iconst 1, 1), (2, .if_icmp .lt 22, 3), (5, .iload_n 1, 1), (6, .bipush 9, 2), (8, .if_icmp .gt 16, 3), (11, .iload_n 2, 1), (12, .bipush 100, 2), (14, .if_icmp .lt 10, 3), (17, .iload_n 2, 1), (18, .sipush 220, 3), (21, .if_icmp .le 5, 3), (24, .iconst (-1), 1), (25, .ireturn, 1), (26, .aload_n 0, 1), (27, .getfield 10, 3), (30, .getfield 59, 3), (33, .bipush 10, 2), (35, .if_icmp .lt 6, 3), (38, .bipush (-3), 2), (40, .ireturn, 1), (41, .aload_n 0, 1), (42, .getfield 19, 3), (45, .aload_n 0, 1), (46, .getfield 10, 3), (49, .invokevirtual 63, 3), (52, .aload_n 0, 1), (53, .getfield 10, 3), (56, .iload_n 1, 1), (57, .iload_n 2, 1), (58, .invokevirtual 67, 3), (61, .aload_n 0, 1), (62, .getfield 10, 3), (65, .getfield 59, 3), (68, .iconst 1, 1), (69, .isub, 1), (70, .ireturn, 1)]
theorem dc_X8_add : ∀ q ∈ tb_X8_add, decode cX8_add q.1 = .ok q.2 := by decide +kernel
def tb_X8_remove : List (Nat × Instr × Nat) := [(0, .aload_n 0, 1), (1, .getfield 10, 3), (4, .iload_n 1, 1), (5, .invokevirtual 71, 3), (8, .ifCond .ne 5, 3), (11, .iconst (-1), 1), (12, .ireturn, 1), (13, .aload_n 0, 1), (14, .getfield 19, 3), (17, .aload_n 0, 1), (18, .getfield 10, 3), (21, .invokevirtual 63, 3), (24, .aload_n 0, 1), (25, .getfield 10, 3), (28, .iload_n 1, 1), (29, .invokevirtual 75, 3), (32, .aload_n 0, 1), (33, .getfield 10, 3), (36, .getfield 59, 3), (39, .ireturn, 1)]
theorem dc_X8_remove : ∀ q ∈ tb_X8_remove, decode cX8_remove q.1 = .ok q.2 := by decide +kernel
def tb_X8_set : List (Nat × Instr × Nat) := [(0, .iload_n 1, 1), (1, .invokestatic 79, 3), (4, .ifCond .eq 21, 3), (7, .iload_n 2, 1), (8, .getstatic 82, 3), (11, .iload_n 1, 1), (12, .iaload, 1), (13, .if_icmp .lt 12, 3), (16, .iload_n 2, 1), (17, .getstatic 86, 3), (20, .iload_n 1, 1), (21, .iaload, 1), (22, .if_icmp .le 5, 3), (25, .iconst (-1), 1), (26, .ireturn, 1), (27, .aload_n 0, 1), (28, .getfield 19, 3), (31, .aload_n 0, 1), (32, .getfield 10, 3), (35, .invokevirtual 63, 3), (38, .aload_n 0, 1), (39, .getfield 10, 3), (42, .getfield 89, 3), (45, .iload_n 1, 1), (46, .iaload, 1), (47, .istore_n 3, 1), (48, .aload_n 0, 1), (49, .getfield 10, 3), (52, .getfield 89, 3), (55, .iload_n 1, 1), (56, .iload_n 2, 1), (57, .iastore, 1), (58, .iload_n 3, 1), (59, .ireturn, 1)]
theorem dc_X8_set : ∀ q ∈ tb_X8_set, decode cX8_set q.1 = .ok q.2 := by decide +kernel
def tb_X8_test : List (Nat × Instr × Nat) := [(0, .aload_n 0, 1), (1, .getfield 10, 3), (4, .iload_n 1, 1), (5, .invokevirtual 71, 3), (8, .ifCond .ne 5, 3), (11, .iconst (-1), 1), (12, .ireturn, 1), (13, .aload_n 0, 1), (14, .getfield 10, 3), (17, .getfield 92, 3), (20, .iload_n 1, 1), (21, .aaload, 1), (22, .astore_n 2, 1), (23, .aload_n 0, 1), (24, .getfield 41, 3), (27, .aload_n 0, 1), (28, .getfield 34, 3), (31, .aload_n 2, 1), (32, .invokevirtual 96, 3), (35, .ifCond .ne 6, 3), (38, .bipush (-2), 2), (40, .ireturn, 1), (41, .aload_n 0, 1), (42, .getfield 19, 3), (45, .aload_n 0, 1), (46, .getfield 10, 3), (49, .invokevirtual 63, 3), (52, .aload_n 2, 1), (53, .aload_n 0, 1), (54, .getfield 41, 3), (57, .getfield 100, 3), (60, .aload_n 0, 1), (61, .getfield 41, 3), (64, .getfield 104, 3), (67, .invokevirtual 107, 3), (70, .aload_n 2, 1), (71, .getfield 113, 3), (74, .ireturn, 1)]
theorem dc_X8_test : ∀ q ∈ tb_X8_test, decode cX8_test q.1 = .ok q.2 := by decide +kernel
def tb_X8_place : List (Nat × Instr × Nat) := [(0, .aload_n 0, 1), (1, .getfield 10, 3), (4, .iload_n 1, 1), (5, .invokevirtual 71, 3), (8, .ifCond .eq 16, 3), (11, .iload_n 2, 1), (12, .invokestatic 116, 3), (15, .ifCond .ne 11, 3), (18, .iload_n 2, 1), (19, .bipush (-9), 2), (21, .if_icmp .eq 5, 3), (24, .iconst (-1), 1), (25, .ireturn, 1), (26, .iload_n 2, 1), (27, .bipush (-9), 2), (29, .if_icmp .eq 18, 3), (32, .aload_n 0, 1), (33, .getfield 10, 3), (36, .iload_n 1, 1), (37, .iload_n 2, 1), (38, .invokevirtual 119, 3), (41, .ifCond .ne 6, 3), (44, .bipush (-2), 2), (46, .ireturn, 1), (47, .aload_n 0, 1), (48, .getfield 19, 3), (51, .aload_n 0, 1), (52, .getfield 10, 3), (55, .invokevirtual 63, 3), (58, .aload_n 0, 1), (59, .getfield 10, 3), (62, .getfield 92, 3), (65, .iload_n 1, 1), (66, .aaload, 1), (67, .getfield 123, 3), (70, .istore_n 3, 1), (71, .aload_n 0, 1), (72, .getfield 10, 3), (75, .getfield 92, 3), (78, .iload_n 1, 1), (79, .aaload, 1), (80, .iload_n 2, 1), (81, .putfield 123, 3), (84, .iload_n 3, 1), (85, .ireturn, 1)]
theorem dc_X8_place : ∀ q ∈ tb_X8_place, decode cX8_place q.1 = .ok q.2 := by decide +kernel
def tb_X8_placeAll : List (Nat × Instr × Nat) := [(0, .aload_n 0, 1), (1, .getfield 19, 3), (4, .aload_n 0, 1), (5, .getfield 10, 3), (8, .invokevirtual 63, 3), (11, .aload_n 0, 1), (12, .getfield 55, 3), (15, .aload_n 0, 1), (16, .getfield 10, 3), (19, .iconst (-1), 1), (20, .invokevirtual 126, 3), (23, .aload_n 0, 1), (24, .getfield 55, 3), (27, .aload_n 0, 1), (28, .getfield 10, 3), (31, .invokevirtual 130, 3), (34, .aload_n 0, 1), (35, .getfield 55, 3), (38, .getfield 133, 3), (41, .ireturn, 1)]
theorem dc_X8_placeAll : ∀ q ∈ tb_X8_placeAll, decode cX8_placeAll q.1 = .ok q.2 := by decide +kernel
def tb_X8_attendance : List (Nat × Instr × Nat) := [(0, .aload_n 0, 1), (1, .getfield 41, 3), (4, .aload_n 0, 1), (5, .getfield 34, 3), (8, .aload_n 0, 1), (9, .getfield 10, 3), (12, .getfield 59, 3), (15, .invokevirtual 136, 3), (18, .ifCond .ne 6, 3), (21, .bipush (-2), 2), (23, .ireturn, 1), (24, .aload_n 0, 1), (25, .getfield 19, 3), (28, .aload_n 0, 1), (29, .getfield 10, 3), (32, .invokevirtual 63, 3), (35, .iconst 0, 1), (36, .istore_n 1, 1), (37, .iload_n 1, 1), (38, .aload_n 0, 1), (39, .getfield 10, 3), (42, .getfield 59, 3), (45, .if_icmp .ge 40, 3), (48, .aload_n 0, 1), (49, .getfield 10, 3), (52, .getfield 92, 3), (55, .iload_n 1, 1), (56, .aaload, 1), (57, .aload_n 0, 1), (58, .getfield 41, 3), (61, .getfield 100, 3), (64, .iload_n 1, 1), (65, .invokestatic 140, 3), (68, .ifCond .ne 7, 3), (71, .iconst 1, 1), (72, .goto 4, 3), (75, .iconst 0, 1), (76, .putfield 144, 3), (79, .iinc 1 1, 3), (82, .goto (-45), 3), (85, .aload_n 0, 1), (86, .getfield 10, 3), (89, .invokevirtual 148, 3), (92, .ireturn, 1)]
theorem dc_X8_attendance : ∀ q ∈ tb_X8_attendance, decode cX8_attendance q.1 = .ok q.2 := by decide +kernel
def tb_X8_hold : List (Nat × Instr × Nat) := [(0, .aload_n 0, 1), (1, .getfield 10, 3), (4, .getfield 59, 3), (7, .ifCond .ne 6, 3), (10, .bipush (-2), 2), (12, .ireturn, 1), (13, .aload_n 0, 1), (14, .getfield 10, 3), (17, .getfield 152, 3), (20, .bipush 40, 2), (22, .if_icmp .lt 6, 3), (25, .bipush (-3), 2), (27, .ireturn, 1), (28, .aload_n 0, 1), (29, .getfield 19, 3), (32, .aload_n 0, 1), (33, .getfield 10, 3), (36, .invokevirtual 63, 3), (39, .aload_n 0, 1), (40, .getfield 48, 3), (43, .aload_n 0, 1), (44, .getfield 10, 3), (47, .invokevirtual 155, 3), (50, .aload_n 0, 1), (51, .getfield 48, 3), (54, .aload_n 0, 1), (55, .getfield 10, 3), (58, .invokevirtual 158, 3), (61, .ireturn, 1)]
theorem dc_X8_hold : ∀ q ∈ tb_X8_hold, decode cX8_hold q.1 = .ok q.2 := by decide +kernel
def tb_X8_undo : List (Nat × Instr × Nat) := [(0, .aload_n 0, 1), (1, .getfield 19, 3), (4, .getfield 162, 3), (7, .ifCond .ne 6, 3), (10, .bipush (-2), 2), (12, .ireturn, 1), (13, .aload_n 0, 1), (14, .getfield 19, 3), (17, .aload_n 0, 1), (18, .getfield 10, 3), (21, .invokevirtual 165, 3), (24, .aload_n 0, 1), (25, .getfield 19, 3), (28, .getfield 162, 3), (31, .ireturn, 1)]
theorem dc_X8_undo : ∀ q ∈ tb_X8_undo, decode cX8_undo q.1 = .ok q.2 := by decide +kernel
def tb_X8_write : List (Nat × Instr × Nat) := [(0, .iload_n 1, 1), (1, .bipush 32, 2), (3, .if_icmp .lt 9, 3), (6, .iload_n 1, 1), (7, .bipush 126, 2), (9, .if_icmp .le 5, 3), (12, .iconst (-1), 1), (13, .ireturn, 1), (14, .aload_n 0, 1), (15, .getfield 34, 3), (18, .getfield 168, 3), (21, .bipush 60, 2), (23, .if_icmp .lt 6, 3), (26, .bipush (-3), 2), (28, .ireturn, 1), (29, .aload_n 0, 1), (30, .getfield 34, 3), (33, .getfield 171, 3), (36, .aload_n 0, 1), (37, .getfield 34, 3), (40, .getfield 168, 3), (43, .iload_n 1, 1), (44, .iastore, 1), (45, .aload_n 0, 1), (46, .getfield 34, 3), (49, .dup, 1), (50, .getfield 168, 3), (53, .iconst 1, 1), (54, .iadd, 1), (55, .putfield 168, 3), (58, .aload_n 0, 1), (59, .getfield 34, 3), (62, .getfield 168, 3), (65, .ireturn, 1)]
theorem dc_X8_write : ∀ q ∈ tb_X8_write, decode cX8_write q.1 = .ok q.2 := by decide +kernel
def tb_X8_wipe : List (Nat × Instr × Nat) := [(0, .aload_n 0, 1), (1, .getfield 34, 3), (4, .getfield 168, 3), (7, .istore_n 1, 1), (8, .aload_n 0, 1), (9, .getfield 34, 3), (12, .iconst 0, 1), (13, .putfield 168, 3), (16, .iload_n 1, 1), (17, .ireturn, 1)]
theorem dc_X8_wipe : ∀ q ∈ tb_X8_wipe, decode cX8_wipe q.1 = .ok q.2 := by decide +kernel
def tb_X8_told : List (Nat × Instr × Nat) := [(0, .iload_n 1, 1), (1, .tableswitch 123 0 8 #[51, 59, 67, 75, 83, 91, 99, 107, 115], 51), (52, .aload_n 0, 1), (53, .getfield 10, 3), (56, .getfield 59, 3), (59, .ireturn, 1), (60, .aload_n 0, 1), (61, .getfield 10, 3), (64, .invokevirtual 180, 3), (67, .ireturn, 1), (68, .aload_n 0, 1), (69, .getfield 10, 3), (72, .getfield 152, 3), (75, .ireturn, 1), (76, .aload_n 0, 1), (77, .getfield 10, 3), (80, .invokevirtual 148, 3), (83, .ireturn, 1), (84, .aload_n 0, 1), (85, .getfield 10, 3), (88, .invokevirtual 183, 3), (91, .ireturn, 1), (92, .aload_n 0, 1), (93, .getfield 10, 3), (96, .getfield 186, 3), (99, .ireturn, 1), (100, .aload_n 0, 1), (101, .getfield 10, 3), (104, .getfield 189, 3), (107, .ireturn, 1), (108, .aload_n 0, 1), (109, .getfield 34, 3), (112, .getfield 168, 3), (115, .ireturn, 1), (116, .aload_n 0, 1), (117, .getfield 19, 3), (120, .getfield 162, 3), (123, .ireturn, 1), (124, .iconst (-1), 1), (125, .ireturn, 1)]
theorem dc_X8_told : ∀ q ∈ tb_X8_told, decode cX8_told q.1 = .ok q.2 := by decide +kernel
def tb_X8_setting : List (Nat × Instr × Nat) := [(0, .iload_n 1, 1), (1, .invokestatic 79, 3), (4, .ifCond .eq 15, 3), (7, .aload_n 0, 1), (8, .getfield 10, 3), (11, .getfield 89, 3), (14, .iload_n 1, 1), (15, .iaload, 1), (16, .goto 4, 3), (19, .iconst (-1), 1), (20, .ireturn, 1)]
theorem dc_X8_setting : ∀ q ∈ tb_X8_setting, decode cX8_setting q.1 = .ok q.2 := by decide +kernel
def tb_X8_singer : List (Nat × Instr × Nat) := [(0, .aload_n 0, 1), (1, .getfield 10, 3), (4, .iload_n 1, 1), (5, .invokevirtual 71, 3), (8, .ifCond .ne 5, 3), (11, .iconst (-1), 1), (12, .ireturn, 1), (13, .aload_n 0, 1), (14, .getfield 10, 3), (17, .getfield 92, 3), (20, .iload_n 1, 1), (21, .aaload, 1), (22, .astore_n 3, 1), (23, .iload_n 2, 1), (24, .tableswitch 149 0 9 #[56, 61, 66, 83, 107, 116, 121, 134, 139, 144], 56), (80, .aload_n 3, 1), (81, .getfield 192, 3), (84, .ireturn, 1), (85, .aload_n 3, 1), (86, .getfield 195, 3), (89, .ireturn, 1), (90, .aload_n 3, 1), (91, .getfield 113, 3), (94, .ifCond .ne 8, 3), (97, .bipush (-9), 2), (99, .goto 7, 3), (102, .aload_n 3, 1), (103, .getfield 198, 3), (106, .ireturn, 1), (107, .aload_n 3, 1), (108, .getfield 113, 3), (111, .ifCond .ne 8, 3), (114, .bipush (-9), 2), (116, .goto 14, 3), (119, .aload_n 3, 1), (120, .getfield 198, 3), (123, .aload_n 3, 1), (124, .getfield 113, 3), (127, .iadd, 1), (128, .iconst 1, 1), (129, .isub, 1), (130, .ireturn, 1), (131, .aload_n 0, 1), (132, .getfield 10, 3), (135, .iload_n 1, 1), (136, .invokevirtual 201, 3), (139, .ireturn, 1), (140, .aload_n 3, 1), (141, .getfield 123, 3), (144, .ireturn, 1), (145, .aload_n 3, 1), (146, .getfield 144, 3), (149, .ifCond .eq 7, 3), (152, .iconst 1, 1), (153, .goto 4, 3), (156, .iconst 0, 1), (157, .ireturn, 1), (158, .aload_n 3, 1), (159, .getfield 205, 3), (162, .ireturn, 1), (163, .aload_n 3, 1), (164, .getfield 206, 3), (167, .ireturn, 1), (168, .aload_n 3, 1), (169, .getfield 209, 3), (172, .ireturn, 1), (173, .iconst (-1), 1), (174, .ireturn, 1)]
theorem dc_X8_singer : ∀ q ∈ tb_X8_singer, decode cX8_singer q.1 = .ok q.2 := by decide +kernel
def tb_X8_note : List (Nat × Instr × Nat) := [(0, .aload_n 0, 1), (1, .getfield 10, 3), (4, .iload_n 1, 1), (5, .invokevirtual 71, 3), (8, .ifCond .eq 13, 3), (11, .iload_n 2, 1), (12, .ifCond .lt 9, 3), (15, .iload_n 2, 1), (16, .bipush 41, 2), (18, .if_icmp .lt 5, 3), (21, .iconst (-1), 1), (22, .ireturn, 1), (23, .aload_n 0, 1), (24, .getfield 10, 3), (27, .getfield 92, 3), (30, .iload_n 1, 1), (31, .aaload, 1), (32, .astore_n 3, 1), (33, .aload_n 3, 1), (34, .getfield 210, 3), (37, .iload_n 2, 1), (38, .invokestatic 140, 3), (41, .ifCond .ne 6, 3), (44, .bipush (-9), 2), (46, .ireturn, 1), (47, .aload_n 3, 1), (48, .getfield 213, 3), (51, .iload_n 2, 1), (52, .invokestatic 140, 3), (55, .ifCond .eq 7, 3), (58, .iconst 1, 1), (59, .goto 4, 3), (62, .iconst 0, 1), (63, .ireturn, 1)]
theorem dc_X8_note : ∀ q ∈ tb_X8_note, decode cX8_note q.1 = .ok q.2 := by decide +kernel
def tb_X8_overlap : List (Nat × Instr × Nat) := [(0, .aload_n 0, 1), (1, .getfield 10, 3), (4, .iload_n 1, 1), (5, .invokevirtual 71, 3), (8, .ifCond .eq 10, 3), (11, .iload_n 2, 1), (12, .invokestatic 116, 3), (15, .ifCond .ne 5, 3), (18, .iconst (-1), 1), (19, .ireturn, 1), (20, .aload_n 0, 1), (21, .getfield 10, 3), (24, .getfield 92, 3), (27, .iload_n 1, 1), (28, .aaload, 1), (29, .iload_n 2, 1), (30, .invokevirtual 214, 3), (33, .ireturn, 1)]
theorem dc_X8_overlap : ∀ q ∈ tb_X8_overlap, decode cX8_overlap q.1 = .ok q.2 := by decide +kernel
def tb_X8_part : List (Nat × Instr × Nat) := [(0, .iload_n 1, 1), (1, .invokestatic 116, 3), (4, .ifCond .ne 5, 3), (7, .iconst (-1), 1), (8, .ireturn, 1), (9, .iload_n 2, 1), (10, .tableswitch 105 0 5 #[38, 47, 56, 65, 75, 84], 38), (48, .aload_n 0, 1), (49, .getfield 10, 3), (52, .iload_n 1, 1), (53, .invokevirtual 217, 3), (56, .ireturn, 1), (57, .aload_n 0, 1), (58, .getfield 10, 3), (61, .iload_n 1, 1), (62, .invokevirtual 220, 3), (65, .ireturn, 1), (66, .aload_n 0, 1), (67, .getfield 10, 3), (70, .iload_n 1, 1), (71, .invokevirtual 222, 3), (74, .ireturn, 1), (75, .aload_n 0, 1), (76, .getfield 10, 3), (79, .getfield 225, 3), (82, .iload_n 1, 1), (83, .iaload, 1), (84, .ireturn, 1), (85, .aload_n 0, 1), (86, .getfield 10, 3), (89, .iload_n 1, 1), (90, .invokevirtual 228, 3), (93, .ireturn, 1), (94, .aload_n 0, 1), (95, .getfield 48, 3), (98, .aload_n 0, 1), (99, .getfield 10, 3), (102, .invokevirtual 155, 3), (105, .aload_n 0, 1), (106, .getfield 48, 3), (109, .getfield 231, 3), (112, .iload_n 1, 1), (113, .iaload, 1), (114, .ireturn, 1), (115, .iconst (-1), 1), (116, .ireturn, 1)]
theorem dc_X8_part : ∀ q ∈ tb_X8_part, decode cX8_part q.1 = .ok q.2 := by decide +kernel
def tb_X8_seat : List (Nat × Instr × Nat) := [(0, .aload_n 0, 1), (1, .getfield 10, 3), (4, .iload_n 1, 1), (5, .invokevirtual 71, 3), (8, .ifCond .eq 12, 3), (11, .iload_n 2, 1), (12, .ifCond .lt 8, 3), (15, .iload_n 2, 1), (16, .iconst 1, 1), (17, .if_icmp .le 5, 3), (20, .iconst (-1), 1), (21, .ireturn, 1), (22, .aload_n 0, 1), (23, .getfield 10, 3), (26, .getfield 92, 3), (29, .iload_n 1, 1), (30, .aaload, 1), (31, .getfield 123, 3), (34, .istore_n 3, 1), (35, .iload_n 3, 1), (36, .invokestatic 116, 3), (39, .ifCond .ne 6, 3), (42, .bipush (-9), 2), (44, .ireturn, 1), (45, .aload_n 0, 1), (46, .getfield 10, 3), (49, .iload_n 1, 1), (50, .invokevirtual 234, 3), (53, .istore 4, 2), (55, .iload_n 2, 1), (56, .ifCond .ne 23, 3), (59, .aload_n 0, 1), (60, .getfield 10, 3), (63, .iload_n 3, 1), (64, .invokevirtual 237, 3), (67, .iload 4, 2), (69, .aload_n 0, 1), (70, .getfield 10, 3), (73, .invokevirtual 240, 3), (76, .idiv, 1), (77, .iadd, 1), (78, .ireturn, 1), (79, .iload 4, 2), (81, .aload_n 0, 1), (82, .getfield 10, 3), (85, .invokevirtual 240, 3), (88, .irem, 1), (89, .istore 5, 2), (91, .iload 5, 2), (93, .iconst 2, 1), (94, .irem, 1), (95, .iconst 1, 1), (96, .if_icmp .ne 12, 3), (99, .iload 5, 2), (101, .iconst 1, 1), (102, .iadd, 1), (103, .iconst 2, 1), (104, .idiv, 1), (105, .goto 8, 3), (108, .iload 5, 2), (110, .iconst 2, 1), (111, .idiv, 1), (112, .ineg, 1), (113, .ireturn, 1)]
theorem dc_X8_seat : ∀ q ∈ tb_X8_seat, decode cX8_seat q.1 = .ok q.2 := by decide +kernel
def tb_X8_solo : List (Nat × Instr × Nat) := [(0, .iload_n 1, 1), (1, .ifCond .lt 21, 3), (4, .iload_n 1, 1), (5, .aload_n 0, 1), (6, .getfield 10, 3), (9, .getfield 152, 3), (12, .if_icmp .ge 10, 3), (15, .iload_n 2, 1), (16, .invokestatic 116, 3), (19, .ifCond .ne 5, 3), (22, .iconst (-1), 1), (23, .ireturn, 1), (24, .aload_n 0, 1), (25, .getfield 10, 3), (28, .getfield 243, 3), (31, .iload_n 1, 1), (32, .iconst 4, 1), (33, .imul, 1), (34, .iload_n 2, 1), (35, .iadd, 1), (36, .iaload, 1), (37, .ireturn, 1)]
theorem dc_X8_solo : ∀ q ∈ tb_X8_solo, decode cX8_solo q.1 = .ok q.2 := by decide +kernel
def tb_X8_mean : List (Nat × Instr × Nat) := [(0, .iconst 0, 1), (1, .istore_n 1, 1), (2, .iconst 0, 1), (3, .istore_n 2, 1), (4, .iload_n 2, 1), (5, .iconst 4, 1), (6, .if_icmp .ge 20, 3), (9, .iload_n 1, 1), (10, .aload_n 0, 1), (11, .getfield 10, 3), (14, .iload_n 2, 1), (15, .invokevirtual 220, 3), (18, .iadd, 1), (19, .istore_n 1, 1), (20, .iinc 2 1, 3), (23, .goto (-19), 3), (26, .iload_n 1, 1), (27, .i2f, 1), (28, .ldc 246, 2), (30, .fdiv, 1), (31, .freturn, 1)]
theorem dc_X8_mean : ∀ q ∈ tb_X8_mean, decode cX8_mean q.1 = .ok q.2 := by decide +kernel
def tb_X8_standIn : List (Nat × Instr × Nat) := [(0, .aload_n 0, 1), (1, .getfield 10, 3), (4, .iload_n 1, 1), (5, .invokevirtual 71, 3), (8, .ifCond .ne 5, 3), (11, .iconst (-1), 1), (12, .ireturn, 1), (13, .aload_n 0, 1), (14, .getfield 48, 3), (17, .aload_n 0, 1), (18, .getfield 10, 3), (21, .invokevirtual 155, 3), (24, .aload_n 0, 1), (25, .getfield 48, 3), (28, .getfield 247, 3), (31, .iload_n 1, 1), (32, .iaload, 1), (33, .ireturn, 1)]
theorem dc_X8_standIn : ∀ q ∈ tb_X8_standIn, decode cX8_standIn q.1 = .ok q.2 := by decide +kernel
def tb_X8_passedOver : List (Nat × Instr × Nat) := [(0, .aload_n 0, 1), (1, .getfield 10, 3), (4, .iload_n 1, 1), (5, .invokevirtual 71, 3), (8, .ifCond .ne 5, 3), (11, .iconst (-1), 1), (12, .ireturn, 1), (13, .aload_n 0, 1), (14, .getfield 10, 3), (17, .getfield 92, 3), (20, .iload_n 1, 1), (21, .aaload, 1), (22, .astore_n 2, 1), (23, .aload_n 2, 1), (24, .getfield 123, 3), (27, .invokestatic 116, 3), (30, .ifCond .ne 5, 3), (33, .iconst 1, 1), (34, .ireturn, 1), (35, .aload_n 2, 1), (36, .getfield 144, 3), (39, .ifCond .ne 5, 3), (42, .iconst 2, 1), (43, .ireturn, 1), (44, .aload_n 0, 1), (45, .getfield 48, 3), (48, .aload_n 0, 1), (49, .getfield 10, 3), (52, .invokevirtual 155, 3), (55, .aload_n 0, 1), (56, .getfield 48, 3), (59, .getfield 247, 3), (62, .iload_n 1, 1), (63, .iaload, 1), (64, .bipush (-9), 2), (66, .if_icmp .eq 5, 3), (69, .iconst 3, 1), (70, .ireturn, 1), (71, .aload_n 0, 1), (72, .getfield 10, 3), (75, .aload_n 2, 1), (76, .invokevirtual 250, 3), (79, .ifCond .ne 5, 3), (82, .iconst 4, 1), (83, .ireturn, 1), (84, .aload_n 0, 1), (85, .getfield 48, 3), (88, .getfield 231, 3), (91, .aload_n 2, 1), (92, .getfield 123, 3), (95, .iaload, 1), (96, .iload_n 1, 1), (97, .if_icmp .ne 7, 3), (100, .iconst 0, 1), (101, .goto 4, 3), (104, .iconst 5, 1), (105, .ireturn, 1)]
theorem dc_X8_passedOver : ∀ q ∈ tb_X8_passedOver, decode cX8_passedOver q.1 = .ok q.2 := by decide +kernel
def tb_X8_without : List (Nat × Instr × Nat) := [(0, .iload_n 1, 1), (1, .iconst (-1), 1), (2, .if_icmp .eq 16, 3), (5, .aload_n 0, 1), (6, .getfield 10, 3), (9, .iload_n 1, 1), (10, .invokevirtual 71, 3), (13, .ifCond .ne 5, 3), (16, .iconst (-1), 1), (17, .ireturn, 1), (18, .aload_n 0, 1), (19, .getfield 55, 3), (22, .aload_n 0, 1), (23, .getfield 10, 3), (26, .iload_n 1, 1), (27, .invokevirtual 126, 3), (30, .aload_n 0, 1), (31, .getfield 55, 3), (34, .getfield 133, 3), (37, .ireturn, 1)]
theorem dc_X8_without : ∀ q ∈ tb_X8_without, decode cX8_without q.1 = .ok q.2 := by decide +kernel
def tb_X8_keep : List (Nat × Instr × Nat) := [(0, .iload_n 1, 1), (1, .invokestatic 254, 3), (4, .ifCond .ne 5, 3), (7, .iconst (-1), 1), (8, .ireturn, 1), (9, .aload_n 0, 1), (10, .getfield 23, 3), (13, .iload_n 1, 1), (14, .aaload, 1), (15, .aload_n 0, 1), (16, .getfield 10, 3), (19, .invokevirtual 257, 3), (22, .aload_n 0, 1), (23, .getfield 27, 3), (26, .iload_n 1, 1), (27, .iconst 1, 1), (28, .bastore, 1), (29, .aload_n 0, 1), (30, .getfield 10, 3), (33, .getfield 59, 3), (36, .ireturn, 1)]
theorem dc_X8_keep : ∀ q ∈ tb_X8_keep, decode cX8_keep q.1 = .ok q.2 := by decide +kernel
def tb_X8_back : List (Nat × Instr × Nat) := [(0, .iload_n 1, 1), (1, .invokestatic 254, 3), (4, .ifCond .ne 5, 3), (7, .iconst (-1), 1), (8, .ireturn, 1), (9, .aload_n 0, 1), (10, .getfield 27, 3), (13, .iload_n 1, 1), (14, .baload, 1), (15, .ifCond .ne 6, 3), (18, .bipush (-2), 2), (20, .ireturn, 1), (21, .aload_n 0, 1), (22, .getfield 19, 3), (25, .aload_n 0, 1), (26, .getfield 10, 3), (29, .invokevirtual 63, 3), (32, .aload_n 0, 1), (33, .getfield 10, 3), (36, .aload_n 0, 1), (37, .getfield 23, 3), (40, .iload_n 1, 1), (41, .aaload, 1), (42, .invokevirtual 257, 3), (45, .aload_n 0, 1), (46, .getfield 10, 3), (49, .getfield 59, 3), (52, .ireturn, 1)]
theorem dc_X8_back : ∀ q ∈ tb_X8_back, decode cX8_back q.1 = .ok q.2 := by decide +kernel
def tb_X8_isSetting : List (Nat × Instr × Nat) := [(0, .iload_n 0, 1), (1, .ifCond .lt 12, 3), (4, .iload_n 0, 1), (5, .iconst 4, 1), (6, .if_icmp .ge 7, 3), (9, .iconst 1, 1), (10, .goto 4, 3), (13, .iconst 0, 1), (14, .ireturn, 1)]
theorem dc_X8_isSetting : ∀ q ∈ tb_X8_isSetting, decode cX8_isSetting q.1 = .ok q.2 := by decide +kernel
def tb_X8_isPart : List (Nat × Instr × Nat) := [(0, .iload_n 0, 1), (1, .ifCond .lt 12, 3), (4, .iload_n 0, 1), (5, .iconst 4, 1), (6, .if_icmp .ge 7, 3), (9, .iconst 1, 1), (10, .goto 4, 3), (13, .iconst 0, 1), (14, .ireturn, 1)]
theorem dc_X8_isPart : ∀ q ∈ tb_X8_isPart, decode cX8_isPart q.1 = .ok q.2 := by decide +kernel
def tb_X8_isImage : List (Nat × Instr × Nat) := [(0, .iload_n 0, 1), (1, .ifCond .lt 12, 3), (4, .iload_n 0, 1), (5, .iconst 2, 1), (6, .if_icmp .ge 7, 3), (9, .iconst 1, 1), (10, .goto 4, 3), (13, .iconst 0, 1), (14, .ireturn, 1)]
theorem dc_X8_isImage : ∀ q ∈ tb_X8_isImage, decode cX8_isImage q.1 = .ok q.2 := by decide +kernel
def tb_X8_contains : List (Nat × Instr × Nat) := [(0, .lload_n 0, 1), (1, .iload_n 2, 1), (2, .lushr, 1), (3, .lconst 1, 1), (4, .land, 1), (5, .lconst 0, 1), (6, .lcmp, 1), (7, .ifCond .eq 7, 3), (10, .iconst 1, 1), (11, .goto 4, 3), (14, .iconst 0, 1), (15, .ireturn, 1)]
theorem dc_X8_contains : ∀ q ∈ tb_X8_contains, decode cX8_contains q.1 = .ok q.2 := by decide +kernel
end
section
def tb_L_cell : List (Nat × Instr × Nat) := [(0, .iload_n 1, 1), (1, .aload_n 0, 1), (2, .arraylength, 1), (3, .if_icmp .ge 9, 3), (6, .aload_n 0, 1), (7, .iload_n 1, 1), (8, .iaload, 1), (9, .goto 9, 3), (12, .ldc 7, 2), (14, .iload_n 1, 1), (15, .iconst 1, 1), (16, .iadd, 1), (17, .imul, 1), (18, .ireturn, 1)]
theorem dc_L_cell : ∀ q ∈ tb_L_cell, decode cL_cell q.1 = .ok q.2 := by decide +kernel
def tb_L_low : List (Nat × Instr × Nat) := [(0, .iload_n 0, 1), (1, .ldc 8, 2), (3, .iand, 1), (4, .iload_n 1, 1), (5, .irem, 1), (6, .ireturn, 1)]
theorem dc_L_low : ∀ q ∈ tb_L_low, decode cL_low q.1 = .ok q.2 := by decide +kernel
def tb_L_number : List (Nat × Instr × Nat) := [(0, .iload_n 1, 1), (1, .bipush 9, 2), (3, .if_icmp .le 17, 3), (6, .aload_n 0, 1), (7, .bipush 48, 2), (9, .iload_n 1, 1), (10, .bipush 10, 2), (12, .idiv, 1), (13, .iadd, 1), (14, .invokevirtual 9, 3), (17, .goto 4, 3), (20, .iconst 0, 1), (21, .istore_n 2, 1), (22, .aload_n 0, 1), (23, .bipush 48, 2), (25, .iload_n 1, 1), (26, .bipush 10, 2), (28, .irem, 1), (29, .iadd, 1), (30, .invokevirtual 9, 3), (33, .ireturn, 1)]
theorem dc_L_number : ∀ q ∈ tb_L_number, decode cL_number q.1 = .ok q.2 := by decide +kernel
def tb_L_test : List (Nat × Instr × Nat) := [(0, .aload_n 0, 1), (1, .invokevirtual 15, 3), (4, .istore 4, 2), (6, .iconst 1, 1), (7, .iload_n 2, 1), (8, .iconst 3, 1), (9, .invokestatic 19, 3), (12, .iadd, 1), (13, .istore 5, 2), (15, .iconst 0, 1), (16, .istore 6, 2), (18, .iload 6, 2), (20, .iload 5, 2), (22, .if_icmp .ge 104, 3), (25, .iload_n 3, 1), (26, .iconst 5, 1), (27, .iload 6, 2), (29, .imul, 1), (30, .ishr, 1), (31, .bipush 30, 2), (33, .invokestatic 19, 3), (36, .istore 7, 2), (38, .iload 7, 2), (40, .iload_n 2, 1), (41, .iconst 3, 1), (42, .iconst 4, 1), (43, .iload 6, 2), (45, .imul, 1), (46, .iadd, 1), (47, .ishr, 1), (48, .bipush 41, 2), (50, .iload 7, 2), (52, .isub, 1), (53, .invokestatic 19, 3), (56, .iadd, 1), (57, .istore 8, 2), (59, .aload_n 0, 1), (60, .iload 7, 2), (62, .invokestatic 25, 3), (65, .istore 4, 2), (67, .aload_n 0, 1), (68, .bipush 45, 2), (70, .invokevirtual 9, 3), (73, .istore 4, 2), (75, .aload_n 0, 1), (76, .iload 8, 2), (78, .invokestatic 25, 3), (81, .istore 4, 2), (83, .iload_n 2, 1), (84, .bipush 9, 2), (86, .iconst 3, 1), (87, .iload 6, 2), (89, .imul, 1), (90, .iadd, 1), (91, .ishr, 1), (92, .iconst 5, 1), (93, .invokestatic 19, 3), (96, .ifCond .ne 12, 3), (99, .aload_n 0, 1), (100, .bipush 33, 2), (102, .invokevirtual 9, 3), (105, .goto 5, 3), (108, .iload 4, 2), (110, .istore 4, 2), (112, .aload_n 0, 1), (113, .bipush 32, 2), (115, .invokevirtual 9, 3), (118, .istore 4, 2), (120, .iinc 6 1, 3), (123, .goto (-105), 3), (126, .aload_n 0, 1), (127, .iload_n 1, 1), (128, .invokevirtual 29, 3), (131, .ireturn, 1)]
theorem dc_L_test : ∀ q ∈ tb_L_test, decode cL_test q.1 = .ok q.2 := by decide +kernel
def tb_L_attendance : List (Nat × Instr × Nat) := [(0, .aload_n 0, 1), (1, .invokevirtual 15, 3), (4, .istore_n 2, 1), (5, .aload_n 0, 1), (6, .iconst 0, 1), (7, .invokevirtual 32, 3), (10, .istore_n 3, 1), (11, .iconst 0, 1), (12, .istore 4, 2), (14, .iload 4, 2), (16, .iload_n 3, 1), (17, .if_icmp .ge 36, 3), (20, .iload_n 1, 1), (21, .iconst 2, 1), (22, .iload 4, 2), (24, .imul, 1), (25, .ishr, 1), (26, .iconst 4, 1), (27, .invokestatic 19, 3), (30, .ifCond .ne 17, 3), (33, .aload_n 0, 1), (34, .iload 4, 2), (36, .invokestatic 25, 3), (39, .istore_n 2, 1), (40, .aload_n 0, 1), (41, .bipush 32, 2), (43, .invokevirtual 9, 3), (46, .istore_n 2, 1), (47, .iinc 4 1, 3), (50, .goto (-36), 3), (53, .aload_n 0, 1), (54, .invokevirtual 35, 3), (57, .ireturn, 1)]
theorem dc_L_attendance : ∀ q ∈ tb_L_attendance, decode cL_attendance q.1 = .ok q.2 := by decide +kernel
def tb_L_change_0 : List (Nat × Instr × Nat) := [(0, .aload_n 0, 1), (1, .iconst 0, 1), (2, .invokevirtual 32, 3), (5, .istore_n 3, 1), (6, .iload_n 3, 1), (7, .ifCond .ne 7, 3), (10, .iconst 0, 1), (11, .goto 10, 3), (14, .iload_n 1, 1), (15, .iconst 5, 1), (16, .ishr, 1), (17, .iload_n 3, 1), (18, .invokestatic 19, 3), (21, .istore 4, 2), (23, .iload_n 1, 1), (24, .bipush 22, 2), (26, .invokestatic 19, 3), (29, .tableswitch 323 0 20 #[99, 99, 99, 144, 151, 193, 233, 233, 233, 242, 242, 268, 273, 273, 273, 279, 279, 279, 279, 284, 289], 99), (128, .iload_n 3, 1), (129, .bipush 7, 2), (131, .if_icmp .lt 11, 3), (134, .iload_n 2, 1), (135, .iconst 4, 1), (136, .invokestatic 19, 3), (139, .ifCond .ne 29, 3), (142, .aload_n 0, 1), (143, .iconst 1, 1), (144, .iload_n 2, 1), (145, .bipush 9, 2), (147, .invokestatic 19, 3), (150, .iadd, 1), (151, .bipush 100, 2), (153, .iload_n 2, 1), (154, .iconst 4, 1), (155, .ishr, 1), (156, .bipush 121, 2), (158, .invokestatic 19, 3), (161, .iadd, 1), (162, .invokevirtual 38, 3), (165, .goto 7, 3), (168, .aload_n 0, 1), (169, .invokevirtual 41, 3), (172, .ireturn, 1), (173, .aload_n 0, 1), (174, .iload 4, 2), (176, .invokevirtual 44, 3), (179, .ireturn, 1), (180, .iload_n 2, 1), (181, .iconst 2, 1), (182, .invokestatic 19, 3), (185, .ifCond .ne 21, 3), (188, .aload_n 0, 1), (189, .iconst 0, 1), (190, .iconst 5, 1), (191, .iload_n 2, 1), (192, .iconst 1, 1), (193, .ishr, 1), (194, .bipush 11, 2), (196, .invokestatic 19, 3), (199, .iadd, 1)]
theorem dc_L_change_0 : ∀ q ∈ tb_L_change_0, decode cL_change q.1 = .ok q.2 := by decide +kernel
def tb_L_change_1 : List (Nat × Instr × Nat) := [(200, .invokevirtual 47, 3), (203, .goto 18, 3), (206, .aload_n 0, 1), (207, .iconst 1, 1), (208, .iconst 1, 1), (209, .iload_n 2, 1), (210, .iconst 1, 1), (211, .ishr, 1), (212, .bipush 15, 2), (214, .invokestatic 19, 3), (217, .iadd, 1), (218, .invokevirtual 47, 3), (221, .ireturn, 1), (222, .iload_n 2, 1), (223, .iconst 2, 1), (224, .invokestatic 19, 3), (227, .ifCond .ne 19, 3), (230, .aload_n 0, 1), (231, .iconst 2, 1), (232, .iload_n 2, 1), (233, .iconst 1, 1), (234, .ishr, 1), (235, .bipush 11, 2), (237, .invokestatic 19, 3), (240, .invokevirtual 47, 3), (243, .goto 18, 3), (246, .aload_n 0, 1), (247, .iconst 3, 1), (248, .iconst 1, 1), (249, .iload_n 2, 1), (250, .iconst 1, 1), (251, .ishr, 1), (252, .bipush 6, 2), (254, .invokestatic 19, 3), (257, .iadd, 1), (258, .invokevirtual 47, 3), (261, .ireturn, 1), (262, .aload_n 0, 1), (263, .iload 4, 2), (265, .iload_n 2, 1), (266, .iload_n 1, 1), (267, .invokestatic 50, 3), (270, .ireturn, 1), (271, .aload_n 0, 1), (272, .iload 4, 2), (274, .iload_n 2, 1), (275, .iconst 5, 1), (276, .invokestatic 19, 3), (279, .iconst 4, 1), (280, .if_icmp .ne 8, 3), (283, .bipush (-9), 2), (285, .goto 8, 3), (288, .iload_n 2, 1), (289, .iconst 5, 1), (290, .invokestatic 19, 3), (293, .invokevirtual 53, 3), (296, .ireturn, 1), (297, .aload_n 0, 1), (298, .invokevirtual 56, 3), (301, .ireturn, 1)]
theorem dc_L_change_1 : ∀ q ∈ tb_L_change_1, decode cL_change q.1 = .ok q.2 := by decide +kernel
def tb_L_change_2 : List (Nat × Instr × Nat) := [(302, .aload_n 0, 1), (303, .iload_n 2, 1), (304, .invokestatic 59, 3), (307, .ireturn, 1), (308, .aload_n 0, 1), (309, .invokevirtual 41, 3), (312, .ireturn, 1), (313, .aload_n 0, 1), (314, .invokevirtual 61, 3), (317, .ireturn, 1), (318, .iload_n 2, 1), (319, .iconst 2, 1), (320, .invokestatic 19, 3), (323, .ifCond .ne 17, 3), (326, .aload_n 0, 1), (327, .iload_n 2, 1), (328, .iconst 1, 1), (329, .ishr, 1), (330, .iconst 2, 1), (331, .invokestatic 19, 3), (334, .invokevirtual 64, 3), (337, .goto 14, 3), (340, .aload_n 0, 1), (341, .iload_n 2, 1), (342, .iconst 1, 1), (343, .ishr, 1), (344, .iconst 2, 1), (345, .invokestatic 19, 3), (348, .invokevirtual 67, 3), (351, .ireturn, 1), (352, .aload_n 0, 1), (353, .iload 4, 2), (355, .iload_n 2, 1), (356, .iconst 4, 1), (357, .invokestatic 19, 3), (360, .invokevirtual 53, 3), (363, .ireturn, 1)]
theorem dc_L_change_2 : ∀ q ∈ tb_L_change_2, decode cL_change q.1 = .ok q.2 := by decide +kernel
def tb_L_change : List (Nat × Instr × Nat) := tb_L_change_0 ++ tb_L_change_1 ++ tb_L_change_2
theorem dc_L_change : ∀ q ∈ tb_L_change, decode cL_change q.1 = .ok q.2 := by
  intro q h
  simp only [tb_L_change, List.mem_append] at h
  rcases h with ((h | h) | h)
  · exact dc_L_change_0 q h
  · exact dc_L_change_1 q h
  · exact dc_L_change_2 q h
def tb_L_isRange_0 : List (Nat × Instr × Nat) := [(0, .aload_n 0, 1), (1, .iload_n 1, 1), (2, .iconst 2, 1), (3, .invokevirtual 70, 3), (6, .istore_n 2, 1), (7, .aload_n 0, 1), (8, .iload_n 1, 1), (9, .iconst 3, 1), (10, .invokevirtual 70, 3), (13, .istore_n 3, 1), (14, .iconst 0, 1), (15, .istore 4, 2), (17, .iconst 0, 1), (18, .istore 5, 2), (20, .bipush (-9), 2), (22, .istore 6, 2), (24, .iconst 0, 1), (25, .istore 7, 2), (27, .iload 7, 2), (29, .bipush 41, 2), (31, .if_icmp .ge 62, 3), (34, .aload_n 0, 1), (35, .iload_n 1, 1), (36, .iload 7, 2), (38, .invokevirtual 73, 3), (41, .iconst 1, 1), (42, .if_icmp .ne 10, 3), (45, .iload 4, 2), (47, .iconst 1, 1), (48, .iadd, 1), (49, .goto 4, 3), (52, .iconst 0, 1), (53, .istore 4, 2), (55, .iload 4, 2), (57, .iload 5, 2), (59, .if_icmp .le 8, 3), (62, .iload 7, 2), (64, .goto 5, 3), (67, .iload 6, 2), (69, .istore 6, 2), (71, .iload 4, 2), (73, .iload 5, 2), (75, .if_icmp .le 8, 3), (78, .iload 4, 2), (80, .goto 5, 3), (83, .iload 5, 2), (85, .istore 5, 2), (87, .iinc 7 1, 3), (90, .goto (-63), 3), (93, .iload 5, 2), (95, .ifCond .ne 23, 3), (98, .iload_n 2, 1), (99, .bipush (-9), 2), (101, .if_icmp .ne 13, 3), (104, .iload_n 3, 1), (105, .bipush (-9), 2), (107, .if_icmp .ne 7, 3), (110, .iconst 1, 1), (111, .goto 29, 3), (114, .iconst 0, 1)]
theorem dc_L_isRange_0 : ∀ q ∈ tb_L_isRange_0, decode cL_isRange q.1 = .ok q.2 := by decide +kernel
def tb_L_isRange_1 : List (Nat × Instr × Nat) := [(115, .goto 25, 3), (118, .iload_n 3, 1), (119, .iload 6, 2), (121, .if_icmp .ne 18, 3), (124, .iload_n 2, 1), (125, .iload 6, 2), (127, .iload 5, 2), (129, .isub, 1), (130, .iconst 1, 1), (131, .iadd, 1), (132, .if_icmp .ne 7, 3), (135, .iconst 1, 1), (136, .goto 4, 3), (139, .iconst 0, 1), (140, .istore 7, 2), (142, .iconst 0, 1), (143, .istore 8, 2), (145, .iconst 0, 1), (146, .istore 9, 2), (148, .iload 9, 2), (150, .iconst 4, 1), (151, .if_icmp .ge 126, 3), (154, .bipush 22, 2), (156, .bipush 6, 2), (158, .iload 9, 2), (160, .imul, 1), (161, .isub, 1), (162, .istore 10, 2), (164, .iload_n 2, 1), (165, .iload 10, 2), (167, .if_icmp .le 7, 3), (170, .iload_n 2, 1), (171, .goto 5, 3), (174, .iload 10, 2), (176, .istore 11, 2), (178, .iload_n 3, 1), (179, .iload 10, 2), (181, .bipush 14, 2), (183, .iadd, 1), (184, .if_icmp .ge 7, 3), (187, .iload_n 3, 1), (188, .goto 8, 3), (191, .iload 10, 2), (193, .bipush 14, 2), (195, .iadd, 1), (196, .istore 12, 2), (198, .iload 5, 2), (200, .ifCond .eq 10, 3), (203, .iload 12, 2), (205, .iload 11, 2), (207, .if_icmp .ge 7, 3), (210, .iconst 0, 1), (211, .goto 10, 3), (214, .iload 12, 2), (216, .iload 11, 2), (218, .isub, 1), (219, .iconst 1, 1), (220, .iadd, 1), (221, .istore 13, 2), (223, .iload 7, 2)]
theorem dc_L_isRange_1 : ∀ q ∈ tb_L_isRange_1, decode cL_isRange q.1 = .ok q.2 := by decide +kernel
def tb_L_isRange_2 : List (Nat × Instr × Nat) := [(225, .ifCond .eq 19, 3), (228, .aload_n 0, 1), (229, .iload_n 1, 1), (230, .iload 9, 2), (232, .invokevirtual 76, 3), (235, .iload 13, 2), (237, .if_icmp .ne 7, 3), (240, .iconst 1, 1), (241, .goto 4, 3), (244, .iconst 0, 1), (245, .istore 7, 2), (247, .iload 13, 2), (249, .aload_n 0, 1), (250, .iconst 0, 1), (251, .invokevirtual 79, 3), (254, .if_icmp .lt 13, 3), (257, .iload 8, 2), (259, .iconst 1, 1), (260, .iload 9, 2), (262, .ishl, 1), (263, .ior, 1), (264, .goto 5, 3), (267, .iload 8, 2), (269, .istore 8, 2), (271, .iinc 9 1, 3), (274, .goto (-126), 3), (277, .iload 7, 2), (279, .ifCond .eq 29, 3), (282, .aload_n 0, 1), (283, .iload_n 1, 1), (284, .iconst 4, 1), (285, .invokevirtual 70, 3), (288, .iload 8, 2), (290, .if_icmp .ne 18, 3), (293, .aload_n 0, 1), (294, .iload_n 1, 1), (295, .bipush 41, 2), (297, .invokevirtual 73, 3), (300, .iconst (-1), 1), (301, .if_icmp .ne 7, 3), (304, .iconst 1, 1), (305, .goto 4, 3), (308, .iconst 0, 1), (309, .ireturn, 1)]
theorem dc_L_isRange_2 : ∀ q ∈ tb_L_isRange_2, decode cL_isRange q.1 = .ok q.2 := by decide +kernel
def tb_L_isRange : List (Nat × Instr × Nat) := tb_L_isRange_0 ++ tb_L_isRange_1 ++ tb_L_isRange_2
theorem dc_L_isRange : ∀ q ∈ tb_L_isRange, decode cL_isRange q.1 = .ok q.2 := by
  intro q h
  simp only [tb_L_isRange, List.mem_append] at h
  rcases h with ((h | h) | h)
  · exact dc_L_isRange_0 q h
  · exact dc_L_isRange_1 q h
  · exact dc_L_isRange_2 q h
end
section
def tb_L_areParts_0 : List (Nat × Instr × Nat) := [(0, .aload_n 0, 1), (1, .iconst 0, 1), (2, .invokevirtual 32, 3), (5, .istore_n 1, 1), (6, .iconst 0, 1), (7, .istore_n 2, 1), (8, .iconst 0, 1), (9, .istore_n 3, 1), (10, .iconst 0, 1), (11, .istore 4, 2), (13, .iconst 0, 1), (14, .istore 5, 2), (16, .iconst 0, 1), (17, .istore 6, 2), (19, .iconst 0, 1), (20, .istore 7, 2), (22, .iload 7, 2), (24, .iconst 4, 1), (25, .if_icmp .ge 302, 3), (28, .iconst 0, 1), (29, .istore 8, 2), (31, .iconst 0, 1), (32, .istore 9, 2), (34, .iconst 0, 1), (35, .istore 10, 2), (37, .iconst 0, 1), (38, .istore 11, 2), (40, .iload 11, 2), (42, .iload_n 1, 1), (43, .if_icmp .ge 177, 3), (46, .aload_n 0, 1), (47, .iload 11, 2), (49, .iconst 5, 1), (50, .invokevirtual 70, 3), (53, .iload 7, 2), (55, .if_icmp .ne 159, 3), (58, .iload 8, 2), (60, .iconst 1, 1), (61, .iadd, 1), (62, .istore 8, 2), (64, .iload 9, 2), (66, .aload_n 0, 1), (67, .iload 11, 2), (69, .iconst 0, 1), (70, .invokevirtual 70, 3), (73, .iadd, 1), (74, .istore 9, 2), (76, .aload_n 0, 1), (77, .iload 11, 2), (79, .bipush 6, 2), (81, .invokevirtual 70, 3), (84, .iconst 1, 1), (85, .if_icmp .ne 16, 3), (88, .iload 10, 2), (90, .aload_n 0, 1), (91, .iload 11, 2), (93, .iconst 0, 1), (94, .invokevirtual 70, 3), (97, .iadd, 1), (98, .goto 5, 3)]
theorem dc_L_areParts_0 : ∀ q ∈ tb_L_areParts_0, decode cL_areParts q.1 = .ok q.2 := by decide +kernel
def tb_L_areParts_1 : List (Nat × Instr × Nat) := [(101, .iload 10, 2), (103, .istore 10, 2), (105, .aload_n 0, 1), (106, .iload 11, 2), (108, .iconst 0, 1), (109, .invokevirtual 82, 3), (112, .istore 12, 2), (114, .aload_n 0, 1), (115, .iload 11, 2), (117, .iconst 1, 1), (118, .invokevirtual 82, 3), (121, .istore 13, 2), (123, .iload 12, 2), (125, .iload 6, 2), (127, .if_icmp .lt 43, 3), (130, .iload 12, 2), (132, .iload 6, 2), (134, .aload_n 0, 1), (135, .iload 7, 2), (137, .iconst 4, 1), (138, .invokevirtual 85, 3), (141, .iadd, 1), (142, .if_icmp .ge 28, 3), (145, .iconst 2, 1), (146, .iload 13, 2), (148, .imul, 1), (149, .aload_n 0, 1), (150, .iconst 3, 1), (151, .invokevirtual 79, 3), (154, .if_icmp .gt 16, 3), (157, .iconst 2, 1), (158, .iload 13, 2), (160, .imul, 1), (161, .aload_n 0, 1), (162, .iconst 3, 1), (163, .invokevirtual 79, 3), (166, .ineg, 1), (167, .if_icmp .gt 5, 3), (170, .iconst 0, 1), (171, .ireturn, 1), (172, .iconst 0, 1), (173, .istore 14, 2), (175, .iload 14, 2), (177, .iload 11, 2), (179, .if_icmp .ge 35, 3), (182, .aload_n 0, 1), (183, .iload 14, 2), (185, .iconst 0, 1), (186, .invokevirtual 82, 3), (189, .iload 12, 2), (191, .if_icmp .ne 17, 3), (194, .aload_n 0, 1), (195, .iload 14, 2), (197, .iconst 1, 1), (198, .invokevirtual 82, 3), (201, .iload 13, 2), (203, .if_icmp .ne 5, 3), (206, .iconst 0, 1), (207, .ireturn, 1), (208, .iinc 14 1, 3)]
theorem dc_L_areParts_1 : ∀ q ∈ tb_L_areParts_1, decode cL_areParts q.1 = .ok q.2 := by decide +kernel
def tb_L_areParts_2 : List (Nat × Instr × Nat) := [(211, .goto (-36), 3), (214, .iinc 11 1, 3), (217, .goto (-177), 3), (220, .iload_n 2, 1), (221, .iload 8, 2), (223, .iadd, 1), (224, .istore_n 2, 1), (225, .iload 4, 2), (227, .iload 9, 2), (229, .iadd, 1), (230, .istore 4, 2), (232, .iload 10, 2), (234, .aload_n 0, 1), (235, .iconst 1, 1), (236, .invokevirtual 79, 3), (239, .if_icmp .lt 13, 3), (242, .iload 5, 2), (244, .iconst 1, 1), (245, .iload 7, 2), (247, .ishl, 1), (248, .ior, 1), (249, .goto 5, 3), (252, .iload 5, 2), (254, .istore 5, 2), (256, .iload 6, 2), (258, .aload_n 0, 1), (259, .iload 7, 2), (261, .iconst 4, 1), (262, .invokevirtual 85, 3), (265, .iadd, 1), (266, .istore 6, 2), (268, .aload_n 0, 1), (269, .iload 7, 2), (271, .iconst 0, 1), (272, .invokevirtual 85, 3), (275, .iload 8, 2), (277, .if_icmp .ne 42, 3), (280, .aload_n 0, 1), (281, .iload 7, 2), (283, .iconst 1, 1), (284, .invokevirtual 85, 3), (287, .iload 9, 2), (289, .if_icmp .ne 30, 3), (292, .aload_n 0, 1), (293, .iload 7, 2), (295, .iconst 2, 1), (296, .invokevirtual 85, 3), (299, .iload 10, 2), (301, .if_icmp .ne 18, 3), (304, .aload_n 0, 1), (305, .iload 7, 2), (307, .iconst 3, 1), (308, .invokevirtual 85, 3), (311, .aload_n 0, 1), (312, .iconst 2, 1), (313, .invokevirtual 32, 3), (316, .if_icmp .le 5, 3), (319, .iconst 0, 1), (320, .ireturn, 1), (321, .iinc 7 1, 3)]
theorem dc_L_areParts_2 : ∀ q ∈ tb_L_areParts_2, decode cL_areParts q.1 = .ok q.2 := by decide +kernel
def tb_L_areParts_3 : List (Nat × Instr × Nat) := [(324, .goto (-302), 3), (327, .iconst 0, 1), (328, .istore 7, 2), (330, .iload 7, 2), (332, .iload_n 1, 1), (333, .if_icmp .ge 67, 3), (336, .aload_n 0, 1), (337, .iload 7, 2), (339, .bipush 6, 2), (341, .invokevirtual 70, 3), (344, .ifCond .ne 9, 3), (347, .iload_n 3, 1), (348, .iconst 1, 1), (349, .iadd, 1), (350, .goto 4, 3), (353, .iload_n 3, 1), (354, .istore_n 3, 1), (355, .aload_n 0, 1), (356, .iload 7, 2), (358, .iconst 5, 1), (359, .invokevirtual 70, 3), (362, .bipush (-9), 2), (364, .if_icmp .ne 7, 3), (367, .iconst 1, 1), (368, .goto 4, 3), (371, .iconst 0, 1), (372, .aload_n 0, 1), (373, .iload 7, 2), (375, .iconst 0, 1), (376, .invokevirtual 82, 3), (379, .bipush (-9), 2), (381, .if_icmp .ne 7, 3), (384, .iconst 1, 1), (385, .goto 4, 3), (388, .iconst 0, 1), (389, .if_icmp .eq 5, 3), (392, .iconst 0, 1), (393, .ireturn, 1), (394, .iinc 7 1, 3), (397, .goto (-67), 3), (400, .aload_n 0, 1), (401, .iconst 1, 1), (402, .invokevirtual 32, 3), (405, .iload_n 2, 1), (406, .if_icmp .ne 50, 3), (409, .aload_n 0, 1), (410, .iconst 3, 1), (411, .invokevirtual 32, 3), (414, .iload_n 3, 1), (415, .if_icmp .ne 41, 3), (418, .aload_n 0, 1), (419, .iconst 4, 1), (420, .invokevirtual 32, 3), (423, .iload 5, 2), (425, .if_icmp .ne 31, 3), (428, .aload_n 0, 1), (429, .invokevirtual 88, 3), (432, .iload 4, 2), (434, .i2f, 1), (435, .ldc 92, 2)]
theorem dc_L_areParts_3 : ∀ q ∈ tb_L_areParts_3, decode cL_areParts q.1 = .ok q.2 := by decide +kernel
def tb_L_areParts_4 : List (Nat × Instr × Nat) := [(437, .fdiv, 1), (438, .fcmp .l, 1), (439, .ifCond .ne 17, 3), (442, .aload_n 0, 1), (443, .iconst 4, 1), (444, .iconst 0, 1), (445, .invokevirtual 85, 3), (448, .iconst (-1), 1), (449, .if_icmp .ne 7, 3), (452, .iconst 1, 1), (453, .goto 4, 3), (456, .iconst 0, 1), (457, .ireturn, 1)]
theorem dc_L_areParts_4 : ∀ q ∈ tb_L_areParts_4, decode cL_areParts q.1 = .ok q.2 := by decide +kernel
def tb_L_areParts : List (Nat × Instr × Nat) := tb_L_areParts_0 ++ tb_L_areParts_1 ++ tb_L_areParts_2 ++ tb_L_areParts_3 ++ tb_L_areParts_4
theorem dc_L_areParts : ∀ q ∈ tb_L_areParts, decode cL_areParts q.1 = .ok q.2 := by
  intro q h
  simp only [tb_L_areParts, List.mem_append] at h
  rcases h with ((((h | h) | h) | h) | h)
  · exact dc_L_areParts_0 q h
  · exact dc_L_areParts_1 q h
  · exact dc_L_areParts_2 q h
  · exact dc_L_areParts_3 q h
  · exact dc_L_areParts_4 q h
def tb_L_areAlike : List (Nat × Instr × Nat) := [(0, .aload_n 0, 1), (1, .invokevirtual 88, 3), (4, .aload_n 1, 1), (5, .invokevirtual 88, 3), (8, .fcmp .l, 1), (9, .ifCond .ne 20, 3), (12, .aload_n 0, 1), (13, .iconst (-1), 1), (14, .invokevirtual 102, 3), (17, .aload_n 1, 1), (18, .iconst (-1), 1), (19, .invokevirtual 102, 3), (22, .if_icmp .ne 7, 3), (25, .iconst 1, 1), (26, .goto 4, 3), (29, .iconst 0, 1), (30, .istore_n 2, 1), (31, .iconst 0, 1), (32, .istore_n 3, 1), (33, .iload_n 3, 1), (34, .bipush 7, 2), (36, .if_icmp .ge 32, 3), (39, .iload_n 2, 1), (40, .ifCond .eq 20, 3), (43, .aload_n 0, 1), (44, .iload_n 3, 1), (45, .invokevirtual 32, 3), (48, .aload_n 1, 1), (49, .iload_n 3, 1), (50, .invokevirtual 32, 3), (53, .if_icmp .ne 7, 3), (56, .iconst 1, 1), (57, .goto 4, 3), (60, .iconst 0, 1), (61, .istore_n 2, 1), (62, .iinc 3 1, 3), (65, .goto (-32), 3), (68, .iconst 0, 1), (69, .istore_n 3, 1), (70, .iload_n 3, 1), (71, .aload_n 0, 1), (72, .iconst 0, 1), (73, .invokevirtual 32, 3), (76, .if_icmp .ge 52, 3), (79, .iconst 0, 1), (80, .istore 4, 2), (82, .iload 4, 2), (84, .bipush 10, 2), (86, .if_icmp .ge 36, 3), (89, .iload_n 2, 1), (90, .ifCond .eq 24, 3), (93, .aload_n 0, 1), (94, .iload_n 3, 1), (95, .iload 4, 2), (97, .invokevirtual 70, 3), (100, .aload_n 1, 1), (101, .iload_n 3, 1), (102, .iload 4, 2), (104, .invokevirtual 70, 3), (107, .if_icmp .ne 7, 3), (110, .iconst 1, 1), (111, .goto 4, 3), (114, .iconst 0, 1), (115, .istore_n 2, 1), (116, .iinc 4 1, 3), (119, .goto (-37), 3), (122, .iinc 3 1, 3), (125, .goto (-55), 3), (128, .iload_n 2, 1), (129, .ireturn, 1)]
theorem dc_L_areAlike : ∀ q ∈ tb_L_areAlike, decode cL_areAlike q.1 = .ok q.2 := by decide +kernel
end
section
def tb_L_isHeld_0 : List (Nat × Instr × Nat) := [(0, .aload_n 0, 1), (1, .iconst 0, 1), (2, .invokevirtual 32, 3), (5, .istore_n 1, 1), (6, .aload_n 0, 1), (7, .iconst 2, 1), (8, .invokevirtual 32, 3), (11, .istore_n 2, 1), (12, .iload_n 1, 1), (13, .ifCond .eq 9, 3), (16, .iload_n 2, 1), (17, .bipush 40, 2), (19, .if_icmp .ne 27, 3), (22, .aload_n 0, 1), (23, .invokevirtual 41, 3), (26, .iload_n 1, 1), (27, .ifCond .ne 8, 3), (30, .bipush (-2), 2), (32, .goto 5, 3), (35, .bipush (-3), 2), (37, .if_icmp .ne 7, 3), (40, .iconst 1, 1), (41, .goto 4, 3), (44, .iconst 0, 1), (45, .ireturn, 1), (46, .bipush 40, 2), (48, .newarray .int, 2), (50, .astore_n 3, 1), (51, .iconst 4, 1), (52, .newarray .int, 2), (54, .astore 4, 2), (56, .iconst 0, 1), (57, .istore 5, 2), (59, .iconst 0, 1), (60, .istore 6, 2), (62, .iconst 0, 1), (63, .istore 7, 2), (65, .iload 7, 2), (67, .iconst 4, 1), (68, .if_icmp .ge 40, 3), (71, .aload 4, 2), (73, .iload 7, 2), (75, .aload_n 0, 1), (76, .iload 7, 2), (78, .iconst 5, 1), (79, .invokevirtual 85, 3), (82, .iastore, 1), (83, .aload 4, 2), (85, .iload 7, 2), (87, .iaload, 1), (88, .ifCond .lt 10, 3), (91, .iload 5, 2), (93, .iconst 1, 1), (94, .iadd, 1), (95, .goto 5, 3), (98, .iload 5, 2), (100, .istore 5, 2), (102, .iinc 7 1, 3), (105, .goto (-40), 3), (108, .iconst 0, 1)]
theorem dc_L_isHeld_0 : ∀ q ∈ tb_L_isHeld_0, decode cL_isHeld q.1 = .ok q.2 := by decide +kernel
def tb_L_isHeld_1 : List (Nat × Instr × Nat) := [(109, .istore 7, 2), (111, .iload 7, 2), (113, .iload_n 1, 1), (114, .if_icmp .ge 247, 3), (117, .aload_n 0, 1), (118, .iload 7, 2), (120, .invokevirtual 93, 3), (123, .istore 8, 2), (125, .aload_n 0, 1), (126, .iload 7, 2), (128, .iconst 5, 1), (129, .invokevirtual 70, 3), (132, .istore 9, 2), (134, .aload_n 3, 1), (135, .iconst 3, 1), (136, .iload 7, 2), (138, .imul, 1), (139, .aload_n 0, 1), (140, .iload 7, 2), (142, .invokevirtual 96, 3), (145, .iastore, 1), (146, .aload_n 3, 1), (147, .iconst 3, 1), (148, .iload 7, 2), (150, .imul, 1), (151, .iconst 1, 1), (152, .iadd, 1), (153, .aload_n 0, 1), (154, .iload 7, 2), (156, .bipush 9, 2), (158, .invokevirtual 70, 3), (161, .iastore, 1), (162, .aload_n 3, 1), (163, .iconst 3, 1), (164, .iload 7, 2), (166, .imul, 1), (167, .iconst 2, 1), (168, .iadd, 1), (169, .aload_n 0, 1), (170, .iload 7, 2), (172, .bipush 7, 2), (174, .invokevirtual 70, 3), (177, .iastore, 1), (178, .aload_n 3, 1), (179, .iconst 3, 1), (180, .iload 7, 2), (182, .imul, 1), (183, .iaload, 1), (184, .ifCond .lt 10, 3), (187, .iload 6, 2), (189, .iconst 1, 1), (190, .iadd, 1), (191, .goto 5, 3), (194, .iload 6, 2), (196, .istore 6, 2), (198, .iload 8, 2), (200, .iconst 1, 1), (201, .if_icmp .ne 7, 3), (204, .iconst 1, 1), (205, .goto 4, 3)]
theorem dc_L_isHeld_1 : ∀ q ∈ tb_L_isHeld_1, decode cL_isHeld q.1 = .ok q.2 := by decide +kernel
def tb_L_isHeld_2 : List (Nat × Instr × Nat) := [(208, .iconst 0, 1), (209, .iload 9, 2), (211, .ifCond .ge 7, 3), (214, .iconst 1, 1), (215, .goto 4, 3), (218, .iconst 0, 1), (219, .if_icmp .ne 115, 3), (222, .iload 8, 2), (224, .ifCond .ne 7, 3), (227, .iconst 1, 1), (228, .goto 4, 3), (231, .iconst 0, 1), (232, .iload 9, 2), (234, .ifCond .lt 17, 3), (237, .aload 4, 2), (239, .iload 9, 2), (241, .iaload, 1), (242, .iload 7, 2), (244, .if_icmp .ne 7, 3), (247, .iconst 1, 1), (248, .goto 4, 3), (251, .iconst 0, 1), (252, .if_icmp .ne 82, 3), (255, .iload 8, 2), (257, .iconst 2, 1), (258, .if_icmp .ne 14, 3), (261, .aload_n 0, 1), (262, .iload 7, 2), (264, .bipush 6, 2), (266, .invokevirtual 70, 3), (269, .ifCond .ne 65, 3), (272, .aload_n 3, 1), (273, .iconst 3, 1), (274, .iload 7, 2), (276, .imul, 1), (277, .iaload, 1), (278, .ifCond .lt 52, 3), (281, .iload 8, 2), (283, .iconst 3, 1), (284, .if_icmp .ne 50, 3), (287, .aload_n 0, 1), (288, .iload 7, 2), (290, .bipush 6, 2), (292, .invokevirtual 70, 3), (295, .iconst 1, 1), (296, .if_icmp .ne 38, 3), (299, .iload 9, 2), (301, .aload_n 3, 1), (302, .iconst 3, 1), (303, .iload 7, 2), (305, .imul, 1), (306, .iaload, 1), (307, .if_icmp .eq 27, 3), (310, .aload_n 0, 1), (311, .iload 7, 2), (313, .iconst 4, 1), (314, .invokevirtual 70, 3), (317, .aload_n 3, 1), (318, .iconst 3, 1), (319, .iload 7, 2)]
theorem dc_L_isHeld_2 : ∀ q ∈ tb_L_isHeld_2, decode cL_isHeld q.1 = .ok q.2 := by decide +kernel
def tb_L_isHeld_3 : List (Nat × Instr × Nat) := [(321, .imul, 1), (322, .iaload, 1), (323, .ishr, 1), (324, .iconst 1, 1), (325, .iand, 1), (326, .iconst 1, 1), (327, .if_icmp .ne 7, 3), (330, .iconst 1, 1), (331, .goto 4, 3), (334, .iconst 0, 1), (335, .istore 10, 2), (337, .iload 10, 2), (339, .ifCond .eq 14, 3), (342, .iload 8, 2), (344, .ifCond .lt 9, 3), (347, .iload 8, 2), (349, .iconst 5, 1), (350, .if_icmp .le 5, 3), (353, .iconst 0, 1), (354, .ireturn, 1), (355, .iinc 7 1, 3), (358, .goto (-247), 3), (361, .aload_n 0, 1), (362, .iconst 5, 1), (363, .invokevirtual 32, 3), (366, .istore 7, 2), (368, .aload_n 0, 1), (369, .bipush 6, 2), (371, .invokevirtual 32, 3), (374, .istore 8, 2), (376, .aload_n 0, 1), (377, .invokevirtual 41, 3), (380, .iload 5, 2), (382, .if_icmp .ne 53, 3), (385, .aload_n 0, 1), (386, .iconst 2, 1), (387, .invokevirtual 32, 3), (390, .iload_n 2, 1), (391, .iconst 1, 1), (392, .iadd, 1), (393, .if_icmp .ne 42, 3), (396, .aload_n 0, 1), (397, .iconst 3, 1), (398, .invokevirtual 32, 3), (401, .ifCond .ne 34, 3), (404, .aload_n 0, 1), (405, .iconst 5, 1), (406, .invokevirtual 32, 3), (409, .iload 7, 2), (411, .iload 5, 2), (413, .iadd, 1), (414, .if_icmp .ne 21, 3), (417, .aload_n 0, 1), (418, .bipush 6, 2), (420, .invokevirtual 32, 3), (423, .iload 8, 2), (425, .iload 6, 2), (427, .iadd, 1), (428, .if_icmp .ne 7, 3), (431, .iconst 1, 1)]
theorem dc_L_isHeld_3 : ∀ q ∈ tb_L_isHeld_3, decode cL_isHeld q.1 = .ok q.2 := by decide +kernel
def tb_L_isHeld_4 : List (Nat × Instr × Nat) := [(432, .goto 4, 3), (435, .iconst 0, 1), (436, .istore 9, 2), (438, .iconst 0, 1), (439, .istore 10, 2), (441, .iload 10, 2), (443, .iconst 4, 1), (444, .if_icmp .ge 59, 3), (447, .iload 9, 2), (449, .ifCond .eq 45, 3), (452, .aload_n 0, 1), (453, .iload_n 2, 1), (454, .iload 10, 2), (456, .invokevirtual 99, 3), (459, .aload 4, 2), (461, .iload 10, 2), (463, .iaload, 1), (464, .if_icmp .ne 30, 3), (467, .aload 4, 2), (469, .iload 10, 2), (471, .iaload, 1), (472, .ifCond .lt 18, 3), (475, .aload_n 0, 1), (476, .aload 4, 2), (478, .iload 10, 2), (480, .iaload, 1), (481, .bipush 8, 2), (483, .invokevirtual 70, 3), (486, .iload_n 2, 1), (487, .if_icmp .ne 7, 3), (490, .iconst 1, 1), (491, .goto 4, 3), (494, .iconst 0, 1), (495, .istore 9, 2), (497, .iinc 10 1, 3), (500, .goto (-59), 3), (503, .iconst 0, 1), (504, .istore 10, 2), (506, .iload 10, 2), (508, .iload_n 1, 1), (509, .if_icmp .ge 131, 3), (512, .aload_n 0, 1), (513, .iload 10, 2), (515, .iconst 5, 1), (516, .invokevirtual 70, 3), (519, .ifCond .lt 22, 3), (522, .aload 4, 2), (524, .aload_n 0, 1), (525, .iload 10, 2), (527, .iconst 5, 1), (528, .invokevirtual 70, 3), (531, .iaload, 1), (532, .iload 10, 2), (534, .if_icmp .ne 7, 3), (537, .iconst 1, 1), (538, .goto 4, 3), (541, .iconst 0, 1), (542, .istore 11, 2), (544, .iload 9, 2), (546, .ifCond .eq 85, 3)]
theorem dc_L_isHeld_4 : ∀ q ∈ tb_L_isHeld_4, decode cL_isHeld q.1 = .ok q.2 := by decide +kernel
def tb_L_isHeld_5 : List (Nat × Instr × Nat) := [(549, .aload_n 0, 1), (550, .iload 10, 2), (552, .bipush 9, 2), (554, .invokevirtual 70, 3), (557, .aload_n 3, 1), (558, .iconst 3, 1), (559, .iload 10, 2), (561, .imul, 1), (562, .iaload, 1), (563, .ifCond .ge 14, 3), (566, .aload_n 3, 1), (567, .iconst 3, 1), (568, .iload 10, 2), (570, .imul, 1), (571, .iconst 1, 1), (572, .iadd, 1), (573, .iaload, 1), (574, .goto 13, 3), (577, .aload_n 3, 1), (578, .iconst 3, 1), (579, .iload 10, 2), (581, .imul, 1), (582, .iconst 1, 1), (583, .iadd, 1), (584, .iaload, 1), (585, .iconst 1, 1), (586, .iadd, 1), (587, .if_icmp .ne 44, 3), (590, .aload_n 0, 1), (591, .iload 10, 2), (593, .bipush 7, 2), (595, .invokevirtual 70, 3), (598, .iload 11, 2), (600, .ifCond .eq 16, 3), (603, .aload_n 3, 1), (604, .iconst 3, 1), (605, .iload 10, 2), (607, .imul, 1), (608, .iconst 2, 1), (609, .iadd, 1), (610, .iaload, 1), (611, .iconst 1, 1), (612, .iadd, 1), (613, .goto 11, 3), (616, .aload_n 3, 1), (617, .iconst 3, 1), (618, .iload 10, 2), (620, .imul, 1), (621, .iconst 2, 1), (622, .iadd, 1), (623, .iaload, 1), (624, .if_icmp .ne 7, 3), (627, .iconst 1, 1), (628, .goto 4, 3), (631, .iconst 0, 1), (632, .istore 9, 2), (634, .iinc 10 1, 3), (637, .goto (-131), 3), (640, .aload_n 0, 1), (641, .invokevirtual 61, 3)]
theorem dc_L_isHeld_5 : ∀ q ∈ tb_L_isHeld_5, decode cL_isHeld q.1 = .ok q.2 := by decide +kernel
def tb_L_isHeld_6 : List (Nat × Instr × Nat) := [(644, .ifCond .lt 31, 3), (647, .iload 9, 2), (649, .ifCond .eq 26, 3), (652, .aload_n 0, 1), (653, .iconst 2, 1), (654, .invokevirtual 32, 3), (657, .iload_n 2, 1), (658, .if_icmp .ne 17, 3), (661, .aload_n 0, 1), (662, .iload_n 2, 1), (663, .iconst 0, 1), (664, .invokevirtual 99, 3), (667, .iconst (-1), 1), (668, .if_icmp .ne 7, 3), (671, .iconst 1, 1), (672, .goto 4, 3), (675, .iconst 0, 1), (676, .ireturn, 1)]
theorem dc_L_isHeld_6 : ∀ q ∈ tb_L_isHeld_6, decode cL_isHeld q.1 = .ok q.2 := by decide +kernel
def tb_L_isHeld : List (Nat × Instr × Nat) := tb_L_isHeld_0 ++ tb_L_isHeld_1 ++ tb_L_isHeld_2 ++ tb_L_isHeld_3 ++ tb_L_isHeld_4 ++ tb_L_isHeld_5 ++ tb_L_isHeld_6
theorem dc_L_isHeld : ∀ q ∈ tb_L_isHeld, decode cL_isHeld q.1 = .ok q.2 := by
  intro q h
  simp only [tb_L_isHeld, List.mem_append] at h
  rcases h with ((((((h | h) | h) | h) | h) | h) | h)
  · exact dc_L_isHeld_0 q h
  · exact dc_L_isHeld_1 q h
  · exact dc_L_isHeld_2 q h
  · exact dc_L_isHeld_3 q h
  · exact dc_L_isHeld_4 q h
  · exact dc_L_isHeld_5 q h
  · exact dc_L_isHeld_6 q h
def tb_L_law_0 : List (Nat × Instr × Nat) := [(0, .new 10, 3), (3, .dup, 1), (4, .invokespecial 105, 3), (7, .astore_n 1, 1), (8, .new 10, 3), (11, .dup, 1), (12, .invokespecial 105, 3), (15, .astore_n 2, 1), (16, .iconst 0, 1), (17, .istore_n 3, 1), (18, .iload_n 3, 1), (19, .bipush 40, 2), (21, .if_icmp .ge 204, 3), (24, .aload_n 0, 1), (25, .iconst 2, 1), (26, .iload_n 3, 1), (27, .imul, 1), (28, .invokestatic 106, 3), (31, .istore 4, 2), (33, .aload_n 0, 1), (34, .iconst 2, 1), (35, .iload_n 3, 1), (36, .imul, 1), (37, .iconst 1, 1), (38, .iadd, 1), (39, .invokestatic 106, 3), (42, .istore 5, 2), (44, .iload 4, 2), (46, .bipush 22, 2), (48, .invokestatic 19, 3), (51, .bipush 19, 2), (53, .if_icmp .eq 24, 3), (56, .aload_n 1, 1), (57, .iload 4, 2), (59, .iload 5, 2), (61, .invokestatic 110, 3), (64, .aload_n 2, 1), (65, .iload 4, 2), (67, .iload 5, 2), (69, .invokestatic 110, 3), (72, .if_icmp .eq 5, 3), (75, .iconst 0, 1), (76, .ireturn, 1), (77, .aload_n 1, 1), (78, .iconst 0, 1), (79, .invokevirtual 32, 3), (82, .istore 6, 2), (84, .iload 6, 2), (86, .ifCond .le 20, 3), (89, .aload_n 1, 1), (90, .iload 5, 2), (92, .bipush 7, 2), (94, .ishr, 1), (95, .iload 6, 2), (97, .invokestatic 19, 3), (100, .invokestatic 114, 3), (103, .ifCond .eq 24, 3), (106, .iload_n 3, 1), (107, .iconst 3, 1), (108, .irem, 1)]
theorem dc_L_law_0 : ∀ q ∈ tb_L_law_0, decode cL_law q.1 = .ok q.2 := by decide +kernel
def tb_L_law_1 : List (Nat × Instr × Nat) := [(109, .iconst 2, 1), (110, .if_icmp .ne 19, 3), (113, .aload_n 1, 1), (114, .invokestatic 118, 3), (117, .ifCond .eq 10, 3), (120, .aload_n 1, 1), (121, .invokestatic 122, 3), (124, .ifCond .ne 5, 3), (127, .iconst 0, 1), (128, .ireturn, 1), (129, .iload_n 3, 1), (130, .bipush 10, 2), (132, .irem, 1), (133, .bipush 9, 2), (135, .if_icmp .ne 84, 3), (138, .aload_n 1, 1), (139, .iconst (-1), 1), (140, .invokevirtual 102, 3), (143, .istore 7, 2), (145, .aload_n 1, 1), (146, .invokevirtual 56, 3), (149, .iload 7, 2), (151, .if_icmp .ne 51, 3), (154, .aload_n 1, 1), (155, .iconst 0, 1), (156, .iconst 1, 1), (157, .invokevirtual 85, 3), (160, .iload 7, 2), (162, .if_icmp .lt 40, 3), (165, .aload_n 1, 1), (166, .iconst 1, 1), (167, .iconst 1, 1), (168, .invokevirtual 85, 3), (171, .iload 7, 2), (173, .if_icmp .lt 29, 3), (176, .aload_n 1, 1), (177, .iconst 2, 1), (178, .iconst 1, 1), (179, .invokevirtual 85, 3), (182, .iload 7, 2), (184, .if_icmp .lt 18, 3), (187, .aload_n 1, 1), (188, .iconst 3, 1), (189, .iconst 1, 1), (190, .invokevirtual 85, 3), (193, .iload 7, 2), (195, .if_icmp .lt 7, 3), (198, .iconst 1, 1), (199, .goto 4, 3), (202, .iconst 0, 1), (203, .istore 8, 2), (205, .iload 8, 2), (207, .ifCond .eq 10, 3), (210, .aload_n 1, 1), (211, .invokevirtual 61, 3), (214, .ifCond .ge 5, 3), (217, .iconst 0, 1), (218, .ireturn, 1), (219, .iinc 3 1, 3), (222, .goto (-204), 3)]
theorem dc_L_law_1 : ∀ q ∈ tb_L_law_1, decode cL_law q.1 = .ok q.2 := by decide +kernel
def tb_L_law_2 : List (Nat × Instr × Nat) := [(225, .aload_n 1, 1), (226, .aload_n 2, 1), (227, .invokestatic 125, 3), (230, .ireturn, 1)]
theorem dc_L_law_2 : ∀ q ∈ tb_L_law_2, decode cL_law q.1 = .ok q.2 := by decide +kernel
def tb_L_law : List (Nat × Instr × Nat) := tb_L_law_0 ++ tb_L_law_1 ++ tb_L_law_2
theorem dc_L_law : ∀ q ∈ tb_L_law, decode cL_law q.1 = .ok q.2 := by
  intro q h
  simp only [tb_L_law, List.mem_append] at h
  rcases h with ((h | h) | h)
  · exact dc_L_law_0 q h
  · exact dc_L_law_1 q h
  · exact dc_L_law_2 q h
end
section
/-! words of the tables: by program -/
theorem lt_fl_X0_11 : Cond.fieldLink RX0 11 (TX0 0).1 (TX0 0).2.1 (TX0 0).2.2.1 ∈ lw_tbl := by decide +kernel
theorem lt_fl_X0_18 : Cond.fieldLink RX0 18 (TX0 1).1 (TX0 1).2.1 (TX0 1).2.2.1 ∈ lw_tbl := by decide +kernel
theorem lt_fl_X0_25 : Cond.fieldLink RX0 25 (TX0 2).1 (TX0 2).2.1 (TX0 2).2.2.1 ∈ lw_tbl := by decide +kernel
theorem lt_fl_X0_28 : Cond.fieldLink RX0 28 (TX0 3).1 (TX0 3).2.1 (TX0 3).2.2.1 ∈ lw_tbl := by decide +kernel
theorem lt_fl_X5_9 : Cond.fieldLink RX5 9 (TX5 0).1 (TX5 0).2.1 (TX5 0).2.2.1 ∈ lw_tbl := by decide +kernel
theorem lt_fl_X5_15 : Cond.fieldLink RX5 15 (TX5 1).1 (TX5 1).2.1 (TX5 1).2.2.1 ∈ lw_tbl := by decide +kernel
theorem lt_fl_X5_38 : Cond.fieldLink RX5 38 (TX5 2).1 (TX5 2).2.1 (TX5 2).2.2.1 ∈ lw_tbl := by decide +kernel
theorem lt_fl_X5_42 : Cond.fieldLink RX5 42 (TX5 3).1 (TX5 3).2.1 (TX5 3).2.2.1 ∈ lw_tbl := by decide +kernel
theorem lt_fl_X5_45 : Cond.fieldLink RX5 45 (TX5 4).1 (TX5 4).2.1 (TX5 4).2.2.1 ∈ lw_tbl := by decide +kernel
theorem lt_fl_X5_48 : Cond.fieldLink RX5 48 (TX5 5).1 (TX5 5).2.1 (TX5 5).2.2.1 ∈ lw_tbl := by decide +kernel
theorem lt_fl_X5_22 : Cond.fieldLink RX5 22 (TX5 6).1 (TX5 6).2.1 (TX5 6).2.2.1 ∈ lw_tbl := by decide +kernel
theorem lt_fl_X5_25 : Cond.fieldLink RX5 25 (TX5 7).1 (TX5 7).2.1 (TX5 7).2.2.1 ∈ lw_tbl := by decide +kernel
theorem lt_fl_X5_29 : Cond.fieldLink RX5 29 (TX5 8).1 (TX5 8).2.1 (TX5 8).2.2.1 ∈ lw_tbl := by decide +kernel
theorem lt_fl_X5_32 : Cond.fieldLink RX5 32 (TX5 9).1 (TX5 9).2.1 (TX5 9).2.2.1 ∈ lw_tbl := by decide +kernel
theorem lt_fl_X5_35 : Cond.fieldLink RX5 35 (TX5 10).1 (TX5 10).2.1 (TX5 10).2.2.1 ∈ lw_tbl := by decide +kernel
theorem lt_fl_X0_31 : Cond.fieldLink RX0 31 (TX0 4).1 (TX0 4).2.1 (TX0 4).2.2.1 ∈ lw_tbl := by decide +kernel
theorem lt_fl_X0_45 : Cond.fieldLink RX0 45 (TX0 5).1 (TX0 5).2.1 (TX0 5).2.2.1 ∈ lw_tbl := by decide +kernel
theorem lt_fl_X0_48 : Cond.fieldLink RX0 48 (TX0 6).1 (TX0 6).2.1 (TX0 6).2.2.1 ∈ lw_tbl := by decide +kernel
theorem lt_fl_X0_51 : Cond.fieldLink RX0 51 (TX0 7).1 (TX0 7).2.1 (TX0 7).2.2.1 ∈ lw_tbl := by decide +kernel
theorem lt_fl_X0_73 : Cond.fieldLink RX0 73 (TX5 6).1 (TX5 6).2.1 (TX5 6).2.2.1 ∈ lw_tbl := by decide +kernel
theorem lt_fl_X0_69 : Cond.fieldLink RX0 69 (TX5 7).1 (TX5 7).2.1 (TX5 7).2.2.1 ∈ lw_tbl := by decide +kernel
theorem lt_fl_X0_76 : Cond.fieldLink RX0 76 (TX5 0).1 (TX5 0).2.1 (TX5 0).2.2.1 ∈ lw_tbl := by decide +kernel
theorem lt_fl_X0_86 : Cond.fieldLink RX0 86 (TX5 9).1 (TX5 9).2.1 (TX5 9).2.2.1 ∈ lw_tbl := by decide +kernel
theorem lt_fl_X1_11 : Cond.fieldLink RX1 11 (TX1 0).1 (TX1 0).2.1 (TX1 0).2.2.1 ∈ lw_tbl := by decide +kernel
theorem lt_fl_X1_18 : Cond.fieldLink RX1 18 (TX1 1).1 (TX1 1).2.1 (TX1 1).2.2.1 ∈ lw_tbl := by decide +kernel
theorem lt_fl_X1_22 : Cond.fieldLink RX1 22 (TX1 2).1 (TX1 2).2.1 (TX1 2).2.2.1 ∈ lw_tbl := by decide +kernel
theorem lt_fl_X6_9 : Cond.fieldLink RX6 9 (TX6 0).1 (TX6 0).2.1 (TX6 0).2.2.1 ∈ lw_tbl := by decide +kernel
theorem lt_fl_X6_15 : Cond.fieldLink RX6 15 (TX6 1).1 (TX6 1).2.1 (TX6 1).2.2.1 ∈ lw_tbl := by decide +kernel
theorem lt_fl_X2_12 : Cond.fieldLink RX2 12 (TX2 0).1 (TX2 0).2.1 (TX2 0).2.2.1 ∈ lw_tbl := by decide +kernel
theorem lt_fl_X2_18 : Cond.fieldLink RX2 18 (TX2 1).1 (TX2 1).2.1 (TX2 1).2.2.1 ∈ lw_tbl := by decide +kernel
theorem lt_fl_X2_21 : Cond.fieldLink RX2 21 (TX2 2).1 (TX2 2).2.1 (TX2 2).2.2.1 ∈ lw_tbl := by decide +kernel
theorem lt_fl_X2_25 : Cond.fieldLink RX2 25 (TX2 3).1 (TX2 3).2.1 (TX2 3).2.2.1 ∈ lw_tbl := by decide +kernel
theorem lt_fl_X2_28 : Cond.fieldLink RX2 28 (TX2 4).1 (TX2 4).2.1 (TX2 4).2.2.1 ∈ lw_tbl := by decide +kernel
theorem lt_fl_X2_31 : Cond.fieldLink RX2 31 (TX2 5).1 (TX2 5).2.1 (TX2 5).2.2.1 ∈ lw_tbl := by decide +kernel
theorem lt_fl_X2_34 : Cond.fieldLink RX2 34 (TX2 6).1 (TX2 6).2.1 (TX2 6).2.2.1 ∈ lw_tbl := by decide +kernel
theorem lt_fl_X2_37 : Cond.fieldLink RX2 37 (TX2 7).1 (TX2 7).2.1 (TX2 7).2.2.1 ∈ lw_tbl := by decide +kernel
theorem lt_fl_X2_62 : Cond.fieldLink RX2 62 (TX2 8).1 (TX2 8).2.1 (TX2 8).2.2.1 ∈ lw_tbl := by decide +kernel
theorem lt_fl_X2_65 : Cond.fieldLink RX2 65 (TX2 9).1 (TX2 9).2.1 (TX2 9).2.2.1 ∈ lw_tbl := by decide +kernel
theorem lt_fl_X2_41 : Cond.fieldLink RX2 41 (TX0 4).1 (TX0 4).2.1 (TX0 4).2.2.1 ∈ lw_tbl := by decide +kernel
theorem lt_fl_X2_50 : Cond.fieldLink RX2 50 (TX0 0).1 (TX0 0).2.1 (TX0 0).2.2.1 ∈ lw_tbl := by decide +kernel
theorem lt_fl_X2_54 : Cond.fieldLink RX2 54 (TX5 0).1 (TX5 0).2.1 (TX5 0).2.2.1 ∈ lw_tbl := by decide +kernel
theorem lt_fl_X2_91 : Cond.fieldLink RX2 91 (TX5 6).1 (TX5 6).2.1 (TX5 6).2.2.1 ∈ lw_tbl := by decide +kernel
theorem lt_fl_X3_9 : Cond.fieldLink RX3 9 (TX3 2).1 (TX3 2).2.1 (TX3 2).2.2.1 ∈ lw_tbl := by decide +kernel
theorem lt_fl_X3_15 : Cond.fieldLink RX3 15 (TX3 3).1 (TX3 3).2.1 (TX3 3).2.2.1 ∈ lw_tbl := by decide +kernel
theorem lt_fl_X3_42 : Cond.fieldLink RX3 42 (TX3 6).1 (TX3 6).2.1 (TX3 6).2.2.1 ∈ lw_tbl := by decide +kernel
theorem lt_fl_X3_82 : Cond.fieldLink RX3 82 (TX3 8).1 (TX3 8).2.1 (TX3 8).2.2.1 ∈ lw_tbl := by decide +kernel
theorem lt_fl_X3_79 : Cond.fieldLink RX3 79 (TX3 7).1 (TX3 7).2.1 (TX3 7).2.2.1 ∈ lw_tbl := by decide +kernel
theorem lt_fl_X3_31 : Cond.fieldLink RX3 31 (TX3 4).1 (TX3 4).2.1 (TX3 4).2.2.1 ∈ lw_tbl := by decide +kernel
theorem lt_fl_X3_95 : Cond.fieldLink RX3 95 (TX3 10).1 (TX3 10).2.1 (TX3 10).2.2.1 ∈ lw_tbl := by decide +kernel
theorem lt_fl_X3_24 : Cond.fieldLink RX3 24 (TX3 0).1 (TX3 0).2.1 (TX3 0).2.2.1 ∈ lw_tbl := by decide +kernel
theorem lt_fl_X3_30 : Cond.fieldLink RX3 30 (TX3 1).1 (TX3 1).2.1 (TX3 1).2.2.1 ∈ lw_tbl := by decide +kernel
theorem lt_fl_X3_85 : Cond.fieldLink RX3 85 (TX3 9).1 (TX3 9).2.1 (TX3 9).2.2.1 ∈ lw_tbl := by decide +kernel
theorem lt_fl_X3_34 : Cond.fieldLink RX3 34 (TX3 5).1 (TX3 5).2.1 (TX3 5).2.2.1 ∈ lw_tbl := by decide +kernel
theorem lt_fl_X3_45 : Cond.fieldLink RX3 45 (TX7 1).1 (TX7 1).2.1 (TX7 1).2.2.1 ∈ lw_tbl := by decide +kernel
theorem lt_fl_X3_50 : Cond.fieldLink RX3 50 (TX7 0).1 (TX7 0).2.1 (TX7 0).2.2.1 ∈ lw_tbl := by decide +kernel
theorem lt_fl_X3_18 : Cond.fieldLink RX3 18 (TX5 2).1 (TX5 2).2.1 (TX5 2).2.2.1 ∈ lw_tbl := by decide +kernel
theorem lt_fl_X3_27 : Cond.fieldLink RX3 27 (TX5 3).1 (TX5 3).2.1 (TX5 3).2.2.1 ∈ lw_tbl := by decide +kernel
theorem lt_fl_X4_9 : Cond.fieldLink RX4 9 (TX4 0).1 (TX4 0).2.1 (TX4 0).2.2.1 ∈ lw_tbl := by decide +kernel
theorem lt_fl_X4_15 : Cond.fieldLink RX4 15 (TX4 1).1 (TX4 1).2.1 (TX4 1).2.2.1 ∈ lw_tbl := by decide +kernel
theorem lt_fl_X4_18 : Cond.fieldLink RX4 18 (TX4 2).1 (TX4 2).2.1 (TX4 2).2.2.1 ∈ lw_tbl := by decide +kernel
theorem lt_fl_X4_47 : Cond.fieldLink RX4 47 (TX0 0).1 (TX0 0).2.1 (TX0 0).2.2.1 ∈ lw_tbl := by decide +kernel
theorem lt_fl_X4_58 : Cond.fieldLink RX4 58 (TX5 7).1 (TX5 7).2.1 (TX5 7).2.2.1 ∈ lw_tbl := by decide +kernel
theorem lt_fl_X4_51 : Cond.fieldLink RX4 51 (TX5 6).1 (TX5 6).2.1 (TX5 6).2.2.1 ∈ lw_tbl := by decide +kernel
theorem lt_fl_X4_56 : Cond.fieldLink RX4 56 (TX5 0).1 (TX5 0).2.1 (TX5 0).2.2.1 ∈ lw_tbl := by decide +kernel
theorem lt_fl_X4_35 : Cond.fieldLink RX4 35 (TX0 4).1 (TX0 4).2.1 (TX0 4).2.2.1 ∈ lw_tbl := by decide +kernel
theorem lt_fl_X4_76 : Cond.fieldLink RX4 76 (TX0 3).1 (TX0 3).2.1 (TX0 3).2.2.1 ∈ lw_tbl := by decide +kernel
theorem lt_fl_X4_79 : Cond.fieldLink RX4 79 (TX0 2).1 (TX0 2).2.1 (TX0 2).2.2.1 ∈ lw_tbl := by decide +kernel
theorem lt_fl_X4_82 : Cond.fieldLink RX4 82 (TX0 5).1 (TX0 5).2.1 (TX0 5).2.2.1 ∈ lw_tbl := by decide +kernel
theorem lt_fl_X4_85 : Cond.fieldLink RX4 85 (TX5 8).1 (TX5 8).2.1 (TX5 8).2.2.1 ∈ lw_tbl := by decide +kernel
theorem lt_fl_X4_88 : Cond.fieldLink RX4 88 (TX5 9).1 (TX5 9).2.1 (TX5 9).2.2.1 ∈ lw_tbl := by decide +kernel
theorem lt_fl_X4_91 : Cond.fieldLink RX4 91 (TX0 6).1 (TX0 6).2.1 (TX0 6).2.2.1 ∈ lw_tbl := by decide +kernel
theorem lt_fl_X4_92 : Cond.fieldLink RX4 92 (TX5 10).1 (TX5 10).2.1 (TX5 10).2.2.1 ∈ lw_tbl := by decide +kernel
theorem lt_fl_X4_95 : Cond.fieldLink RX4 95 (TX0 7).1 (TX0 7).2.1 (TX0 7).2.2.1 ∈ lw_tbl := by decide +kernel
theorem lt_fl_X7_9 : Cond.fieldLink RX7 9 (TX7 0).1 (TX7 0).2.1 (TX7 0).2.2.1 ∈ lw_tbl := by decide +kernel
theorem lt_fl_X8_10 : Cond.fieldLink RX8 10 (TX8 0).1 (TX8 0).2.1 (TX8 0).2.2.1 ∈ lw_tbl := by decide +kernel
theorem lt_fl_X8_19 : Cond.fieldLink RX8 19 (TX8 1).1 (TX8 1).2.1 (TX8 1).2.2.1 ∈ lw_tbl := by decide +kernel
theorem lt_fl_X8_23 : Cond.fieldLink RX8 23 (TX8 2).1 (TX8 2).2.1 (TX8 2).2.2.1 ∈ lw_tbl := by decide +kernel
theorem lt_fl_X8_27 : Cond.fieldLink RX8 27 (TX8 3).1 (TX8 3).2.1 (TX8 3).2.2.1 ∈ lw_tbl := by decide +kernel
theorem lt_fl_X8_34 : Cond.fieldLink RX8 34 (TX8 4).1 (TX8 4).2.1 (TX8 4).2.2.1 ∈ lw_tbl := by decide +kernel
theorem lt_fl_X8_41 : Cond.fieldLink RX8 41 (TX8 5).1 (TX8 5).2.1 (TX8 5).2.2.1 ∈ lw_tbl := by decide +kernel
theorem lt_fl_X8_48 : Cond.fieldLink RX8 48 (TX8 6).1 (TX8 6).2.1 (TX8 6).2.2.1 ∈ lw_tbl := by decide +kernel
theorem lt_fl_X8_55 : Cond.fieldLink RX8 55 (TX8 7).1 (TX8 7).2.1 (TX8 7).2.2.1 ∈ lw_tbl := by decide +kernel
theorem lt_fl_X8_59 : Cond.fieldLink RX8 59 (TX0 4).1 (TX0 4).2.1 (TX0 4).2.2.1 ∈ lw_tbl := by decide +kernel
theorem lt_fs_X8_82 : Cond.fieldLink RX8 82 "ChoirBook" "SETTING_LEAST" "[I" ∈ lw_tbl := by decide +kernel
theorem lt_fs_X8_86 : Cond.fieldLink RX8 86 "ChoirBook" "SETTING_MOST" "[I" ∈ lw_tbl := by decide +kernel
theorem lt_fl_X8_89 : Cond.fieldLink RX8 89 (TX0 1).1 (TX0 1).2.1 (TX0 1).2.2.1 ∈ lw_tbl := by decide +kernel
theorem lt_fl_X8_92 : Cond.fieldLink RX8 92 (TX0 0).1 (TX0 0).2.1 (TX0 0).2.2.1 ∈ lw_tbl := by decide +kernel
theorem lt_fl_X8_100 : Cond.fieldLink RX8 100 (TX3 0).1 (TX3 0).2.1 (TX3 0).2.2.1 ∈ lw_tbl := by decide +kernel
theorem lt_fl_X8_104 : Cond.fieldLink RX8 104 (TX3 1).1 (TX3 1).2.1 (TX3 1).2.2.1 ∈ lw_tbl := by decide +kernel
theorem lt_fl_X8_113 : Cond.fieldLink RX8 113 (TX5 5).1 (TX5 5).2.1 (TX5 5).2.2.1 ∈ lw_tbl := by decide +kernel
theorem lt_fl_X8_123 : Cond.fieldLink RX8 123 (TX5 6).1 (TX5 6).2.1 (TX5 6).2.2.1 ∈ lw_tbl := by decide +kernel
theorem lt_fl_X8_133 : Cond.fieldLink RX8 133 (TX2 8).1 (TX2 8).2.1 (TX2 8).2.2.1 ∈ lw_tbl := by decide +kernel
theorem lt_fl_X8_144 : Cond.fieldLink RX8 144 (TX5 7).1 (TX5 7).2.1 (TX5 7).2.2.1 ∈ lw_tbl := by decide +kernel
theorem lt_fl_X8_152 : Cond.fieldLink RX8 152 (TX0 5).1 (TX0 5).2.1 (TX0 5).2.2.1 ∈ lw_tbl := by decide +kernel
theorem lt_fl_X8_162 : Cond.fieldLink RX8 162 (TX1 2).1 (TX1 2).2.1 (TX1 2).2.2.1 ∈ lw_tbl := by decide +kernel
theorem lt_fl_X8_168 : Cond.fieldLink RX8 168 (TX7 1).1 (TX7 1).2.1 (TX7 1).2.2.1 ∈ lw_tbl := by decide +kernel
theorem lt_fl_X8_171 : Cond.fieldLink RX8 171 (TX7 0).1 (TX7 0).2.1 (TX7 0).2.2.1 ∈ lw_tbl := by decide +kernel
theorem lt_fl_X8_186 : Cond.fieldLink RX8 186 (TX0 6).1 (TX0 6).2.1 (TX0 6).2.2.1 ∈ lw_tbl := by decide +kernel
theorem lt_fl_X8_189 : Cond.fieldLink RX8 189 (TX0 7).1 (TX0 7).2.1 (TX0 7).2.2.1 ∈ lw_tbl := by decide +kernel
theorem lt_fl_X8_192 : Cond.fieldLink RX8 192 (TX5 0).1 (TX5 0).2.1 (TX5 0).2.2.1 ∈ lw_tbl := by decide +kernel
theorem lt_fl_X8_195 : Cond.fieldLink RX8 195 (TX5 1).1 (TX5 1).2.1 (TX5 1).2.2.1 ∈ lw_tbl := by decide +kernel
theorem lt_fl_X8_198 : Cond.fieldLink RX8 198 (TX5 4).1 (TX5 4).2.1 (TX5 4).2.2.1 ∈ lw_tbl := by decide +kernel
theorem lt_fl_X8_205 : Cond.fieldLink RX8 205 (TX5 8).1 (TX5 8).2.1 (TX5 8).2.2.1 ∈ lw_tbl := by decide +kernel
theorem lt_fl_X8_206 : Cond.fieldLink RX8 206 (TX5 9).1 (TX5 9).2.1 (TX5 9).2.2.1 ∈ lw_tbl := by decide +kernel
theorem lt_fl_X8_209 : Cond.fieldLink RX8 209 (TX5 10).1 (TX5 10).2.1 (TX5 10).2.2.1 ∈ lw_tbl := by decide +kernel
theorem lt_fl_X8_210 : Cond.fieldLink RX8 210 (TX5 2).1 (TX5 2).2.1 (TX5 2).2.2.1 ∈ lw_tbl := by decide +kernel
theorem lt_fl_X8_213 : Cond.fieldLink RX8 213 (TX5 3).1 (TX5 3).2.1 (TX5 3).2.2.1 ∈ lw_tbl := by decide +kernel
theorem lt_fl_X8_225 : Cond.fieldLink RX8 225 (TX0 3).1 (TX0 3).2.1 (TX0 3).2.2.1 ∈ lw_tbl := by decide +kernel
theorem lt_fl_X8_231 : Cond.fieldLink RX8 231 (TX4 2).1 (TX4 2).2.1 (TX4 2).2.2.1 ∈ lw_tbl := by decide +kernel
theorem lt_fl_X8_243 : Cond.fieldLink RX8 243 (TX0 2).1 (TX0 2).2.1 (TX0 2).2.2.1 ∈ lw_tbl := by decide +kernel
theorem lt_fl_X8_247 : Cond.fieldLink RX8 247 (TX4 0).1 (TX4 0).2.1 (TX4 0).2.2.1 ∈ lw_tbl := by decide +kernel
theorem lt_ml_X5_3 : Cond.methodLink RX5 3 Lib.objectInit ∈ lw_tbl := by decide +kernel
theorem lt_ml_X0_3 : Cond.methodLink RX0 3 Lib.objectInit ∈ lw_tbl := by decide +kernel
theorem lt_ml_X0_39 : Cond.methodLink RX0 39 arraycopyName ∈ lw_tbl := by decide +kernel
theorem lt_ml_X0_35 : Cond.methodLink RX0 35 yX5_copyFrom ∈ lw_tbl := by decide +kernel
theorem lt_ml_X5_18 : Cond.methodLink RX5 18 yX5_learn ∈ lw_tbl := by decide +kernel
theorem lt_ml_X0_54 : Cond.methodLink RX0 54 yX5_begin ∈ lw_tbl := by decide +kernel
theorem lt_ml_X5_59 : Cond.methodLink RX5 59 Lib.Math.max.name ∈ lw_tbl := by decide +kernel
theorem lt_ml_X5_65 : Cond.methodLink RX5 65 Lib.Math.min.name ∈ lw_tbl := by decide +kernel
theorem lt_ml_X0_58 : Cond.methodLink RX0 58 yX5_notesIn ∈ lw_tbl := by decide +kernel
theorem lt_ml_X0_62 : Cond.methodLink RX0 62 yX0_fits ∈ lw_tbl := by decide +kernel
theorem lt_ml_X0_66 : Cond.methodLink RX0 66 yX0_members ∈ lw_tbl := by decide +kernel
theorem lt_ml_X0_79 : Cond.methodLink RX0 79 yX0_strengthPresent ∈ lw_tbl := by decide +kernel
theorem lt_ml_X0_82 : Cond.methodLink RX0 82 yX0_covers ∈ lw_tbl := by decide +kernel
theorem lt_ml_X0_89 : Cond.methodLink RX0 89 Lib.Math.max.name ∈ lw_tbl := by decide +kernel
theorem lt_ml_X0_95 : Cond.methodLink RX0 95 yX0_width ∈ lw_tbl := by decide +kernel
theorem lt_ml_X0_99 : Cond.methodLink RX0 99 yX0_rows ∈ lw_tbl := by decide +kernel
theorem lt_ml_X0_102 : Cond.methodLink RX0 102 yX5_sitsBefore ∈ lw_tbl := by decide +kernel
theorem lt_ml_X1_3 : Cond.methodLink RX1 3 Lib.objectInit ∈ lw_tbl := by decide +kernel
theorem lt_ml_X1_17 : Cond.methodLink RX1 17 yX0_init ∈ lw_tbl := by decide +kernel
theorem lt_ml_X1_25 : Cond.methodLink RX1 25 yX0_copyFrom ∈ lw_tbl := by decide +kernel
theorem lt_ml_X6_3 : Cond.methodLink RX6 3 Lib.objectInit ∈ lw_tbl := by decide +kernel
theorem lt_ml_X2_3 : Cond.methodLink RX2 3 Lib.objectInit ∈ lw_tbl := by decide +kernel
theorem lt_ml_X2_11 : Cond.methodLink RX2 11 yX6_init ∈ lw_tbl := by decide +kernel
theorem lt_ml_X2_76 : Cond.methodLink RX2 76 yX6_addVoice ∈ lw_tbl := by decide +kernel
theorem lt_ml_X6_18 : Cond.methodLink RX6 18 yX6_gives ∈ lw_tbl := by decide +kernel
theorem lt_ml_X2_83 : Cond.methodLink RX2 83 Lib.Math.min.name ∈ lw_tbl := by decide +kernel
theorem lt_ml_X2_88 : Cond.methodLink RX2 88 Lib.Math.max.name ∈ lw_tbl := by decide +kernel
theorem lt_ml_X2_79 : Cond.methodLink RX2 79 yX6_evenest ∈ lw_tbl := by decide +kernel
theorem lt_ml_X2_46 : Cond.methodLink RX2 46 yX0_fittingParts ∈ lw_tbl := by decide +kernel
theorem lt_ml_X2_58 : Cond.methodLink RX2 58 yX2_addVoice ∈ lw_tbl := by decide +kernel
theorem lt_ml_X2_68 : Cond.methodLink RX2 68 yX2_weighPairs ∈ lw_tbl := by decide +kernel
theorem lt_ml_X6_26 : Cond.methodLink RX6 26 yX6_bits ∈ lw_tbl := by decide +kernel
theorem lt_ml_X2_105 : Cond.methodLink RX2 105 yX6_reaches ∈ lw_tbl := by decide +kernel
theorem lt_ml_X2_101 : Cond.methodLink RX2 101 yX2_pairCanReach ∈ lw_tbl := by decide +kernel
theorem lt_ml_X2_97 : Cond.methodLink RX2 97 yX2_canFinish ∈ lw_tbl := by decide +kernel
theorem lt_ml_X2_94 : Cond.methodLink RX2 94 yX2_firstGoodPart ∈ lw_tbl := by decide +kernel
theorem lt_ml_X3_3 : Cond.methodLink RX3 3 Lib.objectInit ∈ lw_tbl := by decide +kernel
theorem lt_ml_X3_76 : Cond.methodLink RX3 76 yX3_fail ∈ lw_tbl := by decide +kernel
theorem lt_ml_X3_88 : Cond.methodLink RX3 88 yX3_numberStands ∈ lw_tbl := by decide +kernel
theorem lt_ml_X3_91 : Cond.methodLink RX3 91 yX3_closeWord ∈ lw_tbl := by decide +kernel
theorem lt_ml_X3_62 : Cond.methodLink RX3 62 yX3_inNumber ∈ lw_tbl := by decide +kernel
theorem lt_ml_X3_66 : Cond.methodLink RX3 66 yX3_takeDigit ∈ lw_tbl := by decide +kernel
theorem lt_ml_X3_69 : Cond.methodLink RX3 69 yX3_takeBehindNumber ∈ lw_tbl := by decide +kernel
theorem lt_ml_X3_72 : Cond.methodLink RX3 72 yX3_beginNumber ∈ lw_tbl := by decide +kernel
theorem lt_ml_X3_54 : Cond.methodLink RX3 54 yX3_take ∈ lw_tbl := by decide +kernel
theorem lt_ml_X3_58 : Cond.methodLink RX3 58 yX3_end ∈ lw_tbl := by decide +kernel
theorem lt_ml_X3_38 : Cond.methodLink RX3 38 yX3_read ∈ lw_tbl := by decide +kernel
theorem lt_ml_X4_3 : Cond.methodLink RX4 3 Lib.objectInit ∈ lw_tbl := by decide +kernel
theorem lt_ml_X4_65 : Cond.methodLink RX4 65 yX0_fits ∈ lw_tbl := by decide +kernel
theorem lt_ml_X4_39 : Cond.methodLink RX4 39 yX0_covers ∈ lw_tbl := by decide +kernel
theorem lt_ml_X4_43 : Cond.methodLink RX4 43 yX4_canStandIn ∈ lw_tbl := by decide +kernel
theorem lt_ml_X4_69 : Cond.methodLink RX4 69 yX0_rested ∈ lw_tbl := by decide +kernel
theorem lt_ml_X4_73 : Cond.methodLink RX4 73 yX5_singsBefore ∈ lw_tbl := by decide +kernel
theorem lt_ml_X4_21 : Cond.methodLink RX4 21 yX0_strengthPresent ∈ lw_tbl := by decide +kernel
theorem lt_ml_X4_27 : Cond.methodLink RX4 27 yX4_findStandIns ∈ lw_tbl := by decide +kernel
theorem lt_ml_X4_31 : Cond.methodLink RX4 31 yX4_findSoloist ∈ lw_tbl := by decide +kernel
theorem lt_ml_X7_3 : Cond.methodLink RX7 3 Lib.objectInit ∈ lw_tbl := by decide +kernel
theorem lt_ml_X8_1 : Cond.methodLink RX8 1 Lib.objectInit ∈ lw_tbl := by decide +kernel
theorem lt_ml_X8_9 : Cond.methodLink RX8 9 yX0_init ∈ lw_tbl := by decide +kernel
theorem lt_ml_X8_18 : Cond.methodLink RX8 18 yX1_init ∈ lw_tbl := by decide +kernel
theorem lt_ml_X8_33 : Cond.methodLink RX8 33 yX7_init ∈ lw_tbl := by decide +kernel
theorem lt_ml_X8_40 : Cond.methodLink RX8 40 yX3_init ∈ lw_tbl := by decide +kernel
theorem lt_ml_X8_47 : Cond.methodLink RX8 47 yX4_init ∈ lw_tbl := by decide +kernel
theorem lt_ml_X8_54 : Cond.methodLink RX8 54 yX2_init ∈ lw_tbl := by decide +kernel
theorem lt_ml_X8_63 : Cond.methodLink RX8 63 yX1_record ∈ lw_tbl := by decide +kernel
theorem lt_ml_X8_67 : Cond.methodLink RX8 67 yX0_join ∈ lw_tbl := by decide +kernel
theorem lt_ml_X8_71 : Cond.methodLink RX8 71 yX0_has ∈ lw_tbl := by decide +kernel
theorem lt_ml_X8_75 : Cond.methodLink RX8 75 yX0_dismiss ∈ lw_tbl := by decide +kernel
theorem lt_ml_X8_79 : Cond.methodLink RX8 79 yX8_isSetting ∈ lw_tbl := by decide +kernel
theorem lt_ml_X8_96 : Cond.methodLink RX8 96 yX3_readTests ∈ lw_tbl := by decide +kernel
theorem lt_ml_X8_107 : Cond.methodLink RX8 107 yX5_learn ∈ lw_tbl := by decide +kernel
theorem lt_ml_X8_116 : Cond.methodLink RX8 116 yX8_isPart ∈ lw_tbl := by decide +kernel
theorem lt_ml_X8_119 : Cond.methodLink RX8 119 yX0_fits ∈ lw_tbl := by decide +kernel
theorem lt_ml_X8_126 : Cond.methodLink RX8 126 yX2_weigh ∈ lw_tbl := by decide +kernel
theorem lt_ml_X8_130 : Cond.methodLink RX8 130 yX2_choose ∈ lw_tbl := by decide +kernel
theorem lt_ml_X8_136 : Cond.methodLink RX8 136 yX3_readAbsent ∈ lw_tbl := by decide +kernel
theorem lt_ml_X8_140 : Cond.methodLink RX8 140 yX8_contains ∈ lw_tbl := by decide +kernel
theorem lt_ml_X8_148 : Cond.methodLink RX8 148 yX0_absent ∈ lw_tbl := by decide +kernel
theorem lt_ml_X8_155 : Cond.methodLink RX8 155 yX4_plan ∈ lw_tbl := by decide +kernel
theorem lt_ml_X8_158 : Cond.methodLink RX8 158 yX4_happen ∈ lw_tbl := by decide +kernel
theorem lt_ml_X8_165 : Cond.methodLink RX8 165 yX1_restore ∈ lw_tbl := by decide +kernel
theorem lt_ml_X8_180 : Cond.methodLink RX8 180 yX0_placed ∈ lw_tbl := by decide +kernel
theorem lt_ml_X8_183 : Cond.methodLink RX8 183 yX0_coveredParts ∈ lw_tbl := by decide +kernel
theorem lt_ml_X8_201 : Cond.methodLink RX8 201 yX0_fittingParts ∈ lw_tbl := by decide +kernel
theorem lt_ml_X8_214 : Cond.methodLink RX8 214 yX5_notesIn ∈ lw_tbl := by decide +kernel
theorem lt_ml_X8_217 : Cond.methodLink RX8 217 yX0_members ∈ lw_tbl := by decide +kernel
theorem lt_ml_X8_220 : Cond.methodLink RX8 220 yX0_strength ∈ lw_tbl := by decide +kernel
theorem lt_ml_X8_222 : Cond.methodLink RX8 222 yX0_strengthPresent ∈ lw_tbl := by decide +kernel
theorem lt_ml_X8_228 : Cond.methodLink RX8 228 yX0_rows ∈ lw_tbl := by decide +kernel
theorem lt_ml_X8_234 : Cond.methodLink RX8 234 yX0_seatedBefore ∈ lw_tbl := by decide +kernel
theorem lt_ml_X8_237 : Cond.methodLink RX8 237 yX0_rowsBefore ∈ lw_tbl := by decide +kernel
theorem lt_ml_X8_240 : Cond.methodLink RX8 240 yX0_width ∈ lw_tbl := by decide +kernel
theorem lt_ml_X8_250 : Cond.methodLink RX8 250 yX0_rested ∈ lw_tbl := by decide +kernel
theorem lt_ml_X8_254 : Cond.methodLink RX8 254 yX8_isImage ∈ lw_tbl := by decide +kernel
theorem lt_ml_X8_257 : Cond.methodLink RX8 257 yX0_copyFrom ∈ lw_tbl := by decide +kernel
theorem lt_ml_L_9 : Cond.methodLink RL 9 yX8_write ∈ lw_tbl := by decide +kernel
theorem lt_ml_L_15 : Cond.methodLink RL 15 yX8_wipe ∈ lw_tbl := by decide +kernel
theorem lt_ml_L_19 : Cond.methodLink RL 19 yL_low ∈ lw_tbl := by decide +kernel
theorem lt_ml_L_25 : Cond.methodLink RL 25 yL_number ∈ lw_tbl := by decide +kernel
theorem lt_ml_L_29 : Cond.methodLink RL 29 yX8_test ∈ lw_tbl := by decide +kernel
theorem lt_ml_L_32 : Cond.methodLink RL 32 yX8_told ∈ lw_tbl := by decide +kernel
theorem lt_ml_L_35 : Cond.methodLink RL 35 yX8_attendance ∈ lw_tbl := by decide +kernel
theorem lt_ml_L_38 : Cond.methodLink RL 38 yX8_add ∈ lw_tbl := by decide +kernel
theorem lt_ml_L_41 : Cond.methodLink RL 41 yX8_hold ∈ lw_tbl := by decide +kernel
theorem lt_ml_L_44 : Cond.methodLink RL 44 yX8_remove ∈ lw_tbl := by decide +kernel
theorem lt_ml_L_47 : Cond.methodLink RL 47 yX8_set ∈ lw_tbl := by decide +kernel
theorem lt_ml_L_50 : Cond.methodLink RL 50 yL_test ∈ lw_tbl := by decide +kernel
theorem lt_ml_L_53 : Cond.methodLink RL 53 yX8_place ∈ lw_tbl := by decide +kernel
theorem lt_ml_L_56 : Cond.methodLink RL 56 yX8_placeAll ∈ lw_tbl := by decide +kernel
theorem lt_ml_L_59 : Cond.methodLink RL 59 yL_attendance ∈ lw_tbl := by decide +kernel
theorem lt_ml_L_61 : Cond.methodLink RL 61 yX8_undo ∈ lw_tbl := by decide +kernel
theorem lt_ml_L_64 : Cond.methodLink RL 64 yX8_keep ∈ lw_tbl := by decide +kernel
theorem lt_ml_L_67 : Cond.methodLink RL 67 yX8_back ∈ lw_tbl := by decide +kernel
theorem lt_ml_L_70 : Cond.methodLink RL 70 yX8_singer ∈ lw_tbl := by decide +kernel
theorem lt_ml_L_73 : Cond.methodLink RL 73 yX8_note ∈ lw_tbl := by decide +kernel
theorem lt_ml_L_76 : Cond.methodLink RL 76 yX8_overlap ∈ lw_tbl := by decide +kernel
theorem lt_ml_L_79 : Cond.methodLink RL 79 yX8_setting ∈ lw_tbl := by decide +kernel
theorem lt_ml_L_82 : Cond.methodLink RL 82 yX8_seat ∈ lw_tbl := by decide +kernel
theorem lt_ml_L_85 : Cond.methodLink RL 85 yX8_part ∈ lw_tbl := by decide +kernel
theorem lt_ml_L_88 : Cond.methodLink RL 88 yX8_mean ∈ lw_tbl := by decide +kernel
theorem lt_ml_L_93 : Cond.methodLink RL 93 yX8_passedOver ∈ lw_tbl := by decide +kernel
theorem lt_ml_L_96 : Cond.methodLink RL 96 yX8_standIn ∈ lw_tbl := by decide +kernel
theorem lt_ml_L_99 : Cond.methodLink RL 99 yX8_solo ∈ lw_tbl := by decide +kernel
theorem lt_ml_L_102 : Cond.methodLink RL 102 yX8_without ∈ lw_tbl := by decide +kernel
theorem lt_ml_L_105 : Cond.methodLink RL 105 yX8_init ∈ lw_tbl := by decide +kernel
theorem lt_ml_L_106 : Cond.methodLink RL 106 yL_cell ∈ lw_tbl := by decide +kernel
theorem lt_ml_L_110 : Cond.methodLink RL 110 yL_change ∈ lw_tbl := by decide +kernel
theorem lt_ml_L_114 : Cond.methodLink RL 114 yL_isRange ∈ lw_tbl := by decide +kernel
theorem lt_ml_L_118 : Cond.methodLink RL 118 yL_areParts ∈ lw_tbl := by decide +kernel
theorem lt_ml_L_122 : Cond.methodLink RL 122 yL_isHeld ∈ lw_tbl := by decide +kernel
theorem lt_ml_L_125 : Cond.methodLink RL 125 yL_areAlike ∈ lw_tbl := by decide +kernel
theorem lt_st_L_areAlike : Cond.static yL_areAlike ∈ lw_tbl := by decide +kernel
theorem lt_st_L_areParts : Cond.static yL_areParts ∈ lw_tbl := by decide +kernel
theorem lt_st_L_attendance : Cond.static yL_attendance ∈ lw_tbl := by decide +kernel
theorem lt_st_L_cell : Cond.static yL_cell ∈ lw_tbl := by decide +kernel
theorem lt_st_L_change : Cond.static yL_change ∈ lw_tbl := by decide +kernel
theorem lt_st_L_isHeld : Cond.static yL_isHeld ∈ lw_tbl := by decide +kernel
theorem lt_st_L_isRange : Cond.static yL_isRange ∈ lw_tbl := by decide +kernel
theorem lt_st_L_low : Cond.static yL_low ∈ lw_tbl := by decide +kernel
theorem lt_st_L_number : Cond.static yL_number ∈ lw_tbl := by decide +kernel
theorem lt_st_L_test : Cond.static yL_test ∈ lw_tbl := by decide +kernel
theorem lt_st_X6_bits : Cond.static yX6_bits ∈ lw_tbl := by decide +kernel
theorem lt_st_X8_contains : Cond.static yX8_contains ∈ lw_tbl := by decide +kernel
theorem lt_st_X8_isImage : Cond.static yX8_isImage ∈ lw_tbl := by decide +kernel
theorem lt_st_X8_isPart : Cond.static yX8_isPart ∈ lw_tbl := by decide +kernel
theorem lt_st_X8_isSetting : Cond.static yX8_isSetting ∈ lw_tbl := by decide +kernel
theorem lt_im_X0_absent : Cond.instanceMethod yX0_absent ∈ lw_tbl := by decide +kernel
theorem lt_im_X0_copyFrom : Cond.instanceMethod yX0_copyFrom ∈ lw_tbl := by decide +kernel
theorem lt_im_X0_coveredParts : Cond.instanceMethod yX0_coveredParts ∈ lw_tbl := by decide +kernel
theorem lt_im_X0_covers : Cond.instanceMethod yX0_covers ∈ lw_tbl := by decide +kernel
theorem lt_im_X0_dismiss : Cond.instanceMethod yX0_dismiss ∈ lw_tbl := by decide +kernel
theorem lt_im_X0_fits : Cond.instanceMethod yX0_fits ∈ lw_tbl := by decide +kernel
theorem lt_im_X0_fittingParts : Cond.instanceMethod yX0_fittingParts ∈ lw_tbl := by decide +kernel
theorem lt_im_X0_has : Cond.instanceMethod yX0_has ∈ lw_tbl := by decide +kernel
theorem lt_im_X0_init : Cond.instanceMethod yX0_init ∈ lw_tbl := by decide +kernel
theorem lt_im_X0_join : Cond.instanceMethod yX0_join ∈ lw_tbl := by decide +kernel
theorem lt_im_X0_members : Cond.instanceMethod yX0_members ∈ lw_tbl := by decide +kernel
theorem lt_im_X0_placed : Cond.instanceMethod yX0_placed ∈ lw_tbl := by decide +kernel
theorem lt_im_X0_rested : Cond.instanceMethod yX0_rested ∈ lw_tbl := by decide +kernel
theorem lt_im_X0_rows : Cond.instanceMethod yX0_rows ∈ lw_tbl := by decide +kernel
theorem lt_im_X0_rowsBefore : Cond.instanceMethod yX0_rowsBefore ∈ lw_tbl := by decide +kernel
theorem lt_im_X0_seatedBefore : Cond.instanceMethod yX0_seatedBefore ∈ lw_tbl := by decide +kernel
theorem lt_im_X0_strength : Cond.instanceMethod yX0_strength ∈ lw_tbl := by decide +kernel
theorem lt_im_X0_strengthPresent : Cond.instanceMethod yX0_strengthPresent ∈ lw_tbl := by decide +kernel
theorem lt_im_X0_width : Cond.instanceMethod yX0_width ∈ lw_tbl := by decide +kernel
theorem lt_im_X1_init : Cond.instanceMethod yX1_init ∈ lw_tbl := by decide +kernel
theorem lt_im_X1_record : Cond.instanceMethod yX1_record ∈ lw_tbl := by decide +kernel
theorem lt_im_X1_restore : Cond.instanceMethod yX1_restore ∈ lw_tbl := by decide +kernel
theorem lt_im_X2_addVoice : Cond.instanceMethod yX2_addVoice ∈ lw_tbl := by decide +kernel
theorem lt_im_X2_canFinish : Cond.instanceMethod yX2_canFinish ∈ lw_tbl := by decide +kernel
theorem lt_im_X2_choose : Cond.instanceMethod yX2_choose ∈ lw_tbl := by decide +kernel
theorem lt_im_X2_firstGoodPart : Cond.instanceMethod yX2_firstGoodPart ∈ lw_tbl := by decide +kernel
theorem lt_im_X2_init : Cond.instanceMethod yX2_init ∈ lw_tbl := by decide +kernel
theorem lt_im_X2_pairCanReach : Cond.instanceMethod yX2_pairCanReach ∈ lw_tbl := by decide +kernel
theorem lt_im_X2_weigh : Cond.instanceMethod yX2_weigh ∈ lw_tbl := by decide +kernel
theorem lt_im_X2_weighPairs : Cond.instanceMethod yX2_weighPairs ∈ lw_tbl := by decide +kernel
theorem lt_im_X3_beginNumber : Cond.instanceMethod yX3_beginNumber ∈ lw_tbl := by decide +kernel
theorem lt_im_X3_closeWord : Cond.instanceMethod yX3_closeWord ∈ lw_tbl := by decide +kernel
theorem lt_im_X3_end : Cond.instanceMethod yX3_end ∈ lw_tbl := by decide +kernel
theorem lt_im_X3_fail : Cond.instanceMethod yX3_fail ∈ lw_tbl := by decide +kernel
theorem lt_im_X3_inNumber : Cond.instanceMethod yX3_inNumber ∈ lw_tbl := by decide +kernel
theorem lt_im_X3_init : Cond.instanceMethod yX3_init ∈ lw_tbl := by decide +kernel
theorem lt_im_X3_numberStands : Cond.instanceMethod yX3_numberStands ∈ lw_tbl := by decide +kernel
theorem lt_im_X3_read : Cond.instanceMethod yX3_read ∈ lw_tbl := by decide +kernel
theorem lt_im_X3_readAbsent : Cond.instanceMethod yX3_readAbsent ∈ lw_tbl := by decide +kernel
theorem lt_im_X3_readTests : Cond.instanceMethod yX3_readTests ∈ lw_tbl := by decide +kernel
theorem lt_im_X3_take : Cond.instanceMethod yX3_take ∈ lw_tbl := by decide +kernel
theorem lt_im_X3_takeBehindNumber : Cond.instanceMethod yX3_takeBehindNumber ∈ lw_tbl := by decide +kernel
theorem lt_im_X3_takeDigit : Cond.instanceMethod yX3_takeDigit ∈ lw_tbl := by decide +kernel
theorem lt_im_X4_canStandIn : Cond.instanceMethod yX4_canStandIn ∈ lw_tbl := by decide +kernel
theorem lt_im_X4_findSoloist : Cond.instanceMethod yX4_findSoloist ∈ lw_tbl := by decide +kernel
theorem lt_im_X4_findStandIns : Cond.instanceMethod yX4_findStandIns ∈ lw_tbl := by decide +kernel
theorem lt_im_X4_happen : Cond.instanceMethod yX4_happen ∈ lw_tbl := by decide +kernel
theorem lt_im_X4_init : Cond.instanceMethod yX4_init ∈ lw_tbl := by decide +kernel
theorem lt_im_X4_plan : Cond.instanceMethod yX4_plan ∈ lw_tbl := by decide +kernel
theorem lt_im_X5_begin : Cond.instanceMethod yX5_begin ∈ lw_tbl := by decide +kernel
theorem lt_im_X5_copyFrom : Cond.instanceMethod yX5_copyFrom ∈ lw_tbl := by decide +kernel
theorem lt_im_X5_init : Cond.instanceMethod yX5_init ∈ lw_tbl := by decide +kernel
theorem lt_im_X5_learn : Cond.instanceMethod yX5_learn ∈ lw_tbl := by decide +kernel
theorem lt_im_X5_notesIn : Cond.instanceMethod yX5_notesIn ∈ lw_tbl := by decide +kernel
theorem lt_im_X5_singsBefore : Cond.instanceMethod yX5_singsBefore ∈ lw_tbl := by decide +kernel
theorem lt_im_X5_sitsBefore : Cond.instanceMethod yX5_sitsBefore ∈ lw_tbl := by decide +kernel
theorem lt_im_X6_addVoice : Cond.instanceMethod yX6_addVoice ∈ lw_tbl := by decide +kernel
theorem lt_im_X6_evenest : Cond.instanceMethod yX6_evenest ∈ lw_tbl := by decide +kernel
theorem lt_im_X6_gives : Cond.instanceMethod yX6_gives ∈ lw_tbl := by decide +kernel
theorem lt_im_X6_init : Cond.instanceMethod yX6_init ∈ lw_tbl := by decide +kernel
theorem lt_im_X6_reaches : Cond.instanceMethod yX6_reaches ∈ lw_tbl := by decide +kernel
theorem lt_im_X7_init : Cond.instanceMethod yX7_init ∈ lw_tbl := by decide +kernel
theorem lt_im_X8_add : Cond.instanceMethod yX8_add ∈ lw_tbl := by decide +kernel
theorem lt_im_X8_attendance : Cond.instanceMethod yX8_attendance ∈ lw_tbl := by decide +kernel
theorem lt_im_X8_back : Cond.instanceMethod yX8_back ∈ lw_tbl := by decide +kernel
theorem lt_im_X8_hold : Cond.instanceMethod yX8_hold ∈ lw_tbl := by decide +kernel
theorem lt_im_X8_init : Cond.instanceMethod yX8_init ∈ lw_tbl := by decide +kernel
theorem lt_im_X8_keep : Cond.instanceMethod yX8_keep ∈ lw_tbl := by decide +kernel
theorem lt_im_X8_mean : Cond.instanceMethod yX8_mean ∈ lw_tbl := by decide +kernel
theorem lt_im_X8_note : Cond.instanceMethod yX8_note ∈ lw_tbl := by decide +kernel
theorem lt_im_X8_overlap : Cond.instanceMethod yX8_overlap ∈ lw_tbl := by decide +kernel
theorem lt_im_X8_part : Cond.instanceMethod yX8_part ∈ lw_tbl := by decide +kernel
theorem lt_im_X8_passedOver : Cond.instanceMethod yX8_passedOver ∈ lw_tbl := by decide +kernel
theorem lt_im_X8_place : Cond.instanceMethod yX8_place ∈ lw_tbl := by decide +kernel
theorem lt_im_X8_placeAll : Cond.instanceMethod yX8_placeAll ∈ lw_tbl := by decide +kernel
theorem lt_im_X8_remove : Cond.instanceMethod yX8_remove ∈ lw_tbl := by decide +kernel
theorem lt_im_X8_seat : Cond.instanceMethod yX8_seat ∈ lw_tbl := by decide +kernel
theorem lt_im_X8_set : Cond.instanceMethod yX8_set ∈ lw_tbl := by decide +kernel
theorem lt_im_X8_setting : Cond.instanceMethod yX8_setting ∈ lw_tbl := by decide +kernel
theorem lt_im_X8_singer : Cond.instanceMethod yX8_singer ∈ lw_tbl := by decide +kernel
theorem lt_im_X8_solo : Cond.instanceMethod yX8_solo ∈ lw_tbl := by decide +kernel
theorem lt_im_X8_standIn : Cond.instanceMethod yX8_standIn ∈ lw_tbl := by decide +kernel
theorem lt_im_X8_test : Cond.instanceMethod yX8_test ∈ lw_tbl := by decide +kernel
theorem lt_im_X8_told : Cond.instanceMethod yX8_told ∈ lw_tbl := by decide +kernel
theorem lt_im_X8_undo : Cond.instanceMethod yX8_undo ∈ lw_tbl := by decide +kernel
theorem lt_im_X8_wipe : Cond.instanceMethod yX8_wipe ∈ lw_tbl := by decide +kernel
theorem lt_im_X8_without : Cond.instanceMethod yX8_without ∈ lw_tbl := by decide +kernel
theorem lt_im_X8_write : Cond.instanceMethod yX8_write ∈ lw_tbl := by decide +kernel
theorem lt_se_X0_absent : Cond.selects RX0 yX0_absent yX0_absent ∈ lw_tbl := by decide +kernel
theorem lt_se_X0_copyFrom : Cond.selects RX0 yX0_copyFrom yX0_copyFrom ∈ lw_tbl := by decide +kernel
theorem lt_se_X0_coveredParts : Cond.selects RX0 yX0_coveredParts yX0_coveredParts ∈ lw_tbl := by decide +kernel
theorem lt_se_X0_covers : Cond.selects RX0 yX0_covers yX0_covers ∈ lw_tbl := by decide +kernel
theorem lt_se_X0_dismiss : Cond.selects RX0 yX0_dismiss yX0_dismiss ∈ lw_tbl := by decide +kernel
theorem lt_se_X0_fits : Cond.selects RX0 yX0_fits yX0_fits ∈ lw_tbl := by decide +kernel
theorem lt_se_X0_fittingParts : Cond.selects RX0 yX0_fittingParts yX0_fittingParts ∈ lw_tbl := by decide +kernel
theorem lt_se_X0_has : Cond.selects RX0 yX0_has yX0_has ∈ lw_tbl := by decide +kernel
theorem lt_se_X0_join : Cond.selects RX0 yX0_join yX0_join ∈ lw_tbl := by decide +kernel
theorem lt_se_X0_members : Cond.selects RX0 yX0_members yX0_members ∈ lw_tbl := by decide +kernel
theorem lt_se_X0_placed : Cond.selects RX0 yX0_placed yX0_placed ∈ lw_tbl := by decide +kernel
theorem lt_se_X0_rested : Cond.selects RX0 yX0_rested yX0_rested ∈ lw_tbl := by decide +kernel
theorem lt_se_X0_rows : Cond.selects RX0 yX0_rows yX0_rows ∈ lw_tbl := by decide +kernel
theorem lt_se_X0_rowsBefore : Cond.selects RX0 yX0_rowsBefore yX0_rowsBefore ∈ lw_tbl := by decide +kernel
theorem lt_se_X0_seatedBefore : Cond.selects RX0 yX0_seatedBefore yX0_seatedBefore ∈ lw_tbl := by decide +kernel
theorem lt_se_X0_strength : Cond.selects RX0 yX0_strength yX0_strength ∈ lw_tbl := by decide +kernel
theorem lt_se_X0_strengthPresent : Cond.selects RX0 yX0_strengthPresent yX0_strengthPresent ∈ lw_tbl := by decide +kernel
theorem lt_se_X0_width : Cond.selects RX0 yX0_width yX0_width ∈ lw_tbl := by decide +kernel
theorem lt_se_X1_record : Cond.selects RX1 yX1_record yX1_record ∈ lw_tbl := by decide +kernel
theorem lt_se_X1_restore : Cond.selects RX1 yX1_restore yX1_restore ∈ lw_tbl := by decide +kernel
theorem lt_se_X2_addVoice : Cond.selects RX2 yX2_addVoice yX2_addVoice ∈ lw_tbl := by decide +kernel
theorem lt_se_X2_canFinish : Cond.selects RX2 yX2_canFinish yX2_canFinish ∈ lw_tbl := by decide +kernel
theorem lt_se_X2_choose : Cond.selects RX2 yX2_choose yX2_choose ∈ lw_tbl := by decide +kernel
theorem lt_se_X2_firstGoodPart : Cond.selects RX2 yX2_firstGoodPart yX2_firstGoodPart ∈ lw_tbl := by decide +kernel
theorem lt_se_X2_pairCanReach : Cond.selects RX2 yX2_pairCanReach yX2_pairCanReach ∈ lw_tbl := by decide +kernel
theorem lt_se_X2_weigh : Cond.selects RX2 yX2_weigh yX2_weigh ∈ lw_tbl := by decide +kernel
theorem lt_se_X2_weighPairs : Cond.selects RX2 yX2_weighPairs yX2_weighPairs ∈ lw_tbl := by decide +kernel
theorem lt_se_X3_beginNumber : Cond.selects RX3 yX3_beginNumber yX3_beginNumber ∈ lw_tbl := by decide +kernel
theorem lt_se_X3_closeWord : Cond.selects RX3 yX3_closeWord yX3_closeWord ∈ lw_tbl := by decide +kernel
theorem lt_se_X3_end : Cond.selects RX3 yX3_end yX3_end ∈ lw_tbl := by decide +kernel
theorem lt_se_X3_fail : Cond.selects RX3 yX3_fail yX3_fail ∈ lw_tbl := by decide +kernel
theorem lt_se_X3_inNumber : Cond.selects RX3 yX3_inNumber yX3_inNumber ∈ lw_tbl := by decide +kernel
theorem lt_se_X3_numberStands : Cond.selects RX3 yX3_numberStands yX3_numberStands ∈ lw_tbl := by decide +kernel
theorem lt_se_X3_read : Cond.selects RX3 yX3_read yX3_read ∈ lw_tbl := by decide +kernel
theorem lt_se_X3_readAbsent : Cond.selects RX3 yX3_readAbsent yX3_readAbsent ∈ lw_tbl := by decide +kernel
theorem lt_se_X3_readTests : Cond.selects RX3 yX3_readTests yX3_readTests ∈ lw_tbl := by decide +kernel
theorem lt_se_X3_take : Cond.selects RX3 yX3_take yX3_take ∈ lw_tbl := by decide +kernel
theorem lt_se_X3_takeBehindNumber : Cond.selects RX3 yX3_takeBehindNumber yX3_takeBehindNumber ∈ lw_tbl := by decide +kernel
theorem lt_se_X3_takeDigit : Cond.selects RX3 yX3_takeDigit yX3_takeDigit ∈ lw_tbl := by decide +kernel
theorem lt_se_X4_canStandIn : Cond.selects RX4 yX4_canStandIn yX4_canStandIn ∈ lw_tbl := by decide +kernel
theorem lt_se_X4_findSoloist : Cond.selects RX4 yX4_findSoloist yX4_findSoloist ∈ lw_tbl := by decide +kernel
theorem lt_se_X4_findStandIns : Cond.selects RX4 yX4_findStandIns yX4_findStandIns ∈ lw_tbl := by decide +kernel
theorem lt_se_X4_happen : Cond.selects RX4 yX4_happen yX4_happen ∈ lw_tbl := by decide +kernel
theorem lt_se_X4_plan : Cond.selects RX4 yX4_plan yX4_plan ∈ lw_tbl := by decide +kernel
theorem lt_se_X5_begin : Cond.selects RX5 yX5_begin yX5_begin ∈ lw_tbl := by decide +kernel
theorem lt_se_X5_copyFrom : Cond.selects RX5 yX5_copyFrom yX5_copyFrom ∈ lw_tbl := by decide +kernel
theorem lt_se_X5_learn : Cond.selects RX5 yX5_learn yX5_learn ∈ lw_tbl := by decide +kernel
theorem lt_se_X5_notesIn : Cond.selects RX5 yX5_notesIn yX5_notesIn ∈ lw_tbl := by decide +kernel
theorem lt_se_X5_singsBefore : Cond.selects RX5 yX5_singsBefore yX5_singsBefore ∈ lw_tbl := by decide +kernel
theorem lt_se_X5_sitsBefore : Cond.selects RX5 yX5_sitsBefore yX5_sitsBefore ∈ lw_tbl := by decide +kernel
theorem lt_se_X6_addVoice : Cond.selects RX6 yX6_addVoice yX6_addVoice ∈ lw_tbl := by decide +kernel
theorem lt_se_X6_evenest : Cond.selects RX6 yX6_evenest yX6_evenest ∈ lw_tbl := by decide +kernel
theorem lt_se_X6_gives : Cond.selects RX6 yX6_gives yX6_gives ∈ lw_tbl := by decide +kernel
theorem lt_se_X6_reaches : Cond.selects RX6 yX6_reaches yX6_reaches ∈ lw_tbl := by decide +kernel
theorem lt_se_X8_add : Cond.selects RX8 yX8_add yX8_add ∈ lw_tbl := by decide +kernel
theorem lt_se_X8_attendance : Cond.selects RX8 yX8_attendance yX8_attendance ∈ lw_tbl := by decide +kernel
theorem lt_se_X8_back : Cond.selects RX8 yX8_back yX8_back ∈ lw_tbl := by decide +kernel
theorem lt_se_X8_hold : Cond.selects RX8 yX8_hold yX8_hold ∈ lw_tbl := by decide +kernel
theorem lt_se_X8_keep : Cond.selects RX8 yX8_keep yX8_keep ∈ lw_tbl := by decide +kernel
theorem lt_se_X8_mean : Cond.selects RX8 yX8_mean yX8_mean ∈ lw_tbl := by decide +kernel
theorem lt_se_X8_note : Cond.selects RX8 yX8_note yX8_note ∈ lw_tbl := by decide +kernel
theorem lt_se_X8_overlap : Cond.selects RX8 yX8_overlap yX8_overlap ∈ lw_tbl := by decide +kernel
theorem lt_se_X8_part : Cond.selects RX8 yX8_part yX8_part ∈ lw_tbl := by decide +kernel
theorem lt_se_X8_passedOver : Cond.selects RX8 yX8_passedOver yX8_passedOver ∈ lw_tbl := by decide +kernel
theorem lt_se_X8_place : Cond.selects RX8 yX8_place yX8_place ∈ lw_tbl := by decide +kernel
theorem lt_se_X8_placeAll : Cond.selects RX8 yX8_placeAll yX8_placeAll ∈ lw_tbl := by decide +kernel
theorem lt_se_X8_remove : Cond.selects RX8 yX8_remove yX8_remove ∈ lw_tbl := by decide +kernel
theorem lt_se_X8_seat : Cond.selects RX8 yX8_seat yX8_seat ∈ lw_tbl := by decide +kernel
theorem lt_se_X8_set : Cond.selects RX8 yX8_set yX8_set ∈ lw_tbl := by decide +kernel
theorem lt_se_X8_setting : Cond.selects RX8 yX8_setting yX8_setting ∈ lw_tbl := by decide +kernel
theorem lt_se_X8_singer : Cond.selects RX8 yX8_singer yX8_singer ∈ lw_tbl := by decide +kernel
theorem lt_se_X8_solo : Cond.selects RX8 yX8_solo yX8_solo ∈ lw_tbl := by decide +kernel
theorem lt_se_X8_standIn : Cond.selects RX8 yX8_standIn yX8_standIn ∈ lw_tbl := by decide +kernel
theorem lt_se_X8_test : Cond.selects RX8 yX8_test yX8_test ∈ lw_tbl := by decide +kernel
theorem lt_se_X8_told : Cond.selects RX8 yX8_told yX8_told ∈ lw_tbl := by decide +kernel
theorem lt_se_X8_undo : Cond.selects RX8 yX8_undo yX8_undo ∈ lw_tbl := by decide +kernel
theorem lt_se_X8_wipe : Cond.selects RX8 yX8_wipe yX8_wipe ∈ lw_tbl := by decide +kernel
theorem lt_se_X8_without : Cond.selects RX8 yX8_without yX8_without ∈ lw_tbl := by decide +kernel
theorem lt_se_X8_write : Cond.selects RX8 yX8_write yX8_write ∈ lw_tbl := by decide +kernel
theorem lt_ini_X0 : Cond.initialized RX0 ∈ lw_tbl := by decide +kernel
theorem lt_ins_X0 : Cond.instantiable RX0 8 ∈ lw_tbl := by decide +kernel
theorem lt_ini_X1 : Cond.initialized RX1 ∈ lw_tbl := by decide +kernel
theorem lt_ins_X1 : Cond.instantiable RX1 3 ∈ lw_tbl := by decide +kernel
theorem lt_ini_X2 : Cond.initialized RX2 ∈ lw_tbl := by decide +kernel
theorem lt_ins_X2 : Cond.instantiable RX2 10 ∈ lw_tbl := by decide +kernel
theorem lt_ini_X3 : Cond.initialized RX3 ∈ lw_tbl := by decide +kernel
theorem lt_ins_X3 : Cond.instantiable RX3 11 ∈ lw_tbl := by decide +kernel
theorem lt_ini_X4 : Cond.initialized RX4 ∈ lw_tbl := by decide +kernel
theorem lt_ins_X4 : Cond.instantiable RX4 3 ∈ lw_tbl := by decide +kernel
theorem lt_ini_X5 : Cond.initialized RX5 ∈ lw_tbl := by decide +kernel
theorem lt_ins_X5 : Cond.instantiable RX5 11 ∈ lw_tbl := by decide +kernel
theorem lt_ini_X6 : Cond.initialized RX6 ∈ lw_tbl := by decide +kernel
theorem lt_ins_X6 : Cond.instantiable RX6 2 ∈ lw_tbl := by decide +kernel
theorem lt_ini_X7 : Cond.initialized RX7 ∈ lw_tbl := by decide +kernel
theorem lt_ins_X7 : Cond.instantiable RX7 2 ∈ lw_tbl := by decide +kernel
theorem lt_ini_X8 : Cond.initialized RX8 ∈ lw_tbl := by decide +kernel
theorem lt_ins_X8 : Cond.instantiable RX8 8 ∈ lw_tbl := by decide +kernel
theorem lt_ini_L : Cond.initialized RL ∈ lw_tbl := by decide +kernel
theorem lt_cl_X0_9 : Cond.classLink RX0 9 RX5 ∈ lw_tbl := by decide +kernel
theorem lt_cl_X1_9 : Cond.classLink RX1 9 RX0 ∈ lw_tbl := by decide +kernel
theorem lt_cl_X2_9 : Cond.classLink RX2 9 RX6 ∈ lw_tbl := by decide +kernel
theorem lt_cl_X8_7 : Cond.classLink RX8 7 RX0 ∈ lw_tbl := by decide +kernel
theorem lt_cl_X8_16 : Cond.classLink RX8 16 RX1 ∈ lw_tbl := by decide +kernel
theorem lt_cl_X8_31 : Cond.classLink RX8 31 RX7 ∈ lw_tbl := by decide +kernel
theorem lt_cl_X8_38 : Cond.classLink RX8 38 RX3 ∈ lw_tbl := by decide +kernel
theorem lt_cl_X8_45 : Cond.classLink RX8 45 RX4 ∈ lw_tbl := by decide +kernel
theorem lt_cl_X8_52 : Cond.classLink RX8 52 RX2 ∈ lw_tbl := by decide +kernel
theorem lt_cl_L_10 : Cond.classLink RL 10 RX8 ∈ lw_tbl := by decide +kernel
theorem lt_ac_int : Cond.arrayClass .int ∈ lw_tbl := by decide +kernel
theorem lt_ac_long : Cond.arrayClass .long ∈ lw_tbl := by decide +kernel
theorem lt_ac_boolean : Cond.arrayClass .boolean ∈ lw_tbl := by decide +kernel
theorem lt_cf_L_92 : Cond.constantFloat RL 92 (1082130432) ∈ lw_tbl := by decide +kernel
theorem lt_cf_X8_246 : Cond.constantFloat RX8 246 (1082130432) ∈ lw_tbl := by decide +kernel
theorem lt_ck_X3_98 : Cond.constantLong RX3 98 (-1) ∈ lw_tbl := by decide +kernel
theorem lt_ck_X6_30 : Cond.constantLong RX6 30 (-1) ∈ lw_tbl := by decide +kernel
theorem lt_ok_X0_init : Cond.code yX0_init cX0_init 2 none ∈ lw_tbl := by decide +kernel
theorem lt_ok_X0_copyFrom : Cond.code yX0_copyFrom cX0_copyFrom 3 none ∈ lw_tbl := by decide +kernel
theorem lt_ok_X0_has : Cond.code yX0_has cX0_has 2 (some .boolean) ∈ lw_tbl := by decide +kernel
theorem lt_ok_X0_join : Cond.code yX0_join cX0_join 3 none ∈ lw_tbl := by decide +kernel
theorem lt_ok_X0_dismiss : Cond.code yX0_dismiss cX0_dismiss 3 none ∈ lw_tbl := by decide +kernel
theorem lt_ok_X0_fits : Cond.code yX0_fits cX0_fits 3 (some .boolean) ∈ lw_tbl := by decide +kernel
theorem lt_ok_X0_fittingParts : Cond.code yX0_fittingParts cX0_fittingParts 4 (some .int) ∈ lw_tbl := by decide +kernel
theorem lt_ok_X0_placed : Cond.code yX0_placed cX0_placed 3 (some .int) ∈ lw_tbl := by decide +kernel
theorem lt_ok_X0_absent : Cond.code yX0_absent cX0_absent 3 (some .int) ∈ lw_tbl := by decide +kernel
theorem lt_ok_X0_members : Cond.code yX0_members cX0_members 4 (some .int) ∈ lw_tbl := by decide +kernel
theorem lt_ok_X0_strength : Cond.code yX0_strength cX0_strength 4 (some .int) ∈ lw_tbl := by decide +kernel
theorem lt_ok_X0_strengthPresent : Cond.code yX0_strengthPresent cX0_strengthPresent 5 (some .int) ∈ lw_tbl := by decide +kernel
theorem lt_ok_X0_covers : Cond.code yX0_covers cX0_covers 2 (some .boolean) ∈ lw_tbl := by decide +kernel
theorem lt_ok_X0_coveredParts : Cond.code yX0_coveredParts cX0_coveredParts 3 (some .int) ∈ lw_tbl := by decide +kernel
theorem lt_ok_X0_rested : Cond.code yX0_rested cX0_rested 2 (some .boolean) ∈ lw_tbl := by decide +kernel
theorem lt_ok_X0_width : Cond.code yX0_width cX0_width 1 (some .int) ∈ lw_tbl := by decide +kernel
theorem lt_ok_X0_rows : Cond.code yX0_rows cX0_rows 2 (some .int) ∈ lw_tbl := by decide +kernel
theorem lt_ok_X0_rowsBefore : Cond.code yX0_rowsBefore cX0_rowsBefore 4 (some .int) ∈ lw_tbl := by decide +kernel
theorem lt_ok_X0_seatedBefore : Cond.code yX0_seatedBefore cX0_seatedBefore 6 (some .int) ∈ lw_tbl := by decide +kernel
theorem lt_ok_X1_init : Cond.code yX1_init cX1_init 2 none ∈ lw_tbl := by decide +kernel
theorem lt_ok_X1_record : Cond.code yX1_record cX1_record 2 none ∈ lw_tbl := by decide +kernel
theorem lt_ok_X1_restore : Cond.code yX1_restore cX1_restore 2 none ∈ lw_tbl := by decide +kernel
theorem lt_ok_X2_init : Cond.code yX2_init cX2_init 1 none ∈ lw_tbl := by decide +kernel
theorem lt_ok_X2_weigh : Cond.code yX2_weigh cX2_weigh 5 none ∈ lw_tbl := by decide +kernel
theorem lt_ok_X2_addVoice : Cond.code yX2_addVoice cX2_addVoice 6 none ∈ lw_tbl := by decide +kernel
theorem lt_ok_X2_weighPairs : Cond.code yX2_weighPairs cX2_weighPairs 7 none ∈ lw_tbl := by decide +kernel
theorem lt_ok_X2_choose : Cond.code yX2_choose cX2_choose 3 none ∈ lw_tbl := by decide +kernel
theorem lt_ok_X2_firstGoodPart : Cond.code yX2_firstGoodPart cX2_firstGoodPart 3 (some .int) ∈ lw_tbl := by decide +kernel
theorem lt_ok_X2_canFinish : Cond.code yX2_canFinish cX2_canFinish 6 (some .boolean) ∈ lw_tbl := by decide +kernel
theorem lt_ok_X2_pairCanReach : Cond.code yX2_pairCanReach cX2_pairCanReach 6 (some .boolean) ∈ lw_tbl := by decide +kernel
theorem lt_ok_X3_init : Cond.code yX3_init cX3_init 1 none ∈ lw_tbl := by decide +kernel
theorem lt_ok_X3_readTests : Cond.code yX3_readTests cX3_readTests 3 (some .boolean) ∈ lw_tbl := by decide +kernel
theorem lt_ok_X3_readAbsent : Cond.code yX3_readAbsent cX3_readAbsent 3 (some .boolean) ∈ lw_tbl := by decide +kernel
theorem lt_ok_X3_read : Cond.code yX3_read cX3_read 3 (some .boolean) ∈ lw_tbl := by decide +kernel
theorem lt_ok_X3_take : Cond.code yX3_take cX3_take 4 (some .boolean) ∈ lw_tbl := by decide +kernel
theorem lt_ok_X3_inNumber : Cond.code yX3_inNumber cX3_inNumber 1 (some .boolean) ∈ lw_tbl := by decide +kernel
theorem lt_ok_X3_beginNumber : Cond.code yX3_beginNumber cX3_beginNumber 3 none ∈ lw_tbl := by decide +kernel
theorem lt_ok_X3_takeDigit : Cond.code yX3_takeDigit cX3_takeDigit 3 (some .boolean) ∈ lw_tbl := by decide +kernel
theorem lt_ok_X3_takeBehindNumber : Cond.code yX3_takeBehindNumber cX3_takeBehindNumber 3 (some .boolean) ∈ lw_tbl := by decide +kernel
theorem lt_ok_X3_end : Cond.code yX3_end cX3_end 2 (some .boolean) ∈ lw_tbl := by decide +kernel
theorem lt_ok_X3_numberStands : Cond.code yX3_numberStands cX3_numberStands 1 (some .boolean) ∈ lw_tbl := by decide +kernel
theorem lt_ok_X3_closeWord : Cond.code yX3_closeWord cX3_closeWord 5 none ∈ lw_tbl := by decide +kernel
theorem lt_ok_X3_fail : Cond.code yX3_fail cX3_fail 3 (some .boolean) ∈ lw_tbl := by decide +kernel
theorem lt_ok_X4_init : Cond.code yX4_init cX4_init 1 none ∈ lw_tbl := by decide +kernel
theorem lt_ok_X4_plan : Cond.code yX4_plan cX4_plan 3 none ∈ lw_tbl := by decide +kernel
theorem lt_ok_X4_findStandIns : Cond.code yX4_findStandIns cX4_findStandIns 5 none ∈ lw_tbl := by decide +kernel
theorem lt_ok_X4_canStandIn : Cond.code yX4_canStandIn cX4_canStandIn 5 (some .boolean) ∈ lw_tbl := by decide +kernel
theorem lt_ok_X4_findSoloist : Cond.code yX4_findSoloist cX4_findSoloist 7 (some .int) ∈ lw_tbl := by decide +kernel
theorem lt_ok_X4_happen : Cond.code yX4_happen cX4_happen 4 (some .int) ∈ lw_tbl := by decide +kernel
theorem lt_ok_X5_init : Cond.code yX5_init cX5_init 1 none ∈ lw_tbl := by decide +kernel
theorem lt_ok_X5_begin : Cond.code yX5_begin cX5_begin 3 none ∈ lw_tbl := by decide +kernel
theorem lt_ok_X5_copyFrom : Cond.code yX5_copyFrom cX5_copyFrom 2 none ∈ lw_tbl := by decide +kernel
theorem lt_ok_X5_learn : Cond.code yX5_learn cX5_learn 7 none ∈ lw_tbl := by decide +kernel
theorem lt_ok_X5_notesIn : Cond.code yX5_notesIn cX5_notesIn 4 (some .int) ∈ lw_tbl := by decide +kernel
theorem lt_ok_X5_sitsBefore : Cond.code yX5_sitsBefore cX5_sitsBefore 3 (some .boolean) ∈ lw_tbl := by decide +kernel
theorem lt_ok_X5_singsBefore : Cond.code yX5_singsBefore cX5_singsBefore 2 (some .boolean) ∈ lw_tbl := by decide +kernel
theorem lt_ok_X6_init : Cond.code yX6_init cX6_init 1 none ∈ lw_tbl := by decide +kernel
theorem lt_ok_X6_addVoice : Cond.code yX6_addVoice cX6_addVoice 11 none ∈ lw_tbl := by decide +kernel
theorem lt_ok_X6_evenest : Cond.code yX6_evenest cX6_evenest 4 (some .int) ∈ lw_tbl := by decide +kernel
theorem lt_ok_X6_gives : Cond.code yX6_gives cX6_gives 3 (some .boolean) ∈ lw_tbl := by decide +kernel
theorem lt_ok_X6_reaches : Cond.code yX6_reaches cX6_reaches 4 (some .boolean) ∈ lw_tbl := by decide +kernel
theorem lt_ok_X6_bits : Cond.code yX6_bits cX6_bits 4 (some .long) ∈ lw_tbl := by decide +kernel
theorem lt_ok_X7_init : Cond.code yX7_init cX7_init 1 none ∈ lw_tbl := by decide +kernel
theorem lt_ok_X8_init : Cond.code yX8_init cX8_init 2 none ∈ lw_tbl := by decide +kernel
theorem lt_ok_X8_add : Cond.code yX8_add cX8_add 3 (some .int) ∈ lw_tbl := by decide +kernel
theorem lt_ok_X8_remove : Cond.code yX8_remove cX8_remove 2 (some .int) ∈ lw_tbl := by decide +kernel
theorem lt_ok_X8_set : Cond.code yX8_set cX8_set 4 (some .int) ∈ lw_tbl := by decide +kernel
theorem lt_ok_X8_test : Cond.code yX8_test cX8_test 3 (some .int) ∈ lw_tbl := by decide +kernel
theorem lt_ok_X8_place : Cond.code yX8_place cX8_place 4 (some .int) ∈ lw_tbl := by decide +kernel
theorem lt_ok_X8_placeAll : Cond.code yX8_placeAll cX8_placeAll 1 (some .int) ∈ lw_tbl := by decide +kernel
theorem lt_ok_X8_attendance : Cond.code yX8_attendance cX8_attendance 2 (some .int) ∈ lw_tbl := by decide +kernel
theorem lt_ok_X8_hold : Cond.code yX8_hold cX8_hold 1 (some .int) ∈ lw_tbl := by decide +kernel
theorem lt_ok_X8_undo : Cond.code yX8_undo cX8_undo 1 (some .int) ∈ lw_tbl := by decide +kernel
theorem lt_ok_X8_write : Cond.code yX8_write cX8_write 2 (some .int) ∈ lw_tbl := by decide +kernel
theorem lt_ok_X8_wipe : Cond.code yX8_wipe cX8_wipe 2 (some .int) ∈ lw_tbl := by decide +kernel
theorem lt_ok_X8_told : Cond.code yX8_told cX8_told 2 (some .int) ∈ lw_tbl := by decide +kernel
theorem lt_ok_X8_setting : Cond.code yX8_setting cX8_setting 2 (some .int) ∈ lw_tbl := by decide +kernel
theorem lt_ok_X8_singer : Cond.code yX8_singer cX8_singer 4 (some .int) ∈ lw_tbl := by decide +kernel
theorem lt_ok_X8_note : Cond.code yX8_note cX8_note 4 (some .int) ∈ lw_tbl := by decide +kernel
theorem lt_ok_X8_overlap : Cond.code yX8_overlap cX8_overlap 3 (some .int) ∈ lw_tbl := by decide +kernel
theorem lt_ok_X8_part : Cond.code yX8_part cX8_part 3 (some .int) ∈ lw_tbl := by decide +kernel
theorem lt_ok_X8_seat : Cond.code yX8_seat cX8_seat 6 (some .int) ∈ lw_tbl := by decide +kernel
theorem lt_ok_X8_solo : Cond.code yX8_solo cX8_solo 3 (some .int) ∈ lw_tbl := by decide +kernel
theorem lt_ok_X8_mean : Cond.code yX8_mean cX8_mean 3 (some .float) ∈ lw_tbl := by decide +kernel
theorem lt_ok_X8_standIn : Cond.code yX8_standIn cX8_standIn 2 (some .int) ∈ lw_tbl := by decide +kernel
theorem lt_ok_X8_passedOver : Cond.code yX8_passedOver cX8_passedOver 3 (some .int) ∈ lw_tbl := by decide +kernel
theorem lt_ok_X8_without : Cond.code yX8_without cX8_without 2 (some .int) ∈ lw_tbl := by decide +kernel
theorem lt_ok_X8_keep : Cond.code yX8_keep cX8_keep 2 (some .int) ∈ lw_tbl := by decide +kernel
theorem lt_ok_X8_back : Cond.code yX8_back cX8_back 2 (some .int) ∈ lw_tbl := by decide +kernel
theorem lt_ok_X8_isSetting : Cond.code yX8_isSetting cX8_isSetting 1 (some .boolean) ∈ lw_tbl := by decide +kernel
theorem lt_ok_X8_isPart : Cond.code yX8_isPart cX8_isPart 1 (some .boolean) ∈ lw_tbl := by decide +kernel
theorem lt_ok_X8_isImage : Cond.code yX8_isImage cX8_isImage 1 (some .boolean) ∈ lw_tbl := by decide +kernel
theorem lt_ok_X8_contains : Cond.code yX8_contains cX8_contains 3 (some .boolean) ∈ lw_tbl := by decide +kernel
theorem lt_ok_L_low : Cond.code yL_low cL_low 2 (some .int) ∈ lw_tbl := by decide +kernel
theorem lt_ok_L_number : Cond.code yL_number cL_number 3 (some .int) ∈ lw_tbl := by decide +kernel
theorem lt_ok_L_test : Cond.code yL_test cL_test 9 (some .int) ∈ lw_tbl := by decide +kernel
theorem lt_ok_L_attendance : Cond.code yL_attendance cL_attendance 5 (some .int) ∈ lw_tbl := by decide +kernel
theorem lt_ok_L_change : Cond.code yL_change cL_change 5 (some .int) ∈ lw_tbl := by decide +kernel
theorem lt_ok_L_isRange : Cond.code yL_isRange cL_isRange 14 (some .boolean) ∈ lw_tbl := by decide +kernel
theorem lt_ok_L_areParts : Cond.code yL_areParts cL_areParts 15 (some .boolean) ∈ lw_tbl := by decide +kernel
theorem lt_ok_L_isHeld : Cond.code yL_isHeld cL_isHeld 12 (some .boolean) ∈ lw_tbl := by decide +kernel
theorem lt_ok_L_areAlike : Cond.code yL_areAlike cL_areAlike 5 (some .boolean) ∈ lw_tbl := by decide +kernel
theorem lt_ok_L_cell : Cond.code yL_cell cL_cell 2 (some .int) ∈ lw_tbl := by decide +kernel
end
section
/-! THE LAYER: values, the state of all objects by their numbers, and what a heap that holds it is -/
abbrev mV : Type := Int ⊕ (BitVec 64 ⊕ (Option Nat ⊕ (UInt32 ⊕ (UInt64 ⊕ Nat))))
abbrev vI (z : Int) : mV := .inl z
abbrev vL (b : BitVec 64) : mV := .inr (.inl b)
abbrev vR (r : Option Nat) : mV := .inr (.inr (.inl r))
abbrev vF (x : UInt32) : mV := .inr (.inr (.inr (.inl x)))
abbrev vD (x : UInt64) : mV := .inr (.inr (.inr (.inr (.inl x))))
abbrev vT (t : Nat) : mV := .inr (.inr (.inr (.inr (.inr t))))
abbrev mI (z : Int) : Value := .int (Int32.ofInt z)
def mC (base : Nat) (tb : Nat → Nat) : mV → Value
  | .inl z => mI z
  | .inr (.inl b) => .long (Int64.ofBitVec b)
  | .inr (.inr (.inl none)) => .null
  | .inr (.inr (.inl (some k))) => .ref (base + k)
  | .inr (.inr (.inr (.inl x))) => .float x
  | .inr (.inr (.inr (.inr (.inl x)))) => .double x
  | .inr (.inr (.inr (.inr (.inr t)))) => .ref (tb t)
def mCat : mV → Nat
  | .inr (.inl _) => 2
  | .inr (.inr (.inr (.inr (.inl _)))) => 2
  | _ => 1
theorem mC_cat (base : Nat) (tb : Nat → Nat) (v : mV) : (mC base tb v).category = mCat v := by
  rcases v with z | b | (_ | k) | x | x | t <;> rfl
/-- numbers of objects; a kind an object: its class's place in vwCl, or an array's kind (0 int, 1 long, 2 boolean, 3 Singer, 4 Choir) and length; ints, longs and references by object and place -/
abbrev mS : Type := Nat × (Nat → Nat ⊕ (Nat × Nat)) × (Nat → Int → Int) × (Nat → Int → BitVec 64) × (Nat → Int → Option Nat)
abbrev sN (g : mS) : Nat := g.1
abbrev sK (g : mS) : Nat → Nat ⊕ (Nat × Nat) := g.2.1
abbrev sI (g : mS) : Nat → Int → Int := g.2.2.1
abbrev sL (g : mS) : Nat → Int → BitVec 64 := g.2.2.2.1
abbrev sR (g : mS) : Nat → Int → Option Nat := g.2.2.2.2
def mU {α : Type} (f : Nat → Int → α) (o : Nat) (k : Int) (x : α) : Nat → Int → α := fun a b => if a = o ∧ b = k then x else f a b
abbrev sPutI (g : mS) (o : Nat) (k : Int) (z : Int) : mS := (g.1, g.2.1, mU g.2.2.1 o k z, g.2.2.2.1, g.2.2.2.2)
abbrev sPutL (g : mS) (o : Nat) (k : Int) (z : BitVec 64) : mS := (g.1, g.2.1, g.2.2.1, mU g.2.2.2.1 o k z, g.2.2.2.2)
abbrev sPutR (g : mS) (o : Nat) (k : Int) (z : Option Nat) : mS := (g.1, g.2.1, g.2.2.1, g.2.2.2.1, mU g.2.2.2.2 o k z)
/-- a new object of a kind, all of it at its first values -/
abbrev sNew (g : mS) (kd : Nat ⊕ (Nat × Nat)) : mS := (g.1 + 1, fun a => if a = g.1 then kd else g.2.1 a, fun a b => if a = g.1 then 0 else g.2.2.1 a b, fun a b => if a = g.1 then 0 else g.2.2.2.1 a b, fun a b => if a = g.1 then none else g.2.2.2.2 a b)
def mTy (ci : Nat) : Nat → FieldType := match ci with
  | 0 => tyX0 | 1 => tyX1 | 2 => tyX2 | 3 => tyX3 | 4 => tyX4 | 5 => tyX5 | 6 => tyX6 | 7 => tyX7 | 8 => tyX8 | _ => tyX9
/-- how a type is kept: 0 int, 1 long, 2 reference -/
def mTc : FieldType → Nat
  | .int => 0
  | .boolean => 0
  | .long => 1
  | _ => 2
def mAT (t : Nat) : FieldType := match t with
  | 0 => .int | 1 => .long | 2 => .boolean | 3 => .object RX5 | _ => .object RX0
def mRv (base : Nat) (r : Option Nat) : Value := match r with
  | none => .null
  | some k => .ref (base + k)
def mVal (base c : Nat) (g : mS) (o k : Nat) : Value := match c with
  | 0 => mI (sI g o (k : Int))
  | 1 => .long (Int64.ofBitVec (sL g o (k : Int)))
  | _ => mRv base (sR g o (k : Int))
theorem mVal0 (base : Nat) (g : mS) (o k : Nat) : mVal base 0 g o k = mI (sI g o (k : Int)) := rfl
theorem mVal1 (base : Nat) (g : mS) (o k : Nat) : mVal base 1 g o k = .long (Int64.ofBitVec (sL g o (k : Int))) := rfl
theorem mVal2 (base : Nat) (g : mS) (o k : Nat) : mVal base 2 g o k = mRv base (sR g o (k : Int)) := rfl
def mCell (base : Nat) (dC : Nat → ClassId) (dI : Nat → Nat → Nat) (U : State) (g : mS) (H : Heap) (o : Nat) : Prop := match sK g o with
  | .inl ci => ∃ q : vw_C, vwCl[ci]? = some q ∧ t_OB (base + o) (dC ci) q.2.2 (dI ci) H (fun k => mVal base (mTc (mTy ci k)) g o k)
  | .inr (t, n) => ∃ cA : ClassId, ArrOfT U cA (mAT t) ∧ va_RA U cA (mAT t) ∧ H[base + o]? = some (arrV cA n (fun k => mVal base (mTc (mAT t)) g o k))
/-- the heap H holds the state g, from the address base on -/
def mHp (base : Nat) (dC : Nat → ClassId) (dI : Nat → Nat → Nat) (U : State) (g : mS) (H : Heap) : Prop := H.size = base + sN g ∧ ∀ o : Nat, o < sN g → mCell base dC dI U g H o
/-- the four tables of the system's statics -/
def mTN (t : Nat) : String × String := match t with
  | 0 => ("ChoirBook", "SETTING_LEAST") | 1 => ("ChoirBook", "SETTING_MOST") | 2 => ("ChoirBook", "SETTING_FIRST") | _ => ("ChoirBook", "LOWEST_NOTE")
def mTF (t : Nat) (k : Nat) : Int := match t with
  | 0 => [1, 1, 0, 1].getD k 0 | 1 => [15, 50, 10, 6].getD k 0 | 2 => [12, 5, 1, 4].getD k 0 | _ => [22, 16, 10, 4].getD k 0
abbrev mA (base : Nat) : Nat → Prop := fun q => base ≤ q
def mGood : List Cond := lw_tbl.filter goodWord
theorem mIn {w : Cond} (i : Nat) (h : lw_tbl[i]? = some w) (hg : goodWord w = true) : w ∈ mGood := List.mem_filter.mpr ⟨List.mem_of_getElem? h, hg⟩
def mNest : List Cond := [.methodLinkNest "ChoirBook$Choir" 17 yX5_init "ChoirBook", .methodLinkNest "ChoirBook$Singer" 51 yX8_contains "ChoirBook", .methodLinkNest "ChoirBook$Placing" 72 yX8_contains "ChoirBook", .methodLinkNest "ChoirBook$Split" 22 yX8_contains "ChoirBook", .methodLinkNest "ChoirBook$Rehearsal" 62 yX8_isPart "ChoirBook", .fieldLinkNest "ChoirBook$Choir" 22 "ChoirBook" "SETTING_FIRST" "[I" "ChoirBook", .fieldLinkNest "ChoirBook$Singer" 55 "ChoirBook" "LOWEST_NOTE" "[I" "ChoirBook"]
/-- what the tables say wherever a method begins -/
def mWs (base : Nat) (tb : Nat → Nat) (dC : Nat → ClassId) (dI : Nat → Nat → Nat) (U : State) (H : Heap) : Prop :=
  va_K (dC, dI) vwCl [] U ∧ (∀ t : Nat, t < 4 → va_Z (mTN t).1 (mTN t).2 "[I" (.ref (tb t)) (mA base) U H ∧ va_T .int (tb t) 4 (fun k => mI (mTF t k)) (mA base) U H) ∧ (∀ w ∈ mNest, va_Nw w U) ∧ va_AO RX5 U ∧ va_AO RX0 U
theorem mNest_on : ∀ w ∈ mNest, w.onTables = true := by decide +kernel
theorem mWs.kept {base : Nat} {tb : Nat → Nat} {dC : Nat → ClassId} {dI : Nat → Nat → Nat} {U : State} {H H1 : Heap} (h : mWs base tb dC dI U H) (hq : ∀ a : Nat, a < H.size → ¬ mA base a → H1[a]? = H[a]?) : mWs base tb dC dI U H1 :=
  ⟨h.1, fun t ht => ⟨(h.2.1 t ht).1.kept hq, (h.2.1 t ht).2.kept hq⟩, h.2.2⟩
theorem mWs.moved {base : Nat} {tb : Nat → Nat} {dC : Nat → ClassId} {dI : Nat → Nat → Nat} {s U : State} {H : Heap} (hW : s.WarmedH U.vm) (h : mWs base tb dC dI s H) : mWs base tb dC dI U H := by
  obtain ⟨h1, h2, h3, h4, h5⟩ := h
  refine ⟨va_K.moved hW.alike h1, fun t ht => ⟨va_Z.moved hW.alike (h2 t ht).1, va_T.moved hW.alike (h2 t ht).2⟩, ?_, va_AO.moved hW.alike h4, va_AO.moved hW.alike h5⟩
  intro w hw
  have hz := h3 w hw
  simp only [mNest, List.mem_cons, List.not_mem_nil, or_false] at hw
  rcases hw with rfl | rfl | rfl | rfl | rfl | rfl | rfl
  all_goals first | exact va_Nw.warmM hW hz | exact va_Nw.warmF hW hz
theorem mWs.same {base : Nat} {tb : Nat → Nat} {dC : Nat → ClassId} {dI : Nat → Nat → Nat} {u U : State} {H : Heap} (hv : u.vm = U.vm) (h : mWs base tb dC dI u H) : mWs base tb dC dI U H := by
  have hal : u.vm.Alike U.vm := by rw [hv]; exact Vm.Alike.refl _
  obtain ⟨h1, h2, h3, h4, h5⟩ := h
  exact ⟨va_K.moved hal h1, fun t ht => ⟨va_Z.moved hal (h2 t ht).1, va_T.moved hal (h2 t ht).2⟩, fun w hw => va_Nw.same (mNest_on w hw) hv (h3 w hw), va_AO.moved hal h4, va_AO.moved hal h5⟩
theorem mCell.moved {base : Nat} {dC : Nat → ClassId} {dI : Nat → Nat → Nat} {u U : State} {g : mS} {H : Heap} {o : Nat} (hal : u.vm.Alike U.vm) (h : mCell base dC dI u g H o) : mCell base dC dI U g H o := by
  unfold mCell at h ⊢
  split
  · rename_i ci e
    simp only [e] at h
    exact h
  · rename_i t n e
    simp only [e] at h
    obtain ⟨cA, h1, h2, h3⟩ := h
    exact ⟨cA, arrOfT_moved hal h1, h2.moved hal, h3⟩
theorem mHp.moved {base : Nat} {dC : Nat → ClassId} {dI : Nat → Nat → Nat} {u U : State} {g : mS} {H : Heap} (hal : u.vm.Alike U.vm) (h : mHp base dC dI u g H) : mHp base dC dI U g H := ⟨h.1, fun o ho => (h.2 o ho).moved hal⟩
def mW (base : Nat) (tb : Nat → Nat) (dC : Nat → ClassId) (dI : Nat → Nat → Nat) (g : mS) (U : State) : Prop := mWs base tb dC dI U U.heap ∧ mHp base dC dI U g U.heap
/-- locals by place -/
def mLoc (base : Nat) (tb : Nat → Nat) (nL : Nat) (ls : Array Slot) (L : List (Option mV)) : Prop := ls.size = nL ∧ lv_wf ls ∧ ∀ (i : Nat) (v : mV), L[i]? = some (some v) → ls[i]? = some (.val (mC base tb v))
def mNW (L : List (Option mV)) (i : Nat) : Bool := match i with
  | 0 => true
  | j + 1 => match L[j]? with
    | some (some v) => mCat v == 1
    | _ => true
def mLst (base : Nat) (tb : Nat → Nat) (L : List (Option mV)) : List (Nat × Value) := (List.range L.length).filterMap (fun i => match L[i]? with | some (some v) => some (i, mC base tb v) | _ => none)
theorem mLst_mem {base : Nat} {tb : Nat → Nat} {L : List (Option mV)} {q : Nat × Value} : q ∈ mLst base tb L ↔ ∃ v, L[q.1]? = some (some v) ∧ q.2 = mC base tb v := by
  unfold mLst
  rw [List.mem_filterMap]
  constructor
  · rintro ⟨i, -, h⟩
    split at h
    · rename_i v e
      cases h
      exact ⟨v, e, rfl⟩
    · cases h
  · rintro ⟨v, h1, h2⟩
    refine ⟨q.1, List.mem_range.mpr (List.getElem?_eq_some_iff.mp h1).1, ?_⟩
    rw [h1]
    obtain ⟨a, b⟩ := q
    simp only at h2 ⊢
    rw [h2]
theorem mLoc.has {base : Nat} {tb : Nat → Nat} {nL : Nat} {ls : Array Slot} {L : List (Option mV)} (h : mLoc base tb nL ls L) : lv_has ls nL (mLst base tb L) := by
  refine ⟨h.1, h.2.1, fun q hq => ?_⟩
  obtain ⟨v, h1, h2⟩ := mLst_mem.mp hq
  rw [h2]
  exact h.2.2 _ _ h1
/-- behind a store of one word at i -/
theorem mLoc.st1 {base : Nat} {tb : Nat → Nat} {nL : Nat} {L L' : List (Option mV)} {i : Nat} {v : mV} {ls' : Array Slot} {lv' : List (Nat × Value)} (hw : mNW L i = true) (hL : L.set i (some v) = L')
    (hl : (i, mC base tb v) :: (mLst base tb L).filter (fun q => !(q.1 == i) && !(q.1 + 1 == i && q.2.category == 2)) = lv') (h' : lv_has ls' nL lv') : mLoc base tb nL ls' L' := by
  refine ⟨h'.1, h'.2.1, fun j w hj => h'.2.2 (j, mC base tb w) ?_⟩
  subst hL; subst hl
  rw [List.getElem?_set] at hj
  by_cases hij : i = j
  · subst hij
    rw [if_pos rfl] at hj
    split at hj
    · cases hj
      exact List.mem_cons_self
    · cases hj
  · rw [if_neg hij] at hj
    refine List.mem_cons_of_mem _ (List.mem_filter.mpr ⟨mLst_mem.mpr ⟨w, hj, rfl⟩, ?_⟩)
    have h1 : (j == i) = false := by simp; omega
    simp only [h1, Bool.not_false, Bool.true_and, Bool.not_eq_true', Bool.and_eq_false_iff]
    by_cases hji : j + 1 = i
    · right
      subst hji
      simp only [mNW, hj, beq_iff_eq] at hw
      rw [mC_cat, hw]
      rfl
    · left
      simp [hji]
/-- behind a store of two words at i -/
theorem mLoc.st2 {base : Nat} {tb : Nat → Nat} {nL : Nat} {L L' : List (Option mV)} {i : Nat} {v : mV} {ls' : Array Slot} {lv' : List (Nat × Value)} (hw : mNW L i = true) (hL : (L.set i (some v)).set (i + 1) none = L')
    (hl : (i, mC base tb v) :: (mLst base tb L).filter (fun q => !(q.1 == i) && (!(q.1 == i + 1) && !(q.1 + 1 == i && q.2.category == 2))) = lv') (h' : lv_has ls' nL lv') : mLoc base tb nL ls' L' := by
  refine ⟨h'.1, h'.2.1, fun j w hj => h'.2.2 (j, mC base tb w) ?_⟩
  subst hL; subst hl
  rw [List.getElem?_set] at hj
  by_cases hi1 : i + 1 = j
  · subst hi1
    rw [if_pos rfl] at hj
    split at hj <;> cases hj
  rw [if_neg hi1, List.getElem?_set] at hj
  by_cases hij : i = j
  · subst hij
    rw [if_pos rfl] at hj
    split at hj
    · cases hj
      exact List.mem_cons_self
    · cases hj
  · rw [if_neg hij] at hj
    refine List.mem_cons_of_mem _ (List.mem_filter.mpr ⟨mLst_mem.mpr ⟨w, hj, rfl⟩, ?_⟩)
    have h1 : (j == i) = false := by simp; omega
    have h2 : (j == i + 1) = false := by simp; omega
    simp only [h1, h2, Bool.not_false, Bool.true_and, Bool.not_eq_true', Bool.and_eq_false_iff]
    by_cases hji : j + 1 = i
    · right
      subst hji
      simp only [mNW, hj, beq_iff_eq] at hw
      rw [mC_cat, hw]
      rfl
    · left
      simp [hji]
theorem mLoc.drop {base : Nat} {tb : Nat → Nat} {nL : Nat} {ls : Array Slot} {L L' : List (Option mV)} (h : mLoc base tb nL ls L) (hs : ∀ (i : Nat) (v : mV), L'[i]? = some (some v) → L[i]? = some (some v)) : mLoc base tb nL ls L' := ⟨h.1, h.2.1, fun i v hi => h.2.2 i v (hs i v hi)⟩
end
section
/-! THE LAYER'S JUDGEMENT: a method at a place with its locals, stack and state; its end and the rows of the instructions -/
/-- a method: its name, bytes, number of locals, answer, decoded instructions, and (the law alone) the script -/
abbrev mM : Type := MethodName × ByteArray × Nat × Option FieldType × List (Nat × Instr × Nat) × Option (Nat × (Nat → Int32))
abbrev mName (M : mM) : MethodName := M.1
abbrev mBytes (M : mM) : ByteArray := M.2.1
abbrev mNL (M : mM) : Nat := M.2.2.1
abbrev mRet (M : mM) : Option FieldType := M.2.2.2.1
abbrev mTab (M : mM) : List (Nat × Instr × Nat) := M.2.2.2.2.1
abbrev mScr (M : mM) : Option (Nat × (Nat → Int32)) := M.2.2.2.2.2
def mFix (M : mM) (d : Nat) (p : Program) (R : Room) (s : State) (m : MethodId) (args : Array Value) (meth : Method) (c : Code) (base : Nat) (tb : Nat → Nat) (dC : Nat → ClassId) (dI : Nat → Nat → Nat) : Prop :=
  p.tables.exec = Jvm.exec ∧ c.code = mBytes M ∧ c.maxLocals = mNL M ∧ s.vm.findClass (mName M).cls = some m.cls ∧ (∀ w ∈ mGood, w.before args s = true) ∧ d ≤ R.frames ∧ 34 * d ≤ R.locals ∧ mWs base tb dC dI s s.heap ∧ base ≤ s.heap.size ∧ (∀ q ∈ mTab M, decode (mBytes M) q.1 = .ok q.2) ∧ meth.name = (mName M).name ∧ ∀ q, mScr M = some q → va_X (tb 4) q.1 q.2 s s.heap ∧ tb 4 < s.heap.size ∧ ¬ mA base (tb 4)
/-- what an answer must be: nothing, an int, a boolean, a long, a float -/
def mRok (ret : Option FieldType) (v : Option mV) (i : Instr) : Prop := match v with
  | none => ret = none ∧ i = .return_
  | some (.inl z) => i = .ireturn ∧ (ret = some .int ∨ (ret = some .boolean ∧ (z = 0 ∨ z = 1)))
  | some (.inr (.inl _)) => i = .lreturn ∧ ret = some .long
  | some (.inr (.inr (.inr (.inl _)))) => i = .freturn ∧ ret = some .float
  | _ => False
def mEnd (M : mM) (p : Program) (l : Launch) (e : Env) (R : Room) (s : State) (m : MethodId) (args : Array Value) (below : List Frame) (meth : Method) (c : Code) (Q : State → Prop) (base : Nat) (tb : Nat → Nat) (dC : Nat → ClassId) (dI : Nat → Nat → Nat) (Qa : Option mV → mS → Prop) : Prop :=
  ∀ (v : Option mV) (g : mS) (H : Heap) (locs : List Loc) (cells slots pc : Nat) (i : Instr) (ls : Array Slot), Qa v g → mRok (mRet M) v i → decode (mBytes M) pc = .ok (i, 1) → mHp base dC dI s g H → va_S (mA base) s.heap H locs → cells ≤ R.cells → slots ≤ R.slots →
    W p l e R s m args below meth c H locs cells slots Q (F0 m pc ls ((v.map (mC base tb)).toList))
def mX (M : mM) (d : Nat) (Qa : Option mV → mS → Prop) (cb sb pc : Nat) (L : List (Option mV)) (S : List mV) (g : mS) : Prop :=
  ∀ (p : Program) (l : Launch) (e : Env) (R : Room) (s : State) (m : MethodId) (args : Array Value) (below : List Frame) (meth : Method) (c : Code) (Q : State → Prop) (base : Nat) (tb : Nat → Nat) (dC : Nat → ClassId) (dI : Nat → Nat → Nat),
    mFix M d p R s m args meth c base tb dC dI → mEnd M p l e R s m args below meth c Q base tb dC dI Qa →
    ∀ (H : Heap) (locs : List Loc) (cells slots : Nat) (ls : Array Slot), mHp base dC dI s g H → va_S (mA base) s.heap H locs → mLoc base tb (mNL M) ls L → cells + cb ≤ R.cells → slots + sb ≤ R.slots →
      W p l e R s m args below meth c H locs cells slots Q (F0 m pc ls (S.map (mC base tb)))
theorem mFix.dec {M : mM} {d : Nat} {p : Program} {R : Room} {s : State} {m : MethodId} {args : Array Value} {meth : Method} {c : Code} {base : Nat} {tb : Nat → Nat} {dC : Nat → ClassId} {dI : Nat → Nat → Nat} (F : mFix M d p R s m args meth c base tb dC dI) {j pc len : Nat} {i : Instr} (h : (mTab M)[j]? = some (pc, i, len)) : decode (mBytes M) pc = .ok (i, len) := by
  obtain ⟨-, -, -, -, -, -, -, -, -, h10, -⟩ := F
  exact h10 (pc, i, len) (List.mem_of_getElem? h)
theorem mFix.go {M : mM} {d : Nat} {p : Program} {R : Room} {s : State} {m : MethodId} {args : Array Value} {meth : Method} {c : Code} {base : Nat} {tb : Nat → Nat} {dC : Nat → ClassId} {dI : Nat → Nat → Nat} (F : mFix M d p R s m args meth c base tb dC dI) {w : Cond} (h : w ∈ mGood) : w.before args s = true := F.2.2.2.2.1 w h
/-! numbers: an int of the machine is the number it is, where that fits -/
def mR (a : Int) : Prop := -2147483648 ≤ a ∧ a < 2147483648
theorem mI_to {a : Int} (h : mR a) : (Int32.ofInt a).toInt = a := by
  obtain ⟨h1, h2⟩ := h
  rw [Int32.toInt_ofInt]
  exact Int.bmod_eq_of_le (by simp [Int32.size]; omega) (by simp [Int32.size]; omega)
theorem mI_eq {a b : Int} (ha : mR a) (hb : mR b) : (Int32.ofInt a = Int32.ofInt b) ↔ a = b := by
  constructor
  · intro h
    have := congrArg Int32.toInt h
    rwa [mI_to ha, mI_to hb] at this
  · rintro rfl; rfl
theorem mI_lt {a b : Int} (ha : mR a) (hb : mR b) : (Int32.ofInt a < Int32.ofInt b) ↔ a < b := by
  rw [Int32.lt_iff_toInt_lt, mI_to ha, mI_to hb]
theorem mI_le {a b : Int} (ha : mR a) (hb : mR b) : (Int32.ofInt a ≤ Int32.ofInt b) ↔ a ≤ b := by
  rw [Int32.le_iff_toInt_le, mI_to ha, mI_to hb]
theorem mI_of (x : Int32) : mI x.toInt = .int x := by simp [mI]
theorem mI_rg (x : Int32) : mR x.toInt := ⟨Int32.le_toInt x, Int32.toInt_lt x⟩
theorem mI_nat {a : Int} (h : mR a) (h0 : 0 ≤ a) : (Int32.ofInt a).toNatClampNeg = a.toNat := by
  show (Int32.ofInt a).toInt.toNat = a.toNat
  rw [mI_to h]
theorem mR0 : mR 0 := ⟨by decide, by decide⟩
theorem mI_in {a : Int} {n : Nat} (h0 : 0 ≤ a) (h1 : a < n) (h : mR a) : ¬ (Int32.ofInt a < 0 ∨ n ≤ (Int32.ofInt a).toNatClampNeg) := by
  rw [mI_nat h h0, show (0 : Int32) = Int32.ofInt 0 from rfl, mI_lt h mR0]
  omega
end
section
/-! rows: constants, locals, arithmetic, branches -/
/-- some of the locals forgotten -/
def mSubL : List (Option mV) → List (Option mV) → Prop
  | [], _ => True
  | none :: t, _ :: u => mSubL t u
  | some v :: t, w :: u => w = some v ∧ mSubL t u
  | _ :: _, [] => False
theorem mSubL_at : ∀ (L' L : List (Option mV)), mSubL L' L → ∀ (i : Nat) (v : mV), L'[i]? = some (some v) → L[i]? = some (some v)
  | [], L, _, i, v, h => by simp at h
  | none :: t, [], h, i, v, h1 => h.elim
  | some w :: t, [], h, i, v, h1 => h.elim
  | none :: t, w :: u, h, 0, v, h1 => by simp at h1
  | none :: t, w :: u, h, i + 1, v, h1 => mSubL_at t u h i v h1
  | some x :: t, w :: u, h, 0, v, h1 => by
    obtain ⟨rfl, -⟩ := h
    exact h1
  | some x :: t, w :: u, h, i + 1, v, h1 => mSubL_at t u h.2 i v h1
section MX
variable {M : mM} {d cb sb pc : Nat} {Qa : Option mV → mS → Prop} {L : List (Option mV)} {S : List mV} {g : mS}
theorem x_iconst (j : Nat) {n : Int} (hd : (mTab M)[j]? = some (pc, .iconst n, 1)) (k : mX M d Qa cb sb (pc + 1) L (vI n :: S) g) : mX M d Qa cb sb pc L (S) g := by
  intro p l e R s m args below meth c Q base tb dC dI F E H locs cells slots ls hH hS hL hc hs
  exact lv_iconst F.1 F.2.1 (F.dec hd) rfl (k p l e R s m args below meth c Q base tb dC dI F E H locs cells slots ls hH hS hL hc hs)
theorem x_bipush (j : Nat) {n : Int} (hd : (mTab M)[j]? = some (pc, .bipush n, 2)) (hv : (Int8.ofInt n).toInt32 = Int32.ofInt n) (k : mX M d Qa cb sb (pc + 2) L (vI n :: S) g) : mX M d Qa cb sb pc L (S) g := by
  intro p l e R s m args below meth c Q base tb dC dI F E H locs cells slots ls hH hS hL hc hs
  exact lv_bipush F.1 F.2.1 (F.dec hd) hv (k p l e R s m args below meth c Q base tb dC dI F E H locs cells slots ls hH hS hL hc hs)
theorem x_sipush (j : Nat) {n : Int} (hd : (mTab M)[j]? = some (pc, .sipush n, 3)) (hv : (Int16.ofInt n).toInt32 = Int32.ofInt n) (k : mX M d Qa cb sb (pc + 3) L (vI n :: S) g) : mX M d Qa cb sb pc L (S) g := by
  intro p l e R s m args below meth c Q base tb dC dI F E H locs cells slots ls hH hS hL hc hs
  exact lv_sipush F.1 F.2.1 (F.dec hd) hv (k p l e R s m args below meth c Q base tb dC dI F E H locs cells slots ls hH hS hL hc hs)
theorem x_lconst (j : Nat) {n : Fin 2} {v : BitVec 64} (hd : (mTab M)[j]? = some (pc, .lconst n, 1)) (hv : BitVec.ofNat 64 (n : Nat) = v) (k : mX M d Qa cb sb (pc + 1) L (vL v :: S) g) : mX M d Qa cb sb pc L (S) g := by
  intro p l e R s m args below meth c Q base tb dC dI F E H locs cells slots ls hH hS hL hc hs
  subst hv
  exact lv_lconst F.1 F.2.1 (F.dec hd) rfl (k p l e R s m args below meth c Q base tb dC dI F E H locs cells slots ls hH hS hL hc hs)
theorem x_iload_n (j : Nat) {i : Fin 4} {z : Int} (hd : (mTab M)[j]? = some (pc, .iload_n i, 1)) (hl : L[(i : Nat)]? = some (some (vI z))) (k : mX M d Qa cb sb (pc + 1) L (vI z :: S) g) : mX M d Qa cb sb pc L (S) g := by
  intro p l e R s m args below meth c Q base tb dC dI F E H locs cells slots ls hH hS hL hc hs
  exact lv_iload_n F.1 F.2.1 (F.dec hd) rfl (hL.2.2 _ _ hl) (k p l e R s m args below meth c Q base tb dC dI F E H locs cells slots ls hH hS hL hc hs)
theorem x_iload (j : Nat) {i : Nat} {z : Int} (hd : (mTab M)[j]? = some (pc, .iload i, 2)) (hl : L[i]? = some (some (vI z))) (k : mX M d Qa cb sb (pc + 2) L (vI z :: S) g) : mX M d Qa cb sb pc L (S) g := by
  intro p l e R s m args below meth c Q base tb dC dI F E H locs cells slots ls hH hS hL hc hs
  exact lv_iload F.1 F.2.1 (F.dec hd) (hL.2.2 _ _ hl) (k p l e R s m args below meth c Q base tb dC dI F E H locs cells slots ls hH hS hL hc hs)
theorem x_lload_n (j : Nat) {i : Fin 4} {z : BitVec 64} (hd : (mTab M)[j]? = some (pc, .lload_n i, 1)) (hl : L[(i : Nat)]? = some (some (vL z))) (k : mX M d Qa cb sb (pc + 1) L (vL z :: S) g) : mX M d Qa cb sb pc L (S) g := by
  intro p l e R s m args below meth c Q base tb dC dI F E H locs cells slots ls hH hS hL hc hs
  exact lv_lload_n F.1 F.2.1 (F.dec hd) rfl (hL.2.2 _ _ hl) (k p l e R s m args below meth c Q base tb dC dI F E H locs cells slots ls hH hS hL hc hs)
theorem x_lload (j : Nat) {i : Nat} {z : BitVec 64} (hd : (mTab M)[j]? = some (pc, .lload i, 2)) (hl : L[i]? = some (some (vL z))) (k : mX M d Qa cb sb (pc + 2) L (vL z :: S) g) : mX M d Qa cb sb pc L (S) g := by
  intro p l e R s m args below meth c Q base tb dC dI F E H locs cells slots ls hH hS hL hc hs
  exact lv_lload F.1 F.2.1 (F.dec hd) (hL.2.2 _ _ hl) (k p l e R s m args below meth c Q base tb dC dI F E H locs cells slots ls hH hS hL hc hs)
theorem x_aload_n (j : Nat) {i : Fin 4} {z : Nat} (hd : (mTab M)[j]? = some (pc, .aload_n i, 1)) (hl : L[(i : Nat)]? = some (some (vR (some z)))) (k : mX M d Qa cb sb (pc + 1) L (vR (some z) :: S) g) : mX M d Qa cb sb pc L (S) g := by
  intro p l e R s m args below meth c Q base tb dC dI F E H locs cells slots ls hH hS hL hc hs
  exact lv_aload_n F.1 F.2.1 (F.dec hd) rfl (hL.2.2 _ _ hl) (k p l e R s m args below meth c Q base tb dC dI F E H locs cells slots ls hH hS hL hc hs)
theorem x_aload (j : Nat) {i : Nat} {z : Nat} (hd : (mTab M)[j]? = some (pc, .aload i, 2)) (hl : L[i]? = some (some (vR (some z)))) (k : mX M d Qa cb sb (pc + 2) L (vR (some z) :: S) g) : mX M d Qa cb sb pc L (S) g := by
  intro p l e R s m args below meth c Q base tb dC dI F E H locs cells slots ls hH hS hL hc hs
  exact lv_aload F.1 F.2.1 (F.dec hd) (hL.2.2 _ _ hl) (k p l e R s m args below meth c Q base tb dC dI F E H locs cells slots ls hH hS hL hc hs)
theorem x_tload_n (j : Nat) {i : Fin 4} {z : Nat} (hd : (mTab M)[j]? = some (pc, .aload_n i, 1)) (hl : L[(i : Nat)]? = some (some (vT z))) (k : mX M d Qa cb sb (pc + 1) L (vT z :: S) g) : mX M d Qa cb sb pc L (S) g := by
  intro p l e R s m args below meth c Q base tb dC dI F E H locs cells slots ls hH hS hL hc hs
  exact lv_aload_n F.1 F.2.1 (F.dec hd) rfl (hL.2.2 _ _ hl) (k p l e R s m args below meth c Q base tb dC dI F E H locs cells slots ls hH hS hL hc hs)
theorem x_tload (j : Nat) {i : Nat} {z : Nat} (hd : (mTab M)[j]? = some (pc, .aload i, 2)) (hl : L[i]? = some (some (vT z))) (k : mX M d Qa cb sb (pc + 2) L (vT z :: S) g) : mX M d Qa cb sb pc L (S) g := by
  intro p l e R s m args below meth c Q base tb dC dI F E H locs cells slots ls hH hS hL hc hs
  exact lv_aload F.1 F.2.1 (F.dec hd) (hL.2.2 _ _ hl) (k p l e R s m args below meth c Q base tb dC dI F E H locs cells slots ls hH hS hL hc hs)
theorem x_dload (j : Nat) {i : Nat} {z : UInt64} (hd : (mTab M)[j]? = some (pc, .dload i, 2)) (hl : L[i]? = some (some (vD z))) (k : mX M d Qa cb sb (pc + 2) L (vD z :: S) g) : mX M d Qa cb sb pc L (S) g := by
  intro p l e R s m args below meth c Q base tb dC dI F E H locs cells slots ls hH hS hL hc hs
  exact lv_dload F.1 F.2.1 (F.dec hd) (hL.2.2 _ _ hl) (k p l e R s m args below meth c Q base tb dC dI F E H locs cells slots ls hH hS hL hc hs)
theorem x_istore_n (j : Nat) {L' : List (Option mV)} {i : Fin 4} {z : Int} (hd : (mTab M)[j]? = some (pc, .istore_n i, 1)) (hn : (i : Nat) < mNL M) (hw : mNW L (i : Nat) = true) (hl : L.set (i : Nat) (some (vI z)) = L') (k : mX M d Qa cb sb (pc + 1) L' S g) : mX M d Qa cb sb pc L (vI z :: S) g := by
  intro p l e R s m args below meth c Q base tb dC dI F E H locs cells slots ls hH hS hL hc hs
  exact lv_istore_n (lv' := _) F.1 F.2.1 (F.dec hd) rfl hL.has hn rfl (fun ls' h' => k p l e R s m args below meth c Q base tb dC dI F E H locs cells slots ls' hH hS (mLoc.st1 hw hl rfl h') hc hs)
theorem x_istore (j : Nat) {L' : List (Option mV)} {i : Nat} {z : Int} (hd : (mTab M)[j]? = some (pc, .istore i, 2)) (hn : i < mNL M) (hw : mNW L i = true) (hl : L.set i (some (vI z)) = L') (k : mX M d Qa cb sb (pc + 2) L' S g) : mX M d Qa cb sb pc L (vI z :: S) g := by
  intro p l e R s m args below meth c Q base tb dC dI F E H locs cells slots ls hH hS hL hc hs
  exact lv_istore (lv' := _) F.1 F.2.1 (F.dec hd) hL.has hn rfl (fun ls' h' => k p l e R s m args below meth c Q base tb dC dI F E H locs cells slots ls' hH hS (mLoc.st1 hw hl rfl h') hc hs)
theorem x_lstore_n (j : Nat) {L' : List (Option mV)} {i : Fin 4} {z : BitVec 64} (hd : (mTab M)[j]? = some (pc, .lstore_n i, 1)) (hn : (i : Nat) + 1 < mNL M) (hw : mNW L (i : Nat) = true) (hl : (L.set (i : Nat) (some (vL z))).set ((i : Nat) + 1) none = L') (k : mX M d Qa cb sb (pc + 1) L' S g) : mX M d Qa cb sb pc L (vL z :: S) g := by
  intro p l e R s m args below meth c Q base tb dC dI F E H locs cells slots ls hH hS hL hc hs
  exact lv_lstore_n (lv' := _) F.1 F.2.1 (F.dec hd) rfl hL.has hn rfl (fun ls' h' => k p l e R s m args below meth c Q base tb dC dI F E H locs cells slots ls' hH hS (mLoc.st2 hw hl rfl h') hc hs)
theorem x_lstore (j : Nat) {L' : List (Option mV)} {i : Nat} {z : BitVec 64} (hd : (mTab M)[j]? = some (pc, .lstore i, 2)) (hn : i + 1 < mNL M) (hw : mNW L i = true) (hl : (L.set i (some (vL z))).set (i + 1) none = L') (k : mX M d Qa cb sb (pc + 2) L' S g) : mX M d Qa cb sb pc L (vL z :: S) g := by
  intro p l e R s m args below meth c Q base tb dC dI F E H locs cells slots ls hH hS hL hc hs
  exact lv_lstore (lv' := _) F.1 F.2.1 (F.dec hd) hL.has hn rfl (fun ls' h' => k p l e R s m args below meth c Q base tb dC dI F E H locs cells slots ls' hH hS (mLoc.st2 hw hl rfl h') hc hs)
theorem x_astore_n (j : Nat) {L' : List (Option mV)} {i : Fin 4} {z : Nat} (hd : (mTab M)[j]? = some (pc, .astore_n i, 1)) (hn : (i : Nat) < mNL M) (hw : mNW L (i : Nat) = true) (hl : L.set (i : Nat) (some (vR (some z))) = L') (k : mX M d Qa cb sb (pc + 1) L' S g) : mX M d Qa cb sb pc L (vR (some z) :: S) g := by
  intro p l e R s m args below meth c Q base tb dC dI F E H locs cells slots ls hH hS hL hc hs
  exact lv_astore_n (lv' := _) F.1 F.2.1 (F.dec hd) rfl hL.has hn rfl (fun ls' h' => k p l e R s m args below meth c Q base tb dC dI F E H locs cells slots ls' hH hS (mLoc.st1 hw hl rfl h') hc hs)
theorem x_astore (j : Nat) {L' : List (Option mV)} {i : Nat} {z : Nat} (hd : (mTab M)[j]? = some (pc, .astore i, 2)) (hn : i < mNL M) (hw : mNW L i = true) (hl : L.set i (some (vR (some z))) = L') (k : mX M d Qa cb sb (pc + 2) L' S g) : mX M d Qa cb sb pc L (vR (some z) :: S) g := by
  intro p l e R s m args below meth c Q base tb dC dI F E H locs cells slots ls hH hS hL hc hs
  exact lv_astore (lv' := _) F.1 F.2.1 (F.dec hd) hL.has hn rfl (fun ls' h' => k p l e R s m args below meth c Q base tb dC dI F E H locs cells slots ls' hH hS (mLoc.st1 hw hl rfl h') hc hs)
theorem x_dstore (j : Nat) {L' : List (Option mV)} {i : Nat} {z : UInt64} (hd : (mTab M)[j]? = some (pc, .dstore i, 2)) (hn : i + 1 < mNL M) (hw : mNW L i = true) (hl : (L.set i (some (vD z))).set (i + 1) none = L') (k : mX M d Qa cb sb (pc + 2) L' S g) : mX M d Qa cb sb pc L (vD z :: S) g := by
  intro p l e R s m args below meth c Q base tb dC dI F E H locs cells slots ls hH hS hL hc hs
  exact lv_dstore (lv' := _) F.1 F.2.1 (F.dec hd) hL.has hn rfl (fun ls' h' => k p l e R s m args below meth c Q base tb dC dI F E H locs cells slots ls' hH hS (mLoc.st2 hw hl rfl h') hc hs)
theorem x_iinc (j : Nat) {L' : List (Option mV)} {i : Nat} {n z z' : Int} (hd : (mTab M)[j]? = some (pc, .iinc i n, 3)) (hn : i < mNL M) (hg : L[i]? = some (some (vI z))) (hz : z + n = z') (hw : mNW L i = true) (hl : L.set i (some (vI z')) = L') (k : mX M d Qa cb sb (pc + 3) L' S g) : mX M d Qa cb sb pc L S g := by
  intro p l e R s m args below meth c Q base tb dC dI F E H locs cells slots ls hH hS hL hc hs
  have hm : (i, mC base tb (vI z)) ∈ mLst base tb L := mLst_mem.mpr ⟨vI z, hg, rfl⟩
  obtain ⟨q, hq⟩ := List.getElem?_of_mem hm
  refine lv_iinc (k := q) (x := Int32.ofInt z) (v := Int32.ofInt z') (lv' := _) F.1 F.2.1 (F.dec hd) hL.has hq (by rw [← hz, Int32.ofInt_add]) hn rfl (fun ls' h' => ?_)
  exact k p l e R s m args below meth c Q base tb dC dI F E H locs cells slots ls' hH hS (mLoc.st1 (v := vI z') hw hl rfl h') hc hs
theorem x_iadd (j : Nat) {a b r : Int} (hd : (mTab M)[j]? = some (pc, .iadd, 1)) (hr : a + b = r) (k : mX M d Qa cb sb (pc + 1) L (vI r :: S) g) : mX M d Qa cb sb pc L (vI b :: vI a :: S) g := by
  intro p l e R s m args below meth c Q base tb dC dI F E H locs cells slots ls hH hS hL hc hs
  refine lv_iadd F.1 F.2.1 (F.dec hd) ?_
  rw [← Int32.ofInt_add, hr]
  exact (k p l e R s m args below meth c Q base tb dC dI F E H locs cells slots ls hH hS hL hc hs)
theorem x_isub (j : Nat) {a b r : Int} (hd : (mTab M)[j]? = some (pc, .isub, 1)) (hr : a - b = r) (k : mX M d Qa cb sb (pc + 1) L (vI r :: S) g) : mX M d Qa cb sb pc L (vI b :: vI a :: S) g := by
  intro p l e R s m args below meth c Q base tb dC dI F E H locs cells slots ls hH hS hL hc hs
  refine lv_isub F.1 F.2.1 (F.dec hd) ?_
  rw [← Int32.ofInt_sub, hr]
  exact (k p l e R s m args below meth c Q base tb dC dI F E H locs cells slots ls hH hS hL hc hs)
theorem x_imul (j : Nat) {a b r : Int} (hd : (mTab M)[j]? = some (pc, .imul, 1)) (hr : a * b = r) (k : mX M d Qa cb sb (pc + 1) L (vI r :: S) g) : mX M d Qa cb sb pc L (vI b :: vI a :: S) g := by
  intro p l e R s m args below meth c Q base tb dC dI F E H locs cells slots ls hH hS hL hc hs
  refine lv_imul F.1 F.2.1 (F.dec hd) ?_
  rw [← Int32.ofInt_mul, hr]
  exact (k p l e R s m args below meth c Q base tb dC dI F E H locs cells slots ls hH hS hL hc hs)
theorem x_ineg (j : Nat) {a r : Int} (hd : (mTab M)[j]? = some (pc, .ineg, 1)) (hr : -a = r) (k : mX M d Qa cb sb (pc + 1) L (vI r :: S) g) : mX M d Qa cb sb pc L (vI a :: S) g := by
  intro p l e R s m args below meth c Q base tb dC dI F E H locs cells slots ls hH hS hL hc hs
  refine lv_ineg F.1 F.2.1 (F.dec hd) ?_
  rw [← Int32.ofInt_neg, hr]
  exact (k p l e R s m args below meth c Q base tb dC dI F E H locs cells slots ls hH hS hL hc hs)
theorem x_dup (j : Nat) {v : mV} (hd : (mTab M)[j]? = some (pc, .dup, 1)) (hv : mCat v = 1) (k : mX M d Qa cb sb (pc + 1) L (v :: v :: S) g) : mX M d Qa cb sb pc L (v :: S) g := by
  intro p l e R s m args below meth c Q base tb dC dI F E H locs cells slots ls hH hS hL hc hs
  exact lv_dup F.1 F.2.1 (F.dec hd) (by rw [mC_cat, hv]) (k p l e R s m args below meth c Q base tb dC dI F E H locs cells slots ls hH hS hL hc hs)
theorem x_dup2 (j : Nat) {v w : mV} (hd : (mTab M)[j]? = some (pc, .dup2, 1)) (hv : mCat v = 1) (hw : mCat w = 1) (k : mX M d Qa cb sb (pc + 1) L (v :: w :: v :: w :: S) g) : mX M d Qa cb sb pc L (v :: w :: S) g := by
  intro p l e R s m args below meth c Q base tb dC dI F E H locs cells slots ls hH hS hL hc hs
  exact lv_dup2_11 F.1 F.2.1 (F.dec hd) (by rw [mC_cat, hv]) (by rw [mC_cat, hw]) (k p l e R s m args below meth c Q base tb dC dI F E H locs cells slots ls hH hS hL hc hs)
theorem x_icmp_eq (j : Nat) {off : Int} {tgt : Nat} {a b : Int} (hd : (mTab M)[j]? = some (pc, .if_icmp .eq off, 3)) (ht : (pc : Int) + off = (tgt : Int)) (hr : -2147483648 ≤ a ∧ a < 2147483648 ∧ -2147483648 ≤ b ∧ b < 2147483648) (kt : a = b → mX M d Qa cb sb tgt L S g) (kf : a ≠ b → mX M d Qa cb sb (pc + 3) L S g) : mX M d Qa cb sb pc L (vI b :: vI a :: S) g := by
  intro p l e R s m args below meth c Q base tb dC dI F E H locs cells slots ls hH hS hL hc hs
  have ha : mR a := ⟨hr.1, hr.2.1⟩
  have hb : mR b := ⟨hr.2.2.1, hr.2.2.2⟩
  have e1 := mI_eq ha hb
  have e2 := mI_lt ha hb
  have e3 := mI_lt hb ha
  have e4 := mI_le ha hb
  have e5 := mI_le hb ha
  refine lv_icmp_eq (x := Int32.ofInt a) (y := Int32.ofInt b) F.1 F.2.1 (F.dec hd) ht (fun h => kt ?_ p l e R s m args below meth c Q base tb dC dI F E H locs cells slots ls hH hS hL hc hs) (fun h => kf ?_ p l e R s m args below meth c Q base tb dC dI F E H locs cells slots ls hH hS hL hc hs)
  all_goals (try simp only [show (0 : Int32) = Int32.ofInt 0 from rfl] at h)
  all_goals (try simp only [ge_iff_le, gt_iff_lt, ne_eq, e1, e2, e3, e4, e5] at h ⊢)
  all_goals omega
theorem x_icmp_ne (j : Nat) {off : Int} {tgt : Nat} {a b : Int} (hd : (mTab M)[j]? = some (pc, .if_icmp .ne off, 3)) (ht : (pc : Int) + off = (tgt : Int)) (hr : -2147483648 ≤ a ∧ a < 2147483648 ∧ -2147483648 ≤ b ∧ b < 2147483648) (kt : a ≠ b → mX M d Qa cb sb tgt L S g) (kf : a = b → mX M d Qa cb sb (pc + 3) L S g) : mX M d Qa cb sb pc L (vI b :: vI a :: S) g := by
  intro p l e R s m args below meth c Q base tb dC dI F E H locs cells slots ls hH hS hL hc hs
  have ha : mR a := ⟨hr.1, hr.2.1⟩
  have hb : mR b := ⟨hr.2.2.1, hr.2.2.2⟩
  have e1 := mI_eq ha hb
  have e2 := mI_lt ha hb
  have e3 := mI_lt hb ha
  have e4 := mI_le ha hb
  have e5 := mI_le hb ha
  refine lv_icmp_ne (x := Int32.ofInt a) (y := Int32.ofInt b) F.1 F.2.1 (F.dec hd) ht (fun h => kt ?_ p l e R s m args below meth c Q base tb dC dI F E H locs cells slots ls hH hS hL hc hs) (fun h => kf ?_ p l e R s m args below meth c Q base tb dC dI F E H locs cells slots ls hH hS hL hc hs)
  all_goals (try simp only [show (0 : Int32) = Int32.ofInt 0 from rfl] at h)
  all_goals (try simp only [ge_iff_le, gt_iff_lt, ne_eq, e1, e2, e3, e4, e5] at h ⊢)
  all_goals omega
theorem x_icmp_lt (j : Nat) {off : Int} {tgt : Nat} {a b : Int} (hd : (mTab M)[j]? = some (pc, .if_icmp .lt off, 3)) (ht : (pc : Int) + off = (tgt : Int)) (hr : -2147483648 ≤ a ∧ a < 2147483648 ∧ -2147483648 ≤ b ∧ b < 2147483648) (kt : a < b → mX M d Qa cb sb tgt L S g) (kf : b ≤ a → mX M d Qa cb sb (pc + 3) L S g) : mX M d Qa cb sb pc L (vI b :: vI a :: S) g := by
  intro p l e R s m args below meth c Q base tb dC dI F E H locs cells slots ls hH hS hL hc hs
  have ha : mR a := ⟨hr.1, hr.2.1⟩
  have hb : mR b := ⟨hr.2.2.1, hr.2.2.2⟩
  have e1 := mI_eq ha hb
  have e2 := mI_lt ha hb
  have e3 := mI_lt hb ha
  have e4 := mI_le ha hb
  have e5 := mI_le hb ha
  refine lv_icmp_lt (x := Int32.ofInt a) (y := Int32.ofInt b) F.1 F.2.1 (F.dec hd) ht (fun h => kt ?_ p l e R s m args below meth c Q base tb dC dI F E H locs cells slots ls hH hS hL hc hs) (fun h => kf ?_ p l e R s m args below meth c Q base tb dC dI F E H locs cells slots ls hH hS hL hc hs)
  all_goals (try simp only [show (0 : Int32) = Int32.ofInt 0 from rfl] at h)
  all_goals (try simp only [ge_iff_le, gt_iff_lt, ne_eq, e1, e2, e3, e4, e5] at h ⊢)
  all_goals omega
theorem x_icmp_ge (j : Nat) {off : Int} {tgt : Nat} {a b : Int} (hd : (mTab M)[j]? = some (pc, .if_icmp .ge off, 3)) (ht : (pc : Int) + off = (tgt : Int)) (hr : -2147483648 ≤ a ∧ a < 2147483648 ∧ -2147483648 ≤ b ∧ b < 2147483648) (kt : b ≤ a → mX M d Qa cb sb tgt L S g) (kf : a < b → mX M d Qa cb sb (pc + 3) L S g) : mX M d Qa cb sb pc L (vI b :: vI a :: S) g := by
  intro p l e R s m args below meth c Q base tb dC dI F E H locs cells slots ls hH hS hL hc hs
  have ha : mR a := ⟨hr.1, hr.2.1⟩
  have hb : mR b := ⟨hr.2.2.1, hr.2.2.2⟩
  have e1 := mI_eq ha hb
  have e2 := mI_lt ha hb
  have e3 := mI_lt hb ha
  have e4 := mI_le ha hb
  have e5 := mI_le hb ha
  refine lv_icmp_ge (x := Int32.ofInt a) (y := Int32.ofInt b) F.1 F.2.1 (F.dec hd) ht (fun h => kt ?_ p l e R s m args below meth c Q base tb dC dI F E H locs cells slots ls hH hS hL hc hs) (fun h => kf ?_ p l e R s m args below meth c Q base tb dC dI F E H locs cells slots ls hH hS hL hc hs)
  all_goals (try simp only [show (0 : Int32) = Int32.ofInt 0 from rfl] at h)
  all_goals (try simp only [ge_iff_le, gt_iff_lt, ne_eq, e1, e2, e3, e4, e5] at h ⊢)
  all_goals omega
theorem x_icmp_gt (j : Nat) {off : Int} {tgt : Nat} {a b : Int} (hd : (mTab M)[j]? = some (pc, .if_icmp .gt off, 3)) (ht : (pc : Int) + off = (tgt : Int)) (hr : -2147483648 ≤ a ∧ a < 2147483648 ∧ -2147483648 ≤ b ∧ b < 2147483648) (kt : b < a → mX M d Qa cb sb tgt L S g) (kf : a ≤ b → mX M d Qa cb sb (pc + 3) L S g) : mX M d Qa cb sb pc L (vI b :: vI a :: S) g := by
  intro p l e R s m args below meth c Q base tb dC dI F E H locs cells slots ls hH hS hL hc hs
  have ha : mR a := ⟨hr.1, hr.2.1⟩
  have hb : mR b := ⟨hr.2.2.1, hr.2.2.2⟩
  have e1 := mI_eq ha hb
  have e2 := mI_lt ha hb
  have e3 := mI_lt hb ha
  have e4 := mI_le ha hb
  have e5 := mI_le hb ha
  refine lv_icmp_gt (x := Int32.ofInt a) (y := Int32.ofInt b) F.1 F.2.1 (F.dec hd) ht (fun h => kt ?_ p l e R s m args below meth c Q base tb dC dI F E H locs cells slots ls hH hS hL hc hs) (fun h => kf ?_ p l e R s m args below meth c Q base tb dC dI F E H locs cells slots ls hH hS hL hc hs)
  all_goals (try simp only [show (0 : Int32) = Int32.ofInt 0 from rfl] at h)
  all_goals (try simp only [ge_iff_le, gt_iff_lt, ne_eq, e1, e2, e3, e4, e5] at h ⊢)
  all_goals omega
theorem x_icmp_le (j : Nat) {off : Int} {tgt : Nat} {a b : Int} (hd : (mTab M)[j]? = some (pc, .if_icmp .le off, 3)) (ht : (pc : Int) + off = (tgt : Int)) (hr : -2147483648 ≤ a ∧ a < 2147483648 ∧ -2147483648 ≤ b ∧ b < 2147483648) (kt : a ≤ b → mX M d Qa cb sb tgt L S g) (kf : b < a → mX M d Qa cb sb (pc + 3) L S g) : mX M d Qa cb sb pc L (vI b :: vI a :: S) g := by
  intro p l e R s m args below meth c Q base tb dC dI F E H locs cells slots ls hH hS hL hc hs
  have ha : mR a := ⟨hr.1, hr.2.1⟩
  have hb : mR b := ⟨hr.2.2.1, hr.2.2.2⟩
  have e1 := mI_eq ha hb
  have e2 := mI_lt ha hb
  have e3 := mI_lt hb ha
  have e4 := mI_le ha hb
  have e5 := mI_le hb ha
  refine lv_icmp_le (x := Int32.ofInt a) (y := Int32.ofInt b) F.1 F.2.1 (F.dec hd) ht (fun h => kt ?_ p l e R s m args below meth c Q base tb dC dI F E H locs cells slots ls hH hS hL hc hs) (fun h => kf ?_ p l e R s m args below meth c Q base tb dC dI F E H locs cells slots ls hH hS hL hc hs)
  all_goals (try simp only [show (0 : Int32) = Int32.ofInt 0 from rfl] at h)
  all_goals (try simp only [ge_iff_le, gt_iff_lt, ne_eq, e1, e2, e3, e4, e5] at h ⊢)
  all_goals omega
theorem x_if_eq (j : Nat) {off : Int} {tgt : Nat} {a : Int} (hd : (mTab M)[j]? = some (pc, .ifCond .eq off, 3)) (ht : (pc : Int) + off = (tgt : Int)) (hr : -2147483648 ≤ a ∧ a < 2147483648) (kt : a = 0 → mX M d Qa cb sb tgt L S g) (kf : a ≠ 0 → mX M d Qa cb sb (pc + 3) L S g) : mX M d Qa cb sb pc L (vI a :: S) g := by
  intro p l e R s m args below meth c Q base tb dC dI F E H locs cells slots ls hH hS hL hc hs
  have ha : mR a := ⟨hr.1, hr.2⟩
  have hb : mR 0 := mR0
  have e1 := mI_eq ha hb
  have e2 := mI_lt ha hb
  have e3 := mI_lt hb ha
  have e4 := mI_le ha hb
  have e5 := mI_le hb ha
  refine lv_if_eq (x := Int32.ofInt a) F.1 F.2.1 (F.dec hd) ht (fun h => kt ?_ p l e R s m args below meth c Q base tb dC dI F E H locs cells slots ls hH hS hL hc hs) (fun h => kf ?_ p l e R s m args below meth c Q base tb dC dI F E H locs cells slots ls hH hS hL hc hs)
  all_goals (try simp only [show (0 : Int32) = Int32.ofInt 0 from rfl] at h)
  all_goals (try simp only [ge_iff_le, gt_iff_lt, ne_eq, e1, e2, e3, e4, e5] at h ⊢)
  all_goals omega
theorem x_if_ne (j : Nat) {off : Int} {tgt : Nat} {a : Int} (hd : (mTab M)[j]? = some (pc, .ifCond .ne off, 3)) (ht : (pc : Int) + off = (tgt : Int)) (hr : -2147483648 ≤ a ∧ a < 2147483648) (kt : a ≠ 0 → mX M d Qa cb sb tgt L S g) (kf : a = 0 → mX M d Qa cb sb (pc + 3) L S g) : mX M d Qa cb sb pc L (vI a :: S) g := by
  intro p l e R s m args below meth c Q base tb dC dI F E H locs cells slots ls hH hS hL hc hs
  have ha : mR a := ⟨hr.1, hr.2⟩
  have hb : mR 0 := mR0
  have e1 := mI_eq ha hb
  have e2 := mI_lt ha hb
  have e3 := mI_lt hb ha
  have e4 := mI_le ha hb
  have e5 := mI_le hb ha
  refine lv_if_ne (x := Int32.ofInt a) F.1 F.2.1 (F.dec hd) ht (fun h => kt ?_ p l e R s m args below meth c Q base tb dC dI F E H locs cells slots ls hH hS hL hc hs) (fun h => kf ?_ p l e R s m args below meth c Q base tb dC dI F E H locs cells slots ls hH hS hL hc hs)
  all_goals (try simp only [show (0 : Int32) = Int32.ofInt 0 from rfl] at h)
  all_goals (try simp only [ge_iff_le, gt_iff_lt, ne_eq, e1, e2, e3, e4, e5] at h ⊢)
  all_goals omega
theorem x_if_lt (j : Nat) {off : Int} {tgt : Nat} {a : Int} (hd : (mTab M)[j]? = some (pc, .ifCond .lt off, 3)) (ht : (pc : Int) + off = (tgt : Int)) (hr : -2147483648 ≤ a ∧ a < 2147483648) (kt : a < 0 → mX M d Qa cb sb tgt L S g) (kf : 0 ≤ a → mX M d Qa cb sb (pc + 3) L S g) : mX M d Qa cb sb pc L (vI a :: S) g := by
  intro p l e R s m args below meth c Q base tb dC dI F E H locs cells slots ls hH hS hL hc hs
  have ha : mR a := ⟨hr.1, hr.2⟩
  have hb : mR 0 := mR0
  have e1 := mI_eq ha hb
  have e2 := mI_lt ha hb
  have e3 := mI_lt hb ha
  have e4 := mI_le ha hb
  have e5 := mI_le hb ha
  refine lv_if_lt (x := Int32.ofInt a) F.1 F.2.1 (F.dec hd) ht (fun h => kt ?_ p l e R s m args below meth c Q base tb dC dI F E H locs cells slots ls hH hS hL hc hs) (fun h => kf ?_ p l e R s m args below meth c Q base tb dC dI F E H locs cells slots ls hH hS hL hc hs)
  all_goals (try simp only [show (0 : Int32) = Int32.ofInt 0 from rfl] at h)
  all_goals (try simp only [ge_iff_le, gt_iff_lt, ne_eq, e1, e2, e3, e4, e5] at h ⊢)
  all_goals omega
theorem x_if_ge (j : Nat) {off : Int} {tgt : Nat} {a : Int} (hd : (mTab M)[j]? = some (pc, .ifCond .ge off, 3)) (ht : (pc : Int) + off = (tgt : Int)) (hr : -2147483648 ≤ a ∧ a < 2147483648) (kt : 0 ≤ a → mX M d Qa cb sb tgt L S g) (kf : a < 0 → mX M d Qa cb sb (pc + 3) L S g) : mX M d Qa cb sb pc L (vI a :: S) g := by
  intro p l e R s m args below meth c Q base tb dC dI F E H locs cells slots ls hH hS hL hc hs
  have ha : mR a := ⟨hr.1, hr.2⟩
  have hb : mR 0 := mR0
  have e1 := mI_eq ha hb
  have e2 := mI_lt ha hb
  have e3 := mI_lt hb ha
  have e4 := mI_le ha hb
  have e5 := mI_le hb ha
  refine lv_if_ge (x := Int32.ofInt a) F.1 F.2.1 (F.dec hd) ht (fun h => kt ?_ p l e R s m args below meth c Q base tb dC dI F E H locs cells slots ls hH hS hL hc hs) (fun h => kf ?_ p l e R s m args below meth c Q base tb dC dI F E H locs cells slots ls hH hS hL hc hs)
  all_goals (try simp only [show (0 : Int32) = Int32.ofInt 0 from rfl] at h)
  all_goals (try simp only [ge_iff_le, gt_iff_lt, ne_eq, e1, e2, e3, e4, e5] at h ⊢)
  all_goals omega
theorem x_if_gt (j : Nat) {off : Int} {tgt : Nat} {a : Int} (hd : (mTab M)[j]? = some (pc, .ifCond .gt off, 3)) (ht : (pc : Int) + off = (tgt : Int)) (hr : -2147483648 ≤ a ∧ a < 2147483648) (kt : 0 < a → mX M d Qa cb sb tgt L S g) (kf : a ≤ 0 → mX M d Qa cb sb (pc + 3) L S g) : mX M d Qa cb sb pc L (vI a :: S) g := by
  intro p l e R s m args below meth c Q base tb dC dI F E H locs cells slots ls hH hS hL hc hs
  have ha : mR a := ⟨hr.1, hr.2⟩
  have hb : mR 0 := mR0
  have e1 := mI_eq ha hb
  have e2 := mI_lt ha hb
  have e3 := mI_lt hb ha
  have e4 := mI_le ha hb
  have e5 := mI_le hb ha
  refine lv_if_gt (x := Int32.ofInt a) F.1 F.2.1 (F.dec hd) ht (fun h => kt ?_ p l e R s m args below meth c Q base tb dC dI F E H locs cells slots ls hH hS hL hc hs) (fun h => kf ?_ p l e R s m args below meth c Q base tb dC dI F E H locs cells slots ls hH hS hL hc hs)
  all_goals (try simp only [show (0 : Int32) = Int32.ofInt 0 from rfl] at h)
  all_goals (try simp only [ge_iff_le, gt_iff_lt, ne_eq, e1, e2, e3, e4, e5] at h ⊢)
  all_goals omega
theorem x_if_le (j : Nat) {off : Int} {tgt : Nat} {a : Int} (hd : (mTab M)[j]? = some (pc, .ifCond .le off, 3)) (ht : (pc : Int) + off = (tgt : Int)) (hr : -2147483648 ≤ a ∧ a < 2147483648) (kt : a ≤ 0 → mX M d Qa cb sb tgt L S g) (kf : 0 < a → mX M d Qa cb sb (pc + 3) L S g) : mX M d Qa cb sb pc L (vI a :: S) g := by
  intro p l e R s m args below meth c Q base tb dC dI F E H locs cells slots ls hH hS hL hc hs
  have ha : mR a := ⟨hr.1, hr.2⟩
  have hb : mR 0 := mR0
  have e1 := mI_eq ha hb
  have e2 := mI_lt ha hb
  have e3 := mI_lt hb ha
  have e4 := mI_le ha hb
  have e5 := mI_le hb ha
  refine lv_if_le (x := Int32.ofInt a) F.1 F.2.1 (F.dec hd) ht (fun h => kt ?_ p l e R s m args below meth c Q base tb dC dI F E H locs cells slots ls hH hS hL hc hs) (fun h => kf ?_ p l e R s m args below meth c Q base tb dC dI F E H locs cells slots ls hH hS hL hc hs)
  all_goals (try simp only [show (0 : Int32) = Int32.ofInt 0 from rfl] at h)
  all_goals (try simp only [ge_iff_le, gt_iff_lt, ne_eq, e1, e2, e3, e4, e5] at h ⊢)
  all_goals omega
theorem x_goto (j : Nat) {off : Int} {tgt : Nat} (hd : (mTab M)[j]? = some (pc, .goto off, 3)) (ht : (pc : Int) + off = (tgt : Int)) (k : mX M d Qa cb sb tgt L S g) : mX M d Qa cb sb pc L S g := by
  intro p l e R s m args below meth c Q base tb dC dI F E H locs cells slots ls hH hS hL hc hs
  exact lv_goto F.1 F.2.1 (F.dec hd) ht (k p l e R s m args below meth c Q base tb dC dI F E H locs cells slots ls hH hS hL hc hs)
theorem x_drop {L' : List (Option mV)} (hs : ∀ (i : Nat) (v : mV), L'[i]? = some (some v) → L[i]? = some (some v)) (k : mX M d Qa cb sb pc L' S g) : mX M d Qa cb sb pc L S g := by
  intro p l e R s m args below meth c Q base tb dC dI F E H locs cells slots ls hH hS hL hc hz
  exact k p l e R s m args below meth c Q base tb dC dI F E H locs cells slots ls hH hS (hL.drop hs) hc hz
theorem x_dropL {L' : List (Option mV)} (hs : mSubL L' L) (k : mX M d Qa cb sb pc L' S g) : mX M d Qa cb sb pc L S g := x_drop (mSubL_at L' L hs) k
theorem x_ret (j : Nat) {i : Instr} (v : Option mV) (hd : (mTab M)[j]? = some (pc, i, 1)) (hv : mRok (mRet M) v i) (hq : Qa v g) : mX M d Qa cb sb pc L v.toList g := by
  intro p l e R s m args below meth c Q base tb dC dI F E H locs cells slots ls hH hS hL hc hs
  have h := E v g H locs cells slots pc i ls hq hv (F.dec hd) hH hS (by omega) (by omega)
  cases v <;> exact h
theorem x_post {Qb : Option mV → mS → Prop} (hq : ∀ v g, Qb v g → Qa v g) (k : mX M d Qb cb sb pc L S g) : mX M d Qa cb sb pc L S g := by
  intro p l e R s m args below meth c Q base tb dC dI F E H locs cells slots ls hH hS hL hc hs
  exact k p l e R s m args below meth c Q base tb dC dI F (fun v g H locs cells slots pc i ls h => E v g H locs cells slots pc i ls (hq v g h)) H locs cells slots ls hH hS hL hc hs
end MX
end
section
/-! numbers: division, bits, shifts, longs -/
theorem mI_ofN (n : Nat) : Int32.ofInt (n : Int) = nI n := rfl
theorem mI_tN {a : Int} (h0 : 0 ≤ a) : Int32.ofInt a = nI a.toNat := by
  show Int32.ofInt a = Int32.ofInt ((a.toNat : Nat) : Int)
  rw [Int.toNat_of_nonneg h0]
theorem mN_div {a b : Int} (ha : 0 ≤ a ∧ a < 2147483648) (hb : 0 < b ∧ b < 2147483648) : Int32.ofInt a / Int32.ofInt b = Int32.ofInt (a / b) := by
  have hq : 0 ≤ a / b := Int.ediv_nonneg ha.1 (by omega)
  have hq2 : a / b ≤ a := Int.ediv_le_self b ha.1
  apply Int32.toInt_inj.mp
  rw [Int32.toInt_div, mI_to ⟨by omega, by omega⟩, mI_to ⟨by omega, by omega⟩, mI_to ⟨by omega, by omega⟩]
  rw [Int.tdiv_eq_ediv_of_nonneg ha.1]
  exact Int.bmod_eq_of_le (by omega) (by omega)
theorem mN_mod {a b : Int} (ha : 0 ≤ a ∧ a < 2147483648) (hb : 0 < b ∧ b < 2147483648) : Int32.ofInt a % Int32.ofInt b = Int32.ofInt (a % b) := by
  have hq : 0 ≤ a % b := Int.emod_nonneg a (by omega)
  have hq2 : a % b < b := Int.emod_lt_of_pos a hb.1
  apply Int32.toInt_inj.mp
  rw [Int32.toInt_mod, mI_to ⟨by omega, by omega⟩, mI_to ⟨by omega, by omega⟩, mI_to ⟨by omega, by omega⟩]
  exact Int.tmod_eq_emod_of_nonneg ha.1
theorem mN_bv (a : Int) : (Int32.ofInt a).toBitVec = BitVec.ofInt 32 a := rfl
theorem mN_nbv {n : Nat} (h : n < 4294967296) : (nI n).toBitVec.toNat = n := by
  simp [nI, Int32.toBitVec_ofNat', BitVec.toNat_ofNat]
  omega
theorem mN_inj {x y : Int32} (h : x.toBitVec.toNat = y.toBitVec.toNat) : x = y := Int32.toBitVec_inj.mp (BitVec.eq_of_toNat_eq h)
theorem mN_and {a b : Nat} (ha : a < 4294967296) (hb : b < 4294967296) : nI a &&& nI b = nI (a &&& b) := by
  have h : a &&& b < 4294967296 := Nat.lt_of_le_of_lt Nat.and_le_left ha
  apply mN_inj
  rw [Int32.toBitVec_and, BitVec.toNat_and, mN_nbv ha, mN_nbv hb, mN_nbv h]
theorem mN_or {a b : Nat} (ha : a < 4294967296) (hb : b < 4294967296) : nI a ||| nI b = nI (a ||| b) := by
  have h : a ||| b < 4294967296 := Nat.or_lt_two_pow (n := 32) ha hb
  apply mN_inj
  rw [Int32.toBitVec_or, BitVec.toNat_or, mN_nbv ha, mN_nbv hb, mN_nbv h]
theorem mN_xor {a b : Nat} (ha : a < 4294967296) (hb : b < 4294967296) : nI a ^^^ nI b = nI (a ^^^ b) := by
  have h : a ^^^ b < 4294967296 := Nat.xor_lt_two_pow (n := 32) ha hb
  apply mN_inj
  rw [Int32.toBitVec_xor, BitVec.toNat_xor, mN_nbv ha, mN_nbv hb, mN_nbv h]
/-- the last k bits of any int -/
theorem mN_mask (a : Int) (k : Nat) (hk : k < 31) : Int32.ofInt a &&& nI (2 ^ k - 1) = Int32.ofInt (a % (2 ^ k : Int)) := by
  have hp : 2 ^ k ≤ 2 ^ 30 := Nat.pow_le_pow_right (by omega) (by omega)
  have hp0 : 0 < 2 ^ k := Nat.two_pow_pos k
  have hc : ((2 ^ k : Nat) : Int) = (2 ^ k : Int) := by simp
  rw [← hc]
  have hm : 0 ≤ a % ((2 ^ k : Nat) : Int) := Int.emod_nonneg a (by omega)
  have hm2 : a % ((2 ^ k : Nat) : Int) < ((2 ^ k : Nat) : Int) := Int.emod_lt_of_pos a (by omega)
  rw [mI_tN hm]
  apply mN_inj
  rw [Int32.toBitVec_and, BitVec.toNat_and, mN_nbv (by omega), mN_nbv (by omega), mN_bv, BitVec.toNat_ofInt, Nat.and_two_pow_sub_one_eq_mod]
  have hd : (2 ^ k : Nat) ∣ 2 ^ 32 := Nat.pow_dvd_pow 2 (by omega)
  have hdi : ((2 ^ k : Nat) : Int) ∣ ((2 ^ 32 : Nat) : Int) := Int.natCast_dvd_natCast.mpr hd
  apply Int.ofNat_inj.mp
  rw [Int.natCast_emod, Int.toNat_of_nonneg (Int.emod_nonneg a (by decide)), Int.emod_emod_of_dvd a hdi, Int.toNat_of_nonneg hm]
theorem mN_s32 : ∀ k, k < 32 → ((nI k &&& 31).toBitVec.smod 32).toNat = k := by decide +kernel
theorem mN_shl {a : Nat} {k : Nat} (hk : k < 32) (h : a * 2 ^ k < 4294967296) : nI a <<< (nI k &&& 31) = nI (a * 2 ^ k) := pk_shlN _ k (mN_s32 k hk) h
theorem mN_shr {a : Nat} {k : Nat} (hk : k < 32) (h : a < 2147483648) : nI a >>> (nI k &&& 31) = nI (a / 2 ^ k) := pk_shrN h _ k (mN_s32 k hk)
theorem mN_s64 : ∀ k, k < 64 → ((nI k).toInt64 &&& 63).toBitVec.smod 64 = BitVec.ofNat 64 k := by decide +kernel
theorem mN_u64 : ∀ k, k < 64 → (((nI k).toInt64.toUInt64 &&& Int64.toUInt64 63).toBitVec % 64).toNat = k := by decide +kernel
theorem mN_lshl (b : BitVec 64) {k : Nat} (hk : k < 64) : Int64.ofBitVec b <<< ((nI k).toInt64 &&& 63) = Int64.ofBitVec (b <<< k) := by
  apply Int64.toBitVec_inj.mp
  rw [Int64.toBitVec_shiftLeft, mN_s64 k hk]
  show b <<< (BitVec.ofNat 64 k) = b <<< k
  rw [BitVec.shiftLeft_eq', BitVec.toNat_ofNat, Nat.mod_eq_of_lt (by omega)]
theorem mN_lushr (b : BitVec 64) {k : Nat} (hk : k < 64) : ((Int64.ofBitVec b).toUInt64 >>> ((nI k).toInt64.toUInt64 &&& Int64.toUInt64 63)).toInt64 = Int64.ofBitVec (b >>> k) := by
  apply Int64.toBitVec_inj.mp
  have h := mN_u64 k hk
  show ((Int64.ofBitVec b).toUInt64 >>> ((nI k).toInt64.toUInt64 &&& Int64.toUInt64 63)).toBitVec = b >>> k
  rw [UInt64.toBitVec_shiftRight, BitVec.ushiftRight_eq', h]
  rfl
theorem mN_land (a b : BitVec 64) : Int64.ofBitVec a &&& Int64.ofBitVec b = Int64.ofBitVec (a &&& b) := rfl
theorem mN_lor (a b : BitVec 64) : Int64.ofBitVec a ||| Int64.ofBitVec b = Int64.ofBitVec (a ||| b) := rfl
theorem mN_lxor (a b : BitVec 64) : Int64.ofBitVec a ^^^ Int64.ofBitVec b = Int64.ofBitVec (a ^^^ b) := rfl
theorem mN_lsub (a b : BitVec 64) : Int64.ofBitVec a - Int64.ofBitVec b = Int64.ofBitVec (a - b) := rfl
theorem mN_leq (a b : BitVec 64) : Int64.ofBitVec a = Int64.ofBitVec b ↔ a = b := ⟨fun h => congrArg Int64.toBitVec h, fun h => by rw [h]⟩
theorem mN_i2l {a : Int} (h : mR a) : (Int32.ofInt a).toInt64 = Int64.ofBitVec (BitVec.ofInt 64 a) := by
  apply Int64.toInt_inj.mp
  rw [Int32.toInt_toInt64, mI_to h]
  show a = (BitVec.ofInt 64 a).toInt
  obtain ⟨h1, h2⟩ := h
  rw [BitVec.toInt_ofInt]
  exact (Int.bmod_eq_of_le (by omega) (by omega)).symm
/-- what comparing two longs answers -/
theorem mN_cmp (a b : BitVec 64) : ∃ z : Int, lg_cmp (Int64.ofBitVec a) (Int64.ofBitVec b) = Int32.ofInt z ∧ (z = 0 ↔ a = b) ∧ -1 ≤ z ∧ z ≤ 1 := by
  unfold lg_cmp
  by_cases h1 : Int64.ofBitVec b < Int64.ofBitVec a
  · refine ⟨1, ?_, ?_, by omega, by omega⟩
    · simp [h1]
    · constructor
      · intro h; omega
      · intro h
        subst h
        exact absurd h1 (Int64.lt_irrefl)
  · by_cases h2 : Int64.ofBitVec a = Int64.ofBitVec b
    · refine ⟨0, ?_, ?_, by omega, by omega⟩
      · simp [h2, Int64.lt_irrefl]
      · constructor
        · intro _; exact (mN_leq a b).mp h2
        · intro _; rfl
    · refine ⟨-1, ?_, ?_, by omega, by omega⟩
      · simp [h1, h2]
      · constructor
        · intro h; omega
        · intro h; exact absurd ((mN_leq a b).mpr h) h2
section MY
variable {M : mM} {d cb sb pc : Nat} {Qa : Option mV → mS → Prop} {L : List (Option mV)} {S : List mV} {g : mS}
theorem x_idiv (j : Nat) {a b r : Int} (hd : (mTab M)[j]? = some (pc, .idiv, 1)) (hab : 0 ≤ a ∧ a < 2147483648 ∧ 0 < b ∧ b < 2147483648) (hr : a / b = r) (k : mX M d Qa cb sb (pc + 1) L (vI r :: S) g) : mX M d Qa cb sb pc L (vI b :: vI a :: S) g := by
  intro p l e R s m args below meth c Q base tb dC dI F E H locs cells slots ls hH hS hL hc hs
  obtain ⟨h1, h2, h3, h4⟩ := hab
  refine lv_idiv F.1 F.2.1 (F.dec hd) (fun h => ?_) ?_
  · rw [show (0 : Int32) = Int32.ofInt 0 from rfl, mI_eq ⟨by omega, by omega⟩ mR0] at h
    omega
  · rw [mN_div ⟨h1, h2⟩ ⟨h3, h4⟩, hr]
    exact k p l e R s m args below meth c Q base tb dC dI F E H locs cells slots ls hH hS hL hc hs
theorem x_irem (j : Nat) {a b r : Int} (hd : (mTab M)[j]? = some (pc, .irem, 1)) (hab : 0 ≤ a ∧ a < 2147483648 ∧ 0 < b ∧ b < 2147483648) (hr : a % b = r) (k : mX M d Qa cb sb (pc + 1) L (vI r :: S) g) : mX M d Qa cb sb pc L (vI b :: vI a :: S) g := by
  intro p l e R s m args below meth c Q base tb dC dI F E H locs cells slots ls hH hS hL hc hs
  obtain ⟨h1, h2, h3, h4⟩ := hab
  refine lv_irem F.1 F.2.1 (F.dec hd) (fun h => ?_) ?_
  · rw [show (0 : Int32) = Int32.ofInt 0 from rfl, mI_eq ⟨by omega, by omega⟩ mR0] at h
    omega
  · rw [mN_div ⟨h1, h2⟩ ⟨h3, h4⟩, ← Int32.ofInt_mul, ← Int32.ofInt_sub, show a - a / b * b = r by rw [← hr, Int.emod_def, Int.mul_comm]]
    exact k p l e R s m args below meth c Q base tb dC dI F E H locs cells slots ls hH hS hL hc hs
theorem x_iand (j : Nat) {a b : Int} {r : Nat} (hd : (mTab M)[j]? = some (pc, .iand, 1)) (hab : 0 ≤ a ∧ a < 2147483648 ∧ 0 ≤ b ∧ b < 2147483648) (hr : a.toNat &&& b.toNat = r) (k : mX M d Qa cb sb (pc + 1) L (vI (r : Int) :: S) g) : mX M d Qa cb sb pc L (vI b :: vI a :: S) g := by
  intro p l e R s m args below meth c Q base tb dC dI F E H locs cells slots ls hH hS hL hc hs
  obtain ⟨h1, h2, h3, h4⟩ := hab
  refine lv_iand F.1 F.2.1 (F.dec hd) ?_
  rw [mI_tN h1, mI_tN h3, mN_and (by omega) (by omega), hr, ← mI_ofN]
  exact k p l e R s m args below meth c Q base tb dC dI F E H locs cells slots ls hH hS hL hc hs
theorem x_ior (j : Nat) {a b : Int} {r : Nat} (hd : (mTab M)[j]? = some (pc, .ior, 1)) (hab : 0 ≤ a ∧ a < 2147483648 ∧ 0 ≤ b ∧ b < 2147483648) (hr : a.toNat ||| b.toNat = r) (k : mX M d Qa cb sb (pc + 1) L (vI (r : Int) :: S) g) : mX M d Qa cb sb pc L (vI b :: vI a :: S) g := by
  intro p l e R s m args below meth c Q base tb dC dI F E H locs cells slots ls hH hS hL hc hs
  obtain ⟨h1, h2, h3, h4⟩ := hab
  refine lv_ior F.1 F.2.1 (F.dec hd) ?_
  rw [mI_tN h1, mI_tN h3, mN_or (by omega) (by omega), hr, ← mI_ofN]
  exact k p l e R s m args below meth c Q base tb dC dI F E H locs cells slots ls hH hS hL hc hs
theorem x_ixor (j : Nat) {a b : Int} {r : Nat} (hd : (mTab M)[j]? = some (pc, .ixor, 1)) (hab : 0 ≤ a ∧ a < 2147483648 ∧ 0 ≤ b ∧ b < 2147483648) (hr : a.toNat ^^^ b.toNat = r) (k : mX M d Qa cb sb (pc + 1) L (vI (r : Int) :: S) g) : mX M d Qa cb sb pc L (vI b :: vI a :: S) g := by
  intro p l e R s m args below meth c Q base tb dC dI F E H locs cells slots ls hH hS hL hc hs
  obtain ⟨h1, h2, h3, h4⟩ := hab
  refine lv_ixor F.1 F.2.1 (F.dec hd) ?_
  rw [mI_tN h1, mI_tN h3, mN_xor (by omega) (by omega), hr, ← mI_ofN]
  exact k p l e R s m args below meth c Q base tb dC dI F E H locs cells slots ls hH hS hL hc hs
theorem x_iandm (j kk : Nat) {a b r : Int} (hd : (mTab M)[j]? = some (pc, .iand, 1)) (hk : kk < 31) (hb : b = ((2 ^ kk - 1 : Nat) : Int)) (hr : a % (2 ^ kk : Int) = r) (k : mX M d Qa cb sb (pc + 1) L (vI r :: S) g) : mX M d Qa cb sb pc L (vI b :: vI a :: S) g := by
  intro p l e R s m args below meth c Q base tb dC dI F E H locs cells slots ls hH hS hL hc hs
  subst hb
  refine lv_iand F.1 F.2.1 (F.dec hd) ?_
  rw [mI_ofN, mN_mask a kk hk, hr]
  exact k p l e R s m args below meth c Q base tb dC dI F E H locs cells slots ls hH hS hL hc hs
theorem x_ishl (j : Nat) {a b r : Int} (hd : (mTab M)[j]? = some (pc, .ishl, 1)) (hab : 0 ≤ a ∧ 0 ≤ b ∧ b < 32 ∧ a * 2 ^ b.toNat < 4294967296) (hr : a * 2 ^ b.toNat = r) (k : mX M d Qa cb sb (pc + 1) L (vI r :: S) g) : mX M d Qa cb sb pc L (vI b :: vI a :: S) g := by
  intro p l e R s m args below meth c Q base tb dC dI F E H locs cells slots ls hH hS hL hc hs
  obtain ⟨h1, h2, h3, h4⟩ := hab
  have he : a * 2 ^ b.toNat = ((a.toNat * 2 ^ b.toNat : Nat) : Int) := by
    rw [Int.natCast_mul, Int.toNat_of_nonneg h1, Int.natCast_pow]
    rfl
  refine lv_ishl F.1 F.2.1 (F.dec hd) ?_
  rw [mI_tN h1, mI_tN h2, mN_shl (by omega) (by omega), ← mI_ofN, ← he, hr]
  exact k p l e R s m args below meth c Q base tb dC dI F E H locs cells slots ls hH hS hL hc hs
theorem x_ishr (j : Nat) {a b r : Int} (hd : (mTab M)[j]? = some (pc, .ishr, 1)) (hab : 0 ≤ a ∧ a < 2147483648 ∧ 0 ≤ b ∧ b < 32) (hr : a / 2 ^ b.toNat = r) (k : mX M d Qa cb sb (pc + 1) L (vI r :: S) g) : mX M d Qa cb sb pc L (vI b :: vI a :: S) g := by
  intro p l e R s m args below meth c Q base tb dC dI F E H locs cells slots ls hH hS hL hc hs
  obtain ⟨h1, h2, h3, h4⟩ := hab
  have he : a / 2 ^ b.toNat = ((a.toNat / 2 ^ b.toNat : Nat) : Int) := by
    rw [Int.natCast_ediv, Int.toNat_of_nonneg h1, Int.natCast_pow]
    rfl
  refine lv_ishr F.1 F.2.1 (F.dec hd) ?_
  rw [mI_tN h1, mI_tN h3, mN_shr (by omega) (by omega), ← mI_ofN, ← he, hr]
  exact k p l e R s m args below meth c Q base tb dC dI F E H locs cells slots ls hH hS hL hc hs
theorem x_land (j : Nat) {a b r : BitVec 64} (hd : (mTab M)[j]? = some (pc, .land, 1)) (hr : a &&& b = r) (k : mX M d Qa cb sb (pc + 1) L (vL r :: S) g) : mX M d Qa cb sb pc L (vL b :: vL a :: S) g := by
  intro p l e R s m args below meth c Q base tb dC dI F E H locs cells slots ls hH hS hL hc hs
  refine lv_land F.1 F.2.1 (F.dec hd) ?_
  rw [mN_land, hr]
  exact k p l e R s m args below meth c Q base tb dC dI F E H locs cells slots ls hH hS hL hc hs
theorem x_lor (j : Nat) {a b r : BitVec 64} (hd : (mTab M)[j]? = some (pc, .lor, 1)) (hr : a ||| b = r) (k : mX M d Qa cb sb (pc + 1) L (vL r :: S) g) : mX M d Qa cb sb pc L (vL b :: vL a :: S) g := by
  intro p l e R s m args below meth c Q base tb dC dI F E H locs cells slots ls hH hS hL hc hs
  refine lv_lor F.1 F.2.1 (F.dec hd) ?_
  rw [mN_lor, hr]
  exact k p l e R s m args below meth c Q base tb dC dI F E H locs cells slots ls hH hS hL hc hs
theorem x_lxor (j : Nat) {a b r : BitVec 64} (hd : (mTab M)[j]? = some (pc, .lxor, 1)) (hr : a ^^^ b = r) (k : mX M d Qa cb sb (pc + 1) L (vL r :: S) g) : mX M d Qa cb sb pc L (vL b :: vL a :: S) g := by
  intro p l e R s m args below meth c Q base tb dC dI F E H locs cells slots ls hH hS hL hc hs
  refine lv_lxor F.1 F.2.1 (F.dec hd) ?_
  rw [mN_lxor, hr]
  exact k p l e R s m args below meth c Q base tb dC dI F E H locs cells slots ls hH hS hL hc hs
theorem x_lsub (j : Nat) {a b r : BitVec 64} (hd : (mTab M)[j]? = some (pc, .lsub, 1)) (hr : a - b = r) (k : mX M d Qa cb sb (pc + 1) L (vL r :: S) g) : mX M d Qa cb sb pc L (vL b :: vL a :: S) g := by
  intro p l e R s m args below meth c Q base tb dC dI F E H locs cells slots ls hH hS hL hc hs
  refine lv_lsub F.1 F.2.1 (F.dec hd) ?_
  rw [mN_lsub, hr]
  exact k p l e R s m args below meth c Q base tb dC dI F E H locs cells slots ls hH hS hL hc hs
theorem x_lshl (j : Nat) {a r : BitVec 64} {b : Int} (hd : (mTab M)[j]? = some (pc, .lshl, 1)) (hb : 0 ≤ b ∧ b < 64) (hr : a <<< b.toNat = r) (k : mX M d Qa cb sb (pc + 1) L (vL r :: S) g) : mX M d Qa cb sb pc L (vI b :: vL a :: S) g := by
  intro p l e R s m args below meth c Q base tb dC dI F E H locs cells slots ls hH hS hL hc hs
  exact lv_lshl (v := Int64.ofBitVec r) F.1 F.2.1 (F.dec hd) (by rw [mI_tN hb.1, mN_lshl a (by omega), hr]) (k p l e R s m args below meth c Q base tb dC dI F E H locs cells slots ls hH hS hL hc hs)
theorem x_lushr (j : Nat) {a r : BitVec 64} {b : Int} (hd : (mTab M)[j]? = some (pc, .lushr, 1)) (hb : 0 ≤ b ∧ b < 64) (hr : a >>> b.toNat = r) (k : mX M d Qa cb sb (pc + 1) L (vL r :: S) g) : mX M d Qa cb sb pc L (vI b :: vL a :: S) g := by
  intro p l e R s m args below meth c Q base tb dC dI F E H locs cells slots ls hH hS hL hc hs
  exact lv_lushr (v := Int64.ofBitVec r) F.1 F.2.1 (F.dec hd) (by rw [mI_tN hb.1, mN_lushr a (by omega), hr]) (k p l e R s m args below meth c Q base tb dC dI F E H locs cells slots ls hH hS hL hc hs)
theorem x_lcmp (j : Nat) {a b : BitVec 64} (hd : (mTab M)[j]? = some (pc, .lcmp, 1)) (k : ∀ z : Int, (z = 0 ↔ a = b) → -1 ≤ z → z ≤ 1 → mX M d Qa cb sb (pc + 1) L (vI z :: S) g) : mX M d Qa cb sb pc L (vL b :: vL a :: S) g := by
  intro p l e R s m args below meth c Q base tb dC dI F E H locs cells slots ls hH hS hL hc hs
  obtain ⟨z, e1, e2, e3, e4⟩ := mN_cmp a b
  refine W.lcmp F.1 F.2.1 (F.dec hd) ?_
  rw [e1]
  exact k z e2 e3 e4 p l e R s m args below meth c Q base tb dC dI F E H locs cells slots ls hH hS hL hc hs
theorem x_i2l (j : Nat) {a : Int} {r : BitVec 64} (hd : (mTab M)[j]? = some (pc, .i2l, 1)) (ha : -2147483648 ≤ a ∧ a < 2147483648) (hr : BitVec.ofInt 64 a = r) (k : mX M d Qa cb sb (pc + 1) L (vL r :: S) g) : mX M d Qa cb sb pc L (vI a :: S) g := by
  intro p l e R s m args below meth c Q base tb dC dI F E H locs cells slots ls hH hS hL hc hs
  exact lv_i2l (v := Int64.ofBitVec r) F.1 F.2.1 (F.dec hd) (by rw [mN_i2l ha, hr]) (k p l e R s m args below meth c Q base tb dC dI F E H locs cells slots ls hH hS hL hc hs)
theorem x_i2f (j : Nat) {a : Int} {r : UInt32} (hd : (mTab M)[j]? = some (pc, .i2f, 1)) (hr : FP.i2f (Int32.ofInt a) = r) (k : mX M d Qa cb sb (pc + 1) L (vF r :: S) g) : mX M d Qa cb sb pc L (vI a :: S) g := by
  intro p l e R s m args below meth c Q base tb dC dI F E H locs cells slots ls hH hS hL hc hs
  refine lv_i2f F.1 F.2.1 (F.dec hd) ?_
  rw [hr]
  exact k p l e R s m args below meth c Q base tb dC dI F E H locs cells slots ls hH hS hL hc hs
theorem x_fdiv (j : Nat) {a b r : UInt32} (hd : (mTab M)[j]? = some (pc, .fdiv, 1)) (hr : FP.fdiv a b = r) (hn : vf_n32 r) (k : mX M d Qa cb sb (pc + 1) L (vF r :: S) g) : mX M d Qa cb sb pc L (vF b :: vF a :: S) g := by
  intro p l e R s m args below meth c Q base tb dC dI F E H locs cells slots ls hH hS hL hc hs
  subst hr
  exact lv_fdiv F.1 F.2.1 (F.dec hd) hn (k p l e R s m args below meth c Q base tb dC dI F E H locs cells slots ls hH hS hL hc hs)
theorem x_f2d (j : Nat) {a : UInt32} {r : UInt64} (hd : (mTab M)[j]? = some (pc, .f2d, 1)) (hr : FP.f2d a = r) (hn : vf_n64 r) (k : mX M d Qa cb sb (pc + 1) L (vD r :: S) g) : mX M d Qa cb sb pc L (vF a :: S) g := by
  intro p l e R s m args below meth c Q base tb dC dI F E H locs cells slots ls hH hS hL hc hs
  subst hr
  exact lv_f2d F.1 F.2.1 (F.dec hd) hn (k p l e R s m args below meth c Q base tb dC dI F E H locs cells slots ls hH hS hL hc hs)
theorem x_dcmp (j : Nat) {a b : UInt64} {op : CmpOp} {r : Int} (hd : (mTab M)[j]? = some (pc, .dcmp op, 1)) (hr : Op.cmpValue (FP.dcmp a b) op = Int32.ofInt r) (k : mX M d Qa cb sb (pc + 1) L (vI r :: S) g) : mX M d Qa cb sb pc L (vD b :: vD a :: S) g := by
  intro p l e R s m args below meth c Q base tb dC dI F E H locs cells slots ls hH hS hL hc hs
  refine lv_dcmp F.1 F.2.1 (F.dec hd) ?_
  rw [hr]
  exact k p l e R s m args below meth c Q base tb dC dI F E H locs cells slots ls hH hS hL hc hs
theorem x_ldcf (j : Nat) {idx : Nat} {r : UInt32} (hd : (mTab M)[j]? = some (pc, .ldc idx, 2)) (hw : Cond.constantFloat (mName M).cls idx r ∈ mGood) (k : mX M d Qa cb sb (pc + 2) L (vF r :: S) g) : mX M d Qa cb sb pc L S g := by
  intro p l e R s m args below meth c Q base tb dC dI F E H locs cells slots ls hH hS hL hc hs
  exact lv_ldcf F.1 F.2.1 F.2.2.2.1 (F.go hw) (F.dec hd) (k p l e R s m args below meth c Q base tb dC dI F E H locs cells slots ls hH hS hL hc hs)
theorem x_ldc2 (j : Nat) {idx : Nat} {r : BitVec 64} {r' : Int64} (hd : (mTab M)[j]? = some (pc, .ldc2_w idx, 3)) (hw : Cond.constantLong (mName M).cls idx r' ∈ mGood) (hr : r' = Int64.ofBitVec r) (k : mX M d Qa cb sb (pc + 3) L (vL r :: S) g) : mX M d Qa cb sb pc L S g := by
  intro p l e R s m args below meth c Q base tb dC dI F E H locs cells slots ls hH hS hL hc hs
  subst hr
  exact lv_ldc2 F.1 F.2.1 F.2.2.2.1 (F.go hw) (F.dec hd) (k p l e R s m args below meth c Q base tb dC dI F E H locs cells slots ls hH hS hL hc hs)
theorem x_tabOut (j : Nat) {dflt lo hi : Int} {offs : Array Int} {len tgt : Nat} {a : Int} (hd : (mTab M)[j]? = some (pc, .tableswitch dflt lo hi offs, len)) (ha : -2147483648 ≤ a ∧ a < 2147483648) (h : a < lo ∨ hi < a) (ht : (pc : Int) + dflt = (tgt : Int)) (k : mX M d Qa cb sb tgt L S g) : mX M d Qa cb sb pc L (vI a :: S) g := by
  intro p l e R s m args below meth c Q base tb dC dI F E H locs cells slots ls hH hS hL hc hs
  exact lv_tableOut (x := Int32.ofInt a) F.1 F.2.1 (F.dec hd) (by rw [mI_to ha]; exact h) ht (k p l e R s m args below meth c Q base tb dC dI F E H locs cells slots ls hH hS hL hc hs)
theorem x_tabIn (j : Nat) {dflt lo hi : Int} {offs : Array Int} {len tgt : Nat} {a off : Int} (hd : (mTab M)[j]? = some (pc, .tableswitch dflt lo hi offs, len)) (ha : -2147483648 ≤ a ∧ a < 2147483648) (h : lo ≤ a ∧ a ≤ hi) (ho : offs[(a - lo).toNat]? = some off) (ht : (pc : Int) + off = (tgt : Int)) (k : mX M d Qa cb sb tgt L S g) : mX M d Qa cb sb pc L (vI a :: S) g := by
  intro p l e R s m args below meth c Q base tb dC dI F E H locs cells slots ls hH hS hL hc hs
  exact lv_tableIn (x := Int32.ofInt a) F.1 F.2.1 (F.dec hd) (by rw [mI_to ha]; omega) (by rw [mI_to ha]; omega) (by rw [mI_to ha]; exact ho) ht (k p l e R s m args below meth c Q base tb dC dI F E H locs cells slots ls hH hS hL hc hs)
theorem x_lookup (j : Nat) {dflt : Int} {ps : Array (Int × Int)} {len tgt : Nat} {a off : Int} (hd : (mTab M)[j]? = some (pc, .lookupswitch dflt ps, len)) (ha : -2147483648 ≤ a ∧ a < 2147483648) (hp : (ps.toList.zip (ps.toList.drop 1)).all (fun (a, next) => a.1 < next.1) = true) (ho : Op.lookupswitch.offset ps.toList dflt a = off) (ht : (pc : Int) + off = (tgt : Int)) (k : mX M d Qa cb sb tgt L S g) : mX M d Qa cb sb pc L (vI a :: S) g := by
  intro p l e R s m args below meth c Q base tb dC dI F E H locs cells slots ls hH hS hL hc hs
  exact lv_lookup (x := Int32.ofInt a) F.1 F.2.1 (F.dec hd) hp (by rw [mI_to ha]; exact ho) ht (k p l e R s m args below meth c Q base tb dC dI F E H locs cells slots ls hH hS hL hc hs)
end MY
end
section
/-! rows of objects and arrays -/
theorem mUws0 : ∀ w ∈ wsX00, w ∈ mGood := by decide +kernel
theorem mUws1 : ∀ w ∈ wsX10, w ∈ mGood := by decide +kernel
theorem mUws2 : ∀ w ∈ wsX20, w ∈ mGood := by decide +kernel
theorem mUws3 : ∀ w ∈ wsX30, w ∈ mGood := by decide +kernel
theorem mUws4 : ∀ w ∈ wsX40, w ∈ mGood := by decide +kernel
theorem mUws5 : ∀ w ∈ wsX50, w ∈ mGood := by decide +kernel
theorem mUws6 : ∀ w ∈ wsX60, w ∈ mGood := by decide +kernel
theorem mUws7 : ∀ w ∈ wsX70, w ∈ mGood := by decide +kernel
theorem mUws8 : ∀ w ∈ wsX80, w ∈ mGood := by decide +kernel
theorem mCl_all {P : Nat → vw_C → Prop} (h0 : P 0 (RX0, TX0, 8)) (h1 : P 1 (RX1, TX1, 3)) (h2 : P 2 (RX2, TX2, 10)) (h3 : P 3 (RX3, TX3, 11)) (h4 : P 4 (RX4, TX4, 3)) (h5 : P 5 (RX5, TX5, 11)) (h6 : P 6 (RX6, TX6, 2)) (h7 : P 7 (RX7, TX7, 2)) (h8 : P 8 (RX8, TX8, 8)) {ci : Nat} {q : vw_C} (h : vwCl[ci]? = some q) : P ci q := by
  match ci, h with
  | 0, h => cases h; exact h0
  | 1, h => cases h; exact h1
  | 2, h => cases h; exact h2
  | 3, h => cases h; exact h3
  | 4, h => cases h; exact h4
  | 5, h => cases h; exact h5
  | 6, h => cases h; exact h6
  | 7, h => cases h; exact h7
  | 8, h => cases h; exact h8
  | n + 9, h => exact absurd h (by simp [vwCl])
theorem mUws {ci : Nat} {q : vw_C} (h : vwCl[ci]? = some q) : ∀ w ∈ u_ws q.1 q.2.1 q.2.2, w ∈ mGood := mCl_all (P := fun _ q => ∀ w ∈ u_ws q.1 q.2.1 q.2.2, w ∈ mGood) mUws0 mUws1 mUws2 mUws3 mUws4 mUws5 mUws6 mUws7 mUws8 h
theorem mTyOk {ci : Nat} {q : vw_C} (h : vwCl[ci]? = some q) : ∀ k, k < q.2.2 → parseFieldDescriptor (q.2.1 k).2.2.1 = some (mTy ci k) := mCl_all (P := fun ci q => ∀ k, k < q.2.2 → parseFieldDescriptor (q.2.1 k).2.2.1 = some (mTy ci k)) tyX0_ok tyX1_ok tyX2_ok tyX3_ok tyX4_ok tyX5_ok tyX6_ok tyX7_ok tyX8_ok h
theorem mNmOk {ci : Nat} {q : vw_C} (h : vwCl[ci]? = some q) : ∀ a, a < q.2.2 → ∀ b, b < q.2.2 → a ≠ b → (q.2.1 a).2.1 ≠ (q.2.1 b).2.1 := mCl_all (P := fun _ q => ∀ a, a < q.2.2 → ∀ b, b < q.2.2 → a ≠ b → (q.2.1 a).2.1 ≠ (q.2.1 b).2.1) nmX0 nmX1 nmX2 nmX3 nmX4 nmX5 nmX6 nmX7 nmX8 h
/-- the field k of a class, by a place of a pool -/
def mFL (own : String) (idx ci k : Nat) : Prop := ∃ q : vw_C, vwCl[ci]? = some q ∧ k < q.2.2 ∧ Cond.fieldLink own idx (q.2.1 k).1 (q.2.1 k).2.1 (q.2.1 k).2.2.1 ∈ mGood
/-- two states alike but at one place -/
def mBut (g g' : mS) (o k : Nat) : Prop := sN g' = sN g ∧ sK g' = sK g ∧ ∀ (base c a b : Nat), ¬ (a = o ∧ b = k) → mVal base c g' a b = mVal base c g a b
theorem mBut_I (g : mS) (o k : Nat) (z : Int) : mBut g (sPutI g o (k : Int) z) o k := by
  refine ⟨rfl, rfl, fun base c a b h => ?_⟩
  match c with
  | 0 => rw [mVal0, mVal0]; have h' : ¬ (a = o ∧ (b : Int) = (k : Int)) := fun q => h ⟨q.1, Int.ofNat_inj.mp q.2⟩; simp only [sI, mU, if_neg h']
  | 1 => rfl
  | c + 2 => rfl
theorem mBut_L (g : mS) (o k : Nat) (z : BitVec 64) : mBut g (sPutL g o (k : Int) z) o k := by
  refine ⟨rfl, rfl, fun base c a b h => ?_⟩
  match c with
  | 0 => rfl
  | 1 => rw [mVal1, mVal1]; have h' : ¬ (a = o ∧ (b : Int) = (k : Int)) := fun q => h ⟨q.1, Int.ofNat_inj.mp q.2⟩; simp only [sL, mU, if_neg h']
  | c + 2 => rfl
theorem mBut_R (g : mS) (o k : Nat) (z : Option Nat) : mBut g (sPutR g o (k : Int) z) o k := by
  refine ⟨rfl, rfl, fun base c a b h => ?_⟩
  match c with
  | 0 => rfl
  | 1 => rfl
  | c + 2 => show mRv base _ = mRv base _; have h' : ¬ (a = o ∧ (b : Int) = (k : Int)) := fun q => h ⟨q.1, Int.ofNat_inj.mp q.2⟩; simp only [sR, mU, if_neg h']
theorem mPut_I (base : Nat) (g : mS) (o k : Nat) (z : Int) : mVal base 0 (sPutI g o (k : Int) z) o k = mI z := by rw [mVal0]; simp [sI, mU]
theorem mPut_L (base : Nat) (g : mS) (o k : Nat) (z : BitVec 64) : mVal base 1 (sPutL g o (k : Int) z) o k = .long (Int64.ofBitVec z) := by rw [mVal1]; simp [sL, mU]
theorem mPut_R (base : Nat) (g : mS) (o k : Nat) (z : Option Nat) : mVal base 2 (sPutR g o (k : Int) z) o k = mRv base z := by rw [mVal2]; simp [sR, mU]
section MH
variable {base : Nat} {tb : Nat → Nat} {dC : Nat → ClassId} {dI : Nat → Nat → Nat} {s : State} {g g' : mS} {H H1 : Heap} {o k : Nat}
theorem mHp.obj (h : mHp base dC dI s g H) (ho : o < sN g) {ci : Nat} (hk : sK g o = .inl ci) : ∃ q : vw_C, vwCl[ci]? = some q ∧ t_OB (base + o) (dC ci) q.2.2 (dI ci) H (fun k => mVal base (mTc (mTy ci k)) g o k) := by
  have h1 := h.2 o ho
  unfold mCell at h1
  rw [hk] at h1
  exact h1
theorem mHp.arr (h : mHp base dC dI s g H) (ho : o < sN g) {t n : Nat} (hk : sK g o = .inr (t, n)) : ∃ cA : ClassId, ArrOfT s cA (mAT t) ∧ va_RA s cA (mAT t) ∧ H[base + o]? = some (arrV cA n (fun k => mVal base (mTc (mAT t)) g o k)) := by
  have h1 := h.2 o ho
  unfold mCell at h1
  rw [hk] at h1
  exact h1
/-- another cell stays -/
theorem mCell.kept {a : Nat} (h : mCell base dC dI s g H a) (hK : sK g' = sK g) (hq : H1[base + a]? = H[base + a]?) (hv : ∀ base c b : Nat, mVal base c g' a b = mVal base c g a b) : mCell base dC dI s g' H1 a := by
  unfold mCell at h ⊢
  rw [hK]
  split
  · rename_i ci e
    simp only [e] at h
    obtain ⟨q, h1, h2⟩ := h
    exact ⟨q, h1, (h2.kept hq).to (fun k _ => (hv _ _ _).symm)⟩
  · rename_i t n e
    simp only [e] at h
    obtain ⟨cA, h1, h2, h3⟩ := h
    refine ⟨cA, h1, h2, ?_⟩
    rw [hq, h3]
    simp only [hv]
theorem mHp.putO (h : mHp base dC dI s g H) (ho : o < sN g) {ci : Nat} (hk : sK g o = .inl ci) {q : vw_C} (hq : vwCl[ci]? = some q) (hkN : k < q.2.2) (hap : ∀ x y, x < q.2.2 → y < q.2.2 → x ≠ y → (dI ci) x ≠ (dI ci) y) (hb : mBut g g' o k) {cell : Cell} {v : Value}
    (q1 : H[base + o]? = some cell) (q2 : cell.cls = dC ci) (q3 : cell.vm = .none) (q4 : ∀ j, j < q.2.2 → cell.slots[dI ci j]? = some (mVal base (mTc (mTy ci j)) g o j)) (hv : mVal base (mTc (mTy ci k)) g' o k = v)
    (e1 : H1[base + o]? = some (cell.setSlot (dI ci k) v)) (e2 : H1.size = H.size) (e3 : ∀ x, x ≠ base + o → H1[x]? = H[x]?) : mHp base dC dI s g' H1 := by
  refine ⟨by rw [e2, h.1, hb.1], fun a ha => ?_⟩
  rw [hb.1] at ha
  by_cases hao : a = o
  · subst hao
    unfold mCell
    rw [hb.2.1, hk]
    refine ⟨q, hq, _, e1, q2, q3, fun j hj => ?_⟩
    have h9 := t_set (V := fun j => mVal base (mTc (mTy ci j)) g a j) q4 hap hkN v j hj
    rw [h9]
    by_cases hjk : j = k
    · subst hjk
      simp [updV, hv]
    · simp only [updV, if_neg hjk]
      rw [hb.2.2 _ _ _ _ (fun e => hjk e.2)]
  · exact (h.2 a ha).kept hb.2.1 (e3 _ (by omega)) (fun _ _ _ => hb.2.2 _ _ _ _ (fun e => hao e.1))
theorem mHp.putA (h : mHp base dC dI s g H) (ho : o < sN g) {t n : Nat} (hk : sK g o = .inr (t, n)) (hb : mBut g g' o k) {cA : ClassId} {v : Value} (r1 : ArrOfT s cA (mAT t)) (r2 : va_RA s cA (mAT t))
    (hv : mVal base (mTc (mAT t)) g' o k = v) (e1 : H1[base + o]? = some ((arrV cA n (fun j => mVal base (mTc (mAT t)) g o j)).setSlot k v)) (e2 : H1.size = H.size) (e3 : ∀ x, x ≠ base + o → H1[x]? = H[x]?) : mHp base dC dI s g' H1 := by
  refine ⟨by rw [e2, h.1, hb.1], fun a ha => ?_⟩
  rw [hb.1] at ha
  by_cases hao : a = o
  · subst hao
    unfold mCell
    rw [hb.2.1, hk]
    refine ⟨cA, r1, r2, ?_⟩
    rw [e1, arrV_store]
    congr 2
    funext j
    by_cases hjk : j = k
    · subst hjk
      simp [updV, hv]
    · simp only [updV, if_neg hjk]
      rw [hb.2.2 _ _ _ _ (fun e => hjk e.2)]
  · exact (h.2 a ha).kept hb.2.1 (e3 _ (by omega)) (fun _ _ _ => hb.2.2 _ _ _ _ (fun e => hao e.1))
theorem mHp.lt (h : mHp base dC dI s g H) (ho : o < sN g) : base + o < H.size := by rw [h.1]; omega
end MH
theorem mNew_old (g : mS) (kd : Nat ⊕ (Nat × Nat)) {a : Nat} (ha : a ≠ sN g) (base c b : Nat) : mVal base c (sNew g kd) a b = mVal base c g a b := by
  match c with
  | 0 => rw [mVal0, mVal0]; simp only [sI, sNew, if_neg ha]
  | 1 => rw [mVal1, mVal1]; simp only [sL, sNew, if_neg ha]
  | c + 2 => show mRv base _ = mRv base _; simp only [sR, sNew, if_neg ha]
theorem mNew_def (g : mS) (kd : Nat ⊕ (Nat × Nat)) (base b : Nat) (t : FieldType) (ht : mTc t = 0 → t = .int ∨ t = .boolean) (hr : mTc t = 2 → defaultValue t = .null) : mVal base (mTc t) (sNew g kd) (sN g) b = defaultValue t := by
  cases t with
  | int => show mVal base 0 _ _ _ = _; rw [mVal0]; simp [sI, sNew]; rfl
  | boolean => show mVal base 0 _ _ _ = _; rw [mVal0]; simp [sI, sNew]; rfl
  | long => show mVal base 1 _ _ _ = _; rw [mVal1]; simp [sL, sNew]; rfl
  | _ =>
    rw [hr rfl]
    show mVal base 2 _ _ _ = _
    rw [mVal2]
    simp [sR, sNew, mRv]
theorem mCell.old {base : Nat} {dC : Nat → ClassId} {dI : Nat → Nat → Nat} {s : State} {g : mS} {kd : Nat ⊕ (Nat × Nat)} {H H1 : Heap} {a : Nat} (h : mCell base dC dI s g H a) (ha : a ≠ sN g) (hq : H1[base + a]? = H[base + a]?) : mCell base dC dI s (sNew g kd) H1 a := by
  unfold mCell at h ⊢
  have hk : sK (sNew g kd) a = sK g a := by simp only [sK, sNew, if_neg ha]
  rw [hk]
  split
  · rename_i ci e
    simp only [e] at h
    obtain ⟨q, h1, h2⟩ := h
    exact ⟨q, h1, (h2.kept hq).to (fun k _ => (mNew_old g kd ha _ _ _).symm)⟩
  · rename_i t n e
    simp only [e] at h
    obtain ⟨cA, h1, h2, h3⟩ := h
    refine ⟨cA, h1, h2, ?_⟩
    rw [hq, h3]
    simp only [mNew_old g kd ha]
theorem mNarZ {z : Int} (h : z = 0 ∨ z = 1) : narrow .boolean (mI z) = mI z := by
  rcases h with rfl | rfl <;> decide
section MO
variable {M : mM} {d cb sb pc : Nat} {Qa : Option mV → mS → Prop} {L : List (Option mV)} {S : List mV} {g : mS}
theorem x_getI (j : Nat) {idx o ci k : Nat} {z : Int} (hd : (mTab M)[j]? = some (pc, .getfield idx, 3)) (hf : mFL (mName M).cls idx ci k) (ho : o < sN g) (hk : sK g o = .inl ci) (ht : mTc (mTy ci k) = 0) (hz : sI g o (k : Int) = z) (kk : mX M d Qa cb sb (pc + 3) L (vI z :: S) g) : mX M d Qa cb sb pc L (vR (some o) :: S) g := by
  intro p l e R s m args below meth c Q base tb dC dI F E H locs cells slots ls hH hS hL hc hs
  obtain ⟨q, hq, hkN, hw⟩ := hf
  obtain ⟨q', hq', cell, q1, q2, q3, q4⟩ := hH.obj ho hk
  obtain rfl : q' = q := Option.some.inj (hq'.symm.trans hq)
  obtain ⟨hSl, hfc, kC, hkC, hkind⟩ := F.2.2.2.2.2.2.2.1.1.1 ci _ hq
  obtain ⟨cf, kf, fi, f, hi, hsl⟩ := hSl k hkN
  refine W.getf F.1 F.2.1 F.2.2.2.1 (F.go hw) hi (u_facts hfc hkC (u_lays F.2.2.2.2.1 (mUws hq) hkN) hi).1 q1 (by rw [q3]; exact fun h => by cases h) (v := mC base tb (vI z)) ?_ rfl rfl (F.dec hd) (kk p l e R s m args below meth c Q base tb dC dI F E H locs cells slots ls hH hS hL hc hs)
  rw [hsl, q4 k hkN]
  show some (mVal base (mTc (mTy ci k)) g o k) = _
  rw [ht]
  rw [mVal0, hz]; rfl
theorem x_getL (j : Nat) {idx o ci k : Nat} {z : BitVec 64} (hd : (mTab M)[j]? = some (pc, .getfield idx, 3)) (hf : mFL (mName M).cls idx ci k) (ho : o < sN g) (hk : sK g o = .inl ci) (ht : mTc (mTy ci k) = 1) (hz : sL g o (k : Int) = z) (kk : mX M d Qa cb sb (pc + 3) L (vL z :: S) g) : mX M d Qa cb sb pc L (vR (some o) :: S) g := by
  intro p l e R s m args below meth c Q base tb dC dI F E H locs cells slots ls hH hS hL hc hs
  obtain ⟨q, hq, hkN, hw⟩ := hf
  obtain ⟨q', hq', cell, q1, q2, q3, q4⟩ := hH.obj ho hk
  obtain rfl : q' = q := Option.some.inj (hq'.symm.trans hq)
  obtain ⟨hSl, hfc, kC, hkC, hkind⟩ := F.2.2.2.2.2.2.2.1.1.1 ci _ hq
  obtain ⟨cf, kf, fi, f, hi, hsl⟩ := hSl k hkN
  refine W.getf F.1 F.2.1 F.2.2.2.1 (F.go hw) hi (u_facts hfc hkC (u_lays F.2.2.2.2.1 (mUws hq) hkN) hi).1 q1 (by rw [q3]; exact fun h => by cases h) (v := mC base tb (vL z)) ?_ rfl rfl (F.dec hd) (kk p l e R s m args below meth c Q base tb dC dI F E H locs cells slots ls hH hS hL hc hs)
  rw [hsl, q4 k hkN]
  show some (mVal base (mTc (mTy ci k)) g o k) = _
  rw [ht]
  rw [mVal1, hz]; rfl
theorem x_getR (j : Nat) {idx o ci k : Nat} {z : Nat} (hd : (mTab M)[j]? = some (pc, .getfield idx, 3)) (hf : mFL (mName M).cls idx ci k) (ho : o < sN g) (hk : sK g o = .inl ci) (ht : mTc (mTy ci k) = 2) (hz : sR g o (k : Int) = some z) (kk : mX M d Qa cb sb (pc + 3) L (vR (some z) :: S) g) : mX M d Qa cb sb pc L (vR (some o) :: S) g := by
  intro p l e R s m args below meth c Q base tb dC dI F E H locs cells slots ls hH hS hL hc hs
  obtain ⟨q, hq, hkN, hw⟩ := hf
  obtain ⟨q', hq', cell, q1, q2, q3, q4⟩ := hH.obj ho hk
  obtain rfl : q' = q := Option.some.inj (hq'.symm.trans hq)
  obtain ⟨hSl, hfc, kC, hkC, hkind⟩ := F.2.2.2.2.2.2.2.1.1.1 ci _ hq
  obtain ⟨cf, kf, fi, f, hi, hsl⟩ := hSl k hkN
  refine W.getf F.1 F.2.1 F.2.2.2.1 (F.go hw) hi (u_facts hfc hkC (u_lays F.2.2.2.2.1 (mUws hq) hkN) hi).1 q1 (by rw [q3]; exact fun h => by cases h) (v := mC base tb (vR (some z))) ?_ rfl rfl (F.dec hd) (kk p l e R s m args below meth c Q base tb dC dI F E H locs cells slots ls hH hS hL hc hs)
  rw [hsl, q4 k hkN]
  show some (mVal base (mTc (mTy ci k)) g o k) = _
  rw [ht]
  rw [mVal2, hz]; rfl
theorem x_putI (j : Nat) {idx o ci k : Nat} {z : Int} (hd : (mTab M)[j]? = some (pc, .putfield idx, 3)) (hf : mFL (mName M).cls idx ci k) (ho : o < sN g) (hk : sK g o = .inl ci) (ht : mTy ci k = .int) (hfin : (vwCl[ci]?.map (fun q => ((q.2.1 k).2.2.2))) = some false) {g' : mS} (hg : sPutI g o (k : Int) z = g') (kk : mX M d Qa cb sb (pc + 3) L S g') : mX M d Qa cb sb pc L (vI z :: vR (some o) :: S) g := by
  intro p l e R s m args below meth c Q base tb dC dI F E H locs cells slots ls hH hS hL hc hs
  subst hg
  obtain ⟨q, hq, hkN, hw⟩ := hf
  obtain ⟨q', hq', cell, q1, q2, q3, q4⟩ := hH.obj ho hk
  obtain rfl : q' = q := Option.some.inj (hq'.symm.trans hq)
  have hKn := F.2.2.2.2.2.2.2.1.1.1 ci _ hq
  obtain ⟨hSl, hfc, kC, hkC, hkind⟩ := hKn
  obtain ⟨cf, kf, fi, f, hi, hsl⟩ := hSl k hkN
  have hts := F.2.2.2.2.1
  have hap := va_apart (own := (mName M).cls) hts (mUws hq) (mTy ci) (mTyOk hq) (mNmOk hq) F.2.2.2.2.2.2.2.1.1 hq
  have hlay := hts _ (mUws hq _ (u_in_lay hkN))
  rw [hq] at hfin
  have hfin := Option.some.inj hfin
  simp only [] at hfin
  unfold u_lay at hlay
  have hst := (u_facts hfc hkC (u_lays hts (mUws hq) hkN) hi).1
  have hty := mTyOk hq k hkN
  rw [if_neg (by rw [hfin]; decide)] at hlay
  have h6 := u_store (v := mC base tb (vI z)) hfc hkC hkind hlay hi hty (by rw [ht]; rfl) (by rw [ht]; rfl)
  refine W.putK F.1 F.2.1 (f := f) ⟨F.2.2.2.1, F.go hw, ⟨_, _, _, hi⟩, hst⟩ (by rw [q2]; exact h6) q1 q3 (by rw [hsl]; exact k2_hasslot (q4 k hkN)) rfl rfl (F.dec hd) fun H' e1 e2 e3 => ?_
  rw [hsl] at e1 ⊢
  exact kk p l e R s m args below meth c Q base tb dC dI F E H' _ cells slots ls (hH.putO ho hk hq hkN hap (mBut_I g o k z) q1 q2 q3 q4 (by rw [ht]; exact mPut_I base g o k z) e1 e2 e3) (hS.put e2 e3 (Nat.le_add_right _ _)) hL hc hs
theorem x_putZ (j : Nat) {idx o ci k : Nat} {z : Int} (hd : (mTab M)[j]? = some (pc, .putfield idx, 3)) (hf : mFL (mName M).cls idx ci k) (ho : o < sN g) (hk : sK g o = .inl ci) (ht : mTy ci k = .boolean) (hz : z = 0 ∨ z = 1) (hfin : (vwCl[ci]?.map (fun q => ((q.2.1 k).2.2.2))) = some false) {g' : mS} (hg : sPutI g o (k : Int) z = g') (kk : mX M d Qa cb sb (pc + 3) L S g') : mX M d Qa cb sb pc L (vI z :: vR (some o) :: S) g := by
  intro p l e R s m args below meth c Q base tb dC dI F E H locs cells slots ls hH hS hL hc hs
  subst hg
  obtain ⟨q, hq, hkN, hw⟩ := hf
  obtain ⟨q', hq', cell, q1, q2, q3, q4⟩ := hH.obj ho hk
  obtain rfl : q' = q := Option.some.inj (hq'.symm.trans hq)
  have hKn := F.2.2.2.2.2.2.2.1.1.1 ci _ hq
  obtain ⟨hSl, hfc, kC, hkC, hkind⟩ := hKn
  obtain ⟨cf, kf, fi, f, hi, hsl⟩ := hSl k hkN
  have hts := F.2.2.2.2.1
  have hap := va_apart (own := (mName M).cls) hts (mUws hq) (mTy ci) (mTyOk hq) (mNmOk hq) F.2.2.2.2.2.2.2.1.1 hq
  have hlay := hts _ (mUws hq _ (u_in_lay hkN))
  rw [hq] at hfin
  have hfin := Option.some.inj hfin
  simp only [] at hfin
  unfold u_lay at hlay
  have hst := (u_facts hfc hkC (u_lays hts (mUws hq) hkN) hi).1
  have hty := mTyOk hq k hkN
  rw [if_neg (by rw [hfin]; decide)] at hlay
  have h6 := u_store (v := mC base tb (vI z)) hfc hkC hkind hlay hi hty (by rw [ht]; exact mNarZ hz) (by rw [ht]; rcases hz with rfl | rfl <;> rfl)
  refine W.putK F.1 F.2.1 (f := f) ⟨F.2.2.2.1, F.go hw, ⟨_, _, _, hi⟩, hst⟩ (by rw [q2]; exact h6) q1 q3 (by rw [hsl]; exact k2_hasslot (q4 k hkN)) rfl rfl (F.dec hd) fun H' e1 e2 e3 => ?_
  rw [hsl] at e1 ⊢
  exact kk p l e R s m args below meth c Q base tb dC dI F E H' _ cells slots ls (hH.putO ho hk hq hkN hap (mBut_I g o k z) q1 q2 q3 q4 (by rw [ht]; exact mPut_I base g o k z) e1 e2 e3) (hS.put e2 e3 (Nat.le_add_right _ _)) hL hc hs
theorem x_putL (j : Nat) {idx o ci k : Nat} {z : BitVec 64} (hd : (mTab M)[j]? = some (pc, .putfield idx, 3)) (hf : mFL (mName M).cls idx ci k) (ho : o < sN g) (hk : sK g o = .inl ci) (ht : mTy ci k = .long) (hfin : (vwCl[ci]?.map (fun q => ((q.2.1 k).2.2.2))) = some false) {g' : mS} (hg : sPutL g o (k : Int) z = g') (kk : mX M d Qa cb sb (pc + 3) L S g') : mX M d Qa cb sb pc L (vL z :: vR (some o) :: S) g := by
  intro p l e R s m args below meth c Q base tb dC dI F E H locs cells slots ls hH hS hL hc hs
  subst hg
  obtain ⟨q, hq, hkN, hw⟩ := hf
  obtain ⟨q', hq', cell, q1, q2, q3, q4⟩ := hH.obj ho hk
  obtain rfl : q' = q := Option.some.inj (hq'.symm.trans hq)
  have hKn := F.2.2.2.2.2.2.2.1.1.1 ci _ hq
  obtain ⟨hSl, hfc, kC, hkC, hkind⟩ := hKn
  obtain ⟨cf, kf, fi, f, hi, hsl⟩ := hSl k hkN
  have hts := F.2.2.2.2.1
  have hap := va_apart (own := (mName M).cls) hts (mUws hq) (mTy ci) (mTyOk hq) (mNmOk hq) F.2.2.2.2.2.2.2.1.1 hq
  have hlay := hts _ (mUws hq _ (u_in_lay hkN))
  rw [hq] at hfin
  have hfin := Option.some.inj hfin
  simp only [] at hfin
  unfold u_lay at hlay
  have hst := (u_facts hfc hkC (u_lays hts (mUws hq) hkN) hi).1
  have hty := mTyOk hq k hkN
  rw [if_neg (by rw [hfin]; decide)] at hlay
  have h6 := u_store (v := mC base tb (vL z)) hfc hkC hkind hlay hi hty (by rw [ht]; rfl) (by rw [ht]; rfl)
  refine W.putK F.1 F.2.1 (f := f) ⟨F.2.2.2.1, F.go hw, ⟨_, _, _, hi⟩, hst⟩ (by rw [q2]; exact h6) q1 q3 (by rw [hsl]; exact k2_hasslot (q4 k hkN)) rfl rfl (F.dec hd) fun H' e1 e2 e3 => ?_
  rw [hsl] at e1 ⊢
  exact kk p l e R s m args below meth c Q base tb dC dI F E H' _ cells slots ls (hH.putO ho hk hq hkN hap (mBut_L g o k z) q1 q2 q3 q4 (by rw [ht]; exact mPut_L base g o k z) e1 e2 e3) (hS.put e2 e3 (Nat.le_add_right _ _)) hL hc hs
theorem x_putF (j : Nat) {idx o ci k : Nat} {z : Nat} (hd : (mTab M)[j]? = some (pc, .putfield idx, 3)) (hf : mFL (mName M).cls idx ci k) (ho : o < sN g) (hk : sK g o = .inl ci) (ht : mTc (mTy ci k) = 2) (hn : ∀ a : Nat, narrow (mTy ci k) (.ref a) = .ref a ∧ fits (mTy ci k) (.ref a) = true) (hfin : (vwCl[ci]?.map (fun q => ((q.2.1 k).2.2.2, (q.2.1 k).1, M.1.name))) = some (true, (mName M).cls, "<init>")) {g' : mS} (hg : sPutR g o (k : Int) (some z) = g') (kk : mX M d Qa cb sb (pc + 3) L S g') : mX M d Qa cb sb pc L (vR (some z) :: vR (some o) :: S) g := by
  intro p l e R s m args below meth c Q base tb dC dI F E H locs cells slots ls hH hS hL hc hs
  subst hg
  obtain ⟨q, hq, hkN, hw⟩ := hf
  obtain ⟨q', hq', cell, q1, q2, q3, q4⟩ := hH.obj ho hk
  obtain rfl : q' = q := Option.some.inj (hq'.symm.trans hq)
  have hKn := F.2.2.2.2.2.2.2.1.1.1 ci _ hq
  obtain ⟨hSl, hfc, kC, hkC, hkind⟩ := hKn
  obtain ⟨cf, kf, fi, f, hi, hsl⟩ := hSl k hkN
  have hts := F.2.2.2.2.1
  have hap := va_apart (own := (mName M).cls) hts (mUws hq) (mTy ci) (mTyOk hq) (mNmOk hq) F.2.2.2.2.2.2.2.1.1 hq
  have hlay := hts _ (mUws hq _ (u_in_lay hkN))
  rw [hq] at hfin
  have hfin := Option.some.inj hfin
  simp only [] at hfin
  unfold u_lay at hlay
  have hst := (u_facts hfc hkC (u_lays hts (mUws hq) hkN) hi).1
  have hty := mTyOk hq k hkN
  have hf1 : (q'.2.1 k).2.2.2 = true := congrArg Prod.fst hfin
  have hf2 : (q'.2.1 k).1 = (mName M).cls := congrArg (fun x => x.2.1) hfin
  have hf3 : (mName M).name = "<init>" := congrArg (fun x => x.2.2) hfin
  rw [if_pos hf1] at hlay
  have hcf : m.cls = cf := by
    obtain ⟨_, _, c', _, _, _, -, -, hf', -, -, -, hown2, -⟩ := Cond.laysFinal_spec hlay
    have e1 : c' = cf := by have := hi.symm.trans hf'; simp at this; exact this.1.symm
    rw [hf2] at hown2
    rw [← e1]; exact Option.some.inj (F.2.2.2.1.symm.trans hown2)
  have h6 := u_fits (v := mC base tb (vR (some z))) hfc hkC hkind (Or.inr hlay) hi hty (hn _).1 (hn _).2
  have hin : meth.name = "<init>" := by rw [← hf3]; exact F.2.2.2.2.2.2.2.2.2.2.1
  refine W.putFinK F.1 F.2.1 F.2.2.2.1 (F.go hw) hi hst hcf hin (by rw [q2]; exact h6) q1 q3 (by rw [hsl]; exact k2_hasslot (q4 k hkN)) rfl rfl (F.dec hd) fun H' e1 e2 e3 => ?_
  rw [hsl] at e1 ⊢
  exact kk p l e R s m args below meth c Q base tb dC dI F E H' _ cells slots ls (hH.putO ho hk hq hkN hap (mBut_R g o k (some z)) q1 q2 q3 q4 (by rw [ht]; exact mPut_R base g o k (some z)) e1 e2 e3) (hS.put e2 e3 (Nat.le_add_right _ _)) hL hc hs
theorem x_new (j : Nat) {idx ci : Nat} {q : vw_C} (hd : (mTab M)[j]? = some (pc, .new idx, 3)) (hq : vwCl[ci]? = some q) (hcl : Cond.classLink (mName M).cls idx q.1 ∈ mGood) (hin : Cond.instantiable q.1 q.2.2 ∈ mGood) (hini : Cond.initialized q.1 ∈ mGood) {cb' sb' : Nat} (hcb : cb = cb' + 1) (hsb : sb = sb' + q.2.2) {g' : mS} (hg : sNew g (.inl ci) = g') (kk : mX M d Qa cb' sb' (pc + 3) L (vR (some (sN g)) :: S) g') : mX M d Qa cb sb pc L S g := by
  intro p l e R s m args below meth c Q base tb dC dI F E H locs cells slots ls hH hS hL hc hs
  subst hg; subst hcb; subst hsb
  have hKn := F.2.2.2.2.2.2.2.1.1.1 ci _ hq
  refine W.newcK F.1 F.2.1 F.2.2.2.1 (F.go hcl) (F.go hin) (F.go hini) rfl (F.dec hd) (by omega) (by omega) hKn.2.1 hH.1 fun H' kC hkC e1 e2 e3 => ?_
  refine kk p l e R s m args below meth c Q base tb dC dI F E H' _ _ _ ls ⟨by rw [e2]; rfl, fun a ha => ?_⟩ ⟨Nat.le_trans hS.1 (by rw [e2, hH.1]; omega), fun x h1 h2 => ?_, hS.2.2⟩ hL (by omega) (by omega)
  · by_cases hao : a = sN g
    · subst hao
      unfold mCell
      have hk : sK (sNew g (.inl ci)) (sN g) = .inl ci := by simp [sK, sNew]
      rw [hk]
      refine ⟨q, hq, (u_born (mTy ci) F.2.2.2.2.1 (mUws hq) hKn hkC e1 (mTyOk hq)).to (fun k hkN => ?_)⟩
      refine (mNew_def g _ base k _ ?_ ?_).symm
      · intro h
        cases h9 : mTy ci k <;> rw [h9] at h <;> first | exact Or.inl rfl | exact Or.inr rfl | cases h
      · intro h
        have hb : ∀ k, k < q.2.2 → mTc (mTy ci k) = 2 → defaultValue (mTy ci k) = .null := mCl_all (P := fun ci q => ∀ k, k < q.2.2 → mTc (mTy ci k) = 2 → defaultValue (mTy ci k) = .null) (by decide) (by decide) (by decide) (by decide) (by decide) (by decide) (by decide) (by decide) (by decide) (by decide) hq
        exact hb k hkN h
    · have ha' : a < sN g := by
        have : a < sN g + 1 := ha
        omega
      exact (hH.2 a ha').old hao (e3 _ (by omega))
  · rw [e3 x (Nat.lt_of_lt_of_le h1 (by rw [← hH.1]; exact hS.1))]
    exact hS.2.1 x h1 h2
theorem x_newa (j : Nat) {atype : ArrayType} {t n : Nat} {z : Int} (hd : (mTab M)[j]? = some (pc, .newarray atype, 2)) (ht : newarray.typeOf atype = mAT t) (ht3 : t < 3) (hw : Cond.arrayClass (newarray.typeOf atype) ∈ mGood) (hz : z = (n : Int)) (hn : n < 65536) {cb' sb' : Nat} (hcb : cb = cb' + 1) (hsb : sb = sb' + n) {g' : mS} (hg : sNew g (.inr (t, n)) = g') (kk : mX M d Qa cb' sb' (pc + 2) L (vR (some (sN g)) :: S) g') : mX M d Qa cb sb pc L (vI z :: S) g := by
  intro p l e R s m args below meth c Q base tb dC dI F E H locs cells slots ls hH hS hL hc hs
  subst hg; subst hcb; subst hsb; subst hz
  have hcmp : componentBytes (newarray.typeOf atype) ≤ 8 := by cases atype <;> decide
  refine va_newaK (n := Int32.ofInt (n : Int)) (N := n) F.1 F.2.1 (F.go hw) rfl (F.dec hd) rfl (by rw [show (0 : Int32) = Int32.ofInt 0 from rfl, mI_lt ⟨by omega, by omega⟩ mR0]; omega) (by rw [mI_nat ⟨by omega, by omega⟩ (by omega)]; rfl) (Nat.le_trans (Nat.mul_le_mul (Nat.le_of_lt hn) hcmp) (by decide)) (by omega) (by omega) hH.1 fun H' cA e1 e2 e3 r1 r2 => ?_
  refine kk p l e R s m args below meth c Q base tb dC dI F E H' _ _ _ ls ⟨by rw [e2]; rfl, fun a ha => ?_⟩ ⟨Nat.le_trans hS.1 (by rw [e2, hH.1]; omega), fun x h1 h2 => ?_, hS.2.2⟩ hL (by omega) (by omega)
  · by_cases hao : a = sN g
    · subst hao
      unfold mCell
      have hk : sK (sNew g (.inr (t, n))) (sN g) = .inr (t, n) := by simp [sK, sNew]
      rw [hk]
      rw [ht] at r1 r2 e1
      refine ⟨cA, r1, ?_, ?_⟩
      · match t, ht3 with
        | 0, _ => exact r2
        | 1, _ => exact r2
        | 2, _ => exact r2
      · rw [e1]
        congr 2
        funext k
        match t, ht3 with
        | 0, _ => exact (mNew_def g _ base k .int (fun _ => Or.inl rfl) (fun h => by cases h)).symm
        | 1, _ => exact (mNew_def g _ base k .long (fun h => by cases h) (fun h => by cases h)).symm
        | 2, _ => exact (mNew_def g _ base k .boolean (fun _ => Or.inr rfl) (fun h => by cases h)).symm
    · have ha' : a < sN g := by
        have : a < sN g + 1 := ha
        omega
      exact (hH.2 a ha').old hao (e3 _ (by omega))
  · rw [e3 x (Nat.lt_of_lt_of_le h1 (by rw [← hH.1]; exact hS.1))]
    exact hS.2.1 x h1 h2
theorem x_newq5 (j : Nat) {idx n : Nat} {z : Int} (hd : (mTab M)[j]? = some (pc, .anewarray idx, 3)) (hcl : Cond.classLink (mName M).cls idx RX5 ∈ mGood) (hz : z = (n : Int)) (hn : n < 65536) {cb' sb' : Nat} (hcb : cb = cb' + 1) (hsb : sb = sb' + n) {g' : mS} (hg : sNew g (.inr (3, n)) = g') (kk : mX M d Qa cb' sb' (pc + 3) L (vR (some (sN g)) :: S) g') : mX M d Qa cb sb pc L (vI z :: S) g := by
  intro p l e R s m args below meth c Q base tb dC dI F E H locs cells slots ls hH hS hL hc hs
  subst hg; subst hcb; subst hsb; subst hz
  have hnn : (Int32.ofInt (n : Int)).toNatClampNeg = n := by rw [mI_nat ⟨by omega, by omega⟩ (by omega)]; rfl
  refine W.anew (n := Int32.ofInt (n : Int)) F.1 F.2.1 F.2.2.2.1 (F.go hcl) (va_AO.use F.2.2.2.2.2.2.2.1.2.2.2.1) rfl (F.dec hd) rfl (by rw [show (0 : Int32) = Int32.ofInt 0 from rfl, mI_lt ⟨by omega, by omega⟩ mR0]; omega) (by rw [hnn]; omega) (by omega) (by rw [hnn]; omega) fun cA kA comp f1 f2 f3 f4 => ?_
  rw [hnn]
  generalize hH1 : H.push ({ cls := cA, slots := Array.replicate n .null, vm := .none } : Cell) = H1
  have e2 : H1.size = H.size + 1 := by rw [← hH1, Array.size_push]
  have e1 : H1[H.size]? = some (arrV cA n (fun _ => .null)) := by rw [← hH1, Array.getElem?_push_size, ← arrV_new]
  have e3 : ∀ q : Nat, q < H.size → H1[q]? = H[q]? := fun q hq => by rw [← hH1, Array.getElem?_push, if_neg (Nat.ne_of_lt hq)]
  have r1 : ArrOfT s cA (.object RX5) := fun N z => ⟨(fun k h => by cases h), kA, f2, comp, f3⟩
  rw [show (Value.ref H.size :: List.map (mC base tb) S) = List.map (mC base tb) (vR (some (sN g)) :: S) by rw [hH.1]; rfl]
  refine kk p l e R s m args below meth c Q base tb dC dI F E H1 _ _ _ ls ⟨by rw [e2, hH.1]; rfl, fun a ha => ?_⟩ ⟨Nat.le_trans hS.1 (by rw [e2]; omega), fun x h1 h2 => ?_, hS.2.2⟩ hL (by omega) (by omega)
  · by_cases hao : a = sN g
    · subst hao
      unfold mCell
      have hk : sK (sNew g (.inr (3, n))) (sN g) = .inr (3, n) := by simp [sK, sNew]
      rw [hk]
      refine ⟨cA, r1, ⟨kA, comp, f2, f3, f4, f1⟩, ?_⟩
      rw [← hH.1, e1]
      congr 2
      funext k
      show _ = mVal base 2 _ _ _
      rw [mVal2]
      simp [sR, sNew, mRv]
    · have ha' : a < sN g := by
        have : a < sN g + 1 := ha
        omega
      exact (hH.2 a ha').old hao (e3 _ (hH.lt ha'))
  · rw [e3 x (Nat.lt_of_lt_of_le h1 hS.1)]
    exact hS.2.1 x h1 h2
theorem x_newq0 (j : Nat) {idx n : Nat} {z : Int} (hd : (mTab M)[j]? = some (pc, .anewarray idx, 3)) (hcl : Cond.classLink (mName M).cls idx RX0 ∈ mGood) (hz : z = (n : Int)) (hn : n < 65536) {cb' sb' : Nat} (hcb : cb = cb' + 1) (hsb : sb = sb' + n) {g' : mS} (hg : sNew g (.inr (4, n)) = g') (kk : mX M d Qa cb' sb' (pc + 3) L (vR (some (sN g)) :: S) g') : mX M d Qa cb sb pc L (vI z :: S) g := by
  intro p l e R s m args below meth c Q base tb dC dI F E H locs cells slots ls hH hS hL hc hs
  subst hg; subst hcb; subst hsb; subst hz
  have hnn : (Int32.ofInt (n : Int)).toNatClampNeg = n := by rw [mI_nat ⟨by omega, by omega⟩ (by omega)]; rfl
  refine W.anew (n := Int32.ofInt (n : Int)) F.1 F.2.1 F.2.2.2.1 (F.go hcl) (va_AO.use F.2.2.2.2.2.2.2.1.2.2.2.2) rfl (F.dec hd) rfl (by rw [show (0 : Int32) = Int32.ofInt 0 from rfl, mI_lt ⟨by omega, by omega⟩ mR0]; omega) (by rw [hnn]; omega) (by omega) (by rw [hnn]; omega) fun cA kA comp f1 f2 f3 f4 => ?_
  rw [hnn]
  generalize hH1 : H.push ({ cls := cA, slots := Array.replicate n .null, vm := .none } : Cell) = H1
  have e2 : H1.size = H.size + 1 := by rw [← hH1, Array.size_push]
  have e1 : H1[H.size]? = some (arrV cA n (fun _ => .null)) := by rw [← hH1, Array.getElem?_push_size, ← arrV_new]
  have e3 : ∀ q : Nat, q < H.size → H1[q]? = H[q]? := fun q hq => by rw [← hH1, Array.getElem?_push, if_neg (Nat.ne_of_lt hq)]
  have r1 : ArrOfT s cA (.object RX0) := fun N z => ⟨(fun k h => by cases h), kA, f2, comp, f3⟩
  rw [show (Value.ref H.size :: List.map (mC base tb) S) = List.map (mC base tb) (vR (some (sN g)) :: S) by rw [hH.1]; rfl]
  refine kk p l e R s m args below meth c Q base tb dC dI F E H1 _ _ _ ls ⟨by rw [e2, hH.1]; rfl, fun a ha => ?_⟩ ⟨Nat.le_trans hS.1 (by rw [e2]; omega), fun x h1 h2 => ?_, hS.2.2⟩ hL (by omega) (by omega)
  · by_cases hao : a = sN g
    · subst hao
      unfold mCell
      have hk : sK (sNew g (.inr (4, n))) (sN g) = .inr (4, n) := by simp [sK, sNew]
      rw [hk]
      refine ⟨cA, r1, ⟨kA, comp, f2, f3, f4, f1⟩, ?_⟩
      rw [← hH.1, e1]
      congr 2
      funext k
      show _ = mVal base 2 _ _ _
      rw [mVal2]
      simp [sR, sNew, mRv]
    · have ha' : a < sN g := by
        have : a < sN g + 1 := ha
        omega
      exact (hH.2 a ha').old hao (e3 _ (hH.lt ha'))
  · rw [e3 x (Nat.lt_of_lt_of_le h1 hS.1)]
    exact hS.2.1 x h1 h2
theorem x_iald (j : Nat) {o n : Nat} {i : Int} {z : Int} (hd : (mTab M)[j]? = some (pc, .iaload, 1)) (ho : o < sN g) (hk : sK g o = .inr (0, n)) (hi : 0 ≤ i ∧ i < n ∧ i < 2147483648) (hz : sI g o i = z) (kk : mX M d Qa cb sb (pc + 1) L (vI z :: S) g) : mX M d Qa cb sb pc L (vI i :: vR (some o) :: S) g := by
  intro p l e R s m args below meth c Q base tb dC dI F E H locs cells slots ls hH hS hL hc hs
  obtain ⟨i', rfl⟩ : ∃ i' : Nat, i = (i' : Int) := ⟨i.toNat, by omega⟩
  obtain ⟨cA, r1, r2, q1⟩ := hH.arr ho hk
  have hin := mI_in (n := n) hi.1 hi.2.1 ⟨by omega, hi.2.2⟩
  have hnn : (Int32.ofInt (i' : Int)).toNatClampNeg = i' := mI_nat ⟨by omega, hi.2.2⟩ hi.1
  refine W.iald (j := Int32.ofInt (i' : Int)) (v := mC base tb (vI z)) F.1 F.2.1 q1 (r1 n _) (fun q => by cases q) (by rw [arrV_size]; exact hin) ?_ rfl rfl (F.dec hd) (kk p l e R s m args below meth c Q base tb dC dI F E H locs cells slots ls hH hS hL hc hs)
  rw [hnn, arrV_read _ _ (by omega)]
  show some (mVal base 0 g o i') = _; rw [mVal0, hz]; rfl
theorem x_zald (j : Nat) {o n : Nat} {i : Int} {z : Int} (hd : (mTab M)[j]? = some (pc, .baload, 1)) (ho : o < sN g) (hk : sK g o = .inr (2, n)) (hi : 0 ≤ i ∧ i < n ∧ i < 2147483648) (hz : sI g o i = z) (kk : mX M d Qa cb sb (pc + 1) L (vI z :: S) g) : mX M d Qa cb sb pc L (vI i :: vR (some o) :: S) g := by
  intro p l e R s m args below meth c Q base tb dC dI F E H locs cells slots ls hH hS hL hc hs
  obtain ⟨i', rfl⟩ : ∃ i' : Nat, i = (i' : Int) := ⟨i.toNat, by omega⟩
  obtain ⟨cA, r1, r2, q1⟩ := hH.arr ho hk
  have hin := mI_in (n := n) hi.1 hi.2.1 ⟨by omega, hi.2.2⟩
  have hnn : (Int32.ofInt (i' : Int)).toNatClampNeg = i' := mI_nat ⟨by omega, hi.2.2⟩ hi.1
  refine W.zald (j := Int32.ofInt (i' : Int)) (v := mC base tb (vI z)) F.1 F.2.1 q1 (r1 n _) (fun q => by cases q) (by rw [arrV_size]; exact hin) ?_ rfl rfl (F.dec hd) (kk p l e R s m args below meth c Q base tb dC dI F E H locs cells slots ls hH hS hL hc hs)
  rw [hnn, arrV_read _ _ (by omega)]
  show some (mVal base 0 g o i') = _; rw [mVal0, hz]; rfl
theorem x_lald (j : Nat) {o n : Nat} {i : Int} {z : BitVec 64} (hd : (mTab M)[j]? = some (pc, .laload, 1)) (ho : o < sN g) (hk : sK g o = .inr (1, n)) (hi : 0 ≤ i ∧ i < n ∧ i < 2147483648) (hz : sL g o i = z) (kk : mX M d Qa cb sb (pc + 1) L (vL z :: S) g) : mX M d Qa cb sb pc L (vI i :: vR (some o) :: S) g := by
  intro p l e R s m args below meth c Q base tb dC dI F E H locs cells slots ls hH hS hL hc hs
  obtain ⟨i', rfl⟩ : ∃ i' : Nat, i = (i' : Int) := ⟨i.toNat, by omega⟩
  obtain ⟨cA, r1, r2, q1⟩ := hH.arr ho hk
  have hin := mI_in (n := n) hi.1 hi.2.1 ⟨by omega, hi.2.2⟩
  have hnn : (Int32.ofInt (i' : Int)).toNatClampNeg = i' := mI_nat ⟨by omega, hi.2.2⟩ hi.1
  refine W.lald (j := Int32.ofInt (i' : Int)) (v := mC base tb (vL z)) F.1 F.2.1 q1 (r1 n _) (fun q => by cases q) (by rw [arrV_size]; exact hin) ?_ rfl rfl (F.dec hd) (kk p l e R s m args below meth c Q base tb dC dI F E H locs cells slots ls hH hS hL hc hs)
  rw [hnn, arrV_read _ _ (by omega)]
  show some (mVal base 1 g o i') = _; rw [mVal1, hz]; rfl
theorem x_aald (j : Nat) {o n : Nat} {i : Int} {t z : Nat} (hd : (mTab M)[j]? = some (pc, .aaload, 1)) (ho : o < sN g) (hk : sK g o = .inr (t, n)) (hi : 0 ≤ i ∧ i < n ∧ i < 2147483648) (ht : (mAT t).isReference = true ∧ mTc (mAT t) = 2) (hz : sR g o i = some z) (kk : mX M d Qa cb sb (pc + 1) L (vR (some z) :: S) g) : mX M d Qa cb sb pc L (vI i :: vR (some o) :: S) g := by
  intro p l e R s m args below meth c Q base tb dC dI F E H locs cells slots ls hH hS hL hc hs
  obtain ⟨i', rfl⟩ : ∃ i' : Nat, i = (i' : Int) := ⟨i.toNat, by omega⟩
  obtain ⟨cA, r1, r2, q1⟩ := hH.arr ho hk
  have hin := mI_in (n := n) hi.1 hi.2.1 ⟨by omega, hi.2.2⟩
  have hnn : (Int32.ofInt (i' : Int)).toNatClampNeg = i' := mI_nat ⟨by omega, hi.2.2⟩ hi.1
  refine W.aald (j := Int32.ofInt (i' : Int)) (v := mC base tb (vR (some z))) F.1 F.2.1 q1 (r1 n _) ht.1 (fun q => by cases q) (by rw [arrV_size]; exact hin) ?_ rfl rfl (F.dec hd) (kk p l e R s m args below meth c Q base tb dC dI F E H locs cells slots ls hH hS hL hc hs)
  rw [hnn, arrV_read _ _ (by omega)]
  rw [ht.2, mVal2, hz]; rfl
theorem x_iast (j : Nat) {o n : Nat} {i : Int} {z : Int} (hd : (mTab M)[j]? = some (pc, .iastore, 1)) (ho : o < sN g) (hk : sK g o = .inr (0, n)) (hi : 0 ≤ i ∧ i < n ∧ i < 2147483648) {g' : mS} (hg : sPutI g o i z = g') (kk : mX M d Qa cb sb (pc + 1) L S g') : mX M d Qa cb sb pc L (vI z :: vI i :: vR (some o) :: S) g := by
  intro p l e R s m args below meth c Q base tb dC dI F E H locs cells slots ls hH hS hL hc hs
  subst hg
  obtain ⟨i', rfl⟩ : ∃ i' : Nat, i = (i' : Int) := ⟨i.toNat, by omega⟩
  obtain ⟨cA, r1, r2, q1⟩ := hH.arr ho hk
  have hin := mI_in (n := n) hi.1 hi.2.1 ⟨by omega, hi.2.2⟩
  have hnn : (Int32.ofInt (i' : Int)).toNatClampNeg = i' := mI_nat ⟨by omega, hi.2.2⟩ hi.1
  refine W.iast (j := Int32.ofInt (i' : Int)) F.1 F.2.1 q1 (r1 n _) (fun q => by cases q) (by rw [arrV_size]; exact hin) rfl rfl (F.dec hd) fun H' e1 e2 e3 => ?_
  rw [hnn] at e1 ⊢
  
  exact kk p l e R s m args below meth c Q base tb dC dI F E H' _ cells slots ls (hH.putA ho hk (mBut_I g o i' z) r1 r2 (mPut_I base g o i' z) e1 e2 e3) (hS.put e2 e3 (Nat.le_add_right _ _)) hL hc hs
theorem x_last (j : Nat) {o n : Nat} {i : Int} {z : BitVec 64} (hd : (mTab M)[j]? = some (pc, .lastore, 1)) (ho : o < sN g) (hk : sK g o = .inr (1, n)) (hi : 0 ≤ i ∧ i < n ∧ i < 2147483648) {g' : mS} (hg : sPutL g o i z = g') (kk : mX M d Qa cb sb (pc + 1) L S g') : mX M d Qa cb sb pc L (vL z :: vI i :: vR (some o) :: S) g := by
  intro p l e R s m args below meth c Q base tb dC dI F E H locs cells slots ls hH hS hL hc hs
  subst hg
  obtain ⟨i', rfl⟩ : ∃ i' : Nat, i = (i' : Int) := ⟨i.toNat, by omega⟩
  obtain ⟨cA, r1, r2, q1⟩ := hH.arr ho hk
  have hin := mI_in (n := n) hi.1 hi.2.1 ⟨by omega, hi.2.2⟩
  have hnn : (Int32.ofInt (i' : Int)).toNatClampNeg = i' := mI_nat ⟨by omega, hi.2.2⟩ hi.1
  refine W.last (j := Int32.ofInt (i' : Int)) F.1 F.2.1 q1 (r1 n _) (fun q => by cases q) (by rw [arrV_size]; exact hin) rfl rfl (F.dec hd) fun H' e1 e2 e3 => ?_
  rw [hnn] at e1 ⊢
  
  exact kk p l e R s m args below meth c Q base tb dC dI F E H' _ cells slots ls (hH.putA ho hk (mBut_L g o i' z) r1 r2 (mPut_L base g o i' z) e1 e2 e3) (hS.put e2 e3 (Nat.le_add_right _ _)) hL hc hs
theorem x_zast (j : Nat) {o n : Nat} {i : Int} {z : Int} (hd : (mTab M)[j]? = some (pc, .bastore, 1)) (ho : o < sN g) (hk : sK g o = .inr (2, n)) (hi : 0 ≤ i ∧ i < n ∧ i < 2147483648) (hb : z = 0 ∨ z = 1) {g' : mS} (hg : sPutI g o i z = g') (kk : mX M d Qa cb sb (pc + 1) L S g') : mX M d Qa cb sb pc L (vI z :: vI i :: vR (some o) :: S) g := by
  intro p l e R s m args below meth c Q base tb dC dI F E H locs cells slots ls hH hS hL hc hs
  subst hg
  obtain ⟨i', rfl⟩ : ∃ i' : Nat, i = (i' : Int) := ⟨i.toNat, by omega⟩
  obtain ⟨cA, r1, r2, q1⟩ := hH.arr ho hk
  have hin := mI_in (n := n) hi.1 hi.2.1 ⟨by omega, hi.2.2⟩
  have hnn : (Int32.ofInt (i' : Int)).toNatClampNeg = i' := mI_nat ⟨by omega, hi.2.2⟩ hi.1
  refine W.zast (j := Int32.ofInt (i' : Int)) F.1 F.2.1 q1 (r1 n _) (fun q => by cases q) (by rw [arrV_size]; exact hin) rfl rfl (F.dec hd) fun H' e1 e2 e3 => ?_
  rw [hnn] at e1 ⊢
  try rw [show narrow .boolean (.int (Int32.ofInt z)) = .int (Int32.ofInt z) from mNarZ hb] at e1
  exact kk p l e R s m args below meth c Q base tb dC dI F E H' _ cells slots ls (hH.putA ho hk (mBut_I g o i' z) r1 r2 (mPut_I base g o i' z) e1 e2 e3) (hS.put e2 e3 (Nat.le_add_right _ _)) hL hc hs
theorem x_aast (j : Nat) {o n t ci w : Nat} {i : Int} {r : vw_C} (hd : (mTab M)[j]? = some (pc, .aastore, 1)) (ho : o < sN g) (hk : sK g o = .inr (t, n)) (ht : mAT t = .object r.1) (hc' : vwCl[ci]? = some r) (hw : w < sN g) (hwk : sK g w = .inl ci) (hi : 0 ≤ i ∧ i < n ∧ i < 2147483648) {g' : mS} (hg : sPutR g o i (some w) = g') (kk : mX M d Qa cb sb (pc + 1) L S g') : mX M d Qa cb sb pc L (vR (some w) :: vI i :: vR (some o) :: S) g := by
  intro p l e R s m args below meth c Q base tb dC dI F E H locs cells slots ls hH hS hL hc hs
  subst hg
  obtain ⟨i', rfl⟩ : ∃ i' : Nat, i = (i' : Int) := ⟨i.toNat, by omega⟩
  obtain ⟨cA, r1, r2, q1⟩ := hH.arr ho hk
  obtain ⟨r', hr', cellV, g1, g2, g3, -⟩ := hH.obj hw hwk
  have hin := mI_in (n := n) hi.1 hi.2.1 ⟨by omega, hi.2.2⟩
  have hnn : (Int32.ofInt (i' : Int)).toNatClampNeg = i' := mI_nat ⟨by omega, hi.2.2⟩ hi.1
  have hcls := (F.2.2.2.2.2.2.2.1.1.1 ci r hc').2
  have r2' := r2
  rw [ht] at r2'
  obtain ⟨kA, comp, k1, k2, k3, -⟩ := r2'
  have hcomp : comp = dC ci := Option.some.inj (k3.symm.trans hcls.1)
  subst hcomp
  obtain ⟨kC, hkC, -⟩ := hcls.2
  refine W.aast (j := Int32.ofInt (i' : Int)) F.1 F.2.1 q1 (fun q h => by cases h) (fun h => by cases h) k1 k2 rfl hkC ⟨fun q => hin (Or.inl q), by rw [arrV_size, hnn]; omega⟩ g1 (fun q h => by rw [g3] at h; cases h) (by rw [g2]; exact hkC) (by rw [g2]; exact va_assign hcls) rfl rfl (F.dec hd) fun H' e1 e2 e3 => ?_
  rw [hnn] at e1 ⊢
  exact kk p l e R s m args below meth c Q base tb dC dI F E H' _ cells slots ls (hH.putA ho hk (mBut_R g o i' (some w)) r1 r2 (by rw [ht]; exact mPut_R base g o i' (some w)) e1 e2 e3) (hS.put e2 e3 (Nat.le_add_right _ _)) hL hc hs
theorem x_gets (j : Nat) {idx t : Nat} (hd : (mTab M)[j]? = some (pc, .getstatic idx, 3)) (ht : t < 4) (hw : Cond.fieldLink (mName M).cls idx (mTN t).1 (mTN t).2 "[I" ∈ mGood) (kk : mX M d Qa cb sb (pc + 3) L (vT t :: S) g) : mX M d Qa cb sb pc L S g := by
  intro p l e R s m args below meth c Q base tb dC dI F E H locs cells slots ls hH hS hL hc hs
  exact va_gets F.1 F.2.1 (F.2.2.2.2.2.2.2.1.2.1 t ht).1 hS F.2.2.2.1 (F.go hw) (fun _ h => h) (F.dec hd) (kk p l e R s m args below meth c Q base tb dC dI F E H locs cells slots ls hH hS hL hc hs)
theorem x_getsN (j : Nat) {idx t : Nat} (hd : (mTab M)[j]? = some (pc, .getstatic idx, 3)) (ht : t < 4) (hw : Cond.fieldLinkNest (mName M).cls idx (mTN t).1 (mTN t).2 "[I" "ChoirBook" ∈ mNest) (kk : mX M d Qa cb sb (pc + 3) L (vT t :: S) g) : mX M d Qa cb sb pc L S g := by
  intro p l e R s m args below meth c Q base tb dC dI F E H locs cells slots ls hH hS hL hc hs
  exact va_getsN F.1 F.2.1 (F.2.2.2.2.2.2.2.1.2.1 t ht).1 hS F.2.2.2.1 (va_Nw.use rfl (F.2.2.2.2.2.2.2.1.2.2.1 _ hw)) (fun _ h => h) (F.dec hd) (kk p l e R s m args below meth c Q base tb dC dI F E H locs cells slots ls hH hS hL hc hs)
theorem x_tald (j : Nat) {t : Nat} {i z : Int} (hd : (mTab M)[j]? = some (pc, .iaload, 1)) (ht : t < 4) (hi : 0 ≤ i ∧ i < 4) (hz : mTF t i.toNat = z) (kk : mX M d Qa cb sb (pc + 1) L (vI z :: S) g) : mX M d Qa cb sb pc L (vI i :: vT t :: S) g := by
  intro p l e R s m args below meth c Q base tb dC dI F E H locs cells slots ls hH hS hL hc hs
  have hin := mI_in (n := 4) hi.1 (by omega) ⟨by omega, by omega⟩
  have hnn := mI_nat (a := i) ⟨by omega, by omega⟩ hi.1
  exact va_ti F.1 F.2.1 (F.2.2.2.2.2.2.2.1.2.1 t ht).2 hS (i := Int32.ofInt i) hin (v := mI z) (by rw [hnn, hz]) (F.dec hd) (kk p l e R s m args below meth c Q base tb dC dI F E H locs cells slots ls hH hS hL hc hs)
end MO
end
section
/-! calls: a method's contract, how it is got from a walk, how it is used -/
def mWords (M : mM) : List Cond := .code (mName M) (mBytes M) (mNL M) (mRet M) :: mGood
def mRoom (d mc ms : Nat) : Room := { frames := d, cells := mc, slots := ms, locals := 34 * d }
def mQ (base : Nat) (tb : Nat → Nat) (dC : Nat → ClassId) (dI : Nat → Nat → Nat) (Qc : Option mV → mS → Prop) : Array Value → State → Outcome → State → Prop := fun _ st oc t => (∃ (v : Option mV) (g' : mS), oc = .returned (v.map (mC base tb)) ∧ Qc v g' ∧ mW base tb dC dI g' t) ∧ va_F (mA base) st t
/-- the contract of the method M: from the state g with these arguments it comes back with an answer and a state of which Qc holds; d: how deep it calls; mc, ms: what it makes -/
def mCtr (M : mM) (d mc ms : Nat) (as : List mV) (g : mS) (Qc : Option mV → mS → Prop) : Prop :=
  ∀ (l : Launch) (base : Nat) (tb : Nat → Nat) (dC : Nat → ClassId) (dI : Nat → Nat → Nat), Met l (mName M) (mWords M) (mRoom d mc ms) (va_Pc (as.map (mC base tb)) (fun U => mW base tb dC dI g U)) (mQ base tb dC dI Qc) mc ms (mA base)
theorem mBlind {av : List Value} {base : Nat} {tb : Nat → Nat} {dC : Nat → ClassId} {dI : Nat → Nat → Nat} {g : mS} : FrameBlind (va_Pc av (fun U => mW base tb dC dI g U)) := by
  intro a U f mk h
  obtain ⟨h1, h2, h3⟩ := h
  exact ⟨h1, mWs.same (u := U) (U := U.calling f mk a) rfl h2, mHp.moved (u := U) (U := U.calling f mk a) (Vm.Alike.refl U.vm) h3⟩
def mEntry : List mV → List (Option mV)
  | [] => []
  | v :: t => if mCat v = 2 then some v :: none :: mEntry t else some v :: mEntry t
theorem mEntry_at (base : Nat) (tb : Nat → Nat) : ∀ (as : List mV) (i j : Nat) (v : mV), (mEntry as)[j]? = some (some v) → (i + j, mC base tb v) ∈ lv_args i (as.map (mC base tb))
  | [], i, j, v, h => by simp [mEntry] at h
  | a :: t, i, j, v, h => by
    unfold mEntry at h
    show _ ∈ (i, mC base tb a) :: lv_args (if (mC base tb a).category = 2 then i + 2 else i + 1) (t.map (mC base tb))
    rw [mC_cat]
    by_cases hc : mCat a = 2
    · rw [if_pos hc] at h ⊢
      match j, h with
      | 0, h => cases h; exact List.mem_cons_self
      | 1, h => cases h
      | j + 2, h =>
        have := mEntry_at base tb t (i + 2) j v h
        rw [show i + (j + 2) = i + 2 + j by omega]
        exact List.mem_cons_of_mem _ this
    · rw [if_neg hc] at h ⊢
      match j, h with
      | 0, h => cases h; exact List.mem_cons_self
      | j + 1, h =>
        have := mEntry_at base tb t (i + 1) j v h
        rw [show i + (j + 1) = i + 1 + j by omega]
        exact List.mem_cons_of_mem _ this
theorem mEntry_len (base : Nat) (tb : Nat → Nat) : ∀ as : List mV, (lg_sl (as.map (mC base tb))).length = (mEntry as).length
  | [] => rfl
  | a :: t => by
    have ih := mEntry_len base tb t
    unfold lg_sl at ih ⊢
    rw [List.map_cons, List.flatMap_cons, List.length_append, ih]
    show _ = (if mCat a = 2 then some a :: none :: mEntry t else some a :: mEntry t).length
    rw [mC_cat]
    by_cases hc : mCat a = 2
    · rw [if_pos hc, if_pos hc]; simp only [List.length_cons, List.length_nil]; omega
    · rw [if_neg hc, if_neg hc]; simp only [List.length_cons, List.length_nil]; omega
theorem mCtr_of {M : mM} {d mc ms : Nat} {as : List mV} {g : mS} {Qc : Option mV → mS → Prop} (hpl : plainName (mName M).cls = true) (hdec : ∀ q ∈ mTab M, decode (mBytes M) q.1 = .ok q.2) (hlen : (mEntry as).length ≤ mNL M) (hsc : mScr M = none)
    (k : mX M d Qc mc ms 0 (mEntry as ++ List.replicate (mNL M - (mEntry as).length) none) [] g) : mCtr M d mc ms as g Qc := by
  intro l base tb dC dI
  refine Met.ofW (cc := mBytes M) (maxL := mNL M) (ret := mRet M) hpl rfl ?_
  intro p e s m args below meth c s₁ B hml hv
  obtain ⟨rfl, hW, hH⟩ := hv
  have hts := atoms_spec (ws := mWords M) B.pre
  have hown : s.vm.findClass (mName M).cls = some m.cls := findClass_of_methodNamed B.named
  have hin : meth.name = (mName M).name := (name_of_methodNamed B.named B.method).1
  have hlocks := B.notSynchronized
  have hl := lv_entry (as.map (mC base tb)) (n := mNL M) (by rw [mEntry_len]; exact hlen)
  rw [lg_entry_eq]
  generalize (lg_sl (as.map (mC base tb)) ++ List.replicate (mNL M - (lg_sl (as.map (mC base tb))).length) Slot.unset).toArray = ls at hl ⊢
  have hb : base ≤ s.heap.size := by rw [hH.1]; omega
  refine k p l e (headSpec (mWords M) (mRoom d mc ms)).room s m _ below meth c _ base tb dC dI ⟨B.exec, B.bytes, hml, hown, fun w hw => hts w (List.mem_cons_of_mem _ hw), Nat.le_refl _, Nat.le_refl _, hW, hb, hdec, hin, fun q hq => by rw [hsc] at hq; cases hq⟩ ?_ s.heap [] 0 0 ls hH va_S.rf ⟨hl.1, hl.2.1, fun i v hi => ?_⟩ (by show 0 + mc ≤ mc; omega) (by show 0 + ms ≤ ms; omega)
  · intro v g' H locs cells slots pc i ls' hq hrok hdg hH' hS hc hs
    refine W.widen (k := mc) (n := ms) hc hs ?_
    have fin : ∀ t : State, t.heap = H → s.WarmedH t.vm → mQ base tb dC dI Qc (as.map (mC base tb)).toArray s (.returned (v.map (mC base tb))) t := fun t ht hWt =>
      ⟨⟨v, g', rfl, hq, (mWs.moved hWt hW).kept (fun a ha hna => by rw [ht]; exact hS.2.1 a ha hna), by rw [ht]; exact hH'.moved hWt.alike⟩, hS.F ht⟩
    match v, hrok, fin with
    | none, hrok, fin =>
      obtain ⟨h1, rfl⟩ := hrok
      exact W.vret B.exec B.bytes (by rw [B.returns]; exact h1) fin hS.2.2 hdg
    | some (.inl z), hrok, fin =>
      obtain ⟨rfl, h1⟩ := hrok
      rcases h1 with h1 | ⟨h1, hz⟩
      · exact W.iret B.exec B.bytes (by rw [B.returns]; exact h1) fin hS.2.2 hdg
      · exact W.zret B.exec B.bytes (by rw [B.returns]; exact h1) (mNarZ hz) fin hS.2.2 hdg
    | some (.inr (.inl b)), hrok, fin =>
      obtain ⟨rfl, h1⟩ := hrok
      exact W.lret B.exec B.bytes (by rw [B.returns]; exact h1) fin hS.2.2 hdg
    | some (.inr (.inr (.inr (.inl x)))), hrok, fin =>
      obtain ⟨rfl, h1⟩ := hrok
      exact W.fret B.exec B.bytes (by rw [B.returns]; exact h1) fin hS.2.2 hdg
    | some (.inr (.inr (.inl r))), hrok, fin => exact hrok.elim
    | some (.inr (.inr (.inr (.inr r)))), hrok, fin => exact hrok.elim
  · have hi' : (mEntry as)[i]? = some (some v) := by
      rw [List.getElem?_append] at hi
      split at hi
      · exact hi
      · rw [List.getElem?_replicate] at hi
        split at hi <;> cases hi
    have h0 := mEntry_at base tb as 0 i v hi'
    rw [Nat.zero_add] at h0
    exact hl.2.2 _ h0
/-- what the tables say of a method that is called: by number of its arguments -/
def mOk (y : mM) (n : Nat) : Prop := Cond.code (mName y) (mBytes y) (mNL y) (mRet y) ∈ mGood ∧ Cond.initialized (mName y).cls ∈ mGood ∧ ((mName y).cls ≠ "java/lang/invoke/MethodHandle" ∧ (mName y).cls ≠ "java/lang/invoke/VarHandle" ∧ (parseMethodDescriptor (mName y).desc).map (fun d => d.parameters.length) = some n) ∧ mNL y ≤ 15
theorem mOiI : Cond.instanceMethod Lib.objectInit ∈ mGood := by decide +kernel
theorem mOiC : Cond.code Lib.objectInit ⟨#[0xb1]⟩ 1 none ∈ mGood := by decide +kernel
theorem mMx_max : Cond.static Lib.Math.max.name ∈ mGood := by decide +kernel
theorem mMx_min : Cond.static Lib.Math.min.name ∈ mGood := by decide +kernel
theorem mMi : Cond.initialized "java/lang/Math" ∈ mGood := by decide +kernel
theorem mMc_max : Cond.code Lib.Math.max.name Lib.Math.max.code 2 (some .int) ∈ mGood := by decide +kernel
theorem mMc_min : Cond.code Lib.Math.min.name Lib.Math.min.code 2 (some .int) ∈ mGood := by decide +kernel
theorem mGood_all : mGood.all goodWord = true := List.all_eq_true.mpr fun _ h => (List.mem_filter.mp h).2
section MCALL
variable {p : Program} {l : Launch} {e : Env} {R : Room} {s : State} {m : MethodId} {args : Array Value} {below : List Frame} {meth : Method} {c : Code} {H : Heap} {locs : List Loc} {cells slots : Nat} {Q : State → Prop}
variable {base : Nat} {tb : Nat → Nat} {dC : Nat → ClassId} {dI : Nat → Nat → Nat}
theorem mGoodIn {y : mM} {n : Nat} (h : mOk y n) : GoodIn mGood (mWords y) := by
  intro w hw
  have h1 : w ∈ mGood := by
    rcases List.mem_cons.mp hw with rfl | h1
    · exact h.1
    · exact h1
  exact ⟨h1, good_of_word (List.mem_filter.mp h1).2⟩
theorem mRun {pc mc ms : Nat} {ls : Array Slot} {st0 rest : List Value} {a : Array Value} {Qc : Option mV → mS → Prop} (hr : va_Run p l e R s m args below meth c H locs cells slots mc ms (F0 m pc ls st0) rest (mQ base tb dC dI Qc a) (mA base)) (hS : va_S (mA base) s.heap H locs)
    (kk : ∀ (v : Option mV) (g' : mS) (H1 : Heap) (locs1 : List Loc), Qc v g' → mHp base dC dI s g' H1 → va_S (mA base) s.heap H1 locs1 → W p l e R s m args below meth c H1 locs1 (cells + mc) (slots + ms) Q (F0 m (pc + 3) ls ((v.map (mC base tb)).toList ++ rest))) : W p l e R s m args below meth c H locs cells slots Q (F0 m pc ls st0) := by
  intro T hT X
  obtain ⟨v, st₀, t, T', L, h0, X', hL, e1, e2, ⟨⟨w, g', hv, hp, -, hb⟩, hz, hk⟩, st⟩ := hr T hT X
  cases hv
  rw [h0] at hz hk
  have hal : s.vm.Alike t.vm := by rw [← e2]; exact X'.warmed.alike
  obtain ⟨t2, a1, b1⟩ := kk w g' T'.heap (locs ++ L) hp (by rw [e1]; exact hb.moved hal.symm)
    ⟨Nat.le_trans hS.1 (by rw [e1]; exact hz), fun q h1 h2 => by rw [e1, hk q (Nat.lt_of_lt_of_le h1 hS.1) h2]; exact hS.2.1 q h1 h2, fun q hq => by
      rcases List.mem_append.mp hq with h | h
      · exact hS.2.2 q h
      · exact hL q h⟩ T' rfl X'
  exact ⟨t2, st t2 a1, b1⟩
end MCALL
theorem mCatS (base : Nat) (tb : Nat → Nat) (S : List mV) : ((S.map (mC base tb)).map fun v => v.category) = S.map mCat := by
  rw [List.map_map]
  exact List.map_congr_left fun v _ => mC_cat base tb v
theorem mRevS (base : Nat) (tb : Nat → Nat) (as : List mV) (b : mV) (S T : List mV) (h : T = as.reverse ++ b :: S) : T.map (mC base tb) = (as.map (mC base tb)).reverse ++ mC base tb b :: S.map (mC base tb) := by
  rw [h, List.map_append, List.map_reverse, List.map_cons]
theorem mRevS0 (base : Nat) (tb : Nat → Nat) (as : List mV) (S T : List mV) (h : T = as.reverse ++ S) : T.map (mC base tb) = (as.map (mC base tb)).reverse ++ S.map (mC base tb) := by
  rw [h, List.map_append, List.map_reverse]
theorem mTailS (base : Nat) (tb : Nat → Nat) (v : Option mV) (S : List mV) : (v.map (mC base tb)).toList ++ S.map (mC base tb) = (v.toList ++ S).map (mC base tb) := by
  cases v <;> rfl
section MCX
variable {M : mM} {d cb sb pc : Nat} {Qa : Option mV → mS → Prop} {L : List (Option mV)} {S : List mV} {g : mS}
theorem x_callV (j : Nat) {idx d' mc ms cb' sb' n : Nat} {as : List mV} {T : List mV} {Qc : Option mV → mS → Prop} (y : mM) {o ci : Nat} {q : vw_C} (hy : mCtr y d' mc ms (vR (some o) :: as) g Qc) (hd : (mTab M)[j]? = some (pc, .invokevirtual idx, 3)) (hok : mOk y n) (ho : o < sN g) (hk : sK g o = .inl ci) (hq : vwCl[ci]? = some q) (hqc : q.1 = (mName y).cls) (hl : Cond.methodLink (mName M).cls idx (mName y) ∈ mGood) (hin : Cond.instanceMethod (mName y) ∈ mGood) (hse : Cond.selects (mName y).cls (mName y) (mName y) ∈ mGood) (hn : as.length = n) (hdd : d' < d) (hT : T = as.reverse ++ vR (some o) :: S) (h8 : (S.map mCat).sum ≤ 8) (hcb : cb = cb' + mc) (hsb : sb = sb' + ms)
    (kk : ∀ (v : Option mV) (g' : mS), Qc v g' → mX M d Qa cb' sb' (pc + 3) L (v.toList ++ S) g') : mX M d Qa cb sb pc L T g := by
  intro p l e R s m args below meth c Q base tb dC dI F E H locs cells slots ls hH hS hL hc hs
  subst hcb; subst hsb
  have hWs := F.2.2.2.2.2.2.2.1
  have hfr := F.2.2.2.2.2.1
  have hlo := F.2.2.2.2.2.2.1
  have hW' : ∀ U : State, U.heap = H → s.WarmedH U.vm → mW base tb dC dI g U := fun U hU hWU => ⟨(mWs.moved hWU hWs).kept (fun a ha hna => by rw [hU]; exact hS.2.1 a ha hna), by rw [hU]; exact hH.moved hWU.alike⟩
  have hroom : (mRoom d' mc ms).frames + 1 ≤ R.frames ∧ 8 + (mNL y + 11) + (mRoom d' mc ms).locals ≤ R.locals := ⟨by show d' + 1 ≤ _; omega, by show 8 + (mNL y + 11) + 34 * d' ≤ _; have := hok.2.2.2; omega⟩
  have hS8 : ((S.map (mC base tb)).map fun v => v.category).sum ≤ 8 := by rw [mCatS]; exact h8
  rw [mRevS base tb as _ S T hT]
  refine mRun (va_runV (C := (mName y).cls) ⟨F.1, F.2.1, F.2.2.1, F.2.2.2.1, F.2.2.2.2.1⟩ (hy l base tb dC dI) ⟨callB_of n F.2.2.2.2.1 (mGoodIn hok) rfl rfl rfl (F.go hok.2.1) (F.go hl) hok.2.2.1 hroom, F.go hin, F.go hse⟩ ⟨mBlind, (by
      obtain ⟨q', hq', cell, q1, q2, q3, -⟩ := hH.obj ho hk
      exact ⟨cell, q1, by rw [q3]; rfl, by rw [q2, ← hqc]; exact (hWs.1.1 ci q hq).2.1⟩), fun U hU hWU => ⟨rfl, hW' U hU hWU⟩⟩ rfl (by rw [List.length_map]; exact hn) hL.1 rfl (lv_room hS8) (F.dec hd) ⟨by omega, by omega⟩) hS (fun v g' H1 locs1 hq hH1 hS1 => ?_)
  rw [mTailS]
  exact kk v g' hq p l e R s m args below meth c Q base tb dC dI F E H1 locs1 _ _ ls hH1 hS1 hL (by omega) (by omega)
theorem x_callS (j : Nat) {idx d' mc ms cb' sb' n : Nat} {as : List mV} {T : List mV} {Qc : Option mV → mS → Prop} (y : mM) (hy : mCtr y d' mc ms (as) g Qc) (hd : (mTab M)[j]? = some (pc, .invokestatic idx, 3)) (hok : mOk y n) (hl : Cond.methodLink (mName M).cls idx (mName y) ∈ mGood) (hst : Cond.static (mName y) ∈ mGood) (hn : as.length = n) (hdd : d' < d) (hT : T = as.reverse ++ S) (h8 : (S.map mCat).sum ≤ 8) (hcb : cb = cb' + mc) (hsb : sb = sb' + ms)
    (kk : ∀ (v : Option mV) (g' : mS), Qc v g' → mX M d Qa cb' sb' (pc + 3) L (v.toList ++ S) g') : mX M d Qa cb sb pc L T g := by
  intro p l e R s m args below meth c Q base tb dC dI F E H locs cells slots ls hH hS hL hc hs
  subst hcb; subst hsb
  have hWs := F.2.2.2.2.2.2.2.1
  have hfr := F.2.2.2.2.2.1
  have hlo := F.2.2.2.2.2.2.1
  have hW' : ∀ U : State, U.heap = H → s.WarmedH U.vm → mW base tb dC dI g U := fun U hU hWU => ⟨(mWs.moved hWU hWs).kept (fun a ha hna => by rw [hU]; exact hS.2.1 a ha hna), by rw [hU]; exact hH.moved hWU.alike⟩
  have hroom : (mRoom d' mc ms).frames + 1 ≤ R.frames ∧ 8 + (mNL y + 11) + (mRoom d' mc ms).locals ≤ R.locals := ⟨by show d' + 1 ≤ _; omega, by show 8 + (mNL y + 11) + 34 * d' ≤ _; have := hok.2.2.2; omega⟩
  have hS8 : ((S.map (mC base tb)).map fun v => v.category).sum ≤ 8 := by rw [mCatS]; exact h8
  rw [mRevS0 base tb as S T hT]
  refine mRun (va_runS ⟨F.1, F.2.1, F.2.2.1, F.2.2.2.1, F.2.2.2.2.1⟩ (hy l base tb dC dI) ⟨callB_of n F.2.2.2.2.1 (mGoodIn hok) rfl rfl rfl (F.go hok.2.1) (F.go hl) hok.2.2.1 hroom, F.go hst⟩ ⟨mBlind, fun U hU hWU => ⟨rfl, hW' U hU hWU⟩⟩ rfl (by rw [List.length_map]; exact hn) hL.1 rfl (lv_room hS8) (F.dec hd) ⟨by omega, by omega⟩) hS (fun v g' H1 locs1 hq hH1 hS1 => ?_)
  rw [mTailS]
  exact kk v g' hq p l e R s m args below meth c Q base tb dC dI F E H1 locs1 _ _ ls hH1 hS1 hL (by omega) (by omega)
theorem x_callSN (j : Nat) {idx d' mc ms cb' sb' n : Nat} {as : List mV} {T : List mV} {Qc : Option mV → mS → Prop} (y : mM) (hy : mCtr y d' mc ms (as) g Qc) (hd : (mTab M)[j]? = some (pc, .invokestatic idx, 3)) (hok : mOk y n) (hl : Cond.methodLinkNest (mName M).cls idx (mName y) "ChoirBook" ∈ mNest) (hst : Cond.static (mName y) ∈ mGood) (hn : as.length = n) (hdd : d' < d) (hT : T = as.reverse ++ S) (h8 : (S.map mCat).sum ≤ 8) (hcb : cb = cb' + mc) (hsb : sb = sb' + ms)
    (kk : ∀ (v : Option mV) (g' : mS), Qc v g' → mX M d Qa cb' sb' (pc + 3) L (v.toList ++ S) g') : mX M d Qa cb sb pc L T g := by
  intro p l e R s m args below meth c Q base tb dC dI F E H locs cells slots ls hH hS hL hc hs
  subst hcb; subst hsb
  have hWs := F.2.2.2.2.2.2.2.1
  have hfr := F.2.2.2.2.2.1
  have hlo := F.2.2.2.2.2.2.1
  have hW' : ∀ U : State, U.heap = H → s.WarmedH U.vm → mW base tb dC dI g U := fun U hU hWU => ⟨(mWs.moved hWU hWs).kept (fun a ha hna => by rw [hU]; exact hS.2.1 a ha hna), by rw [hU]; exact hH.moved hWU.alike⟩
  have hroom : (mRoom d' mc ms).frames + 1 ≤ R.frames ∧ 8 + (mNL y + 11) + (mRoom d' mc ms).locals ≤ R.locals := ⟨by show d' + 1 ≤ _; omega, by show 8 + (mNL y + 11) + 34 * d' ≤ _; have := hok.2.2.2; omega⟩
  have hS8 : ((S.map (mC base tb)).map fun v => v.category).sum ≤ 8 := by rw [mCatS]; exact h8
  rw [mRevS0 base tb as S T hT]
  refine mRun (va_runSN ⟨F.1, F.2.1, F.2.2.1, F.2.2.2.1, F.2.2.2.2.1⟩ (hy l base tb dC dI) ⟨va_cnB n F.2.2.2.2.1 (mGoodIn hok) rfl rfl rfl (hWs.2.2.1 _ hl) (F.go hok.2.1) hok.2.2.1 hroom, F.go hst, trivial⟩ ⟨mBlind, fun U hU hWU => ⟨rfl, hW' U hU hWU⟩⟩ rfl (by rw [List.length_map]; exact hn) hL.1 rfl (lv_room hS8) (F.dec hd) ⟨by omega, by omega⟩) hS (fun v g' H1 locs1 hq hH1 hS1 => ?_)
  rw [mTailS]
  exact kk v g' hq p l e R s m args below meth c Q base tb dC dI F E H1 locs1 _ _ ls hH1 hS1 hL (by omega) (by omega)
theorem x_callI (j : Nat) {idx d' mc ms cb' sb' n : Nat} {as : List mV} {T : List mV} {Qc : Option mV → mS → Prop} (y : mM) {o : Nat} (hy : mCtr y d' mc ms (vR (some o) :: as) g Qc) (hd : (mTab M)[j]? = some (pc, .invokespecial idx, 3)) (hok : mOk y n) (hret : mRet y = none) (hnm : (mName y).name = "<init>") (hl : Cond.methodLink (mName M).cls idx (mName y) ∈ mGood) (hin : Cond.instanceMethod (mName y) ∈ mGood) (hn : as.length = n) (hdd : d' < d) (hT : T = as.reverse ++ vR (some o) :: S) (h8 : (S.map mCat).sum ≤ 8) (hcb : cb = cb' + mc) (hsb : sb = sb' + ms)
    (kk : ∀ (v : Option mV) (g' : mS), Qc v g' → mX M d Qa cb' sb' (pc + 3) L (v.toList ++ S) g') : mX M d Qa cb sb pc L T g := by
  intro p l e R s m args below meth c Q base tb dC dI F E H locs cells slots ls hH hS hL hc hs
  subst hcb; subst hsb
  have hWs := F.2.2.2.2.2.2.2.1
  have hfr := F.2.2.2.2.2.1
  have hlo := F.2.2.2.2.2.2.1
  have hW' : ∀ U : State, U.heap = H → s.WarmedH U.vm → mW base tb dC dI g U := fun U hU hWU => ⟨(mWs.moved hWU hWs).kept (fun a ha hna => by rw [hU]; exact hS.2.1 a ha hna), by rw [hU]; exact hH.moved hWU.alike⟩
  have hroom : (mRoom d' mc ms).frames + 1 ≤ R.frames ∧ 8 + (mNL y + 11) + (mRoom d' mc ms).locals ≤ R.locals := ⟨by show d' + 1 ≤ _; omega, by show 8 + (mNL y + 11) + 34 * d' ≤ _; have := hok.2.2.2; omega⟩
  have hS8 : ((S.map (mC base tb)).map fun v => v.category).sum ≤ 8 := by rw [mCatS]; exact h8
  rw [mRevS base tb as _ S T hT]
  refine mRun (va_runI ⟨F.1, F.2.1, F.2.2.1, F.2.2.2.1, F.2.2.2.2.1⟩ (hy l base tb dC dI) ⟨hret ▸ callB_of n F.2.2.2.2.1 (mGoodIn hok) rfl rfl rfl (F.go hok.2.1) (F.go hl) hok.2.2.1 hroom, hnm, F.go hin⟩ ⟨mBlind, fun U hU hWU => ⟨rfl, hW' U hU hWU⟩⟩ rfl (by rw [List.length_map]; exact hn) hL.1 rfl (lv_room hS8) (F.dec hd) ⟨by omega, by omega⟩) hS (fun v g' H1 locs1 hq hH1 hS1 => ?_)
  rw [mTailS]
  exact kk v g' hq p l e R s m args below meth c Q base tb dC dI F E H1 locs1 _ _ ls hH1 hS1 hL (by omega) (by omega)
theorem x_callIN (j : Nat) {idx d' mc ms cb' sb' n : Nat} {as : List mV} {T : List mV} {Qc : Option mV → mS → Prop} (y : mM) {o : Nat} (hy : mCtr y d' mc ms (vR (some o) :: as) g Qc) (hd : (mTab M)[j]? = some (pc, .invokespecial idx, 3)) (hok : mOk y n) (hret : mRet y = none) (hnm : (mName y).name = "<init>") (hl : Cond.methodLinkNest (mName M).cls idx (mName y) "ChoirBook" ∈ mNest) (hin : Cond.instanceMethod (mName y) ∈ mGood) (hn : as.length = n) (hdd : d' < d) (hT : T = as.reverse ++ vR (some o) :: S) (h8 : (S.map mCat).sum ≤ 8) (hcb : cb = cb' + mc) (hsb : sb = sb' + ms)
    (kk : ∀ (v : Option mV) (g' : mS), Qc v g' → mX M d Qa cb' sb' (pc + 3) L (v.toList ++ S) g') : mX M d Qa cb sb pc L T g := by
  intro p l e R s m args below meth c Q base tb dC dI F E H locs cells slots ls hH hS hL hc hs
  subst hcb; subst hsb
  have hWs := F.2.2.2.2.2.2.2.1
  have hfr := F.2.2.2.2.2.1
  have hlo := F.2.2.2.2.2.2.1
  have hW' : ∀ U : State, U.heap = H → s.WarmedH U.vm → mW base tb dC dI g U := fun U hU hWU => ⟨(mWs.moved hWU hWs).kept (fun a ha hna => by rw [hU]; exact hS.2.1 a ha hna), by rw [hU]; exact hH.moved hWU.alike⟩
  have hroom : (mRoom d' mc ms).frames + 1 ≤ R.frames ∧ 8 + (mNL y + 11) + (mRoom d' mc ms).locals ≤ R.locals := ⟨by show d' + 1 ≤ _; omega, by show 8 + (mNL y + 11) + 34 * d' ≤ _; have := hok.2.2.2; omega⟩
  have hS8 : ((S.map (mC base tb)).map fun v => v.category).sum ≤ 8 := by rw [mCatS]; exact h8
  rw [mRevS base tb as _ S T hT]
  refine mRun (va_runIN ⟨F.1, F.2.1, F.2.2.1, F.2.2.2.1, F.2.2.2.2.1⟩ (hy l base tb dC dI) ⟨hret ▸ va_cnB n F.2.2.2.2.1 (mGoodIn hok) rfl rfl rfl (hWs.2.2.1 _ hl) (F.go hok.2.1) hok.2.2.1 hroom, hnm, F.go hin⟩ ⟨mBlind, fun U hU hWU => ⟨rfl, hW' U hU hWU⟩⟩ rfl (by rw [List.length_map]; exact hn) hL.1 rfl (lv_room hS8) (F.dec hd) ⟨by omega, by omega⟩) hS (fun v g' H1 locs1 hq hH1 hS1 => ?_)
  rw [mTailS]
  exact kk v g' hq p l e R s m args below meth c Q base tb dC dI F E H1 locs1 _ _ ls hH1 hS1 hL (by omega) (by omega)
theorem x_objInit (j : Nat) {idx o : Nat} (hd : (mTab M)[j]? = some (pc, .invokespecial idx, 3)) (hl : Cond.methodLink (mName M).cls idx Lib.objectInit ∈ mGood) (hd1 : 1 ≤ d) (h8 : (S.map mCat).sum ≤ 8) (kk : mX M d Qa cb sb (pc + 3) L S g) : mX M d Qa cb sb pc L (vR (some o) :: S) g := by
  intro p l e R s m args below meth c Q base tb dC dI F E H locs cells slots ls hH hS hL hc hs
  have hS8 : ((S.map (mC base tb)).map fun v => v.category).sum ≤ 8 := by rw [mCatS]; exact h8
  have hfr := F.2.2.2.2.2.1
  have hlo := F.2.2.2.2.2.2.1
  exact W.objInit F.1 F.2.1 F.2.2.2.1 (F.go hl) (F.go mOiI) (F.go mOiC) rfl (by rw [F.2.2.1]; exact hL.1) rfl (F.dec hd) (by omega) (by show 2 * 0 + _ + 12 ≤ _; omega) (kk p l e R s m args below meth c Q base tb dC dI F E H locs cells slots ls hH hS hL hc hs)
theorem x_mmax (j : Nat) {idx : Nat} {a b r : Int} (hd : (mTab M)[j]? = some (pc, .invokestatic idx, 3)) (hl : Cond.methodLink (mName M).cls idx Lib.Math.max.name ∈ mGood) (hr : -2147483648 ≤ a ∧ a < 2147483648 ∧ -2147483648 ≤ b ∧ b < 2147483648) (hz : max a b = r) (hd1 : 1 ≤ d) (h8 : (S.map mCat).sum ≤ 8) (kk : mX M d Qa cb sb (pc + 3) L (vI r :: S) g) : mX M d Qa cb sb pc L (vI b :: vI a :: S) g := by
  intro p l e R s m args below meth c Q base tb dC dI F E H locs cells slots ls hH hS hL hc hs
  have hS8 : ((S.map (mC base tb)).map fun v => v.category).sum ≤ 8 := by rw [mCatS]; exact h8
  have hfr := F.2.2.2.2.2.1
  have hlo := F.2.2.2.2.2.2.1
  refine va_mmax (x := Int32.ofInt a) (y := Int32.ofInt b) F.1 F.2.1 (by rw [F.2.2.1]; exact hL.1.symm) F.2.2.2.1 (F.go hl) (F.go mMx_max) (F.go mMi) (F.go mMc_max) (by omega) (by omega) (by omega) (by omega) (F.dec hd) ?_
  have ha : mR a := ⟨hr.1, hr.2.1⟩
  have hb : mR b := ⟨hr.2.2.1, hr.2.2.2⟩
  have hv : (if Int32.ofInt a < Int32.ofInt b then Int32.ofInt b else Int32.ofInt a) = Int32.ofInt r := by
    rw [← hz]
    split
    · rename_i h
      have h := (mI_lt ha hb).mp h
      congr 1
      omega
    · rename_i h
      have h := mt (mI_lt ha hb).mpr h
      congr 1
      omega
  rw [hv]
  exact kk p l e R s m args below meth c Q base tb dC dI F E H locs cells slots ls hH hS hL hc hs
theorem x_mmin (j : Nat) {idx : Nat} {a b r : Int} (hd : (mTab M)[j]? = some (pc, .invokestatic idx, 3)) (hl : Cond.methodLink (mName M).cls idx Lib.Math.min.name ∈ mGood) (hr : -2147483648 ≤ a ∧ a < 2147483648 ∧ -2147483648 ≤ b ∧ b < 2147483648) (hz : min a b = r) (hd1 : 1 ≤ d) (h8 : (S.map mCat).sum ≤ 8) (kk : mX M d Qa cb sb (pc + 3) L (vI r :: S) g) : mX M d Qa cb sb pc L (vI b :: vI a :: S) g := by
  intro p l e R s m args below meth c Q base tb dC dI F E H locs cells slots ls hH hS hL hc hs
  have hS8 : ((S.map (mC base tb)).map fun v => v.category).sum ≤ 8 := by rw [mCatS]; exact h8
  have hfr := F.2.2.2.2.2.1
  have hlo := F.2.2.2.2.2.2.1
  refine va_mmin (x := Int32.ofInt a) (y := Int32.ofInt b) F.1 F.2.1 (by rw [F.2.2.1]; exact hL.1.symm) F.2.2.2.1 (F.go hl) (F.go mMx_min) (F.go mMi) (F.go mMc_min) (by omega) (by omega) (by omega) (by omega) (F.dec hd) ?_
  have ha : mR a := ⟨hr.1, hr.2.1⟩
  have hb : mR b := ⟨hr.2.2.1, hr.2.2.2⟩
  have hv : (if Int32.ofInt b < Int32.ofInt a then Int32.ofInt b else Int32.ofInt a) = Int32.ofInt r := by
    rw [← hz]
    split
    · rename_i h
      have h := (mI_lt hb ha).mp h
      congr 1
      omega
    · rename_i h
      have h := mt (mI_lt hb ha).mpr h
      congr 1
      omega
  rw [hv]
  exact kk p l e R s m args below meth c Q base tb dC dI F E H locs cells slots ls hH hS hL hc hs
end MCX
end
section
/-! System.arraycopy of ints from the first place on; the script -/
theorem mAcN : Cond.native arraycopyName ∈ mGood := by decide +kernel
theorem mAcS : Cond.static arraycopyName ∈ mGood := by decide +kernel
theorem mAcI : Cond.initialized "java/lang/System" ∈ mGood := by decide +kernel
theorem mAcW : nativeFrameWords "java/lang/System" "arraycopy" 5 + 11 ≤ 20 := by decide +kernel
def mCp (f : Nat → Int → Int) (o0 o : Nat) (n : Int) : Nat → Int → Int := fun a b => if a = o ∧ 0 ≤ b ∧ b < n then f o0 b else f a b
section MCP
variable {M : mM} {d cb sb pc : Nat} {Qa : Option mV → mS → Prop} {L : List (Option mV)} {S : List mV} {g : mS}
set_option maxHeartbeats 4000000 in
theorem x_copyi (j : Nat) {idx o0 o n0 n1 : Nat} {n : Int} (hd : (mTab M)[j]? = some (pc, .invokestatic idx, 3)) (hl : Cond.methodLink (mName M).cls idx arraycopyName ∈ mGood) (ho0 : o0 < sN g) (hk0 : sK g o0 = .inr (0, n0)) (ho : o < sN g) (hk1 : sK g o = .inr (0, n1)) (hn : 0 ≤ n ∧ n ≤ n0 ∧ n ≤ n1 ∧ n < 2147483648) (hd1 : 1 ≤ d) (h8 : (S.map mCat).sum ≤ 8)
    {g' : mS} (hg : ((sN g, sK g, mCp (sI g) o0 o n, sL g, sR g) : mS) = g') (kk : mX M d Qa cb sb (pc + 3) L S g') : mX M d Qa cb sb pc L (vI n :: vI 0 :: vR (some o) :: vI 0 :: vR (some o0) :: S) g := by
  intro p l e R s m args below meth c Q base tb dC dI F E H locs cells slots ls hH hS hL hc hs
  subst hg
  obtain ⟨n', rfl⟩ : ∃ n' : Nat, n = (n' : Int) := ⟨n.toNat, by omega⟩
  have hS8 : ((S.map (mC base tb)).map fun v => v.category).sum ≤ 8 := by rw [mCatS]; exact h8
  have hfr := F.2.2.2.2.2.1
  have hlo := F.2.2.2.2.2.2.1
  obtain ⟨c0, r1, r2, q0⟩ := hH.arr ho0 hk0
  obtain ⟨c1, s1, s2, q1⟩ := hH.arr ho hk1
  obtain ⟨-, k0, hk0', cm0, hkk0⟩ := r1 n0 (fun k => mVal base 0 g o0 k)
  obtain ⟨-, k1, hk1', cm1, hkk1⟩ := s1 n1 (fun k => mVal base 0 g o k)
  have hnn : (Int32.ofInt (n' : Int)).toNatClampNeg = n' := mI_nat ⟨by omega, hn.2.2.2⟩ (by omega)
  have hz0 : (Int32.ofInt 0).toNatClampNeg = 0 := rfl
  have hni : (Int32.ofInt (n' : Int)).toInt = (n' : Int) := mI_to ⟨by omega, hn.2.2.2⟩
  have hzi : (Int32.ofInt 0).toInt = 0 := rfl
  have hneg : ¬ Int32.ofInt (n' : Int) < 0 := by rw [show (0 : Int32) = Int32.ofInt 0 from rfl, mI_lt ⟨by omega, hn.2.2.2⟩ mR0]; omega
  have hneg0 : ¬ Int32.ofInt 0 < 0 := by decide
  intro T hT X
  obtain ⟨vm', X', step⟩ := X.arraycopy F.1 F.2.2.2.1 (F.go hl) (F.go mAcN) (F.go mAcS) (F.go mAcI) (src := base + o0) (dst := base + o) (cs := arrV c0 n0 (fun k => .int (Int32.ofInt (sI g o0 (k : Int))))) (cd := arrV c1 n1 (fun k => .int (Int32.ofInt (sI g o (k : Int))))) (srcPos := Int32.ofInt 0) (destPos := Int32.ofInt 0) (n := Int32.ofInt (n' : Int)) (by rw [hT]; exact q0) (by rw [hT]; exact q1)
    (fun _ h => by cases h) (fun _ h => by cases h) (fun h => by cases h) (fun h => by cases h) hk0' hk1' hkk0 hkk1 (by rfl) hneg0 hneg0 hneg
    (by rw [hzi, hni, arrV_size]; omega)
    (by rw [hzi, hni, arrV_size]; omega)
    (fun vm₁ _ i hi => by
      rw [hnn] at hi
      have e : (arrV c0 n0 (fun k => .int (Int32.ofInt (sI g o0 (k : Int))))).slots.getD ((Int32.ofInt 0).toNatClampNeg + i) .null = .int (Int32.ofInt (sI g o0 (i : Int))) := by
        rw [hz0, Nat.zero_add, Array.getD_eq_getD_getElem?, arrV_read _ _ (by omega)]
        rfl
      refine ⟨?_, ?_⟩
      · rw [e]
        rfl
      · rw [e]
        exact trivial)
    (g := F0 m pc ls ((vI (n' : Int) :: vI 0 :: vR (some o) :: vI 0 :: vR (some o0) :: S).map (mC base tb))) rfl (by rw [F.2.2.1]; exact hL.1) (rest := S.map (mC base tb)) rfl (by rw [F.2.1]; exact F.dec hd) (by omega) (by show 2 * 0 + _ + _ ≤ _; have := mAcW; omega)
  have e1 : copied (arrV c0 n0 (fun k => .int (Int32.ofInt (sI g o0 (k : Int))))) (arrV c1 n1 (fun k => .int (Int32.ofInt (sI g o (k : Int))))) (Int32.ofInt 0) (Int32.ofInt 0) (Int32.ofInt (n' : Int)) = arrV c1 n1 (fun k => .int (va_cpy (fun k : Nat => Int32.ofInt (sI g o0 (k : Int))) (fun k : Nat => Int32.ofInt (sI g o (k : Int))) 0 0 n' k)) := by
    have := va_copied (fun z => Value.int z) c0 c1 (sp := 0) (dp := 0) (n := n') (n0 := n0) (n1 := n1) (fun k : Nat => Int32.ofInt (sI g o0 (k : Int))) (fun k : Nat => Int32.ofInt (sI g o (k : Int))) (by omega)
    unfold copied
    rw [hnn, hz0]
    exact this
  rw [e1] at X' step
  have hl1 : base + o < H.size := hH.lt ho
  generalize hcell : arrV c1 n1 (fun k => Value.int (va_cpy (fun k : Nat => Int32.ofInt (sI g o0 (k : Int))) (fun k : Nat => Int32.ofInt (sI g o (k : Int))) 0 0 n' k)) = cell at X' step
  have hheap : ((T.setVm vm').setCell (base + o) cell).heap = H.setIfInBounds (base + o) cell := by rw [← hT]; rfl
  have oq : ∀ q : Nat, q ≠ base + o → (H.setIfInBounds (base + o) cell)[q]? = H[q]? := fun q hq => by simp [Array.getElem?_setIfInBounds, Ne.symm hq]
  have e2 : (H.setIfInBounds (base + o) cell)[base + o]? = some cell := by simp [Array.getElem?_setIfInBounds, hl1]
  have hHp : mHp base dC dI s ((sN g, sK g, mCp (sI g) o0 o (n' : Int), sL g, sR g) : mS) (H.setIfInBounds (base + o) cell) := by
    refine ⟨by simp; exact hH.1, fun a ha => ?_⟩
    by_cases hao : a = o
    · subst hao
      unfold mCell
      have hk2 : sK ((sN g, sK g, mCp (sI g) o0 a (n' : Int), sL g, sR g) : mS) a = .inr (0, n1) := hk1
      rw [hk2]
      refine ⟨c1, s1, s2, ?_⟩
      rw [e2, ← hcell]
      congr 2
      funext k
      show _ = mVal base 0 _ _ _
      rw [mVal0]
      simp only [sI, mCp, va_cpy, mI, Nat.zero_le, true_and, Nat.zero_add, Nat.sub_zero]
      by_cases hkn : k < n'
      · rw [if_pos hkn, if_pos ⟨by omega, by omega⟩]
      · rw [if_neg hkn, if_neg (by omega)]
    · refine (hH.2 a ha).kept rfl (oq _ (by omega)) (fun bs cc b => ?_)
      match cc with
      | 0 => rw [mVal0, mVal0]; simp only [sI, mCp]; rw [if_neg (fun q => hao q.1)]
      | 1 => rfl
      | cc + 2 => rfl
  obtain ⟨t, a1, b1⟩ := kk p l e R s m args below meth c Q base tb dC dI F E (H.setIfInBounds (base + o) cell) _ cells slots ls hHp ⟨by simp; exact hS.1, fun q g1 g2 => by
      rw [oq q (fun e => g2 (by rw [e]; exact Nat.le_add_right _ _))]
      exact hS.2.1 q g1 g2, fun q hq => by
      rcases List.mem_append.mp hq with h | h
      · exact hS.2.2 q h
      · obtain ⟨z, -, hz⟩ := List.mem_map.mp h
        rw [← hz]
        exact Nat.le_add_right _ _⟩ hL hc hs _ hheap X'
  exact ⟨t, step t a1, b1⟩
theorem x_sld (j : Nat) {q : Nat × (Nat → Int32)} {i z : Int} (hsc : mScr M = some q) (hd : (mTab M)[j]? = some (pc, .iaload, 1)) (hi : 0 ≤ i ∧ i < q.1 ∧ i < 2147483648) (hz : (q.2 i.toNat).toInt = z) (kk : mX M d Qa cb sb (pc + 1) L (vI z :: S) g) : mX M d Qa cb sb pc L (vI i :: vT 4 :: S) g := by
  intro p l e R s m args below meth c Q base tb dC dI F E H locs cells slots ls hH hS hL hc hs
  have hX := F.2.2.2.2.2.2.2.2.2.2.2 q hsc
  have hin := mI_in (n := q.1) hi.1 hi.2.1 ⟨by omega, hi.2.2⟩
  have hnn := mI_nat (a := i) ⟨by omega, hi.2.2⟩ hi.1
  refine va_sld (i := Int32.ofInt i) F.1 F.2.1 hX.1 hX.2.1 hX.2.2 hS hin (F.dec hd) ?_
  rw [hnn, ← mI_of (q.2 i.toNat), hz]
  exact kk p l e R s m args below meth c Q base tb dC dI F E H locs cells slots ls hH hS hL hc hs
theorem x_slen (j : Nat) {q : Nat × (Nat → Int32)} (hsc : mScr M = some q) (hd : (mTab M)[j]? = some (pc, .arraylength, 1)) (kk : mX M d Qa cb sb (pc + 1) L (vI (q.1 : Int) :: S) g) : mX M d Qa cb sb pc L (vT 4 :: S) g := by
  intro p l e R s m args below meth c Q base tb dC dI F E H locs cells slots ls hH hS hL hc hs
  have hX := F.2.2.2.2.2.2.2.2.2.2.2 q hsc
  exact va_slen F.1 F.2.1 hX.1 hX.2.1 hX.2.2 hS (F.dec hd) (kk p l e R s m args below meth c Q base tb dC dI F E H locs cells slots ls hH hS hL hc hs)
end MCP
end
section
/-! the methods, and what the tables say of their fields and calls: by program -/
theorem mInD {w : Cond} (h : w ∈ lw_tbl) (g : goodWord w = true) : w ∈ mGood := List.mem_filter.mpr ⟨h, g⟩
def m_X0_init : mM := (yX0_init, cX0_init, 2, none, tb_X0_init, none)
def m_X0_copyFrom : mM := (yX0_copyFrom, cX0_copyFrom, 3, none, tb_X0_copyFrom, none)
def m_X0_has : mM := (yX0_has, cX0_has, 2, (some .boolean), tb_X0_has, none)
def m_X0_join : mM := (yX0_join, cX0_join, 3, none, tb_X0_join, none)
def m_X0_dismiss : mM := (yX0_dismiss, cX0_dismiss, 3, none, tb_X0_dismiss, none)
def m_X0_fits : mM := (yX0_fits, cX0_fits, 3, (some .boolean), tb_X0_fits, none)
def m_X0_fittingParts : mM := (yX0_fittingParts, cX0_fittingParts, 4, (some .int), tb_X0_fittingParts, none)
def m_X0_placed : mM := (yX0_placed, cX0_placed, 3, (some .int), tb_X0_placed, none)
def m_X0_absent : mM := (yX0_absent, cX0_absent, 3, (some .int), tb_X0_absent, none)
def m_X0_members : mM := (yX0_members, cX0_members, 4, (some .int), tb_X0_members, none)
def m_X0_strength : mM := (yX0_strength, cX0_strength, 4, (some .int), tb_X0_strength, none)
def m_X0_strengthPresent : mM := (yX0_strengthPresent, cX0_strengthPresent, 5, (some .int), tb_X0_strengthPresent, none)
def m_X0_covers : mM := (yX0_covers, cX0_covers, 2, (some .boolean), tb_X0_covers, none)
def m_X0_coveredParts : mM := (yX0_coveredParts, cX0_coveredParts, 3, (some .int), tb_X0_coveredParts, none)
def m_X0_rested : mM := (yX0_rested, cX0_rested, 2, (some .boolean), tb_X0_rested, none)
def m_X0_width : mM := (yX0_width, cX0_width, 1, (some .int), tb_X0_width, none)
def m_X0_rows : mM := (yX0_rows, cX0_rows, 2, (some .int), tb_X0_rows, none)
def m_X0_rowsBefore : mM := (yX0_rowsBefore, cX0_rowsBefore, 4, (some .int), tb_X0_rowsBefore, none)
def m_X0_seatedBefore : mM := (yX0_seatedBefore, cX0_seatedBefore, 6, (some .int), tb_X0_seatedBefore, none)
def m_X1_init : mM := (yX1_init, cX1_init, 2, none, tb_X1_init, none)
def m_X1_record : mM := (yX1_record, cX1_record, 2, none, tb_X1_record, none)
def m_X1_restore : mM := (yX1_restore, cX1_restore, 2, none, tb_X1_restore, none)
def m_X2_init : mM := (yX2_init, cX2_init, 1, none, tb_X2_init, none)
def m_X2_weigh : mM := (yX2_weigh, cX2_weigh, 5, none, tb_X2_weigh, none)
def m_X2_addVoice : mM := (yX2_addVoice, cX2_addVoice, 6, none, tb_X2_addVoice, none)
def m_X2_weighPairs : mM := (yX2_weighPairs, cX2_weighPairs, 7, none, tb_X2_weighPairs, none)
def m_X2_choose : mM := (yX2_choose, cX2_choose, 3, none, tb_X2_choose, none)
def m_X2_firstGoodPart : mM := (yX2_firstGoodPart, cX2_firstGoodPart, 3, (some .int), tb_X2_firstGoodPart, none)
def m_X2_canFinish : mM := (yX2_canFinish, cX2_canFinish, 6, (some .boolean), tb_X2_canFinish, none)
def m_X2_pairCanReach : mM := (yX2_pairCanReach, cX2_pairCanReach, 6, (some .boolean), tb_X2_pairCanReach, none)
def m_X3_init : mM := (yX3_init, cX3_init, 1, none, tb_X3_init, none)
def m_X3_readTests : mM := (yX3_readTests, cX3_readTests, 3, (some .boolean), tb_X3_readTests, none)
def m_X3_readAbsent : mM := (yX3_readAbsent, cX3_readAbsent, 3, (some .boolean), tb_X3_readAbsent, none)
def m_X3_read : mM := (yX3_read, cX3_read, 3, (some .boolean), tb_X3_read, none)
def m_X3_take : mM := (yX3_take, cX3_take, 4, (some .boolean), tb_X3_take, none)
def m_X3_inNumber : mM := (yX3_inNumber, cX3_inNumber, 1, (some .boolean), tb_X3_inNumber, none)
def m_X3_beginNumber : mM := (yX3_beginNumber, cX3_beginNumber, 3, none, tb_X3_beginNumber, none)
def m_X3_takeDigit : mM := (yX3_takeDigit, cX3_takeDigit, 3, (some .boolean), tb_X3_takeDigit, none)
def m_X3_takeBehindNumber : mM := (yX3_takeBehindNumber, cX3_takeBehindNumber, 3, (some .boolean), tb_X3_takeBehindNumber, none)
def m_X3_end : mM := (yX3_end, cX3_end, 2, (some .boolean), tb_X3_end, none)
def m_X3_numberStands : mM := (yX3_numberStands, cX3_numberStands, 1, (some .boolean), tb_X3_numberStands, none)
def m_X3_closeWord : mM := (yX3_closeWord, cX3_closeWord, 5, none, tb_X3_closeWord, none)
def m_X3_fail : mM := (yX3_fail, cX3_fail, 3, (some .boolean), tb_X3_fail, none)
def m_X4_init : mM := (yX4_init, cX4_init, 1, none, tb_X4_init, none)
def m_X4_plan : mM := (yX4_plan, cX4_plan, 3, none, tb_X4_plan, none)
def m_X4_findStandIns : mM := (yX4_findStandIns, cX4_findStandIns, 5, none, tb_X4_findStandIns, none)
def m_X4_canStandIn : mM := (yX4_canStandIn, cX4_canStandIn, 5, (some .boolean), tb_X4_canStandIn, none)
def m_X4_findSoloist : mM := (yX4_findSoloist, cX4_findSoloist, 7, (some .int), tb_X4_findSoloist, none)
def m_X4_happen : mM := (yX4_happen, cX4_happen, 4, (some .int), tb_X4_happen, none)
def m_X5_init : mM := (yX5_init, cX5_init, 1, none, tb_X5_init, none)
def m_X5_begin : mM := (yX5_begin, cX5_begin, 3, none, tb_X5_begin, none)
def m_X5_copyFrom : mM := (yX5_copyFrom, cX5_copyFrom, 2, none, tb_X5_copyFrom, none)
def m_X5_learn : mM := (yX5_learn, cX5_learn, 7, none, tb_X5_learn, none)
def m_X5_notesIn : mM := (yX5_notesIn, cX5_notesIn, 4, (some .int), tb_X5_notesIn, none)
def m_X5_sitsBefore : mM := (yX5_sitsBefore, cX5_sitsBefore, 3, (some .boolean), tb_X5_sitsBefore, none)
def m_X5_singsBefore : mM := (yX5_singsBefore, cX5_singsBefore, 2, (some .boolean), tb_X5_singsBefore, none)
def m_X6_init : mM := (yX6_init, cX6_init, 1, none, tb_X6_init, none)
def m_X6_addVoice : mM := (yX6_addVoice, cX6_addVoice, 11, none, tb_X6_addVoice, none)
def m_X6_evenest : mM := (yX6_evenest, cX6_evenest, 4, (some .int), tb_X6_evenest, none)
def m_X6_gives : mM := (yX6_gives, cX6_gives, 3, (some .boolean), tb_X6_gives, none)
def m_X6_reaches : mM := (yX6_reaches, cX6_reaches, 4, (some .boolean), tb_X6_reaches, none)
def m_X6_bits : mM := (yX6_bits, cX6_bits, 4, (some .long), tb_X6_bits, none)
def m_X7_init : mM := (yX7_init, cX7_init, 1, none, tb_X7_init, none)
def m_X8_init : mM := (yX8_init, cX8_init, 2, none, tb_X8_init, none)
def m_X8_add : mM := (yX8_add, cX8_add, 3, (some .int), tb_X8_add, none)
def m_X8_remove : mM := (yX8_remove, cX8_remove, 2, (some .int), tb_X8_remove, none)
def m_X8_set : mM := (yX8_set, cX8_set, 4, (some .int), tb_X8_set, none)
def m_X8_test : mM := (yX8_test, cX8_test, 3, (some .int), tb_X8_test, none)
def m_X8_place : mM := (yX8_place, cX8_place, 4, (some .int), tb_X8_place, none)
def m_X8_placeAll : mM := (yX8_placeAll, cX8_placeAll, 1, (some .int), tb_X8_placeAll, none)
def m_X8_attendance : mM := (yX8_attendance, cX8_attendance, 2, (some .int), tb_X8_attendance, none)
def m_X8_hold : mM := (yX8_hold, cX8_hold, 1, (some .int), tb_X8_hold, none)
def m_X8_undo : mM := (yX8_undo, cX8_undo, 1, (some .int), tb_X8_undo, none)
def m_X8_write : mM := (yX8_write, cX8_write, 2, (some .int), tb_X8_write, none)
def m_X8_wipe : mM := (yX8_wipe, cX8_wipe, 2, (some .int), tb_X8_wipe, none)
def m_X8_told : mM := (yX8_told, cX8_told, 2, (some .int), tb_X8_told, none)
def m_X8_setting : mM := (yX8_setting, cX8_setting, 2, (some .int), tb_X8_setting, none)
def m_X8_singer : mM := (yX8_singer, cX8_singer, 4, (some .int), tb_X8_singer, none)
def m_X8_note : mM := (yX8_note, cX8_note, 4, (some .int), tb_X8_note, none)
def m_X8_overlap : mM := (yX8_overlap, cX8_overlap, 3, (some .int), tb_X8_overlap, none)
def m_X8_part : mM := (yX8_part, cX8_part, 3, (some .int), tb_X8_part, none)
def m_X8_seat : mM := (yX8_seat, cX8_seat, 6, (some .int), tb_X8_seat, none)
def m_X8_solo : mM := (yX8_solo, cX8_solo, 3, (some .int), tb_X8_solo, none)
def m_X8_mean : mM := (yX8_mean, cX8_mean, 3, (some .float), tb_X8_mean, none)
def m_X8_standIn : mM := (yX8_standIn, cX8_standIn, 2, (some .int), tb_X8_standIn, none)
def m_X8_passedOver : mM := (yX8_passedOver, cX8_passedOver, 3, (some .int), tb_X8_passedOver, none)
def m_X8_without : mM := (yX8_without, cX8_without, 2, (some .int), tb_X8_without, none)
def m_X8_keep : mM := (yX8_keep, cX8_keep, 2, (some .int), tb_X8_keep, none)
def m_X8_back : mM := (yX8_back, cX8_back, 2, (some .int), tb_X8_back, none)
def m_X8_isSetting : mM := (yX8_isSetting, cX8_isSetting, 1, (some .boolean), tb_X8_isSetting, none)
def m_X8_isPart : mM := (yX8_isPart, cX8_isPart, 1, (some .boolean), tb_X8_isPart, none)
def m_X8_isImage : mM := (yX8_isImage, cX8_isImage, 1, (some .boolean), tb_X8_isImage, none)
def m_X8_contains : mM := (yX8_contains, cX8_contains, 3, (some .boolean), tb_X8_contains, none)
def m_L_low : mM := (yL_low, cL_low, 2, (some .int), tb_L_low, none)
def m_L_number : mM := (yL_number, cL_number, 3, (some .int), tb_L_number, none)
def m_L_test : mM := (yL_test, cL_test, 9, (some .int), tb_L_test, none)
def m_L_attendance : mM := (yL_attendance, cL_attendance, 5, (some .int), tb_L_attendance, none)
def m_L_change : mM := (yL_change, cL_change, 5, (some .int), tb_L_change, none)
def m_L_isRange : mM := (yL_isRange, cL_isRange, 14, (some .boolean), tb_L_isRange, none)
def m_L_areParts : mM := (yL_areParts, cL_areParts, 15, (some .boolean), tb_L_areParts, none)
def m_L_isHeld : mM := (yL_isHeld, cL_isHeld, 12, (some .boolean), tb_L_isHeld, none)
def m_L_areAlike : mM := (yL_areAlike, cL_areAlike, 5, (some .boolean), tb_L_areAlike, none)
def m_L_cell (q : Nat × (Nat → Int32)) : mM := (yL_cell, cL_cell, 2, (some .int), tb_L_cell, some q)
def m_L_law (q : Nat × (Nat → Int32)) : mM := (yL_law, cL_law, 9, some .boolean, tb_L_law, some q)
theorem fl_X0_11 : mFL RX0 11 0 0 := ⟨_, rfl, by decide, mInD lt_fl_X0_11 rfl⟩
theorem fl_X0_18 : mFL RX0 18 0 1 := ⟨_, rfl, by decide, mInD lt_fl_X0_18 rfl⟩
theorem fl_X0_25 : mFL RX0 25 0 2 := ⟨_, rfl, by decide, mInD lt_fl_X0_25 rfl⟩
theorem fl_X0_28 : mFL RX0 28 0 3 := ⟨_, rfl, by decide, mInD lt_fl_X0_28 rfl⟩
theorem fl_X5_9 : mFL RX5 9 5 0 := ⟨_, rfl, by decide, mInD lt_fl_X5_9 rfl⟩
theorem fl_X5_15 : mFL RX5 15 5 1 := ⟨_, rfl, by decide, mInD lt_fl_X5_15 rfl⟩
theorem fl_X5_38 : mFL RX5 38 5 2 := ⟨_, rfl, by decide, mInD lt_fl_X5_38 rfl⟩
theorem fl_X5_42 : mFL RX5 42 5 3 := ⟨_, rfl, by decide, mInD lt_fl_X5_42 rfl⟩
theorem fl_X5_45 : mFL RX5 45 5 4 := ⟨_, rfl, by decide, mInD lt_fl_X5_45 rfl⟩
theorem fl_X5_48 : mFL RX5 48 5 5 := ⟨_, rfl, by decide, mInD lt_fl_X5_48 rfl⟩
theorem fl_X5_22 : mFL RX5 22 5 6 := ⟨_, rfl, by decide, mInD lt_fl_X5_22 rfl⟩
theorem fl_X5_25 : mFL RX5 25 5 7 := ⟨_, rfl, by decide, mInD lt_fl_X5_25 rfl⟩
theorem fl_X5_29 : mFL RX5 29 5 8 := ⟨_, rfl, by decide, mInD lt_fl_X5_29 rfl⟩
theorem fl_X5_32 : mFL RX5 32 5 9 := ⟨_, rfl, by decide, mInD lt_fl_X5_32 rfl⟩
theorem fl_X5_35 : mFL RX5 35 5 10 := ⟨_, rfl, by decide, mInD lt_fl_X5_35 rfl⟩
theorem fl_X0_31 : mFL RX0 31 0 4 := ⟨_, rfl, by decide, mInD lt_fl_X0_31 rfl⟩
theorem fl_X0_45 : mFL RX0 45 0 5 := ⟨_, rfl, by decide, mInD lt_fl_X0_45 rfl⟩
theorem fl_X0_48 : mFL RX0 48 0 6 := ⟨_, rfl, by decide, mInD lt_fl_X0_48 rfl⟩
theorem fl_X0_51 : mFL RX0 51 0 7 := ⟨_, rfl, by decide, mInD lt_fl_X0_51 rfl⟩
theorem fl_X0_73 : mFL RX0 73 5 6 := ⟨_, rfl, by decide, mInD lt_fl_X0_73 rfl⟩
theorem fl_X0_69 : mFL RX0 69 5 7 := ⟨_, rfl, by decide, mInD lt_fl_X0_69 rfl⟩
theorem fl_X0_76 : mFL RX0 76 5 0 := ⟨_, rfl, by decide, mInD lt_fl_X0_76 rfl⟩
theorem fl_X0_86 : mFL RX0 86 5 9 := ⟨_, rfl, by decide, mInD lt_fl_X0_86 rfl⟩
theorem fl_X1_11 : mFL RX1 11 1 0 := ⟨_, rfl, by decide, mInD lt_fl_X1_11 rfl⟩
theorem fl_X1_18 : mFL RX1 18 1 1 := ⟨_, rfl, by decide, mInD lt_fl_X1_18 rfl⟩
theorem fl_X1_22 : mFL RX1 22 1 2 := ⟨_, rfl, by decide, mInD lt_fl_X1_22 rfl⟩
theorem fl_X6_9 : mFL RX6 9 6 0 := ⟨_, rfl, by decide, mInD lt_fl_X6_9 rfl⟩
theorem fl_X6_15 : mFL RX6 15 6 1 := ⟨_, rfl, by decide, mInD lt_fl_X6_15 rfl⟩
theorem fl_X2_12 : mFL RX2 12 2 0 := ⟨_, rfl, by decide, mInD lt_fl_X2_12 rfl⟩
theorem fl_X2_18 : mFL RX2 18 2 1 := ⟨_, rfl, by decide, mInD lt_fl_X2_18 rfl⟩
theorem fl_X2_21 : mFL RX2 21 2 2 := ⟨_, rfl, by decide, mInD lt_fl_X2_21 rfl⟩
theorem fl_X2_25 : mFL RX2 25 2 3 := ⟨_, rfl, by decide, mInD lt_fl_X2_25 rfl⟩
theorem fl_X2_28 : mFL RX2 28 2 4 := ⟨_, rfl, by decide, mInD lt_fl_X2_28 rfl⟩
theorem fl_X2_31 : mFL RX2 31 2 5 := ⟨_, rfl, by decide, mInD lt_fl_X2_31 rfl⟩
theorem fl_X2_34 : mFL RX2 34 2 6 := ⟨_, rfl, by decide, mInD lt_fl_X2_34 rfl⟩
theorem fl_X2_37 : mFL RX2 37 2 7 := ⟨_, rfl, by decide, mInD lt_fl_X2_37 rfl⟩
theorem fl_X2_62 : mFL RX2 62 2 8 := ⟨_, rfl, by decide, mInD lt_fl_X2_62 rfl⟩
theorem fl_X2_65 : mFL RX2 65 2 9 := ⟨_, rfl, by decide, mInD lt_fl_X2_65 rfl⟩
theorem fl_X2_41 : mFL RX2 41 0 4 := ⟨_, rfl, by decide, mInD lt_fl_X2_41 rfl⟩
theorem fl_X2_50 : mFL RX2 50 0 0 := ⟨_, rfl, by decide, mInD lt_fl_X2_50 rfl⟩
theorem fl_X2_54 : mFL RX2 54 5 0 := ⟨_, rfl, by decide, mInD lt_fl_X2_54 rfl⟩
theorem fl_X2_91 : mFL RX2 91 5 6 := ⟨_, rfl, by decide, mInD lt_fl_X2_91 rfl⟩
theorem fl_X3_9 : mFL RX3 9 3 2 := ⟨_, rfl, by decide, mInD lt_fl_X3_9 rfl⟩
theorem fl_X3_15 : mFL RX3 15 3 3 := ⟨_, rfl, by decide, mInD lt_fl_X3_15 rfl⟩
theorem fl_X3_42 : mFL RX3 42 3 6 := ⟨_, rfl, by decide, mInD lt_fl_X3_42 rfl⟩
theorem fl_X3_82 : mFL RX3 82 3 8 := ⟨_, rfl, by decide, mInD lt_fl_X3_82 rfl⟩
theorem fl_X3_79 : mFL RX3 79 3 7 := ⟨_, rfl, by decide, mInD lt_fl_X3_79 rfl⟩
theorem fl_X3_31 : mFL RX3 31 3 4 := ⟨_, rfl, by decide, mInD lt_fl_X3_31 rfl⟩
theorem fl_X3_95 : mFL RX3 95 3 10 := ⟨_, rfl, by decide, mInD lt_fl_X3_95 rfl⟩
theorem fl_X3_24 : mFL RX3 24 3 0 := ⟨_, rfl, by decide, mInD lt_fl_X3_24 rfl⟩
theorem fl_X3_30 : mFL RX3 30 3 1 := ⟨_, rfl, by decide, mInD lt_fl_X3_30 rfl⟩
theorem fl_X3_85 : mFL RX3 85 3 9 := ⟨_, rfl, by decide, mInD lt_fl_X3_85 rfl⟩
theorem fl_X3_34 : mFL RX3 34 3 5 := ⟨_, rfl, by decide, mInD lt_fl_X3_34 rfl⟩
theorem fl_X3_45 : mFL RX3 45 7 1 := ⟨_, rfl, by decide, mInD lt_fl_X3_45 rfl⟩
theorem fl_X3_50 : mFL RX3 50 7 0 := ⟨_, rfl, by decide, mInD lt_fl_X3_50 rfl⟩
theorem fl_X3_18 : mFL RX3 18 5 2 := ⟨_, rfl, by decide, mInD lt_fl_X3_18 rfl⟩
theorem fl_X3_27 : mFL RX3 27 5 3 := ⟨_, rfl, by decide, mInD lt_fl_X3_27 rfl⟩
theorem fl_X4_9 : mFL RX4 9 4 0 := ⟨_, rfl, by decide, mInD lt_fl_X4_9 rfl⟩
theorem fl_X4_15 : mFL RX4 15 4 1 := ⟨_, rfl, by decide, mInD lt_fl_X4_15 rfl⟩
theorem fl_X4_18 : mFL RX4 18 4 2 := ⟨_, rfl, by decide, mInD lt_fl_X4_18 rfl⟩
theorem fl_X4_47 : mFL RX4 47 0 0 := ⟨_, rfl, by decide, mInD lt_fl_X4_47 rfl⟩
theorem fl_X4_58 : mFL RX4 58 5 7 := ⟨_, rfl, by decide, mInD lt_fl_X4_58 rfl⟩
theorem fl_X4_51 : mFL RX4 51 5 6 := ⟨_, rfl, by decide, mInD lt_fl_X4_51 rfl⟩
theorem fl_X4_56 : mFL RX4 56 5 0 := ⟨_, rfl, by decide, mInD lt_fl_X4_56 rfl⟩
theorem fl_X4_35 : mFL RX4 35 0 4 := ⟨_, rfl, by decide, mInD lt_fl_X4_35 rfl⟩
theorem fl_X4_76 : mFL RX4 76 0 3 := ⟨_, rfl, by decide, mInD lt_fl_X4_76 rfl⟩
theorem fl_X4_79 : mFL RX4 79 0 2 := ⟨_, rfl, by decide, mInD lt_fl_X4_79 rfl⟩
theorem fl_X4_82 : mFL RX4 82 0 5 := ⟨_, rfl, by decide, mInD lt_fl_X4_82 rfl⟩
theorem fl_X4_85 : mFL RX4 85 5 8 := ⟨_, rfl, by decide, mInD lt_fl_X4_85 rfl⟩
theorem fl_X4_88 : mFL RX4 88 5 9 := ⟨_, rfl, by decide, mInD lt_fl_X4_88 rfl⟩
theorem fl_X4_91 : mFL RX4 91 0 6 := ⟨_, rfl, by decide, mInD lt_fl_X4_91 rfl⟩
theorem fl_X4_92 : mFL RX4 92 5 10 := ⟨_, rfl, by decide, mInD lt_fl_X4_92 rfl⟩
theorem fl_X4_95 : mFL RX4 95 0 7 := ⟨_, rfl, by decide, mInD lt_fl_X4_95 rfl⟩
theorem fl_X7_9 : mFL RX7 9 7 0 := ⟨_, rfl, by decide, mInD lt_fl_X7_9 rfl⟩
theorem fl_X8_10 : mFL RX8 10 8 0 := ⟨_, rfl, by decide, mInD lt_fl_X8_10 rfl⟩
theorem fl_X8_19 : mFL RX8 19 8 1 := ⟨_, rfl, by decide, mInD lt_fl_X8_19 rfl⟩
theorem fl_X8_23 : mFL RX8 23 8 2 := ⟨_, rfl, by decide, mInD lt_fl_X8_23 rfl⟩
theorem fl_X8_27 : mFL RX8 27 8 3 := ⟨_, rfl, by decide, mInD lt_fl_X8_27 rfl⟩
theorem fl_X8_34 : mFL RX8 34 8 4 := ⟨_, rfl, by decide, mInD lt_fl_X8_34 rfl⟩
theorem fl_X8_41 : mFL RX8 41 8 5 := ⟨_, rfl, by decide, mInD lt_fl_X8_41 rfl⟩
theorem fl_X8_48 : mFL RX8 48 8 6 := ⟨_, rfl, by decide, mInD lt_fl_X8_48 rfl⟩
theorem fl_X8_55 : mFL RX8 55 8 7 := ⟨_, rfl, by decide, mInD lt_fl_X8_55 rfl⟩
theorem fl_X8_59 : mFL RX8 59 0 4 := ⟨_, rfl, by decide, mInD lt_fl_X8_59 rfl⟩
theorem fs_X8_82 : Cond.fieldLink RX8 82 "ChoirBook" "SETTING_LEAST" "[I" ∈ mGood := mInD lt_fs_X8_82 rfl
theorem fs_X8_86 : Cond.fieldLink RX8 86 "ChoirBook" "SETTING_MOST" "[I" ∈ mGood := mInD lt_fs_X8_86 rfl
theorem fl_X8_89 : mFL RX8 89 0 1 := ⟨_, rfl, by decide, mInD lt_fl_X8_89 rfl⟩
theorem fl_X8_92 : mFL RX8 92 0 0 := ⟨_, rfl, by decide, mInD lt_fl_X8_92 rfl⟩
theorem fl_X8_100 : mFL RX8 100 3 0 := ⟨_, rfl, by decide, mInD lt_fl_X8_100 rfl⟩
theorem fl_X8_104 : mFL RX8 104 3 1 := ⟨_, rfl, by decide, mInD lt_fl_X8_104 rfl⟩
theorem fl_X8_113 : mFL RX8 113 5 5 := ⟨_, rfl, by decide, mInD lt_fl_X8_113 rfl⟩
theorem fl_X8_123 : mFL RX8 123 5 6 := ⟨_, rfl, by decide, mInD lt_fl_X8_123 rfl⟩
theorem fl_X8_133 : mFL RX8 133 2 8 := ⟨_, rfl, by decide, mInD lt_fl_X8_133 rfl⟩
theorem fl_X8_144 : mFL RX8 144 5 7 := ⟨_, rfl, by decide, mInD lt_fl_X8_144 rfl⟩
theorem fl_X8_152 : mFL RX8 152 0 5 := ⟨_, rfl, by decide, mInD lt_fl_X8_152 rfl⟩
theorem fl_X8_162 : mFL RX8 162 1 2 := ⟨_, rfl, by decide, mInD lt_fl_X8_162 rfl⟩
theorem fl_X8_168 : mFL RX8 168 7 1 := ⟨_, rfl, by decide, mInD lt_fl_X8_168 rfl⟩
theorem fl_X8_171 : mFL RX8 171 7 0 := ⟨_, rfl, by decide, mInD lt_fl_X8_171 rfl⟩
theorem fl_X8_186 : mFL RX8 186 0 6 := ⟨_, rfl, by decide, mInD lt_fl_X8_186 rfl⟩
theorem fl_X8_189 : mFL RX8 189 0 7 := ⟨_, rfl, by decide, mInD lt_fl_X8_189 rfl⟩
theorem fl_X8_192 : mFL RX8 192 5 0 := ⟨_, rfl, by decide, mInD lt_fl_X8_192 rfl⟩
theorem fl_X8_195 : mFL RX8 195 5 1 := ⟨_, rfl, by decide, mInD lt_fl_X8_195 rfl⟩
theorem fl_X8_198 : mFL RX8 198 5 4 := ⟨_, rfl, by decide, mInD lt_fl_X8_198 rfl⟩
theorem fl_X8_205 : mFL RX8 205 5 8 := ⟨_, rfl, by decide, mInD lt_fl_X8_205 rfl⟩
theorem fl_X8_206 : mFL RX8 206 5 9 := ⟨_, rfl, by decide, mInD lt_fl_X8_206 rfl⟩
theorem fl_X8_209 : mFL RX8 209 5 10 := ⟨_, rfl, by decide, mInD lt_fl_X8_209 rfl⟩
theorem fl_X8_210 : mFL RX8 210 5 2 := ⟨_, rfl, by decide, mInD lt_fl_X8_210 rfl⟩
theorem fl_X8_213 : mFL RX8 213 5 3 := ⟨_, rfl, by decide, mInD lt_fl_X8_213 rfl⟩
theorem fl_X8_225 : mFL RX8 225 0 3 := ⟨_, rfl, by decide, mInD lt_fl_X8_225 rfl⟩
theorem fl_X8_231 : mFL RX8 231 4 2 := ⟨_, rfl, by decide, mInD lt_fl_X8_231 rfl⟩
theorem fl_X8_243 : mFL RX8 243 0 2 := ⟨_, rfl, by decide, mInD lt_fl_X8_243 rfl⟩
theorem fl_X8_247 : mFL RX8 247 4 0 := ⟨_, rfl, by decide, mInD lt_fl_X8_247 rfl⟩
theorem ml_X5_3 : Cond.methodLink RX5 3 Lib.objectInit ∈ mGood := mInD lt_ml_X5_3 rfl
theorem ml_X0_3 : Cond.methodLink RX0 3 Lib.objectInit ∈ mGood := mInD lt_ml_X0_3 rfl
theorem ml_X0_39 : Cond.methodLink RX0 39 arraycopyName ∈ mGood := mInD lt_ml_X0_39 rfl
theorem ml_X0_35 : Cond.methodLink RX0 35 yX5_copyFrom ∈ mGood := mInD lt_ml_X0_35 rfl
theorem ml_X5_18 : Cond.methodLink RX5 18 yX5_learn ∈ mGood := mInD lt_ml_X5_18 rfl
theorem ml_X0_54 : Cond.methodLink RX0 54 yX5_begin ∈ mGood := mInD lt_ml_X0_54 rfl
theorem ml_X5_59 : Cond.methodLink RX5 59 Lib.Math.max.name ∈ mGood := mInD lt_ml_X5_59 rfl
theorem ml_X5_65 : Cond.methodLink RX5 65 Lib.Math.min.name ∈ mGood := mInD lt_ml_X5_65 rfl
theorem ml_X0_58 : Cond.methodLink RX0 58 yX5_notesIn ∈ mGood := mInD lt_ml_X0_58 rfl
theorem ml_X0_62 : Cond.methodLink RX0 62 yX0_fits ∈ mGood := mInD lt_ml_X0_62 rfl
theorem ml_X0_66 : Cond.methodLink RX0 66 yX0_members ∈ mGood := mInD lt_ml_X0_66 rfl
theorem ml_X0_79 : Cond.methodLink RX0 79 yX0_strengthPresent ∈ mGood := mInD lt_ml_X0_79 rfl
theorem ml_X0_82 : Cond.methodLink RX0 82 yX0_covers ∈ mGood := mInD lt_ml_X0_82 rfl
theorem ml_X0_89 : Cond.methodLink RX0 89 Lib.Math.max.name ∈ mGood := mInD lt_ml_X0_89 rfl
theorem ml_X0_95 : Cond.methodLink RX0 95 yX0_width ∈ mGood := mInD lt_ml_X0_95 rfl
theorem ml_X0_99 : Cond.methodLink RX0 99 yX0_rows ∈ mGood := mInD lt_ml_X0_99 rfl
theorem ml_X0_102 : Cond.methodLink RX0 102 yX5_sitsBefore ∈ mGood := mInD lt_ml_X0_102 rfl
theorem ml_X1_3 : Cond.methodLink RX1 3 Lib.objectInit ∈ mGood := mInD lt_ml_X1_3 rfl
theorem ml_X1_17 : Cond.methodLink RX1 17 yX0_init ∈ mGood := mInD lt_ml_X1_17 rfl
theorem ml_X1_25 : Cond.methodLink RX1 25 yX0_copyFrom ∈ mGood := mInD lt_ml_X1_25 rfl
theorem ml_X6_3 : Cond.methodLink RX6 3 Lib.objectInit ∈ mGood := mInD lt_ml_X6_3 rfl
theorem ml_X2_3 : Cond.methodLink RX2 3 Lib.objectInit ∈ mGood := mInD lt_ml_X2_3 rfl
theorem ml_X2_11 : Cond.methodLink RX2 11 yX6_init ∈ mGood := mInD lt_ml_X2_11 rfl
theorem ml_X2_76 : Cond.methodLink RX2 76 yX6_addVoice ∈ mGood := mInD lt_ml_X2_76 rfl
theorem ml_X6_18 : Cond.methodLink RX6 18 yX6_gives ∈ mGood := mInD lt_ml_X6_18 rfl
theorem ml_X2_83 : Cond.methodLink RX2 83 Lib.Math.min.name ∈ mGood := mInD lt_ml_X2_83 rfl
theorem ml_X2_88 : Cond.methodLink RX2 88 Lib.Math.max.name ∈ mGood := mInD lt_ml_X2_88 rfl
theorem ml_X2_79 : Cond.methodLink RX2 79 yX6_evenest ∈ mGood := mInD lt_ml_X2_79 rfl
theorem ml_X2_46 : Cond.methodLink RX2 46 yX0_fittingParts ∈ mGood := mInD lt_ml_X2_46 rfl
theorem ml_X2_58 : Cond.methodLink RX2 58 yX2_addVoice ∈ mGood := mInD lt_ml_X2_58 rfl
theorem ml_X2_68 : Cond.methodLink RX2 68 yX2_weighPairs ∈ mGood := mInD lt_ml_X2_68 rfl
theorem ml_X6_26 : Cond.methodLink RX6 26 yX6_bits ∈ mGood := mInD lt_ml_X6_26 rfl
theorem ml_X2_105 : Cond.methodLink RX2 105 yX6_reaches ∈ mGood := mInD lt_ml_X2_105 rfl
theorem ml_X2_101 : Cond.methodLink RX2 101 yX2_pairCanReach ∈ mGood := mInD lt_ml_X2_101 rfl
theorem ml_X2_97 : Cond.methodLink RX2 97 yX2_canFinish ∈ mGood := mInD lt_ml_X2_97 rfl
theorem ml_X2_94 : Cond.methodLink RX2 94 yX2_firstGoodPart ∈ mGood := mInD lt_ml_X2_94 rfl
theorem ml_X3_3 : Cond.methodLink RX3 3 Lib.objectInit ∈ mGood := mInD lt_ml_X3_3 rfl
theorem ml_X3_76 : Cond.methodLink RX3 76 yX3_fail ∈ mGood := mInD lt_ml_X3_76 rfl
theorem ml_X3_88 : Cond.methodLink RX3 88 yX3_numberStands ∈ mGood := mInD lt_ml_X3_88 rfl
theorem ml_X3_91 : Cond.methodLink RX3 91 yX3_closeWord ∈ mGood := mInD lt_ml_X3_91 rfl
theorem ml_X3_62 : Cond.methodLink RX3 62 yX3_inNumber ∈ mGood := mInD lt_ml_X3_62 rfl
theorem ml_X3_66 : Cond.methodLink RX3 66 yX3_takeDigit ∈ mGood := mInD lt_ml_X3_66 rfl
theorem ml_X3_69 : Cond.methodLink RX3 69 yX3_takeBehindNumber ∈ mGood := mInD lt_ml_X3_69 rfl
theorem ml_X3_72 : Cond.methodLink RX3 72 yX3_beginNumber ∈ mGood := mInD lt_ml_X3_72 rfl
theorem ml_X3_54 : Cond.methodLink RX3 54 yX3_take ∈ mGood := mInD lt_ml_X3_54 rfl
theorem ml_X3_58 : Cond.methodLink RX3 58 yX3_end ∈ mGood := mInD lt_ml_X3_58 rfl
theorem ml_X3_38 : Cond.methodLink RX3 38 yX3_read ∈ mGood := mInD lt_ml_X3_38 rfl
theorem ml_X4_3 : Cond.methodLink RX4 3 Lib.objectInit ∈ mGood := mInD lt_ml_X4_3 rfl
theorem ml_X4_65 : Cond.methodLink RX4 65 yX0_fits ∈ mGood := mInD lt_ml_X4_65 rfl
theorem ml_X4_39 : Cond.methodLink RX4 39 yX0_covers ∈ mGood := mInD lt_ml_X4_39 rfl
theorem ml_X4_43 : Cond.methodLink RX4 43 yX4_canStandIn ∈ mGood := mInD lt_ml_X4_43 rfl
theorem ml_X4_69 : Cond.methodLink RX4 69 yX0_rested ∈ mGood := mInD lt_ml_X4_69 rfl
theorem ml_X4_73 : Cond.methodLink RX4 73 yX5_singsBefore ∈ mGood := mInD lt_ml_X4_73 rfl
theorem ml_X4_21 : Cond.methodLink RX4 21 yX0_strengthPresent ∈ mGood := mInD lt_ml_X4_21 rfl
theorem ml_X4_27 : Cond.methodLink RX4 27 yX4_findStandIns ∈ mGood := mInD lt_ml_X4_27 rfl
theorem ml_X4_31 : Cond.methodLink RX4 31 yX4_findSoloist ∈ mGood := mInD lt_ml_X4_31 rfl
theorem ml_X7_3 : Cond.methodLink RX7 3 Lib.objectInit ∈ mGood := mInD lt_ml_X7_3 rfl
theorem ml_X8_1 : Cond.methodLink RX8 1 Lib.objectInit ∈ mGood := mInD lt_ml_X8_1 rfl
theorem ml_X8_9 : Cond.methodLink RX8 9 yX0_init ∈ mGood := mInD lt_ml_X8_9 rfl
theorem ml_X8_18 : Cond.methodLink RX8 18 yX1_init ∈ mGood := mInD lt_ml_X8_18 rfl
theorem ml_X8_33 : Cond.methodLink RX8 33 yX7_init ∈ mGood := mInD lt_ml_X8_33 rfl
theorem ml_X8_40 : Cond.methodLink RX8 40 yX3_init ∈ mGood := mInD lt_ml_X8_40 rfl
theorem ml_X8_47 : Cond.methodLink RX8 47 yX4_init ∈ mGood := mInD lt_ml_X8_47 rfl
theorem ml_X8_54 : Cond.methodLink RX8 54 yX2_init ∈ mGood := mInD lt_ml_X8_54 rfl
theorem ml_X8_63 : Cond.methodLink RX8 63 yX1_record ∈ mGood := mInD lt_ml_X8_63 rfl
theorem ml_X8_67 : Cond.methodLink RX8 67 yX0_join ∈ mGood := mInD lt_ml_X8_67 rfl
theorem ml_X8_71 : Cond.methodLink RX8 71 yX0_has ∈ mGood := mInD lt_ml_X8_71 rfl
theorem ml_X8_75 : Cond.methodLink RX8 75 yX0_dismiss ∈ mGood := mInD lt_ml_X8_75 rfl
theorem ml_X8_79 : Cond.methodLink RX8 79 yX8_isSetting ∈ mGood := mInD lt_ml_X8_79 rfl
theorem ml_X8_96 : Cond.methodLink RX8 96 yX3_readTests ∈ mGood := mInD lt_ml_X8_96 rfl
theorem ml_X8_107 : Cond.methodLink RX8 107 yX5_learn ∈ mGood := mInD lt_ml_X8_107 rfl
theorem ml_X8_116 : Cond.methodLink RX8 116 yX8_isPart ∈ mGood := mInD lt_ml_X8_116 rfl
theorem ml_X8_119 : Cond.methodLink RX8 119 yX0_fits ∈ mGood := mInD lt_ml_X8_119 rfl
theorem ml_X8_126 : Cond.methodLink RX8 126 yX2_weigh ∈ mGood := mInD lt_ml_X8_126 rfl
theorem ml_X8_130 : Cond.methodLink RX8 130 yX2_choose ∈ mGood := mInD lt_ml_X8_130 rfl
theorem ml_X8_136 : Cond.methodLink RX8 136 yX3_readAbsent ∈ mGood := mInD lt_ml_X8_136 rfl
theorem ml_X8_140 : Cond.methodLink RX8 140 yX8_contains ∈ mGood := mInD lt_ml_X8_140 rfl
theorem ml_X8_148 : Cond.methodLink RX8 148 yX0_absent ∈ mGood := mInD lt_ml_X8_148 rfl
theorem ml_X8_155 : Cond.methodLink RX8 155 yX4_plan ∈ mGood := mInD lt_ml_X8_155 rfl
theorem ml_X8_158 : Cond.methodLink RX8 158 yX4_happen ∈ mGood := mInD lt_ml_X8_158 rfl
theorem ml_X8_165 : Cond.methodLink RX8 165 yX1_restore ∈ mGood := mInD lt_ml_X8_165 rfl
theorem ml_X8_180 : Cond.methodLink RX8 180 yX0_placed ∈ mGood := mInD lt_ml_X8_180 rfl
theorem ml_X8_183 : Cond.methodLink RX8 183 yX0_coveredParts ∈ mGood := mInD lt_ml_X8_183 rfl
theorem ml_X8_201 : Cond.methodLink RX8 201 yX0_fittingParts ∈ mGood := mInD lt_ml_X8_201 rfl
theorem ml_X8_214 : Cond.methodLink RX8 214 yX5_notesIn ∈ mGood := mInD lt_ml_X8_214 rfl
theorem ml_X8_217 : Cond.methodLink RX8 217 yX0_members ∈ mGood := mInD lt_ml_X8_217 rfl
theorem ml_X8_220 : Cond.methodLink RX8 220 yX0_strength ∈ mGood := mInD lt_ml_X8_220 rfl
theorem ml_X8_222 : Cond.methodLink RX8 222 yX0_strengthPresent ∈ mGood := mInD lt_ml_X8_222 rfl
theorem ml_X8_228 : Cond.methodLink RX8 228 yX0_rows ∈ mGood := mInD lt_ml_X8_228 rfl
theorem ml_X8_234 : Cond.methodLink RX8 234 yX0_seatedBefore ∈ mGood := mInD lt_ml_X8_234 rfl
theorem ml_X8_237 : Cond.methodLink RX8 237 yX0_rowsBefore ∈ mGood := mInD lt_ml_X8_237 rfl
theorem ml_X8_240 : Cond.methodLink RX8 240 yX0_width ∈ mGood := mInD lt_ml_X8_240 rfl
theorem ml_X8_250 : Cond.methodLink RX8 250 yX0_rested ∈ mGood := mInD lt_ml_X8_250 rfl
theorem ml_X8_254 : Cond.methodLink RX8 254 yX8_isImage ∈ mGood := mInD lt_ml_X8_254 rfl
theorem ml_X8_257 : Cond.methodLink RX8 257 yX0_copyFrom ∈ mGood := mInD lt_ml_X8_257 rfl
theorem ml_L_9 : Cond.methodLink RL 9 yX8_write ∈ mGood := mInD lt_ml_L_9 rfl
theorem ml_L_15 : Cond.methodLink RL 15 yX8_wipe ∈ mGood := mInD lt_ml_L_15 rfl
theorem ml_L_19 : Cond.methodLink RL 19 yL_low ∈ mGood := mInD lt_ml_L_19 rfl
theorem ml_L_25 : Cond.methodLink RL 25 yL_number ∈ mGood := mInD lt_ml_L_25 rfl
theorem ml_L_29 : Cond.methodLink RL 29 yX8_test ∈ mGood := mInD lt_ml_L_29 rfl
theorem ml_L_32 : Cond.methodLink RL 32 yX8_told ∈ mGood := mInD lt_ml_L_32 rfl
theorem ml_L_35 : Cond.methodLink RL 35 yX8_attendance ∈ mGood := mInD lt_ml_L_35 rfl
theorem ml_L_38 : Cond.methodLink RL 38 yX8_add ∈ mGood := mInD lt_ml_L_38 rfl
theorem ml_L_41 : Cond.methodLink RL 41 yX8_hold ∈ mGood := mInD lt_ml_L_41 rfl
theorem ml_L_44 : Cond.methodLink RL 44 yX8_remove ∈ mGood := mInD lt_ml_L_44 rfl
theorem ml_L_47 : Cond.methodLink RL 47 yX8_set ∈ mGood := mInD lt_ml_L_47 rfl
theorem ml_L_50 : Cond.methodLink RL 50 yL_test ∈ mGood := mInD lt_ml_L_50 rfl
theorem ml_L_53 : Cond.methodLink RL 53 yX8_place ∈ mGood := mInD lt_ml_L_53 rfl
theorem ml_L_56 : Cond.methodLink RL 56 yX8_placeAll ∈ mGood := mInD lt_ml_L_56 rfl
theorem ml_L_59 : Cond.methodLink RL 59 yL_attendance ∈ mGood := mInD lt_ml_L_59 rfl
theorem ml_L_61 : Cond.methodLink RL 61 yX8_undo ∈ mGood := mInD lt_ml_L_61 rfl
theorem ml_L_64 : Cond.methodLink RL 64 yX8_keep ∈ mGood := mInD lt_ml_L_64 rfl
theorem ml_L_67 : Cond.methodLink RL 67 yX8_back ∈ mGood := mInD lt_ml_L_67 rfl
theorem ml_L_70 : Cond.methodLink RL 70 yX8_singer ∈ mGood := mInD lt_ml_L_70 rfl
theorem ml_L_73 : Cond.methodLink RL 73 yX8_note ∈ mGood := mInD lt_ml_L_73 rfl
theorem ml_L_76 : Cond.methodLink RL 76 yX8_overlap ∈ mGood := mInD lt_ml_L_76 rfl
theorem ml_L_79 : Cond.methodLink RL 79 yX8_setting ∈ mGood := mInD lt_ml_L_79 rfl
theorem ml_L_82 : Cond.methodLink RL 82 yX8_seat ∈ mGood := mInD lt_ml_L_82 rfl
theorem ml_L_85 : Cond.methodLink RL 85 yX8_part ∈ mGood := mInD lt_ml_L_85 rfl
theorem ml_L_88 : Cond.methodLink RL 88 yX8_mean ∈ mGood := mInD lt_ml_L_88 rfl
theorem ml_L_93 : Cond.methodLink RL 93 yX8_passedOver ∈ mGood := mInD lt_ml_L_93 rfl
theorem ml_L_96 : Cond.methodLink RL 96 yX8_standIn ∈ mGood := mInD lt_ml_L_96 rfl
theorem ml_L_99 : Cond.methodLink RL 99 yX8_solo ∈ mGood := mInD lt_ml_L_99 rfl
theorem ml_L_102 : Cond.methodLink RL 102 yX8_without ∈ mGood := mInD lt_ml_L_102 rfl
theorem ml_L_105 : Cond.methodLink RL 105 yX8_init ∈ mGood := mInD lt_ml_L_105 rfl
theorem ml_L_106 : Cond.methodLink RL 106 yL_cell ∈ mGood := mInD lt_ml_L_106 rfl
theorem ml_L_110 : Cond.methodLink RL 110 yL_change ∈ mGood := mInD lt_ml_L_110 rfl
theorem ml_L_114 : Cond.methodLink RL 114 yL_isRange ∈ mGood := mInD lt_ml_L_114 rfl
theorem ml_L_118 : Cond.methodLink RL 118 yL_areParts ∈ mGood := mInD lt_ml_L_118 rfl
theorem ml_L_122 : Cond.methodLink RL 122 yL_isHeld ∈ mGood := mInD lt_ml_L_122 rfl
theorem ml_L_125 : Cond.methodLink RL 125 yL_areAlike ∈ mGood := mInD lt_ml_L_125 rfl
theorem st_L_areAlike : Cond.static yL_areAlike ∈ mGood := mInD lt_st_L_areAlike rfl
theorem st_L_areParts : Cond.static yL_areParts ∈ mGood := mInD lt_st_L_areParts rfl
theorem st_L_attendance : Cond.static yL_attendance ∈ mGood := mInD lt_st_L_attendance rfl
theorem st_L_cell : Cond.static yL_cell ∈ mGood := mInD lt_st_L_cell rfl
theorem st_L_change : Cond.static yL_change ∈ mGood := mInD lt_st_L_change rfl
theorem st_L_isHeld : Cond.static yL_isHeld ∈ mGood := mInD lt_st_L_isHeld rfl
theorem st_L_isRange : Cond.static yL_isRange ∈ mGood := mInD lt_st_L_isRange rfl
theorem st_L_low : Cond.static yL_low ∈ mGood := mInD lt_st_L_low rfl
theorem st_L_number : Cond.static yL_number ∈ mGood := mInD lt_st_L_number rfl
theorem st_L_test : Cond.static yL_test ∈ mGood := mInD lt_st_L_test rfl
theorem st_X6_bits : Cond.static yX6_bits ∈ mGood := mInD lt_st_X6_bits rfl
theorem st_X8_contains : Cond.static yX8_contains ∈ mGood := mInD lt_st_X8_contains rfl
theorem st_X8_isImage : Cond.static yX8_isImage ∈ mGood := mInD lt_st_X8_isImage rfl
theorem st_X8_isPart : Cond.static yX8_isPart ∈ mGood := mInD lt_st_X8_isPart rfl
theorem st_X8_isSetting : Cond.static yX8_isSetting ∈ mGood := mInD lt_st_X8_isSetting rfl
theorem im_X0_absent : Cond.instanceMethod yX0_absent ∈ mGood := mInD lt_im_X0_absent rfl
theorem im_X0_copyFrom : Cond.instanceMethod yX0_copyFrom ∈ mGood := mInD lt_im_X0_copyFrom rfl
theorem im_X0_coveredParts : Cond.instanceMethod yX0_coveredParts ∈ mGood := mInD lt_im_X0_coveredParts rfl
theorem im_X0_covers : Cond.instanceMethod yX0_covers ∈ mGood := mInD lt_im_X0_covers rfl
theorem im_X0_dismiss : Cond.instanceMethod yX0_dismiss ∈ mGood := mInD lt_im_X0_dismiss rfl
theorem im_X0_fits : Cond.instanceMethod yX0_fits ∈ mGood := mInD lt_im_X0_fits rfl
theorem im_X0_fittingParts : Cond.instanceMethod yX0_fittingParts ∈ mGood := mInD lt_im_X0_fittingParts rfl
theorem im_X0_has : Cond.instanceMethod yX0_has ∈ mGood := mInD lt_im_X0_has rfl
theorem im_X0_init : Cond.instanceMethod yX0_init ∈ mGood := mInD lt_im_X0_init rfl
theorem im_X0_join : Cond.instanceMethod yX0_join ∈ mGood := mInD lt_im_X0_join rfl
theorem im_X0_members : Cond.instanceMethod yX0_members ∈ mGood := mInD lt_im_X0_members rfl
theorem im_X0_placed : Cond.instanceMethod yX0_placed ∈ mGood := mInD lt_im_X0_placed rfl
theorem im_X0_rested : Cond.instanceMethod yX0_rested ∈ mGood := mInD lt_im_X0_rested rfl
theorem im_X0_rows : Cond.instanceMethod yX0_rows ∈ mGood := mInD lt_im_X0_rows rfl
theorem im_X0_rowsBefore : Cond.instanceMethod yX0_rowsBefore ∈ mGood := mInD lt_im_X0_rowsBefore rfl
theorem im_X0_seatedBefore : Cond.instanceMethod yX0_seatedBefore ∈ mGood := mInD lt_im_X0_seatedBefore rfl
theorem im_X0_strength : Cond.instanceMethod yX0_strength ∈ mGood := mInD lt_im_X0_strength rfl
theorem im_X0_strengthPresent : Cond.instanceMethod yX0_strengthPresent ∈ mGood := mInD lt_im_X0_strengthPresent rfl
theorem im_X0_width : Cond.instanceMethod yX0_width ∈ mGood := mInD lt_im_X0_width rfl
theorem im_X1_init : Cond.instanceMethod yX1_init ∈ mGood := mInD lt_im_X1_init rfl
theorem im_X1_record : Cond.instanceMethod yX1_record ∈ mGood := mInD lt_im_X1_record rfl
theorem im_X1_restore : Cond.instanceMethod yX1_restore ∈ mGood := mInD lt_im_X1_restore rfl
theorem im_X2_addVoice : Cond.instanceMethod yX2_addVoice ∈ mGood := mInD lt_im_X2_addVoice rfl
theorem im_X2_canFinish : Cond.instanceMethod yX2_canFinish ∈ mGood := mInD lt_im_X2_canFinish rfl
theorem im_X2_choose : Cond.instanceMethod yX2_choose ∈ mGood := mInD lt_im_X2_choose rfl
theorem im_X2_firstGoodPart : Cond.instanceMethod yX2_firstGoodPart ∈ mGood := mInD lt_im_X2_firstGoodPart rfl
theorem im_X2_init : Cond.instanceMethod yX2_init ∈ mGood := mInD lt_im_X2_init rfl
theorem im_X2_pairCanReach : Cond.instanceMethod yX2_pairCanReach ∈ mGood := mInD lt_im_X2_pairCanReach rfl
theorem im_X2_weigh : Cond.instanceMethod yX2_weigh ∈ mGood := mInD lt_im_X2_weigh rfl
theorem im_X2_weighPairs : Cond.instanceMethod yX2_weighPairs ∈ mGood := mInD lt_im_X2_weighPairs rfl
theorem im_X3_beginNumber : Cond.instanceMethod yX3_beginNumber ∈ mGood := mInD lt_im_X3_beginNumber rfl
theorem im_X3_closeWord : Cond.instanceMethod yX3_closeWord ∈ mGood := mInD lt_im_X3_closeWord rfl
theorem im_X3_end : Cond.instanceMethod yX3_end ∈ mGood := mInD lt_im_X3_end rfl
theorem im_X3_fail : Cond.instanceMethod yX3_fail ∈ mGood := mInD lt_im_X3_fail rfl
theorem im_X3_inNumber : Cond.instanceMethod yX3_inNumber ∈ mGood := mInD lt_im_X3_inNumber rfl
theorem im_X3_init : Cond.instanceMethod yX3_init ∈ mGood := mInD lt_im_X3_init rfl
theorem im_X3_numberStands : Cond.instanceMethod yX3_numberStands ∈ mGood := mInD lt_im_X3_numberStands rfl
theorem im_X3_read : Cond.instanceMethod yX3_read ∈ mGood := mInD lt_im_X3_read rfl
theorem im_X3_readAbsent : Cond.instanceMethod yX3_readAbsent ∈ mGood := mInD lt_im_X3_readAbsent rfl
theorem im_X3_readTests : Cond.instanceMethod yX3_readTests ∈ mGood := mInD lt_im_X3_readTests rfl
theorem im_X3_take : Cond.instanceMethod yX3_take ∈ mGood := mInD lt_im_X3_take rfl
theorem im_X3_takeBehindNumber : Cond.instanceMethod yX3_takeBehindNumber ∈ mGood := mInD lt_im_X3_takeBehindNumber rfl
theorem im_X3_takeDigit : Cond.instanceMethod yX3_takeDigit ∈ mGood := mInD lt_im_X3_takeDigit rfl
theorem im_X4_canStandIn : Cond.instanceMethod yX4_canStandIn ∈ mGood := mInD lt_im_X4_canStandIn rfl
theorem im_X4_findSoloist : Cond.instanceMethod yX4_findSoloist ∈ mGood := mInD lt_im_X4_findSoloist rfl
theorem im_X4_findStandIns : Cond.instanceMethod yX4_findStandIns ∈ mGood := mInD lt_im_X4_findStandIns rfl
theorem im_X4_happen : Cond.instanceMethod yX4_happen ∈ mGood := mInD lt_im_X4_happen rfl
theorem im_X4_init : Cond.instanceMethod yX4_init ∈ mGood := mInD lt_im_X4_init rfl
theorem im_X4_plan : Cond.instanceMethod yX4_plan ∈ mGood := mInD lt_im_X4_plan rfl
theorem im_X5_begin : Cond.instanceMethod yX5_begin ∈ mGood := mInD lt_im_X5_begin rfl
theorem im_X5_copyFrom : Cond.instanceMethod yX5_copyFrom ∈ mGood := mInD lt_im_X5_copyFrom rfl
theorem im_X5_init : Cond.instanceMethod yX5_init ∈ mGood := mInD lt_im_X5_init rfl
theorem im_X5_learn : Cond.instanceMethod yX5_learn ∈ mGood := mInD lt_im_X5_learn rfl
theorem im_X5_notesIn : Cond.instanceMethod yX5_notesIn ∈ mGood := mInD lt_im_X5_notesIn rfl
theorem im_X5_singsBefore : Cond.instanceMethod yX5_singsBefore ∈ mGood := mInD lt_im_X5_singsBefore rfl
theorem im_X5_sitsBefore : Cond.instanceMethod yX5_sitsBefore ∈ mGood := mInD lt_im_X5_sitsBefore rfl
theorem im_X6_addVoice : Cond.instanceMethod yX6_addVoice ∈ mGood := mInD lt_im_X6_addVoice rfl
theorem im_X6_evenest : Cond.instanceMethod yX6_evenest ∈ mGood := mInD lt_im_X6_evenest rfl
theorem im_X6_gives : Cond.instanceMethod yX6_gives ∈ mGood := mInD lt_im_X6_gives rfl
theorem im_X6_init : Cond.instanceMethod yX6_init ∈ mGood := mInD lt_im_X6_init rfl
theorem im_X6_reaches : Cond.instanceMethod yX6_reaches ∈ mGood := mInD lt_im_X6_reaches rfl
theorem im_X7_init : Cond.instanceMethod yX7_init ∈ mGood := mInD lt_im_X7_init rfl
theorem im_X8_add : Cond.instanceMethod yX8_add ∈ mGood := mInD lt_im_X8_add rfl
theorem im_X8_attendance : Cond.instanceMethod yX8_attendance ∈ mGood := mInD lt_im_X8_attendance rfl
theorem im_X8_back : Cond.instanceMethod yX8_back ∈ mGood := mInD lt_im_X8_back rfl
theorem im_X8_hold : Cond.instanceMethod yX8_hold ∈ mGood := mInD lt_im_X8_hold rfl
theorem im_X8_init : Cond.instanceMethod yX8_init ∈ mGood := mInD lt_im_X8_init rfl
theorem im_X8_keep : Cond.instanceMethod yX8_keep ∈ mGood := mInD lt_im_X8_keep rfl
theorem im_X8_mean : Cond.instanceMethod yX8_mean ∈ mGood := mInD lt_im_X8_mean rfl
theorem im_X8_note : Cond.instanceMethod yX8_note ∈ mGood := mInD lt_im_X8_note rfl
theorem im_X8_overlap : Cond.instanceMethod yX8_overlap ∈ mGood := mInD lt_im_X8_overlap rfl
theorem im_X8_part : Cond.instanceMethod yX8_part ∈ mGood := mInD lt_im_X8_part rfl
theorem im_X8_passedOver : Cond.instanceMethod yX8_passedOver ∈ mGood := mInD lt_im_X8_passedOver rfl
theorem im_X8_place : Cond.instanceMethod yX8_place ∈ mGood := mInD lt_im_X8_place rfl
theorem im_X8_placeAll : Cond.instanceMethod yX8_placeAll ∈ mGood := mInD lt_im_X8_placeAll rfl
theorem im_X8_remove : Cond.instanceMethod yX8_remove ∈ mGood := mInD lt_im_X8_remove rfl
theorem im_X8_seat : Cond.instanceMethod yX8_seat ∈ mGood := mInD lt_im_X8_seat rfl
theorem im_X8_set : Cond.instanceMethod yX8_set ∈ mGood := mInD lt_im_X8_set rfl
theorem im_X8_setting : Cond.instanceMethod yX8_setting ∈ mGood := mInD lt_im_X8_setting rfl
theorem im_X8_singer : Cond.instanceMethod yX8_singer ∈ mGood := mInD lt_im_X8_singer rfl
theorem im_X8_solo : Cond.instanceMethod yX8_solo ∈ mGood := mInD lt_im_X8_solo rfl
theorem im_X8_standIn : Cond.instanceMethod yX8_standIn ∈ mGood := mInD lt_im_X8_standIn rfl
theorem im_X8_test : Cond.instanceMethod yX8_test ∈ mGood := mInD lt_im_X8_test rfl
theorem im_X8_told : Cond.instanceMethod yX8_told ∈ mGood := mInD lt_im_X8_told rfl
theorem im_X8_undo : Cond.instanceMethod yX8_undo ∈ mGood := mInD lt_im_X8_undo rfl
theorem im_X8_wipe : Cond.instanceMethod yX8_wipe ∈ mGood := mInD lt_im_X8_wipe rfl
theorem im_X8_without : Cond.instanceMethod yX8_without ∈ mGood := mInD lt_im_X8_without rfl
theorem im_X8_write : Cond.instanceMethod yX8_write ∈ mGood := mInD lt_im_X8_write rfl
theorem se_X0_absent : Cond.selects (mName m_X0_absent).cls yX0_absent yX0_absent ∈ mGood := mInD lt_se_X0_absent rfl
theorem se_X0_copyFrom : Cond.selects (mName m_X0_copyFrom).cls yX0_copyFrom yX0_copyFrom ∈ mGood := mInD lt_se_X0_copyFrom rfl
theorem se_X0_coveredParts : Cond.selects (mName m_X0_coveredParts).cls yX0_coveredParts yX0_coveredParts ∈ mGood := mInD lt_se_X0_coveredParts rfl
theorem se_X0_covers : Cond.selects (mName m_X0_covers).cls yX0_covers yX0_covers ∈ mGood := mInD lt_se_X0_covers rfl
theorem se_X0_dismiss : Cond.selects (mName m_X0_dismiss).cls yX0_dismiss yX0_dismiss ∈ mGood := mInD lt_se_X0_dismiss rfl
theorem se_X0_fits : Cond.selects (mName m_X0_fits).cls yX0_fits yX0_fits ∈ mGood := mInD lt_se_X0_fits rfl
theorem se_X0_fittingParts : Cond.selects (mName m_X0_fittingParts).cls yX0_fittingParts yX0_fittingParts ∈ mGood := mInD lt_se_X0_fittingParts rfl
theorem se_X0_has : Cond.selects (mName m_X0_has).cls yX0_has yX0_has ∈ mGood := mInD lt_se_X0_has rfl
theorem se_X0_join : Cond.selects (mName m_X0_join).cls yX0_join yX0_join ∈ mGood := mInD lt_se_X0_join rfl
theorem se_X0_members : Cond.selects (mName m_X0_members).cls yX0_members yX0_members ∈ mGood := mInD lt_se_X0_members rfl
theorem se_X0_placed : Cond.selects (mName m_X0_placed).cls yX0_placed yX0_placed ∈ mGood := mInD lt_se_X0_placed rfl
theorem se_X0_rested : Cond.selects (mName m_X0_rested).cls yX0_rested yX0_rested ∈ mGood := mInD lt_se_X0_rested rfl
theorem se_X0_rows : Cond.selects (mName m_X0_rows).cls yX0_rows yX0_rows ∈ mGood := mInD lt_se_X0_rows rfl
theorem se_X0_rowsBefore : Cond.selects (mName m_X0_rowsBefore).cls yX0_rowsBefore yX0_rowsBefore ∈ mGood := mInD lt_se_X0_rowsBefore rfl
theorem se_X0_seatedBefore : Cond.selects (mName m_X0_seatedBefore).cls yX0_seatedBefore yX0_seatedBefore ∈ mGood := mInD lt_se_X0_seatedBefore rfl
theorem se_X0_strength : Cond.selects (mName m_X0_strength).cls yX0_strength yX0_strength ∈ mGood := mInD lt_se_X0_strength rfl
theorem se_X0_strengthPresent : Cond.selects (mName m_X0_strengthPresent).cls yX0_strengthPresent yX0_strengthPresent ∈ mGood := mInD lt_se_X0_strengthPresent rfl
theorem se_X0_width : Cond.selects (mName m_X0_width).cls yX0_width yX0_width ∈ mGood := mInD lt_se_X0_width rfl
theorem se_X1_record : Cond.selects (mName m_X1_record).cls yX1_record yX1_record ∈ mGood := mInD lt_se_X1_record rfl
theorem se_X1_restore : Cond.selects (mName m_X1_restore).cls yX1_restore yX1_restore ∈ mGood := mInD lt_se_X1_restore rfl
theorem se_X2_addVoice : Cond.selects (mName m_X2_addVoice).cls yX2_addVoice yX2_addVoice ∈ mGood := mInD lt_se_X2_addVoice rfl
theorem se_X2_canFinish : Cond.selects (mName m_X2_canFinish).cls yX2_canFinish yX2_canFinish ∈ mGood := mInD lt_se_X2_canFinish rfl
theorem se_X2_choose : Cond.selects (mName m_X2_choose).cls yX2_choose yX2_choose ∈ mGood := mInD lt_se_X2_choose rfl
theorem se_X2_firstGoodPart : Cond.selects (mName m_X2_firstGoodPart).cls yX2_firstGoodPart yX2_firstGoodPart ∈ mGood := mInD lt_se_X2_firstGoodPart rfl
theorem se_X2_pairCanReach : Cond.selects (mName m_X2_pairCanReach).cls yX2_pairCanReach yX2_pairCanReach ∈ mGood := mInD lt_se_X2_pairCanReach rfl
theorem se_X2_weigh : Cond.selects (mName m_X2_weigh).cls yX2_weigh yX2_weigh ∈ mGood := mInD lt_se_X2_weigh rfl
theorem se_X2_weighPairs : Cond.selects (mName m_X2_weighPairs).cls yX2_weighPairs yX2_weighPairs ∈ mGood := mInD lt_se_X2_weighPairs rfl
theorem se_X3_beginNumber : Cond.selects (mName m_X3_beginNumber).cls yX3_beginNumber yX3_beginNumber ∈ mGood := mInD lt_se_X3_beginNumber rfl
theorem se_X3_closeWord : Cond.selects (mName m_X3_closeWord).cls yX3_closeWord yX3_closeWord ∈ mGood := mInD lt_se_X3_closeWord rfl
theorem se_X3_end : Cond.selects (mName m_X3_end).cls yX3_end yX3_end ∈ mGood := mInD lt_se_X3_end rfl
theorem se_X3_fail : Cond.selects (mName m_X3_fail).cls yX3_fail yX3_fail ∈ mGood := mInD lt_se_X3_fail rfl
theorem se_X3_inNumber : Cond.selects (mName m_X3_inNumber).cls yX3_inNumber yX3_inNumber ∈ mGood := mInD lt_se_X3_inNumber rfl
theorem se_X3_numberStands : Cond.selects (mName m_X3_numberStands).cls yX3_numberStands yX3_numberStands ∈ mGood := mInD lt_se_X3_numberStands rfl
theorem se_X3_read : Cond.selects (mName m_X3_read).cls yX3_read yX3_read ∈ mGood := mInD lt_se_X3_read rfl
theorem se_X3_readAbsent : Cond.selects (mName m_X3_readAbsent).cls yX3_readAbsent yX3_readAbsent ∈ mGood := mInD lt_se_X3_readAbsent rfl
theorem se_X3_readTests : Cond.selects (mName m_X3_readTests).cls yX3_readTests yX3_readTests ∈ mGood := mInD lt_se_X3_readTests rfl
theorem se_X3_take : Cond.selects (mName m_X3_take).cls yX3_take yX3_take ∈ mGood := mInD lt_se_X3_take rfl
theorem se_X3_takeBehindNumber : Cond.selects (mName m_X3_takeBehindNumber).cls yX3_takeBehindNumber yX3_takeBehindNumber ∈ mGood := mInD lt_se_X3_takeBehindNumber rfl
theorem se_X3_takeDigit : Cond.selects (mName m_X3_takeDigit).cls yX3_takeDigit yX3_takeDigit ∈ mGood := mInD lt_se_X3_takeDigit rfl
theorem se_X4_canStandIn : Cond.selects (mName m_X4_canStandIn).cls yX4_canStandIn yX4_canStandIn ∈ mGood := mInD lt_se_X4_canStandIn rfl
theorem se_X4_findSoloist : Cond.selects (mName m_X4_findSoloist).cls yX4_findSoloist yX4_findSoloist ∈ mGood := mInD lt_se_X4_findSoloist rfl
theorem se_X4_findStandIns : Cond.selects (mName m_X4_findStandIns).cls yX4_findStandIns yX4_findStandIns ∈ mGood := mInD lt_se_X4_findStandIns rfl
theorem se_X4_happen : Cond.selects (mName m_X4_happen).cls yX4_happen yX4_happen ∈ mGood := mInD lt_se_X4_happen rfl
theorem se_X4_plan : Cond.selects (mName m_X4_plan).cls yX4_plan yX4_plan ∈ mGood := mInD lt_se_X4_plan rfl
theorem se_X5_begin : Cond.selects (mName m_X5_begin).cls yX5_begin yX5_begin ∈ mGood := mInD lt_se_X5_begin rfl
theorem se_X5_copyFrom : Cond.selects (mName m_X5_copyFrom).cls yX5_copyFrom yX5_copyFrom ∈ mGood := mInD lt_se_X5_copyFrom rfl
theorem se_X5_learn : Cond.selects (mName m_X5_learn).cls yX5_learn yX5_learn ∈ mGood := mInD lt_se_X5_learn rfl
theorem se_X5_notesIn : Cond.selects (mName m_X5_notesIn).cls yX5_notesIn yX5_notesIn ∈ mGood := mInD lt_se_X5_notesIn rfl
theorem se_X5_singsBefore : Cond.selects (mName m_X5_singsBefore).cls yX5_singsBefore yX5_singsBefore ∈ mGood := mInD lt_se_X5_singsBefore rfl
theorem se_X5_sitsBefore : Cond.selects (mName m_X5_sitsBefore).cls yX5_sitsBefore yX5_sitsBefore ∈ mGood := mInD lt_se_X5_sitsBefore rfl
theorem se_X6_addVoice : Cond.selects (mName m_X6_addVoice).cls yX6_addVoice yX6_addVoice ∈ mGood := mInD lt_se_X6_addVoice rfl
theorem se_X6_evenest : Cond.selects (mName m_X6_evenest).cls yX6_evenest yX6_evenest ∈ mGood := mInD lt_se_X6_evenest rfl
theorem se_X6_gives : Cond.selects (mName m_X6_gives).cls yX6_gives yX6_gives ∈ mGood := mInD lt_se_X6_gives rfl
theorem se_X6_reaches : Cond.selects (mName m_X6_reaches).cls yX6_reaches yX6_reaches ∈ mGood := mInD lt_se_X6_reaches rfl
theorem se_X8_add : Cond.selects (mName m_X8_add).cls yX8_add yX8_add ∈ mGood := mInD lt_se_X8_add rfl
theorem se_X8_attendance : Cond.selects (mName m_X8_attendance).cls yX8_attendance yX8_attendance ∈ mGood := mInD lt_se_X8_attendance rfl
theorem se_X8_back : Cond.selects (mName m_X8_back).cls yX8_back yX8_back ∈ mGood := mInD lt_se_X8_back rfl
theorem se_X8_hold : Cond.selects (mName m_X8_hold).cls yX8_hold yX8_hold ∈ mGood := mInD lt_se_X8_hold rfl
theorem se_X8_keep : Cond.selects (mName m_X8_keep).cls yX8_keep yX8_keep ∈ mGood := mInD lt_se_X8_keep rfl
theorem se_X8_mean : Cond.selects (mName m_X8_mean).cls yX8_mean yX8_mean ∈ mGood := mInD lt_se_X8_mean rfl
theorem se_X8_note : Cond.selects (mName m_X8_note).cls yX8_note yX8_note ∈ mGood := mInD lt_se_X8_note rfl
theorem se_X8_overlap : Cond.selects (mName m_X8_overlap).cls yX8_overlap yX8_overlap ∈ mGood := mInD lt_se_X8_overlap rfl
theorem se_X8_part : Cond.selects (mName m_X8_part).cls yX8_part yX8_part ∈ mGood := mInD lt_se_X8_part rfl
theorem se_X8_passedOver : Cond.selects (mName m_X8_passedOver).cls yX8_passedOver yX8_passedOver ∈ mGood := mInD lt_se_X8_passedOver rfl
theorem se_X8_place : Cond.selects (mName m_X8_place).cls yX8_place yX8_place ∈ mGood := mInD lt_se_X8_place rfl
theorem se_X8_placeAll : Cond.selects (mName m_X8_placeAll).cls yX8_placeAll yX8_placeAll ∈ mGood := mInD lt_se_X8_placeAll rfl
theorem se_X8_remove : Cond.selects (mName m_X8_remove).cls yX8_remove yX8_remove ∈ mGood := mInD lt_se_X8_remove rfl
theorem se_X8_seat : Cond.selects (mName m_X8_seat).cls yX8_seat yX8_seat ∈ mGood := mInD lt_se_X8_seat rfl
theorem se_X8_set : Cond.selects (mName m_X8_set).cls yX8_set yX8_set ∈ mGood := mInD lt_se_X8_set rfl
theorem se_X8_setting : Cond.selects (mName m_X8_setting).cls yX8_setting yX8_setting ∈ mGood := mInD lt_se_X8_setting rfl
theorem se_X8_singer : Cond.selects (mName m_X8_singer).cls yX8_singer yX8_singer ∈ mGood := mInD lt_se_X8_singer rfl
theorem se_X8_solo : Cond.selects (mName m_X8_solo).cls yX8_solo yX8_solo ∈ mGood := mInD lt_se_X8_solo rfl
theorem se_X8_standIn : Cond.selects (mName m_X8_standIn).cls yX8_standIn yX8_standIn ∈ mGood := mInD lt_se_X8_standIn rfl
theorem se_X8_test : Cond.selects (mName m_X8_test).cls yX8_test yX8_test ∈ mGood := mInD lt_se_X8_test rfl
theorem se_X8_told : Cond.selects (mName m_X8_told).cls yX8_told yX8_told ∈ mGood := mInD lt_se_X8_told rfl
theorem se_X8_undo : Cond.selects (mName m_X8_undo).cls yX8_undo yX8_undo ∈ mGood := mInD lt_se_X8_undo rfl
theorem se_X8_wipe : Cond.selects (mName m_X8_wipe).cls yX8_wipe yX8_wipe ∈ mGood := mInD lt_se_X8_wipe rfl
theorem se_X8_without : Cond.selects (mName m_X8_without).cls yX8_without yX8_without ∈ mGood := mInD lt_se_X8_without rfl
theorem se_X8_write : Cond.selects (mName m_X8_write).cls yX8_write yX8_write ∈ mGood := mInD lt_se_X8_write rfl
theorem ini_X0 : Cond.initialized RX0 ∈ mGood := mInD lt_ini_X0 rfl
theorem ins_X0 : Cond.instantiable RX0 8 ∈ mGood := mInD lt_ins_X0 rfl
theorem ini_X1 : Cond.initialized RX1 ∈ mGood := mInD lt_ini_X1 rfl
theorem ins_X1 : Cond.instantiable RX1 3 ∈ mGood := mInD lt_ins_X1 rfl
theorem ini_X2 : Cond.initialized RX2 ∈ mGood := mInD lt_ini_X2 rfl
theorem ins_X2 : Cond.instantiable RX2 10 ∈ mGood := mInD lt_ins_X2 rfl
theorem ini_X3 : Cond.initialized RX3 ∈ mGood := mInD lt_ini_X3 rfl
theorem ins_X3 : Cond.instantiable RX3 11 ∈ mGood := mInD lt_ins_X3 rfl
theorem ini_X4 : Cond.initialized RX4 ∈ mGood := mInD lt_ini_X4 rfl
theorem ins_X4 : Cond.instantiable RX4 3 ∈ mGood := mInD lt_ins_X4 rfl
theorem ini_X5 : Cond.initialized RX5 ∈ mGood := mInD lt_ini_X5 rfl
theorem ins_X5 : Cond.instantiable RX5 11 ∈ mGood := mInD lt_ins_X5 rfl
theorem ini_X6 : Cond.initialized RX6 ∈ mGood := mInD lt_ini_X6 rfl
theorem ins_X6 : Cond.instantiable RX6 2 ∈ mGood := mInD lt_ins_X6 rfl
theorem ini_X7 : Cond.initialized RX7 ∈ mGood := mInD lt_ini_X7 rfl
theorem ins_X7 : Cond.instantiable RX7 2 ∈ mGood := mInD lt_ins_X7 rfl
theorem ini_X8 : Cond.initialized RX8 ∈ mGood := mInD lt_ini_X8 rfl
theorem ins_X8 : Cond.instantiable RX8 8 ∈ mGood := mInD lt_ins_X8 rfl
theorem ini_L : Cond.initialized RL ∈ mGood := mInD lt_ini_L rfl
theorem cl_X0_9 : Cond.classLink RX0 9 RX5 ∈ mGood := mInD lt_cl_X0_9 rfl
theorem cl_X1_9 : Cond.classLink RX1 9 RX0 ∈ mGood := mInD lt_cl_X1_9 rfl
theorem cl_X2_9 : Cond.classLink RX2 9 RX6 ∈ mGood := mInD lt_cl_X2_9 rfl
theorem cl_X8_7 : Cond.classLink RX8 7 RX0 ∈ mGood := mInD lt_cl_X8_7 rfl
theorem cl_X8_16 : Cond.classLink RX8 16 RX1 ∈ mGood := mInD lt_cl_X8_16 rfl
theorem cl_X8_31 : Cond.classLink RX8 31 RX7 ∈ mGood := mInD lt_cl_X8_31 rfl
theorem cl_X8_38 : Cond.classLink RX8 38 RX3 ∈ mGood := mInD lt_cl_X8_38 rfl
theorem cl_X8_45 : Cond.classLink RX8 45 RX4 ∈ mGood := mInD lt_cl_X8_45 rfl
theorem cl_X8_52 : Cond.classLink RX8 52 RX2 ∈ mGood := mInD lt_cl_X8_52 rfl
theorem cl_L_10 : Cond.classLink RL 10 RX8 ∈ mGood := mInD lt_cl_L_10 rfl
theorem ac_int : Cond.arrayClass .int ∈ mGood := mInD lt_ac_int rfl
theorem ac_long : Cond.arrayClass .long ∈ mGood := mInD lt_ac_long rfl
theorem ac_boolean : Cond.arrayClass .boolean ∈ mGood := mInD lt_ac_boolean rfl
theorem cf_L_92 : Cond.constantFloat RL 92 (1082130432) ∈ mGood := mInD lt_cf_L_92 rfl
theorem cf_X8_246 : Cond.constantFloat RX8 246 (1082130432) ∈ mGood := mInD lt_cf_X8_246 rfl
theorem ck_X3_98 : Cond.constantLong RX3 98 (-1) ∈ mGood := mInD lt_ck_X3_98 rfl
theorem ck_X6_30 : Cond.constantLong RX6 30 (-1) ∈ mGood := mInD lt_ck_X6_30 rfl
theorem ok_X0_init : mOk m_X0_init 0 := ⟨mInD lt_ok_X0_init rfl, ini_X0, by decide +kernel, by decide⟩
theorem ok_X0_copyFrom : mOk m_X0_copyFrom 1 := ⟨mInD lt_ok_X0_copyFrom rfl, ini_X0, by decide +kernel, by decide⟩
theorem ok_X0_has : mOk m_X0_has 1 := ⟨mInD lt_ok_X0_has rfl, ini_X0, by decide +kernel, by decide⟩
theorem ok_X0_join : mOk m_X0_join 2 := ⟨mInD lt_ok_X0_join rfl, ini_X0, by decide +kernel, by decide⟩
theorem ok_X0_dismiss : mOk m_X0_dismiss 1 := ⟨mInD lt_ok_X0_dismiss rfl, ini_X0, by decide +kernel, by decide⟩
theorem ok_X0_fits : mOk m_X0_fits 2 := ⟨mInD lt_ok_X0_fits rfl, ini_X0, by decide +kernel, by decide⟩
theorem ok_X0_fittingParts : mOk m_X0_fittingParts 1 := ⟨mInD lt_ok_X0_fittingParts rfl, ini_X0, by decide +kernel, by decide⟩
theorem ok_X0_placed : mOk m_X0_placed 0 := ⟨mInD lt_ok_X0_placed rfl, ini_X0, by decide +kernel, by decide⟩
theorem ok_X0_absent : mOk m_X0_absent 0 := ⟨mInD lt_ok_X0_absent rfl, ini_X0, by decide +kernel, by decide⟩
theorem ok_X0_members : mOk m_X0_members 1 := ⟨mInD lt_ok_X0_members rfl, ini_X0, by decide +kernel, by decide⟩
theorem ok_X0_strength : mOk m_X0_strength 1 := ⟨mInD lt_ok_X0_strength rfl, ini_X0, by decide +kernel, by decide⟩
theorem ok_X0_strengthPresent : mOk m_X0_strengthPresent 1 := ⟨mInD lt_ok_X0_strengthPresent rfl, ini_X0, by decide +kernel, by decide⟩
theorem ok_X0_covers : mOk m_X0_covers 1 := ⟨mInD lt_ok_X0_covers rfl, ini_X0, by decide +kernel, by decide⟩
theorem ok_X0_coveredParts : mOk m_X0_coveredParts 0 := ⟨mInD lt_ok_X0_coveredParts rfl, ini_X0, by decide +kernel, by decide⟩
theorem ok_X0_rested : mOk m_X0_rested 1 := ⟨mInD lt_ok_X0_rested rfl, ini_X0, by decide +kernel, by decide⟩
theorem ok_X0_width : mOk m_X0_width 0 := ⟨mInD lt_ok_X0_width rfl, ini_X0, by decide +kernel, by decide⟩
theorem ok_X0_rows : mOk m_X0_rows 1 := ⟨mInD lt_ok_X0_rows rfl, ini_X0, by decide +kernel, by decide⟩
theorem ok_X0_rowsBefore : mOk m_X0_rowsBefore 1 := ⟨mInD lt_ok_X0_rowsBefore rfl, ini_X0, by decide +kernel, by decide⟩
theorem ok_X0_seatedBefore : mOk m_X0_seatedBefore 1 := ⟨mInD lt_ok_X0_seatedBefore rfl, ini_X0, by decide +kernel, by decide⟩
theorem ok_X1_init : mOk m_X1_init 0 := ⟨mInD lt_ok_X1_init rfl, ini_X1, by decide +kernel, by decide⟩
theorem ok_X1_record : mOk m_X1_record 1 := ⟨mInD lt_ok_X1_record rfl, ini_X1, by decide +kernel, by decide⟩
theorem ok_X1_restore : mOk m_X1_restore 1 := ⟨mInD lt_ok_X1_restore rfl, ini_X1, by decide +kernel, by decide⟩
theorem ok_X2_init : mOk m_X2_init 0 := ⟨mInD lt_ok_X2_init rfl, ini_X2, by decide +kernel, by decide⟩
theorem ok_X2_weigh : mOk m_X2_weigh 2 := ⟨mInD lt_ok_X2_weigh rfl, ini_X2, by decide +kernel, by decide⟩
theorem ok_X2_addVoice : mOk m_X2_addVoice 3 := ⟨mInD lt_ok_X2_addVoice rfl, ini_X2, by decide +kernel, by decide⟩
theorem ok_X2_weighPairs : mOk m_X2_weighPairs 2 := ⟨mInD lt_ok_X2_weighPairs rfl, ini_X2, by decide +kernel, by decide⟩
theorem ok_X2_choose : mOk m_X2_choose 1 := ⟨mInD lt_ok_X2_choose rfl, ini_X2, by decide +kernel, by decide⟩
theorem ok_X2_firstGoodPart : mOk m_X2_firstGoodPart 1 := ⟨mInD lt_ok_X2_firstGoodPart rfl, ini_X2, by decide +kernel, by decide⟩
theorem ok_X2_canFinish : mOk m_X2_canFinish 1 := ⟨mInD lt_ok_X2_canFinish rfl, ini_X2, by decide +kernel, by decide⟩
theorem ok_X2_pairCanReach : mOk m_X2_pairCanReach 3 := ⟨mInD lt_ok_X2_pairCanReach rfl, ini_X2, by decide +kernel, by decide⟩
theorem ok_X3_init : mOk m_X3_init 0 := ⟨mInD lt_ok_X3_init rfl, ini_X3, by decide +kernel, by decide⟩
theorem ok_X3_readTests : mOk m_X3_readTests 2 := ⟨mInD lt_ok_X3_readTests rfl, ini_X3, by decide +kernel, by decide⟩
theorem ok_X3_readAbsent : mOk m_X3_readAbsent 2 := ⟨mInD lt_ok_X3_readAbsent rfl, ini_X3, by decide +kernel, by decide⟩
theorem ok_X3_read : mOk m_X3_read 1 := ⟨mInD lt_ok_X3_read rfl, ini_X3, by decide +kernel, by decide⟩
theorem ok_X3_take : mOk m_X3_take 2 := ⟨mInD lt_ok_X3_take rfl, ini_X3, by decide +kernel, by decide⟩
theorem ok_X3_inNumber : mOk m_X3_inNumber 0 := ⟨mInD lt_ok_X3_inNumber rfl, ini_X3, by decide +kernel, by decide⟩
theorem ok_X3_beginNumber : mOk m_X3_beginNumber 2 := ⟨mInD lt_ok_X3_beginNumber rfl, ini_X3, by decide +kernel, by decide⟩
theorem ok_X3_takeDigit : mOk m_X3_takeDigit 2 := ⟨mInD lt_ok_X3_takeDigit rfl, ini_X3, by decide +kernel, by decide⟩
theorem ok_X3_takeBehindNumber : mOk m_X3_takeBehindNumber 2 := ⟨mInD lt_ok_X3_takeBehindNumber rfl, ini_X3, by decide +kernel, by decide⟩
theorem ok_X3_end : mOk m_X3_end 1 := ⟨mInD lt_ok_X3_end rfl, ini_X3, by decide +kernel, by decide⟩
theorem ok_X3_numberStands : mOk m_X3_numberStands 0 := ⟨mInD lt_ok_X3_numberStands rfl, ini_X3, by decide +kernel, by decide⟩
theorem ok_X3_closeWord : mOk m_X3_closeWord 1 := ⟨mInD lt_ok_X3_closeWord rfl, ini_X3, by decide +kernel, by decide⟩
theorem ok_X3_fail : mOk m_X3_fail 2 := ⟨mInD lt_ok_X3_fail rfl, ini_X3, by decide +kernel, by decide⟩
theorem ok_X4_init : mOk m_X4_init 0 := ⟨mInD lt_ok_X4_init rfl, ini_X4, by decide +kernel, by decide⟩
theorem ok_X4_plan : mOk m_X4_plan 1 := ⟨mInD lt_ok_X4_plan rfl, ini_X4, by decide +kernel, by decide⟩
theorem ok_X4_findStandIns : mOk m_X4_findStandIns 2 := ⟨mInD lt_ok_X4_findStandIns rfl, ini_X4, by decide +kernel, by decide⟩
theorem ok_X4_canStandIn : mOk m_X4_canStandIn 3 := ⟨mInD lt_ok_X4_canStandIn rfl, ini_X4, by decide +kernel, by decide⟩
theorem ok_X4_findSoloist : mOk m_X4_findSoloist 2 := ⟨mInD lt_ok_X4_findSoloist rfl, ini_X4, by decide +kernel, by decide⟩
theorem ok_X4_happen : mOk m_X4_happen 1 := ⟨mInD lt_ok_X4_happen rfl, ini_X4, by decide +kernel, by decide⟩
theorem ok_X5_init : mOk m_X5_init 0 := ⟨mInD lt_ok_X5_init rfl, ini_X5, by decide +kernel, by decide⟩
theorem ok_X5_begin : mOk m_X5_begin 2 := ⟨mInD lt_ok_X5_begin rfl, ini_X5, by decide +kernel, by decide⟩
theorem ok_X5_copyFrom : mOk m_X5_copyFrom 1 := ⟨mInD lt_ok_X5_copyFrom rfl, ini_X5, by decide +kernel, by decide⟩
theorem ok_X5_learn : mOk m_X5_learn 2 := ⟨mInD lt_ok_X5_learn rfl, ini_X5, by decide +kernel, by decide⟩
theorem ok_X5_notesIn : mOk m_X5_notesIn 1 := ⟨mInD lt_ok_X5_notesIn rfl, ini_X5, by decide +kernel, by decide⟩
theorem ok_X5_sitsBefore : mOk m_X5_sitsBefore 2 := ⟨mInD lt_ok_X5_sitsBefore rfl, ini_X5, by decide +kernel, by decide⟩
theorem ok_X5_singsBefore : mOk m_X5_singsBefore 1 := ⟨mInD lt_ok_X5_singsBefore rfl, ini_X5, by decide +kernel, by decide⟩
theorem ok_X6_init : mOk m_X6_init 0 := ⟨mInD lt_ok_X6_init rfl, ini_X6, by decide +kernel, by decide⟩
theorem ok_X6_addVoice : mOk m_X6_addVoice 4 := ⟨mInD lt_ok_X6_addVoice rfl, ini_X6, by decide +kernel, by decide⟩
theorem ok_X6_evenest : mOk m_X6_evenest 2 := ⟨mInD lt_ok_X6_evenest rfl, ini_X6, by decide +kernel, by decide⟩
theorem ok_X6_gives : mOk m_X6_gives 2 := ⟨mInD lt_ok_X6_gives rfl, ini_X6, by decide +kernel, by decide⟩
theorem ok_X6_reaches : mOk m_X6_reaches 3 := ⟨mInD lt_ok_X6_reaches rfl, ini_X6, by decide +kernel, by decide⟩
theorem ok_X6_bits : mOk m_X6_bits 2 := ⟨mInD lt_ok_X6_bits rfl, ini_X6, by decide +kernel, by decide⟩
theorem ok_X7_init : mOk m_X7_init 0 := ⟨mInD lt_ok_X7_init rfl, ini_X7, by decide +kernel, by decide⟩
theorem ok_X8_init : mOk m_X8_init 0 := ⟨mInD lt_ok_X8_init rfl, ini_X8, by decide +kernel, by decide⟩
theorem ok_X8_add : mOk m_X8_add 2 := ⟨mInD lt_ok_X8_add rfl, ini_X8, by decide +kernel, by decide⟩
theorem ok_X8_remove : mOk m_X8_remove 1 := ⟨mInD lt_ok_X8_remove rfl, ini_X8, by decide +kernel, by decide⟩
theorem ok_X8_set : mOk m_X8_set 2 := ⟨mInD lt_ok_X8_set rfl, ini_X8, by decide +kernel, by decide⟩
theorem ok_X8_test : mOk m_X8_test 1 := ⟨mInD lt_ok_X8_test rfl, ini_X8, by decide +kernel, by decide⟩
theorem ok_X8_place : mOk m_X8_place 2 := ⟨mInD lt_ok_X8_place rfl, ini_X8, by decide +kernel, by decide⟩
theorem ok_X8_placeAll : mOk m_X8_placeAll 0 := ⟨mInD lt_ok_X8_placeAll rfl, ini_X8, by decide +kernel, by decide⟩
theorem ok_X8_attendance : mOk m_X8_attendance 0 := ⟨mInD lt_ok_X8_attendance rfl, ini_X8, by decide +kernel, by decide⟩
theorem ok_X8_hold : mOk m_X8_hold 0 := ⟨mInD lt_ok_X8_hold rfl, ini_X8, by decide +kernel, by decide⟩
theorem ok_X8_undo : mOk m_X8_undo 0 := ⟨mInD lt_ok_X8_undo rfl, ini_X8, by decide +kernel, by decide⟩
theorem ok_X8_write : mOk m_X8_write 1 := ⟨mInD lt_ok_X8_write rfl, ini_X8, by decide +kernel, by decide⟩
theorem ok_X8_wipe : mOk m_X8_wipe 0 := ⟨mInD lt_ok_X8_wipe rfl, ini_X8, by decide +kernel, by decide⟩
theorem ok_X8_told : mOk m_X8_told 1 := ⟨mInD lt_ok_X8_told rfl, ini_X8, by decide +kernel, by decide⟩
theorem ok_X8_setting : mOk m_X8_setting 1 := ⟨mInD lt_ok_X8_setting rfl, ini_X8, by decide +kernel, by decide⟩
theorem ok_X8_singer : mOk m_X8_singer 2 := ⟨mInD lt_ok_X8_singer rfl, ini_X8, by decide +kernel, by decide⟩
theorem ok_X8_note : mOk m_X8_note 2 := ⟨mInD lt_ok_X8_note rfl, ini_X8, by decide +kernel, by decide⟩
theorem ok_X8_overlap : mOk m_X8_overlap 2 := ⟨mInD lt_ok_X8_overlap rfl, ini_X8, by decide +kernel, by decide⟩
theorem ok_X8_part : mOk m_X8_part 2 := ⟨mInD lt_ok_X8_part rfl, ini_X8, by decide +kernel, by decide⟩
theorem ok_X8_seat : mOk m_X8_seat 2 := ⟨mInD lt_ok_X8_seat rfl, ini_X8, by decide +kernel, by decide⟩
theorem ok_X8_solo : mOk m_X8_solo 2 := ⟨mInD lt_ok_X8_solo rfl, ini_X8, by decide +kernel, by decide⟩
theorem ok_X8_mean : mOk m_X8_mean 0 := ⟨mInD lt_ok_X8_mean rfl, ini_X8, by decide +kernel, by decide⟩
theorem ok_X8_standIn : mOk m_X8_standIn 1 := ⟨mInD lt_ok_X8_standIn rfl, ini_X8, by decide +kernel, by decide⟩
theorem ok_X8_passedOver : mOk m_X8_passedOver 1 := ⟨mInD lt_ok_X8_passedOver rfl, ini_X8, by decide +kernel, by decide⟩
theorem ok_X8_without : mOk m_X8_without 1 := ⟨mInD lt_ok_X8_without rfl, ini_X8, by decide +kernel, by decide⟩
theorem ok_X8_keep : mOk m_X8_keep 1 := ⟨mInD lt_ok_X8_keep rfl, ini_X8, by decide +kernel, by decide⟩
theorem ok_X8_back : mOk m_X8_back 1 := ⟨mInD lt_ok_X8_back rfl, ini_X8, by decide +kernel, by decide⟩
theorem ok_X8_isSetting : mOk m_X8_isSetting 1 := ⟨mInD lt_ok_X8_isSetting rfl, ini_X8, by decide +kernel, by decide⟩
theorem ok_X8_isPart : mOk m_X8_isPart 1 := ⟨mInD lt_ok_X8_isPart rfl, ini_X8, by decide +kernel, by decide⟩
theorem ok_X8_isImage : mOk m_X8_isImage 1 := ⟨mInD lt_ok_X8_isImage rfl, ini_X8, by decide +kernel, by decide⟩
theorem ok_X8_contains : mOk m_X8_contains 2 := ⟨mInD lt_ok_X8_contains rfl, ini_X8, by decide +kernel, by decide⟩
theorem ok_L_low : mOk m_L_low 2 := ⟨mInD lt_ok_L_low rfl, ini_L, by decide +kernel, by decide⟩
theorem ok_L_number : mOk m_L_number 2 := ⟨mInD lt_ok_L_number rfl, ini_L, by decide +kernel, by decide⟩
theorem ok_L_test : mOk m_L_test 4 := ⟨mInD lt_ok_L_test rfl, ini_L, by decide +kernel, by decide⟩
theorem ok_L_attendance : mOk m_L_attendance 2 := ⟨mInD lt_ok_L_attendance rfl, ini_L, by decide +kernel, by decide⟩
theorem ok_L_change : mOk m_L_change 3 := ⟨mInD lt_ok_L_change rfl, ini_L, by decide +kernel, by decide⟩
theorem ok_L_isRange : mOk m_L_isRange 2 := ⟨mInD lt_ok_L_isRange rfl, ini_L, by decide +kernel, by decide⟩
theorem ok_L_areParts : mOk m_L_areParts 1 := ⟨mInD lt_ok_L_areParts rfl, ini_L, by decide +kernel, by decide⟩
theorem ok_L_isHeld : mOk m_L_isHeld 1 := ⟨mInD lt_ok_L_isHeld rfl, ini_L, by decide +kernel, by decide⟩
theorem ok_L_areAlike : mOk m_L_areAlike 2 := ⟨mInD lt_ok_L_areAlike rfl, ini_L, by decide +kernel, by decide⟩
theorem ok_L_cell {q : Nat × (Nat → Int32)} : mOk (m_L_cell q) 2 := ⟨mInD lt_ok_L_cell rfl, ini_L, by show _ ≠ _ ∧ _; decide +kernel, by decide⟩
end

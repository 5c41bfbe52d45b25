-- ===== PART A: goes FIRST, ahead of the names: the tables' words, and 'selects' of the private methods out of them =====
/-- a private method of a class that the tables say can be made, by its rows of tables_1 -/
def lw_okq (q : MethodName × Nat) : Prop := (q.1.cls ≠ "java/lang/invoke/MethodHandle" ∧ q.1.cls ≠ "java/lang/invoke/VarHandle") ∧ Cond.instantiable q.1.cls q.2 ∈ tables_1 ∧ Cond.privateMethod q.1 ∈ tables_1 ∧ Cond.instanceMethod q.1 ∈ tables_1
theorem lw_p0 : lw_okq (⟨"ChoirBook$Reader", "read", "(LChoirBook$Text;)Z"⟩, 11) := ⟨⟨by decide +kernel, by decide +kernel⟩, List.mem_of_getElem? (i := 176) (by decide +kernel), List.mem_of_getElem? (i := 380) (by decide +kernel), List.mem_of_getElem? (i := 381) (by decide +kernel)⟩
theorem lw_p1 : lw_okq (⟨"ChoirBook$Reader", "take", "(II)Z"⟩, 11) := ⟨⟨by decide +kernel, by decide +kernel⟩, List.mem_of_getElem? (i := 176) (by decide +kernel), List.mem_of_getElem? (i := 384) (by decide +kernel), List.mem_of_getElem? (i := 385) (by decide +kernel)⟩
theorem lw_p2 : lw_okq (⟨"ChoirBook$Reader", "inNumber", "()Z"⟩, 11) := ⟨⟨by decide +kernel, by decide +kernel⟩, List.mem_of_getElem? (i := 176) (by decide +kernel), List.mem_of_getElem? (i := 388) (by decide +kernel), List.mem_of_getElem? (i := 389) (by decide +kernel)⟩
theorem lw_p3 : lw_okq (⟨"ChoirBook$Reader", "takeDigit", "(II)Z"⟩, 11) := ⟨⟨by decide +kernel, by decide +kernel⟩, List.mem_of_getElem? (i := 176) (by decide +kernel), List.mem_of_getElem? (i := 392) (by decide +kernel), List.mem_of_getElem? (i := 393) (by decide +kernel)⟩
theorem lw_p4 : lw_okq (⟨"ChoirBook$Reader", "fail", "(II)Z"⟩, 11) := ⟨⟨by decide +kernel, by decide +kernel⟩, List.mem_of_getElem? (i := 176) (by decide +kernel), List.mem_of_getElem? (i := 396) (by decide +kernel), List.mem_of_getElem? (i := 397) (by decide +kernel)⟩
theorem lw_p5 : lw_okq (⟨"ChoirBook$Reader", "takeBehindNumber", "(II)Z"⟩, 11) := ⟨⟨by decide +kernel, by decide +kernel⟩, List.mem_of_getElem? (i := 176) (by decide +kernel), List.mem_of_getElem? (i := 400) (by decide +kernel), List.mem_of_getElem? (i := 401) (by decide +kernel)⟩
theorem lw_p6 : lw_okq (⟨"ChoirBook$Reader", "numberStands", "()Z"⟩, 11) := ⟨⟨by decide +kernel, by decide +kernel⟩, List.mem_of_getElem? (i := 176) (by decide +kernel), List.mem_of_getElem? (i := 404) (by decide +kernel), List.mem_of_getElem? (i := 405) (by decide +kernel)⟩
theorem lw_p7 : lw_okq (⟨"ChoirBook$Reader", "closeWord", "(Z)V"⟩, 11) := ⟨⟨by decide +kernel, by decide +kernel⟩, List.mem_of_getElem? (i := 176) (by decide +kernel), List.mem_of_getElem? (i := 408) (by decide +kernel), List.mem_of_getElem? (i := 409) (by decide +kernel)⟩
theorem lw_p8 : lw_okq (⟨"ChoirBook$Reader", "beginNumber", "(II)V"⟩, 11) := ⟨⟨by decide +kernel, by decide +kernel⟩, List.mem_of_getElem? (i := 176) (by decide +kernel), List.mem_of_getElem? (i := 413) (by decide +kernel), List.mem_of_getElem? (i := 414) (by decide +kernel)⟩
theorem lw_p9 : lw_okq (⟨"ChoirBook$Reader", "end", "(I)Z"⟩, 11) := ⟨⟨by decide +kernel, by decide +kernel⟩, List.mem_of_getElem? (i := 176) (by decide +kernel), List.mem_of_getElem? (i := 417) (by decide +kernel), List.mem_of_getElem? (i := 418) (by decide +kernel)⟩
theorem lw_p10 : lw_okq (⟨"ChoirBook$Placing", "addVoice", "(III)V"⟩, 10) := ⟨⟨by decide +kernel, by decide +kernel⟩, List.mem_of_getElem? (i := 238) (by decide +kernel), List.mem_of_getElem? (i := 458) (by decide +kernel), List.mem_of_getElem? (i := 459) (by decide +kernel)⟩
theorem lw_p11 : lw_okq (⟨"ChoirBook$Placing", "weighPairs", "(II)V"⟩, 10) := ⟨⟨by decide +kernel, by decide +kernel⟩, List.mem_of_getElem? (i := 238) (by decide +kernel), List.mem_of_getElem? (i := 467) (by decide +kernel), List.mem_of_getElem? (i := 468) (by decide +kernel)⟩
theorem lw_p12 : lw_okq (⟨"ChoirBook$Split", "gives", "(II)Z"⟩, 2) := ⟨⟨by decide +kernel, by decide +kernel⟩, List.mem_of_getElem? (i := 244) (by decide +kernel), List.mem_of_getElem? (i := 475) (by decide +kernel), List.mem_of_getElem? (i := 476) (by decide +kernel)⟩
theorem lw_p13 : lw_okq (⟨"ChoirBook$Placing", "firstGoodPart", "(I)I"⟩, 10) := ⟨⟨by decide +kernel, by decide +kernel⟩, List.mem_of_getElem? (i := 238) (by decide +kernel), List.mem_of_getElem? (i := 486) (by decide +kernel), List.mem_of_getElem? (i := 487) (by decide +kernel)⟩
theorem lw_p14 : lw_okq (⟨"ChoirBook$Placing", "canFinish", "(I)Z"⟩, 10) := ⟨⟨by decide +kernel, by decide +kernel⟩, List.mem_of_getElem? (i := 238) (by decide +kernel), List.mem_of_getElem? (i := 490) (by decide +kernel), List.mem_of_getElem? (i := 491) (by decide +kernel)⟩
theorem lw_p15 : lw_okq (⟨"ChoirBook$Placing", "pairCanReach", "(LChoirBook$Split;II)Z"⟩, 10) := ⟨⟨by decide +kernel, by decide +kernel⟩, List.mem_of_getElem? (i := 238) (by decide +kernel), List.mem_of_getElem? (i := 494) (by decide +kernel), List.mem_of_getElem? (i := 495) (by decide +kernel)⟩
def lw_privs_1 : List (MethodName × Nat) := [(⟨"ChoirBook$Reader", "read", "(LChoirBook$Text;)Z"⟩, 11), (⟨"ChoirBook$Reader", "take", "(II)Z"⟩, 11), (⟨"ChoirBook$Reader", "inNumber", "()Z"⟩, 11), (⟨"ChoirBook$Reader", "takeDigit", "(II)Z"⟩, 11), (⟨"ChoirBook$Reader", "fail", "(II)Z"⟩, 11), (⟨"ChoirBook$Reader", "takeBehindNumber", "(II)Z"⟩, 11), (⟨"ChoirBook$Reader", "numberStands", "()Z"⟩, 11), (⟨"ChoirBook$Reader", "closeWord", "(Z)V"⟩, 11), (⟨"ChoirBook$Reader", "beginNumber", "(II)V"⟩, 11), (⟨"ChoirBook$Reader", "end", "(I)Z"⟩, 11), (⟨"ChoirBook$Placing", "addVoice", "(III)V"⟩, 10), (⟨"ChoirBook$Placing", "weighPairs", "(II)V"⟩, 10), (⟨"ChoirBook$Split", "gives", "(II)Z"⟩, 2), (⟨"ChoirBook$Placing", "firstGoodPart", "(I)I"⟩, 10), (⟨"ChoirBook$Placing", "canFinish", "(I)Z"⟩, 10), (⟨"ChoirBook$Placing", "pairCanReach", "(LChoirBook$Split;II)Z"⟩, 10)]
theorem lw_r1 : ∀ q ∈ lw_privs_1, lw_okq q := List.forall_mem_cons.mpr ⟨lw_p0, List.forall_mem_cons.mpr ⟨lw_p1, List.forall_mem_cons.mpr ⟨lw_p2, List.forall_mem_cons.mpr ⟨lw_p3, List.forall_mem_cons.mpr ⟨lw_p4, List.forall_mem_cons.mpr ⟨lw_p5, List.forall_mem_cons.mpr ⟨lw_p6, List.forall_mem_cons.mpr ⟨lw_p7, List.forall_mem_cons.mpr ⟨lw_p8, List.forall_mem_cons.mpr ⟨lw_p9, List.forall_mem_cons.mpr ⟨lw_p10, List.forall_mem_cons.mpr ⟨lw_p11, List.forall_mem_cons.mpr ⟨lw_p12, List.forall_mem_cons.mpr ⟨lw_p13, List.forall_mem_cons.mpr ⟨lw_p14, List.forall_mem_cons.mpr ⟨lw_p15, fun _ h => absurd h List.not_mem_nil⟩⟩⟩⟩⟩⟩⟩⟩⟩⟩⟩⟩⟩⟩⟩⟩
theorem lw_p16 : lw_okq (⟨"ChoirBook$Rehearsal", "findStandIns", "(LChoirBook$Choir;I)V"⟩, 3) := ⟨⟨by decide +kernel, by decide +kernel⟩, List.mem_of_getElem? (i := 220) (by decide +kernel), List.mem_of_getElem? (i := 531) (by decide +kernel), List.mem_of_getElem? (i := 532) (by decide +kernel)⟩
theorem lw_p17 : lw_okq (⟨"ChoirBook$Rehearsal", "canStandIn", "(LChoirBook$Choir;II)Z"⟩, 3) := ⟨⟨by decide +kernel, by decide +kernel⟩, List.mem_of_getElem? (i := 220) (by decide +kernel), List.mem_of_getElem? (i := 539) (by decide +kernel), List.mem_of_getElem? (i := 540) (by decide +kernel)⟩
theorem lw_p18 : lw_okq (⟨"ChoirBook$Rehearsal", "findSoloist", "(LChoirBook$Choir;I)I"⟩, 3) := ⟨⟨by decide +kernel, by decide +kernel⟩, List.mem_of_getElem? (i := 220) (by decide +kernel), List.mem_of_getElem? (i := 545) (by decide +kernel), List.mem_of_getElem? (i := 546) (by decide +kernel)⟩
theorem lw_p19 : lw_okq (⟨"ChoirBookModel", "remember", "()V"⟩, 31) := ⟨⟨by decide +kernel, by decide +kernel⟩, List.mem_of_getElem? (i := 688) (by decide +kernel), List.mem_of_getElem? (i := 792) (by decide +kernel), List.mem_of_getElem? (i := 793) (by decide +kernel)⟩
theorem lw_p20 : lw_okq (⟨"ChoirBookModel", "findBest", "(I)V"⟩, 31) := ⟨⟨by decide +kernel, by decide +kernel⟩, List.mem_of_getElem? (i := 688) (by decide +kernel), List.mem_of_getElem? (i := 796) (by decide +kernel), List.mem_of_getElem? (i := 797) (by decide +kernel)⟩
theorem lw_p21 : lw_okq (⟨"ChoirBookModel", "fits", "(I)I"⟩, 31) := ⟨⟨by decide +kernel, by decide +kernel⟩, List.mem_of_getElem? (i := 688) (by decide +kernel), List.mem_of_getElem? (i := 800) (by decide +kernel), List.mem_of_getElem? (i := 801) (by decide +kernel)⟩
theorem lw_p22 : lw_okq (⟨"ChoirBookModel", "isFit", "(II)Z"⟩, 31) := ⟨⟨by decide +kernel, by decide +kernel⟩, List.mem_of_getElem? (i := 688) (by decide +kernel), List.mem_of_getElem? (i := 804) (by decide +kernel), List.mem_of_getElem? (i := 805) (by decide +kernel)⟩
theorem lw_p23 : lw_okq (⟨"ChoirBookModel", "overlapOf", "(II)I"⟩, 31) := ⟨⟨by decide +kernel, by decide +kernel⟩, List.mem_of_getElem? (i := 688) (by decide +kernel), List.mem_of_getElem? (i := 808) (by decide +kernel), List.mem_of_getElem? (i := 809) (by decide +kernel)⟩
theorem lw_p24 : lw_okq (⟨"ChoirBookModel", "findRange", "(I)V"⟩, 31) := ⟨⟨by decide +kernel, by decide +kernel⟩, List.mem_of_getElem? (i := 688) (by decide +kernel), List.mem_of_getElem? (i := 812) (by decide +kernel), List.mem_of_getElem? (i := 813) (by decide +kernel)⟩
theorem lw_p25 : lw_okq (⟨"ChoirBookModel", "of", "(II)I"⟩, 31) := ⟨⟨by decide +kernel, by decide +kernel⟩, List.mem_of_getElem? (i := 688) (by decide +kernel), List.mem_of_getElem? (i := 816) (by decide +kernel), List.mem_of_getElem? (i := 817) (by decide +kernel)⟩
theorem lw_p26 : lw_okq (⟨"ChoirBookModel", "nextPart", "(II)I"⟩, 31) := ⟨⟨by decide +kernel, by decide +kernel⟩, List.mem_of_getElem? (i := 688) (by decide +kernel), List.mem_of_getElem? (i := 823) (by decide +kernel), List.mem_of_getElem? (i := 824) (by decide +kernel)⟩
theorem lw_p27 : lw_okq (⟨"ChoirBookModel", "change", "(II)V"⟩, 31) := ⟨⟨by decide +kernel, by decide +kernel⟩, List.mem_of_getElem? (i := 688) (by decide +kernel), List.mem_of_getElem? (i := 827) (by decide +kernel), List.mem_of_getElem? (i := 828) (by decide +kernel)⟩
theorem lw_p28 : lw_okq (⟨"ChoirBookModel", "judge", "()V"⟩, 31) := ⟨⟨by decide +kernel, by decide +kernel⟩, List.mem_of_getElem? (i := 688) (by decide +kernel), List.mem_of_getElem? (i := 831) (by decide +kernel), List.mem_of_getElem? (i := 832) (by decide +kernel)⟩
theorem lw_p29 : lw_okq (⟨"ChoirBookModel", "put", "(III)V"⟩, 31) := ⟨⟨by decide +kernel, by decide +kernel⟩, List.mem_of_getElem? (i := 688) (by decide +kernel), List.mem_of_getElem? (i := 835) (by decide +kernel), List.mem_of_getElem? (i := 836) (by decide +kernel)⟩
theorem lw_p30 : lw_okq (⟨"ChoirBookModel", "isSinger", "(I)Z"⟩, 31) := ⟨⟨by decide +kernel, by decide +kernel⟩, List.mem_of_getElem? (i := 688) (by decide +kernel), List.mem_of_getElem? (i := 843) (by decide +kernel), List.mem_of_getElem? (i := 844) (by decide +kernel)⟩
theorem lw_p31 : lw_okq (⟨"ChoirBookModel", "findSolos", "()V"⟩, 31) := ⟨⟨by decide +kernel, by decide +kernel⟩, List.mem_of_getElem? (i := 688) (by decide +kernel), List.mem_of_getElem? (i := 851) (by decide +kernel), List.mem_of_getElem? (i := 852) (by decide +kernel)⟩
def lw_privs_2 : List (MethodName × Nat) := [(⟨"ChoirBook$Rehearsal", "findStandIns", "(LChoirBook$Choir;I)V"⟩, 3), (⟨"ChoirBook$Rehearsal", "canStandIn", "(LChoirBook$Choir;II)Z"⟩, 3), (⟨"ChoirBook$Rehearsal", "findSoloist", "(LChoirBook$Choir;I)I"⟩, 3), (⟨"ChoirBookModel", "remember", "()V"⟩, 31), (⟨"ChoirBookModel", "findBest", "(I)V"⟩, 31), (⟨"ChoirBookModel", "fits", "(I)I"⟩, 31), (⟨"ChoirBookModel", "isFit", "(II)Z"⟩, 31), (⟨"ChoirBookModel", "overlapOf", "(II)I"⟩, 31), (⟨"ChoirBookModel", "findRange", "(I)V"⟩, 31), (⟨"ChoirBookModel", "of", "(II)I"⟩, 31), (⟨"ChoirBookModel", "nextPart", "(II)I"⟩, 31), (⟨"ChoirBookModel", "change", "(II)V"⟩, 31), (⟨"ChoirBookModel", "judge", "()V"⟩, 31), (⟨"ChoirBookModel", "put", "(III)V"⟩, 31), (⟨"ChoirBookModel", "isSinger", "(I)Z"⟩, 31), (⟨"ChoirBookModel", "findSolos", "()V"⟩, 31)]
theorem lw_r2 : ∀ q ∈ lw_privs_2, lw_okq q := List.forall_mem_cons.mpr ⟨lw_p16, List.forall_mem_cons.mpr ⟨lw_p17, List.forall_mem_cons.mpr ⟨lw_p18, List.forall_mem_cons.mpr ⟨lw_p19, List.forall_mem_cons.mpr ⟨lw_p20, List.forall_mem_cons.mpr ⟨lw_p21, List.forall_mem_cons.mpr ⟨lw_p22, List.forall_mem_cons.mpr ⟨lw_p23, List.forall_mem_cons.mpr ⟨lw_p24, List.forall_mem_cons.mpr ⟨lw_p25, List.forall_mem_cons.mpr ⟨lw_p26, List.forall_mem_cons.mpr ⟨lw_p27, List.forall_mem_cons.mpr ⟨lw_p28, List.forall_mem_cons.mpr ⟨lw_p29, List.forall_mem_cons.mpr ⟨lw_p30, List.forall_mem_cons.mpr ⟨lw_p31, fun _ h => absurd h List.not_mem_nil⟩⟩⟩⟩⟩⟩⟩⟩⟩⟩⟩⟩⟩⟩⟩⟩
theorem lw_p32 : lw_okq (⟨"ChoirBookModel", "findStandIns", "()V"⟩, 31) := ⟨⟨by decide +kernel, by decide +kernel⟩, List.mem_of_getElem? (i := 688) (by decide +kernel), List.mem_of_getElem? (i := 855) (by decide +kernel), List.mem_of_getElem? (i := 856) (by decide +kernel)⟩
theorem lw_p33 : lw_okq (⟨"ChoirBookModel", "presentStrength", "(I)I"⟩, 31) := ⟨⟨by decide +kernel, by decide +kernel⟩, List.mem_of_getElem? (i := 688) (by decide +kernel), List.mem_of_getElem? (i := 859) (by decide +kernel), List.mem_of_getElem? (i := 860) (by decide +kernel)⟩
theorem lw_p34 : lw_okq (⟨"ChoirBookModel", "isFree", "(II)Z"⟩, 31) := ⟨⟨by decide +kernel, by decide +kernel⟩, List.mem_of_getElem? (i := 688) (by decide +kernel), List.mem_of_getElem? (i := 863) (by decide +kernel), List.mem_of_getElem? (i := 864) (by decide +kernel)⟩
theorem lw_p35 : lw_okq (⟨"ChoirBookModel", "isRested", "(I)Z"⟩, 31) := ⟨⟨by decide +kernel, by decide +kernel⟩, List.mem_of_getElem? (i := 688) (by decide +kernel), List.mem_of_getElem? (i := 867) (by decide +kernel), List.mem_of_getElem? (i := 868) (by decide +kernel)⟩
theorem lw_p36 : lw_okq (⟨"ChoirBookModel", "isBefore", "(II)Z"⟩, 31) := ⟨⟨by decide +kernel, by decide +kernel⟩, List.mem_of_getElem? (i := 688) (by decide +kernel), List.mem_of_getElem? (i := 871) (by decide +kernel), List.mem_of_getElem? (i := 872) (by decide +kernel)⟩
theorem lw_p37 : lw_okq (⟨"ChoirBookModel", "hasFault", "(Z)Z"⟩, 31) := ⟨⟨by decide +kernel, by decide +kernel⟩, List.mem_of_getElem? (i := 688) (by decide +kernel), List.mem_of_getElem? (i := 879) (by decide +kernel), List.mem_of_getElem? (i := 880) (by decide +kernel)⟩
theorem lw_p38 : lw_okq (⟨"ChoirBookModel", "fails", "(II)V"⟩, 31) := ⟨⟨by decide +kernel, by decide +kernel⟩, List.mem_of_getElem? (i := 688) (by decide +kernel), List.mem_of_getElem? (i := 883) (by decide +kernel), List.mem_of_getElem? (i := 884) (by decide +kernel)⟩
theorem lw_p39 : lw_okq (⟨"ChoirBookModel", "readDigit", "(I)V"⟩, 31) := ⟨⟨by decide +kernel, by decide +kernel⟩, List.mem_of_getElem? (i := 688) (by decide +kernel), List.mem_of_getElem? (i := 887) (by decide +kernel), List.mem_of_getElem? (i := 888) (by decide +kernel)⟩
theorem lw_p40 : lw_okq (⟨"ChoirBookModel", "readOther", "(IZ)V"⟩, 31) := ⟨⟨by decide +kernel, by decide +kernel⟩, List.mem_of_getElem? (i := 688) (by decide +kernel), List.mem_of_getElem? (i := 891) (by decide +kernel), List.mem_of_getElem? (i := 892) (by decide +kernel)⟩
theorem lw_p41 : lw_okq (⟨"ChoirBookModel", "endsWell", "()Z"⟩, 31) := ⟨⟨by decide +kernel, by decide +kernel⟩, List.mem_of_getElem? (i := 688) (by decide +kernel), List.mem_of_getElem? (i := 895) (by decide +kernel), List.mem_of_getElem? (i := 896) (by decide +kernel)⟩
theorem lw_p42 : lw_okq (⟨"ChoirBookModel", "rangeSize", "(I)I"⟩, 31) := ⟨⟨by decide +kernel, by decide +kernel⟩, List.mem_of_getElem? (i := 688) (by decide +kernel), List.mem_of_getElem? (i := 899) (by decide +kernel), List.mem_of_getElem? (i := 900) (by decide +kernel)⟩
theorem lw_p43 : lw_okq (⟨"ChoirBookModel", "absent", "()I"⟩, 31) := ⟨⟨by decide +kernel, by decide +kernel⟩, List.mem_of_getElem? (i := 688) (by decide +kernel), List.mem_of_getElem? (i := 907) (by decide +kernel), List.mem_of_getElem? (i := 908) (by decide +kernel)⟩
theorem lw_p44 : lw_okq (⟨"ChoirBookModel", "placedIn", "(I)I"⟩, 31) := ⟨⟨by decide +kernel, by decide +kernel⟩, List.mem_of_getElem? (i := 688) (by decide +kernel), List.mem_of_getElem? (i := 953) (by decide +kernel), List.mem_of_getElem? (i := 954) (by decide +kernel)⟩
theorem lw_p45 : lw_okq (⟨"ChoirBookModel", "covered", "()I"⟩, 31) := ⟨⟨by decide +kernel, by decide +kernel⟩, List.mem_of_getElem? (i := 688) (by decide +kernel), List.mem_of_getElem? (i := 957) (by decide +kernel), List.mem_of_getElem? (i := 958) (by decide +kernel)⟩
theorem lw_p46 : lw_okq (⟨"ChoirBookModel", "strengthOf", "(I)I"⟩, 31) := ⟨⟨by decide +kernel, by decide +kernel⟩, List.mem_of_getElem? (i := 688) (by decide +kernel), List.mem_of_getElem? (i := 981) (by decide +kernel), List.mem_of_getElem? (i := 982) (by decide +kernel)⟩
theorem lw_p47 : lw_okq (⟨"ChoirBookModel", "rows", "(I)I"⟩, 31) := ⟨⟨by decide +kernel, by decide +kernel⟩, List.mem_of_getElem? (i := 688) (by decide +kernel), List.mem_of_getElem? (i := 985) (by decide +kernel), List.mem_of_getElem? (i := 986) (by decide +kernel)⟩
def lw_privs_3 : List (MethodName × Nat) := [(⟨"ChoirBookModel", "findStandIns", "()V"⟩, 31), (⟨"ChoirBookModel", "presentStrength", "(I)I"⟩, 31), (⟨"ChoirBookModel", "isFree", "(II)Z"⟩, 31), (⟨"ChoirBookModel", "isRested", "(I)Z"⟩, 31), (⟨"ChoirBookModel", "isBefore", "(II)Z"⟩, 31), (⟨"ChoirBookModel", "hasFault", "(Z)Z"⟩, 31), (⟨"ChoirBookModel", "fails", "(II)V"⟩, 31), (⟨"ChoirBookModel", "readDigit", "(I)V"⟩, 31), (⟨"ChoirBookModel", "readOther", "(IZ)V"⟩, 31), (⟨"ChoirBookModel", "endsWell", "()Z"⟩, 31), (⟨"ChoirBookModel", "rangeSize", "(I)I"⟩, 31), (⟨"ChoirBookModel", "absent", "()I"⟩, 31), (⟨"ChoirBookModel", "placedIn", "(I)I"⟩, 31), (⟨"ChoirBookModel", "covered", "()I"⟩, 31), (⟨"ChoirBookModel", "strengthOf", "(I)I"⟩, 31), (⟨"ChoirBookModel", "rows", "(I)I"⟩, 31)]
theorem lw_r3 : ∀ q ∈ lw_privs_3, lw_okq q := List.forall_mem_cons.mpr ⟨lw_p32, List.forall_mem_cons.mpr ⟨lw_p33, List.forall_mem_cons.mpr ⟨lw_p34, List.forall_mem_cons.mpr ⟨lw_p35, List.forall_mem_cons.mpr ⟨lw_p36, List.forall_mem_cons.mpr ⟨lw_p37, List.forall_mem_cons.mpr ⟨lw_p38, List.forall_mem_cons.mpr ⟨lw_p39, List.forall_mem_cons.mpr ⟨lw_p40, List.forall_mem_cons.mpr ⟨lw_p41, List.forall_mem_cons.mpr ⟨lw_p42, List.forall_mem_cons.mpr ⟨lw_p43, List.forall_mem_cons.mpr ⟨lw_p44, List.forall_mem_cons.mpr ⟨lw_p45, List.forall_mem_cons.mpr ⟨lw_p46, List.forall_mem_cons.mpr ⟨lw_p47, fun _ h => absurd h List.not_mem_nil⟩⟩⟩⟩⟩⟩⟩⟩⟩⟩⟩⟩⟩⟩⟩⟩
def lw_privs : List (MethodName × Nat) := lw_privs_1 ++ (lw_privs_2 ++ (lw_privs_3))
def lw_tbl : List Cond := k2_sels lw_privs ++ tables_1
theorem lw_privs_ok : ∀ q ∈ lw_privs, lw_okq q := by
  show ∀ q ∈ lw_privs_1 ++ (lw_privs_2 ++ (lw_privs_3)), lw_okq q
  exact List.forall_mem_append.mpr ⟨lw_r1, List.forall_mem_append.mpr ⟨lw_r2, lw_r3⟩⟩
/-- the streams that the claim lets the run draw from -/
abbrev lw_cs : List Choice := [Jvm.Choice.named "NaN.bits"]
theorem lw_bits : nanBits ∈ lw_cs := by first | decide | exact List.mem_cons_self | simp [lw_cs, nanBits]
/-! names -/
def RX0 : String := "ChoirBook$Choir"
def TX0 : u_T := fun k => match k with
  | 0 => ("ChoirBook$Choir", "singers", "[LChoirBook$Singer;", true)
  | 1 => ("ChoirBook$Choir", "settings", "[I", true)
  | 2 => ("ChoirBook$Choir", "soloists", "[I", true)
  | 3 => ("ChoirBook$Choir", "weak", "[I", true)
  | 4 => ("ChoirBook$Choir", "count", "I", false)
  | 5 => ("ChoirBook$Choir", "held", "I", false)
  | 6 => ("ChoirBook$Choir", "solos", "I", false)
  | _ => ("ChoirBook$Choir", "standIns", "I", false)
def tyX0 : Nat → FieldType := fun k => match k with
  | 0 => .array (.object "ChoirBook$Singer")
  | 1 => .array .int
  | 2 => .array .int
  | 3 => .array .int
  | 4 => .int
  | 5 => .int
  | 6 => .int
  | _ => .int
abbrev wsX00 : List Cond := u_ws RX0 TX0 8
theorem nmX0 : ∀ a, a < 8 → ∀ b, b < 8 → a ≠ b → (TX0 a).2.1 ≠ (TX0 b).2.1 := by decide +kernel
theorem tyX0_ok : ∀ k, k < 8 → parseFieldDescriptor (TX0 k).2.2.1 = some (tyX0 k) := by decide +kernel
abbrev cX0_init : ByteArray := prog_2_method_1_code
def yX0_init : MethodName := ⟨RX0, "<init>", "()V"⟩
abbrev cX0_copyFrom : ByteArray := prog_2_method_2_code
def yX0_copyFrom : MethodName := ⟨RX0, "copyFrom", "(LChoirBook$Choir;)V"⟩
abbrev cX0_has : ByteArray := prog_2_method_3_code
def yX0_has : MethodName := ⟨RX0, "has", "(I)Z"⟩
abbrev cX0_join : ByteArray := prog_2_method_4_code
def yX0_join : MethodName := ⟨RX0, "join", "(II)V"⟩
abbrev cX0_dismiss : ByteArray := prog_2_method_5_code
def yX0_dismiss : MethodName := ⟨RX0, "dismiss", "(I)V"⟩
abbrev cX0_fits : ByteArray := prog_2_method_6_code
def yX0_fits : MethodName := ⟨RX0, "fits", "(II)Z"⟩
abbrev cX0_fittingParts : ByteArray := prog_2_method_7_code
def yX0_fittingParts : MethodName := ⟨RX0, "fittingParts", "(I)I"⟩
abbrev cX0_placed : ByteArray := prog_2_method_8_code
def yX0_placed : MethodName := ⟨RX0, "placed", "()I"⟩
abbrev cX0_absent : ByteArray := prog_2_method_9_code
def yX0_absent : MethodName := ⟨RX0, "absent", "()I"⟩
abbrev cX0_members : ByteArray := prog_2_method_10_code
def yX0_members : MethodName := ⟨RX0, "members", "(I)I"⟩
abbrev cX0_strength : ByteArray := prog_2_method_11_code
def yX0_strength : MethodName := ⟨RX0, "strength", "(I)I"⟩
abbrev cX0_strengthPresent : ByteArray := prog_2_method_12_code
def yX0_strengthPresent : MethodName := ⟨RX0, "strengthPresent", "(I)I"⟩
abbrev cX0_covers : ByteArray := prog_2_method_13_code
def yX0_covers : MethodName := ⟨RX0, "covers", "(I)Z"⟩
abbrev cX0_coveredParts : ByteArray := prog_2_method_14_code
def yX0_coveredParts : MethodName := ⟨RX0, "coveredParts", "()I"⟩
abbrev cX0_rested : ByteArray := prog_2_method_15_code
def yX0_rested : MethodName := ⟨RX0, "rested", "(LChoirBook$Singer;)Z"⟩
abbrev cX0_width : ByteArray := prog_2_method_16_code
def yX0_width : MethodName := ⟨RX0, "width", "()I"⟩
abbrev cX0_rows : ByteArray := prog_2_method_17_code
def yX0_rows : MethodName := ⟨RX0, "rows", "(I)I"⟩
abbrev cX0_rowsBefore : ByteArray := prog_2_method_18_code
def yX0_rowsBefore : MethodName := ⟨RX0, "rowsBefore", "(I)I"⟩
abbrev cX0_seatedBefore : ByteArray := prog_2_method_19_code
def yX0_seatedBefore : MethodName := ⟨RX0, "seatedBefore", "(I)I"⟩
def RX1 : String := "ChoirBook$History"
def TX1 : u_T := fun k => match k with
  | 0 => ("ChoirBook$History", "states", "[LChoirBook$Choir;", true)
  | 1 => ("ChoirBook$History", "oldest", "I", false)
  | _ => ("ChoirBook$History", "size", "I", false)
def tyX1 : Nat → FieldType := fun k => match k with
  | 0 => .array (.object "ChoirBook$Choir")
  | 1 => .int
  | _ => .int
abbrev wsX10 : List Cond := u_ws RX1 TX1 3
theorem nmX1 : ∀ a, a < 3 → ∀ b, b < 3 → a ≠ b → (TX1 a).2.1 ≠ (TX1 b).2.1 := by decide +kernel
theorem tyX1_ok : ∀ k, k < 3 → parseFieldDescriptor (TX1 k).2.2.1 = some (tyX1 k) := by decide +kernel
abbrev cX1_init : ByteArray := prog_3_method_1_code
def yX1_init : MethodName := ⟨RX1, "<init>", "()V"⟩
abbrev cX1_record : ByteArray := prog_3_method_2_code
def yX1_record : MethodName := ⟨RX1, "record", "(LChoirBook$Choir;)V"⟩
abbrev cX1_restore : ByteArray := prog_3_method_3_code
def yX1_restore : MethodName := ⟨RX1, "restore", "(LChoirBook$Choir;)V"⟩
def RX2 : String := "ChoirBook$Placing"
def TX2 : u_T := fun k => match k with
  | 0 => ("ChoirBook$Placing", "upper", "LChoirBook$Split;", true)
  | 1 => ("ChoirBook$Placing", "lower", "LChoirBook$Split;", true)
  | 2 => ("ChoirBook$Placing", "sum", "[I", true)
  | 3 => ("ChoirBook$Placing", "got", "[I", true)
  | 4 => ("ChoirBook$Placing", "voice", "[I", true)
  | 5 => ("ChoirBook$Placing", "strength", "[I", true)
  | 6 => ("ChoirBook$Placing", "fitting", "[I", true)
  | 7 => ("ChoirBook$Placing", "voices", "I", false)
  | 8 => ("ChoirBook$Placing", "least", "I", false)
  | _ => ("ChoirBook$Placing", "greatest", "I", false)
def tyX2 : Nat → FieldType := fun k => match k with
  | 0 => .object "ChoirBook$Split"
  | 1 => .object "ChoirBook$Split"
  | 2 => .array .int
  | 3 => .array .int
  | 4 => .array .int
  | 5 => .array .int
  | 6 => .array .int
  | 7 => .int
  | 8 => .int
  | _ => .int
abbrev wsX20 : List Cond := u_ws RX2 TX2 10
theorem nmX2 : ∀ a, a < 10 → ∀ b, b < 10 → a ≠ b → (TX2 a).2.1 ≠ (TX2 b).2.1 := by decide +kernel
theorem tyX2_ok : ∀ k, k < 10 → parseFieldDescriptor (TX2 k).2.2.1 = some (tyX2 k) := by decide +kernel
abbrev cX2_init : ByteArray := prog_4_method_1_code
def yX2_init : MethodName := ⟨RX2, "<init>", "()V"⟩
abbrev cX2_weigh : ByteArray := prog_4_method_2_code
def yX2_weigh : MethodName := ⟨RX2, "weigh", "(LChoirBook$Choir;I)V"⟩
abbrev cX2_addVoice : ByteArray := prog_4_method_3_code
def yX2_addVoice : MethodName := ⟨RX2, "addVoice", "(III)V"⟩
abbrev cX2_weighPairs : ByteArray := prog_4_method_4_code
def yX2_weighPairs : MethodName := ⟨RX2, "weighPairs", "(II)V"⟩
abbrev cX2_choose : ByteArray := prog_4_method_5_code
def yX2_choose : MethodName := ⟨RX2, "choose", "(LChoirBook$Choir;)V"⟩
abbrev cX2_firstGoodPart : ByteArray := prog_4_method_6_code
def yX2_firstGoodPart : MethodName := ⟨RX2, "firstGoodPart", "(I)I"⟩
abbrev cX2_canFinish : ByteArray := prog_4_method_7_code
def yX2_canFinish : MethodName := ⟨RX2, "canFinish", "(I)Z"⟩
abbrev cX2_pairCanReach : ByteArray := prog_4_method_8_code
def yX2_pairCanReach : MethodName := ⟨RX2, "pairCanReach", "(LChoirBook$Split;II)Z"⟩
def RX3 : String := "ChoirBook$Reader"
def TX3 : u_T := fun k => match k with
  | 0 => ("ChoirBook$Reader", "told", "J", false)
  | 1 => ("ChoirBook$Reader", "sung", "J", false)
  | 2 => ("ChoirBook$Reader", "faultKind", "I", false)
  | 3 => ("ChoirBook$Reader", "faultPlace", "I", false)
  | 4 => ("ChoirBook$Reader", "highest", "I", false)
  | 5 => ("ChoirBook$Reader", "signs", "Z", false)
  | 6 => ("ChoirBook$Reader", "where", "I", false)
  | 7 => ("ChoirBook$Reader", "value", "I", false)
  | 8 => ("ChoirBook$Reader", "digits", "I", false)
  | 9 => ("ChoirBook$Reader", "start", "I", false)
  | _ => ("ChoirBook$Reader", "first", "I", false)
def tyX3 : Nat → FieldType := fun k => match k with
  | 0 => .long
  | 1 => .long
  | 2 => .int
  | 3 => .int
  | 4 => .int
  | 5 => .boolean
  | 6 => .int
  | 7 => .int
  | 8 => .int
  | 9 => .int
  | _ => .int
abbrev wsX30 : List Cond := u_ws RX3 TX3 11
theorem nmX3 : ∀ a, a < 11 → ∀ b, b < 11 → a ≠ b → (TX3 a).2.1 ≠ (TX3 b).2.1 := by decide +kernel
theorem tyX3_ok : ∀ k, k < 11 → parseFieldDescriptor (TX3 k).2.2.1 = some (tyX3 k) := by decide +kernel
abbrev cX3_init : ByteArray := prog_5_method_1_code
def yX3_init : MethodName := ⟨RX3, "<init>", "()V"⟩
abbrev cX3_readTests : ByteArray := prog_5_method_2_code
def yX3_readTests : MethodName := ⟨RX3, "readTests", "(LChoirBook$Text;LChoirBook$Singer;)Z"⟩
abbrev cX3_readAbsent : ByteArray := prog_5_method_3_code
def yX3_readAbsent : MethodName := ⟨RX3, "readAbsent", "(LChoirBook$Text;I)Z"⟩
abbrev cX3_read : ByteArray := prog_5_method_4_code
def yX3_read : MethodName := ⟨RX3, "read", "(LChoirBook$Text;)Z"⟩
abbrev cX3_take : ByteArray := prog_5_method_5_code
def yX3_take : MethodName := ⟨RX3, "take", "(II)Z"⟩
abbrev cX3_inNumber : ByteArray := prog_5_method_6_code
def yX3_inNumber : MethodName := ⟨RX3, "inNumber", "()Z"⟩
abbrev cX3_beginNumber : ByteArray := prog_5_method_7_code
def yX3_beginNumber : MethodName := ⟨RX3, "beginNumber", "(II)V"⟩
abbrev cX3_takeDigit : ByteArray := prog_5_method_8_code
def yX3_takeDigit : MethodName := ⟨RX3, "takeDigit", "(II)Z"⟩
abbrev cX3_takeBehindNumber : ByteArray := prog_5_method_9_code
def yX3_takeBehindNumber : MethodName := ⟨RX3, "takeBehindNumber", "(II)Z"⟩
abbrev cX3_end : ByteArray := prog_5_method_10_code
def yX3_end : MethodName := ⟨RX3, "end", "(I)Z"⟩
abbrev cX3_numberStands : ByteArray := prog_5_method_11_code
def yX3_numberStands : MethodName := ⟨RX3, "numberStands", "()Z"⟩
abbrev cX3_closeWord : ByteArray := prog_5_method_12_code
def yX3_closeWord : MethodName := ⟨RX3, "closeWord", "(Z)V"⟩
abbrev cX3_fail : ByteArray := prog_5_method_13_code
def yX3_fail : MethodName := ⟨RX3, "fail", "(II)Z"⟩
def RX4 : String := "ChoirBook$Rehearsal"
def TX4 : u_T := fun k => match k with
  | 0 => ("ChoirBook$Rehearsal", "standsIn", "[I", true)
  | 1 => ("ChoirBook$Rehearsal", "strength", "[I", true)
  | _ => ("ChoirBook$Rehearsal", "soloist", "[I", true)
def tyX4 : Nat → FieldType := fun k => match k with
  | 0 => .array .int
  | 1 => .array .int
  | _ => .array .int
abbrev wsX40 : List Cond := u_ws RX4 TX4 3
theorem nmX4 : ∀ a, a < 3 → ∀ b, b < 3 → a ≠ b → (TX4 a).2.1 ≠ (TX4 b).2.1 := by decide +kernel
theorem tyX4_ok : ∀ k, k < 3 → parseFieldDescriptor (TX4 k).2.2.1 = some (tyX4 k) := by decide +kernel
abbrev cX4_init : ByteArray := prog_6_method_1_code
def yX4_init : MethodName := ⟨RX4, "<init>", "()V"⟩
abbrev cX4_plan : ByteArray := prog_6_method_2_code
def yX4_plan : MethodName := ⟨RX4, "plan", "(LChoirBook$Choir;)V"⟩
abbrev cX4_findStandIns : ByteArray := prog_6_method_3_code
def yX4_findStandIns : MethodName := ⟨RX4, "findStandIns", "(LChoirBook$Choir;I)V"⟩
abbrev cX4_canStandIn : ByteArray := prog_6_method_4_code
def yX4_canStandIn : MethodName := ⟨RX4, "canStandIn", "(LChoirBook$Choir;II)Z"⟩
abbrev cX4_findSoloist : ByteArray := prog_6_method_5_code
def yX4_findSoloist : MethodName := ⟨RX4, "findSoloist", "(LChoirBook$Choir;I)I"⟩
abbrev cX4_happen : ByteArray := prog_6_method_6_code
def yX4_happen : MethodName := ⟨RX4, "happen", "(LChoirBook$Choir;)I"⟩
def RX5 : String := "ChoirBook$Singer"
def TX5 : u_T := fun k => match k with
  | 0 => ("ChoirBook$Singer", "strength", "I", false)
  | 1 => ("ChoirBook$Singer", "height", "I", false)
  | 2 => ("ChoirBook$Singer", "tested", "J", false)
  | 3 => ("ChoirBook$Singer", "sung", "J", false)
  | 4 => ("ChoirBook$Singer", "lowest", "I", false)
  | 5 => ("ChoirBook$Singer", "range", "I", false)
  | 6 => ("ChoirBook$Singer", "part", "I", false)
  | 7 => ("ChoirBook$Singer", "present", "Z", false)
  | 8 => ("ChoirBook$Singer", "solos", "I", false)
  | 9 => ("ChoirBook$Singer", "latestSolo", "I", false)
  | _ => ("ChoirBook$Singer", "standIns", "I", false)
def tyX5 : Nat → FieldType := fun k => match k with
  | 0 => .int
  | 1 => .int
  | 2 => .long
  | 3 => .long
  | 4 => .int
  | 5 => .int
  | 6 => .int
  | 7 => .boolean
  | 8 => .int
  | 9 => .int
  | _ => .int
abbrev wsX50 : List Cond := u_ws RX5 TX5 11
theorem nmX5 : ∀ a, a < 11 → ∀ b, b < 11 → a ≠ b → (TX5 a).2.1 ≠ (TX5 b).2.1 := by decide +kernel
theorem tyX5_ok : ∀ k, k < 11 → parseFieldDescriptor (TX5 k).2.2.1 = some (tyX5 k) := by decide +kernel
abbrev cX5_init : ByteArray := prog_7_method_1_code
def yX5_init : MethodName := ⟨RX5, "<init>", "()V"⟩
abbrev cX5_begin : ByteArray := prog_7_method_2_code
def yX5_begin : MethodName := ⟨RX5, "begin", "(II)V"⟩
abbrev cX5_copyFrom : ByteArray := prog_7_method_3_code
def yX5_copyFrom : MethodName := ⟨RX5, "copyFrom", "(LChoirBook$Singer;)V"⟩
abbrev cX5_learn : ByteArray := prog_7_method_4_code
def yX5_learn : MethodName := ⟨RX5, "learn", "(JJ)V"⟩
abbrev cX5_notesIn : ByteArray := prog_7_method_5_code
def yX5_notesIn : MethodName := ⟨RX5, "notesIn", "(I)I"⟩
abbrev cX5_sitsBefore : ByteArray := prog_7_method_6_code
def yX5_sitsBefore : MethodName := ⟨RX5, "sitsBefore", "(LChoirBook$Singer;Z)Z"⟩
abbrev cX5_singsBefore : ByteArray := prog_7_method_7_code
def yX5_singsBefore : MethodName := ⟨RX5, "singsBefore", "(LChoirBook$Singer;)Z"⟩
def RX6 : String := "ChoirBook$Split"
def TX6 : u_T := fun k => match k with
  | 0 => ("ChoirBook$Split", "low", "[J", true)
  | _ => ("ChoirBook$Split", "high", "[J", true)
def tyX6 : Nat → FieldType := fun k => match k with
  | 0 => .array .long
  | _ => .array .long
abbrev wsX60 : List Cond := u_ws RX6 TX6 2
theorem nmX6 : ∀ a, a < 2 → ∀ b, b < 2 → a ≠ b → (TX6 a).2.1 ≠ (TX6 b).2.1 := by decide +kernel
theorem tyX6_ok : ∀ k, k < 2 → parseFieldDescriptor (TX6 k).2.2.1 = some (tyX6 k) := by decide +kernel
abbrev cX6_init : ByteArray := prog_8_method_1_code
def yX6_init : MethodName := ⟨RX6, "<init>", "()V"⟩
abbrev cX6_addVoice : ByteArray := prog_8_method_2_code
def yX6_addVoice : MethodName := ⟨RX6, "addVoice", "(IIZZ)V"⟩
abbrev cX6_evenest : ByteArray := prog_8_method_3_code
def yX6_evenest : MethodName := ⟨RX6, "evenest", "(II)I"⟩
abbrev cX6_gives : ByteArray := prog_8_method_4_code
def yX6_gives : MethodName := ⟨RX6, "gives", "(II)Z"⟩
abbrev cX6_reaches : ByteArray := prog_8_method_5_code
def yX6_reaches : MethodName := ⟨RX6, "reaches", "(III)Z"⟩
abbrev cX6_bits : ByteArray := prog_8_method_6_code
def yX6_bits : MethodName := ⟨RX6, "bits", "(II)J"⟩
def RX7 : String := "ChoirBook$Text"
def TX7 : u_T := fun k => match k with
  | 0 => ("ChoirBook$Text", "codes", "[I", true)
  | _ => ("ChoirBook$Text", "length", "I", false)
def tyX7 : Nat → FieldType := fun k => match k with
  | 0 => .array .int
  | _ => .int
abbrev wsX70 : List Cond := u_ws RX7 TX7 2
theorem nmX7 : ∀ a, a < 2 → ∀ b, b < 2 → a ≠ b → (TX7 a).2.1 ≠ (TX7 b).2.1 := by decide +kernel
theorem tyX7_ok : ∀ k, k < 2 → parseFieldDescriptor (TX7 k).2.2.1 = some (tyX7 k) := by decide +kernel
abbrev cX7_init : ByteArray := prog_9_method_1_code
def yX7_init : MethodName := ⟨RX7, "<init>", "()V"⟩
def RX8 : String := "ChoirBook"
def TX8 : u_T := fun k => match k with
  | 0 => ("ChoirBook", "choir", "LChoirBook$Choir;", true)
  | 1 => ("ChoirBook", "history", "LChoirBook$History;", true)
  | 2 => ("ChoirBook", "images", "[LChoirBook$Choir;", true)
  | 3 => ("ChoirBook", "kept", "[Z", true)
  | 4 => ("ChoirBook", "text", "LChoirBook$Text;", true)
  | 5 => ("ChoirBook", "reader", "LChoirBook$Reader;", true)
  | 6 => ("ChoirBook", "next", "LChoirBook$Rehearsal;", true)
  | _ => ("ChoirBook", "placing", "LChoirBook$Placing;", true)
def tyX8 : Nat → FieldType := fun k => match k with
  | 0 => .object "ChoirBook$Choir"
  | 1 => .object "ChoirBook$History"
  | 2 => .array (.object "ChoirBook$Choir")
  | 3 => .array .boolean
  | 4 => .object "ChoirBook$Text"
  | 5 => .object "ChoirBook$Reader"
  | 6 => .object "ChoirBook$Rehearsal"
  | _ => .object "ChoirBook$Placing"
abbrev wsX80 : List Cond := u_ws RX8 TX8 8
theorem nmX8 : ∀ a, a < 8 → ∀ b, b < 8 → a ≠ b → (TX8 a).2.1 ≠ (TX8 b).2.1 := by decide +kernel
theorem tyX8_ok : ∀ k, k < 8 → parseFieldDescriptor (TX8 k).2.2.1 = some (tyX8 k) := by decide +kernel
abbrev cX8_init : ByteArray := prog_1_method_1_code
def yX8_init : MethodName := ⟨RX8, "<init>", "()V"⟩
abbrev cX8_add : ByteArray := prog_1_method_2_code
def yX8_add : MethodName := ⟨RX8, "add", "(II)I"⟩
abbrev cX8_remove : ByteArray := prog_1_method_3_code
def yX8_remove : MethodName := ⟨RX8, "remove", "(I)I"⟩
abbrev cX8_set : ByteArray := prog_1_method_4_code
def yX8_set : MethodName := ⟨RX8, "set", "(II)I"⟩
abbrev cX8_test : ByteArray := prog_1_method_5_code
def yX8_test : MethodName := ⟨RX8, "test", "(I)I"⟩
abbrev cX8_place : ByteArray := prog_1_method_6_code
def yX8_place : MethodName := ⟨RX8, "place", "(II)I"⟩
abbrev cX8_placeAll : ByteArray := prog_1_method_7_code
def yX8_placeAll : MethodName := ⟨RX8, "placeAll", "()I"⟩
abbrev cX8_attendance : ByteArray := prog_1_method_8_code
def yX8_attendance : MethodName := ⟨RX8, "attendance", "()I"⟩
abbrev cX8_hold : ByteArray := prog_1_method_9_code
def yX8_hold : MethodName := ⟨RX8, "hold", "()I"⟩
abbrev cX8_undo : ByteArray := prog_1_method_10_code
def yX8_undo : MethodName := ⟨RX8, "undo", "()I"⟩
abbrev cX8_write : ByteArray := prog_1_method_11_code
def yX8_write : MethodName := ⟨RX8, "write", "(I)I"⟩
abbrev cX8_wipe : ByteArray := prog_1_method_12_code
def yX8_wipe : MethodName := ⟨RX8, "wipe", "()I"⟩
abbrev cX8_fault : ByteArray := prog_1_method_13_code
def yX8_fault : MethodName := ⟨RX8, "fault", "(I)I"⟩
abbrev cX8_told : ByteArray := prog_1_method_14_code
def yX8_told : MethodName := ⟨RX8, "told", "(I)I"⟩
abbrev cX8_setting : ByteArray := prog_1_method_15_code
def yX8_setting : MethodName := ⟨RX8, "setting", "(I)I"⟩
abbrev cX8_singer : ByteArray := prog_1_method_16_code
def yX8_singer : MethodName := ⟨RX8, "singer", "(II)I"⟩
abbrev cX8_note : ByteArray := prog_1_method_17_code
def yX8_note : MethodName := ⟨RX8, "note", "(II)I"⟩
abbrev cX8_overlap : ByteArray := prog_1_method_18_code
def yX8_overlap : MethodName := ⟨RX8, "overlap", "(II)I"⟩
abbrev cX8_part : ByteArray := prog_1_method_19_code
def yX8_part : MethodName := ⟨RX8, "part", "(II)I"⟩
abbrev cX8_seat : ByteArray := prog_1_method_20_code
def yX8_seat : MethodName := ⟨RX8, "seat", "(II)I"⟩
abbrev cX8_solo : ByteArray := prog_1_method_21_code
def yX8_solo : MethodName := ⟨RX8, "solo", "(II)I"⟩
abbrev cX8_mean : ByteArray := prog_1_method_22_code
def yX8_mean : MethodName := ⟨RX8, "mean", "()F"⟩
abbrev cX8_standIn : ByteArray := prog_1_method_23_code
def yX8_standIn : MethodName := ⟨RX8, "standIn", "(I)I"⟩
abbrev cX8_passedOver : ByteArray := prog_1_method_24_code
def yX8_passedOver : MethodName := ⟨RX8, "passedOver", "(I)I"⟩
abbrev cX8_without : ByteArray := prog_1_method_25_code
def yX8_without : MethodName := ⟨RX8, "without", "(I)I"⟩
abbrev cX8_keep : ByteArray := prog_1_method_26_code
def yX8_keep : MethodName := ⟨RX8, "keep", "(I)I"⟩
abbrev cX8_back : ByteArray := prog_1_method_27_code
def yX8_back : MethodName := ⟨RX8, "back", "(I)I"⟩
abbrev cX8_isSetting : ByteArray := prog_1_method_28_code
def yX8_isSetting : MethodName := ⟨RX8, "isSetting", "(I)Z"⟩
abbrev cX8_isPart : ByteArray := prog_1_method_29_code
def yX8_isPart : MethodName := ⟨RX8, "isPart", "(I)Z"⟩
abbrev cX8_isImage : ByteArray := prog_1_method_30_code
def yX8_isImage : MethodName := ⟨RX8, "isImage", "(I)Z"⟩
abbrev cX8_contains : ByteArray := prog_1_method_31_code
def yX8_contains : MethodName := ⟨RX8, "contains", "(JI)Z"⟩
def RX9 : String := "ChoirBookModel"
def TX9 : u_T := fun k => match k with
  | 0 => ("ChoirBookModel", "w", "[I", true)
  | 1 => ("ChoirBookModel", "past", "[I", true)
  | 2 => ("ChoirBookModel", "pastMany", "I", false)
  | 3 => ("ChoirBookModel", "images", "[I", true)
  | 4 => ("ChoirBookModel", "filled", "I", false)
  | 5 => ("ChoirBookModel", "text", "[I", true)
  | 6 => ("ChoirBookModel", "length", "I", false)
  | 7 => ("ChoirBookModel", "faultKind", "I", false)
  | 8 => ("ChoirBookModel", "faultPlace", "I", false)
  | 9 => ("ChoirBookModel", "low", "I", false)
  | 10 => ("ChoirBookModel", "high", "I", false)
  | 11 => ("ChoirBookModel", "may", "[I", true)
  | 12 => ("ChoirBookModel", "tried", "[I", true)
  | 13 => ("ChoirBookModel", "best", "[I", true)
  | 14 => ("ChoirBookModel", "sums", "[I", true)
  | 15 => ("ChoirBookModel", "bestLeast", "I", false)
  | 16 => ("ChoirBookModel", "bestMost", "I", false)
  | 17 => ("ChoirBookModel", "stands", "[I", true)
  | 18 => ("ChoirBookModel", "strength", "[I", true)
  | 19 => ("ChoirBookModel", "solos", "[I", true)
  | 20 => ("ChoirBookModel", "words", "I", false)
  | 21 => ("ChoirBookModel", "first", "[I", true)
  | 22 => ("ChoirBookModel", "last", "[I", true)
  | 23 => ("ChoirBookModel", "can", "[I", true)
  | 24 => ("ChoirBookModel", "wrongKind", "I", false)
  | 25 => ("ChoirBookModel", "wrongPlace", "I", false)
  | 26 => ("ChoirBookModel", "stage", "I", false)
  | 27 => ("ChoirBookModel", "value", "I", false)
  | 28 => ("ChoirBookModel", "digits", "I", false)
  | 29 => ("ChoirBookModel", "digitsAt", "I", false)
  | _ => ("ChoirBookModel", "greatest", "I", false)
def tyX9 : Nat → FieldType := fun k => match k with
  | 0 => .array .int
  | 1 => .array .int
  | 2 => .int
  | 3 => .array .int
  | 4 => .int
  | 5 => .array .int
  | 6 => .int
  | 7 => .int
  | 8 => .int
  | 9 => .int
  | 10 => .int
  | 11 => .array .int
  | 12 => .array .int
  | 13 => .array .int
  | 14 => .array .int
  | 15 => .int
  | 16 => .int
  | 17 => .array .int
  | 18 => .array .int
  | 19 => .array .int
  | 20 => .int
  | 21 => .array .int
  | 22 => .array .int
  | 23 => .array .int
  | 24 => .int
  | 25 => .int
  | 26 => .int
  | 27 => .int
  | 28 => .int
  | 29 => .int
  | _ => .int
abbrev wsX90 : List Cond := u_ws RX9 TX9 31
theorem nmX9 : ∀ a, a < 31 → ∀ b, b < 31 → a ≠ b → (TX9 a).2.1 ≠ (TX9 b).2.1 := by decide +kernel
theorem tyX9_ok : ∀ k, k < 31 → parseFieldDescriptor (TX9 k).2.2.1 = some (tyX9 k) := by decide +kernel
abbrev cX9_init : ByteArray := prog_11_method_1_code
def yX9_init : MethodName := ⟨RX9, "<init>", "()V"⟩
abbrev cX9_isIn : ByteArray := prog_11_method_3_code
def yX9_isIn : MethodName := ⟨RX9, "isIn", "(III)Z"⟩
abbrev cX9_remember : ByteArray := prog_11_method_4_code
def yX9_remember : MethodName := ⟨RX9, "remember", "()V"⟩
abbrev cX9_of : ByteArray := prog_11_method_5_code
def yX9_of : MethodName := ⟨RX9, "of", "(II)I"⟩
abbrev cX9_put : ByteArray := prog_11_method_6_code
def yX9_put : MethodName := ⟨RX9, "put", "(III)V"⟩
abbrev cX9_isSinger : ByteArray := prog_11_method_7_code
def yX9_isSinger : MethodName := ⟨RX9, "isSinger", "(I)Z"⟩
abbrev cX9_isPart : ByteArray := prog_11_method_8_code
def yX9_isPart : MethodName := ⟨RX9, "isPart", "(I)Z"⟩
abbrev cX9_findRange : ByteArray := prog_11_method_9_code
def yX9_findRange : MethodName := ⟨RX9, "findRange", "(I)V"⟩
abbrev cX9_overlapOf : ByteArray := prog_11_method_10_code
def yX9_overlapOf : MethodName := ⟨RX9, "overlapOf", "(II)I"⟩
abbrev cX9_isFit : ByteArray := prog_11_method_11_code
def yX9_isFit : MethodName := ⟨RX9, "isFit", "(II)Z"⟩
abbrev cX9_fits : ByteArray := prog_11_method_12_code
def yX9_fits : MethodName := ⟨RX9, "fits", "(I)I"⟩
abbrev cX9_judge : ByteArray := prog_11_method_13_code
def yX9_judge : MethodName := ⟨RX9, "judge", "()V"⟩
abbrev cX9_nextPart : ByteArray := prog_11_method_14_code
def yX9_nextPart : MethodName := ⟨RX9, "nextPart", "(II)I"⟩
abbrev cX9_change : ByteArray := prog_11_method_15_code
def yX9_change : MethodName := ⟨RX9, "change", "(II)V"⟩
abbrev cX9_findBest : ByteArray := prog_11_method_16_code
def yX9_findBest : MethodName := ⟨RX9, "findBest", "(I)V"⟩
abbrev cX9_placeAll : ByteArray := prog_11_method_17_code
def yX9_placeAll : MethodName := ⟨RX9, "placeAll", "()I"⟩
abbrev cX9_without : ByteArray := prog_11_method_18_code
def yX9_without : MethodName := ⟨RX9, "without", "(I)I"⟩
abbrev cX9_presentStrength : ByteArray := prog_11_method_19_code
def yX9_presentStrength : MethodName := ⟨RX9, "presentStrength", "(I)I"⟩
abbrev cX9_isFree : ByteArray := prog_11_method_20_code
def yX9_isFree : MethodName := ⟨RX9, "isFree", "(II)Z"⟩
abbrev cX9_findStandIns : ByteArray := prog_11_method_21_code
def yX9_findStandIns : MethodName := ⟨RX9, "findStandIns", "()V"⟩
abbrev cX9_isRested : ByteArray := prog_11_method_22_code
def yX9_isRested : MethodName := ⟨RX9, "isRested", "(I)Z"⟩
abbrev cX9_isBefore : ByteArray := prog_11_method_23_code
def yX9_isBefore : MethodName := ⟨RX9, "isBefore", "(II)Z"⟩
abbrev cX9_findSolos : ByteArray := prog_11_method_24_code
def yX9_findSolos : MethodName := ⟨RX9, "findSolos", "()V"⟩
abbrev cX9_hold : ByteArray := prog_11_method_25_code
def yX9_hold : MethodName := ⟨RX9, "hold", "()I"⟩
abbrev cX9_fails : ByteArray := prog_11_method_26_code
def yX9_fails : MethodName := ⟨RX9, "fails", "(II)V"⟩
abbrev cX9_endsWell : ByteArray := prog_11_method_27_code
def yX9_endsWell : MethodName := ⟨RX9, "endsWell", "()Z"⟩
abbrev cX9_readDigit : ByteArray := prog_11_method_28_code
def yX9_readDigit : MethodName := ⟨RX9, "readDigit", "(I)V"⟩
abbrev cX9_readOther : ByteArray := prog_11_method_29_code
def yX9_readOther : MethodName := ⟨RX9, "readOther", "(IZ)V"⟩
abbrev cX9_hasFault : ByteArray := prog_11_method_30_code
def yX9_hasFault : MethodName := ⟨RX9, "hasFault", "(Z)Z"⟩
abbrev cX9_rangeSize : ByteArray := prog_11_method_31_code
def yX9_rangeSize : MethodName := ⟨RX9, "rangeSize", "(I)I"⟩
abbrev cX9_test : ByteArray := prog_11_method_32_code
def yX9_test : MethodName := ⟨RX9, "test", "(I)I"⟩
abbrev cX9_absent : ByteArray := prog_11_method_33_code
def yX9_absent : MethodName := ⟨RX9, "absent", "()I"⟩
abbrev cX9_attendance : ByteArray := prog_11_method_34_code
def yX9_attendance : MethodName := ⟨RX9, "attendance", "()I"⟩
abbrev cX9_write : ByteArray := prog_11_method_35_code
def yX9_write : MethodName := ⟨RX9, "write", "(I)I"⟩
abbrev cX9_wipe : ByteArray := prog_11_method_36_code
def yX9_wipe : MethodName := ⟨RX9, "wipe", "()I"⟩
abbrev cX9_fault : ByteArray := prog_11_method_37_code
def yX9_fault : MethodName := ⟨RX9, "fault", "(I)I"⟩
abbrev cX9_add : ByteArray := prog_11_method_38_code
def yX9_add : MethodName := ⟨RX9, "add", "(II)I"⟩
abbrev cX9_remove : ByteArray := prog_11_method_39_code
def yX9_remove : MethodName := ⟨RX9, "remove", "(I)I"⟩
abbrev cX9_isOf : ByteArray := prog_11_method_40_code
def yX9_isOf : MethodName := ⟨RX9, "isOf", "(II)Z"⟩
abbrev cX9_set : ByteArray := prog_11_method_41_code
def yX9_set : MethodName := ⟨RX9, "set", "(II)I"⟩
abbrev cX9_place : ByteArray := prog_11_method_42_code
def yX9_place : MethodName := ⟨RX9, "place", "(II)I"⟩
abbrev cX9_undo : ByteArray := prog_11_method_43_code
def yX9_undo : MethodName := ⟨RX9, "undo", "()I"⟩
abbrev cX9_placedIn : ByteArray := prog_11_method_44_code
def yX9_placedIn : MethodName := ⟨RX9, "placedIn", "(I)I"⟩
abbrev cX9_covered : ByteArray := prog_11_method_45_code
def yX9_covered : MethodName := ⟨RX9, "covered", "()I"⟩
abbrev cX9_told : ByteArray := prog_11_method_46_code
def yX9_told : MethodName := ⟨RX9, "told", "(I)I"⟩
abbrev cX9_setting : ByteArray := prog_11_method_47_code
def yX9_setting : MethodName := ⟨RX9, "setting", "(I)I"⟩
abbrev cX9_singer : ByteArray := prog_11_method_48_code
def yX9_singer : MethodName := ⟨RX9, "singer", "(II)I"⟩
abbrev cX9_note : ByteArray := prog_11_method_49_code
def yX9_note : MethodName := ⟨RX9, "note", "(II)I"⟩
abbrev cX9_overlap : ByteArray := prog_11_method_50_code
def yX9_overlap : MethodName := ⟨RX9, "overlap", "(II)I"⟩
abbrev cX9_strengthOf : ByteArray := prog_11_method_51_code
def yX9_strengthOf : MethodName := ⟨RX9, "strengthOf", "(I)I"⟩
abbrev cX9_rows : ByteArray := prog_11_method_52_code
def yX9_rows : MethodName := ⟨RX9, "rows", "(I)I"⟩
abbrev cX9_part : ByteArray := prog_11_method_53_code
def yX9_part : MethodName := ⟨RX9, "part", "(II)I"⟩
abbrev cX9_seat : ByteArray := prog_11_method_54_code
def yX9_seat : MethodName := ⟨RX9, "seat", "(II)I"⟩
abbrev cX9_solo : ByteArray := prog_11_method_55_code
def yX9_solo : MethodName := ⟨RX9, "solo", "(II)I"⟩
abbrev cX9_mean : ByteArray := prog_11_method_56_code
def yX9_mean : MethodName := ⟨RX9, "mean", "()F"⟩
abbrev cX9_standIn : ByteArray := prog_11_method_57_code
def yX9_standIn : MethodName := ⟨RX9, "standIn", "(I)I"⟩
abbrev cX9_passedOver : ByteArray := prog_11_method_58_code
def yX9_passedOver : MethodName := ⟨RX9, "passedOver", "(I)I"⟩
abbrev cX9_isImage : ByteArray := prog_11_method_59_code
def yX9_isImage : MethodName := ⟨RX9, "isImage", "(I)Z"⟩
abbrev cX9_keep : ByteArray := prog_11_method_60_code
def yX9_keep : MethodName := ⟨RX9, "keep", "(I)I"⟩
abbrev cX9_back : ByteArray := prog_11_method_61_code
def yX9_back : MethodName := ⟨RX9, "back", "(I)I"⟩
def RL : String := "ChoirBookLaw"
abbrev cL_law : ByteArray := code
def yL_law : MethodName := ⟨RL, "law", "([I)Z"⟩
abbrev vwCl : List vw_C := [(RX0, TX0, 8), (RX1, TX1, 3), (RX2, TX2, 10), (RX3, TX3, 11), (RX4, TX4, 3), (RX5, TX5, 11), (RX6, TX6, 2), (RX7, TX7, 2), (RX8, TX8, 8), (RX9, TX9, 31)]

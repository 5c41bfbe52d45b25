section
-- ===== PART A: goes FIRST, ahead of the names: the tables' words, and 'selects' of the private methods out of them =====
/-- a private method of a class that the tables say can be made, by its rows of tables_1 -/
def lw_okq (q : MethodName × Nat) : Prop := (q.1.cls ≠ "java/lang/invoke/MethodHandle" ∧ q.1.cls ≠ "java/lang/invoke/VarHandle") ∧ Cond.instantiable q.1.cls q.2 ∈ tables_1 ∧ Cond.privateMethod q.1 ∈ tables_1 ∧ Cond.instanceMethod q.1 ∈ tables_1
theorem lw_p0 : lw_okq (⟨"ChoirBook$Reader", "read", "(LChoirBook$Text;)Z"⟩, 11) := ⟨⟨by decide +kernel, by decide +kernel⟩, List.mem_of_getElem? (i := 176) (by decide +kernel), List.mem_of_getElem? (i := 380) (by decide +kernel), List.mem_of_getElem? (i := 381) (by decide +kernel)⟩
theorem lw_p1 : lw_okq (⟨"ChoirBook$Reader", "take", "(II)Z"⟩, 11) := ⟨⟨by decide +kernel, by decide +kernel⟩, List.mem_of_getElem? (i := 176) (by decide +kernel), List.mem_of_getElem? (i := 384) (by decide +kernel), List.mem_of_getElem? (i := 385) (by decide +kernel)⟩
theorem lw_p2 : lw_okq (⟨"ChoirBook$Reader", "inNumber", "()Z"⟩, 11) := ⟨⟨by decide +kernel, by decide +kernel⟩, List.mem_of_getElem? (i := 176) (by decide +kernel), List.mem_of_getElem? (i := 388) (by decide +kernel), List.mem_of_getElem? (i := 389) (by decide +kernel)⟩
theorem lw_p3 : lw_okq (⟨"ChoirBook$Reader", "takeDigit", "(II)Z"⟩, 11) := ⟨⟨by decide +kernel, by decide +kernel⟩, List.mem_of_getElem? (i := 176) (by decide +kernel), List.mem_of_getElem? (i := 392) (by decide +kernel), List.mem_of_getElem? (i := 393) (by decide +kernel)⟩
theorem lw_p4 : lw_okq (⟨"ChoirBook$Reader", "fail", "(II)Z"⟩, 11) := ⟨⟨by decide +kernel, by decide +kernel⟩, List.mem_of_getElem? (i := 176) (by decide +kernel), List.mem_of_getElem? (i := 396) (by decide +kernel), List.mem_of_getElem? (i := 397) (by decide +kernel)⟩
theorem lw_p5 : lw_okq (⟨"ChoirBook$Reader", "takeBehindNumber", "(II)Z"⟩, 11) := ⟨⟨by decide +kernel, by decide +kernel⟩, List.mem_of_getElem? (i := 176) (by decide +kernel), List.mem_of_getElem? (i := 400) (by decide +kernel), List.mem_of_getElem? (i := 401) (by decide +kernel)⟩
theorem lw_p6 : lw_okq (⟨"ChoirBook$Reader", "numberStands", "()Z"⟩, 11) := ⟨⟨by decide +kernel, by decide +kernel⟩, List.mem_of_getElem? (i := 176) (by decide +kernel), List.mem_of_getElem? (i := 404) (by decide +kernel), List.mem_of_getElem? (i := 405) (by decide +kernel)⟩
theorem lw_p7 : lw_okq (⟨"ChoirBook$Reader", "closeWord", "(Z)V"⟩, 11) := ⟨⟨by decide +kernel, by decide +kernel⟩, List.mem_of_getElem? (i := 176) (by decide +kernel), List.mem_of_getElem? (i := 408) (by decide +kernel), List.mem_of_getElem? (i := 409) (by decide +kernel)⟩
theorem lw_p8 : lw_okq (⟨"ChoirBook$Reader", "beginNumber", "(II)V"⟩, 11) := ⟨⟨by decide +kernel, by decide +kernel⟩, List.mem_of_getElem? (i := 176) (by decide +kernel), List.mem_of_getElem? (i := 413) (by decide +kernel), List.mem_of_getElem? (i := 414) (by decide +kernel)⟩
theorem lw_p9 : lw_okq (⟨"ChoirBook$Reader", "end", "(I)Z"⟩, 11) := ⟨⟨by decide +kernel, by decide +kernel⟩, List.mem_of_getElem? (i := 176) (by decide +kernel), List.mem_of_getElem? (i := 417) (by decide +kernel), List.mem_of_getElem? (i := 418) (by decide +kernel)⟩
theorem lw_p10 : lw_okq (⟨"ChoirBook$Placing", "addVoice", "(III)V"⟩, 10) := ⟨⟨by decide +kernel, by decide +kernel⟩, List.mem_of_getElem? (i := 238) (by decide +kernel), List.mem_of_getElem? (i := 458) (by decide +kernel), List.mem_of_getElem? (i := 459) (by decide +kernel)⟩
theorem lw_p11 : lw_okq (⟨"ChoirBook$Placing", "weighPairs", "(II)V"⟩, 10) := ⟨⟨by decide +kernel, by decide +kernel⟩, List.mem_of_getElem? (i := 238) (by decide +kernel), List.mem_of_getElem? (i := 467) (by decide +kernel), List.mem_of_getElem? (i := 468) (by decide +kernel)⟩
theorem lw_p12 : lw_okq (⟨"ChoirBook$Split", "gives", "(II)Z"⟩, 2) := ⟨⟨by decide +kernel, by decide +kernel⟩, List.mem_of_getElem? (i := 244) (by decide +kernel), List.mem_of_getElem? (i := 475) (by decide +kernel), List.mem_of_getElem? (i := 476) (by decide +kernel)⟩
theorem lw_p13 : lw_okq (⟨"ChoirBook$Placing", "firstGoodPart", "(I)I"⟩, 10) := ⟨⟨by decide +kernel, by decide +kernel⟩, List.mem_of_getElem? (i := 238) (by decide +kernel), List.mem_of_getElem? (i := 486) (by decide +kernel), List.mem_of_getElem? (i := 487) (by decide +kernel)⟩
theorem lw_p14 : lw_okq (⟨"ChoirBook$Placing", "canFinish", "(I)Z"⟩, 10) := ⟨⟨by decide +kernel, by decide +kernel⟩, List.mem_of_getElem? (i := 238) (by decide +kernel), List.mem_of_getElem? (i := 490) (by decide +kernel), List.mem_of_getElem? (i := 491) (by decide +kernel)⟩
theorem lw_p15 : lw_okq (⟨"ChoirBook$Placing", "pairCanReach", "(LChoirBook$Split;II)Z"⟩, 10) := ⟨⟨by decide +kernel, by decide +kernel⟩, List.mem_of_getElem? (i := 238) (by decide +kernel), List.mem_of_getElem? (i := 494) (by decide +kernel), List.mem_of_getElem? (i := 495) (by decide +kernel)⟩
def lw_privs_1 : List (MethodName × Nat) := [(⟨"ChoirBook$Reader", "read", "(LChoirBook$Text;)Z"⟩, 11), (⟨"ChoirBook$Reader", "take", "(II)Z"⟩, 11), (⟨"ChoirBook$Reader", "inNumber", "()Z"⟩, 11), (⟨"ChoirBook$Reader", "takeDigit", "(II)Z"⟩, 11), (⟨"ChoirBook$Reader", "fail", "(II)Z"⟩, 11), (⟨"ChoirBook$Reader", "takeBehindNumber", "(II)Z"⟩, 11), (⟨"ChoirBook$Reader", "numberStands", "()Z"⟩, 11), (⟨"ChoirBook$Reader", "closeWord", "(Z)V"⟩, 11), (⟨"ChoirBook$Reader", "beginNumber", "(II)V"⟩, 11), (⟨"ChoirBook$Reader", "end", "(I)Z"⟩, 11), (⟨"ChoirBook$Placing", "addVoice", "(III)V"⟩, 10), (⟨"ChoirBook$Placing", "weighPairs", "(II)V"⟩, 10), (⟨"ChoirBook$Split", "gives", "(II)Z"⟩, 2), (⟨"ChoirBook$Placing", "firstGoodPart", "(I)I"⟩, 10), (⟨"ChoirBook$Placing", "canFinish", "(I)Z"⟩, 10), (⟨"ChoirBook$Placing", "pairCanReach", "(LChoirBook$Split;II)Z"⟩, 10)]
theorem lw_r1 : ∀ q ∈ lw_privs_1, lw_okq q := List.forall_mem_cons.mpr ⟨lw_p0, List.forall_mem_cons.mpr ⟨lw_p1, List.forall_mem_cons.mpr ⟨lw_p2, List.forall_mem_cons.mpr ⟨lw_p3, List.forall_mem_cons.mpr ⟨lw_p4, List.forall_mem_cons.mpr ⟨lw_p5, List.forall_mem_cons.mpr ⟨lw_p6, List.forall_mem_cons.mpr ⟨lw_p7, List.forall_mem_cons.mpr ⟨lw_p8, List.forall_mem_cons.mpr ⟨lw_p9, List.forall_mem_cons.mpr ⟨lw_p10, List.forall_mem_cons.mpr ⟨lw_p11, List.forall_mem_cons.mpr ⟨lw_p12, List.forall_mem_cons.mpr ⟨lw_p13, List.forall_mem_cons.mpr ⟨lw_p14, List.forall_mem_cons.mpr ⟨lw_p15, fun _ h => absurd h List.not_mem_nil⟩⟩⟩⟩⟩⟩⟩⟩⟩⟩⟩⟩⟩⟩⟩⟩
theorem lw_p16 : lw_okq (⟨"ChoirBook$Rehearsal", "findStandIns", "(LChoirBook$Choir;I)V"⟩, 3) := ⟨⟨by decide +kernel, by decide +kernel⟩, List.mem_of_getElem? (i := 220) (by decide +kernel), List.mem_of_getElem? (i := 531) (by decide +kernel), List.mem_of_getElem? (i := 532) (by decide +kernel)⟩
theorem lw_p17 : lw_okq (⟨"ChoirBook$Rehearsal", "canStandIn", "(LChoirBook$Choir;II)Z"⟩, 3) := ⟨⟨by decide +kernel, by decide +kernel⟩, List.mem_of_getElem? (i := 220) (by decide +kernel), List.mem_of_getElem? (i := 539) (by decide +kernel), List.mem_of_getElem? (i := 540) (by decide +kernel)⟩
theorem lw_p18 : lw_okq (⟨"ChoirBook$Rehearsal", "findSoloist", "(LChoirBook$Choir;I)I"⟩, 3) := ⟨⟨by decide +kernel, by decide +kernel⟩, List.mem_of_getElem? (i := 220) (by decide +kernel), List.mem_of_getElem? (i := 545) (by decide +kernel), List.mem_of_getElem? (i := 546) (by decide +kernel)⟩
theorem lw_p19 : lw_okq (⟨"ChoirBookModel", "remember", "()V"⟩, 31) := ⟨⟨by decide +kernel, by decide +kernel⟩, List.mem_of_getElem? (i := 688) (by decide +kernel), List.mem_of_getElem? (i := 792) (by decide +kernel), List.mem_of_getElem? (i := 793) (by decide +kernel)⟩
theorem lw_p20 : lw_okq (⟨"ChoirBookModel", "findBest", "(I)V"⟩, 31) := ⟨⟨by decide +kernel, by decide +kernel⟩, List.mem_of_getElem? (i := 688) (by decide +kernel), List.mem_of_getElem? (i := 796) (by decide +kernel), List.mem_of_getElem? (i := 797) (by decide +kernel)⟩
theorem lw_p21 : lw_okq (⟨"ChoirBookModel", "fits", "(I)I"⟩, 31) := ⟨⟨by decide +kernel, by decide +kernel⟩, List.mem_of_getElem? (i := 688) (by decide +kernel), List.mem_of_getElem? (i := 800) (by decide +kernel), List.mem_of_getElem? (i := 801) (by decide +kernel)⟩
theorem lw_p22 : lw_okq (⟨"ChoirBookModel", "isFit", "(II)Z"⟩, 31) := ⟨⟨by decide +kernel, by decide +kernel⟩, List.mem_of_getElem? (i := 688) (by decide +kernel), List.mem_of_getElem? (i := 804) (by decide +kernel), List.mem_of_getElem? (i := 805) (by decide +kernel)⟩
theorem lw_p23 : lw_okq (⟨"ChoirBookModel", "overlapOf", "(II)I"⟩, 31) := ⟨⟨by decide +kernel, by decide +kernel⟩, List.mem_of_getElem? (i := 688) (by decide +kernel), List.mem_of_getElem? (i := 808) (by decide +kernel), List.mem_of_getElem? (i := 809) (by decide +kernel)⟩
theorem lw_p24 : lw_okq (⟨"ChoirBookModel", "findRange", "(I)V"⟩, 31) := ⟨⟨by decide +kernel, by decide +kernel⟩, List.mem_of_getElem? (i := 688) (by decide +kernel), List.mem_of_getElem? (i := 812) (by decide +kernel), List.mem_of_getElem? (i := 813) (by decide +kernel)⟩
theorem lw_p25 : lw_okq (⟨"ChoirBookModel", "of", "(II)I"⟩, 31) := ⟨⟨by decide +kernel, by decide +kernel⟩, List.mem_of_getElem? (i := 688) (by decide +kernel), List.mem_of_getElem? (i := 816) (by decide +kernel), List.mem_of_getElem? (i := 817) (by decide +kernel)⟩
theorem lw_p26 : lw_okq (⟨"ChoirBookModel", "nextPart", "(II)I"⟩, 31) := ⟨⟨by decide +kernel, by decide +kernel⟩, List.mem_of_getElem? (i := 688) (by decide +kernel), List.mem_of_getElem? (i := 823) (by decide +kernel), List.mem_of_getElem? (i := 824) (by decide +kernel)⟩
theorem lw_p27 : lw_okq (⟨"ChoirBookModel", "change", "(II)V"⟩, 31) := ⟨⟨by decide +kernel, by decide +kernel⟩, List.mem_of_getElem? (i := 688) (by decide +kernel), List.mem_of_getElem? (i := 827) (by decide +kernel), List.mem_of_getElem? (i := 828) (by decide +kernel)⟩
theorem lw_p28 : lw_okq (⟨"ChoirBookModel", "judge", "()V"⟩, 31) := ⟨⟨by decide +kernel, by decide +kernel⟩, List.mem_of_getElem? (i := 688) (by decide +kernel), List.mem_of_getElem? (i := 831) (by decide +kernel), List.mem_of_getElem? (i := 832) (by decide +kernel)⟩
theorem lw_p29 : lw_okq (⟨"ChoirBookModel", "put", "(III)V"⟩, 31) := ⟨⟨by decide +kernel, by decide +kernel⟩, List.mem_of_getElem? (i := 688) (by decide +kernel), List.mem_of_getElem? (i := 835) (by decide +kernel), List.mem_of_getElem? (i := 836) (by decide +kernel)⟩
theorem lw_p30 : lw_okq (⟨"ChoirBookModel", "isSinger", "(I)Z"⟩, 31) := ⟨⟨by decide +kernel, by decide +kernel⟩, List.mem_of_getElem? (i := 688) (by decide +kernel), List.mem_of_getElem? (i := 843) (by decide +kernel), List.mem_of_getElem? (i := 844) (by decide +kernel)⟩
theorem lw_p31 : lw_okq (⟨"ChoirBookModel", "findSolos", "()V"⟩, 31) := ⟨⟨by decide +kernel, by decide +kernel⟩, List.mem_of_getElem? (i := 688) (by decide +kernel), List.mem_of_getElem? (i := 851) (by decide +kernel), List.mem_of_getElem? (i := 852) (by decide +kernel)⟩
def lw_privs_2 : List (MethodName × Nat) := [(⟨"ChoirBook$Rehearsal", "findStandIns", "(LChoirBook$Choir;I)V"⟩, 3), (⟨"ChoirBook$Rehearsal", "canStandIn", "(LChoirBook$Choir;II)Z"⟩, 3), (⟨"ChoirBook$Rehearsal", "findSoloist", "(LChoirBook$Choir;I)I"⟩, 3), (⟨"ChoirBookModel", "remember", "()V"⟩, 31), (⟨"ChoirBookModel", "findBest", "(I)V"⟩, 31), (⟨"ChoirBookModel", "fits", "(I)I"⟩, 31), (⟨"ChoirBookModel", "isFit", "(II)Z"⟩, 31), (⟨"ChoirBookModel", "overlapOf", "(II)I"⟩, 31), (⟨"ChoirBookModel", "findRange", "(I)V"⟩, 31), (⟨"ChoirBookModel", "of", "(II)I"⟩, 31), (⟨"ChoirBookModel", "nextPart", "(II)I"⟩, 31), (⟨"ChoirBookModel", "change", "(II)V"⟩, 31), (⟨"ChoirBookModel", "judge", "()V"⟩, 31), (⟨"ChoirBookModel", "put", "(III)V"⟩, 31), (⟨"ChoirBookModel", "isSinger", "(I)Z"⟩, 31), (⟨"ChoirBookModel", "findSolos", "()V"⟩, 31)]
theorem lw_r2 : ∀ q ∈ lw_privs_2, lw_okq q := List.forall_mem_cons.mpr ⟨lw_p16, List.forall_mem_cons.mpr ⟨lw_p17, List.forall_mem_cons.mpr ⟨lw_p18, List.forall_mem_cons.mpr ⟨lw_p19, List.forall_mem_cons.mpr ⟨lw_p20, List.forall_mem_cons.mpr ⟨lw_p21, List.forall_mem_cons.mpr ⟨lw_p22, List.forall_mem_cons.mpr ⟨lw_p23, List.forall_mem_cons.mpr ⟨lw_p24, List.forall_mem_cons.mpr ⟨lw_p25, List.forall_mem_cons.mpr ⟨lw_p26, List.forall_mem_cons.mpr ⟨lw_p27, List.forall_mem_cons.mpr ⟨lw_p28, List.forall_mem_cons.mpr ⟨lw_p29, List.forall_mem_cons.mpr ⟨lw_p30, List.forall_mem_cons.mpr ⟨lw_p31, fun _ h => absurd h List.not_mem_nil⟩⟩⟩⟩⟩⟩⟩⟩⟩⟩⟩⟩⟩⟩⟩⟩
theorem lw_p32 : lw_okq (⟨"ChoirBookModel", "findStandIns", "()V"⟩, 31) := ⟨⟨by decide +kernel, by decide +kernel⟩, List.mem_of_getElem? (i := 688) (by decide +kernel), List.mem_of_getElem? (i := 855) (by decide +kernel), List.mem_of_getElem? (i := 856) (by decide +kernel)⟩
theorem lw_p33 : lw_okq (⟨"ChoirBookModel", "presentStrength", "(I)I"⟩, 31) := ⟨⟨by decide +kernel, by decide +kernel⟩, List.mem_of_getElem? (i := 688) (by decide +kernel), List.mem_of_getElem? (i := 859) (by decide +kernel), List.mem_of_getElem? (i := 860) (by decide +kernel)⟩
theorem lw_p34 : lw_okq (⟨"ChoirBookModel", "isFree", "(II)Z"⟩, 31) := ⟨⟨by decide +kernel, by decide +kernel⟩, List.mem_of_getElem? (i := 688) (by decide +kernel), List.mem_of_getElem? (i := 863) (by decide +kernel), List.mem_of_getElem? (i := 864) (by decide +kernel)⟩
theorem lw_p35 : lw_okq (⟨"ChoirBookModel", "isRested", "(I)Z"⟩, 31) := ⟨⟨by decide +kernel, by decide +kernel⟩, List.mem_of_getElem? (i := 688) (by decide +kernel), List.mem_of_getElem? (i := 867) (by decide +kernel), List.mem_of_getElem? (i := 868) (by decide +kernel)⟩
theorem lw_p36 : lw_okq (⟨"ChoirBookModel", "isBefore", "(II)Z"⟩, 31) := ⟨⟨by decide +kernel, by decide +kernel⟩, List.mem_of_getElem? (i := 688) (by decide +kernel), List.mem_of_getElem? (i := 871) (by decide +kernel), List.mem_of_getElem? (i := 872) (by decide +kernel)⟩
theorem lw_p37 : lw_okq (⟨"ChoirBookModel", "hasFault", "(Z)Z"⟩, 31) := ⟨⟨by decide +kernel, by decide +kernel⟩, List.mem_of_getElem? (i := 688) (by decide +kernel), List.mem_of_getElem? (i := 879) (by decide +kernel), List.mem_of_getElem? (i := 880) (by decide +kernel)⟩
theorem lw_p38 : lw_okq (⟨"ChoirBookModel", "fails", "(II)V"⟩, 31) := ⟨⟨by decide +kernel, by decide +kernel⟩, List.mem_of_getElem? (i := 688) (by decide +kernel), List.mem_of_getElem? (i := 883) (by decide +kernel), List.mem_of_getElem? (i := 884) (by decide +kernel)⟩
theorem lw_p39 : lw_okq (⟨"ChoirBookModel", "readDigit", "(I)V"⟩, 31) := ⟨⟨by decide +kernel, by decide +kernel⟩, List.mem_of_getElem? (i := 688) (by decide +kernel), List.mem_of_getElem? (i := 887) (by decide +kernel), List.mem_of_getElem? (i := 888) (by decide +kernel)⟩
theorem lw_p40 : lw_okq (⟨"ChoirBookModel", "readOther", "(IZ)V"⟩, 31) := ⟨⟨by decide +kernel, by decide +kernel⟩, List.mem_of_getElem? (i := 688) (by decide +kernel), List.mem_of_getElem? (i := 891) (by decide +kernel), List.mem_of_getElem? (i := 892) (by decide +kernel)⟩
theorem lw_p41 : lw_okq (⟨"ChoirBookModel", "endsWell", "()Z"⟩, 31) := ⟨⟨by decide +kernel, by decide +kernel⟩, List.mem_of_getElem? (i := 688) (by decide +kernel), List.mem_of_getElem? (i := 895) (by decide +kernel), List.mem_of_getElem? (i := 896) (by decide +kernel)⟩
theorem lw_p42 : lw_okq (⟨"ChoirBookModel", "rangeSize", "(I)I"⟩, 31) := ⟨⟨by decide +kernel, by decide +kernel⟩, List.mem_of_getElem? (i := 688) (by decide +kernel), List.mem_of_getElem? (i := 899) (by decide +kernel), List.mem_of_getElem? (i := 900) (by decide +kernel)⟩
theorem lw_p43 : lw_okq (⟨"ChoirBookModel", "absent", "()I"⟩, 31) := ⟨⟨by decide +kernel, by decide +kernel⟩, List.mem_of_getElem? (i := 688) (by decide +kernel), List.mem_of_getElem? (i := 907) (by decide +kernel), List.mem_of_getElem? (i := 908) (by decide +kernel)⟩
theorem lw_p44 : lw_okq (⟨"ChoirBookModel", "placedIn", "(I)I"⟩, 31) := ⟨⟨by decide +kernel, by decide +kernel⟩, List.mem_of_getElem? (i := 688) (by decide +kernel), List.mem_of_getElem? (i := 953) (by decide +kernel), List.mem_of_getElem? (i := 954) (by decide +kernel)⟩
theorem lw_p45 : lw_okq (⟨"ChoirBookModel", "covered", "()I"⟩, 31) := ⟨⟨by decide +kernel, by decide +kernel⟩, List.mem_of_getElem? (i := 688) (by decide +kernel), List.mem_of_getElem? (i := 957) (by decide +kernel), List.mem_of_getElem? (i := 958) (by decide +kernel)⟩
theorem lw_p46 : lw_okq (⟨"ChoirBookModel", "strengthOf", "(I)I"⟩, 31) := ⟨⟨by decide +kernel, by decide +kernel⟩, List.mem_of_getElem? (i := 688) (by decide +kernel), List.mem_of_getElem? (i := 981) (by decide +kernel), List.mem_of_getElem? (i := 982) (by decide +kernel)⟩
theorem lw_p47 : lw_okq (⟨"ChoirBookModel", "rows", "(I)I"⟩, 31) := ⟨⟨by decide +kernel, by decide +kernel⟩, List.mem_of_getElem? (i := 688) (by decide +kernel), List.mem_of_getElem? (i := 985) (by decide +kernel), List.mem_of_getElem? (i := 986) (by decide +kernel)⟩
def lw_privs_3 : List (MethodName × Nat) := [(⟨"ChoirBookModel", "findStandIns", "()V"⟩, 31), (⟨"ChoirBookModel", "presentStrength", "(I)I"⟩, 31), (⟨"ChoirBookModel", "isFree", "(II)Z"⟩, 31), (⟨"ChoirBookModel", "isRested", "(I)Z"⟩, 31), (⟨"ChoirBookModel", "isBefore", "(II)Z"⟩, 31), (⟨"ChoirBookModel", "hasFault", "(Z)Z"⟩, 31), (⟨"ChoirBookModel", "fails", "(II)V"⟩, 31), (⟨"ChoirBookModel", "readDigit", "(I)V"⟩, 31), (⟨"ChoirBookModel", "readOther", "(IZ)V"⟩, 31), (⟨"ChoirBookModel", "endsWell", "()Z"⟩, 31), (⟨"ChoirBookModel", "rangeSize", "(I)I"⟩, 31), (⟨"ChoirBookModel", "absent", "()I"⟩, 31), (⟨"ChoirBookModel", "placedIn", "(I)I"⟩, 31), (⟨"ChoirBookModel", "covered", "()I"⟩, 31), (⟨"ChoirBookModel", "strengthOf", "(I)I"⟩, 31), (⟨"ChoirBookModel", "rows", "(I)I"⟩, 31)]
theorem lw_r3 : ∀ q ∈ lw_privs_3, lw_okq q := List.forall_mem_cons.mpr ⟨lw_p32, List.forall_mem_cons.mpr ⟨lw_p33, List.forall_mem_cons.mpr ⟨lw_p34, List.forall_mem_cons.mpr ⟨lw_p35, List.forall_mem_cons.mpr ⟨lw_p36, List.forall_mem_cons.mpr ⟨lw_p37, List.forall_mem_cons.mpr ⟨lw_p38, List.forall_mem_cons.mpr ⟨lw_p39, List.forall_mem_cons.mpr ⟨lw_p40, List.forall_mem_cons.mpr ⟨lw_p41, List.forall_mem_cons.mpr ⟨lw_p42, List.forall_mem_cons.mpr ⟨lw_p43, List.forall_mem_cons.mpr ⟨lw_p44, List.forall_mem_cons.mpr ⟨lw_p45, List.forall_mem_cons.mpr ⟨lw_p46, List.forall_mem_cons.mpr ⟨lw_p47, fun _ h => absurd h List.not_mem_nil⟩⟩⟩⟩⟩⟩⟩⟩⟩⟩⟩⟩⟩⟩⟩⟩
def lw_privs : List (MethodName × Nat) := lw_privs_1 ++ (lw_privs_2 ++ (lw_privs_3))
def lw_tbl : List Cond := k2_sels lw_privs ++ tables_1
theorem lw_privs_ok : ∀ q ∈ lw_privs, lw_okq q := by
  show ∀ q ∈ lw_privs_1 ++ (lw_privs_2 ++ (lw_privs_3)), lw_okq q
  exact List.forall_mem_append.mpr ⟨lw_r1, List.forall_mem_append.mpr ⟨lw_r2, lw_r3⟩⟩
/-- the streams that the claim lets the run draw from -/
abbrev lw_cs : List Choice := [Jvm.Choice.named "NaN.bits"]
theorem lw_bits : nanBits ∈ lw_cs := by first | decide | exact List.mem_cons_self | simp [lw_cs, nanBits]
/-! names -/
def RX0 : String := "ChoirBook$Choir"
def TX0 : u_T := fun k => match k with
  | 0 => ("ChoirBook$Choir", "singers", "[LChoirBook$Singer;", true)
  | 1 => ("ChoirBook$Choir", "settings", "[I", true)
  | 2 => ("ChoirBook$Choir", "soloists", "[I", true)
  | 3 => ("ChoirBook$Choir", "weak", "[I", true)
  | 4 => ("ChoirBook$Choir", "count", "I", false)
  | 5 => ("ChoirBook$Choir", "held", "I", false)
  | 6 => ("ChoirBook$Choir", "solos", "I", false)
  | _ => ("ChoirBook$Choir", "standIns", "I", false)
def tyX0 : Nat → FieldType := fun k => match k with
  | 0 => .array (.object "ChoirBook$Singer")
  | 1 => .array .int
  | 2 => .array .int
  | 3 => .array .int
  | 4 => .int
  | 5 => .int
  | 6 => .int
  | _ => .int
abbrev wsX00 : List Cond := u_ws RX0 TX0 8
theorem nmX0 : ∀ a, a < 8 → ∀ b, b < 8 → a ≠ b → (TX0 a).2.1 ≠ (TX0 b).2.1 := by decide +kernel
theorem tyX0_ok : ∀ k, k < 8 → parseFieldDescriptor (TX0 k).2.2.1 = some (tyX0 k) := by decide +kernel
abbrev cX0_init : ByteArray := prog_2_method_1_code
def yX0_init : MethodName := ⟨RX0, "<init>", "()V"⟩
abbrev cX0_copyFrom : ByteArray := prog_2_method_2_code
def yX0_copyFrom : MethodName := ⟨RX0, "copyFrom", "(LChoirBook$Choir;)V"⟩
abbrev cX0_has : ByteArray := prog_2_method_3_code
def yX0_has : MethodName := ⟨RX0, "has", "(I)Z"⟩
abbrev cX0_join : ByteArray := prog_2_method_4_code
def yX0_join : MethodName := ⟨RX0, "join", "(II)V"⟩
abbrev cX0_dismiss : ByteArray := prog_2_method_5_code
def yX0_dismiss : MethodName := ⟨RX0, "dismiss", "(I)V"⟩
abbrev cX0_fits : ByteArray := prog_2_method_6_code
def yX0_fits : MethodName := ⟨RX0, "fits", "(II)Z"⟩
abbrev cX0_fittingParts : ByteArray := prog_2_method_7_code
def yX0_fittingParts : MethodName := ⟨RX0, "fittingParts", "(I)I"⟩
abbrev cX0_placed : ByteArray := prog_2_method_8_code
def yX0_placed : MethodName := ⟨RX0, "placed", "()I"⟩
abbrev cX0_absent : ByteArray := prog_2_method_9_code
def yX0_absent : MethodName := ⟨RX0, "absent", "()I"⟩
abbrev cX0_members : ByteArray := prog_2_method_10_code
def yX0_members : MethodName := ⟨RX0, "members", "(I)I"⟩
abbrev cX0_strength : ByteArray := prog_2_method_11_code
def yX0_strength : MethodName := ⟨RX0, "strength", "(I)I"⟩
abbrev cX0_strengthPresent : ByteArray := prog_2_method_12_code
def yX0_strengthPresent : MethodName := ⟨RX0, "strengthPresent", "(I)I"⟩
abbrev cX0_covers : ByteArray := prog_2_method_13_code
def yX0_covers : MethodName := ⟨RX0, "covers", "(I)Z"⟩
abbrev cX0_coveredParts : ByteArray := prog_2_method_14_code
def yX0_coveredParts : MethodName := ⟨RX0, "coveredParts", "()I"⟩
abbrev cX0_rested : ByteArray := prog_2_method_15_code
def yX0_rested : MethodName := ⟨RX0, "rested", "(LChoirBook$Singer;)Z"⟩
abbrev cX0_width : ByteArray := prog_2_method_16_code
def yX0_width : MethodName := ⟨RX0, "width", "()I"⟩
abbrev cX0_rows : ByteArray := prog_2_method_17_code
def yX0_rows : MethodName := ⟨RX0, "rows", "(I)I"⟩
abbrev cX0_rowsBefore : ByteArray := prog_2_method_18_code
def yX0_rowsBefore : MethodName := ⟨RX0, "rowsBefore", "(I)I"⟩
abbrev cX0_seatedBefore : ByteArray := prog_2_method_19_code
def yX0_seatedBefore : MethodName := ⟨RX0, "seatedBefore", "(I)I"⟩
def RX1 : String := "ChoirBook$History"
def TX1 : u_T := fun k => match k with
  | 0 => ("ChoirBook$History", "states", "[LChoirBook$Choir;", true)
  | 1 => ("ChoirBook$History", "oldest", "I", false)
  | _ => ("ChoirBook$History", "size", "I", false)
def tyX1 : Nat → FieldType := fun k => match k with
  | 0 => .array (.object "ChoirBook$Choir")
  | 1 => .int
  | _ => .int
abbrev wsX10 : List Cond := u_ws RX1 TX1 3
theorem nmX1 : ∀ a, a < 3 → ∀ b, b < 3 → a ≠ b → (TX1 a).2.1 ≠ (TX1 b).2.1 := by decide +kernel
theorem tyX1_ok : ∀ k, k < 3 → parseFieldDescriptor (TX1 k).2.2.1 = some (tyX1 k) := by decide +kernel
abbrev cX1_init : ByteArray := prog_3_method_1_code
def yX1_init : MethodName := ⟨RX1, "<init>", "()V"⟩
abbrev cX1_record : ByteArray := prog_3_method_2_code
def yX1_record : MethodName := ⟨RX1, "record", "(LChoirBook$Choir;)V"⟩
abbrev cX1_restore : ByteArray := prog_3_method_3_code
def yX1_restore : MethodName := ⟨RX1, "restore", "(LChoirBook$Choir;)V"⟩
def RX2 : String := "ChoirBook$Placing"
def TX2 : u_T := fun k => match k with
  | 0 => ("ChoirBook$Placing", "upper", "LChoirBook$Split;", true)
  | 1 => ("ChoirBook$Placing", "lower", "LChoirBook$Split;", true)
  | 2 => ("ChoirBook$Placing", "sum", "[I", true)
  | 3 => ("ChoirBook$Placing", "got", "[I", true)
  | 4 => ("ChoirBook$Placing", "voice", "[I", true)
  | 5 => ("ChoirBook$Placing", "strength", "[I", true)
  | 6 => ("ChoirBook$Placing", "fitting", "[I", true)
  | 7 => ("ChoirBook$Placing", "voices", "I", false)
  | 8 => ("ChoirBook$Placing", "least", "I", false)
  | _ => ("ChoirBook$Placing", "greatest", "I", false)
def tyX2 : Nat → FieldType := fun k => match k with
  | 0 => .object "ChoirBook$Split"
  | 1 => .object "ChoirBook$Split"
  | 2 => .array .int
  | 3 => .array .int
  | 4 => .array .int
  | 5 => .array .int
  | 6 => .array .int
  | 7 => .int
  | 8 => .int
  | _ => .int
abbrev wsX20 : List Cond := u_ws RX2 TX2 10
theorem nmX2 : ∀ a, a < 10 → ∀ b, b < 10 → a ≠ b → (TX2 a).2.1 ≠ (TX2 b).2.1 := by decide +kernel
theorem tyX2_ok : ∀ k, k < 10 → parseFieldDescriptor (TX2 k).2.2.1 = some (tyX2 k) := by decide +kernel
abbrev cX2_init : ByteArray := prog_4_method_1_code
def yX2_init : MethodName := ⟨RX2, "<init>", "()V"⟩
abbrev cX2_weigh : ByteArray := prog_4_method_2_code
def yX2_weigh : MethodName := ⟨RX2, "weigh", "(LChoirBook$Choir;I)V"⟩
abbrev cX2_addVoice : ByteArray := prog_4_method_3_code
def yX2_addVoice : MethodName := ⟨RX2, "addVoice", "(III)V"⟩
abbrev cX2_weighPairs : ByteArray := prog_4_method_4_code
def yX2_weighPairs : MethodName := ⟨RX2, "weighPairs", "(II)V"⟩
abbrev cX2_choose : ByteArray := prog_4_method_5_code
def yX2_choose : MethodName := ⟨RX2, "choose", "(LChoirBook$Choir;)V"⟩
abbrev cX2_firstGoodPart : ByteArray := prog_4_method_6_code
def yX2_firstGoodPart : MethodName := ⟨RX2, "firstGoodPart", "(I)I"⟩
abbrev cX2_canFinish : ByteArray := prog_4_method_7_code
def yX2_canFinish : MethodName := ⟨RX2, "canFinish", "(I)Z"⟩
abbrev cX2_pairCanReach : ByteArray := prog_4_method_8_code
def yX2_pairCanReach : MethodName := ⟨RX2, "pairCanReach", "(LChoirBook$Split;II)Z"⟩
def RX3 : String := "ChoirBook$Reader"
def TX3 : u_T := fun k => match k with
  | 0 => ("ChoirBook$Reader", "told", "J", false)
  | 1 => ("ChoirBook$Reader", "sung", "J", false)
  | 2 => ("ChoirBook$Reader", "faultKind", "I", false)
  | 3 => ("ChoirBook$Reader", "faultPlace", "I", false)
  | 4 => ("ChoirBook$Reader", "highest", "I", false)
  | 5 => ("ChoirBook$Reader", "signs", "Z", false)
  | 6 => ("ChoirBook$Reader", "where", "I", false)
  | 7 => ("ChoirBook$Reader", "value", "I", false)
  | 8 => ("ChoirBook$Reader", "digits", "I", false)
  | 9 => ("ChoirBook$Reader", "start", "I", false)
  | _ => ("ChoirBook$Reader", "first", "I", false)
def tyX3 : Nat → FieldType := fun k => match k with
  | 0 => .long
  | 1 => .long
  | 2 => .int
  | 3 => .int
  | 4 => .int
  | 5 => .boolean
  | 6 => .int
  | 7 => .int
  | 8 => .int
  | 9 => .int
  | _ => .int
abbrev wsX30 : List Cond := u_ws RX3 TX3 11
theorem nmX3 : ∀ a, a < 11 → ∀ b, b < 11 → a ≠ b → (TX3 a).2.1 ≠ (TX3 b).2.1 := by decide +kernel
theorem tyX3_ok : ∀ k, k < 11 → parseFieldDescriptor (TX3 k).2.2.1 = some (tyX3 k) := by decide +kernel
abbrev cX3_init : ByteArray := prog_5_method_1_code
def yX3_init : MethodName := ⟨RX3, "<init>", "()V"⟩
abbrev cX3_readTests : ByteArray := prog_5_method_2_code
def yX3_readTests : MethodName := ⟨RX3, "readTests", "(LChoirBook$Text;LChoirBook$Singer;)Z"⟩
abbrev cX3_readAbsent : ByteArray := prog_5_method_3_code
def yX3_readAbsent : MethodName := ⟨RX3, "readAbsent", "(LChoirBook$Text;I)Z"⟩
abbrev cX3_read : ByteArray := prog_5_method_4_code
def yX3_read : MethodName := ⟨RX3, "read", "(LChoirBook$Text;)Z"⟩
abbrev cX3_take : ByteArray := prog_5_method_5_code
def yX3_take : MethodName := ⟨RX3, "take", "(II)Z"⟩
abbrev cX3_inNumber : ByteArray := prog_5_method_6_code
def yX3_inNumber : MethodName := ⟨RX3, "inNumber", "()Z"⟩
abbrev cX3_beginNumber : ByteArray := prog_5_method_7_code
def yX3_beginNumber : MethodName := ⟨RX3, "beginNumber", "(II)V"⟩
abbrev cX3_takeDigit : ByteArray := prog_5_method_8_code
def yX3_takeDigit : MethodName := ⟨RX3, "takeDigit", "(II)Z"⟩
abbrev cX3_takeBehindNumber : ByteArray := prog_5_method_9_code
def yX3_takeBehindNumber : MethodName := ⟨RX3, "takeBehindNumber", "(II)Z"⟩
abbrev cX3_end : ByteArray := prog_5_method_10_code
def yX3_end : MethodName := ⟨RX3, "end", "(I)Z"⟩
abbrev cX3_numberStands : ByteArray := prog_5_method_11_code
def yX3_numberStands : MethodName := ⟨RX3, "numberStands", "()Z"⟩
abbrev cX3_closeWord : ByteArray := prog_5_method_12_code
def yX3_closeWord : MethodName := ⟨RX3, "closeWord", "(Z)V"⟩
abbrev cX3_fail : ByteArray := prog_5_method_13_code
def yX3_fail : MethodName := ⟨RX3, "fail", "(II)Z"⟩
def RX4 : String := "ChoirBook$Rehearsal"
def TX4 : u_T := fun k => match k with
  | 0 => ("ChoirBook$Rehearsal", "standsIn", "[I", true)
  | 1 => ("ChoirBook$Rehearsal", "strength", "[I", true)
  | _ => ("ChoirBook$Rehearsal", "soloist", "[I", true)
def tyX4 : Nat → FieldType := fun k => match k with
  | 0 => .array .int
  | 1 => .array .int
  | _ => .array .int
abbrev wsX40 : List Cond := u_ws RX4 TX4 3
theorem nmX4 : ∀ a, a < 3 → ∀ b, b < 3 → a ≠ b → (TX4 a).2.1 ≠ (TX4 b).2.1 := by decide +kernel
theorem tyX4_ok : ∀ k, k < 3 → parseFieldDescriptor (TX4 k).2.2.1 = some (tyX4 k) := by decide +kernel
abbrev cX4_init : ByteArray := prog_6_method_1_code
def yX4_init : MethodName := ⟨RX4, "<init>", "()V"⟩
abbrev cX4_plan : ByteArray := prog_6_method_2_code
def yX4_plan : MethodName := ⟨RX4, "plan", "(LChoirBook$Choir;)V"⟩
abbrev cX4_findStandIns : ByteArray := prog_6_method_3_code
def yX4_findStandIns : MethodName := ⟨RX4, "findStandIns", "(LChoirBook$Choir;I)V"⟩
abbrev cX4_canStandIn : ByteArray := prog_6_method_4_code
def yX4_canStandIn : MethodName := ⟨RX4, "canStandIn", "(LChoirBook$Choir;II)Z"⟩
abbrev cX4_findSoloist : ByteArray := prog_6_method_5_code
def yX4_findSoloist : MethodName := ⟨RX4, "findSoloist", "(LChoirBook$Choir;I)I"⟩
abbrev cX4_happen : ByteArray := prog_6_method_6_code
def yX4_happen : MethodName := ⟨RX4, "happen", "(LChoirBook$Choir;)I"⟩
def RX5 : String := "ChoirBook$Singer"
def TX5 : u_T := fun k => match k with
  | 0 => ("ChoirBook$Singer", "strength", "I", false)
  | 1 => ("ChoirBook$Singer", "height", "I", false)
  | 2 => ("ChoirBook$Singer", "tested", "J", false)
  | 3 => ("ChoirBook$Singer", "sung", "J", false)
  | 4 => ("ChoirBook$Singer", "lowest", "I", false)
  | 5 => ("ChoirBook$Singer", "range", "I", false)
  | 6 => ("ChoirBook$Singer", "part", "I", false)
  | 7 => ("ChoirBook$Singer", "present", "Z", false)
  | 8 => ("ChoirBook$Singer", "solos", "I", false)
  | 9 => ("ChoirBook$Singer", "latestSolo", "I", false)
  | _ => ("ChoirBook$Singer", "standIns", "I", false)
def tyX5 : Nat → FieldType := fun k => match k with
  | 0 => .int
  | 1 => .int
  | 2 => .long
  | 3 => .long
  | 4 => .int
  | 5 => .int
  | 6 => .int
  | 7 => .boolean
  | 8 => .int
  | 9 => .int
  | _ => .int
abbrev wsX50 : List Cond := u_ws RX5 TX5 11
theorem nmX5 : ∀ a, a < 11 → ∀ b, b < 11 → a ≠ b → (TX5 a).2.1 ≠ (TX5 b).2.1 := by decide +kernel
theorem tyX5_ok : ∀ k, k < 11 → parseFieldDescriptor (TX5 k).2.2.1 = some (tyX5 k) := by decide +kernel
abbrev cX5_init : ByteArray := prog_7_method_1_code
def yX5_init : MethodName := ⟨RX5, "<init>", "()V"⟩
abbrev cX5_begin : ByteArray := prog_7_method_2_code
def yX5_begin : MethodName := ⟨RX5, "begin", "(II)V"⟩
abbrev cX5_copyFrom : ByteArray := prog_7_method_3_code
def yX5_copyFrom : MethodName := ⟨RX5, "copyFrom", "(LChoirBook$Singer;)V"⟩
abbrev cX5_learn : ByteArray := prog_7_method_4_code
def yX5_learn : MethodName := ⟨RX5, "learn", "(JJ)V"⟩
abbrev cX5_notesIn : ByteArray := prog_7_method_5_code
def yX5_notesIn : MethodName := ⟨RX5, "notesIn", "(I)I"⟩
abbrev cX5_sitsBefore : ByteArray := prog_7_method_6_code
def yX5_sitsBefore : MethodName := ⟨RX5, "sitsBefore", "(LChoirBook$Singer;Z)Z"⟩
abbrev cX5_singsBefore : ByteArray := prog_7_method_7_code
def yX5_singsBefore : MethodName := ⟨RX5, "singsBefore", "(LChoirBook$Singer;)Z"⟩
def RX6 : String := "ChoirBook$Split"
def TX6 : u_T := fun k => match k with
  | 0 => ("ChoirBook$Split", "low", "[J", true)
  | _ => ("ChoirBook$Split", "high", "[J", true)
def tyX6 : Nat → FieldType := fun k => match k with
  | 0 => .array .long
  | _ => .array .long
abbrev wsX60 : List Cond := u_ws RX6 TX6 2
theorem nmX6 : ∀ a, a < 2 → ∀ b, b < 2 → a ≠ b → (TX6 a).2.1 ≠ (TX6 b).2.1 := by decide +kernel
theorem tyX6_ok : ∀ k, k < 2 → parseFieldDescriptor (TX6 k).2.2.1 = some (tyX6 k) := by decide +kernel
abbrev cX6_init : ByteArray := prog_8_method_1_code
def yX6_init : MethodName := ⟨RX6, "<init>", "()V"⟩
abbrev cX6_addVoice : ByteArray := prog_8_method_2_code
def yX6_addVoice : MethodName := ⟨RX6, "addVoice", "(IIZZ)V"⟩
abbrev cX6_evenest : ByteArray := prog_8_method_3_code
def yX6_evenest : MethodName := ⟨RX6, "evenest", "(II)I"⟩
abbrev cX6_gives : ByteArray := prog_8_method_4_code
def yX6_gives : MethodName := ⟨RX6, "gives", "(II)Z"⟩
abbrev cX6_reaches : ByteArray := prog_8_method_5_code
def yX6_reaches : MethodName := ⟨RX6, "reaches", "(III)Z"⟩
abbrev cX6_bits : ByteArray := prog_8_method_6_code
def yX6_bits : MethodName := ⟨RX6, "bits", "(II)J"⟩
def RX7 : String := "ChoirBook$Text"
def TX7 : u_T := fun k => match k with
  | 0 => ("ChoirBook$Text", "codes", "[I", true)
  | _ => ("ChoirBook$Text", "length", "I", false)
def tyX7 : Nat → FieldType := fun k => match k with
  | 0 => .array .int
  | _ => .int
abbrev wsX70 : List Cond := u_ws RX7 TX7 2
theorem nmX7 : ∀ a, a < 2 → ∀ b, b < 2 → a ≠ b → (TX7 a).2.1 ≠ (TX7 b).2.1 := by decide +kernel
theorem tyX7_ok : ∀ k, k < 2 → parseFieldDescriptor (TX7 k).2.2.1 = some (tyX7 k) := by decide +kernel
abbrev cX7_init : ByteArray := prog_9_method_1_code
def yX7_init : MethodName := ⟨RX7, "<init>", "()V"⟩
def RX8 : String := "ChoirBook"
def TX8 : u_T := fun k => match k with
  | 0 => ("ChoirBook", "choir", "LChoirBook$Choir;", true)
  | 1 => ("ChoirBook", "history", "LChoirBook$History;", true)
  | 2 => ("ChoirBook", "images", "[LChoirBook$Choir;", true)
  | 3 => ("ChoirBook", "kept", "[Z", true)
  | 4 => ("ChoirBook", "text", "LChoirBook$Text;", true)
  | 5 => ("ChoirBook", "reader", "LChoirBook$Reader;", true)
  | 6 => ("ChoirBook", "next", "LChoirBook$Rehearsal;", true)
  | _ => ("ChoirBook", "placing", "LChoirBook$Placing;", true)
def tyX8 : Nat → FieldType := fun k => match k with
  | 0 => .object "ChoirBook$Choir"
  | 1 => .object "ChoirBook$History"
  | 2 => .array (.object "ChoirBook$Choir")
  | 3 => .array .boolean
  | 4 => .object "ChoirBook$Text"
  | 5 => .object "ChoirBook$Reader"
  | 6 => .object "ChoirBook$Rehearsal"
  | _ => .object "ChoirBook$Placing"
abbrev wsX80 : List Cond := u_ws RX8 TX8 8
theorem nmX8 : ∀ a, a < 8 → ∀ b, b < 8 → a ≠ b → (TX8 a).2.1 ≠ (TX8 b).2.1 := by decide +kernel
theorem tyX8_ok : ∀ k, k < 8 → parseFieldDescriptor (TX8 k).2.2.1 = some (tyX8 k) := by decide +kernel
abbrev cX8_init : ByteArray := prog_1_method_1_code
def yX8_init : MethodName := ⟨RX8, "<init>", "()V"⟩
abbrev cX8_add : ByteArray := prog_1_method_2_code
def yX8_add : MethodName := ⟨RX8, "add", "(II)I"⟩
abbrev cX8_remove : ByteArray := prog_1_method_3_code
def yX8_remove : MethodName := ⟨RX8, "remove", "(I)I"⟩
abbrev cX8_set : ByteArray := prog_1_method_4_code
def yX8_set : MethodName := ⟨RX8, "set", "(II)I"⟩
abbrev cX8_test : ByteArray := prog_1_method_5_code
def yX8_test : MethodName := ⟨RX8, "test", "(I)I"⟩
abbrev cX8_place : ByteArray := prog_1_method_6_code
def yX8_place : MethodName := ⟨RX8, "place", "(II)I"⟩
abbrev cX8_placeAll : ByteArray := prog_1_method_7_code
def yX8_placeAll : MethodName := ⟨RX8, "placeAll", "()I"⟩
abbrev cX8_attendance : ByteArray := prog_1_method_8_code
def yX8_attendance : MethodName := ⟨RX8, "attendance", "()I"⟩
abbrev cX8_hold : ByteArray := prog_1_method_9_code
def yX8_hold : MethodName := ⟨RX8, "hold", "()I"⟩
abbrev cX8_undo : ByteArray := prog_1_method_10_code
def yX8_undo : MethodName := ⟨RX8, "undo", "()I"⟩
abbrev cX8_write : ByteArray := prog_1_method_11_code
def yX8_write : MethodName := ⟨RX8, "write", "(I)I"⟩
abbrev cX8_wipe : ByteArray := prog_1_method_12_code
def yX8_wipe : MethodName := ⟨RX8, "wipe", "()I"⟩
abbrev cX8_fault : ByteArray := prog_1_method_13_code
def yX8_fault : MethodName := ⟨RX8, "fault", "(I)I"⟩
abbrev cX8_told : ByteArray := prog_1_method_14_code
def yX8_told : MethodName := ⟨RX8, "told", "(I)I"⟩
abbrev cX8_setting : ByteArray := prog_1_method_15_code
def yX8_setting : MethodName := ⟨RX8, "setting", "(I)I"⟩
abbrev cX8_singer : ByteArray := prog_1_method_16_code
def yX8_singer : MethodName := ⟨RX8, "singer", "(II)I"⟩
abbrev cX8_note : ByteArray := prog_1_method_17_code
def yX8_note : MethodName := ⟨RX8, "note", "(II)I"⟩
abbrev cX8_overlap : ByteArray := prog_1_method_18_code
def yX8_overlap : MethodName := ⟨RX8, "overlap", "(II)I"⟩
abbrev cX8_part : ByteArray := prog_1_method_19_code
def yX8_part : MethodName := ⟨RX8, "part", "(II)I"⟩
abbrev cX8_seat : ByteArray := prog_1_method_20_code
def yX8_seat : MethodName := ⟨RX8, "seat", "(II)I"⟩
abbrev cX8_solo : ByteArray := prog_1_method_21_code
def yX8_solo : MethodName := ⟨RX8, "solo", "(II)I"⟩
abbrev cX8_mean : ByteArray := prog_1_method_22_code
def yX8_mean : MethodName := ⟨RX8, "mean", "()F"⟩
abbrev cX8_standIn : ByteArray := prog_1_method_23_code
def yX8_standIn : MethodName := ⟨RX8, "standIn", "(I)I"⟩
abbrev cX8_passedOver : ByteArray := prog_1_method_24_code
def yX8_passedOver : MethodName := ⟨RX8, "passedOver", "(I)I"⟩
abbrev cX8_without : ByteArray := prog_1_method_25_code
def yX8_without : MethodName := ⟨RX8, "without", "(I)I"⟩
abbrev cX8_keep : ByteArray := prog_1_method_26_code
def yX8_keep : MethodName := ⟨RX8, "keep", "(I)I"⟩
abbrev cX8_back : ByteArray := prog_1_method_27_code
def yX8_back : MethodName := ⟨RX8, "back", "(I)I"⟩
abbrev cX8_isSetting : ByteArray := prog_1_method_28_code
def yX8_isSetting : MethodName := ⟨RX8, "isSetting", "(I)Z"⟩
abbrev cX8_isPart : ByteArray := prog_1_method_29_code
def yX8_isPart : MethodName := ⟨RX8, "isPart", "(I)Z"⟩
abbrev cX8_isImage : ByteArray := prog_1_method_30_code
def yX8_isImage : MethodName := ⟨RX8, "isImage", "(I)Z"⟩
abbrev cX8_contains : ByteArray := prog_1_method_31_code
def yX8_contains : MethodName := ⟨RX8, "contains", "(JI)Z"⟩
def RX9 : String := "ChoirBookModel"
def TX9 : u_T := fun k => match k with
  | 0 => ("ChoirBookModel", "w", "[I", true)
  | 1 => ("ChoirBookModel", "past", "[I", true)
  | 2 => ("ChoirBookModel", "pastMany", "I", false)
  | 3 => ("ChoirBookModel", "images", "[I", true)
  | 4 => ("ChoirBookModel", "filled", "I", false)
  | 5 => ("ChoirBookModel", "text", "[I", true)
  | 6 => ("ChoirBookModel", "length", "I", false)
  | 7 => ("ChoirBookModel", "faultKind", "I", false)
  | 8 => ("ChoirBookModel", "faultPlace", "I", false)
  | 9 => ("ChoirBookModel", "low", "I", false)
  | 10 => ("ChoirBookModel", "high", "I", false)
  | 11 => ("ChoirBookModel", "may", "[I", true)
  | 12 => ("ChoirBookModel", "tried", "[I", true)
  | 13 => ("ChoirBookModel", "best", "[I", true)
  | 14 => ("ChoirBookModel", "sums", "[I", true)
  | 15 => ("ChoirBookModel", "bestLeast", "I", false)
  | 16 => ("ChoirBookModel", "bestMost", "I", false)
  | 17 => ("ChoirBookModel", "stands", "[I", true)
  | 18 => ("ChoirBookModel", "strength", "[I", true)
  | 19 => ("ChoirBookModel", "solos", "[I", true)
  | 20 => ("ChoirBookModel", "words", "I", false)
  | 21 => ("ChoirBookModel", "first", "[I", true)
  | 22 => ("ChoirBookModel", "last", "[I", true)
  | 23 => ("ChoirBookModel", "can", "[I", true)
  | 24 => ("ChoirBookModel", "wrongKind", "I", false)
  | 25 => ("ChoirBookModel", "wrongPlace", "I", false)
  | 26 => ("ChoirBookModel", "stage", "I", false)
  | 27 => ("ChoirBookModel", "value", "I", false)
  | 28 => ("ChoirBookModel", "digits", "I", false)
  | 29 => ("ChoirBookModel", "digitsAt", "I", false)
  | _ => ("ChoirBookModel", "greatest", "I", false)
def tyX9 : Nat → FieldType := fun k => match k with
  | 0 => .array .int
  | 1 => .array .int
  | 2 => .int
  | 3 => .array .int
  | 4 => .int
  | 5 => .array .int
  | 6 => .int
  | 7 => .int
  | 8 => .int
  | 9 => .int
  | 10 => .int
  | 11 => .array .int
  | 12 => .array .int
  | 13 => .array .int
  | 14 => .array .int
  | 15 => .int
  | 16 => .int
  | 17 => .array .int
  | 18 => .array .int
  | 19 => .array .int
  | 20 => .int
  | 21 => .array .int
  | 22 => .array .int
  | 23 => .array .int
  | 24 => .int
  | 25 => .int
  | 26 => .int
  | 27 => .int
  | 28 => .int
  | 29 => .int
  | _ => .int
abbrev wsX90 : List Cond := u_ws RX9 TX9 31
theorem nmX9 : ∀ a, a < 31 → ∀ b, b < 31 → a ≠ b → (TX9 a).2.1 ≠ (TX9 b).2.1 := by decide +kernel
theorem tyX9_ok : ∀ k, k < 31 → parseFieldDescriptor (TX9 k).2.2.1 = some (tyX9 k) := by decide +kernel
abbrev cX9_init : ByteArray := prog_11_method_1_code
def yX9_init : MethodName := ⟨RX9, "<init>", "()V"⟩
abbrev cX9_isIn : ByteArray := prog_11_method_3_code
def yX9_isIn : MethodName := ⟨RX9, "isIn", "(III)Z"⟩
abbrev cX9_remember : ByteArray := prog_11_method_4_code
def yX9_remember : MethodName := ⟨RX9, "remember", "()V"⟩
abbrev cX9_of : ByteArray := prog_11_method_5_code
def yX9_of : MethodName := ⟨RX9, "of", "(II)I"⟩
abbrev cX9_put : ByteArray := prog_11_method_6_code
def yX9_put : MethodName := ⟨RX9, "put", "(III)V"⟩
abbrev cX9_isSinger : ByteArray := prog_11_method_7_code
def yX9_isSinger : MethodName := ⟨RX9, "isSinger", "(I)Z"⟩
abbrev cX9_isPart : ByteArray := prog_11_method_8_code
def yX9_isPart : MethodName := ⟨RX9, "isPart", "(I)Z"⟩
abbrev cX9_findRange : ByteArray := prog_11_method_9_code
def yX9_findRange : MethodName := ⟨RX9, "findRange", "(I)V"⟩
abbrev cX9_overlapOf : ByteArray := prog_11_method_10_code
def yX9_overlapOf : MethodName := ⟨RX9, "overlapOf", "(II)I"⟩
abbrev cX9_isFit : ByteArray := prog_11_method_11_code
def yX9_isFit : MethodName := ⟨RX9, "isFit", "(II)Z"⟩
abbrev cX9_fits : ByteArray := prog_11_method_12_code
def yX9_fits : MethodName := ⟨RX9, "fits", "(I)I"⟩
abbrev cX9_judge : ByteArray := prog_11_method_13_code
def yX9_judge : MethodName := ⟨RX9, "judge", "()V"⟩
abbrev cX9_nextPart : ByteArray := prog_11_method_14_code
def yX9_nextPart : MethodName := ⟨RX9, "nextPart", "(II)I"⟩
abbrev cX9_change : ByteArray := prog_11_method_15_code
def yX9_change : MethodName := ⟨RX9, "change", "(II)V"⟩
abbrev cX9_findBest : ByteArray := prog_11_method_16_code
def yX9_findBest : MethodName := ⟨RX9, "findBest", "(I)V"⟩
abbrev cX9_placeAll : ByteArray := prog_11_method_17_code
def yX9_placeAll : MethodName := ⟨RX9, "placeAll", "()I"⟩
abbrev cX9_without : ByteArray := prog_11_method_18_code
def yX9_without : MethodName := ⟨RX9, "without", "(I)I"⟩
abbrev cX9_presentStrength : ByteArray := prog_11_method_19_code
def yX9_presentStrength : MethodName := ⟨RX9, "presentStrength", "(I)I"⟩
abbrev cX9_isFree : ByteArray := prog_11_method_20_code
def yX9_isFree : MethodName := ⟨RX9, "isFree", "(II)Z"⟩
abbrev cX9_findStandIns : ByteArray := prog_11_method_21_code
def yX9_findStandIns : MethodName := ⟨RX9, "findStandIns", "()V"⟩
abbrev cX9_isRested : ByteArray := prog_11_method_22_code
def yX9_isRested : MethodName := ⟨RX9, "isRested", "(I)Z"⟩
abbrev cX9_isBefore : ByteArray := prog_11_method_23_code
def yX9_isBefore : MethodName := ⟨RX9, "isBefore", "(II)Z"⟩
abbrev cX9_findSolos : ByteArray := prog_11_method_24_code
def yX9_findSolos : MethodName := ⟨RX9, "findSolos", "()V"⟩
abbrev cX9_hold : ByteArray := prog_11_method_25_code
def yX9_hold : MethodName := ⟨RX9, "hold", "()I"⟩
abbrev cX9_fails : ByteArray := prog_11_method_26_code
def yX9_fails : MethodName := ⟨RX9, "fails", "(II)V"⟩
abbrev cX9_endsWell : ByteArray := prog_11_method_27_code
def yX9_endsWell : MethodName := ⟨RX9, "endsWell", "()Z"⟩
abbrev cX9_readDigit : ByteArray := prog_11_method_28_code
def yX9_readDigit : MethodName := ⟨RX9, "readDigit", "(I)V"⟩
abbrev cX9_readOther : ByteArray := prog_11_method_29_code
def yX9_readOther : MethodName := ⟨RX9, "readOther", "(IZ)V"⟩
abbrev cX9_hasFault : ByteArray := prog_11_method_30_code
def yX9_hasFault : MethodName := ⟨RX9, "hasFault", "(Z)Z"⟩
abbrev cX9_rangeSize : ByteArray := prog_11_method_31_code
def yX9_rangeSize : MethodName := ⟨RX9, "rangeSize", "(I)I"⟩
abbrev cX9_test : ByteArray := prog_11_method_32_code
def yX9_test : MethodName := ⟨RX9, "test", "(I)I"⟩
abbrev cX9_absent : ByteArray := prog_11_method_33_code
def yX9_absent : MethodName := ⟨RX9, "absent", "()I"⟩
abbrev cX9_attendance : ByteArray := prog_11_method_34_code
def yX9_attendance : MethodName := ⟨RX9, "attendance", "()I"⟩
abbrev cX9_write : ByteArray := prog_11_method_35_code
def yX9_write : MethodName := ⟨RX9, "write", "(I)I"⟩
abbrev cX9_wipe : ByteArray := prog_11_method_36_code
def yX9_wipe : MethodName := ⟨RX9, "wipe", "()I"⟩
abbrev cX9_fault : ByteArray := prog_11_method_37_code
def yX9_fault : MethodName := ⟨RX9, "fault", "(I)I"⟩
abbrev cX9_add : ByteArray := prog_11_method_38_code
def yX9_add : MethodName := ⟨RX9, "add", "(II)I"⟩
abbrev cX9_remove : ByteArray := prog_11_method_39_code
def yX9_remove : MethodName := ⟨RX9, "remove", "(I)I"⟩
abbrev cX9_isOf : ByteArray := prog_11_method_40_code
def yX9_isOf : MethodName := ⟨RX9, "isOf", "(II)Z"⟩
abbrev cX9_set : ByteArray := prog_11_method_41_code
def yX9_set : MethodName := ⟨RX9, "set", "(II)I"⟩
abbrev cX9_place : ByteArray := prog_11_method_42_code
def yX9_place : MethodName := ⟨RX9, "place", "(II)I"⟩
abbrev cX9_undo : ByteArray := prog_11_method_43_code
def yX9_undo : MethodName := ⟨RX9, "undo", "()I"⟩
abbrev cX9_placedIn : ByteArray := prog_11_method_44_code
def yX9_placedIn : MethodName := ⟨RX9, "placedIn", "(I)I"⟩
abbrev cX9_covered : ByteArray := prog_11_method_45_code
def yX9_covered : MethodName := ⟨RX9, "covered", "()I"⟩
abbrev cX9_told : ByteArray := prog_11_method_46_code
def yX9_told : MethodName := ⟨RX9, "told", "(I)I"⟩
abbrev cX9_setting : ByteArray := prog_11_method_47_code
def yX9_setting : MethodName := ⟨RX9, "setting", "(I)I"⟩
abbrev cX9_singer : ByteArray := prog_11_method_48_code
def yX9_singer : MethodName := ⟨RX9, "singer", "(II)I"⟩
abbrev cX9_note : ByteArray := prog_11_method_49_code
def yX9_note : MethodName := ⟨RX9, "note", "(II)I"⟩
abbrev cX9_overlap : ByteArray := prog_11_method_50_code
def yX9_overlap : MethodName := ⟨RX9, "overlap", "(II)I"⟩
abbrev cX9_strengthOf : ByteArray := prog_11_method_51_code
def yX9_strengthOf : MethodName := ⟨RX9, "strengthOf", "(I)I"⟩
abbrev cX9_rows : ByteArray := prog_11_method_52_code
def yX9_rows : MethodName := ⟨RX9, "rows", "(I)I"⟩
abbrev cX9_part : ByteArray := prog_11_method_53_code
def yX9_part : MethodName := ⟨RX9, "part", "(II)I"⟩
abbrev cX9_seat : ByteArray := prog_11_method_54_code
def yX9_seat : MethodName := ⟨RX9, "seat", "(II)I"⟩
abbrev cX9_solo : ByteArray := prog_11_method_55_code
def yX9_solo : MethodName := ⟨RX9, "solo", "(II)I"⟩
abbrev cX9_mean : ByteArray := prog_11_method_56_code
def yX9_mean : MethodName := ⟨RX9, "mean", "()F"⟩
abbrev cX9_standIn : ByteArray := prog_11_method_57_code
def yX9_standIn : MethodName := ⟨RX9, "standIn", "(I)I"⟩
abbrev cX9_passedOver : ByteArray := prog_11_method_58_code
def yX9_passedOver : MethodName := ⟨RX9, "passedOver", "(I)I"⟩
abbrev cX9_isImage : ByteArray := prog_11_method_59_code
def yX9_isImage : MethodName := ⟨RX9, "isImage", "(I)Z"⟩
abbrev cX9_keep : ByteArray := prog_11_method_60_code
def yX9_keep : MethodName := ⟨RX9, "keep", "(I)I"⟩
abbrev cX9_back : ByteArray := prog_11_method_61_code
def yX9_back : MethodName := ⟨RX9, "back", "(I)I"⟩
def RL : String := "ChoirBookLaw"
abbrev cL_law : ByteArray := code
def yL_law : MethodName := ⟨RL, "law", "([I)Z"⟩
abbrev vwCl : List vw_C := [(RX0, TX0, 8), (RX1, TX1, 3), (RX2, TX2, 10), (RX3, TX3, 11), (RX4, TX4, 3), (RX5, TX5, 11), (RX6, TX6, 2), (RX7, TX7, 2), (RX8, TX8, 8), (RX9, TX9, 31)]
end
section
def tb_X0_init : List (Nat × Instr × Nat) := [(0, .aload_n 0, 1), (1, .invokespecial 3, 3), (4, .aload_n 0, 1), (5, .bipush 10, 2), (7, .anewarray 9, 3), (10, .putfield 11, 3), (13, .iconst 0, 1), (14, .istore_n 1, 1), (15, .iload_n 1, 1), (16, .bipush 10, 2), (18, .if_icmp .ge 22, 3), (21, .aload_n 0, 1), (22, .getfield 11, 3), (25, .iload_n 1, 1), (26, .new 9, 3), (29, .dup, 1), (30, .invokespecial 17, 3), (33, .aastore, 1), (34, .iinc 1 1, 3), (37, .goto (-22), 3), (40, .aload_n 0, 1), (41, .iconst 4, 1), (42, .newarray .int, 2), (44, .putfield 18, 3), (47, .iconst 0, 1), (48, .istore_n 1, 1), (49, .iload_n 1, 1), (50, .iconst 4, 1), (51, .if_icmp .ge 20, 3), (54, .aload_n 0, 1), (55, .getfield 18, 3), (58, .iload_n 1, 1), (59, .getstatic 22, 3), (62, .iload_n 1, 1), (63, .iaload, 1), (64, .iastore, 1), (65, .iinc 1 1, 3), (68, .goto (-19), 3), (71, .aload_n 0, 1), (72, .sipush 160, 3), (75, .newarray .int, 2), (77, .putfield 25, 3), (80, .aload_n 0, 1), (81, .iconst 4, 1), (82, .newarray .int, 2), (84, .putfield 28, 3), (87, .return_, 1)]
theorem dc_X0_init : ∀ q ∈ tb_X0_init, decode cX0_init q.1 = .ok q.2 := by decide +kernel
def tb_X0_copyFrom : List (Nat × Instr × Nat) := [(0, .iconst 0, 1), (1, .istore_n 2, 1), (2, .iload_n 2, 1), (3, .aload_n 1, 1), (4, .getfield 31, 3), (7, .if_icmp .ge 24, 3), (10, .aload_n 0, 1), (11, .getfield 11, 3), (14, .iload_n 2, 1), (15, .aaload, 1), (16, .aload_n 1, 1), (17, .getfield 11, 3), (20, .iload_n 2, 1), (21, .aaload, 1), (22, .invokevirtual 35, 3), (25, .iinc 2 1, 3), (28, .goto (-26), 3), (31, .aload_n 1, 1), (32, .getfield 18, 3), (35, .iconst 0, 1), (36, .aload_n 0, 1), (37, .getfield 18, 3), (40, .iconst 0, 1), (41, .iconst 4, 1), (42, .invokestatic 39, 3), (45, .aload_n 1, 1), (46, .getfield 25, 3), (49, .iconst 0, 1), (50, .aload_n 0, 1), (51, .getfield 25, 3), (54, .iconst 0, 1), (55, .aload_n 1, 1), (56, .getfield 45, 3), (59, .iconst 4, 1), (60, .imul, 1), (61, .invokestatic 39, 3), (64, .aload_n 1, 1), (65, .getfield 28, 3), (68, .iconst 0, 1), (69, .aload_n 0, 1), (70, .getfield 28, 3), (73, .iconst 0, 1), (74, .iconst 4, 1), (75, .invokestatic 39, 3), (78, .aload_n 0, 1), (79, .aload_n 1, 1), (80, .getfield 31, 3), (83, .putfield 31, 3), (86, .aload_n 0, 1), (87, .aload_n 1, 1), (88, .getfield 45, 3), (91, .putfield 45, 3), (94, .aload_n 0, 1), (95, .aload_n 1, 1), (96, .getfield 48, 3), (99, .putfield 48, 3), (102, .aload_n 0, 1), (103, .aload_n 1, 1), (104, .getfield 51, 3), (107, .putfield 51, 3), (110, .return_, 1)]
theorem dc_X0_copyFrom : ∀ q ∈ tb_X0_copyFrom, decode cX0_copyFrom q.1 = .ok q.2 := by decide +kernel
def tb_X0_has : List (Nat × Instr × Nat) := [(0, .iload_n 1, 1), (1, .ifCond .lt 15, 3), (4, .iload_n 1, 1), (5, .aload_n 0, 1), (6, .getfield 31, 3), (9, .if_icmp .ge 7, 3), (12, .iconst 1, 1), (13, .goto 4, 3), (16, .iconst 0, 1), (17, .ireturn, 1)]
theorem dc_X0_has : ∀ q ∈ tb_X0_has, decode cX0_has q.1 = .ok q.2 := by decide +kernel
def tb_X0_join : List (Nat × Instr × Nat) := [(0, .aload_n 0, 1), (1, .getfield 11, 3), (4, .aload_n 0, 1), (5, .getfield 31, 3), (8, .aaload, 1), (9, .iload_n 1, 1), (10, .iload_n 2, 1), (11, .invokevirtual 54, 3), (14, .aload_n 0, 1), (15, .dup, 1), (16, .getfield 31, 3), (19, .iconst 1, 1), (20, .iadd, 1), (21, .putfield 31, 3), (24, .return_, 1)]
theorem dc_X0_join : ∀ q ∈ tb_X0_join, decode cX0_join q.1 = .ok q.2 := by decide +kernel
def tb_X0_dismiss : List (Nat × Instr × Nat) := [(0, .iload_n 1, 1), (1, .istore_n 2, 1), (2, .iload_n 2, 1), (3, .iconst 1, 1), (4, .iadd, 1), (5, .aload_n 0, 1), (6, .getfield 31, 3), (9, .if_icmp .ge 26, 3), (12, .aload_n 0, 1), (13, .getfield 11, 3), (16, .iload_n 2, 1), (17, .aaload, 1), (18, .aload_n 0, 1), (19, .getfield 11, 3), (22, .iload_n 2, 1), (23, .iconst 1, 1), (24, .iadd, 1), (25, .aaload, 1), (26, .invokevirtual 35, 3), (29, .iinc 2 1, 3), (32, .goto (-30), 3), (35, .aload_n 0, 1), (36, .dup, 1), (37, .getfield 31, 3), (40, .iconst 1, 1), (41, .isub, 1), (42, .putfield 31, 3), (45, .return_, 1)]
theorem dc_X0_dismiss : ∀ q ∈ tb_X0_dismiss, decode cX0_dismiss q.1 = .ok q.2 := by decide +kernel
def tb_X0_fits : List (Nat × Instr × Nat) := [(0, .aload_n 0, 1), (1, .getfield 11, 3), (4, .iload_n 1, 1), (5, .aaload, 1), (6, .iload_n 2, 1), (7, .invokevirtual 58, 3), (10, .aload_n 0, 1), (11, .getfield 18, 3), (14, .iconst 0, 1), (15, .iaload, 1), (16, .if_icmp .lt 7, 3), (19, .iconst 1, 1), (20, .goto 4, 3), (23, .iconst 0, 1), (24, .ireturn, 1)]
theorem dc_X0_fits : ∀ q ∈ tb_X0_fits, decode cX0_fits q.1 = .ok q.2 := by decide +kernel
def tb_X0_fittingParts : List (Nat × Instr × Nat) := [(0, .iconst 0, 1), (1, .istore_n 2, 1), (2, .iconst 0, 1), (3, .istore_n 3, 1), (4, .iload_n 3, 1), (5, .iconst 4, 1), (6, .if_icmp .ge 24, 3), (9, .aload_n 0, 1), (10, .iload_n 1, 1), (11, .iload_n 3, 1), (12, .invokevirtual 62, 3), (15, .ifCond .eq 9, 3), (18, .iload_n 2, 1), (19, .iconst 1, 1), (20, .iload_n 3, 1), (21, .ishl, 1), (22, .ior, 1), (23, .istore_n 2, 1), (24, .iinc 3 1, 3), (27, .goto (-23), 3), (30, .iload_n 2, 1), (31, .ireturn, 1)]
theorem dc_X0_fittingParts : ∀ q ∈ tb_X0_fittingParts, decode cX0_fittingParts q.1 = .ok q.2 := by decide +kernel
def tb_X0_placed : List (Nat × Instr × Nat) := [(0, .iconst 0, 1), (1, .istore_n 1, 1), (2, .iconst 0, 1), (3, .istore_n 2, 1), (4, .iload_n 2, 1), (5, .iconst 4, 1), (6, .if_icmp .ge 17, 3), (9, .iload_n 1, 1), (10, .aload_n 0, 1), (11, .iload_n 2, 1), (12, .invokevirtual 66, 3), (15, .iadd, 1), (16, .istore_n 1, 1), (17, .iinc 2 1, 3), (20, .goto (-16), 3), (23, .iload_n 1, 1), (24, .ireturn, 1)]
theorem dc_X0_placed : ∀ q ∈ tb_X0_placed, decode cX0_placed q.1 = .ok q.2 := by decide +kernel
def tb_X0_absent : List (Nat × Instr × Nat) := [(0, .iconst 0, 1), (1, .istore_n 1, 1), (2, .iconst 0, 1), (3, .istore_n 2, 1), (4, .iload_n 2, 1), (5, .aload_n 0, 1), (6, .getfield 31, 3), (9, .if_icmp .ge 29, 3), (12, .iload_n 1, 1), (13, .aload_n 0, 1), (14, .getfield 11, 3), (17, .iload_n 2, 1), (18, .aaload, 1), (19, .getfield 69, 3), (22, .ifCond .eq 7, 3), (25, .iconst 0, 1), (26, .goto 4, 3), (29, .iconst 1, 1), (30, .iadd, 1), (31, .istore_n 1, 1), (32, .iinc 2 1, 3), (35, .goto (-31), 3), (38, .iload_n 1, 1), (39, .ireturn, 1)]
theorem dc_X0_absent : ∀ q ∈ tb_X0_absent, decode cX0_absent q.1 = .ok q.2 := by decide +kernel
def tb_X0_members : List (Nat × Instr × Nat) := [(0, .iconst 0, 1), (1, .istore_n 2, 1), (2, .iconst 0, 1), (3, .istore_n 3, 1), (4, .iload_n 3, 1), (5, .aload_n 0, 1), (6, .getfield 31, 3), (9, .if_icmp .ge 30, 3), (12, .iload_n 2, 1), (13, .aload_n 0, 1), (14, .getfield 11, 3), (17, .iload_n 3, 1), (18, .aaload, 1), (19, .getfield 73, 3), (22, .iload_n 1, 1), (23, .if_icmp .ne 7, 3), (26, .iconst 1, 1), (27, .goto 4, 3), (30, .iconst 0, 1), (31, .iadd, 1), (32, .istore_n 2, 1), (33, .iinc 3 1, 3), (36, .goto (-32), 3), (39, .iload_n 2, 1), (40, .ireturn, 1)]
theorem dc_X0_members : ∀ q ∈ tb_X0_members, decode cX0_members q.1 = .ok q.2 := by decide +kernel
def tb_X0_strength : List (Nat × Instr × Nat) := [(0, .iconst 0, 1), (1, .istore_n 2, 1), (2, .iconst 0, 1), (3, .istore_n 3, 1), (4, .iload_n 3, 1), (5, .aload_n 0, 1), (6, .getfield 31, 3), (9, .if_icmp .ge 38, 3), (12, .iload_n 2, 1), (13, .aload_n 0, 1), (14, .getfield 11, 3), (17, .iload_n 3, 1), (18, .aaload, 1), (19, .getfield 73, 3), (22, .iload_n 1, 1), (23, .if_icmp .ne 15, 3), (26, .aload_n 0, 1), (27, .getfield 11, 3), (30, .iload_n 3, 1), (31, .aaload, 1), (32, .getfield 76, 3), (35, .goto 4, 3), (38, .iconst 0, 1), (39, .iadd, 1), (40, .istore_n 2, 1), (41, .iinc 3 1, 3), (44, .goto (-40), 3), (47, .iload_n 2, 1), (48, .ireturn, 1)]
theorem dc_X0_strength : ∀ q ∈ tb_X0_strength, decode cX0_strength q.1 = .ok q.2 := by decide +kernel
def tb_X0_strengthPresent : List (Nat × Instr × Nat) := [(0, .iconst 0, 1), (1, .istore_n 2, 1), (2, .iconst 0, 1), (3, .istore_n 3, 1), (4, .iload_n 3, 1), (5, .aload_n 0, 1), (6, .getfield 31, 3), (9, .if_icmp .ge 46, 3), (12, .aload_n 0, 1), (13, .getfield 11, 3), (16, .iload_n 3, 1), (17, .aaload, 1), (18, .astore 4, 2), (20, .iload_n 2, 1), (21, .aload 4, 2), (23, .getfield 73, 3), (26, .iload_n 1, 1), (27, .if_icmp .ne 19, 3), (30, .aload 4, 2), (32, .getfield 69, 3), (35, .ifCond .eq 11, 3), (38, .aload 4, 2), (40, .getfield 76, 3), (43, .goto 4, 3), (46, .iconst 0, 1), (47, .iadd, 1), (48, .istore_n 2, 1), (49, .iinc 3 1, 3), (52, .goto (-48), 3), (55, .iload_n 2, 1), (56, .ireturn, 1)]
theorem dc_X0_strengthPresent : ∀ q ∈ tb_X0_strengthPresent, decode cX0_strengthPresent q.1 = .ok q.2 := by decide +kernel
def tb_X0_covers : List (Nat × Instr × Nat) := [(0, .iload_n 1, 1), (1, .aload_n 0, 1), (2, .getfield 18, 3), (5, .iconst 1, 1), (6, .iaload, 1), (7, .if_icmp .lt 7, 3), (10, .iconst 1, 1), (11, .goto 4, 3), (14, .iconst 0, 1), (15, .ireturn, 1)]
theorem dc_X0_covers : ∀ q ∈ tb_X0_covers, decode cX0_covers q.1 = .ok q.2 := by decide +kernel
def tb_X0_coveredParts : List (Nat × Instr × Nat) := [(0, .iconst 0, 1), (1, .istore_n 1, 1), (2, .iconst 0, 1), (3, .istore_n 2, 1), (4, .iload_n 2, 1), (5, .iconst 4, 1), (6, .if_icmp .ge 27, 3), (9, .aload_n 0, 1), (10, .aload_n 0, 1), (11, .iload_n 2, 1), (12, .invokevirtual 79, 3), (15, .invokevirtual 82, 3), (18, .ifCond .eq 9, 3), (21, .iload_n 1, 1), (22, .iconst 1, 1), (23, .iload_n 2, 1), (24, .ishl, 1), (25, .ior, 1), (26, .istore_n 1, 1), (27, .iinc 2 1, 3), (30, .goto (-26), 3), (33, .iload_n 1, 1), (34, .ireturn, 1)]
theorem dc_X0_coveredParts : ∀ q ∈ tb_X0_coveredParts, decode cX0_coveredParts q.1 = .ok q.2 := by decide +kernel
def tb_X0_rested : List (Nat × Instr × Nat) := [(0, .aload_n 1, 1), (1, .getfield 86, 3), (4, .bipush (-9), 2), (6, .if_icmp .eq 21, 3), (9, .aload_n 0, 1), (10, .getfield 45, 3), (13, .aload_n 1, 1), (14, .getfield 86, 3), (17, .isub, 1), (18, .aload_n 0, 1), (19, .getfield 18, 3), (22, .iconst 2, 1), (23, .iaload, 1), (24, .if_icmp .le 7, 3), (27, .iconst 1, 1), (28, .goto 4, 3), (31, .iconst 0, 1), (32, .ireturn, 1)]
theorem dc_X0_rested : ∀ q ∈ tb_X0_rested, decode cX0_rested q.1 = .ok q.2 := by decide +kernel
def tb_X0_width : List (Nat × Instr × Nat) := [(0, .iconst 1, 1), (1, .aload_n 0, 1), (2, .getfield 18, 3), (5, .iconst 3, 1), (6, .iaload, 1), (7, .invokestatic 89, 3), (10, .ireturn, 1)]
theorem dc_X0_width : ∀ q ∈ tb_X0_width, decode cX0_width q.1 = .ok q.2 := by decide +kernel
def tb_X0_rows : List (Nat × Instr × Nat) := [(0, .aload_n 0, 1), (1, .iload_n 1, 1), (2, .invokevirtual 66, 3), (5, .aload_n 0, 1), (6, .invokevirtual 95, 3), (9, .iadd, 1), (10, .iconst 1, 1), (11, .isub, 1), (12, .aload_n 0, 1), (13, .invokevirtual 95, 3), (16, .idiv, 1), (17, .ireturn, 1)]
theorem dc_X0_rows : ∀ q ∈ tb_X0_rows, decode cX0_rows q.1 = .ok q.2 := by decide +kernel
def tb_X0_rowsBefore : List (Nat × Instr × Nat) := [(0, .iconst 0, 1), (1, .istore_n 2, 1), (2, .iconst 0, 1), (3, .istore_n 3, 1), (4, .iload_n 3, 1), (5, .iload_n 1, 1), (6, .if_icmp .ge 17, 3), (9, .iload_n 2, 1), (10, .aload_n 0, 1), (11, .iload_n 3, 1), (12, .invokevirtual 99, 3), (15, .iadd, 1), (16, .istore_n 2, 1), (17, .iinc 3 1, 3), (20, .goto (-16), 3), (23, .iload_n 2, 1), (24, .ireturn, 1)]
theorem dc_X0_rowsBefore : ∀ q ∈ tb_X0_rowsBefore, decode cX0_rowsBefore q.1 = .ok q.2 := by decide +kernel
def tb_X0_seatedBefore : List (Nat × Instr × Nat) := [(0, .aload_n 0, 1), (1, .getfield 11, 3), (4, .iload_n 1, 1), (5, .aaload, 1), (6, .astore_n 2, 1), (7, .iconst 0, 1), (8, .istore_n 3, 1), (9, .iconst 0, 1), (10, .istore 4, 2), (12, .iload 4, 2), (14, .aload_n 0, 1), (15, .getfield 31, 3), (18, .if_icmp .ge 53, 3), (21, .aload_n 0, 1), (22, .getfield 11, 3), (25, .iload 4, 2), (27, .aaload, 1), (28, .astore 5, 2), (30, .aload 5, 2), (32, .getfield 73, 3), (35, .aload_n 2, 1), (36, .getfield 73, 3), (39, .if_icmp .ne 26, 3), (42, .aload 5, 2), (44, .aload_n 2, 1), (45, .iload 4, 2), (47, .iload_n 1, 1), (48, .if_icmp .ge 7, 3), (51, .iconst 1, 1), (52, .goto 4, 3), (55, .iconst 0, 1), (56, .invokevirtual 102, 3), (59, .ifCond .eq 6, 3), (62, .iinc 3 1, 3), (65, .iinc 4 1, 3), (68, .goto (-56), 3), (71, .iload_n 3, 1), (72, .ireturn, 1)]
theorem dc_X0_seatedBefore : ∀ q ∈ tb_X0_seatedBefore, decode cX0_seatedBefore q.1 = .ok q.2 := by decide +kernel
def tb_X1_init : List (Nat × Instr × Nat) := [(0, .aload_n 0, 1), (1, .invokespecial 3, 3), (4, .aload_n 0, 1), (5, .bipush 8, 2), (7, .anewarray 9, 3), (10, .putfield 11, 3), (13, .iconst 0, 1), (14, .istore_n 1, 1), (15, .iload_n 1, 1), (16, .bipush 8, 2), (18, .if_icmp .ge 22, 3), (21, .aload_n 0, 1), (22, .getfield 11, 3), (25, .iload_n 1, 1), (26, .new 9, 3), (29, .dup, 1), (30, .invokespecial 17, 3), (33, .aastore, 1), (34, .iinc 1 1, 3), (37, .goto (-22), 3), (40, .return_, 1)]
theorem dc_X1_init : ∀ q ∈ tb_X1_init, decode cX1_init q.1 = .ok q.2 := by decide +kernel
def tb_X1_record : List (Nat × Instr × Nat) := [(0, .aload_n 0, 1), (1, .getfield 11, 3), (4, .aload_n 0, 1), (5, .getfield 18, 3), (8, .aload_n 0, 1), (9, .getfield 22, 3), (12, .iadd, 1), (13, .bipush 8, 2), (15, .irem, 1), (16, .aaload, 1), (17, .aload_n 1, 1), (18, .invokevirtual 25, 3), (21, .aload_n 0, 1), (22, .getfield 22, 3), (25, .bipush 8, 2), (27, .if_icmp .ge 16, 3), (30, .aload_n 0, 1), (31, .dup, 1), (32, .getfield 22, 3), (35, .iconst 1, 1), (36, .iadd, 1), (37, .putfield 22, 3), (40, .goto 16, 3), (43, .aload_n 0, 1), (44, .aload_n 0, 1), (45, .getfield 18, 3), (48, .iconst 1, 1), (49, .iadd, 1), (50, .bipush 8, 2), (52, .irem, 1), (53, .putfield 18, 3), (56, .return_, 1)]
theorem dc_X1_record : ∀ q ∈ tb_X1_record, decode cX1_record q.1 = .ok q.2 := by decide +kernel
def tb_X1_restore : List (Nat × Instr × Nat) := [(0, .aload_n 0, 1), (1, .dup, 1), (2, .getfield 22, 3), (5, .iconst 1, 1), (6, .isub, 1), (7, .putfield 22, 3), (10, .aload_n 1, 1), (11, .aload_n 0, 1), (12, .getfield 11, 3), (15, .aload_n 0, 1), (16, .getfield 18, 3), (19, .aload_n 0, 1), (20, .getfield 22, 3), (23, .iadd, 1), (24, .bipush 8, 2), (26, .irem, 1), (27, .aaload, 1), (28, .invokevirtual 25, 3), (31, .return_, 1)]
theorem dc_X1_restore : ∀ q ∈ tb_X1_restore, decode cX1_restore q.1 = .ok q.2 := by decide +kernel
def tb_X2_init : List (Nat × Instr × Nat) := [(0, .aload_n 0, 1), (1, .invokespecial 3, 3), (4, .aload_n 0, 1), (5, .new 9, 3), (8, .dup, 1), (9, .invokespecial 11, 3), (12, .putfield 12, 3), (15, .aload_n 0, 1), (16, .new 9, 3), (19, .dup, 1), (20, .invokespecial 11, 3), (23, .putfield 18, 3), (26, .aload_n 0, 1), (27, .sipush 1024, 3), (30, .newarray .int, 2), (32, .putfield 21, 3), (35, .aload_n 0, 1), (36, .iconst 4, 1), (37, .newarray .int, 2), (39, .putfield 25, 3), (42, .aload_n 0, 1), (43, .bipush 10, 2), (45, .newarray .int, 2), (47, .putfield 28, 3), (50, .aload_n 0, 1), (51, .bipush 10, 2), (53, .newarray .int, 2), (55, .putfield 31, 3), (58, .aload_n 0, 1), (59, .bipush 10, 2), (61, .newarray .int, 2), (63, .putfield 34, 3), (66, .return_, 1)]
theorem dc_X2_init : ∀ q ∈ tb_X2_init, decode cX2_init q.1 = .ok q.2 := by decide +kernel
def tb_X2_weigh : List (Nat × Instr × Nat) := [(0, .aload_n 0, 1), (1, .iconst 0, 1), (2, .putfield 37, 3), (5, .iconst 0, 1), (6, .istore_n 3, 1), (7, .iload_n 3, 1), (8, .aload_n 1, 1), (9, .getfield 41, 3), (12, .if_icmp .ge 42, 3), (15, .aload_n 1, 1), (16, .iload_n 3, 1), (17, .invokevirtual 46, 3), (20, .istore 4, 2), (22, .iload_n 3, 1), (23, .iload_n 2, 1), (24, .if_icmp .eq 24, 3), (27, .iload 4, 2), (29, .ifCond .eq 19, 3), (32, .aload_n 0, 1), (33, .iload_n 3, 1), (34, .aload_n 1, 1), (35, .getfield 50, 3), (38, .iload_n 3, 1), (39, .aaload, 1), (40, .getfield 54, 3), (43, .iload 4, 2), (45, .invokevirtual 58, 3), (48, .iinc 3 1, 3), (51, .goto (-44), 3), (54, .iconst 1, 1), (55, .aload_n 0, 1), (56, .getfield 37, 3), (59, .ishl, 1), (60, .iconst 1, 1), (61, .isub, 1), (62, .istore_n 3, 1), (63, .aload_n 0, 1), (64, .iconst (-1), 1), (65, .putfield 62, 3), (68, .aload_n 0, 1), (69, .iconst 0, 1), (70, .putfield 65, 3), (73, .iconst 0, 1), (74, .istore 4, 2), (76, .iload 4, 2), (78, .iload_n 3, 1), (79, .if_icmp .gt 19, 3), (82, .aload_n 0, 1), (83, .iload 4, 2), (85, .iload_n 3, 1), (86, .iload 4, 2), (88, .ixor, 1), (89, .invokevirtual 68, 3), (92, .iinc 4 1, 3), (95, .goto (-19), 3), (98, .return_, 1)]
theorem dc_X2_weigh : ∀ q ∈ tb_X2_weigh, decode cX2_weigh q.1 = .ok q.2 := by decide +kernel
def tb_X2_addVoice : List (Nat × Instr × Nat) := [(0, .aload_n 0, 1), (1, .getfield 28, 3), (4, .aload_n 0, 1), (5, .getfield 37, 3), (8, .iload_n 1, 1), (9, .iastore, 1), (10, .aload_n 0, 1), (11, .getfield 31, 3), (14, .aload_n 0, 1), (15, .getfield 37, 3), (18, .iload_n 2, 1), (19, .iastore, 1), (20, .aload_n 0, 1), (21, .getfield 34, 3), (24, .aload_n 0, 1), (25, .getfield 37, 3), (28, .iload_n 3, 1), (29, .iastore, 1), (30, .iconst 1, 1), (31, .aload_n 0, 1), (32, .getfield 37, 3), (35, .ishl, 1), (36, .istore 4, 2), (38, .iconst 0, 1), (39, .istore 5, 2), (41, .iload 5, 2), (43, .iload 4, 2), (45, .if_icmp .ge 28, 3), (48, .aload_n 0, 1), (49, .getfield 21, 3), (52, .iload 4, 2), (54, .iload 5, 2), (56, .ior, 1), (57, .aload_n 0, 1), (58, .getfield 21, 3), (61, .iload 5, 2), (63, .iaload, 1), (64, .iload_n 2, 1), (65, .iadd, 1), (66, .iastore, 1), (67, .iinc 5 1, 3), (70, .goto (-29), 3), (73, .aload_n 0, 1), (74, .getfield 12, 3), (77, .aload_n 0, 1), (78, .getfield 37, 3), (81, .iload_n 2, 1), (82, .iload_n 3, 1), (83, .i2l, 1), (84, .iconst 0, 1), (85, .invokestatic 72, 3), (88, .iload_n 3, 1), (89, .i2l, 1), (90, .iconst 1, 1), (91, .invokestatic 72, 3), (94, .invokevirtual 76, 3), (97, .aload_n 0, 1), (98, .getfield 18, 3), (101, .aload_n 0, 1), (102, .getfield 37, 3), (105, .iload_n 2, 1), (106, .iload_n 3, 1), (107, .i2l, 1), (108, .iconst 2, 1), (109, .invokestatic 72, 3), (112, .iload_n 3, 1), (113, .i2l, 1), (114, .iconst 3, 1), (115, .invokestatic 72, 3), (118, .invokevirtual 76, 3), (121, .aload_n 0, 1), (122, .dup, 1), (123, .getfield 37, 3), (126, .iconst 1, 1), (127, .iadd, 1), (128, .putfield 37, 3), (131, .return_, 1)]
theorem dc_X2_addVoice : ∀ q ∈ tb_X2_addVoice, decode cX2_addVoice q.1 = .ok q.2 := by decide +kernel
def tb_X2_weighPairs : List (Nat × Instr × Nat) := [(0, .aload_n 0, 1), (1, .getfield 12, 3), (4, .iload_n 1, 1), (5, .aload_n 0, 1), (6, .getfield 21, 3), (9, .iload_n 1, 1), (10, .iaload, 1), (11, .invokevirtual 79, 3), (14, .istore_n 3, 1), (15, .aload_n 0, 1), (16, .getfield 18, 3), (19, .iload_n 2, 1), (20, .aload_n 0, 1), (21, .getfield 21, 3), (24, .iload_n 2, 1), (25, .iaload, 1), (26, .invokevirtual 79, 3), (29, .istore 4, 2), (31, .iload_n 3, 1), (32, .ifCond .lt 8, 3), (35, .iload 4, 2), (37, .ifCond .ge 4, 3), (40, .return_, 1), (41, .iload_n 3, 1), (42, .iload 4, 2), (44, .invokestatic 83, 3), (47, .istore 5, 2), (49, .aload_n 0, 1), (50, .getfield 21, 3), (53, .iload_n 1, 1), (54, .iaload, 1), (55, .iload_n 3, 1), (56, .isub, 1), (57, .aload_n 0, 1), (58, .getfield 21, 3), (61, .iload_n 2, 1), (62, .iaload, 1), (63, .iload 4, 2), (65, .isub, 1), (66, .invokestatic 88, 3), (69, .istore 6, 2), (71, .iload 5, 2), (73, .aload_n 0, 1), (74, .getfield 62, 3), (77, .if_icmp .gt 21, 3), (80, .iload 5, 2), (82, .aload_n 0, 1), (83, .getfield 62, 3), (86, .if_icmp .ne 24, 3), (89, .iload 6, 2), (91, .aload_n 0, 1), (92, .getfield 65, 3), (95, .if_icmp .ge 15, 3), (98, .aload_n 0, 1), (99, .iload 5, 2), (101, .putfield 62, 3), (104, .aload_n 0, 1), (105, .iload 6, 2), (107, .putfield 65, 3), (110, .return_, 1)]
theorem dc_X2_weighPairs : ∀ q ∈ tb_X2_weighPairs, decode cX2_weighPairs q.1 = .ok q.2 := by decide +kernel
def tb_X2_choose : List (Nat × Instr × Nat) := [(0, .iconst 0, 1), (1, .istore_n 2, 1), (2, .iload_n 2, 1), (3, .aload_n 1, 1), (4, .getfield 41, 3), (7, .if_icmp .ge 20, 3), (10, .aload_n 1, 1), (11, .getfield 50, 3), (14, .iload_n 2, 1), (15, .aaload, 1), (16, .bipush (-9), 2), (18, .putfield 91, 3), (21, .iinc 2 1, 3), (24, .goto (-22), 3), (27, .iconst 0, 1), (28, .istore_n 2, 1), (29, .iload_n 2, 1), (30, .iconst 4, 1), (31, .if_icmp .ge 16, 3), (34, .aload_n 0, 1), (35, .getfield 25, 3), (38, .iload_n 2, 1), (39, .iconst 0, 1), (40, .iastore, 1), (41, .iinc 2 1, 3), (44, .goto (-15), 3), (47, .iconst 0, 1), (48, .istore_n 2, 1), (49, .iload_n 2, 1), (50, .aload_n 0, 1), (51, .getfield 37, 3), (54, .if_icmp .ge 28, 3), (57, .aload_n 1, 1), (58, .getfield 50, 3), (61, .aload_n 0, 1), (62, .getfield 28, 3), (65, .iload_n 2, 1), (66, .iaload, 1), (67, .aaload, 1), (68, .aload_n 0, 1), (69, .iload_n 2, 1), (70, .invokevirtual 94, 3), (73, .putfield 91, 3), (76, .iinc 2 1, 3), (79, .goto (-30), 3), (82, .return_, 1)]
theorem dc_X2_choose : ∀ q ∈ tb_X2_choose, decode cX2_choose q.1 = .ok q.2 := by decide +kernel
def tb_X2_firstGoodPart : List (Nat × Instr × Nat) := [(0, .iconst 0, 1), (1, .istore_n 2, 1), (2, .iload_n 2, 1), (3, .iconst 4, 1), (4, .if_icmp .ge 65, 3), (7, .aload_n 0, 1), (8, .getfield 34, 3), (11, .iload_n 1, 1), (12, .iaload, 1), (13, .i2l, 1), (14, .iload_n 2, 1), (15, .invokestatic 72, 3), (18, .ifCond .eq 45, 3), (21, .aload_n 0, 1), (22, .getfield 25, 3), (25, .iload_n 2, 1), (26, .dup2, 1), (27, .iaload, 1), (28, .aload_n 0, 1), (29, .getfield 31, 3), (32, .iload_n 1, 1), (33, .iaload, 1), (34, .iadd, 1), (35, .iastore, 1), (36, .aload_n 0, 1), (37, .iload_n 1, 1), (38, .iconst 1, 1), (39, .iadd, 1), (40, .invokevirtual 97, 3), (43, .ifCond .eq 5, 3), (46, .iload_n 2, 1), (47, .ireturn, 1), (48, .aload_n 0, 1), (49, .getfield 25, 3), (52, .iload_n 2, 1), (53, .dup2, 1), (54, .iaload, 1), (55, .aload_n 0, 1), (56, .getfield 31, 3), (59, .iload_n 1, 1), (60, .iaload, 1), (61, .isub, 1), (62, .iastore, 1), (63, .iinc 2 1, 3), (66, .goto (-64), 3), (69, .bipush (-9), 2), (71, .ireturn, 1)]
theorem dc_X2_firstGoodPart : ∀ q ∈ tb_X2_firstGoodPart, decode cX2_firstGoodPart q.1 = .ok q.2 := by decide +kernel
def tb_X2_canFinish : List (Nat × Instr × Nat) := [(0, .iconst 1, 1), (1, .aload_n 0, 1), (2, .getfield 37, 3), (5, .iload_n 1, 1), (6, .isub, 1), (7, .ishl, 1), (8, .iconst 1, 1), (9, .isub, 1), (10, .istore_n 2, 1), (11, .iconst 0, 1), (12, .istore_n 3, 1), (13, .iload_n 3, 1), (14, .iload_n 2, 1), (15, .if_icmp .gt 51, 3), (18, .iload_n 3, 1), (19, .iload_n 1, 1), (20, .ishl, 1), (21, .istore 4, 2), (23, .iload_n 2, 1), (24, .iload_n 3, 1), (25, .ixor, 1), (26, .iload_n 1, 1), (27, .ishl, 1), (28, .istore 5, 2), (30, .aload_n 0, 1), (31, .aload_n 0, 1), (32, .getfield 12, 3), (35, .iload 4, 2), (37, .iconst 0, 1), (38, .invokevirtual 101, 3), (41, .ifCond .eq 19, 3), (44, .aload_n 0, 1), (45, .aload_n 0, 1), (46, .getfield 18, 3), (49, .iload 5, 2), (51, .iconst 2, 1), (52, .invokevirtual 101, 3), (55, .ifCond .eq 5, 3), (58, .iconst 1, 1), (59, .ireturn, 1), (60, .iinc 3 1, 3), (63, .goto (-50), 3), (66, .iconst 0, 1), (67, .ireturn, 1)]
theorem dc_X2_canFinish : ∀ q ∈ tb_X2_canFinish, decode cX2_canFinish q.1 = .ok q.2 := by decide +kernel
def tb_X2_pairCanReach : List (Nat × Instr × Nat) := [(0, .aload_n 0, 1), (1, .getfield 65, 3), (4, .aload_n 0, 1), (5, .getfield 25, 3), (8, .iload_n 3, 1), (9, .iaload, 1), (10, .isub, 1), (11, .aload_n 0, 1), (12, .getfield 25, 3), (15, .iload_n 3, 1), (16, .iconst 1, 1), (17, .iadd, 1), (18, .iaload, 1), (19, .aload_n 0, 1), (20, .getfield 21, 3), (23, .iload_n 2, 1), (24, .iaload, 1), (25, .iadd, 1), (26, .aload_n 0, 1), (27, .getfield 62, 3), (30, .isub, 1), (31, .invokestatic 83, 3), (34, .istore 4, 2), (36, .aload_n 0, 1), (37, .getfield 62, 3), (40, .aload_n 0, 1), (41, .getfield 25, 3), (44, .iload_n 3, 1), (45, .iaload, 1), (46, .isub, 1), (47, .aload_n 0, 1), (48, .getfield 25, 3), (51, .iload_n 3, 1), (52, .iconst 1, 1), (53, .iadd, 1), (54, .iaload, 1), (55, .aload_n 0, 1), (56, .getfield 21, 3), (59, .iload_n 2, 1), (60, .iaload, 1), (61, .iadd, 1), (62, .aload_n 0, 1), (63, .getfield 65, 3), (66, .isub, 1), (67, .invokestatic 88, 3), (70, .istore 5, 2), (72, .aload_n 1, 1), (73, .iload_n 2, 1), (74, .iload 5, 2), (76, .iload 4, 2), (78, .invokevirtual 105, 3), (81, .ireturn, 1)]
theorem dc_X2_pairCanReach : ∀ q ∈ tb_X2_pairCanReach, decode cX2_pairCanReach q.1 = .ok q.2 := by decide +kernel
def tb_X3_init : List (Nat × Instr × Nat) := [(0, .aload_n 0, 1), (1, .invokespecial 3, 3), (4, .aload_n 0, 1), (5, .bipush (-9), 2), (7, .putfield 9, 3), (10, .aload_n 0, 1), (11, .bipush (-9), 2), (13, .putfield 15, 3), (16, .return_, 1)]
theorem dc_X3_init : ∀ q ∈ tb_X3_init, decode cX3_init q.1 = .ok q.2 := by decide +kernel
def tb_X3_readTests : List (Nat × Instr × Nat) := [(0, .aload_n 0, 1), (1, .aload_n 2, 1), (2, .getfield 18, 3), (5, .putfield 24, 3), (8, .aload_n 0, 1), (9, .aload_n 2, 1), (10, .getfield 27, 3), (13, .putfield 30, 3), (16, .aload_n 0, 1), (17, .bipush 40, 2), (19, .putfield 31, 3), (22, .aload_n 0, 1), (23, .iconst 1, 1), (24, .putfield 34, 3), (27, .aload_n 0, 1), (28, .aload_n 1, 1), (29, .invokevirtual 38, 3), (32, .ireturn, 1)]
theorem dc_X3_readTests : ∀ q ∈ tb_X3_readTests, decode cX3_readTests q.1 = .ok q.2 := by decide +kernel
def tb_X3_readAbsent : List (Nat × Instr × Nat) := [(0, .aload_n 0, 1), (1, .lconst 0, 1), (2, .putfield 24, 3), (5, .aload_n 0, 1), (6, .lconst 0, 1), (7, .putfield 30, 3), (10, .aload_n 0, 1), (11, .iload_n 2, 1), (12, .iconst 1, 1), (13, .isub, 1), (14, .putfield 31, 3), (17, .aload_n 0, 1), (18, .iconst 0, 1), (19, .putfield 34, 3), (22, .aload_n 0, 1), (23, .aload_n 1, 1), (24, .invokevirtual 38, 3), (27, .ireturn, 1)]
theorem dc_X3_readAbsent : ∀ q ∈ tb_X3_readAbsent, decode cX3_readAbsent q.1 = .ok q.2 := by decide +kernel
def tb_X3_read : List (Nat × Instr × Nat) := [(0, .aload_n 0, 1), (1, .iconst 0, 1), (2, .putfield 42, 3), (5, .iconst 0, 1), (6, .istore_n 2, 1), (7, .iload_n 2, 1), (8, .aload_n 1, 1), (9, .getfield 45, 3), (12, .if_icmp .ge 25, 3), (15, .aload_n 0, 1), (16, .aload_n 1, 1), (17, .getfield 50, 3), (20, .iload_n 2, 1), (21, .iaload, 1), (22, .iload_n 2, 1), (23, .invokevirtual 54, 3), (26, .ifCond .ne 5, 3), (29, .iconst 0, 1), (30, .ireturn, 1), (31, .iinc 2 1, 3), (34, .goto (-27), 3), (37, .aload_n 0, 1), (38, .aload_n 1, 1), (39, .getfield 45, 3), (42, .invokevirtual 58, 3), (45, .ireturn, 1)]
theorem dc_X3_read : ∀ q ∈ tb_X3_read, decode cX3_read q.1 = .ok q.2 := by decide +kernel
def tb_X3_take : List (Nat × Instr × Nat) := [(0, .iload_n 1, 1), (1, .bipush 48, 2), (3, .if_icmp .lt 13, 3), (6, .iload_n 1, 1), (7, .bipush 57, 2), (9, .if_icmp .gt 7, 3), (12, .iconst 1, 1), (13, .goto 4, 3), (16, .iconst 0, 1), (17, .istore_n 3, 1), (18, .aload_n 0, 1), (19, .invokevirtual 62, 3), (22, .ifCond .eq 23, 3), (25, .iload_n 3, 1), (26, .ifCond .eq 12, 3), (29, .aload_n 0, 1), (30, .iload_n 1, 1), (31, .iload_n 2, 1), (32, .invokevirtual 66, 3), (35, .goto 9, 3), (38, .aload_n 0, 1), (39, .iload_n 1, 1), (40, .iload_n 2, 1), (41, .invokevirtual 69, 3), (44, .ireturn, 1), (45, .iload_n 3, 1), (46, .ifCond .eq 19, 3), (49, .aload_n 0, 1), (50, .getfield 42, 3), (53, .iconst 4, 1), (54, .if_icmp .eq 11, 3), (57, .aload_n 0, 1), (58, .iload_n 1, 1), (59, .iload_n 2, 1), (60, .invokevirtual 72, 3), (63, .iconst 1, 1), (64, .ireturn, 1), (65, .iload_n 1, 1), (66, .bipush 32, 2), (68, .if_icmp .ne 18, 3), (71, .aload_n 0, 1), (72, .getfield 42, 3), (75, .iconst 2, 1), (76, .if_icmp .eq 10, 3), (79, .aload_n 0, 1), (80, .iconst 0, 1), (81, .putfield 42, 3), (84, .iconst 1, 1), (85, .ireturn, 1), (86, .aload_n 0, 1), (87, .iconst 1, 1), (88, .iload_n 2, 1), (89, .invokevirtual 76, 3), (92, .ireturn, 1)]
theorem dc_X3_take : ∀ q ∈ tb_X3_take, decode cX3_take q.1 = .ok q.2 := by decide +kernel
def tb_X3_inNumber : List (Nat × Instr × Nat) := [(0, .aload_n 0, 1), (1, .getfield 42, 3), (4, .iconst 1, 1), (5, .if_icmp .eq 11, 3), (8, .aload_n 0, 1), (9, .getfield 42, 3), (12, .iconst 3, 1), (13, .if_icmp .ne 7, 3), (16, .iconst 1, 1), (17, .goto 4, 3), (20, .iconst 0, 1), (21, .ireturn, 1)]
theorem dc_X3_inNumber : ∀ q ∈ tb_X3_inNumber, decode cX3_inNumber q.1 = .ok q.2 := by decide +kernel
def tb_X3_beginNumber : List (Nat × Instr × Nat) := [(0, .aload_n 0, 1), (1, .aload_n 0, 1), (2, .getfield 42, 3), (5, .iconst 2, 1), (6, .if_icmp .ne 7, 3), (9, .iconst 3, 1), (10, .goto 4, 3), (13, .iconst 1, 1), (14, .putfield 42, 3), (17, .aload_n 0, 1), (18, .iload_n 1, 1), (19, .bipush 48, 2), (21, .isub, 1), (22, .putfield 79, 3), (25, .aload_n 0, 1), (26, .iconst 1, 1), (27, .putfield 82, 3), (30, .aload_n 0, 1), (31, .iload_n 2, 1), (32, .putfield 85, 3), (35, .return_, 1)]
theorem dc_X3_beginNumber : ∀ q ∈ tb_X3_beginNumber, decode cX3_beginNumber q.1 = .ok q.2 := by decide +kernel
def tb_X3_takeDigit : List (Nat × Instr × Nat) := [(0, .aload_n 0, 1), (1, .getfield 82, 3), (4, .iconst 2, 1), (5, .if_icmp .ne 10, 3), (8, .aload_n 0, 1), (9, .iconst 1, 1), (10, .iload_n 2, 1), (11, .invokevirtual 76, 3), (14, .ireturn, 1), (15, .aload_n 0, 1), (16, .aload_n 0, 1), (17, .getfield 79, 3), (20, .bipush 10, 2), (22, .imul, 1), (23, .iload_n 1, 1), (24, .iadd, 1), (25, .bipush 48, 2), (27, .isub, 1), (28, .putfield 79, 3), (31, .aload_n 0, 1), (32, .iconst 2, 1), (33, .putfield 82, 3), (36, .iconst 1, 1), (37, .ireturn, 1)]
theorem dc_X3_takeDigit : ∀ q ∈ tb_X3_takeDigit, decode cX3_takeDigit q.1 = .ok q.2 := by decide +kernel
def tb_X3_takeBehindNumber : List (Nat × Instr × Nat) := [(0, .aload_n 0, 1), (1, .invokevirtual 88, 3), (4, .ifCond .ne 13, 3), (7, .aload_n 0, 1), (8, .iconst 2, 1), (9, .aload_n 0, 1), (10, .getfield 85, 3), (13, .invokevirtual 76, 3), (16, .ireturn, 1), (17, .iload_n 1, 1), (18, .bipush 32, 2), (20, .if_icmp .ne 15, 3), (23, .aload_n 0, 1), (24, .iconst 1, 1), (25, .invokevirtual 91, 3), (28, .aload_n 0, 1), (29, .iconst 0, 1), (30, .putfield 42, 3), (33, .iconst 1, 1), (34, .ireturn, 1), (35, .iload_n 1, 1), (36, .bipush 33, 2), (38, .if_icmp .ne 22, 3), (41, .aload_n 0, 1), (42, .getfield 34, 3), (45, .ifCond .eq 15, 3), (48, .aload_n 0, 1), (49, .iconst 0, 1), (50, .invokevirtual 91, 3), (53, .aload_n 0, 1), (54, .iconst 4, 1), (55, .putfield 42, 3), (58, .iconst 1, 1), (59, .ireturn, 1), (60, .iload_n 1, 1), (61, .bipush 45, 2), (63, .if_icmp .ne 33, 3), (66, .aload_n 0, 1), (67, .getfield 34, 3), (70, .ifCond .eq 26, 3), (73, .aload_n 0, 1), (74, .getfield 42, 3), (77, .iconst 1, 1), (78, .if_icmp .ne 18, 3), (81, .aload_n 0, 1), (82, .aload_n 0, 1), (83, .getfield 79, 3), (86, .putfield 95, 3), (89, .aload_n 0, 1), (90, .iconst 2, 1), (91, .putfield 42, 3), (94, .iconst 1, 1), (95, .ireturn, 1), (96, .aload_n 0, 1), (97, .iconst 1, 1), (98, .iload_n 2, 1), (99, .invokevirtual 76, 3), (102, .ireturn, 1)]
theorem dc_X3_takeBehindNumber : ∀ q ∈ tb_X3_takeBehindNumber, decode cX3_takeBehindNumber q.1 = .ok q.2 := by decide +kernel
def tb_X3_end : List (Nat × Instr × Nat) := [(0, .aload_n 0, 1), (1, .getfield 42, 3), (4, .iconst 2, 1), (5, .if_icmp .ne 10, 3), (8, .aload_n 0, 1), (9, .iconst 3, 1), (10, .iload_n 1, 1), (11, .invokevirtual 76, 3), (14, .ireturn, 1), (15, .aload_n 0, 1), (16, .invokevirtual 62, 3), (19, .ifCond .ne 5, 3), (22, .iconst 1, 1), (23, .ireturn, 1), (24, .aload_n 0, 1), (25, .invokevirtual 88, 3), (28, .ifCond .ne 13, 3), (31, .aload_n 0, 1), (32, .iconst 2, 1), (33, .aload_n 0, 1), (34, .getfield 85, 3), (37, .invokevirtual 76, 3), (40, .ireturn, 1), (41, .aload_n 0, 1), (42, .iconst 1, 1), (43, .invokevirtual 91, 3), (46, .iconst 1, 1), (47, .ireturn, 1)]
theorem dc_X3_end : ∀ q ∈ tb_X3_end, decode cX3_end q.1 = .ok q.2 := by decide +kernel
def tb_X3_numberStands : List (Nat × Instr × Nat) := [(0, .aload_n 0, 1), (1, .getfield 79, 3), (4, .aload_n 0, 1), (5, .getfield 31, 3), (8, .if_icmp .gt 26, 3), (11, .aload_n 0, 1), (12, .getfield 42, 3), (15, .iconst 1, 1), (16, .if_icmp .eq 14, 3), (19, .aload_n 0, 1), (20, .getfield 79, 3), (23, .aload_n 0, 1), (24, .getfield 95, 3), (27, .if_icmp .lt 7, 3), (30, .iconst 1, 1), (31, .goto 4, 3), (34, .iconst 0, 1), (35, .ireturn, 1)]
theorem dc_X3_numberStands : ∀ q ∈ tb_X3_numberStands, decode cX3_numberStands q.1 = .ok q.2 := by decide +kernel
def tb_X3_closeWord : List (Nat × Instr × Nat) := [(0, .aload_n 0, 1), (1, .getfield 42, 3), (4, .iconst 3, 1), (5, .if_icmp .ne 10, 3), (8, .aload_n 0, 1), (9, .getfield 95, 3), (12, .goto 7, 3), (15, .aload_n 0, 1), (16, .getfield 79, 3), (19, .istore_n 2, 1), (20, .lconst 1, 1), (21, .aload_n 0, 1), (22, .getfield 79, 3), (25, .iload_n 2, 1), (26, .isub, 1), (27, .iconst 1, 1), (28, .iadd, 1), (29, .lshl, 1), (30, .lconst 1, 1), (31, .lsub, 1), (32, .iload_n 2, 1), (33, .lshl, 1), (34, .lstore_n 3, 1), (35, .aload_n 0, 1), (36, .dup, 1), (37, .getfield 24, 3), (40, .lload_n 3, 1), (41, .lor, 1), (42, .putfield 24, 3), (45, .aload_n 0, 1), (46, .iload_n 1, 1), (47, .ifCond .eq 12, 3), (50, .aload_n 0, 1), (51, .getfield 30, 3), (54, .lload_n 3, 1), (55, .lor, 1), (56, .goto 13, 3), (59, .aload_n 0, 1), (60, .getfield 30, 3), (63, .lload_n 3, 1), (64, .ldc2_w 98, 3), (67, .lxor, 1), (68, .land, 1), (69, .putfield 30, 3), (72, .return_, 1)]
theorem dc_X3_closeWord : ∀ q ∈ tb_X3_closeWord, decode cX3_closeWord q.1 = .ok q.2 := by decide +kernel
def tb_X3_fail : List (Nat × Instr × Nat) := [(0, .aload_n 0, 1), (1, .iload_n 1, 1), (2, .putfield 9, 3), (5, .aload_n 0, 1), (6, .iload_n 2, 1), (7, .putfield 15, 3), (10, .iconst 0, 1), (11, .ireturn, 1)]
theorem dc_X3_fail : ∀ q ∈ tb_X3_fail, decode cX3_fail q.1 = .ok q.2 := by decide +kernel
def tb_X4_init : List (Nat × Instr × Nat) := [(0, .aload_n 0, 1), (1, .invokespecial 3, 3), (4, .aload_n 0, 1), (5, .bipush 10, 2), (7, .newarray .int, 2), (9, .putfield 9, 3), (12, .aload_n 0, 1), (13, .iconst 4, 1), (14, .newarray .int, 2), (16, .putfield 15, 3), (19, .aload_n 0, 1), (20, .iconst 4, 1), (21, .newarray .int, 2), (23, .putfield 18, 3), (26, .return_, 1)]
theorem dc_X4_init : ∀ q ∈ tb_X4_init, decode cX4_init q.1 = .ok q.2 := by decide +kernel
def tb_X4_plan : List (Nat × Instr × Nat) := [(0, .iconst 0, 1), (1, .istore_n 2, 1), (2, .iload_n 2, 1), (3, .bipush 10, 2), (5, .if_icmp .ge 17, 3), (8, .aload_n 0, 1), (9, .getfield 9, 3), (12, .iload_n 2, 1), (13, .bipush (-9), 2), (15, .iastore, 1), (16, .iinc 2 1, 3), (19, .goto (-17), 3), (22, .iconst 0, 1), (23, .istore_n 2, 1), (24, .iload_n 2, 1), (25, .iconst 4, 1), (26, .if_icmp .ge 20, 3), (29, .aload_n 0, 1), (30, .getfield 15, 3), (33, .iload_n 2, 1), (34, .aload_n 1, 1), (35, .iload_n 2, 1), (36, .invokevirtual 21, 3), (39, .iastore, 1), (40, .iinc 2 1, 3), (43, .goto (-19), 3), (46, .iconst 0, 1), (47, .istore_n 2, 1), (48, .iload_n 2, 1), (49, .iconst 4, 1), (50, .if_icmp .ge 15, 3), (53, .aload_n 0, 1), (54, .aload_n 1, 1), (55, .iload_n 2, 1), (56, .invokevirtual 27, 3), (59, .iinc 2 1, 3), (62, .goto (-14), 3), (65, .iconst 0, 1), (66, .istore_n 2, 1), (67, .iload_n 2, 1), (68, .iconst 4, 1), (69, .if_icmp .ge 21, 3), (72, .aload_n 0, 1), (73, .getfield 18, 3), (76, .iload_n 2, 1), (77, .aload_n 0, 1), (78, .aload_n 1, 1), (79, .iload_n 2, 1), (80, .invokevirtual 31, 3), (83, .iastore, 1), (84, .iinc 2 1, 3), (87, .goto (-20), 3), (90, .return_, 1)]
theorem dc_X4_plan : ∀ q ∈ tb_X4_plan, decode cX4_plan q.1 = .ok q.2 := by decide +kernel
def tb_X4_findStandIns : List (Nat × Instr × Nat) := [(0, .iconst 0, 1), (1, .istore_n 3, 1), (2, .iload_n 3, 1), (3, .aload_n 1, 1), (4, .getfield 35, 3), (7, .if_icmp .ge 79, 3), (10, .aload_n 1, 1), (11, .aload_n 0, 1), (12, .getfield 15, 3), (15, .iload_n 2, 1), (16, .iaload, 1), (17, .invokevirtual 39, 3), (20, .ifCond .ne 66, 3), (23, .aload_n 0, 1), (24, .aload_n 1, 1), (25, .iload_n 3, 1), (26, .iload_n 2, 1), (27, .invokevirtual 43, 3), (30, .ifCond .eq 50, 3), (33, .aload_n 1, 1), (34, .getfield 47, 3), (37, .iload_n 3, 1), (38, .aaload, 1), (39, .astore 4, 2), (41, .aload_n 0, 1), (42, .getfield 15, 3), (45, .aload 4, 2), (47, .getfield 51, 3), (50, .dup2, 1), (51, .iaload, 1), (52, .aload 4, 2), (54, .getfield 56, 3), (57, .isub, 1), (58, .iastore, 1), (59, .aload_n 0, 1), (60, .getfield 15, 3), (63, .iload_n 2, 1), (64, .dup2, 1), (65, .iaload, 1), (66, .aload 4, 2), (68, .getfield 56, 3), (71, .iadd, 1), (72, .iastore, 1), (73, .aload_n 0, 1), (74, .getfield 9, 3), (77, .iload_n 3, 1), (78, .iload_n 2, 1), (79, .iastore, 1), (80, .iinc 3 1, 3), (83, .goto (-81), 3), (86, .return_, 1)]
theorem dc_X4_findStandIns : ∀ q ∈ tb_X4_findStandIns, decode cX4_findStandIns q.1 = .ok q.2 := by decide +kernel
def tb_X4_canStandIn : List (Nat × Instr × Nat) := [(0, .aload_n 1, 1), (1, .getfield 47, 3), (4, .iload_n 2, 1), (5, .aaload, 1), (6, .astore 4, 2), (8, .aload 4, 2), (10, .getfield 58, 3), (13, .ifCond .eq 70, 3), (16, .aload 4, 2), (18, .getfield 51, 3), (21, .invokestatic 62, 3), (24, .ifCond .eq 59, 3), (27, .aload 4, 2), (29, .getfield 51, 3), (32, .iload_n 3, 1), (33, .if_icmp .eq 50, 3), (36, .aload_n 0, 1), (37, .getfield 9, 3), (40, .iload_n 2, 1), (41, .iaload, 1), (42, .bipush (-9), 2), (44, .if_icmp .ne 39, 3), (47, .aload_n 1, 1), (48, .iload_n 2, 1), (49, .iload_n 3, 1), (50, .invokevirtual 65, 3), (53, .ifCond .eq 30, 3), (56, .aload_n 1, 1), (57, .aload_n 0, 1), (58, .getfield 15, 3), (61, .aload 4, 2), (63, .getfield 51, 3), (66, .iaload, 1), (67, .aload 4, 2), (69, .getfield 56, 3), (72, .isub, 1), (73, .invokevirtual 39, 3), (76, .ifCond .eq 7, 3), (79, .iconst 1, 1), (80, .goto 4, 3), (83, .iconst 0, 1), (84, .ireturn, 1)]
theorem dc_X4_canStandIn : ∀ q ∈ tb_X4_canStandIn, decode cX4_canStandIn q.1 = .ok q.2 := by decide +kernel
def tb_X4_findSoloist : List (Nat × Instr × Nat) := [(0, .bipush (-9), 2), (2, .istore_n 3, 1), (3, .iconst 0, 1), (4, .istore 4, 2), (6, .iload 4, 2), (8, .aload_n 1, 1), (9, .getfield 35, 3), (12, .if_icmp .ge 91, 3), (15, .aload_n 1, 1), (16, .getfield 47, 3), (19, .iload 4, 2), (21, .aaload, 1), (22, .astore 5, 2), (24, .aload 5, 2), (26, .getfield 51, 3), (29, .iload_n 2, 1), (30, .if_icmp .ne 36, 3), (33, .aload 5, 2), (35, .getfield 58, 3), (38, .ifCond .eq 28, 3), (41, .aload_n 0, 1), (42, .getfield 9, 3), (45, .iload 4, 2), (47, .iaload, 1), (48, .bipush (-9), 2), (50, .if_icmp .ne 16, 3), (53, .aload_n 1, 1), (54, .aload 5, 2), (56, .invokevirtual 69, 3), (59, .ifCond .eq 7, 3), (62, .iconst 1, 1), (63, .goto 4, 3), (66, .iconst 0, 1), (67, .istore 6, 2), (69, .iload 6, 2), (71, .ifCond .eq 26, 3), (74, .iload_n 3, 1), (75, .bipush (-9), 2), (77, .if_icmp .eq 17, 3), (80, .aload 5, 2), (82, .aload_n 1, 1), (83, .getfield 47, 3), (86, .iload_n 3, 1), (87, .aaload, 1), (88, .invokevirtual 73, 3), (91, .ifCond .eq 6, 3), (94, .iload 4, 2), (96, .istore_n 3, 1), (97, .iinc 4 1, 3), (100, .goto (-94), 3), (103, .iload_n 3, 1), (104, .ireturn, 1)]
theorem dc_X4_findSoloist : ∀ q ∈ tb_X4_findSoloist, decode cX4_findSoloist q.1 = .ok q.2 := by decide +kernel
def tb_X4_happen : List (Nat × Instr × Nat) := [(0, .iconst 0, 1), (1, .istore_n 2, 1), (2, .iconst 0, 1), (3, .istore_n 3, 1), (4, .iload_n 3, 1), (5, .iconst 4, 1), (6, .if_icmp .ge 103, 3), (9, .aload_n 1, 1), (10, .aload_n 0, 1), (11, .getfield 15, 3), (14, .iload_n 3, 1), (15, .iaload, 1), (16, .invokevirtual 39, 3), (19, .ifCond .ne 13, 3), (22, .aload_n 1, 1), (23, .getfield 76, 3), (26, .iload_n 3, 1), (27, .dup2, 1), (28, .iaload, 1), (29, .iconst 1, 1), (30, .iadd, 1), (31, .iastore, 1), (32, .aload_n 1, 1), (33, .getfield 79, 3), (36, .aload_n 1, 1), (37, .getfield 82, 3), (40, .iconst 4, 1), (41, .imul, 1), (42, .iload_n 3, 1), (43, .iadd, 1), (44, .aload_n 0, 1), (45, .getfield 18, 3), (48, .iload_n 3, 1), (49, .iaload, 1), (50, .iastore, 1), (51, .aload_n 0, 1), (52, .getfield 18, 3), (55, .iload_n 3, 1), (56, .iaload, 1), (57, .bipush (-9), 2), (59, .if_icmp .eq 44, 3), (62, .aload_n 1, 1), (63, .getfield 47, 3), (66, .aload_n 0, 1), (67, .getfield 18, 3), (70, .iload_n 3, 1), (71, .iaload, 1), (72, .aaload, 1), (73, .dup, 1), (74, .getfield 85, 3), (77, .iconst 1, 1), (78, .iadd, 1), (79, .putfield 85, 3), (82, .aload_n 1, 1), (83, .getfield 47, 3), (86, .aload_n 0, 1), (87, .getfield 18, 3), (90, .iload_n 3, 1), (91, .iaload, 1), (92, .aaload, 1), (93, .aload_n 1, 1), (94, .getfield 82, 3), (97, .putfield 88, 3), (100, .iinc 2 1, 3), (103, .iinc 3 1, 3), (106, .goto (-102), 3), (109, .aload_n 1, 1), (110, .dup, 1), (111, .getfield 91, 3), (114, .iload_n 2, 1), (115, .iadd, 1), (116, .putfield 91, 3), (119, .iconst 0, 1), (120, .istore_n 3, 1), (121, .iload_n 3, 1), (122, .aload_n 1, 1), (123, .getfield 35, 3), (126, .if_icmp .ge 55, 3), (129, .aload_n 0, 1), (130, .getfield 9, 3), (133, .iload_n 3, 1), (134, .iaload, 1), (135, .bipush (-9), 2), (137, .if_icmp .eq 28, 3), (140, .aload_n 1, 1), (141, .getfield 47, 3), (144, .iload_n 3, 1), (145, .aaload, 1), (146, .dup, 1), (147, .getfield 92, 3), (150, .iconst 1, 1), (151, .iadd, 1), (152, .putfield 92, 3), (155, .aload_n 1, 1), (156, .dup, 1), (157, .getfield 95, 3), (160, .iconst 1, 1), (161, .iadd, 1), (162, .putfield 95, 3), (165, .aload_n 1, 1), (166, .getfield 47, 3), (169, .iload_n 3, 1), (170, .aaload, 1), (171, .iconst 1, 1), (172, .putfield 58, 3), (175, .iinc 3 1, 3), (178, .goto (-57), 3), (181, .aload_n 1, 1), (182, .dup, 1), (183, .getfield 82, 3), (186, .iconst 1, 1), (187, .iadd, 1), (188, .putfield 82, 3), (191, .iload_n 2, 1), (192, .ireturn, 1)]
theorem dc_X4_happen : ∀ q ∈ tb_X4_happen, decode cX4_happen q.1 = .ok q.2 := by decide +kernel
def tb_X5_init : List (Nat × Instr × Nat) := [(0, .aload_n 0, 1), (1, .invokespecial 3, 3), (4, .return_, 1)]
theorem dc_X5_init : ∀ q ∈ tb_X5_init, decode cX5_init q.1 = .ok q.2 := by decide +kernel
def tb_X5_begin : List (Nat × Instr × Nat) := [(0, .aload_n 0, 1), (1, .iload_n 1, 1), (2, .putfield 9, 3), (5, .aload_n 0, 1), (6, .iload_n 2, 1), (7, .putfield 15, 3), (10, .aload_n 0, 1), (11, .lconst 0, 1), (12, .lconst 0, 1), (13, .invokevirtual 18, 3), (16, .aload_n 0, 1), (17, .bipush (-9), 2), (19, .putfield 22, 3), (22, .aload_n 0, 1), (23, .iconst 1, 1), (24, .putfield 25, 3), (27, .aload_n 0, 1), (28, .iconst 0, 1), (29, .putfield 29, 3), (32, .aload_n 0, 1), (33, .bipush (-9), 2), (35, .putfield 32, 3), (38, .aload_n 0, 1), (39, .iconst 0, 1), (40, .putfield 35, 3), (43, .return_, 1)]
theorem dc_X5_begin : ∀ q ∈ tb_X5_begin, decode cX5_begin q.1 = .ok q.2 := by decide +kernel
def tb_X5_copyFrom : List (Nat × Instr × Nat) := [(0, .aload_n 0, 1), (1, .aload_n 1, 1), (2, .getfield 9, 3), (5, .putfield 9, 3), (8, .aload_n 0, 1), (9, .aload_n 1, 1), (10, .getfield 15, 3), (13, .putfield 15, 3), (16, .aload_n 0, 1), (17, .aload_n 1, 1), (18, .getfield 38, 3), (21, .putfield 38, 3), (24, .aload_n 0, 1), (25, .aload_n 1, 1), (26, .getfield 42, 3), (29, .putfield 42, 3), (32, .aload_n 0, 1), (33, .aload_n 1, 1), (34, .getfield 45, 3), (37, .putfield 45, 3), (40, .aload_n 0, 1), (41, .aload_n 1, 1), (42, .getfield 48, 3), (45, .putfield 48, 3), (48, .aload_n 0, 1), (49, .aload_n 1, 1), (50, .getfield 22, 3), (53, .putfield 22, 3), (56, .aload_n 0, 1), (57, .aload_n 1, 1), (58, .getfield 25, 3), (61, .putfield 25, 3), (64, .aload_n 0, 1), (65, .aload_n 1, 1), (66, .getfield 29, 3), (69, .putfield 29, 3), (72, .aload_n 0, 1), (73, .aload_n 1, 1), (74, .getfield 32, 3), (77, .putfield 32, 3), (80, .aload_n 0, 1), (81, .aload_n 1, 1), (82, .getfield 35, 3), (85, .putfield 35, 3), (88, .return_, 1)]
theorem dc_X5_copyFrom : ∀ q ∈ tb_X5_copyFrom, decode cX5_copyFrom q.1 = .ok q.2 := by decide +kernel
def tb_X5_learn : List (Nat × Instr × Nat) := [(0, .aload_n 0, 1), (1, .lload_n 1, 1), (2, .putfield 38, 3), (5, .aload_n 0, 1), (6, .lload_n 3, 1), (7, .putfield 42, 3), (10, .aload_n 0, 1), (11, .iconst 0, 1), (12, .putfield 45, 3), (15, .aload_n 0, 1), (16, .iconst 0, 1), (17, .putfield 48, 3), (20, .iconst 0, 1), (21, .istore 5, 2), (23, .iconst 0, 1), (24, .istore 6, 2), (26, .iload 6, 2), (28, .bipush 41, 2), (30, .if_icmp .ge 57, 3), (33, .aload_n 0, 1), (34, .getfield 42, 3), (37, .iload 6, 2), (39, .invokestatic 51, 3), (42, .ifCond .eq 10, 3), (45, .iload 5, 2), (47, .iconst 1, 1), (48, .iadd, 1), (49, .goto 4, 3), (52, .iconst 0, 1), (53, .istore 5, 2), (55, .iload 5, 2), (57, .aload_n 0, 1), (58, .getfield 48, 3), (61, .if_icmp .le 20, 3), (64, .aload_n 0, 1), (65, .iload 5, 2), (67, .putfield 48, 3), (70, .aload_n 0, 1), (71, .iload 6, 2), (73, .iload 5, 2), (75, .isub, 1), (76, .iconst 1, 1), (77, .iadd, 1), (78, .putfield 45, 3), (81, .iinc 6 1, 3), (84, .goto (-58), 3), (87, .return_, 1)]
theorem dc_X5_learn : ∀ q ∈ tb_X5_learn, decode cX5_learn q.1 = .ok q.2 := by decide +kernel
def tb_X5_notesIn : List (Nat × Instr × Nat) := [(0, .aload_n 0, 1), (1, .getfield 45, 3), (4, .getstatic 55, 3), (7, .iload_n 1, 1), (8, .iaload, 1), (9, .invokestatic 59, 3), (12, .istore_n 2, 1), (13, .aload_n 0, 1), (14, .getfield 45, 3), (17, .aload_n 0, 1), (18, .getfield 48, 3), (21, .iadd, 1), (22, .getstatic 55, 3), (25, .iload_n 1, 1), (26, .iaload, 1), (27, .bipush 15, 2), (29, .iadd, 1), (30, .invokestatic 65, 3), (33, .istore_n 3, 1), (34, .iconst 0, 1), (35, .iload_n 3, 1), (36, .iload_n 2, 1), (37, .isub, 1), (38, .invokestatic 59, 3), (41, .ireturn, 1)]
theorem dc_X5_notesIn : ∀ q ∈ tb_X5_notesIn, decode cX5_notesIn q.1 = .ok q.2 := by decide +kernel
def tb_X5_sitsBefore : List (Nat × Instr × Nat) := [(0, .aload_n 0, 1), (1, .getfield 15, 3), (4, .aload_n 1, 1), (5, .getfield 15, 3), (8, .if_icmp .lt 18, 3), (11, .aload_n 0, 1), (12, .getfield 15, 3), (15, .aload_n 1, 1), (16, .getfield 15, 3), (19, .if_icmp .ne 11, 3), (22, .iload_n 2, 1), (23, .ifCond .eq 7, 3), (26, .iconst 1, 1), (27, .goto 4, 3), (30, .iconst 0, 1), (31, .ireturn, 1)]
theorem dc_X5_sitsBefore : ∀ q ∈ tb_X5_sitsBefore, decode cX5_sitsBefore q.1 = .ok q.2 := by decide +kernel
def tb_X5_singsBefore : List (Nat × Instr × Nat) := [(0, .aload_n 0, 1), (1, .getfield 29, 3), (4, .aload_n 1, 1), (5, .getfield 29, 3), (8, .if_icmp .lt 25, 3), (11, .aload_n 0, 1), (12, .getfield 29, 3), (15, .aload_n 1, 1), (16, .getfield 29, 3), (19, .if_icmp .ne 18, 3), (22, .aload_n 0, 1), (23, .getfield 32, 3), (26, .aload_n 1, 1), (27, .getfield 32, 3), (30, .if_icmp .ge 7, 3), (33, .iconst 1, 1), (34, .goto 4, 3), (37, .iconst 0, 1), (38, .ireturn, 1)]
theorem dc_X5_singsBefore : ∀ q ∈ tb_X5_singsBefore, decode cX5_singsBefore q.1 = .ok q.2 := by decide +kernel
def tb_X6_init : List (Nat × Instr × Nat) := [(0, .aload_n 0, 1), (1, .invokespecial 3, 3), (4, .aload_n 0, 1), (5, .sipush 1024, 3), (8, .newarray .long, 2), (10, .putfield 9, 3), (13, .aload_n 0, 1), (14, .sipush 1024, 3), (17, .newarray .long, 2), (19, .putfield 15, 3), (22, .aload_n 0, 1), (23, .getfield 9, 3), (26, .iconst 0, 1), (27, .lconst 1, 1), (28, .lastore, 1), (29, .return_, 1)]
theorem dc_X6_init : ∀ q ∈ tb_X6_init, decode cX6_init q.1 = .ok q.2 := by decide +kernel
def tb_X6_addVoice : List (Nat × Instr × Nat) := [(0, .iconst 1, 1), (1, .iload_n 1, 1), (2, .ishl, 1), (3, .istore 5, 2), (5, .iconst 0, 1), (6, .istore 6, 2), (8, .iload 6, 2), (10, .iload 5, 2), (12, .if_icmp .ge 114, 3), (15, .iload 4, 2), (17, .ifCond .eq 13, 3), (20, .aload_n 0, 1), (21, .getfield 9, 3), (24, .iload 6, 2), (26, .laload, 1), (27, .goto 4, 3), (30, .lconst 0, 1), (31, .lstore 7, 2), (33, .iload 4, 2), (35, .ifCond .eq 13, 3), (38, .aload_n 0, 1), (39, .getfield 15, 3), (42, .iload 6, 2), (44, .laload, 1), (45, .goto 4, 3), (48, .lconst 0, 1), (49, .lstore 9, 2), (51, .iload_n 3, 1), (52, .ifCond .eq 44, 3), (55, .lload 7, 2), (57, .aload_n 0, 1), (58, .getfield 9, 3), (61, .iload 6, 2), (63, .laload, 1), (64, .iload_n 2, 1), (65, .lshl, 1), (66, .lor, 1), (67, .lstore 7, 2), (69, .lload 9, 2), (71, .aload_n 0, 1), (72, .getfield 15, 3), (75, .iload 6, 2), (77, .laload, 1), (78, .iload_n 2, 1), (79, .lshl, 1), (80, .aload_n 0, 1), (81, .getfield 9, 3), (84, .iload 6, 2), (86, .laload, 1), (87, .bipush 64, 2), (89, .iload_n 2, 1), (90, .isub, 1), (91, .lushr, 1), (92, .lor, 1), (93, .lor, 1), (94, .lstore 9, 2), (96, .aload_n 0, 1), (97, .getfield 9, 3), (100, .iload 5, 2), (102, .iload 6, 2), (104, .ior, 1), (105, .lload 7, 2), (107, .lastore, 1), (108, .aload_n 0, 1), (109, .getfield 15, 3), (112, .iload 5, 2), (114, .iload 6, 2), (116, .ior, 1), (117, .lload 9, 2), (119, .lastore, 1), (120, .iinc 6 1, 3), (123, .goto (-115), 3), (126, .return_, 1)]
theorem dc_X6_addVoice : ∀ q ∈ tb_X6_addVoice, decode cX6_addVoice q.1 = .ok q.2 := by decide +kernel
def tb_X6_evenest : List (Nat × Instr × Nat) := [(0, .aload_n 0, 1), (1, .getfield 9, 3), (4, .iload_n 1, 1), (5, .laload, 1), (6, .aload_n 0, 1), (7, .getfield 15, 3), (10, .iload_n 1, 1), (11, .laload, 1), (12, .lor, 1), (13, .lconst 0, 1), (14, .lcmp, 1), (15, .ifCond .ne 5, 3), (18, .iconst (-1), 1), (19, .ireturn, 1), (20, .iload_n 2, 1), (21, .iconst 2, 1), (22, .idiv, 1), (23, .istore_n 3, 1), (24, .iload_n 3, 1), (25, .ifCond .lt 31, 3), (28, .aload_n 0, 1), (29, .iload_n 1, 1), (30, .iload_n 3, 1), (31, .invokevirtual 18, 3), (34, .ifCond .ne 14, 3), (37, .aload_n 0, 1), (38, .iload_n 1, 1), (39, .iload_n 2, 1), (40, .iload_n 3, 1), (41, .isub, 1), (42, .invokevirtual 18, 3), (45, .ifCond .eq 5, 3), (48, .iload_n 3, 1), (49, .ireturn, 1), (50, .iinc 3 (-1), 3), (53, .goto (-29), 3), (56, .iconst (-1), 1), (57, .ireturn, 1)]
theorem dc_X6_evenest : ∀ q ∈ tb_X6_evenest, decode cX6_evenest q.1 = .ok q.2 := by decide +kernel
def tb_X6_gives : List (Nat × Instr × Nat) := [(0, .iload_n 2, 1), (1, .bipush 64, 2), (3, .if_icmp .ge 16, 3), (6, .aload_n 0, 1), (7, .getfield 9, 3), (10, .iload_n 1, 1), (11, .laload, 1), (12, .iload_n 2, 1), (13, .invokestatic 22, 3), (16, .goto 16, 3), (19, .aload_n 0, 1), (20, .getfield 15, 3), (23, .iload_n 1, 1), (24, .laload, 1), (25, .iload_n 2, 1), (26, .bipush 64, 2), (28, .isub, 1), (29, .invokestatic 22, 3), (32, .ireturn, 1)]
theorem dc_X6_gives : ∀ q ∈ tb_X6_gives, decode cX6_gives q.1 = .ok q.2 := by decide +kernel
def tb_X6_reaches : List (Nat × Instr × Nat) := [(0, .aload_n 0, 1), (1, .getfield 9, 3), (4, .iload_n 1, 1), (5, .laload, 1), (6, .iload_n 2, 1), (7, .iload_n 3, 1), (8, .invokestatic 26, 3), (11, .land, 1), (12, .lconst 0, 1), (13, .lcmp, 1), (14, .ifCond .ne 26, 3), (17, .aload_n 0, 1), (18, .getfield 15, 3), (21, .iload_n 1, 1), (22, .laload, 1), (23, .iload_n 2, 1), (24, .bipush 64, 2), (26, .isub, 1), (27, .iload_n 3, 1), (28, .bipush 64, 2), (30, .isub, 1), (31, .invokestatic 26, 3), (34, .land, 1), (35, .lconst 0, 1), (36, .lcmp, 1), (37, .ifCond .eq 7, 3), (40, .iconst 1, 1), (41, .goto 4, 3), (44, .iconst 0, 1), (45, .ireturn, 1)]
theorem dc_X6_reaches : ∀ q ∈ tb_X6_reaches, decode cX6_reaches q.1 = .ok q.2 := by decide +kernel
def tb_X6_bits : List (Nat × Instr × Nat) := [(0, .iload_n 0, 1), (1, .ifCond .le 7, 3), (4, .iload_n 0, 1), (5, .goto 4, 3), (8, .iconst 0, 1), (9, .istore_n 2, 1), (10, .iload_n 1, 1), (11, .bipush 63, 2), (13, .if_icmp .ge 7, 3), (16, .iload_n 1, 1), (17, .goto 5, 3), (20, .bipush 63, 2), (22, .istore_n 3, 1), (23, .iload_n 2, 1), (24, .iload_n 3, 1), (25, .if_icmp .le 7, 3), (28, .lconst 0, 1), (29, .goto 15, 3), (32, .ldc2_w 30, 3), (35, .bipush 63, 2), (37, .iload_n 3, 1), (38, .iload_n 2, 1), (39, .isub, 1), (40, .isub, 1), (41, .lushr, 1), (42, .iload_n 2, 1), (43, .lshl, 1), (44, .lreturn, 1)]
theorem dc_X6_bits : ∀ q ∈ tb_X6_bits, decode cX6_bits q.1 = .ok q.2 := by decide +kernel
def tb_X7_init : List (Nat × Instr × Nat) := [(0, .aload_n 0, 1), (1, .invokespecial 3, 3), (4, .aload_n 0, 1), (5, .bipush 60, 2), (7, .newarray .int, 2), (9, .putfield 9, 3), (12, .return_, 1)]
theorem dc_X7_init : ∀ q ∈ tb_X7_init, decode cX7_init q.1 = .ok q.2 := by decide +kernel
def tb_X8_init : List (Nat × Instr × Nat) := [(0, .aload_n 0, 1), (1, .invokespecial 1, 3), (4, .aload_n 0, 1), (5, .new 7, 3), (8, .dup, 1), (9, .invokespecial 9, 3), (12, .putfield 10, 3), (15, .aload_n 0, 1), (16, .new 16, 3), (19, .dup, 1), (20, .invokespecial 18, 3), (23, .putfield 19, 3), (26, .aload_n 0, 1), (27, .iconst 2, 1), (28, .anewarray 7, 3), (31, .putfield 23, 3), (34, .iconst 0, 1), (35, .istore_n 1, 1), (36, .iload_n 1, 1), (37, .iconst 2, 1), (38, .if_icmp .ge 22, 3), (41, .aload_n 0, 1), (42, .getfield 23, 3), (45, .iload_n 1, 1), (46, .new 7, 3), (49, .dup, 1), (50, .invokespecial 9, 3), (53, .aastore, 1), (54, .iinc 1 1, 3), (57, .goto (-21), 3), (60, .aload_n 0, 1), (61, .iconst 2, 1), (62, .newarray .boolean, 2), (64, .putfield 27, 3), (67, .aload_n 0, 1), (68, .new 31, 3), (71, .dup, 1), (72, .invokespecial 33, 3), (75, .putfield 34, 3), (78, .aload_n 0, 1), (79, .new 38, 3), (82, .dup, 1), (83, .invokespecial 40, 3), (86, .putfield 41, 3), (89, .aload_n 0, 1), (90, .new 45, 3), (93, .dup, 1), (94, .invokespecial 47, 3), (97, .putfield 48, 3), (100, .aload_n 0, 1), (101, .new 52, 3), (104, .dup, 1), (105, .invokespecial 54, 3), (108, .putfield 55, 3), (111, .return_, 1)]
theorem dc_X8_init : ∀ q ∈ tb_X8_init, decode cX8_init q.1 = .ok q.2 := by decide +kernel
def tb_X8_add : List (Nat × Instr × Nat) := [(0, .iload_n 1, 1), (1, .iconst 1, 1), (2, .if_icmp .lt 22, 3), (5, .iload_n 1, 1), (6, .bipush 9, 2), (8, .if_icmp .gt 16, 3), (11, .iload_n 2, 1), (12, .bipush 100, 2), (14, .if_icmp .lt 10, 3), (17, .iload_n 2, 1), (18, .sipush 220, 3), (21, .if_icmp .le 5, 3), (24, .iconst (-1), 1), (25, .ireturn, 1), (26, .aload_n 0, 1), (27, .getfield 10, 3), (30, .getfield 59, 3), (33, .bipush 10, 2), (35, .if_icmp .lt 6, 3), (38, .bipush (-3), 2), (40, .ireturn, 1), (41, .aload_n 0, 1), (42, .getfield 19, 3), (45, .aload_n 0, 1), (46, .getfield 10, 3), (49, .invokevirtual 63, 3), (52, .aload_n 0, 1), (53, .getfield 10, 3), (56, .iload_n 1, 1), (57, .iload_n 2, 1), (58, .invokevirtual 67, 3), (61, .aload_n 0, 1), (62, .getfield 10, 3), (65, .getfield 59, 3), (68, .iconst 1, 1), (69, .isub, 1), (70, .ireturn, 1)]
theorem dc_X8_add : ∀ q ∈ tb_X8_add, decode cX8_add q.1 = .ok q.2 := by decide +kernel
def tb_X8_remove : List (Nat × Instr × Nat) := [(0, .aload_n 0, 1), (1, .getfield 10, 3), (4, .iload_n 1, 1), (5, .invokevirtual 71, 3), (8, .ifCond .ne 5, 3), (11, .iconst (-1), 1), (12, .ireturn, 1), (13, .aload_n 0, 1), (14, .getfield 19, 3), (17, .aload_n 0, 1), (18, .getfield 10, 3), (21, .invokevirtual 63, 3), (24, .aload_n 0, 1), (25, .getfield 10, 3), (28, .iload_n 1, 1), (29, .invokevirtual 75, 3), (32, .aload_n 0, 1), (33, .getfield 10, 3), (36, .getfield 59, 3), (39, .ireturn, 1)]
theorem dc_X8_remove : ∀ q ∈ tb_X8_remove, decode cX8_remove q.1 = .ok q.2 := by decide +kernel
def tb_X8_set : List (Nat × Instr × Nat) := [(0, .iload_n 1, 1), (1, .invokestatic 79, 3), (4, .ifCond .eq 21, 3), (7, .iload_n 2, 1), (8, .getstatic 82, 3), (11, .iload_n 1, 1), (12, .iaload, 1), (13, .if_icmp .lt 12, 3), (16, .iload_n 2, 1), (17, .getstatic 86, 3), (20, .iload_n 1, 1), (21, .iaload, 1), (22, .if_icmp .le 5, 3), (25, .iconst (-1), 1), (26, .ireturn, 1), (27, .aload_n 0, 1), (28, .getfield 19, 3), (31, .aload_n 0, 1), (32, .getfield 10, 3), (35, .invokevirtual 63, 3), (38, .aload_n 0, 1), (39, .getfield 10, 3), (42, .getfield 89, 3), (45, .iload_n 1, 1), (46, .iaload, 1), (47, .istore_n 3, 1), (48, .aload_n 0, 1), (49, .getfield 10, 3), (52, .getfield 89, 3), (55, .iload_n 1, 1), (56, .iload_n 2, 1), (57, .iastore, 1), (58, .iload_n 3, 1), (59, .ireturn, 1)]
theorem dc_X8_set : ∀ q ∈ tb_X8_set, decode cX8_set q.1 = .ok q.2 := by decide +kernel
def tb_X8_test : List (Nat × Instr × Nat) := [(0, .aload_n 0, 1), (1, .getfield 10, 3), (4, .iload_n 1, 1), (5, .invokevirtual 71, 3), (8, .ifCond .ne 5, 3), (11, .iconst (-1), 1), (12, .ireturn, 1), (13, .aload_n 0, 1), (14, .getfield 10, 3), (17, .getfield 92, 3), (20, .iload_n 1, 1), (21, .aaload, 1), (22, .astore_n 2, 1), (23, .aload_n 0, 1), (24, .getfield 41, 3), (27, .aload_n 0, 1), (28, .getfield 34, 3), (31, .aload_n 2, 1), (32, .invokevirtual 96, 3), (35, .ifCond .ne 6, 3), (38, .bipush (-2), 2), (40, .ireturn, 1), (41, .aload_n 0, 1), (42, .getfield 19, 3), (45, .aload_n 0, 1), (46, .getfield 10, 3), (49, .invokevirtual 63, 3), (52, .aload_n 2, 1), (53, .aload_n 0, 1), (54, .getfield 41, 3), (57, .getfield 100, 3), (60, .aload_n 0, 1), (61, .getfield 41, 3), (64, .getfield 104, 3), (67, .invokevirtual 107, 3), (70, .aload_n 2, 1), (71, .getfield 113, 3), (74, .ireturn, 1)]
theorem dc_X8_test : ∀ q ∈ tb_X8_test, decode cX8_test q.1 = .ok q.2 := by decide +kernel
def tb_X8_place : List (Nat × Instr × Nat) := [(0, .aload_n 0, 1), (1, .getfield 10, 3), (4, .iload_n 1, 1), (5, .invokevirtual 71, 3), (8, .ifCond .eq 16, 3), (11, .iload_n 2, 1), (12, .invokestatic 116, 3), (15, .ifCond .ne 11, 3), (18, .iload_n 2, 1), (19, .bipush (-9), 2), (21, .if_icmp .eq 5, 3), (24, .iconst (-1), 1), (25, .ireturn, 1), (26, .iload_n 2, 1), (27, .bipush (-9), 2), (29, .if_icmp .eq 18, 3), (32, .aload_n 0, 1), (33, .getfield 10, 3), (36, .iload_n 1, 1), (37, .iload_n 2, 1), (38, .invokevirtual 119, 3), (41, .ifCond .ne 6, 3), (44, .bipush (-2), 2), (46, .ireturn, 1), (47, .aload_n 0, 1), (48, .getfield 19, 3), (51, .aload_n 0, 1), (52, .getfield 10, 3), (55, .invokevirtual 63, 3), (58, .aload_n 0, 1), (59, .getfield 10, 3), (62, .getfield 92, 3), (65, .iload_n 1, 1), (66, .aaload, 1), (67, .getfield 123, 3), (70, .istore_n 3, 1), (71, .aload_n 0, 1), (72, .getfield 10, 3), (75, .getfield 92, 3), (78, .iload_n 1, 1), (79, .aaload, 1), (80, .iload_n 2, 1), (81, .putfield 123, 3), (84, .iload_n 3, 1), (85, .ireturn, 1)]
theorem dc_X8_place : ∀ q ∈ tb_X8_place, decode cX8_place q.1 = .ok q.2 := by decide +kernel
def tb_X8_placeAll : List (Nat × Instr × Nat) := [(0, .aload_n 0, 1), (1, .getfield 19, 3), (4, .aload_n 0, 1), (5, .getfield 10, 3), (8, .invokevirtual 63, 3), (11, .aload_n 0, 1), (12, .getfield 55, 3), (15, .aload_n 0, 1), (16, .getfield 10, 3), (19, .iconst (-1), 1), (20, .invokevirtual 126, 3), (23, .aload_n 0, 1), (24, .getfield 55, 3), (27, .aload_n 0, 1), (28, .getfield 10, 3), (31, .invokevirtual 130, 3), (34, .aload_n 0, 1), (35, .getfield 55, 3), (38, .getfield 133, 3), (41, .ireturn, 1)]
theorem dc_X8_placeAll : ∀ q ∈ tb_X8_placeAll, decode cX8_placeAll q.1 = .ok q.2 := by decide +kernel
def tb_X8_attendance : List (Nat × Instr × Nat) := [(0, .aload_n 0, 1), (1, .getfield 41, 3), (4, .aload_n 0, 1), (5, .getfield 34, 3), (8, .aload_n 0, 1), (9, .getfield 10, 3), (12, .getfield 59, 3), (15, .invokevirtual 136, 3), (18, .ifCond .ne 6, 3), (21, .bipush (-2), 2), (23, .ireturn, 1), (24, .aload_n 0, 1), (25, .getfield 19, 3), (28, .aload_n 0, 1), (29, .getfield 10, 3), (32, .invokevirtual 63, 3), (35, .iconst 0, 1), (36, .istore_n 1, 1), (37, .iload_n 1, 1), (38, .aload_n 0, 1), (39, .getfield 10, 3), (42, .getfield 59, 3), (45, .if_icmp .ge 40, 3), (48, .aload_n 0, 1), (49, .getfield 10, 3), (52, .getfield 92, 3), (55, .iload_n 1, 1), (56, .aaload, 1), (57, .aload_n 0, 1), (58, .getfield 41, 3), (61, .getfield 100, 3), (64, .iload_n 1, 1), (65, .invokestatic 140, 3), (68, .ifCond .ne 7, 3), (71, .iconst 1, 1), (72, .goto 4, 3), (75, .iconst 0, 1), (76, .putfield 144, 3), (79, .iinc 1 1, 3), (82, .goto (-45), 3), (85, .aload_n 0, 1), (86, .getfield 10, 3), (89, .invokevirtual 148, 3), (92, .ireturn, 1)]
theorem dc_X8_attendance : ∀ q ∈ tb_X8_attendance, decode cX8_attendance q.1 = .ok q.2 := by decide +kernel
def tb_X8_hold : List (Nat × Instr × Nat) := [(0, .aload_n 0, 1), (1, .getfield 10, 3), (4, .getfield 59, 3), (7, .ifCond .ne 6, 3), (10, .bipush (-2), 2), (12, .ireturn, 1), (13, .aload_n 0, 1), (14, .getfield 10, 3), (17, .getfield 152, 3), (20, .bipush 40, 2), (22, .if_icmp .lt 6, 3), (25, .bipush (-3), 2), (27, .ireturn, 1), (28, .aload_n 0, 1), (29, .getfield 19, 3), (32, .aload_n 0, 1), (33, .getfield 10, 3), (36, .invokevirtual 63, 3), (39, .aload_n 0, 1), (40, .getfield 48, 3), (43, .aload_n 0, 1), (44, .getfield 10, 3), (47, .invokevirtual 155, 3), (50, .aload_n 0, 1), (51, .getfield 48, 3), (54, .aload_n 0, 1), (55, .getfield 10, 3), (58, .invokevirtual 158, 3), (61, .ireturn, 1)]
theorem dc_X8_hold : ∀ q ∈ tb_X8_hold, decode cX8_hold q.1 = .ok q.2 := by decide +kernel
def tb_X8_undo : List (Nat × Instr × Nat) := [(0, .aload_n 0, 1), (1, .getfield 19, 3), (4, .getfield 162, 3), (7, .ifCond .ne 6, 3), (10, .bipush (-2), 2), (12, .ireturn, 1), (13, .aload_n 0, 1), (14, .getfield 19, 3), (17, .aload_n 0, 1), (18, .getfield 10, 3), (21, .invokevirtual 165, 3), (24, .aload_n 0, 1), (25, .getfield 19, 3), (28, .getfield 162, 3), (31, .ireturn, 1)]
theorem dc_X8_undo : ∀ q ∈ tb_X8_undo, decode cX8_undo q.1 = .ok q.2 := by decide +kernel
def tb_X8_write : List (Nat × Instr × Nat) := [(0, .iload_n 1, 1), (1, .bipush 32, 2), (3, .if_icmp .lt 9, 3), (6, .iload_n 1, 1), (7, .bipush 126, 2), (9, .if_icmp .le 5, 3), (12, .iconst (-1), 1), (13, .ireturn, 1), (14, .aload_n 0, 1), (15, .getfield 34, 3), (18, .getfield 168, 3), (21, .bipush 60, 2), (23, .if_icmp .lt 6, 3), (26, .bipush (-3), 2), (28, .ireturn, 1), (29, .aload_n 0, 1), (30, .getfield 34, 3), (33, .getfield 171, 3), (36, .aload_n 0, 1), (37, .getfield 34, 3), (40, .getfield 168, 3), (43, .iload_n 1, 1), (44, .iastore, 1), (45, .aload_n 0, 1), (46, .getfield 34, 3), (49, .dup, 1), (50, .getfield 168, 3), (53, .iconst 1, 1), (54, .iadd, 1), (55, .putfield 168, 3), (58, .aload_n 0, 1), (59, .getfield 34, 3), (62, .getfield 168, 3), (65, .ireturn, 1)]
theorem dc_X8_write : ∀ q ∈ tb_X8_write, decode cX8_write q.1 = .ok q.2 := by decide +kernel
def tb_X8_wipe : List (Nat × Instr × Nat) := [(0, .aload_n 0, 1), (1, .getfield 34, 3), (4, .getfield 168, 3), (7, .istore_n 1, 1), (8, .aload_n 0, 1), (9, .getfield 34, 3), (12, .iconst 0, 1), (13, .putfield 168, 3), (16, .iload_n 1, 1), (17, .ireturn, 1)]
theorem dc_X8_wipe : ∀ q ∈ tb_X8_wipe, decode cX8_wipe q.1 = .ok q.2 := by decide +kernel
def tb_X8_fault : List (Nat × Instr × Nat) := [(0, .iload_n 1, 1), (1, .lookupswitch 43 #[(0, 27), (1, 35)], 27), (28, .aload_n 0, 1), (29, .getfield 41, 3), (32, .getfield 174, 3), (35, .ireturn, 1), (36, .aload_n 0, 1), (37, .getfield 41, 3), (40, .getfield 177, 3), (43, .ireturn, 1), (44, .iconst (-1), 1), (45, .ireturn, 1)]
theorem dc_X8_fault : ∀ q ∈ tb_X8_fault, decode cX8_fault q.1 = .ok q.2 := by decide +kernel
def tb_X8_told : List (Nat × Instr × Nat) := [(0, .iload_n 1, 1), (1, .tableswitch 123 0 8 #[51, 59, 67, 75, 83, 91, 99, 107, 115], 51), (52, .aload_n 0, 1), (53, .getfield 10, 3), (56, .getfield 59, 3), (59, .ireturn, 1), (60, .aload_n 0, 1), (61, .getfield 10, 3), (64, .invokevirtual 180, 3), (67, .ireturn, 1), (68, .aload_n 0, 1), (69, .getfield 10, 3), (72, .getfield 152, 3), (75, .ireturn, 1), (76, .aload_n 0, 1), (77, .getfield 10, 3), (80, .invokevirtual 148, 3), (83, .ireturn, 1), (84, .aload_n 0, 1), (85, .getfield 10, 3), (88, .invokevirtual 183, 3), (91, .ireturn, 1), (92, .aload_n 0, 1), (93, .getfield 10, 3), (96, .getfield 186, 3), (99, .ireturn, 1), (100, .aload_n 0, 1), (101, .getfield 10, 3), (104, .getfield 189, 3), (107, .ireturn, 1), (108, .aload_n 0, 1), (109, .getfield 34, 3), (112, .getfield 168, 3), (115, .ireturn, 1), (116, .aload_n 0, 1), (117, .getfield 19, 3), (120, .getfield 162, 3), (123, .ireturn, 1), (124, .iconst (-1), 1), (125, .ireturn, 1)]
theorem dc_X8_told : ∀ q ∈ tb_X8_told, decode cX8_told q.1 = .ok q.2 := by decide +kernel
def tb_X8_setting : List (Nat × Instr × Nat) := [(0, .iload_n 1, 1), (1, .invokestatic 79, 3), (4, .ifCond .eq 15, 3), (7, .aload_n 0, 1), (8, .getfield 10, 3), (11, .getfield 89, 3), (14, .iload_n 1, 1), (15, .iaload, 1), (16, .goto 4, 3), (19, .iconst (-1), 1), (20, .ireturn, 1)]
theorem dc_X8_setting : ∀ q ∈ tb_X8_setting, decode cX8_setting q.1 = .ok q.2 := by decide +kernel
def tb_X8_singer : List (Nat × Instr × Nat) := [(0, .aload_n 0, 1), (1, .getfield 10, 3), (4, .iload_n 1, 1), (5, .invokevirtual 71, 3), (8, .ifCond .ne 5, 3), (11, .iconst (-1), 1), (12, .ireturn, 1), (13, .aload_n 0, 1), (14, .getfield 10, 3), (17, .getfield 92, 3), (20, .iload_n 1, 1), (21, .aaload, 1), (22, .astore_n 3, 1), (23, .iload_n 2, 1), (24, .tableswitch 149 0 9 #[56, 61, 66, 83, 107, 116, 121, 134, 139, 144], 56), (80, .aload_n 3, 1), (81, .getfield 192, 3), (84, .ireturn, 1), (85, .aload_n 3, 1), (86, .getfield 195, 3), (89, .ireturn, 1), (90, .aload_n 3, 1), (91, .getfield 113, 3), (94, .ifCond .ne 8, 3), (97, .bipush (-9), 2), (99, .goto 7, 3), (102, .aload_n 3, 1), (103, .getfield 198, 3), (106, .ireturn, 1), (107, .aload_n 3, 1), (108, .getfield 113, 3), (111, .ifCond .ne 8, 3), (114, .bipush (-9), 2), (116, .goto 14, 3), (119, .aload_n 3, 1), (120, .getfield 198, 3), (123, .aload_n 3, 1), (124, .getfield 113, 3), (127, .iadd, 1), (128, .iconst 1, 1), (129, .isub, 1), (130, .ireturn, 1), (131, .aload_n 0, 1), (132, .getfield 10, 3), (135, .iload_n 1, 1), (136, .invokevirtual 201, 3), (139, .ireturn, 1), (140, .aload_n 3, 1), (141, .getfield 123, 3), (144, .ireturn, 1), (145, .aload_n 3, 1), (146, .getfield 144, 3), (149, .ifCond .eq 7, 3), (152, .iconst 1, 1), (153, .goto 4, 3), (156, .iconst 0, 1), (157, .ireturn, 1), (158, .aload_n 3, 1), (159, .getfield 205, 3), (162, .ireturn, 1), (163, .aload_n 3, 1), (164, .getfield 206, 3), (167, .ireturn, 1), (168, .aload_n 3, 1), (169, .getfield 209, 3), (172, .ireturn, 1), (173, .iconst (-1), 1), (174, .ireturn, 1)]
theorem dc_X8_singer : ∀ q ∈ tb_X8_singer, decode cX8_singer q.1 = .ok q.2 := by decide +kernel
def tb_X8_note : List (Nat × Instr × Nat) := [(0, .aload_n 0, 1), (1, .getfield 10, 3), (4, .iload_n 1, 1), (5, .invokevirtual 71, 3), (8, .ifCond .eq 13, 3), (11, .iload_n 2, 1), (12, .ifCond .lt 9, 3), (15, .iload_n 2, 1), (16, .bipush 41, 2), (18, .if_icmp .lt 5, 3), (21, .iconst (-1), 1), (22, .ireturn, 1), (23, .aload_n 0, 1), (24, .getfield 10, 3), (27, .getfield 92, 3), (30, .iload_n 1, 1), (31, .aaload, 1), (32, .astore_n 3, 1), (33, .aload_n 3, 1), (34, .getfield 210, 3), (37, .iload_n 2, 1), (38, .invokestatic 140, 3), (41, .ifCond .ne 6, 3), (44, .bipush (-9), 2), (46, .ireturn, 1), (47, .aload_n 3, 1), (48, .getfield 213, 3), (51, .iload_n 2, 1), (52, .invokestatic 140, 3), (55, .ifCond .eq 7, 3), (58, .iconst 1, 1), (59, .goto 4, 3), (62, .iconst 0, 1), (63, .ireturn, 1)]
theorem dc_X8_note : ∀ q ∈ tb_X8_note, decode cX8_note q.1 = .ok q.2 := by decide +kernel
def tb_X8_overlap : List (Nat × Instr × Nat) := [(0, .aload_n 0, 1), (1, .getfield 10, 3), (4, .iload_n 1, 1), (5, .invokevirtual 71, 3), (8, .ifCond .eq 10, 3), (11, .iload_n 2, 1), (12, .invokestatic 116, 3), (15, .ifCond .ne 5, 3), (18, .iconst (-1), 1), (19, .ireturn, 1), (20, .aload_n 0, 1), (21, .getfield 10, 3), (24, .getfield 92, 3), (27, .iload_n 1, 1), (28, .aaload, 1), (29, .iload_n 2, 1), (30, .invokevirtual 214, 3), (33, .ireturn, 1)]
theorem dc_X8_overlap : ∀ q ∈ tb_X8_overlap, decode cX8_overlap q.1 = .ok q.2 := by decide +kernel
def tb_X8_part : List (Nat × Instr × Nat) := [(0, .iload_n 1, 1), (1, .invokestatic 116, 3), (4, .ifCond .ne 5, 3), (7, .iconst (-1), 1), (8, .ireturn, 1), (9, .iload_n 2, 1), (10, .tableswitch 105 0 5 #[38, 47, 56, 65, 75, 84], 38), (48, .aload_n 0, 1), (49, .getfield 10, 3), (52, .iload_n 1, 1), (53, .invokevirtual 217, 3), (56, .ireturn, 1), (57, .aload_n 0, 1), (58, .getfield 10, 3), (61, .iload_n 1, 1), (62, .invokevirtual 220, 3), (65, .ireturn, 1), (66, .aload_n 0, 1), (67, .getfield 10, 3), (70, .iload_n 1, 1), (71, .invokevirtual 222, 3), (74, .ireturn, 1), (75, .aload_n 0, 1), (76, .getfield 10, 3), (79, .getfield 225, 3), (82, .iload_n 1, 1), (83, .iaload, 1), (84, .ireturn, 1), (85, .aload_n 0, 1), (86, .getfield 10, 3), (89, .iload_n 1, 1), (90, .invokevirtual 228, 3), (93, .ireturn, 1), (94, .aload_n 0, 1), (95, .getfield 48, 3), (98, .aload_n 0, 1), (99, .getfield 10, 3), (102, .invokevirtual 155, 3), (105, .aload_n 0, 1), (106, .getfield 48, 3), (109, .getfield 231, 3), (112, .iload_n 1, 1), (113, .iaload, 1), (114, .ireturn, 1), (115, .iconst (-1), 1), (116, .ireturn, 1)]
theorem dc_X8_part : ∀ q ∈ tb_X8_part, decode cX8_part q.1 = .ok q.2 := by decide +kernel
def tb_X8_seat : List (Nat × Instr × Nat) := [(0, .aload_n 0, 1), (1, .getfield 10, 3), (4, .iload_n 1, 1), (5, .invokevirtual 71, 3), (8, .ifCond .eq 12, 3), (11, .iload_n 2, 1), (12, .ifCond .lt 8, 3), (15, .iload_n 2, 1), (16, .iconst 1, 1), (17, .if_icmp .le 5, 3), (20, .iconst (-1), 1), (21, .ireturn, 1), (22, .aload_n 0, 1), (23, .getfield 10, 3), (26, .getfield 92, 3), (29, .iload_n 1, 1), (30, .aaload, 1), (31, .getfield 123, 3), (34, .istore_n 3, 1), (35, .iload_n 3, 1), (36, .invokestatic 116, 3), (39, .ifCond .ne 6, 3), (42, .bipush (-9), 2), (44, .ireturn, 1), (45, .aload_n 0, 1), (46, .getfield 10, 3), (49, .iload_n 1, 1), (50, .invokevirtual 234, 3), (53, .istore 4, 2), (55, .iload_n 2, 1), (56, .ifCond .ne 23, 3), (59, .aload_n 0, 1), (60, .getfield 10, 3), (63, .iload_n 3, 1), (64, .invokevirtual 237, 3), (67, .iload 4, 2), (69, .aload_n 0, 1), (70, .getfield 10, 3), (73, .invokevirtual 240, 3), (76, .idiv, 1), (77, .iadd, 1), (78, .ireturn, 1), (79, .iload 4, 2), (81, .aload_n 0, 1), (82, .getfield 10, 3), (85, .invokevirtual 240, 3), (88, .irem, 1), (89, .istore 5, 2), (91, .iload 5, 2), (93, .iconst 2, 1), (94, .irem, 1), (95, .iconst 1, 1), (96, .if_icmp .ne 12, 3), (99, .iload 5, 2), (101, .iconst 1, 1), (102, .iadd, 1), (103, .iconst 2, 1), (104, .idiv, 1), (105, .goto 8, 3), (108, .iload 5, 2), (110, .iconst 2, 1), (111, .idiv, 1), (112, .ineg, 1), (113, .ireturn, 1)]
theorem dc_X8_seat : ∀ q ∈ tb_X8_seat, decode cX8_seat q.1 = .ok q.2 := by decide +kernel
def tb_X8_solo : List (Nat × Instr × Nat) := [(0, .iload_n 1, 1), (1, .ifCond .lt 21, 3), (4, .iload_n 1, 1), (5, .aload_n 0, 1), (6, .getfield 10, 3), (9, .getfield 152, 3), (12, .if_icmp .ge 10, 3), (15, .iload_n 2, 1), (16, .invokestatic 116, 3), (19, .ifCond .ne 5, 3), (22, .iconst (-1), 1), (23, .ireturn, 1), (24, .aload_n 0, 1), (25, .getfield 10, 3), (28, .getfield 243, 3), (31, .iload_n 1, 1), (32, .iconst 4, 1), (33, .imul, 1), (34, .iload_n 2, 1), (35, .iadd, 1), (36, .iaload, 1), (37, .ireturn, 1)]
theorem dc_X8_solo : ∀ q ∈ tb_X8_solo, decode cX8_solo q.1 = .ok q.2 := by decide +kernel
def tb_X8_mean : List (Nat × Instr × Nat) := [(0, .iconst 0, 1), (1, .istore_n 1, 1), (2, .iconst 0, 1), (3, .istore_n 2, 1), (4, .iload_n 2, 1), (5, .iconst 4, 1), (6, .if_icmp .ge 20, 3), (9, .iload_n 1, 1), (10, .aload_n 0, 1), (11, .getfield 10, 3), (14, .iload_n 2, 1), (15, .invokevirtual 220, 3), (18, .iadd, 1), (19, .istore_n 1, 1), (20, .iinc 2 1, 3), (23, .goto (-19), 3), (26, .iload_n 1, 1), (27, .i2f, 1), (28, .ldc 246, 2), (30, .fdiv, 1), (31, .freturn, 1)]
theorem dc_X8_mean : ∀ q ∈ tb_X8_mean, decode cX8_mean q.1 = .ok q.2 := by decide +kernel
def tb_X8_standIn : List (Nat × Instr × Nat) := [(0, .aload_n 0, 1), (1, .getfield 10, 3), (4, .iload_n 1, 1), (5, .invokevirtual 71, 3), (8, .ifCond .ne 5, 3), (11, .iconst (-1), 1), (12, .ireturn, 1), (13, .aload_n 0, 1), (14, .getfield 48, 3), (17, .aload_n 0, 1), (18, .getfield 10, 3), (21, .invokevirtual 155, 3), (24, .aload_n 0, 1), (25, .getfield 48, 3), (28, .getfield 247, 3), (31, .iload_n 1, 1), (32, .iaload, 1), (33, .ireturn, 1)]
theorem dc_X8_standIn : ∀ q ∈ tb_X8_standIn, decode cX8_standIn q.1 = .ok q.2 := by decide +kernel
def tb_X8_passedOver : List (Nat × Instr × Nat) := [(0, .aload_n 0, 1), (1, .getfield 10, 3), (4, .iload_n 1, 1), (5, .invokevirtual 71, 3), (8, .ifCond .ne 5, 3), (11, .iconst (-1), 1), (12, .ireturn, 1), (13, .aload_n 0, 1), (14, .getfield 10, 3), (17, .getfield 92, 3), (20, .iload_n 1, 1), (21, .aaload, 1), (22, .astore_n 2, 1), (23, .aload_n 2, 1), (24, .getfield 123, 3), (27, .invokestatic 116, 3), (30, .ifCond .ne 5, 3), (33, .iconst 1, 1), (34, .ireturn, 1), (35, .aload_n 2, 1), (36, .getfield 144, 3), (39, .ifCond .ne 5, 3), (42, .iconst 2, 1), (43, .ireturn, 1), (44, .aload_n 0, 1), (45, .getfield 48, 3), (48, .aload_n 0, 1), (49, .getfield 10, 3), (52, .invokevirtual 155, 3), (55, .aload_n 0, 1), (56, .getfield 48, 3), (59, .getfield 247, 3), (62, .iload_n 1, 1), (63, .iaload, 1), (64, .bipush (-9), 2), (66, .if_icmp .eq 5, 3), (69, .iconst 3, 1), (70, .ireturn, 1), (71, .aload_n 0, 1), (72, .getfield 10, 3), (75, .aload_n 2, 1), (76, .invokevirtual 250, 3), (79, .ifCond .ne 5, 3), (82, .iconst 4, 1), (83, .ireturn, 1), (84, .aload_n 0, 1), (85, .getfield 48, 3), (88, .getfield 231, 3), (91, .aload_n 2, 1), (92, .getfield 123, 3), (95, .iaload, 1), (96, .iload_n 1, 1), (97, .if_icmp .ne 7, 3), (100, .iconst 0, 1), (101, .goto 4, 3), (104, .iconst 5, 1), (105, .ireturn, 1)]
theorem dc_X8_passedOver : ∀ q ∈ tb_X8_passedOver, decode cX8_passedOver q.1 = .ok q.2 := by decide +kernel
def tb_X8_without : List (Nat × Instr × Nat) := [(0, .iload_n 1, 1), (1, .iconst (-1), 1), (2, .if_icmp .eq 16, 3), (5, .aload_n 0, 1), (6, .getfield 10, 3), (9, .iload_n 1, 1), (10, .invokevirtual 71, 3), (13, .ifCond .ne 5, 3), (16, .iconst (-1), 1), (17, .ireturn, 1), (18, .aload_n 0, 1), (19, .getfield 55, 3), (22, .aload_n 0, 1), (23, .getfield 10, 3), (26, .iload_n 1, 1), (27, .invokevirtual 126, 3), (30, .aload_n 0, 1), (31, .getfield 55, 3), (34, .getfield 133, 3), (37, .ireturn, 1)]
theorem dc_X8_without : ∀ q ∈ tb_X8_without, decode cX8_without q.1 = .ok q.2 := by decide +kernel
def tb_X8_keep : List (Nat × Instr × Nat) := [(0, .iload_n 1, 1), (1, .invokestatic 254, 3), (4, .ifCond .ne 5, 3), (7, .iconst (-1), 1), (8, .ireturn, 1), (9, .aload_n 0, 1), (10, .getfield 23, 3), (13, .iload_n 1, 1), (14, .aaload, 1), (15, .aload_n 0, 1), (16, .getfield 10, 3), (19, .invokevirtual 257, 3), (22, .aload_n 0, 1), (23, .getfield 27, 3), (26, .iload_n 1, 1), (27, .iconst 1, 1), (28, .bastore, 1), (29, .aload_n 0, 1), (30, .getfield 10, 3), (33, .getfield 59, 3), (36, .ireturn, 1)]
theorem dc_X8_keep : ∀ q ∈ tb_X8_keep, decode cX8_keep q.1 = .ok q.2 := by decide +kernel
def tb_X8_back : List (Nat × Instr × Nat) := [(0, .iload_n 1, 1), (1, .invokestatic 254, 3), (4, .ifCond .ne 5, 3), (7, .iconst (-1), 1), (8, .ireturn, 1), (9, .aload_n 0, 1), (10, .getfield 27, 3), (13, .iload_n 1, 1), (14, .baload, 1), (15, .ifCond .ne 6, 3), (18, .bipush (-2), 2), (20, .ireturn, 1), (21, .aload_n 0, 1), (22, .getfield 19, 3), (25, .aload_n 0, 1), (26, .getfield 10, 3), (29, .invokevirtual 63, 3), (32, .aload_n 0, 1), (33, .getfield 10, 3), (36, .aload_n 0, 1), (37, .getfield 23, 3), (40, .iload_n 1, 1), (41, .aaload, 1), (42, .invokevirtual 257, 3), (45, .aload_n 0, 1), (46, .getfield 10, 3), (49, .getfield 59, 3), (52, .ireturn, 1)]
theorem dc_X8_back : ∀ q ∈ tb_X8_back, decode cX8_back q.1 = .ok q.2 := by decide +kernel
def tb_X8_isSetting : List (Nat × Instr × Nat) := [(0, .iload_n 0, 1), (1, .ifCond .lt 12, 3), (4, .iload_n 0, 1), (5, .iconst 4, 1), (6, .if_icmp .ge 7, 3), (9, .iconst 1, 1), (10, .goto 4, 3), (13, .iconst 0, 1), (14, .ireturn, 1)]
theorem dc_X8_isSetting : ∀ q ∈ tb_X8_isSetting, decode cX8_isSetting q.1 = .ok q.2 := by decide +kernel
def tb_X8_isPart : List (Nat × Instr × Nat) := [(0, .iload_n 0, 1), (1, .ifCond .lt 12, 3), (4, .iload_n 0, 1), (5, .iconst 4, 1), (6, .if_icmp .ge 7, 3), (9, .iconst 1, 1), (10, .goto 4, 3), (13, .iconst 0, 1), (14, .ireturn, 1)]
theorem dc_X8_isPart : ∀ q ∈ tb_X8_isPart, decode cX8_isPart q.1 = .ok q.2 := by decide +kernel
def tb_X8_isImage : List (Nat × Instr × Nat) := [(0, .iload_n 0, 1), (1, .ifCond .lt 12, 3), (4, .iload_n 0, 1), (5, .iconst 2, 1), (6, .if_icmp .ge 7, 3), (9, .iconst 1, 1), (10, .goto 4, 3), (13, .iconst 0, 1), (14, .ireturn, 1)]
theorem dc_X8_isImage : ∀ q ∈ tb_X8_isImage, decode cX8_isImage q.1 = .ok q.2 := by decide +kernel
def tb_X8_contains : List (Nat × Instr × Nat) := [(0, .lload_n 0, 1), (1, .iload_n 2, 1), (2, .lushr, 1), (3, .lconst 1, 1), (4, .land, 1), (5, .lconst 0, 1), (6, .lcmp, 1), (7, .ifCond .eq 7, 3), (10, .iconst 1, 1), (11, .goto 4, 3), (14, .iconst 0, 1), (15, .ireturn, 1)]
theorem dc_X8_contains : ∀ q ∈ tb_X8_contains, decode cX8_contains q.1 = .ok q.2 := by decide +kernel
end
section
def tb_X9_init : List (Nat × Instr × Nat) := [(0, .aload_n 0, 1), (1, .invokespecial 1, 3), (4, .aload_n 0, 1), (5, .sipush 652, 3), (8, .newarray .int, 2), (10, .putfield 7, 3), (13, .aload_n 0, 1), (14, .sipush 5216, 3), (17, .newarray .int, 2), (19, .putfield 13, 3), (22, .aload_n 0, 1), (23, .sipush 1304, 3), (26, .newarray .int, 2), (28, .putfield 16, 3), (31, .aload_n 0, 1), (32, .bipush 60, 2), (34, .newarray .int, 2), (36, .putfield 19, 3), (39, .aload_n 0, 1), (40, .bipush (-9), 2), (42, .putfield 22, 3), (45, .aload_n 0, 1), (46, .bipush (-9), 2), (48, .putfield 26, 3), (51, .aload_n 0, 1), (52, .bipush 10, 2), (54, .newarray .int, 2), (56, .putfield 29, 3), (59, .aload_n 0, 1), (60, .bipush 10, 2), (62, .newarray .int, 2), (64, .putfield 32, 3), (67, .aload_n 0, 1), (68, .bipush 10, 2), (70, .newarray .int, 2), (72, .putfield 35, 3), (75, .aload_n 0, 1), (76, .iconst 4, 1), (77, .newarray .int, 2), (79, .putfield 38, 3), (82, .aload_n 0, 1), (83, .bipush 10, 2), (85, .newarray .int, 2), (87, .putfield 41, 3), (90, .aload_n 0, 1), (91, .iconst 4, 1), (92, .newarray .int, 2), (94, .putfield 44, 3), (97, .aload_n 0, 1), (98, .iconst 4, 1), (99, .newarray .int, 2), (101, .putfield 47, 3), (104, .aload_n 0, 1), (105, .bipush 30, 2), (107, .newarray .int, 2), (109, .putfield 50, 3), (112, .aload_n 0, 1), (113, .bipush 30, 2), (115, .newarray .int, 2), (117, .putfield 53, 3), (120, .aload_n 0, 1), (121, .bipush 30, 2), (123, .newarray .int, 2), (125, .putfield 56, 3), (128, .aload_n 0, 1), (129, .getfield 7, 3), (132, .iconst 0, 1), (133, .bipush 12, 2), (135, .iastore, 1), (136, .aload_n 0, 1), (137, .getfield 7, 3), (140, .iconst 1, 1), (141, .iconst 5, 1), (142, .iastore, 1), (143, .aload_n 0, 1), (144, .getfield 7, 3), (147, .iconst 2, 1), (148, .iconst 1, 1), (149, .iastore, 1), (150, .aload_n 0, 1), (151, .getfield 7, 3), (154, .iconst 3, 1), (155, .iconst 4, 1), (156, .iastore, 1), (157, .return_, 1)]
theorem dc_X9_init : ∀ q ∈ tb_X9_init, decode cX9_init q.1 = .ok q.2 := by decide +kernel
def tb_X9_isIn : List (Nat × Instr × Nat) := [(0, .iload_n 0, 1), (1, .iload_n 1, 1), (2, .if_icmp .lt 12, 3), (5, .iload_n 0, 1), (6, .iload_n 2, 1), (7, .if_icmp .gt 7, 3), (10, .iconst 1, 1), (11, .goto 4, 3), (14, .iconst 0, 1), (15, .ireturn, 1)]
theorem dc_X9_isIn : ∀ q ∈ tb_X9_isIn, decode cX9_isIn q.1 = .ok q.2 := by decide +kernel
def tb_X9_remember : List (Nat × Instr × Nat) := [(0, .aload_n 0, 1), (1, .getfield 59, 3), (4, .bipush 8, 2), (6, .if_icmp .ne 44, 3), (9, .iconst 0, 1), (10, .istore_n 1, 1), (11, .iload_n 1, 1), (12, .sipush 4564, 3), (15, .if_icmp .ge 25, 3), (18, .aload_n 0, 1), (19, .getfield 13, 3), (22, .iload_n 1, 1), (23, .aload_n 0, 1), (24, .getfield 13, 3), (27, .iload_n 1, 1), (28, .sipush 652, 3), (31, .iadd, 1), (32, .iaload, 1), (33, .iastore, 1), (34, .iinc 1 1, 3), (37, .goto (-26), 3), (40, .aload_n 0, 1), (41, .dup, 1), (42, .getfield 59, 3), (45, .iconst 1, 1), (46, .isub, 1), (47, .putfield 59, 3), (50, .iconst 0, 1), (51, .istore_n 1, 1), (52, .iload_n 1, 1), (53, .sipush 652, 3), (56, .if_icmp .ge 30, 3), (59, .aload_n 0, 1), (60, .getfield 13, 3), (63, .sipush 652, 3), (66, .aload_n 0, 1), (67, .getfield 59, 3), (70, .imul, 1), (71, .iload_n 1, 1), (72, .iadd, 1), (73, .aload_n 0, 1), (74, .getfield 7, 3), (77, .iload_n 1, 1), (78, .iaload, 1), (79, .iastore, 1), (80, .iinc 1 1, 3), (83, .goto (-31), 3), (86, .aload_n 0, 1), (87, .dup, 1), (88, .getfield 59, 3), (91, .iconst 1, 1), (92, .iadd, 1), (93, .putfield 59, 3), (96, .return_, 1)]
theorem dc_X9_remember : ∀ q ∈ tb_X9_remember, decode cX9_remember q.1 = .ok q.2 := by decide +kernel
def tb_X9_of : List (Nat × Instr × Nat) := [(0, .aload_n 0, 1), (1, .getfield 7, 3), (4, .bipush 12, 2), (6, .bipush 48, 2), (8, .iload_n 1, 1), (9, .imul, 1), (10, .iadd, 1), (11, .iload_n 2, 1), (12, .iadd, 1), (13, .iaload, 1), (14, .ireturn, 1)]
theorem dc_X9_of : ∀ q ∈ tb_X9_of, decode cX9_of q.1 = .ok q.2 := by decide +kernel
def tb_X9_put : List (Nat × Instr × Nat) := [(0, .aload_n 0, 1), (1, .getfield 7, 3), (4, .bipush 12, 2), (6, .bipush 48, 2), (8, .iload_n 1, 1), (9, .imul, 1), (10, .iadd, 1), (11, .iload_n 2, 1), (12, .iadd, 1), (13, .iload_n 3, 1), (14, .iastore, 1), (15, .return_, 1)]
theorem dc_X9_put : ∀ q ∈ tb_X9_put, decode cX9_put q.1 = .ok q.2 := by decide +kernel
def tb_X9_isSinger : List (Nat × Instr × Nat) := [(0, .iload_n 1, 1), (1, .iconst 0, 1), (2, .aload_n 0, 1), (3, .getfield 7, 3), (6, .bipush 11, 2), (8, .iaload, 1), (9, .iconst 1, 1), (10, .isub, 1), (11, .invokestatic 62, 3), (14, .ireturn, 1)]
theorem dc_X9_isSinger : ∀ q ∈ tb_X9_isSinger, decode cX9_isSinger q.1 = .ok q.2 := by decide +kernel
def tb_X9_isPart : List (Nat × Instr × Nat) := [(0, .iload_n 0, 1), (1, .iconst 0, 1), (2, .iconst 3, 1), (3, .invokestatic 62, 3), (6, .ireturn, 1)]
theorem dc_X9_isPart : ∀ q ∈ tb_X9_isPart, decode cX9_isPart q.1 = .ok q.2 := by decide +kernel
def tb_X9_findRange : List (Nat × Instr × Nat) := [(0, .aload_n 0, 1), (1, .bipush (-9), 2), (3, .putfield 66, 3), (6, .aload_n 0, 1), (7, .bipush (-9), 2), (9, .putfield 69, 3), (12, .iconst 0, 1), (13, .istore_n 2, 1), (14, .iconst 0, 1), (15, .istore_n 3, 1), (16, .iload_n 3, 1), (17, .bipush 41, 2), (19, .if_icmp .ge 63, 3), (22, .aload_n 0, 1), (23, .iload_n 1, 1), (24, .bipush 7, 2), (26, .iload_n 3, 1), (27, .iadd, 1), (28, .invokevirtual 72, 3), (31, .iconst 1, 1), (32, .if_icmp .eq 10, 3), (35, .iload_n 3, 1), (36, .iconst 1, 1), (37, .iadd, 1), (38, .istore_n 2, 1), (39, .goto 37, 3), (42, .aload_n 0, 1), (43, .getfield 66, 3), (46, .bipush (-9), 2), (48, .if_icmp .eq 18, 3), (51, .iload_n 3, 1), (52, .iload_n 2, 1), (53, .isub, 1), (54, .aload_n 0, 1), (55, .getfield 69, 3), (58, .aload_n 0, 1), (59, .getfield 66, 3), (62, .isub, 1), (63, .if_icmp .le 13, 3), (66, .aload_n 0, 1), (67, .iload_n 2, 1), (68, .putfield 66, 3), (71, .aload_n 0, 1), (72, .iload_n 3, 1), (73, .putfield 69, 3), (76, .iinc 3 1, 3), (79, .goto (-63), 3), (82, .return_, 1)]
theorem dc_X9_findRange : ∀ q ∈ tb_X9_findRange, decode cX9_findRange q.1 = .ok q.2 := by decide +kernel
def tb_X9_overlapOf : List (Nat × Instr × Nat) := [(0, .aload_n 0, 1), (1, .iload_n 1, 1), (2, .invokevirtual 76, 3), (5, .bipush 22, 2), (7, .bipush 6, 2), (9, .iload_n 2, 1), (10, .imul, 1), (11, .isub, 1), (12, .istore_n 3, 1), (13, .iconst 0, 1), (14, .istore 4, 2), (16, .iload_n 3, 1), (17, .istore 5, 2), (19, .iload 5, 2), (21, .iload_n 3, 1), (22, .bipush 15, 2), (24, .iadd, 1), (25, .if_icmp .ge 44, 3), (28, .iload 4, 2), (30, .aload_n 0, 1), (31, .getfield 66, 3), (34, .bipush (-9), 2), (36, .if_icmp .eq 23, 3), (39, .iload 5, 2), (41, .aload_n 0, 1), (42, .getfield 66, 3), (45, .aload_n 0, 1), (46, .getfield 69, 3), (49, .invokestatic 62, 3), (52, .ifCond .eq 7, 3), (55, .iconst 1, 1), (56, .goto 4, 3), (59, .iconst 0, 1), (60, .iadd, 1), (61, .istore 4, 2), (63, .iinc 5 1, 3), (66, .goto (-47), 3), (69, .iload 4, 2), (71, .ireturn, 1)]
theorem dc_X9_overlapOf : ∀ q ∈ tb_X9_overlapOf, decode cX9_overlapOf q.1 = .ok q.2 := by decide +kernel
def tb_X9_isFit : List (Nat × Instr × Nat) := [(0, .aload_n 0, 1), (1, .iload_n 1, 1), (2, .iload_n 2, 1), (3, .invokevirtual 80, 3), (6, .aload_n 0, 1), (7, .getfield 7, 3), (10, .iconst 0, 1), (11, .iaload, 1), (12, .if_icmp .lt 7, 3), (15, .iconst 1, 1), (16, .goto 4, 3), (19, .iconst 0, 1), (20, .ireturn, 1)]
theorem dc_X9_isFit : ∀ q ∈ tb_X9_isFit, decode cX9_isFit q.1 = .ok q.2 := by decide +kernel
def tb_X9_fits : List (Nat × Instr × Nat) := [(0, .iconst 0, 1), (1, .istore_n 2, 1), (2, .iconst 0, 1), (3, .istore_n 3, 1), (4, .iload_n 3, 1), (5, .iconst 4, 1), (6, .if_icmp .ge 28, 3), (9, .iload_n 2, 1), (10, .aload_n 0, 1), (11, .iload_n 1, 1), (12, .iload_n 3, 1), (13, .invokevirtual 83, 3), (16, .ifCond .eq 9, 3), (19, .iconst 1, 1), (20, .iload_n 3, 1), (21, .ishl, 1), (22, .goto 4, 3), (25, .iconst 0, 1), (26, .ior, 1), (27, .istore_n 2, 1), (28, .iinc 3 1, 3), (31, .goto (-27), 3), (34, .iload_n 2, 1), (35, .ireturn, 1)]
theorem dc_X9_fits : ∀ q ∈ tb_X9_fits, decode cX9_fits q.1 = .ok q.2 := by decide +kernel
def tb_X9_judge : List (Nat × Instr × Nat) := [(0, .aload_n 0, 1), (1, .getfield 38, 3), (4, .iconst 0, 1), (5, .iaload, 1), (6, .istore_n 1, 1), (7, .aload_n 0, 1), (8, .getfield 38, 3), (11, .iconst 0, 1), (12, .iaload, 1), (13, .istore_n 2, 1), (14, .iconst 1, 1), (15, .istore_n 3, 1), (16, .iload_n 3, 1), (17, .iconst 4, 1), (18, .if_icmp .ge 51, 3), (21, .aload_n 0, 1), (22, .getfield 38, 3), (25, .iload_n 3, 1), (26, .iaload, 1), (27, .iload_n 1, 1), (28, .if_icmp .ge 12, 3), (31, .aload_n 0, 1), (32, .getfield 38, 3), (35, .iload_n 3, 1), (36, .iaload, 1), (37, .goto 4, 3), (40, .iload_n 1, 1), (41, .istore_n 1, 1), (42, .aload_n 0, 1), (43, .getfield 38, 3), (46, .iload_n 3, 1), (47, .iaload, 1), (48, .iload_n 2, 1), (49, .if_icmp .le 12, 3), (52, .aload_n 0, 1), (53, .getfield 38, 3), (56, .iload_n 3, 1), (57, .iaload, 1), (58, .goto 4, 3), (61, .iload_n 2, 1), (62, .istore_n 2, 1), (63, .iinc 3 1, 3), (66, .goto (-50), 3), (69, .iload_n 1, 1), (70, .aload_n 0, 1), (71, .getfield 87, 3), (74, .if_icmp .gt 19, 3), (77, .iload_n 1, 1), (78, .aload_n 0, 1), (79, .getfield 87, 3), (82, .if_icmp .ne 47, 3), (85, .iload_n 2, 1), (86, .aload_n 0, 1), (87, .getfield 90, 3), (90, .if_icmp .ge 39, 3), (93, .aload_n 0, 1), (94, .iload_n 1, 1), (95, .putfield 87, 3), (98, .aload_n 0, 1), (99, .iload_n 2, 1), (100, .putfield 90, 3), (103, .iconst 0, 1), (104, .istore_n 3, 1), (105, .iload_n 3, 1), (106, .bipush 10, 2), (108, .if_icmp .ge 21, 3), (111, .aload_n 0, 1), (112, .getfield 35, 3), (115, .iload_n 3, 1), (116, .aload_n 0, 1), (117, .getfield 32, 3), (120, .iload_n 3, 1), (121, .iaload, 1), (122, .iastore, 1), (123, .iinc 3 1, 3), (126, .goto (-21), 3), (129, .return_, 1)]
theorem dc_X9_judge : ∀ q ∈ tb_X9_judge, decode cX9_judge q.1 = .ok q.2 := by decide +kernel
def tb_X9_nextPart : List (Nat × Instr × Nat) := [(0, .iload_n 2, 1), (1, .istore_n 3, 1), (2, .iload_n 3, 1), (3, .iconst 4, 1), (4, .if_icmp .ge 25, 3), (7, .aload_n 0, 1), (8, .getfield 29, 3), (11, .iload_n 1, 1), (12, .iaload, 1), (13, .iload_n 3, 1), (14, .ishr, 1), (15, .iconst 1, 1), (16, .iand, 1), (17, .iconst 1, 1), (18, .if_icmp .ne 5, 3), (21, .iload_n 3, 1), (22, .ireturn, 1), (23, .iinc 3 1, 3), (26, .goto (-24), 3), (29, .bipush (-9), 2), (31, .ireturn, 1)]
theorem dc_X9_nextPart : ∀ q ∈ tb_X9_nextPart, decode cX9_nextPart q.1 = .ok q.2 := by decide +kernel
def tb_X9_change : List (Nat × Instr × Nat) := [(0, .aload_n 0, 1), (1, .getfield 32, 3), (4, .iload_n 1, 1), (5, .iaload, 1), (6, .ifCond .lt 25, 3), (9, .aload_n 0, 1), (10, .getfield 38, 3), (13, .aload_n 0, 1), (14, .getfield 32, 3), (17, .iload_n 1, 1), (18, .iaload, 1), (19, .dup2, 1), (20, .iaload, 1), (21, .iload_n 2, 1), (22, .aload_n 0, 1), (23, .iload_n 1, 1), (24, .iconst 0, 1), (25, .invokevirtual 72, 3), (28, .imul, 1), (29, .iadd, 1), (30, .iastore, 1), (31, .return_, 1)]
theorem dc_X9_change : ∀ q ∈ tb_X9_change, decode cX9_change q.1 = .ok q.2 := by decide +kernel
def tb_X9_findBest : List (Nat × Instr × Nat) := [(0, .aload_n 0, 1), (1, .iconst (-1), 1), (2, .putfield 87, 3), (5, .aload_n 0, 1), (6, .iconst 0, 1), (7, .putfield 90, 3), (10, .iconst 0, 1), (11, .istore_n 2, 1), (12, .iload_n 2, 1), (13, .iconst 4, 1), (14, .if_icmp .ge 16, 3), (17, .aload_n 0, 1), (18, .getfield 38, 3), (21, .iload_n 2, 1), (22, .iconst 0, 1), (23, .iastore, 1), (24, .iinc 2 1, 3), (27, .goto (-15), 3), (30, .aload_n 0, 1), (31, .getfield 7, 3), (34, .bipush 11, 2), (36, .iaload, 1), (37, .istore_n 2, 1), (38, .iconst 0, 1), (39, .istore_n 3, 1), (40, .iload_n 3, 1), (41, .iload_n 2, 1), (42, .if_icmp .ge 47, 3), (45, .aload_n 0, 1), (46, .getfield 29, 3), (49, .iload_n 3, 1), (50, .iload_n 3, 1), (51, .iload_n 1, 1), (52, .if_icmp .ne 7, 3), (55, .iconst 0, 1), (56, .goto 8, 3), (59, .aload_n 0, 1), (60, .iload_n 3, 1), (61, .invokevirtual 93, 3), (64, .iastore, 1), (65, .aload_n 0, 1), (66, .getfield 32, 3), (69, .iload_n 3, 1), (70, .aload_n 0, 1), (71, .iload_n 3, 1), (72, .iconst 0, 1), (73, .invokevirtual 97, 3), (76, .iastore, 1), (77, .aload_n 0, 1), (78, .iload_n 3, 1), (79, .iconst 1, 1), (80, .invokevirtual 100, 3), (83, .iinc 3 1, 3), (86, .goto (-46), 3), (89, .iconst 0, 1), (90, .istore_n 3, 1), (91, .iload_n 3, 1), (92, .ifCond .lt 119, 3), (95, .aload_n 0, 1), (96, .invokevirtual 104, 3), (99, .iload_n 2, 1), (100, .iconst 1, 1), (101, .isub, 1), (102, .istore_n 3, 1), (103, .iconst 0, 1), (104, .istore 4, 2), (106, .iload_n 3, 1), (107, .ifCond .lt 101, 3), (110, .iload 4, 2), (112, .ifCond .ne 96, 3), (115, .aload_n 0, 1), (116, .getfield 32, 3), (119, .iload_n 3, 1), (120, .iaload, 1), (121, .ifCond .ge 8, 3), (124, .bipush (-9), 2), (126, .goto 16, 3), (129, .aload_n 0, 1), (130, .iload_n 3, 1), (131, .aload_n 0, 1), (132, .getfield 32, 3), (135, .iload_n 3, 1), (136, .iaload, 1), (137, .iconst 1, 1), (138, .iadd, 1), (139, .invokevirtual 97, 3), (142, .istore 5, 2), (144, .aload_n 0, 1), (145, .iload_n 3, 1), (146, .iconst (-1), 1), (147, .invokevirtual 100, 3), (150, .iload 5, 2), (152, .bipush (-9), 2), (154, .if_icmp .eq 7, 3), (157, .iconst 1, 1), (158, .goto 4, 3), (161, .iconst 0, 1), (162, .istore 4, 2), (164, .aload_n 0, 1), (165, .getfield 32, 3), (168, .iload_n 3, 1), (169, .iload 4, 2), (171, .ifCond .eq 8, 3), (174, .iload 5, 2), (176, .goto 9, 3), (179, .aload_n 0, 1), (180, .iload_n 3, 1), (181, .iconst 0, 1), (182, .invokevirtual 97, 3), (185, .iastore, 1), (186, .aload_n 0, 1), (187, .iload_n 3, 1), (188, .iconst 1, 1), (189, .invokevirtual 100, 3), (192, .iload_n 3, 1), (193, .iload 4, 2), (195, .ifCond .eq 7, 3), (198, .iconst 0, 1), (199, .goto 4, 3), (202, .iconst 1, 1), (203, .isub, 1), (204, .istore_n 3, 1), (205, .goto (-99), 3), (208, .goto (-117), 3), (211, .return_, 1)]
theorem dc_X9_findBest : ∀ q ∈ tb_X9_findBest, decode cX9_findBest q.1 = .ok q.2 := by decide +kernel
def tb_X9_placeAll : List (Nat × Instr × Nat) := [(0, .aload_n 0, 1), (1, .invokevirtual 107, 3), (4, .aload_n 0, 1), (5, .iconst (-1), 1), (6, .invokevirtual 110, 3), (9, .iconst 0, 1), (10, .istore_n 1, 1), (11, .iload_n 1, 1), (12, .aload_n 0, 1), (13, .getfield 7, 3), (16, .bipush 11, 2), (18, .iaload, 1), (19, .if_icmp .ge 21, 3), (22, .aload_n 0, 1), (23, .iload_n 1, 1), (24, .iconst 2, 1), (25, .aload_n 0, 1), (26, .getfield 35, 3), (29, .iload_n 1, 1), (30, .iaload, 1), (31, .invokevirtual 113, 3), (34, .iinc 1 1, 3), (37, .goto (-26), 3), (40, .aload_n 0, 1), (41, .getfield 87, 3), (44, .ireturn, 1)]
theorem dc_X9_placeAll : ∀ q ∈ tb_X9_placeAll, decode cX9_placeAll q.1 = .ok q.2 := by decide +kernel
def tb_X9_without : List (Nat × Instr × Nat) := [(0, .iload_n 1, 1), (1, .iconst (-1), 1), (2, .if_icmp .eq 13, 3), (5, .aload_n 0, 1), (6, .iload_n 1, 1), (7, .invokevirtual 117, 3), (10, .ifCond .ne 5, 3), (13, .iconst (-1), 1), (14, .ireturn, 1), (15, .aload_n 0, 1), (16, .iload_n 1, 1), (17, .invokevirtual 110, 3), (20, .aload_n 0, 1), (21, .getfield 87, 3), (24, .ireturn, 1)]
theorem dc_X9_without : ∀ q ∈ tb_X9_without, decode cX9_without q.1 = .ok q.2 := by decide +kernel
def tb_X9_presentStrength : List (Nat × Instr × Nat) := [(0, .iconst 0, 1), (1, .istore_n 2, 1), (2, .iconst 0, 1), (3, .istore_n 3, 1), (4, .iload_n 3, 1), (5, .aload_n 0, 1), (6, .getfield 7, 3), (9, .bipush 11, 2), (11, .iaload, 1), (12, .if_icmp .ge 42, 3), (15, .iload_n 2, 1), (16, .aload_n 0, 1), (17, .iload_n 3, 1), (18, .iconst 2, 1), (19, .invokevirtual 72, 3), (22, .iload_n 1, 1), (23, .if_icmp .ne 22, 3), (26, .aload_n 0, 1), (27, .iload_n 3, 1), (28, .iconst 3, 1), (29, .invokevirtual 72, 3), (32, .iconst 1, 1), (33, .if_icmp .ne 12, 3), (36, .aload_n 0, 1), (37, .iload_n 3, 1), (38, .iconst 0, 1), (39, .invokevirtual 72, 3), (42, .goto 4, 3), (45, .iconst 0, 1), (46, .iadd, 1), (47, .istore_n 2, 1), (48, .iinc 3 1, 3), (51, .goto (-47), 3), (54, .iload_n 2, 1), (55, .ireturn, 1)]
theorem dc_X9_presentStrength : ∀ q ∈ tb_X9_presentStrength, decode cX9_presentStrength q.1 = .ok q.2 := by decide +kernel
def tb_X9_isFree : List (Nat × Instr × Nat) := [(0, .aload_n 0, 1), (1, .iload_n 1, 1), (2, .iconst 2, 1), (3, .invokevirtual 72, 3), (6, .istore_n 3, 1), (7, .aload_n 0, 1), (8, .iload_n 1, 1), (9, .iconst 3, 1), (10, .invokevirtual 72, 3), (13, .iconst 1, 1), (14, .if_icmp .ne 58, 3), (17, .iload_n 3, 1), (18, .ifCond .lt 54, 3), (21, .iload_n 3, 1), (22, .iload_n 2, 1), (23, .if_icmp .eq 49, 3), (26, .aload_n 0, 1), (27, .getfield 41, 3), (30, .iload_n 1, 1), (31, .iaload, 1), (32, .bipush (-9), 2), (34, .if_icmp .ne 38, 3), (37, .aload_n 0, 1), (38, .iload_n 1, 1), (39, .iload_n 2, 1), (40, .invokevirtual 83, 3), (43, .ifCond .eq 29, 3), (46, .aload_n 0, 1), (47, .getfield 44, 3), (50, .iload_n 3, 1), (51, .iaload, 1), (52, .aload_n 0, 1), (53, .iload_n 1, 1), (54, .iconst 0, 1), (55, .invokevirtual 72, 3), (58, .isub, 1), (59, .aload_n 0, 1), (60, .getfield 7, 3), (63, .iconst 1, 1), (64, .iaload, 1), (65, .if_icmp .lt 7, 3), (68, .iconst 1, 1), (69, .goto 4, 3), (72, .iconst 0, 1), (73, .ireturn, 1)]
theorem dc_X9_isFree : ∀ q ∈ tb_X9_isFree, decode cX9_isFree q.1 = .ok q.2 := by decide +kernel
def tb_X9_findStandIns : List (Nat × Instr × Nat) := [(0, .iconst 0, 1), (1, .istore_n 1, 1), (2, .iload_n 1, 1), (3, .bipush 10, 2), (5, .if_icmp .ge 17, 3), (8, .aload_n 0, 1), (9, .getfield 41, 3), (12, .iload_n 1, 1), (13, .bipush (-9), 2), (15, .iastore, 1), (16, .iinc 1 1, 3), (19, .goto (-17), 3), (22, .iconst 0, 1), (23, .istore_n 1, 1), (24, .iload_n 1, 1), (25, .iconst 4, 1), (26, .if_icmp .ge 20, 3), (29, .aload_n 0, 1), (30, .getfield 44, 3), (33, .iload_n 1, 1), (34, .aload_n 0, 1), (35, .iload_n 1, 1), (36, .invokevirtual 121, 3), (39, .iastore, 1), (40, .iinc 1 1, 3), (43, .goto (-19), 3), (46, .iconst 0, 1), (47, .istore_n 1, 1), (48, .iload_n 1, 1), (49, .iconst 4, 1), (50, .if_icmp .ge 94, 3), (53, .iconst 0, 1), (54, .istore_n 2, 1), (55, .iload_n 2, 1), (56, .aload_n 0, 1), (57, .getfield 7, 3), (60, .bipush 11, 2), (62, .iaload, 1), (63, .if_icmp .ge 75, 3), (66, .aload_n 0, 1), (67, .getfield 44, 3), (70, .iload_n 1, 1), (71, .iaload, 1), (72, .aload_n 0, 1), (73, .getfield 7, 3), (76, .iconst 1, 1), (77, .iaload, 1), (78, .if_icmp .ge 60, 3), (81, .aload_n 0, 1), (82, .iload_n 2, 1), (83, .iload_n 1, 1), (84, .invokevirtual 124, 3), (87, .ifCond .eq 45, 3), (90, .aload_n 0, 1), (91, .getfield 41, 3), (94, .iload_n 2, 1), (95, .iload_n 1, 1), (96, .iastore, 1), (97, .aload_n 0, 1), (98, .getfield 44, 3), (101, .aload_n 0, 1), (102, .iload_n 2, 1), (103, .iconst 2, 1), (104, .invokevirtual 72, 3), (107, .dup2, 1), (108, .iaload, 1), (109, .aload_n 0, 1), (110, .iload_n 2, 1), (111, .iconst 0, 1), (112, .invokevirtual 72, 3), (115, .isub, 1), (116, .iastore, 1), (117, .aload_n 0, 1), (118, .getfield 44, 3), (121, .iload_n 1, 1), (122, .dup2, 1), (123, .iaload, 1), (124, .aload_n 0, 1), (125, .iload_n 2, 1), (126, .iconst 0, 1), (127, .invokevirtual 72, 3), (130, .iadd, 1), (131, .iastore, 1), (132, .iinc 2 1, 3), (135, .goto (-80), 3), (138, .iinc 1 1, 3), (141, .goto (-93), 3), (144, .return_, 1)]
theorem dc_X9_findStandIns : ∀ q ∈ tb_X9_findStandIns, decode cX9_findStandIns q.1 = .ok q.2 := by decide +kernel
def tb_X9_isRested : List (Nat × Instr × Nat) := [(0, .aload_n 0, 1), (1, .iload_n 1, 1), (2, .iconst 5, 1), (3, .invokevirtual 72, 3), (6, .bipush (-9), 2), (8, .if_icmp .eq 25, 3), (11, .aload_n 0, 1), (12, .getfield 7, 3), (15, .iconst 4, 1), (16, .iaload, 1), (17, .aload_n 0, 1), (18, .iload_n 1, 1), (19, .iconst 5, 1), (20, .invokevirtual 72, 3), (23, .isub, 1), (24, .aload_n 0, 1), (25, .getfield 7, 3), (28, .iconst 2, 1), (29, .iaload, 1), (30, .if_icmp .le 7, 3), (33, .iconst 1, 1), (34, .goto 4, 3), (37, .iconst 0, 1), (38, .ireturn, 1)]
theorem dc_X9_isRested : ∀ q ∈ tb_X9_isRested, decode cX9_isRested q.1 = .ok q.2 := by decide +kernel
def tb_X9_isBefore : List (Nat × Instr × Nat) := [(0, .aload_n 0, 1), (1, .iload_n 1, 1), (2, .iconst 4, 1), (3, .invokevirtual 72, 3), (6, .aload_n 0, 1), (7, .iload_n 2, 1), (8, .iconst 4, 1), (9, .invokevirtual 72, 3), (12, .if_icmp .eq 24, 3), (15, .aload_n 0, 1), (16, .iload_n 1, 1), (17, .iconst 4, 1), (18, .invokevirtual 72, 3), (21, .aload_n 0, 1), (22, .iload_n 2, 1), (23, .iconst 4, 1), (24, .invokevirtual 72, 3), (27, .if_icmp .ge 7, 3), (30, .iconst 1, 1), (31, .goto 4, 3), (34, .iconst 0, 1), (35, .ireturn, 1), (36, .aload_n 0, 1), (37, .iload_n 1, 1), (38, .iconst 5, 1), (39, .invokevirtual 72, 3), (42, .aload_n 0, 1), (43, .iload_n 2, 1), (44, .iconst 5, 1), (45, .invokevirtual 72, 3), (48, .if_icmp .ge 7, 3), (51, .iconst 1, 1), (52, .goto 4, 3), (55, .iconst 0, 1), (56, .ireturn, 1)]
theorem dc_X9_isBefore : ∀ q ∈ tb_X9_isBefore, decode cX9_isBefore q.1 = .ok q.2 := by decide +kernel
def tb_X9_findSolos : List (Nat × Instr × Nat) := [(0, .aload_n 0, 1), (1, .invokevirtual 127, 3), (4, .iconst 0, 1), (5, .istore_n 1, 1), (6, .iload_n 1, 1), (7, .iconst 4, 1), (8, .if_icmp .ge 116, 3), (11, .aload_n 0, 1), (12, .getfield 47, 3), (15, .iload_n 1, 1), (16, .bipush (-9), 2), (18, .iastore, 1), (19, .iconst 0, 1), (20, .istore_n 2, 1), (21, .iload_n 2, 1), (22, .aload_n 0, 1), (23, .getfield 7, 3), (26, .bipush 11, 2), (28, .iaload, 1), (29, .if_icmp .ge 89, 3), (32, .aload_n 0, 1), (33, .iload_n 2, 1), (34, .iconst 2, 1), (35, .invokevirtual 72, 3), (38, .iload_n 1, 1), (39, .if_icmp .ne 73, 3), (42, .aload_n 0, 1), (43, .iload_n 2, 1), (44, .iconst 3, 1), (45, .invokevirtual 72, 3), (48, .iconst 1, 1), (49, .if_icmp .ne 63, 3), (52, .aload_n 0, 1), (53, .getfield 41, 3), (56, .iload_n 2, 1), (57, .iaload, 1), (58, .bipush (-9), 2), (60, .if_icmp .ne 52, 3), (63, .aload_n 0, 1), (64, .iload_n 2, 1), (65, .invokevirtual 130, 3), (68, .ifCond .eq 44, 3), (71, .aload_n 0, 1), (72, .getfield 47, 3), (75, .iload_n 1, 1), (76, .aload_n 0, 1), (77, .getfield 47, 3), (80, .iload_n 1, 1), (81, .iaload, 1), (82, .bipush (-9), 2), (84, .if_icmp .eq 17, 3), (87, .aload_n 0, 1), (88, .iload_n 2, 1), (89, .aload_n 0, 1), (90, .getfield 47, 3), (93, .iload_n 1, 1), (94, .iaload, 1), (95, .invokevirtual 133, 3), (98, .ifCond .eq 7, 3), (101, .iload_n 2, 1), (102, .goto 9, 3), (105, .aload_n 0, 1), (106, .getfield 47, 3), (109, .iload_n 1, 1), (110, .iaload, 1), (111, .iastore, 1), (112, .iinc 2 1, 3), (115, .goto (-94), 3), (118, .iinc 1 1, 3), (121, .goto (-115), 3), (124, .return_, 1)]
theorem dc_X9_findSolos : ∀ q ∈ tb_X9_findSolos, decode cX9_findSolos q.1 = .ok q.2 := by decide +kernel
def tb_X9_hold : List (Nat × Instr × Nat) := [(0, .aload_n 0, 1), (1, .getfield 7, 3), (4, .bipush 11, 2), (6, .iaload, 1), (7, .ifCond .ne 6, 3), (10, .bipush (-2), 2), (12, .ireturn, 1), (13, .aload_n 0, 1), (14, .getfield 7, 3), (17, .iconst 4, 1), (18, .iaload, 1), (19, .bipush 40, 2), (21, .if_icmp .ne 6, 3), (24, .bipush (-3), 2), (26, .ireturn, 1), (27, .aload_n 0, 1), (28, .invokevirtual 107, 3), (31, .aload_n 0, 1), (32, .invokevirtual 136, 3), (35, .iconst 0, 1), (36, .istore_n 1, 1), (37, .iconst 0, 1), (38, .istore_n 2, 1), (39, .iload_n 2, 1), (40, .iconst 4, 1), (41, .if_icmp .ge 120, 3), (44, .aload_n 0, 1), (45, .getfield 7, 3), (48, .iconst 5, 1), (49, .iload_n 2, 1), (50, .iadd, 1), (51, .dup2, 1), (52, .iaload, 1), (53, .aload_n 0, 1), (54, .getfield 44, 3), (57, .iload_n 2, 1), (58, .iaload, 1), (59, .aload_n 0, 1), (60, .getfield 7, 3), (63, .iconst 1, 1), (64, .iaload, 1), (65, .if_icmp .ge 7, 3), (68, .iconst 1, 1), (69, .goto 4, 3), (72, .iconst 0, 1), (73, .iadd, 1), (74, .iastore, 1), (75, .aload_n 0, 1), (76, .getfield 7, 3), (79, .sipush 492, 3), (82, .iconst 4, 1), (83, .aload_n 0, 1), (84, .getfield 7, 3), (87, .iconst 4, 1), (88, .iaload, 1), (89, .imul, 1), (90, .iadd, 1), (91, .iload_n 2, 1), (92, .iadd, 1), (93, .aload_n 0, 1), (94, .getfield 47, 3), (97, .iload_n 2, 1), (98, .iaload, 1), (99, .iastore, 1), (100, .aload_n 0, 1), (101, .getfield 47, 3), (104, .iload_n 2, 1), (105, .iaload, 1), (106, .bipush (-9), 2), (108, .if_icmp .eq 47, 3), (111, .aload_n 0, 1), (112, .aload_n 0, 1), (113, .getfield 47, 3), (116, .iload_n 2, 1), (117, .iaload, 1), (118, .iconst 4, 1), (119, .aload_n 0, 1), (120, .aload_n 0, 1), (121, .getfield 47, 3), (124, .iload_n 2, 1), (125, .iaload, 1), (126, .iconst 4, 1), (127, .invokevirtual 72, 3), (130, .iconst 1, 1), (131, .iadd, 1), (132, .invokevirtual 113, 3), (135, .aload_n 0, 1), (136, .aload_n 0, 1), (137, .getfield 47, 3), (140, .iload_n 2, 1), (141, .iaload, 1), (142, .iconst 5, 1), (143, .aload_n 0, 1), (144, .getfield 7, 3), (147, .iconst 4, 1), (148, .iaload, 1), (149, .invokevirtual 113, 3), (152, .iinc 1 1, 3), (155, .iinc 2 1, 3), (158, .goto (-119), 3), (161, .iconst 0, 1), (162, .istore_n 2, 1), (163, .iload_n 2, 1), (164, .aload_n 0, 1), (165, .getfield 7, 3), (168, .bipush 11, 2), (170, .iaload, 1), (171, .if_icmp .ge 54, 3), (174, .aload_n 0, 1), (175, .getfield 41, 3), (178, .iload_n 2, 1), (179, .iaload, 1), (180, .bipush (-9), 2), (182, .if_icmp .eq 30, 3), (185, .aload_n 0, 1), (186, .iload_n 2, 1), (187, .bipush 6, 2), (189, .aload_n 0, 1), (190, .iload_n 2, 1), (191, .bipush 6, 2), (193, .invokevirtual 72, 3), (196, .iconst 1, 1), (197, .iadd, 1), (198, .invokevirtual 113, 3), (201, .aload_n 0, 1), (202, .getfield 7, 3), (205, .bipush 10, 2), (207, .dup2, 1), (208, .iaload, 1), (209, .iconst 1, 1), (210, .iadd, 1), (211, .iastore, 1), (212, .aload_n 0, 1), (213, .iload_n 2, 1), (214, .iconst 3, 1), (215, .iconst 1, 1), (216, .invokevirtual 113, 3), (219, .iinc 2 1, 3), (222, .goto (-59), 3), (225, .aload_n 0, 1), (226, .getfield 7, 3), (229, .bipush 9, 2), (231, .dup2, 1), (232, .iaload, 1), (233, .iload_n 1, 1), (234, .iadd, 1), (235, .iastore, 1), (236, .aload_n 0, 1), (237, .getfield 7, 3), (240, .iconst 4, 1), (241, .dup2, 1), (242, .iaload, 1), (243, .iconst 1, 1), (244, .iadd, 1), (245, .iastore, 1), (246, .iload_n 1, 1), (247, .ireturn, 1)]
theorem dc_X9_hold : ∀ q ∈ tb_X9_hold, decode cX9_hold q.1 = .ok q.2 := by decide +kernel
def tb_X9_fails : List (Nat × Instr × Nat) := [(0, .aload_n 0, 1), (1, .iload_n 1, 1), (2, .putfield 139, 3), (5, .aload_n 0, 1), (6, .iload_n 2, 1), (7, .putfield 142, 3), (10, .return_, 1)]
theorem dc_X9_fails : ∀ q ∈ tb_X9_fails, decode cX9_fails q.1 = .ok q.2 := by decide +kernel
def tb_X9_endsWell : List (Nat × Instr × Nat) := [(0, .aload_n 0, 1), (1, .getfield 145, 3), (4, .iconst 1, 1), (5, .if_icmp .ne 53, 3), (8, .aload_n 0, 1), (9, .getfield 148, 3), (12, .aload_n 0, 1), (13, .getfield 151, 3), (16, .if_icmp .gt 42, 3), (19, .aload_n 0, 1), (20, .getfield 50, 3), (23, .aload_n 0, 1), (24, .getfield 154, 3), (27, .aload_n 0, 1), (28, .getfield 148, 3), (31, .iastore, 1), (32, .aload_n 0, 1), (33, .getfield 53, 3), (36, .aload_n 0, 1), (37, .getfield 154, 3), (40, .aload_n 0, 1), (41, .getfield 148, 3), (44, .iastore, 1), (45, .aload_n 0, 1), (46, .getfield 56, 3), (49, .aload_n 0, 1), (50, .getfield 154, 3), (53, .iconst 1, 1), (54, .iastore, 1), (55, .goto 81, 3), (58, .aload_n 0, 1), (59, .getfield 145, 3), (62, .iconst 3, 1), (63, .if_icmp .ne 46, 3), (66, .aload_n 0, 1), (67, .getfield 148, 3), (70, .aload_n 0, 1), (71, .getfield 151, 3), (74, .if_icmp .gt 35, 3), (77, .aload_n 0, 1), (78, .getfield 148, 3), (81, .aload_n 0, 1), (82, .getfield 50, 3), (85, .aload_n 0, 1), (86, .getfield 154, 3), (89, .iaload, 1), (90, .if_icmp .lt 19, 3), (93, .aload_n 0, 1), (94, .getfield 53, 3), (97, .aload_n 0, 1), (98, .getfield 154, 3), (101, .aload_n 0, 1), (102, .getfield 148, 3), (105, .iastore, 1), (106, .goto 30, 3), (109, .aload_n 0, 1), (110, .getfield 145, 3), (113, .iconst 1, 1), (114, .if_icmp .eq 11, 3), (117, .aload_n 0, 1), (118, .getfield 145, 3), (121, .iconst 3, 1), (122, .if_icmp .ne 14, 3), (125, .aload_n 0, 1), (126, .iconst 2, 1), (127, .aload_n 0, 1), (128, .getfield 157, 3), (131, .invokevirtual 160, 3), (134, .iconst 0, 1), (135, .ireturn, 1), (136, .iconst 1, 1), (137, .ireturn, 1)]
theorem dc_X9_endsWell : ∀ q ∈ tb_X9_endsWell, decode cX9_endsWell q.1 = .ok q.2 := by decide +kernel
def tb_X9_readDigit : List (Nat × Instr × Nat) := [(0, .aload_n 0, 1), (1, .getfield 145, 3), (4, .ifCond .eq 11, 3), (7, .aload_n 0, 1), (8, .getfield 145, 3), (11, .iconst 2, 1), (12, .if_icmp .ne 39, 3), (15, .aload_n 0, 1), (16, .dup, 1), (17, .getfield 145, 3), (20, .iconst 1, 1), (21, .iadd, 1), (22, .putfield 145, 3), (25, .aload_n 0, 1), (26, .aload_n 0, 1), (27, .getfield 19, 3), (30, .iload_n 1, 1), (31, .iaload, 1), (32, .bipush 48, 2), (34, .isub, 1), (35, .putfield 148, 3), (38, .aload_n 0, 1), (39, .iconst 1, 1), (40, .putfield 163, 3), (43, .aload_n 0, 1), (44, .iload_n 1, 1), (45, .putfield 157, 3), (48, .goto 67, 3), (51, .aload_n 0, 1), (52, .getfield 145, 3), (55, .iconst 1, 1), (56, .if_icmp .eq 11, 3), (59, .aload_n 0, 1), (60, .getfield 145, 3), (63, .iconst 3, 1), (64, .if_icmp .ne 45, 3), (67, .aload_n 0, 1), (68, .getfield 163, 3), (71, .iconst 2, 1), (72, .if_icmp .ge 37, 3), (75, .aload_n 0, 1), (76, .bipush 10, 2), (78, .aload_n 0, 1), (79, .getfield 148, 3), (82, .imul, 1), (83, .aload_n 0, 1), (84, .getfield 19, 3), (87, .iload_n 1, 1), (88, .iaload, 1), (89, .iadd, 1), (90, .bipush 48, 2), (92, .isub, 1), (93, .putfield 148, 3), (96, .aload_n 0, 1), (97, .dup, 1), (98, .getfield 163, 3), (101, .iconst 1, 1), (102, .iadd, 1), (103, .putfield 163, 3), (106, .goto 9, 3), (109, .aload_n 0, 1), (110, .iconst 1, 1), (111, .iload_n 1, 1), (112, .invokevirtual 160, 3), (115, .return_, 1)]
theorem dc_X9_readDigit : ∀ q ∈ tb_X9_readDigit, decode cX9_readDigit q.1 = .ok q.2 := by decide +kernel
def tb_X9_readOther : List (Nat × Instr × Nat) := [(0, .aload_n 0, 1), (1, .getfield 19, 3), (4, .iload_n 1, 1), (5, .iaload, 1), (6, .istore_n 3, 1), (7, .aload_n 0, 1), (8, .invokevirtual 166, 3), (11, .ifCond .ne 4, 3), (14, .return_, 1), (15, .iload_n 2, 1), (16, .ifCond .eq 25, 3), (19, .aload_n 0, 1), (20, .getfield 145, 3), (23, .iconst 1, 1), (24, .if_icmp .ne 17, 3), (27, .iload_n 3, 1), (28, .bipush 45, 2), (30, .if_icmp .ne 11, 3), (33, .aload_n 0, 1), (34, .iconst 2, 1), (35, .putfield 145, 3), (38, .goto 96, 3), (41, .iload_n 2, 1), (42, .ifCond .eq 43, 3), (45, .aload_n 0, 1), (46, .getfield 145, 3), (49, .iconst 1, 1), (50, .if_icmp .eq 11, 3), (53, .aload_n 0, 1), (54, .getfield 145, 3), (57, .iconst 3, 1), (58, .if_icmp .ne 27, 3), (61, .iload_n 3, 1), (62, .bipush 33, 2), (64, .if_icmp .ne 21, 3), (67, .aload_n 0, 1), (68, .getfield 56, 3), (71, .aload_n 0, 1), (72, .getfield 154, 3), (75, .iconst 0, 1), (76, .iastore, 1), (77, .aload_n 0, 1), (78, .iconst 4, 1), (79, .putfield 145, 3), (82, .goto 52, 3), (85, .iload_n 3, 1), (86, .bipush 32, 2), (88, .if_icmp .ne 40, 3), (91, .aload_n 0, 1), (92, .getfield 145, 3), (95, .iconst 2, 1), (96, .if_icmp .eq 32, 3), (99, .aload_n 0, 1), (100, .dup, 1), (101, .getfield 154, 3), (104, .aload_n 0, 1), (105, .getfield 145, 3), (108, .ifCond .ne 7, 3), (111, .iconst 0, 1), (112, .goto 4, 3), (115, .iconst 1, 1), (116, .iadd, 1), (117, .putfield 154, 3), (120, .aload_n 0, 1), (121, .iconst 0, 1), (122, .putfield 145, 3), (125, .goto 9, 3), (128, .aload_n 0, 1), (129, .iconst 1, 1), (130, .iload_n 1, 1), (131, .invokevirtual 160, 3), (134, .return_, 1)]
theorem dc_X9_readOther : ∀ q ∈ tb_X9_readOther, decode cX9_readOther q.1 = .ok q.2 := by decide +kernel
def tb_X9_hasFault : List (Nat × Instr × Nat) := [(0, .aload_n 0, 1), (1, .bipush (-9), 2), (3, .bipush (-9), 2), (5, .invokevirtual 160, 3), (8, .aload_n 0, 1), (9, .iconst 0, 1), (10, .putfield 154, 3), (13, .aload_n 0, 1), (14, .iconst 0, 1), (15, .putfield 145, 3), (18, .aload_n 0, 1), (19, .iload_n 1, 1), (20, .ifCond .eq 8, 3), (23, .bipush 40, 2), (25, .goto 12, 3), (28, .aload_n 0, 1), (29, .getfield 7, 3), (32, .bipush 11, 2), (34, .iaload, 1), (35, .iconst 1, 1), (36, .isub, 1), (37, .putfield 151, 3), (40, .iconst 0, 1), (41, .istore_n 2, 1), (42, .iload_n 2, 1), (43, .aload_n 0, 1), (44, .getfield 170, 3), (47, .if_icmp .ge 48, 3), (50, .aload_n 0, 1), (51, .getfield 139, 3), (54, .bipush (-9), 2), (56, .if_icmp .ne 39, 3), (59, .aload_n 0, 1), (60, .getfield 19, 3), (63, .iload_n 2, 1), (64, .iaload, 1), (65, .bipush 48, 2), (67, .bipush 57, 2), (69, .invokestatic 62, 3), (72, .ifCond .eq 11, 3), (75, .aload_n 0, 1), (76, .iload_n 2, 1), (77, .invokevirtual 173, 3), (80, .goto 9, 3), (83, .aload_n 0, 1), (84, .iload_n 2, 1), (85, .iload_n 1, 1), (86, .invokevirtual 176, 3), (89, .iinc 2 1, 3), (92, .goto (-50), 3), (95, .aload_n 0, 1), (96, .getfield 139, 3), (99, .bipush (-9), 2), (101, .if_icmp .ne 51, 3), (104, .aload_n 0, 1), (105, .invokevirtual 166, 3), (108, .ifCond .eq 44, 3), (111, .aload_n 0, 1), (112, .getfield 145, 3), (115, .iconst 2, 1), (116, .if_icmp .ne 15, 3), (119, .aload_n 0, 1), (120, .iconst 3, 1), (121, .aload_n 0, 1), (122, .getfield 170, 3), (125, .invokevirtual 160, 3), (128, .goto 24, 3), (131, .aload_n 0, 1), (132, .dup, 1), (133, .getfield 154, 3), (136, .aload_n 0, 1), (137, .getfield 145, 3), (140, .ifCond .ne 7, 3), (143, .iconst 0, 1), (144, .goto 4, 3), (147, .iconst 1, 1), (148, .iadd, 1), (149, .putfield 154, 3), (152, .aload_n 0, 1), (153, .getfield 139, 3), (156, .bipush (-9), 2), (158, .if_icmp .eq 19, 3), (161, .aload_n 0, 1), (162, .aload_n 0, 1), (163, .getfield 139, 3), (166, .putfield 22, 3), (169, .aload_n 0, 1), (170, .aload_n 0, 1), (171, .getfield 142, 3), (174, .putfield 26, 3), (177, .aload_n 0, 1), (178, .getfield 139, 3), (181, .bipush (-9), 2), (183, .if_icmp .eq 7, 3), (186, .iconst 1, 1), (187, .goto 4, 3), (190, .iconst 0, 1), (191, .ireturn, 1)]
theorem dc_X9_hasFault : ∀ q ∈ tb_X9_hasFault, decode cX9_hasFault q.1 = .ok q.2 := by decide +kernel
def tb_X9_rangeSize : List (Nat × Instr × Nat) := [(0, .aload_n 0, 1), (1, .iload_n 1, 1), (2, .invokevirtual 76, 3), (5, .aload_n 0, 1), (6, .getfield 66, 3), (9, .bipush (-9), 2), (11, .if_icmp .ne 7, 3), (14, .iconst 0, 1), (15, .goto 14, 3), (18, .aload_n 0, 1), (19, .getfield 69, 3), (22, .aload_n 0, 1), (23, .getfield 66, 3), (26, .isub, 1), (27, .iconst 1, 1), (28, .iadd, 1), (29, .ireturn, 1)]
theorem dc_X9_rangeSize : ∀ q ∈ tb_X9_rangeSize, decode cX9_rangeSize q.1 = .ok q.2 := by decide +kernel
def tb_X9_test : List (Nat × Instr × Nat) := [(0, .aload_n 0, 1), (1, .iload_n 1, 1), (2, .invokevirtual 117, 3), (5, .ifCond .ne 5, 3), (8, .iconst (-1), 1), (9, .ireturn, 1), (10, .aload_n 0, 1), (11, .iconst 1, 1), (12, .invokevirtual 180, 3), (15, .ifCond .eq 6, 3), (18, .bipush (-2), 2), (20, .ireturn, 1), (21, .aload_n 0, 1), (22, .invokevirtual 107, 3), (25, .iconst 0, 1), (26, .istore_n 2, 1), (27, .iload_n 2, 1), (28, .aload_n 0, 1), (29, .getfield 154, 3), (32, .if_icmp .ge 47, 3), (35, .aload_n 0, 1), (36, .getfield 50, 3), (39, .iload_n 2, 1), (40, .iaload, 1), (41, .istore_n 3, 1), (42, .iload_n 3, 1), (43, .aload_n 0, 1), (44, .getfield 53, 3), (47, .iload_n 2, 1), (48, .iaload, 1), (49, .if_icmp .gt 24, 3), (52, .aload_n 0, 1), (53, .iload_n 1, 1), (54, .bipush 7, 2), (56, .iload_n 3, 1), (57, .iadd, 1), (58, .aload_n 0, 1), (59, .getfield 56, 3), (62, .iload_n 2, 1), (63, .iaload, 1), (64, .invokevirtual 113, 3), (67, .iinc 3 1, 3), (70, .goto (-28), 3), (73, .iinc 2 1, 3), (76, .goto (-49), 3), (79, .aload_n 0, 1), (80, .iload_n 1, 1), (81, .invokevirtual 184, 3), (84, .ireturn, 1)]
theorem dc_X9_test : ∀ q ∈ tb_X9_test, decode cX9_test q.1 = .ok q.2 := by decide +kernel
def tb_X9_absent : List (Nat × Instr × Nat) := [(0, .iconst 0, 1), (1, .istore_n 1, 1), (2, .iconst 0, 1), (3, .istore_n 2, 1), (4, .iload_n 2, 1), (5, .aload_n 0, 1), (6, .getfield 7, 3), (9, .bipush 11, 2), (11, .iaload, 1), (12, .if_icmp .ge 27, 3), (15, .iload_n 1, 1), (16, .aload_n 0, 1), (17, .iload_n 2, 1), (18, .iconst 3, 1), (19, .invokevirtual 72, 3), (22, .iconst 1, 1), (23, .if_icmp .ne 7, 3), (26, .iconst 0, 1), (27, .goto 4, 3), (30, .iconst 1, 1), (31, .iadd, 1), (32, .istore_n 1, 1), (33, .iinc 2 1, 3), (36, .goto (-32), 3), (39, .iload_n 1, 1), (40, .ireturn, 1)]
theorem dc_X9_absent : ∀ q ∈ tb_X9_absent, decode cX9_absent q.1 = .ok q.2 := by decide +kernel
def tb_X9_attendance : List (Nat × Instr × Nat) := [(0, .aload_n 0, 1), (1, .iconst 0, 1), (2, .invokevirtual 180, 3), (5, .ifCond .eq 6, 3), (8, .bipush (-2), 2), (10, .ireturn, 1), (11, .aload_n 0, 1), (12, .invokevirtual 107, 3), (15, .iconst 0, 1), (16, .istore_n 1, 1), (17, .iload_n 1, 1), (18, .aload_n 0, 1), (19, .getfield 7, 3), (22, .bipush 11, 2), (24, .iaload, 1), (25, .if_icmp .ge 16, 3), (28, .aload_n 0, 1), (29, .iload_n 1, 1), (30, .iconst 3, 1), (31, .iconst 1, 1), (32, .invokevirtual 113, 3), (35, .iinc 1 1, 3), (38, .goto (-21), 3), (41, .iconst 0, 1), (42, .istore_n 1, 1), (43, .iload_n 1, 1), (44, .aload_n 0, 1), (45, .getfield 154, 3), (48, .if_icmp .ge 21, 3), (51, .aload_n 0, 1), (52, .aload_n 0, 1), (53, .getfield 50, 3), (56, .iload_n 1, 1), (57, .iaload, 1), (58, .iconst 3, 1), (59, .iconst 0, 1), (60, .invokevirtual 113, 3), (63, .iinc 1 1, 3), (66, .goto (-23), 3), (69, .aload_n 0, 1), (70, .invokevirtual 187, 3), (73, .ireturn, 1)]
theorem dc_X9_attendance : ∀ q ∈ tb_X9_attendance, decode cX9_attendance q.1 = .ok q.2 := by decide +kernel
def tb_X9_write : List (Nat × Instr × Nat) := [(0, .iload_n 1, 1), (1, .bipush 32, 2), (3, .bipush 126, 2), (5, .invokestatic 62, 3), (8, .ifCond .ne 5, 3), (11, .iconst (-1), 1), (12, .ireturn, 1), (13, .aload_n 0, 1), (14, .getfield 170, 3), (17, .bipush 60, 2), (19, .if_icmp .ne 6, 3), (22, .bipush (-3), 2), (24, .ireturn, 1), (25, .aload_n 0, 1), (26, .getfield 19, 3), (29, .aload_n 0, 1), (30, .getfield 170, 3), (33, .iload_n 1, 1), (34, .iastore, 1), (35, .aload_n 0, 1), (36, .dup, 1), (37, .getfield 170, 3), (40, .iconst 1, 1), (41, .iadd, 1), (42, .putfield 170, 3), (45, .aload_n 0, 1), (46, .getfield 170, 3), (49, .ireturn, 1)]
theorem dc_X9_write : ∀ q ∈ tb_X9_write, decode cX9_write q.1 = .ok q.2 := by decide +kernel
def tb_X9_wipe : List (Nat × Instr × Nat) := [(0, .aload_n 0, 1), (1, .getfield 170, 3), (4, .istore_n 1, 1), (5, .aload_n 0, 1), (6, .iconst 0, 1), (7, .putfield 170, 3), (10, .iload_n 1, 1), (11, .ireturn, 1)]
theorem dc_X9_wipe : ∀ q ∈ tb_X9_wipe, decode cX9_wipe q.1 = .ok q.2 := by decide +kernel
def tb_X9_fault : List (Nat × Instr × Nat) := [(0, .iload_n 1, 1), (1, .ifCond .ne 10, 3), (4, .aload_n 0, 1), (5, .getfield 22, 3), (8, .goto 16, 3), (11, .iload_n 1, 1), (12, .iconst 1, 1), (13, .if_icmp .ne 10, 3), (16, .aload_n 0, 1), (17, .getfield 26, 3), (20, .goto 4, 3), (23, .iconst (-1), 1), (24, .ireturn, 1)]
theorem dc_X9_fault : ∀ q ∈ tb_X9_fault, decode cX9_fault q.1 = .ok q.2 := by decide +kernel
def tb_X9_add : List (Nat × Instr × Nat) := [(0, .iload_n 1, 1), (1, .iconst 1, 1), (2, .bipush 9, 2), (4, .invokestatic 62, 3), (7, .ifCond .eq 15, 3), (10, .iload_n 2, 1), (11, .bipush 100, 2), (13, .sipush 220, 3), (16, .invokestatic 62, 3), (19, .ifCond .ne 5, 3), (22, .iconst (-1), 1), (23, .ireturn, 1), (24, .aload_n 0, 1), (25, .getfield 7, 3), (28, .bipush 11, 2), (30, .iaload, 1), (31, .bipush 10, 2), (33, .if_icmp .ne 6, 3), (36, .bipush (-3), 2), (38, .ireturn, 1), (39, .aload_n 0, 1), (40, .invokevirtual 107, 3), (43, .aload_n 0, 1), (44, .getfield 7, 3), (47, .bipush 11, 2), (49, .iaload, 1), (50, .istore_n 3, 1), (51, .aload_n 0, 1), (52, .iload_n 3, 1), (53, .iconst 0, 1), (54, .iload_n 1, 1), (55, .invokevirtual 113, 3), (58, .aload_n 0, 1), (59, .iload_n 3, 1), (60, .iconst 1, 1), (61, .iload_n 2, 1), (62, .invokevirtual 113, 3), (65, .aload_n 0, 1), (66, .iload_n 3, 1), (67, .iconst 2, 1), (68, .bipush (-9), 2), (70, .invokevirtual 113, 3), (73, .aload_n 0, 1), (74, .iload_n 3, 1), (75, .iconst 3, 1), (76, .iconst 1, 1), (77, .invokevirtual 113, 3), (80, .aload_n 0, 1), (81, .iload_n 3, 1), (82, .iconst 4, 1), (83, .iconst 0, 1), (84, .invokevirtual 113, 3), (87, .aload_n 0, 1), (88, .iload_n 3, 1), (89, .iconst 5, 1), (90, .bipush (-9), 2), (92, .invokevirtual 113, 3), (95, .aload_n 0, 1), (96, .iload_n 3, 1), (97, .bipush 6, 2), (99, .iconst 0, 1), (100, .invokevirtual 113, 3), (103, .iconst 0, 1), (104, .istore 4, 2), (106, .iload 4, 2), (108, .bipush 41, 2), (110, .if_icmp .ge 21, 3), (113, .aload_n 0, 1), (114, .iload_n 3, 1), (115, .bipush 7, 2), (117, .iload 4, 2), (119, .iadd, 1), (120, .bipush (-9), 2), (122, .invokevirtual 113, 3), (125, .iinc 4 1, 3), (128, .goto (-22), 3), (131, .aload_n 0, 1), (132, .getfield 7, 3), (135, .bipush 11, 2), (137, .dup2, 1), (138, .iaload, 1), (139, .iconst 1, 1), (140, .iadd, 1), (141, .iastore, 1), (142, .iload_n 3, 1), (143, .ireturn, 1)]
theorem dc_X9_add : ∀ q ∈ tb_X9_add, decode cX9_add q.1 = .ok q.2 := by decide +kernel
def tb_X9_remove : List (Nat × Instr × Nat) := [(0, .aload_n 0, 1), (1, .iload_n 1, 1), (2, .invokevirtual 117, 3), (5, .ifCond .ne 5, 3), (8, .iconst (-1), 1), (9, .ireturn, 1), (10, .aload_n 0, 1), (11, .invokevirtual 107, 3), (14, .bipush 12, 2), (16, .bipush 48, 2), (18, .iload_n 1, 1), (19, .imul, 1), (20, .iadd, 1), (21, .istore_n 2, 1), (22, .iload_n 2, 1), (23, .bipush 12, 2), (25, .bipush 48, 2), (27, .aload_n 0, 1), (28, .getfield 7, 3), (31, .bipush 11, 2), (33, .iaload, 1), (34, .iconst 1, 1), (35, .isub, 1), (36, .imul, 1), (37, .iadd, 1), (38, .if_icmp .ge 24, 3), (41, .aload_n 0, 1), (42, .getfield 7, 3), (45, .iload_n 2, 1), (46, .aload_n 0, 1), (47, .getfield 7, 3), (50, .iload_n 2, 1), (51, .bipush 48, 2), (53, .iadd, 1), (54, .iaload, 1), (55, .iastore, 1), (56, .iinc 2 1, 3), (59, .goto (-37), 3), (62, .aload_n 0, 1), (63, .getfield 7, 3), (66, .bipush 11, 2), (68, .dup2, 1), (69, .iaload, 1), (70, .iconst 1, 1), (71, .isub, 1), (72, .iastore, 1), (73, .aload_n 0, 1), (74, .getfield 7, 3), (77, .bipush 11, 2), (79, .iaload, 1), (80, .ireturn, 1)]
theorem dc_X9_remove : ∀ q ∈ tb_X9_remove, decode cX9_remove q.1 = .ok q.2 := by decide +kernel
def tb_X9_isOf : List (Nat × Instr × Nat) := [(0, .iload_n 0, 1), (1, .tableswitch 51 0 2 #[27, 35, 43], 27), (28, .iload_n 1, 1), (29, .iconst 1, 1), (30, .bipush 15, 2), (32, .invokestatic 62, 3), (35, .ireturn, 1), (36, .iload_n 1, 1), (37, .iconst 1, 1), (38, .bipush 50, 2), (40, .invokestatic 62, 3), (43, .ireturn, 1), (44, .iload_n 1, 1), (45, .iconst 0, 1), (46, .bipush 10, 2), (48, .invokestatic 62, 3), (51, .ireturn, 1), (52, .iload_n 0, 1), (53, .iconst 3, 1), (54, .if_icmp .ne 17, 3), (57, .iload_n 1, 1), (58, .iconst 1, 1), (59, .bipush 6, 2), (61, .invokestatic 62, 3), (64, .ifCond .eq 7, 3), (67, .iconst 1, 1), (68, .goto 4, 3), (71, .iconst 0, 1), (72, .ireturn, 1)]
theorem dc_X9_isOf : ∀ q ∈ tb_X9_isOf, decode cX9_isOf q.1 = .ok q.2 := by decide +kernel
def tb_X9_set : List (Nat × Instr × Nat) := [(0, .iload_n 1, 1), (1, .iload_n 2, 1), (2, .invokestatic 191, 3), (5, .ifCond .ne 5, 3), (8, .iconst (-1), 1), (9, .ireturn, 1), (10, .aload_n 0, 1), (11, .invokevirtual 107, 3), (14, .aload_n 0, 1), (15, .getfield 7, 3), (18, .iload_n 1, 1), (19, .iaload, 1), (20, .istore_n 3, 1), (21, .aload_n 0, 1), (22, .getfield 7, 3), (25, .iload_n 1, 1), (26, .iload_n 2, 1), (27, .iastore, 1), (28, .iload_n 3, 1), (29, .ireturn, 1)]
theorem dc_X9_set : ∀ q ∈ tb_X9_set, decode cX9_set q.1 = .ok q.2 := by decide +kernel
def tb_X9_place : List (Nat × Instr × Nat) := [(0, .aload_n 0, 1), (1, .iload_n 1, 1), (2, .invokevirtual 117, 3), (5, .ifCond .eq 16, 3), (8, .iload_n 2, 1), (9, .invokestatic 194, 3), (12, .ifCond .ne 11, 3), (15, .iload_n 2, 1), (16, .bipush (-9), 2), (18, .if_icmp .eq 5, 3), (21, .iconst (-1), 1), (22, .ireturn, 1), (23, .iload_n 2, 1), (24, .bipush (-9), 2), (26, .if_icmp .eq 15, 3), (29, .aload_n 0, 1), (30, .iload_n 1, 1), (31, .iload_n 2, 1), (32, .invokevirtual 83, 3), (35, .ifCond .ne 6, 3), (38, .bipush (-2), 2), (40, .ireturn, 1), (41, .aload_n 0, 1), (42, .invokevirtual 107, 3), (45, .aload_n 0, 1), (46, .iload_n 1, 1), (47, .iconst 2, 1), (48, .invokevirtual 72, 3), (51, .istore_n 3, 1), (52, .aload_n 0, 1), (53, .iload_n 1, 1), (54, .iconst 2, 1), (55, .iload_n 2, 1), (56, .invokevirtual 113, 3), (59, .iload_n 3, 1), (60, .ireturn, 1)]
theorem dc_X9_place : ∀ q ∈ tb_X9_place, decode cX9_place q.1 = .ok q.2 := by decide +kernel
def tb_X9_undo : List (Nat × Instr × Nat) := [(0, .aload_n 0, 1), (1, .getfield 59, 3), (4, .ifCond .ne 6, 3), (7, .bipush (-2), 2), (9, .ireturn, 1), (10, .aload_n 0, 1), (11, .dup, 1), (12, .getfield 59, 3), (15, .iconst 1, 1), (16, .isub, 1), (17, .putfield 59, 3), (20, .iconst 0, 1), (21, .istore_n 1, 1), (22, .iload_n 1, 1), (23, .sipush 652, 3), (26, .if_icmp .ge 30, 3), (29, .aload_n 0, 1), (30, .getfield 7, 3), (33, .iload_n 1, 1), (34, .aload_n 0, 1), (35, .getfield 13, 3), (38, .sipush 652, 3), (41, .aload_n 0, 1), (42, .getfield 59, 3), (45, .imul, 1), (46, .iload_n 1, 1), (47, .iadd, 1), (48, .iaload, 1), (49, .iastore, 1), (50, .iinc 1 1, 3), (53, .goto (-31), 3), (56, .aload_n 0, 1), (57, .getfield 59, 3), (60, .ireturn, 1)]
theorem dc_X9_undo : ∀ q ∈ tb_X9_undo, decode cX9_undo q.1 = .ok q.2 := by decide +kernel
def tb_X9_placedIn : List (Nat × Instr × Nat) := [(0, .iconst 0, 1), (1, .istore_n 2, 1), (2, .iconst 0, 1), (3, .istore_n 3, 1), (4, .iload_n 3, 1), (5, .aload_n 0, 1), (6, .getfield 7, 3), (9, .bipush 11, 2), (11, .iaload, 1), (12, .if_icmp .ge 27, 3), (15, .iload_n 2, 1), (16, .aload_n 0, 1), (17, .iload_n 3, 1), (18, .iconst 2, 1), (19, .invokevirtual 72, 3), (22, .iload_n 1, 1), (23, .if_icmp .ne 7, 3), (26, .iconst 1, 1), (27, .goto 4, 3), (30, .iconst 0, 1), (31, .iadd, 1), (32, .istore_n 2, 1), (33, .iinc 3 1, 3), (36, .goto (-32), 3), (39, .iload_n 2, 1), (40, .ireturn, 1)]
theorem dc_X9_placedIn : ∀ q ∈ tb_X9_placedIn, decode cX9_placedIn q.1 = .ok q.2 := by decide +kernel
def tb_X9_covered : List (Nat × Instr × Nat) := [(0, .iconst 0, 1), (1, .istore_n 1, 1), (2, .iconst 0, 1), (3, .istore_n 2, 1), (4, .iload_n 2, 1), (5, .iconst 4, 1), (6, .if_icmp .ge 33, 3), (9, .iload_n 1, 1), (10, .aload_n 0, 1), (11, .iload_n 2, 1), (12, .invokevirtual 121, 3), (15, .aload_n 0, 1), (16, .getfield 7, 3), (19, .iconst 1, 1), (20, .iaload, 1), (21, .if_icmp .lt 9, 3), (24, .iconst 1, 1), (25, .iload_n 2, 1), (26, .ishl, 1), (27, .goto 4, 3), (30, .iconst 0, 1), (31, .ior, 1), (32, .istore_n 1, 1), (33, .iinc 2 1, 3), (36, .goto (-32), 3), (39, .iload_n 1, 1), (40, .ireturn, 1)]
theorem dc_X9_covered : ∀ q ∈ tb_X9_covered, decode cX9_covered q.1 = .ok q.2 := by decide +kernel
def tb_X9_told : List (Nat × Instr × Nat) := [(0, .iload_n 1, 1), (1, .tableswitch 117 0 8 #[51, 59, 74, 81, 86, 91, 99, 107, 112], 51), (52, .aload_n 0, 1), (53, .getfield 7, 3), (56, .bipush 11, 2), (58, .iaload, 1), (59, .ireturn, 1), (60, .aload_n 0, 1), (61, .getfield 7, 3), (64, .bipush 11, 2), (66, .iaload, 1), (67, .aload_n 0, 1), (68, .bipush (-9), 2), (70, .invokevirtual 197, 3), (73, .isub, 1), (74, .ireturn, 1), (75, .aload_n 0, 1), (76, .getfield 7, 3), (79, .iconst 4, 1), (80, .iaload, 1), (81, .ireturn, 1), (82, .aload_n 0, 1), (83, .invokevirtual 187, 3), (86, .ireturn, 1), (87, .aload_n 0, 1), (88, .invokevirtual 200, 3), (91, .ireturn, 1), (92, .aload_n 0, 1), (93, .getfield 7, 3), (96, .bipush 9, 2), (98, .iaload, 1), (99, .ireturn, 1), (100, .aload_n 0, 1), (101, .getfield 7, 3), (104, .bipush 10, 2), (106, .iaload, 1), (107, .ireturn, 1), (108, .aload_n 0, 1), (109, .getfield 170, 3), (112, .ireturn, 1), (113, .aload_n 0, 1), (114, .getfield 59, 3), (117, .ireturn, 1), (118, .iconst (-1), 1), (119, .ireturn, 1)]
theorem dc_X9_told : ∀ q ∈ tb_X9_told, decode cX9_told q.1 = .ok q.2 := by decide +kernel
def tb_X9_setting : List (Nat × Instr × Nat) := [(0, .iload_n 1, 1), (1, .iconst 0, 1), (2, .iconst 3, 1), (3, .invokestatic 62, 3), (6, .ifCond .eq 12, 3), (9, .aload_n 0, 1), (10, .getfield 7, 3), (13, .iload_n 1, 1), (14, .iaload, 1), (15, .goto 4, 3), (18, .iconst (-1), 1), (19, .ireturn, 1)]
theorem dc_X9_setting : ∀ q ∈ tb_X9_setting, decode cX9_setting q.1 = .ok q.2 := by decide +kernel
def tb_X9_singer : List (Nat × Instr × Nat) := [(0, .aload_n 0, 1), (1, .iload_n 1, 1), (2, .invokevirtual 117, 3), (5, .ifCond .eq 13, 3), (8, .iload_n 2, 1), (9, .iconst 0, 1), (10, .bipush 9, 2), (12, .invokestatic 62, 3), (15, .ifCond .ne 5, 3), (18, .iconst (-1), 1), (19, .ireturn, 1), (20, .aload_n 0, 1), (21, .iload_n 1, 1), (22, .invokevirtual 76, 3), (25, .iload_n 2, 1), (26, .tableswitch 108 0 8 #[50, 57, 64, 69, 74, 80, 87, 94, 101], 50), (76, .aload_n 0, 1), (77, .iload_n 1, 1), (78, .iconst 0, 1), (79, .invokevirtual 72, 3), (82, .ireturn, 1), (83, .aload_n 0, 1), (84, .iload_n 1, 1), (85, .iconst 1, 1), (86, .invokevirtual 72, 3), (89, .ireturn, 1), (90, .aload_n 0, 1), (91, .getfield 66, 3), (94, .ireturn, 1), (95, .aload_n 0, 1), (96, .getfield 69, 3), (99, .ireturn, 1), (100, .aload_n 0, 1), (101, .iload_n 1, 1), (102, .invokevirtual 93, 3), (105, .ireturn, 1), (106, .aload_n 0, 1), (107, .iload_n 1, 1), (108, .iconst 2, 1), (109, .invokevirtual 72, 3), (112, .ireturn, 1), (113, .aload_n 0, 1), (114, .iload_n 1, 1), (115, .iconst 3, 1), (116, .invokevirtual 72, 3), (119, .ireturn, 1), (120, .aload_n 0, 1), (121, .iload_n 1, 1), (122, .iconst 4, 1), (123, .invokevirtual 72, 3), (126, .ireturn, 1), (127, .aload_n 0, 1), (128, .iload_n 1, 1), (129, .iconst 5, 1), (130, .invokevirtual 72, 3), (133, .ireturn, 1), (134, .aload_n 0, 1), (135, .iload_n 1, 1), (136, .bipush 6, 2), (138, .invokevirtual 72, 3), (141, .ireturn, 1)]
theorem dc_X9_singer : ∀ q ∈ tb_X9_singer, decode cX9_singer q.1 = .ok q.2 := by decide +kernel
def tb_X9_note : List (Nat × Instr × Nat) := [(0, .aload_n 0, 1), (1, .iload_n 1, 1), (2, .invokevirtual 117, 3), (5, .ifCond .eq 25, 3), (8, .iload_n 2, 1), (9, .iconst 0, 1), (10, .bipush 40, 2), (12, .invokestatic 62, 3), (15, .ifCond .eq 15, 3), (18, .aload_n 0, 1), (19, .iload_n 1, 1), (20, .bipush 7, 2), (22, .iload_n 2, 1), (23, .iadd, 1), (24, .invokevirtual 72, 3), (27, .goto 4, 3), (30, .iconst (-1), 1), (31, .ireturn, 1)]
theorem dc_X9_note : ∀ q ∈ tb_X9_note, decode cX9_note q.1 = .ok q.2 := by decide +kernel
def tb_X9_overlap : List (Nat × Instr × Nat) := [(0, .aload_n 0, 1), (1, .iload_n 1, 1), (2, .invokevirtual 117, 3), (5, .ifCond .eq 19, 3), (8, .iload_n 2, 1), (9, .invokestatic 194, 3), (12, .ifCond .eq 12, 3), (15, .aload_n 0, 1), (16, .iload_n 1, 1), (17, .iload_n 2, 1), (18, .invokevirtual 80, 3), (21, .goto 4, 3), (24, .iconst (-1), 1), (25, .ireturn, 1)]
theorem dc_X9_overlap : ∀ q ∈ tb_X9_overlap, decode cX9_overlap q.1 = .ok q.2 := by decide +kernel
def tb_X9_strengthOf : List (Nat × Instr × Nat) := [(0, .iconst 0, 1), (1, .istore_n 2, 1), (2, .iconst 0, 1), (3, .istore_n 3, 1), (4, .iload_n 3, 1), (5, .aload_n 0, 1), (6, .getfield 7, 3), (9, .bipush 11, 2), (11, .iaload, 1), (12, .if_icmp .ge 32, 3), (15, .iload_n 2, 1), (16, .aload_n 0, 1), (17, .iload_n 3, 1), (18, .iconst 2, 1), (19, .invokevirtual 72, 3), (22, .iload_n 1, 1), (23, .if_icmp .ne 12, 3), (26, .aload_n 0, 1), (27, .iload_n 3, 1), (28, .iconst 0, 1), (29, .invokevirtual 72, 3), (32, .goto 4, 3), (35, .iconst 0, 1), (36, .iadd, 1), (37, .istore_n 2, 1), (38, .iinc 3 1, 3), (41, .goto (-37), 3), (44, .iload_n 2, 1), (45, .ireturn, 1)]
theorem dc_X9_strengthOf : ∀ q ∈ tb_X9_strengthOf, decode cX9_strengthOf q.1 = .ok q.2 := by decide +kernel
def tb_X9_rows : List (Nat × Instr × Nat) := [(0, .aload_n 0, 1), (1, .iload_n 1, 1), (2, .invokevirtual 197, 3), (5, .aload_n 0, 1), (6, .getfield 7, 3), (9, .iconst 3, 1), (10, .iaload, 1), (11, .iadd, 1), (12, .iconst 1, 1), (13, .isub, 1), (14, .aload_n 0, 1), (15, .getfield 7, 3), (18, .iconst 3, 1), (19, .iaload, 1), (20, .idiv, 1), (21, .ireturn, 1)]
theorem dc_X9_rows : ∀ q ∈ tb_X9_rows, decode cX9_rows q.1 = .ok q.2 := by decide +kernel
def tb_X9_part : List (Nat × Instr × Nat) := [(0, .iload_n 1, 1), (1, .invokestatic 194, 3), (4, .ifCond .ne 5, 3), (7, .iconst (-1), 1), (8, .ireturn, 1), (9, .iload_n 2, 1), (10, .tableswitch 82 0 5 #[38, 44, 50, 56, 65, 71], 38), (48, .aload_n 0, 1), (49, .iload_n 1, 1), (50, .invokevirtual 197, 3), (53, .ireturn, 1), (54, .aload_n 0, 1), (55, .iload_n 1, 1), (56, .invokevirtual 203, 3), (59, .ireturn, 1), (60, .aload_n 0, 1), (61, .iload_n 1, 1), (62, .invokevirtual 121, 3), (65, .ireturn, 1), (66, .aload_n 0, 1), (67, .getfield 7, 3), (70, .iconst 5, 1), (71, .iload_n 1, 1), (72, .iadd, 1), (73, .iaload, 1), (74, .ireturn, 1), (75, .aload_n 0, 1), (76, .iload_n 1, 1), (77, .invokevirtual 206, 3), (80, .ireturn, 1), (81, .aload_n 0, 1), (82, .invokevirtual 136, 3), (85, .aload_n 0, 1), (86, .getfield 47, 3), (89, .iload_n 1, 1), (90, .iaload, 1), (91, .ireturn, 1), (92, .iconst (-1), 1), (93, .ireturn, 1)]
theorem dc_X9_part : ∀ q ∈ tb_X9_part, decode cX9_part q.1 = .ok q.2 := by decide +kernel
def tb_X9_seat : List (Nat × Instr × Nat) := [(0, .aload_n 0, 1), (1, .iload_n 1, 1), (2, .invokevirtual 117, 3), (5, .ifCond .eq 12, 3), (8, .iload_n 2, 1), (9, .iconst 0, 1), (10, .iconst 1, 1), (11, .invokestatic 62, 3), (14, .ifCond .ne 5, 3), (17, .iconst (-1), 1), (18, .ireturn, 1), (19, .aload_n 0, 1), (20, .iload_n 1, 1), (21, .iconst 2, 1), (22, .invokevirtual 72, 3), (25, .istore_n 3, 1), (26, .iload_n 3, 1), (27, .bipush (-9), 2), (29, .if_icmp .ne 6, 3), (32, .bipush (-9), 2), (34, .ireturn, 1), (35, .iconst 0, 1), (36, .istore 4, 2), (38, .iconst 0, 1), (39, .istore 5, 2), (41, .iload 5, 2), (43, .aload_n 0, 1), (44, .getfield 7, 3), (47, .bipush 11, 2), (49, .iaload, 1), (50, .if_icmp .ge 80, 3), (53, .aload_n 0, 1), (54, .iload 5, 2), (56, .iconst 1, 1), (57, .invokevirtual 72, 3), (60, .aload_n 0, 1), (61, .iload_n 1, 1), (62, .iconst 1, 1), (63, .invokevirtual 72, 3), (66, .if_icmp .lt 25, 3), (69, .aload_n 0, 1), (70, .iload 5, 2), (72, .iconst 1, 1), (73, .invokevirtual 72, 3), (76, .aload_n 0, 1), (77, .iload_n 1, 1), (78, .iconst 1, 1), (79, .invokevirtual 72, 3), (82, .if_icmp .ne 13, 3), (85, .iload 5, 2), (87, .iload_n 1, 1), (88, .if_icmp .ge 7, 3), (91, .iconst 1, 1), (92, .goto 4, 3), (95, .iconst 0, 1), (96, .istore 6, 2), (98, .iload 4, 2), (100, .aload_n 0, 1), (101, .iload 5, 2), (103, .iconst 2, 1), (104, .invokevirtual 72, 3), (107, .iload_n 3, 1), (108, .if_icmp .ne 12, 3), (111, .iload 6, 2), (113, .ifCond .eq 7, 3), (116, .iconst 1, 1), (117, .goto 4, 3), (120, .iconst 0, 1), (121, .iadd, 1), (122, .istore 4, 2), (124, .iinc 5 1, 3), (127, .goto (-86), 3), (130, .iload 4, 2), (132, .aload_n 0, 1), (133, .getfield 7, 3), (136, .iconst 3, 1), (137, .iaload, 1), (138, .idiv, 1), (139, .istore 5, 2), (141, .iconst 0, 1), (142, .istore 6, 2), (144, .iload 6, 2), (146, .iload_n 3, 1), (147, .if_icmp .ge 20, 3), (150, .iload 5, 2), (152, .aload_n 0, 1), (153, .iload 6, 2), (155, .invokevirtual 206, 3), (158, .iadd, 1), (159, .istore 5, 2), (161, .iinc 6 1, 3), (164, .goto (-20), 3), (167, .iload 4, 2), (169, .aload_n 0, 1), (170, .getfield 7, 3), (173, .iconst 3, 1), (174, .iaload, 1), (175, .irem, 1), (176, .istore 6, 2), (178, .iload_n 2, 1), (179, .ifCond .ne 8, 3), (182, .iload 5, 2), (184, .goto 25, 3), (187, .iload 6, 2), (189, .iconst 2, 1), (190, .irem, 1), (191, .iconst 1, 1), (192, .if_icmp .ne 12, 3), (195, .iload 6, 2), (197, .iconst 2, 1), (198, .idiv, 1), (199, .iconst 1, 1), (200, .iadd, 1), (201, .goto 8, 3), (204, .iload 6, 2), (206, .iconst 2, 1), (207, .idiv, 1), (208, .ineg, 1), (209, .ireturn, 1)]
theorem dc_X9_seat : ∀ q ∈ tb_X9_seat, decode cX9_seat q.1 = .ok q.2 := by decide +kernel
def tb_X9_solo : List (Nat × Instr × Nat) := [(0, .iload_n 1, 1), (1, .iconst 0, 1), (2, .aload_n 0, 1), (3, .getfield 7, 3), (6, .iconst 4, 1), (7, .iaload, 1), (8, .iconst 1, 1), (9, .isub, 1), (10, .invokestatic 62, 3), (13, .ifCond .eq 27, 3), (16, .iload_n 2, 1), (17, .invokestatic 194, 3), (20, .ifCond .eq 20, 3), (23, .aload_n 0, 1), (24, .getfield 7, 3), (27, .sipush 492, 3), (30, .iconst 4, 1), (31, .iload_n 1, 1), (32, .imul, 1), (33, .iadd, 1), (34, .iload_n 2, 1), (35, .iadd, 1), (36, .iaload, 1), (37, .goto 4, 3), (40, .iconst (-1), 1), (41, .ireturn, 1)]
theorem dc_X9_solo : ∀ q ∈ tb_X9_solo, decode cX9_solo q.1 = .ok q.2 := by decide +kernel
def tb_X9_mean : List (Nat × Instr × Nat) := [(0, .iconst 0, 1), (1, .istore_n 1, 1), (2, .iconst 0, 1), (3, .istore_n 2, 1), (4, .iload_n 2, 1), (5, .aload_n 0, 1), (6, .getfield 7, 3), (9, .bipush 11, 2), (11, .iaload, 1), (12, .if_icmp .ge 33, 3), (15, .iload_n 1, 1), (16, .aload_n 0, 1), (17, .iload_n 2, 1), (18, .iconst 2, 1), (19, .invokevirtual 72, 3), (22, .bipush (-9), 2), (24, .if_icmp .ne 7, 3), (27, .iconst 0, 1), (28, .goto 9, 3), (31, .aload_n 0, 1), (32, .iload_n 2, 1), (33, .iconst 0, 1), (34, .invokevirtual 72, 3), (37, .iadd, 1), (38, .istore_n 1, 1), (39, .iinc 2 1, 3), (42, .goto (-38), 3), (45, .iload_n 1, 1), (46, .i2f, 1), (47, .ldc 209, 2), (49, .fdiv, 1), (50, .freturn, 1)]
theorem dc_X9_mean : ∀ q ∈ tb_X9_mean, decode cX9_mean q.1 = .ok q.2 := by decide +kernel
def tb_X9_standIn : List (Nat × Instr × Nat) := [(0, .aload_n 0, 1), (1, .iload_n 1, 1), (2, .invokevirtual 117, 3), (5, .ifCond .ne 5, 3), (8, .iconst (-1), 1), (9, .ireturn, 1), (10, .aload_n 0, 1), (11, .invokevirtual 127, 3), (14, .aload_n 0, 1), (15, .getfield 41, 3), (18, .iload_n 1, 1), (19, .iaload, 1), (20, .ireturn, 1)]
theorem dc_X9_standIn : ∀ q ∈ tb_X9_standIn, decode cX9_standIn q.1 = .ok q.2 := by decide +kernel
def tb_X9_passedOver : List (Nat × Instr × Nat) := [(0, .aload_n 0, 1), (1, .iload_n 1, 1), (2, .invokevirtual 117, 3), (5, .ifCond .ne 5, 3), (8, .iconst (-1), 1), (9, .ireturn, 1), (10, .aload_n 0, 1), (11, .invokevirtual 136, 3), (14, .aload_n 0, 1), (15, .iload_n 1, 1), (16, .iconst 2, 1), (17, .invokevirtual 72, 3), (20, .istore_n 2, 1), (21, .iload_n 2, 1), (22, .bipush (-9), 2), (24, .if_icmp .ne 5, 3), (27, .iconst 1, 1), (28, .ireturn, 1), (29, .aload_n 0, 1), (30, .iload_n 1, 1), (31, .iconst 3, 1), (32, .invokevirtual 72, 3), (35, .ifCond .ne 5, 3), (38, .iconst 2, 1), (39, .ireturn, 1), (40, .aload_n 0, 1), (41, .getfield 41, 3), (44, .iload_n 1, 1), (45, .iaload, 1), (46, .bipush (-9), 2), (48, .if_icmp .eq 5, 3), (51, .iconst 3, 1), (52, .ireturn, 1), (53, .aload_n 0, 1), (54, .iload_n 1, 1), (55, .invokevirtual 130, 3), (58, .ifCond .ne 7, 3), (61, .iconst 4, 1), (62, .goto 18, 3), (65, .aload_n 0, 1), (66, .getfield 47, 3), (69, .iload_n 2, 1), (70, .iaload, 1), (71, .iload_n 1, 1), (72, .if_icmp .ne 7, 3), (75, .iconst 0, 1), (76, .goto 4, 3), (79, .iconst 5, 1), (80, .ireturn, 1)]
theorem dc_X9_passedOver : ∀ q ∈ tb_X9_passedOver, decode cX9_passedOver q.1 = .ok q.2 := by decide +kernel
def tb_X9_isImage : List (Nat × Instr × Nat) := [(0, .iload_n 0, 1), (1, .iconst 0, 1), (2, .iconst 1, 1), (3, .invokestatic 62, 3), (6, .ireturn, 1)]
theorem dc_X9_isImage : ∀ q ∈ tb_X9_isImage, decode cX9_isImage q.1 = .ok q.2 := by decide +kernel
def tb_X9_keep : List (Nat × Instr × Nat) := [(0, .iload_n 1, 1), (1, .invokestatic 210, 3), (4, .ifCond .ne 5, 3), (7, .iconst (-1), 1), (8, .ireturn, 1), (9, .iconst 0, 1), (10, .istore_n 2, 1), (11, .iload_n 2, 1), (12, .sipush 652, 3), (15, .if_icmp .ge 27, 3), (18, .aload_n 0, 1), (19, .getfield 16, 3), (22, .sipush 652, 3), (25, .iload_n 1, 1), (26, .imul, 1), (27, .iload_n 2, 1), (28, .iadd, 1), (29, .aload_n 0, 1), (30, .getfield 7, 3), (33, .iload_n 2, 1), (34, .iaload, 1), (35, .iastore, 1), (36, .iinc 2 1, 3), (39, .goto (-28), 3), (42, .aload_n 0, 1), (43, .dup, 1), (44, .getfield 213, 3), (47, .iconst 1, 1), (48, .iload_n 1, 1), (49, .ishl, 1), (50, .ior, 1), (51, .putfield 213, 3), (54, .aload_n 0, 1), (55, .getfield 7, 3), (58, .bipush 11, 2), (60, .iaload, 1), (61, .ireturn, 1)]
theorem dc_X9_keep : ∀ q ∈ tb_X9_keep, decode cX9_keep q.1 = .ok q.2 := by decide +kernel
def tb_X9_back : List (Nat × Instr × Nat) := [(0, .iload_n 1, 1), (1, .invokestatic 210, 3), (4, .ifCond .ne 5, 3), (7, .iconst (-1), 1), (8, .ireturn, 1), (9, .aload_n 0, 1), (10, .getfield 213, 3), (13, .iload_n 1, 1), (14, .ishr, 1), (15, .iconst 1, 1), (16, .iand, 1), (17, .ifCond .ne 6, 3), (20, .bipush (-2), 2), (22, .ireturn, 1), (23, .aload_n 0, 1), (24, .invokevirtual 107, 3), (27, .iconst 0, 1), (28, .istore_n 2, 1), (29, .iload_n 2, 1), (30, .sipush 652, 3), (33, .if_icmp .ge 27, 3), (36, .aload_n 0, 1), (37, .getfield 7, 3), (40, .iload_n 2, 1), (41, .aload_n 0, 1), (42, .getfield 16, 3), (45, .sipush 652, 3), (48, .iload_n 1, 1), (49, .imul, 1), (50, .iload_n 2, 1), (51, .iadd, 1), (52, .iaload, 1), (53, .iastore, 1), (54, .iinc 2 1, 3), (57, .goto (-28), 3), (60, .aload_n 0, 1), (61, .getfield 7, 3), (64, .bipush 11, 2), (66, .iaload, 1), (67, .ireturn, 1)]
theorem dc_X9_back : ∀ q ∈ tb_X9_back, decode cX9_back q.1 = .ok q.2 := by decide +kernel
end
section
def tb_L_law_0 : List (Nat × Instr × Nat) := [(0, .new 7, 3), (3, .dup, 1), (4, .invokespecial 9, 3), (7, .astore_n 1, 1), (8, .new 10, 3), (11, .dup, 1), (12, .invokespecial 12, 3), (15, .astore_n 2, 1), (16, .iconst 0, 1), (17, .istore_n 3, 1), (18, .iload_n 3, 1), (19, .aload_n 0, 1), (20, .arraylength, 1), (21, .iconst 3, 1), (22, .isub, 1), (23, .if_icmp .gt 793, 3), (26, .aload_n 0, 1), (27, .iload_n 3, 1), (28, .iaload, 1), (29, .bipush 31, 2), (31, .iand, 1), (32, .tableswitch 778 0 25 #[120, 153, 176, 209, 232, 265, 278, 291, 304, 317, 340, 353, 376, 399, 422, 455, 488, 521, 554, 587, 620, 663, 686, 709, 732, 755], 120), (152, .aload_n 1, 1), (153, .aload_n 0, 1), (154, .iload_n 3, 1), (155, .iconst 1, 1), (156, .iadd, 1), (157, .iaload, 1), (158, .aload_n 0, 1), (159, .iload_n 3, 1), (160, .iconst 2, 1), (161, .iadd, 1), (162, .iaload, 1), (163, .invokevirtual 13, 3), (166, .aload_n 2, 1), (167, .aload_n 0, 1), (168, .iload_n 3, 1), (169, .iconst 1, 1), (170, .iadd, 1), (171, .iaload, 1), (172, .aload_n 0, 1), (173, .iload_n 3, 1), (174, .iconst 2, 1), (175, .iadd, 1), (176, .iaload, 1), (177, .invokevirtual 17, 3), (180, .if_icmp .eq 630, 3), (183, .iconst 0, 1), (184, .ireturn, 1), (185, .aload_n 1, 1), (186, .aload_n 0, 1), (187, .iload_n 3, 1), (188, .iconst 1, 1), (189, .iadd, 1), (190, .iaload, 1), (191, .invokevirtual 18, 3), (194, .aload_n 2, 1), (195, .aload_n 0, 1), (196, .iload_n 3, 1), (197, .iconst 1, 1), (198, .iadd, 1), (199, .iaload, 1), (200, .invokevirtual 22, 3), (203, .if_icmp .eq 607, 3), (206, .iconst 0, 1), (207, .ireturn, 1), (208, .aload_n 1, 1), (209, .aload_n 0, 1), (210, .iload_n 3, 1), (211, .iconst 1, 1), (212, .iadd, 1), (213, .iaload, 1), (214, .aload_n 0, 1), (215, .iload_n 3, 1), (216, .iconst 2, 1), (217, .iadd, 1), (218, .iaload, 1), (219, .invokevirtual 23, 3), (222, .aload_n 2, 1), (223, .aload_n 0, 1), (224, .iload_n 3, 1), (225, .iconst 1, 1), (226, .iadd, 1), (227, .iaload, 1), (228, .aload_n 0, 1), (229, .iload_n 3, 1)]
theorem dc_L_law_0 : ∀ q ∈ tb_L_law_0, decode cL_law q.1 = .ok q.2 := by decide +kernel
def tb_L_law_1 : List (Nat × Instr × Nat) := [(230, .iconst 2, 1), (231, .iadd, 1), (232, .iaload, 1), (233, .invokevirtual 26, 3), (236, .if_icmp .eq 574, 3), (239, .iconst 0, 1), (240, .ireturn, 1), (241, .aload_n 1, 1), (242, .aload_n 0, 1), (243, .iload_n 3, 1), (244, .iconst 1, 1), (245, .iadd, 1), (246, .iaload, 1), (247, .invokevirtual 27, 3), (250, .aload_n 2, 1), (251, .aload_n 0, 1), (252, .iload_n 3, 1), (253, .iconst 1, 1), (254, .iadd, 1), (255, .iaload, 1), (256, .invokevirtual 30, 3), (259, .if_icmp .eq 551, 3), (262, .iconst 0, 1), (263, .ireturn, 1), (264, .aload_n 1, 1), (265, .aload_n 0, 1), (266, .iload_n 3, 1), (267, .iconst 1, 1), (268, .iadd, 1), (269, .iaload, 1), (270, .aload_n 0, 1), (271, .iload_n 3, 1), (272, .iconst 2, 1), (273, .iadd, 1), (274, .iaload, 1), (275, .invokevirtual 31, 3), (278, .aload_n 2, 1), (279, .aload_n 0, 1), (280, .iload_n 3, 1), (281, .iconst 1, 1), (282, .iadd, 1), (283, .iaload, 1), (284, .aload_n 0, 1), (285, .iload_n 3, 1), (286, .iconst 2, 1), (287, .iadd, 1), (288, .iaload, 1), (289, .invokevirtual 34, 3), (292, .if_icmp .eq 518, 3), (295, .iconst 0, 1), (296, .ireturn, 1), (297, .aload_n 1, 1), (298, .invokevirtual 35, 3), (301, .aload_n 2, 1), (302, .invokevirtual 39, 3), (305, .if_icmp .eq 505, 3), (308, .iconst 0, 1), (309, .ireturn, 1), (310, .aload_n 1, 1), (311, .invokevirtual 40, 3), (314, .aload_n 2, 1), (315, .invokevirtual 43, 3), (318, .if_icmp .eq 492, 3), (321, .iconst 0, 1), (322, .ireturn, 1), (323, .aload_n 1, 1), (324, .invokevirtual 44, 3), (327, .aload_n 2, 1), (328, .invokevirtual 47, 3), (331, .if_icmp .eq 479, 3), (334, .iconst 0, 1), (335, .ireturn, 1), (336, .aload_n 1, 1), (337, .invokevirtual 48, 3), (340, .aload_n 2, 1), (341, .invokevirtual 51, 3), (344, .if_icmp .eq 466, 3), (347, .iconst 0, 1), (348, .ireturn, 1), (349, .aload_n 1, 1), (350, .aload_n 0, 1), (351, .iload_n 3, 1), (352, .iconst 1, 1), (353, .iadd, 1), (354, .iaload, 1), (355, .invokevirtual 52, 3)]
theorem dc_L_law_1 : ∀ q ∈ tb_L_law_1, decode cL_law q.1 = .ok q.2 := by decide +kernel
end
section
def tb_L_law_2 : List (Nat × Instr × Nat) := [(358, .aload_n 2, 1), (359, .aload_n 0, 1), (360, .iload_n 3, 1), (361, .iconst 1, 1), (362, .iadd, 1), (363, .iaload, 1), (364, .invokevirtual 55, 3), (367, .if_icmp .eq 443, 3), (370, .iconst 0, 1), (371, .ireturn, 1), (372, .aload_n 1, 1), (373, .invokevirtual 56, 3), (376, .aload_n 2, 1), (377, .invokevirtual 59, 3), (380, .if_icmp .eq 430, 3), (383, .iconst 0, 1), (384, .ireturn, 1), (385, .aload_n 1, 1), (386, .aload_n 0, 1), (387, .iload_n 3, 1), (388, .iconst 1, 1), (389, .iadd, 1), (390, .iaload, 1), (391, .invokevirtual 60, 3), (394, .aload_n 2, 1), (395, .aload_n 0, 1), (396, .iload_n 3, 1), (397, .iconst 1, 1), (398, .iadd, 1), (399, .iaload, 1), (400, .invokevirtual 63, 3), (403, .if_icmp .eq 407, 3), (406, .iconst 0, 1), (407, .ireturn, 1), (408, .aload_n 1, 1), (409, .aload_n 0, 1), (410, .iload_n 3, 1), (411, .iconst 1, 1), (412, .iadd, 1), (413, .iaload, 1), (414, .invokevirtual 64, 3), (417, .aload_n 2, 1), (418, .aload_n 0, 1), (419, .iload_n 3, 1), (420, .iconst 1, 1), (421, .iadd, 1), (422, .iaload, 1), (423, .invokevirtual 67, 3), (426, .if_icmp .eq 384, 3), (429, .iconst 0, 1), (430, .ireturn, 1), (431, .aload_n 1, 1), (432, .aload_n 0, 1), (433, .iload_n 3, 1), (434, .iconst 1, 1), (435, .iadd, 1), (436, .iaload, 1), (437, .invokevirtual 68, 3), (440, .aload_n 2, 1), (441, .aload_n 0, 1), (442, .iload_n 3, 1), (443, .iconst 1, 1), (444, .iadd, 1), (445, .iaload, 1), (446, .invokevirtual 71, 3), (449, .if_icmp .eq 361, 3), (452, .iconst 0, 1), (453, .ireturn, 1), (454, .aload_n 1, 1), (455, .aload_n 0, 1), (456, .iload_n 3, 1), (457, .iconst 1, 1), (458, .iadd, 1), (459, .iaload, 1), (460, .aload_n 0, 1), (461, .iload_n 3, 1), (462, .iconst 2, 1), (463, .iadd, 1), (464, .iaload, 1), (465, .invokevirtual 72, 3), (468, .aload_n 2, 1), (469, .aload_n 0, 1), (470, .iload_n 3, 1), (471, .iconst 1, 1), (472, .iadd, 1), (473, .iaload, 1)]
theorem dc_L_law_2 : ∀ q ∈ tb_L_law_2, decode cL_law q.1 = .ok q.2 := by decide +kernel
def tb_L_law_3 : List (Nat × Instr × Nat) := [(474, .aload_n 0, 1), (475, .iload_n 3, 1), (476, .iconst 2, 1), (477, .iadd, 1), (478, .iaload, 1), (479, .invokevirtual 75, 3), (482, .if_icmp .eq 328, 3), (485, .iconst 0, 1), (486, .ireturn, 1), (487, .aload_n 1, 1), (488, .aload_n 0, 1), (489, .iload_n 3, 1), (490, .iconst 1, 1), (491, .iadd, 1), (492, .iaload, 1), (493, .aload_n 0, 1), (494, .iload_n 3, 1), (495, .iconst 2, 1), (496, .iadd, 1), (497, .iaload, 1), (498, .invokevirtual 76, 3), (501, .aload_n 2, 1), (502, .aload_n 0, 1), (503, .iload_n 3, 1), (504, .iconst 1, 1), (505, .iadd, 1), (506, .iaload, 1), (507, .aload_n 0, 1), (508, .iload_n 3, 1), (509, .iconst 2, 1), (510, .iadd, 1), (511, .iaload, 1), (512, .invokevirtual 79, 3), (515, .if_icmp .eq 295, 3), (518, .iconst 0, 1), (519, .ireturn, 1), (520, .aload_n 1, 1), (521, .aload_n 0, 1), (522, .iload_n 3, 1), (523, .iconst 1, 1), (524, .iadd, 1), (525, .iaload, 1), (526, .aload_n 0, 1), (527, .iload_n 3, 1), (528, .iconst 2, 1), (529, .iadd, 1), (530, .iaload, 1), (531, .invokevirtual 80, 3), (534, .aload_n 2, 1), (535, .aload_n 0, 1), (536, .iload_n 3, 1), (537, .iconst 1, 1), (538, .iadd, 1), (539, .iaload, 1), (540, .aload_n 0, 1), (541, .iload_n 3, 1), (542, .iconst 2, 1), (543, .iadd, 1), (544, .iaload, 1), (545, .invokevirtual 83, 3), (548, .if_icmp .eq 262, 3), (551, .iconst 0, 1), (552, .ireturn, 1), (553, .aload_n 1, 1), (554, .aload_n 0, 1), (555, .iload_n 3, 1), (556, .iconst 1, 1), (557, .iadd, 1), (558, .iaload, 1), (559, .aload_n 0, 1), (560, .iload_n 3, 1), (561, .iconst 2, 1), (562, .iadd, 1), (563, .iaload, 1), (564, .invokevirtual 84, 3), (567, .aload_n 2, 1), (568, .aload_n 0, 1), (569, .iload_n 3, 1), (570, .iconst 1, 1), (571, .iadd, 1), (572, .iaload, 1), (573, .aload_n 0, 1), (574, .iload_n 3, 1), (575, .iconst 2, 1), (576, .iadd, 1), (577, .iaload, 1)]
theorem dc_L_law_3 : ∀ q ∈ tb_L_law_3, decode cL_law q.1 = .ok q.2 := by decide +kernel
end
section
def tb_L_law_4 : List (Nat × Instr × Nat) := [(578, .invokevirtual 87, 3), (581, .if_icmp .eq 229, 3), (584, .iconst 0, 1), (585, .ireturn, 1), (586, .aload_n 1, 1), (587, .aload_n 0, 1), (588, .iload_n 3, 1), (589, .iconst 1, 1), (590, .iadd, 1), (591, .iaload, 1), (592, .aload_n 0, 1), (593, .iload_n 3, 1), (594, .iconst 2, 1), (595, .iadd, 1), (596, .iaload, 1), (597, .invokevirtual 88, 3), (600, .aload_n 2, 1), (601, .aload_n 0, 1), (602, .iload_n 3, 1), (603, .iconst 1, 1), (604, .iadd, 1), (605, .iaload, 1), (606, .aload_n 0, 1), (607, .iload_n 3, 1), (608, .iconst 2, 1), (609, .iadd, 1), (610, .iaload, 1), (611, .invokevirtual 91, 3), (614, .if_icmp .eq 196, 3), (617, .iconst 0, 1), (618, .ireturn, 1), (619, .aload_n 1, 1), (620, .aload_n 0, 1), (621, .iload_n 3, 1), (622, .iconst 1, 1), (623, .iadd, 1), (624, .iaload, 1), (625, .aload_n 0, 1), (626, .iload_n 3, 1), (627, .iconst 2, 1), (628, .iadd, 1), (629, .iaload, 1), (630, .invokevirtual 92, 3), (633, .aload_n 2, 1), (634, .aload_n 0, 1), (635, .iload_n 3, 1), (636, .iconst 1, 1), (637, .iadd, 1), (638, .iaload, 1), (639, .aload_n 0, 1), (640, .iload_n 3, 1), (641, .iconst 2, 1), (642, .iadd, 1), (643, .iaload, 1), (644, .invokevirtual 95, 3), (647, .if_icmp .eq 163, 3), (650, .iconst 0, 1), (651, .ireturn, 1), (652, .aload_n 1, 1), (653, .invokevirtual 96, 3), (656, .f2d, 1), (657, .dstore 4, 2), (659, .aload_n 2, 1), (660, .invokevirtual 100, 3), (663, .f2d, 1), (664, .dstore 6, 2), (666, .dload 4, 2), (668, .dload 6, 2), (670, .dcmp .l, 1), (671, .ifCond .eq 21, 3), (674, .dload 4, 2), (676, .dload 4, 2), (678, .dcmp .l, 1), (679, .ifCond .eq 11, 3), (682, .dload 6, 2), (684, .dload 6, 2), (686, .dcmp .l, 1), (687, .ifCond .ne 5, 3), (690, .iconst 0, 1), (691, .ireturn, 1), (692, .goto 118, 3), (695, .aload_n 1, 1), (696, .aload_n 0, 1), (697, .iload_n 3, 1), (698, .iconst 1, 1), (699, .iadd, 1)]
theorem dc_L_law_4 : ∀ q ∈ tb_L_law_4, decode cL_law q.1 = .ok q.2 := by decide +kernel
def tb_L_law_5 : List (Nat × Instr × Nat) := [(700, .iaload, 1), (701, .invokevirtual 101, 3), (704, .aload_n 2, 1), (705, .aload_n 0, 1), (706, .iload_n 3, 1), (707, .iconst 1, 1), (708, .iadd, 1), (709, .iaload, 1), (710, .invokevirtual 104, 3), (713, .if_icmp .eq 97, 3), (716, .iconst 0, 1), (717, .ireturn, 1), (718, .aload_n 1, 1), (719, .aload_n 0, 1), (720, .iload_n 3, 1), (721, .iconst 1, 1), (722, .iadd, 1), (723, .iaload, 1), (724, .invokevirtual 105, 3), (727, .aload_n 2, 1), (728, .aload_n 0, 1), (729, .iload_n 3, 1), (730, .iconst 1, 1), (731, .iadd, 1), (732, .iaload, 1), (733, .invokevirtual 108, 3), (736, .if_icmp .eq 74, 3), (739, .iconst 0, 1), (740, .ireturn, 1), (741, .aload_n 1, 1), (742, .aload_n 0, 1), (743, .iload_n 3, 1), (744, .iconst 1, 1), (745, .iadd, 1), (746, .iaload, 1), (747, .invokevirtual 109, 3), (750, .aload_n 2, 1), (751, .aload_n 0, 1), (752, .iload_n 3, 1), (753, .iconst 1, 1), (754, .iadd, 1), (755, .iaload, 1), (756, .invokevirtual 112, 3), (759, .if_icmp .eq 51, 3), (762, .iconst 0, 1), (763, .ireturn, 1), (764, .aload_n 1, 1), (765, .aload_n 0, 1), (766, .iload_n 3, 1), (767, .iconst 1, 1), (768, .iadd, 1), (769, .iaload, 1), (770, .invokevirtual 113, 3), (773, .aload_n 2, 1), (774, .aload_n 0, 1), (775, .iload_n 3, 1), (776, .iconst 1, 1), (777, .iadd, 1), (778, .iaload, 1), (779, .invokevirtual 116, 3), (782, .if_icmp .eq 28, 3), (785, .iconst 0, 1), (786, .ireturn, 1), (787, .aload_n 1, 1), (788, .aload_n 0, 1), (789, .iload_n 3, 1), (790, .iconst 1, 1), (791, .iadd, 1), (792, .iaload, 1), (793, .invokevirtual 117, 3), (796, .aload_n 2, 1), (797, .aload_n 0, 1), (798, .iload_n 3, 1), (799, .iconst 1, 1), (800, .iadd, 1), (801, .iaload, 1), (802, .invokevirtual 120, 3), (805, .if_icmp .eq 5, 3), (808, .iconst 0, 1), (809, .ireturn, 1), (810, .iinc 3 3, 3), (813, .goto (-795), 3), (816, .iconst 1, 1), (817, .ireturn, 1)]
theorem dc_L_law_5 : ∀ q ∈ tb_L_law_5, decode cL_law q.1 = .ok q.2 := by decide +kernel
def tb_L_law : List (Nat × Instr × Nat) := tb_L_law_0 ++ tb_L_law_1 ++ tb_L_law_2 ++ tb_L_law_3 ++ tb_L_law_4 ++ tb_L_law_5
theorem dc_L_law : ∀ q ∈ tb_L_law, decode cL_law q.1 = .ok q.2 := by
  intro q h
  simp only [tb_L_law, List.mem_append] at h
  rcases h with (((((h | h) | h) | h) | h) | h)
  · exact dc_L_law_0 q h
  · exact dc_L_law_1 q h
  · exact dc_L_law_2 q h
  · exact dc_L_law_3 q h
  · exact dc_L_law_4 q h
  · exact dc_L_law_5 q h
end
section
/-! words of the tables: by program -/
theorem lt_fl_X0_11 : Cond.fieldLink RX0 11 (TX0 0).1 (TX0 0).2.1 (TX0 0).2.2.1 ∈ lw_tbl := by decide +kernel
theorem lt_fl_X0_18 : Cond.fieldLink RX0 18 (TX0 1).1 (TX0 1).2.1 (TX0 1).2.2.1 ∈ lw_tbl := by decide +kernel
theorem lt_fl_X0_25 : Cond.fieldLink RX0 25 (TX0 2).1 (TX0 2).2.1 (TX0 2).2.2.1 ∈ lw_tbl := by decide +kernel
theorem lt_fl_X0_28 : Cond.fieldLink RX0 28 (TX0 3).1 (TX0 3).2.1 (TX0 3).2.2.1 ∈ lw_tbl := by decide +kernel
theorem lt_fl_X5_9 : Cond.fieldLink RX5 9 (TX5 0).1 (TX5 0).2.1 (TX5 0).2.2.1 ∈ lw_tbl := by decide +kernel
theorem lt_fl_X5_15 : Cond.fieldLink RX5 15 (TX5 1).1 (TX5 1).2.1 (TX5 1).2.2.1 ∈ lw_tbl := by decide +kernel
theorem lt_fl_X5_38 : Cond.fieldLink RX5 38 (TX5 2).1 (TX5 2).2.1 (TX5 2).2.2.1 ∈ lw_tbl := by decide +kernel
theorem lt_fl_X5_42 : Cond.fieldLink RX5 42 (TX5 3).1 (TX5 3).2.1 (TX5 3).2.2.1 ∈ lw_tbl := by decide +kernel
theorem lt_fl_X5_45 : Cond.fieldLink RX5 45 (TX5 4).1 (TX5 4).2.1 (TX5 4).2.2.1 ∈ lw_tbl := by decide +kernel
theorem lt_fl_X5_48 : Cond.fieldLink RX5 48 (TX5 5).1 (TX5 5).2.1 (TX5 5).2.2.1 ∈ lw_tbl := by decide +kernel
theorem lt_fl_X5_22 : Cond.fieldLink RX5 22 (TX5 6).1 (TX5 6).2.1 (TX5 6).2.2.1 ∈ lw_tbl := by decide +kernel
theorem lt_fl_X5_25 : Cond.fieldLink RX5 25 (TX5 7).1 (TX5 7).2.1 (TX5 7).2.2.1 ∈ lw_tbl := by decide +kernel
theorem lt_fl_X5_29 : Cond.fieldLink RX5 29 (TX5 8).1 (TX5 8).2.1 (TX5 8).2.2.1 ∈ lw_tbl := by decide +kernel
theorem lt_fl_X5_32 : Cond.fieldLink RX5 32 (TX5 9).1 (TX5 9).2.1 (TX5 9).2.2.1 ∈ lw_tbl := by decide +kernel
theorem lt_fl_X5_35 : Cond.fieldLink RX5 35 (TX5 10).1 (TX5 10).2.1 (TX5 10).2.2.1 ∈ lw_tbl := by decide +kernel
theorem lt_fl_X0_31 : Cond.fieldLink RX0 31 (TX0 4).1 (TX0 4).2.1 (TX0 4).2.2.1 ∈ lw_tbl := by decide +kernel
theorem lt_fl_X0_45 : Cond.fieldLink RX0 45 (TX0 5).1 (TX0 5).2.1 (TX0 5).2.2.1 ∈ lw_tbl := by decide +kernel
theorem lt_fl_X0_48 : Cond.fieldLink RX0 48 (TX0 6).1 (TX0 6).2.1 (TX0 6).2.2.1 ∈ lw_tbl := by decide +kernel
theorem lt_fl_X0_51 : Cond.fieldLink RX0 51 (TX0 7).1 (TX0 7).2.1 (TX0 7).2.2.1 ∈ lw_tbl := by decide +kernel
theorem lt_fl_X0_73 : Cond.fieldLink RX0 73 (TX5 6).1 (TX5 6).2.1 (TX5 6).2.2.1 ∈ lw_tbl := by decide +kernel
theorem lt_fl_X0_69 : Cond.fieldLink RX0 69 (TX5 7).1 (TX5 7).2.1 (TX5 7).2.2.1 ∈ lw_tbl := by decide +kernel
theorem lt_fl_X0_76 : Cond.fieldLink RX0 76 (TX5 0).1 (TX5 0).2.1 (TX5 0).2.2.1 ∈ lw_tbl := by decide +kernel
theorem lt_fl_X0_86 : Cond.fieldLink RX0 86 (TX5 9).1 (TX5 9).2.1 (TX5 9).2.2.1 ∈ lw_tbl := by decide +kernel
theorem lt_fl_X1_11 : Cond.fieldLink RX1 11 (TX1 0).1 (TX1 0).2.1 (TX1 0).2.2.1 ∈ lw_tbl := by decide +kernel
theorem lt_fl_X1_18 : Cond.fieldLink RX1 18 (TX1 1).1 (TX1 1).2.1 (TX1 1).2.2.1 ∈ lw_tbl := by decide +kernel
theorem lt_fl_X1_22 : Cond.fieldLink RX1 22 (TX1 2).1 (TX1 2).2.1 (TX1 2).2.2.1 ∈ lw_tbl := by decide +kernel
theorem lt_fl_X6_9 : Cond.fieldLink RX6 9 (TX6 0).1 (TX6 0).2.1 (TX6 0).2.2.1 ∈ lw_tbl := by decide +kernel
theorem lt_fl_X6_15 : Cond.fieldLink RX6 15 (TX6 1).1 (TX6 1).2.1 (TX6 1).2.2.1 ∈ lw_tbl := by decide +kernel
theorem lt_fl_X2_12 : Cond.fieldLink RX2 12 (TX2 0).1 (TX2 0).2.1 (TX2 0).2.2.1 ∈ lw_tbl := by decide +kernel
theorem lt_fl_X2_18 : Cond.fieldLink RX2 18 (TX2 1).1 (TX2 1).2.1 (TX2 1).2.2.1 ∈ lw_tbl := by decide +kernel
theorem lt_fl_X2_21 : Cond.fieldLink RX2 21 (TX2 2).1 (TX2 2).2.1 (TX2 2).2.2.1 ∈ lw_tbl := by decide +kernel
theorem lt_fl_X2_25 : Cond.fieldLink RX2 25 (TX2 3).1 (TX2 3).2.1 (TX2 3).2.2.1 ∈ lw_tbl := by decide +kernel
theorem lt_fl_X2_28 : Cond.fieldLink RX2 28 (TX2 4).1 (TX2 4).2.1 (TX2 4).2.2.1 ∈ lw_tbl := by decide +kernel
theorem lt_fl_X2_31 : Cond.fieldLink RX2 31 (TX2 5).1 (TX2 5).2.1 (TX2 5).2.2.1 ∈ lw_tbl := by decide +kernel
theorem lt_fl_X2_34 : Cond.fieldLink RX2 34 (TX2 6).1 (TX2 6).2.1 (TX2 6).2.2.1 ∈ lw_tbl := by decide +kernel
theorem lt_fl_X2_37 : Cond.fieldLink RX2 37 (TX2 7).1 (TX2 7).2.1 (TX2 7).2.2.1 ∈ lw_tbl := by decide +kernel
theorem lt_fl_X2_62 : Cond.fieldLink RX2 62 (TX2 8).1 (TX2 8).2.1 (TX2 8).2.2.1 ∈ lw_tbl := by decide +kernel
theorem lt_fl_X2_65 : Cond.fieldLink RX2 65 (TX2 9).1 (TX2 9).2.1 (TX2 9).2.2.1 ∈ lw_tbl := by decide +kernel
theorem lt_fl_X2_41 : Cond.fieldLink RX2 41 (TX0 4).1 (TX0 4).2.1 (TX0 4).2.2.1 ∈ lw_tbl := by decide +kernel
theorem lt_fl_X2_50 : Cond.fieldLink RX2 50 (TX0 0).1 (TX0 0).2.1 (TX0 0).2.2.1 ∈ lw_tbl := by decide +kernel
theorem lt_fl_X2_54 : Cond.fieldLink RX2 54 (TX5 0).1 (TX5 0).2.1 (TX5 0).2.2.1 ∈ lw_tbl := by decide +kernel
theorem lt_fl_X2_91 : Cond.fieldLink RX2 91 (TX5 6).1 (TX5 6).2.1 (TX5 6).2.2.1 ∈ lw_tbl := by decide +kernel
theorem lt_fl_X3_9 : Cond.fieldLink RX3 9 (TX3 2).1 (TX3 2).2.1 (TX3 2).2.2.1 ∈ lw_tbl := by decide +kernel
theorem lt_fl_X3_15 : Cond.fieldLink RX3 15 (TX3 3).1 (TX3 3).2.1 (TX3 3).2.2.1 ∈ lw_tbl := by decide +kernel
theorem lt_fl_X3_42 : Cond.fieldLink RX3 42 (TX3 6).1 (TX3 6).2.1 (TX3 6).2.2.1 ∈ lw_tbl := by decide +kernel
theorem lt_fl_X3_82 : Cond.fieldLink RX3 82 (TX3 8).1 (TX3 8).2.1 (TX3 8).2.2.1 ∈ lw_tbl := by decide +kernel
theorem lt_fl_X3_79 : Cond.fieldLink RX3 79 (TX3 7).1 (TX3 7).2.1 (TX3 7).2.2.1 ∈ lw_tbl := by decide +kernel
theorem lt_fl_X3_31 : Cond.fieldLink RX3 31 (TX3 4).1 (TX3 4).2.1 (TX3 4).2.2.1 ∈ lw_tbl := by decide +kernel
theorem lt_fl_X3_95 : Cond.fieldLink RX3 95 (TX3 10).1 (TX3 10).2.1 (TX3 10).2.2.1 ∈ lw_tbl := by decide +kernel
theorem lt_fl_X3_24 : Cond.fieldLink RX3 24 (TX3 0).1 (TX3 0).2.1 (TX3 0).2.2.1 ∈ lw_tbl := by decide +kernel
theorem lt_fl_X3_30 : Cond.fieldLink RX3 30 (TX3 1).1 (TX3 1).2.1 (TX3 1).2.2.1 ∈ lw_tbl := by decide +kernel
theorem lt_fl_X3_85 : Cond.fieldLink RX3 85 (TX3 9).1 (TX3 9).2.1 (TX3 9).2.2.1 ∈ lw_tbl := by decide +kernel
theorem lt_fl_X3_34 : Cond.fieldLink RX3 34 (TX3 5).1 (TX3 5).2.1 (TX3 5).2.2.1 ∈ lw_tbl := by decide +kernel
theorem lt_fl_X3_45 : Cond.fieldLink RX3 45 (TX7 1).1 (TX7 1).2.1 (TX7 1).2.2.1 ∈ lw_tbl := by decide +kernel
theorem lt_fl_X3_50 : Cond.fieldLink RX3 50 (TX7 0).1 (TX7 0).2.1 (TX7 0).2.2.1 ∈ lw_tbl := by decide +kernel
theorem lt_fl_X3_18 : Cond.fieldLink RX3 18 (TX5 2).1 (TX5 2).2.1 (TX5 2).2.2.1 ∈ lw_tbl := by decide +kernel
theorem lt_fl_X3_27 : Cond.fieldLink RX3 27 (TX5 3).1 (TX5 3).2.1 (TX5 3).2.2.1 ∈ lw_tbl := by decide +kernel
theorem lt_fl_X4_9 : Cond.fieldLink RX4 9 (TX4 0).1 (TX4 0).2.1 (TX4 0).2.2.1 ∈ lw_tbl := by decide +kernel
theorem lt_fl_X4_15 : Cond.fieldLink RX4 15 (TX4 1).1 (TX4 1).2.1 (TX4 1).2.2.1 ∈ lw_tbl := by decide +kernel
theorem lt_fl_X4_18 : Cond.fieldLink RX4 18 (TX4 2).1 (TX4 2).2.1 (TX4 2).2.2.1 ∈ lw_tbl := by decide +kernel
theorem lt_fl_X4_47 : Cond.fieldLink RX4 47 (TX0 0).1 (TX0 0).2.1 (TX0 0).2.2.1 ∈ lw_tbl := by decide +kernel
theorem lt_fl_X4_58 : Cond.fieldLink RX4 58 (TX5 7).1 (TX5 7).2.1 (TX5 7).2.2.1 ∈ lw_tbl := by decide +kernel
theorem lt_fl_X4_51 : Cond.fieldLink RX4 51 (TX5 6).1 (TX5 6).2.1 (TX5 6).2.2.1 ∈ lw_tbl := by decide +kernel
theorem lt_fl_X4_56 : Cond.fieldLink RX4 56 (TX5 0).1 (TX5 0).2.1 (TX5 0).2.2.1 ∈ lw_tbl := by decide +kernel
theorem lt_fl_X4_35 : Cond.fieldLink RX4 35 (TX0 4).1 (TX0 4).2.1 (TX0 4).2.2.1 ∈ lw_tbl := by decide +kernel
theorem lt_fl_X4_76 : Cond.fieldLink RX4 76 (TX0 3).1 (TX0 3).2.1 (TX0 3).2.2.1 ∈ lw_tbl := by decide +kernel
theorem lt_fl_X4_79 : Cond.fieldLink RX4 79 (TX0 2).1 (TX0 2).2.1 (TX0 2).2.2.1 ∈ lw_tbl := by decide +kernel
theorem lt_fl_X4_82 : Cond.fieldLink RX4 82 (TX0 5).1 (TX0 5).2.1 (TX0 5).2.2.1 ∈ lw_tbl := by decide +kernel
theorem lt_fl_X4_85 : Cond.fieldLink RX4 85 (TX5 8).1 (TX5 8).2.1 (TX5 8).2.2.1 ∈ lw_tbl := by decide +kernel
theorem lt_fl_X4_88 : Cond.fieldLink RX4 88 (TX5 9).1 (TX5 9).2.1 (TX5 9).2.2.1 ∈ lw_tbl := by decide +kernel
theorem lt_fl_X4_91 : Cond.fieldLink RX4 91 (TX0 6).1 (TX0 6).2.1 (TX0 6).2.2.1 ∈ lw_tbl := by decide +kernel
theorem lt_fl_X4_92 : Cond.fieldLink RX4 92 (TX5 10).1 (TX5 10).2.1 (TX5 10).2.2.1 ∈ lw_tbl := by decide +kernel
theorem lt_fl_X4_95 : Cond.fieldLink RX4 95 (TX0 7).1 (TX0 7).2.1 (TX0 7).2.2.1 ∈ lw_tbl := by decide +kernel
theorem lt_fl_X7_9 : Cond.fieldLink RX7 9 (TX7 0).1 (TX7 0).2.1 (TX7 0).2.2.1 ∈ lw_tbl := by decide +kernel
theorem lt_fl_X8_10 : Cond.fieldLink RX8 10 (TX8 0).1 (TX8 0).2.1 (TX8 0).2.2.1 ∈ lw_tbl := by decide +kernel
theorem lt_fl_X8_19 : Cond.fieldLink RX8 19 (TX8 1).1 (TX8 1).2.1 (TX8 1).2.2.1 ∈ lw_tbl := by decide +kernel
theorem lt_fl_X8_23 : Cond.fieldLink RX8 23 (TX8 2).1 (TX8 2).2.1 (TX8 2).2.2.1 ∈ lw_tbl := by decide +kernel
theorem lt_fl_X8_27 : Cond.fieldLink RX8 27 (TX8 3).1 (TX8 3).2.1 (TX8 3).2.2.1 ∈ lw_tbl := by decide +kernel
theorem lt_fl_X8_34 : Cond.fieldLink RX8 34 (TX8 4).1 (TX8 4).2.1 (TX8 4).2.2.1 ∈ lw_tbl := by decide +kernel
theorem lt_fl_X8_41 : Cond.fieldLink RX8 41 (TX8 5).1 (TX8 5).2.1 (TX8 5).2.2.1 ∈ lw_tbl := by decide +kernel
theorem lt_fl_X8_48 : Cond.fieldLink RX8 48 (TX8 6).1 (TX8 6).2.1 (TX8 6).2.2.1 ∈ lw_tbl := by decide +kernel
theorem lt_fl_X8_55 : Cond.fieldLink RX8 55 (TX8 7).1 (TX8 7).2.1 (TX8 7).2.2.1 ∈ lw_tbl := by decide +kernel
theorem lt_fl_X8_59 : Cond.fieldLink RX8 59 (TX0 4).1 (TX0 4).2.1 (TX0 4).2.2.1 ∈ lw_tbl := by decide +kernel
theorem lt_fs_X8_82 : Cond.fieldLink RX8 82 "ChoirBook" "SETTING_LEAST" "[I" ∈ lw_tbl := by decide +kernel
theorem lt_fs_X8_86 : Cond.fieldLink RX8 86 "ChoirBook" "SETTING_MOST" "[I" ∈ lw_tbl := by decide +kernel
theorem lt_fl_X8_89 : Cond.fieldLink RX8 89 (TX0 1).1 (TX0 1).2.1 (TX0 1).2.2.1 ∈ lw_tbl := by decide +kernel
theorem lt_fl_X8_92 : Cond.fieldLink RX8 92 (TX0 0).1 (TX0 0).2.1 (TX0 0).2.2.1 ∈ lw_tbl := by decide +kernel
theorem lt_fl_X8_100 : Cond.fieldLink RX8 100 (TX3 0).1 (TX3 0).2.1 (TX3 0).2.2.1 ∈ lw_tbl := by decide +kernel
theorem lt_fl_X8_104 : Cond.fieldLink RX8 104 (TX3 1).1 (TX3 1).2.1 (TX3 1).2.2.1 ∈ lw_tbl := by decide +kernel
theorem lt_fl_X8_113 : Cond.fieldLink RX8 113 (TX5 5).1 (TX5 5).2.1 (TX5 5).2.2.1 ∈ lw_tbl := by decide +kernel
theorem lt_fl_X8_123 : Cond.fieldLink RX8 123 (TX5 6).1 (TX5 6).2.1 (TX5 6).2.2.1 ∈ lw_tbl := by decide +kernel
theorem lt_fl_X8_133 : Cond.fieldLink RX8 133 (TX2 8).1 (TX2 8).2.1 (TX2 8).2.2.1 ∈ lw_tbl := by decide +kernel
theorem lt_fl_X8_144 : Cond.fieldLink RX8 144 (TX5 7).1 (TX5 7).2.1 (TX5 7).2.2.1 ∈ lw_tbl := by decide +kernel
theorem lt_fl_X8_152 : Cond.fieldLink RX8 152 (TX0 5).1 (TX0 5).2.1 (TX0 5).2.2.1 ∈ lw_tbl := by decide +kernel
theorem lt_fl_X8_162 : Cond.fieldLink RX8 162 (TX1 2).1 (TX1 2).2.1 (TX1 2).2.2.1 ∈ lw_tbl := by decide +kernel
theorem lt_fl_X8_168 : Cond.fieldLink RX8 168 (TX7 1).1 (TX7 1).2.1 (TX7 1).2.2.1 ∈ lw_tbl := by decide +kernel
theorem lt_fl_X8_171 : Cond.fieldLink RX8 171 (TX7 0).1 (TX7 0).2.1 (TX7 0).2.2.1 ∈ lw_tbl := by decide +kernel
theorem lt_fl_X8_174 : Cond.fieldLink RX8 174 (TX3 2).1 (TX3 2).2.1 (TX3 2).2.2.1 ∈ lw_tbl := by decide +kernel
theorem lt_fl_X8_177 : Cond.fieldLink RX8 177 (TX3 3).1 (TX3 3).2.1 (TX3 3).2.2.1 ∈ lw_tbl := by decide +kernel
theorem lt_fl_X8_186 : Cond.fieldLink RX8 186 (TX0 6).1 (TX0 6).2.1 (TX0 6).2.2.1 ∈ lw_tbl := by decide +kernel
theorem lt_fl_X8_189 : Cond.fieldLink RX8 189 (TX0 7).1 (TX0 7).2.1 (TX0 7).2.2.1 ∈ lw_tbl := by decide +kernel
theorem lt_fl_X8_192 : Cond.fieldLink RX8 192 (TX5 0).1 (TX5 0).2.1 (TX5 0).2.2.1 ∈ lw_tbl := by decide +kernel
theorem lt_fl_X8_195 : Cond.fieldLink RX8 195 (TX5 1).1 (TX5 1).2.1 (TX5 1).2.2.1 ∈ lw_tbl := by decide +kernel
theorem lt_fl_X8_198 : Cond.fieldLink RX8 198 (TX5 4).1 (TX5 4).2.1 (TX5 4).2.2.1 ∈ lw_tbl := by decide +kernel
theorem lt_fl_X8_205 : Cond.fieldLink RX8 205 (TX5 8).1 (TX5 8).2.1 (TX5 8).2.2.1 ∈ lw_tbl := by decide +kernel
theorem lt_fl_X8_206 : Cond.fieldLink RX8 206 (TX5 9).1 (TX5 9).2.1 (TX5 9).2.2.1 ∈ lw_tbl := by decide +kernel
theorem lt_fl_X8_209 : Cond.fieldLink RX8 209 (TX5 10).1 (TX5 10).2.1 (TX5 10).2.2.1 ∈ lw_tbl := by decide +kernel
theorem lt_fl_X8_210 : Cond.fieldLink RX8 210 (TX5 2).1 (TX5 2).2.1 (TX5 2).2.2.1 ∈ lw_tbl := by decide +kernel
theorem lt_fl_X8_213 : Cond.fieldLink RX8 213 (TX5 3).1 (TX5 3).2.1 (TX5 3).2.2.1 ∈ lw_tbl := by decide +kernel
theorem lt_fl_X8_225 : Cond.fieldLink RX8 225 (TX0 3).1 (TX0 3).2.1 (TX0 3).2.2.1 ∈ lw_tbl := by decide +kernel
theorem lt_fl_X8_231 : Cond.fieldLink RX8 231 (TX4 2).1 (TX4 2).2.1 (TX4 2).2.2.1 ∈ lw_tbl := by decide +kernel
theorem lt_fl_X8_243 : Cond.fieldLink RX8 243 (TX0 2).1 (TX0 2).2.1 (TX0 2).2.2.1 ∈ lw_tbl := by decide +kernel
theorem lt_fl_X8_247 : Cond.fieldLink RX8 247 (TX4 0).1 (TX4 0).2.1 (TX4 0).2.2.1 ∈ lw_tbl := by decide +kernel
theorem lt_fl_X9_7 : Cond.fieldLink RX9 7 (TX9 0).1 (TX9 0).2.1 (TX9 0).2.2.1 ∈ lw_tbl := by decide +kernel
theorem lt_fl_X9_13 : Cond.fieldLink RX9 13 (TX9 1).1 (TX9 1).2.1 (TX9 1).2.2.1 ∈ lw_tbl := by decide +kernel
theorem lt_fl_X9_16 : Cond.fieldLink RX9 16 (TX9 3).1 (TX9 3).2.1 (TX9 3).2.2.1 ∈ lw_tbl := by decide +kernel
theorem lt_fl_X9_19 : Cond.fieldLink RX9 19 (TX9 5).1 (TX9 5).2.1 (TX9 5).2.2.1 ∈ lw_tbl := by decide +kernel
theorem lt_fl_X9_22 : Cond.fieldLink RX9 22 (TX9 7).1 (TX9 7).2.1 (TX9 7).2.2.1 ∈ lw_tbl := by decide +kernel
theorem lt_fl_X9_26 : Cond.fieldLink RX9 26 (TX9 8).1 (TX9 8).2.1 (TX9 8).2.2.1 ∈ lw_tbl := by decide +kernel
theorem lt_fl_X9_29 : Cond.fieldLink RX9 29 (TX9 11).1 (TX9 11).2.1 (TX9 11).2.2.1 ∈ lw_tbl := by decide +kernel
theorem lt_fl_X9_32 : Cond.fieldLink RX9 32 (TX9 12).1 (TX9 12).2.1 (TX9 12).2.2.1 ∈ lw_tbl := by decide +kernel
theorem lt_fl_X9_35 : Cond.fieldLink RX9 35 (TX9 13).1 (TX9 13).2.1 (TX9 13).2.2.1 ∈ lw_tbl := by decide +kernel
theorem lt_fl_X9_38 : Cond.fieldLink RX9 38 (TX9 14).1 (TX9 14).2.1 (TX9 14).2.2.1 ∈ lw_tbl := by decide +kernel
theorem lt_fl_X9_41 : Cond.fieldLink RX9 41 (TX9 17).1 (TX9 17).2.1 (TX9 17).2.2.1 ∈ lw_tbl := by decide +kernel
theorem lt_fl_X9_44 : Cond.fieldLink RX9 44 (TX9 18).1 (TX9 18).2.1 (TX9 18).2.2.1 ∈ lw_tbl := by decide +kernel
theorem lt_fl_X9_47 : Cond.fieldLink RX9 47 (TX9 19).1 (TX9 19).2.1 (TX9 19).2.2.1 ∈ lw_tbl := by decide +kernel
theorem lt_fl_X9_50 : Cond.fieldLink RX9 50 (TX9 21).1 (TX9 21).2.1 (TX9 21).2.2.1 ∈ lw_tbl := by decide +kernel
theorem lt_fl_X9_53 : Cond.fieldLink RX9 53 (TX9 22).1 (TX9 22).2.1 (TX9 22).2.2.1 ∈ lw_tbl := by decide +kernel
theorem lt_fl_X9_56 : Cond.fieldLink RX9 56 (TX9 23).1 (TX9 23).2.1 (TX9 23).2.2.1 ∈ lw_tbl := by decide +kernel
theorem lt_fl_X9_59 : Cond.fieldLink RX9 59 (TX9 2).1 (TX9 2).2.1 (TX9 2).2.2.1 ∈ lw_tbl := by decide +kernel
theorem lt_fl_X9_66 : Cond.fieldLink RX9 66 (TX9 9).1 (TX9 9).2.1 (TX9 9).2.2.1 ∈ lw_tbl := by decide +kernel
theorem lt_fl_X9_69 : Cond.fieldLink RX9 69 (TX9 10).1 (TX9 10).2.1 (TX9 10).2.2.1 ∈ lw_tbl := by decide +kernel
theorem lt_fl_X9_87 : Cond.fieldLink RX9 87 (TX9 15).1 (TX9 15).2.1 (TX9 15).2.2.1 ∈ lw_tbl := by decide +kernel
theorem lt_fl_X9_90 : Cond.fieldLink RX9 90 (TX9 16).1 (TX9 16).2.1 (TX9 16).2.2.1 ∈ lw_tbl := by decide +kernel
theorem lt_fl_X9_139 : Cond.fieldLink RX9 139 (TX9 24).1 (TX9 24).2.1 (TX9 24).2.2.1 ∈ lw_tbl := by decide +kernel
theorem lt_fl_X9_142 : Cond.fieldLink RX9 142 (TX9 25).1 (TX9 25).2.1 (TX9 25).2.2.1 ∈ lw_tbl := by decide +kernel
theorem lt_fl_X9_145 : Cond.fieldLink RX9 145 (TX9 26).1 (TX9 26).2.1 (TX9 26).2.2.1 ∈ lw_tbl := by decide +kernel
theorem lt_fl_X9_148 : Cond.fieldLink RX9 148 (TX9 27).1 (TX9 27).2.1 (TX9 27).2.2.1 ∈ lw_tbl := by decide +kernel
theorem lt_fl_X9_151 : Cond.fieldLink RX9 151 (TX9 30).1 (TX9 30).2.1 (TX9 30).2.2.1 ∈ lw_tbl := by decide +kernel
theorem lt_fl_X9_154 : Cond.fieldLink RX9 154 (TX9 20).1 (TX9 20).2.1 (TX9 20).2.2.1 ∈ lw_tbl := by decide +kernel
theorem lt_fl_X9_157 : Cond.fieldLink RX9 157 (TX9 29).1 (TX9 29).2.1 (TX9 29).2.2.1 ∈ lw_tbl := by decide +kernel
theorem lt_fl_X9_163 : Cond.fieldLink RX9 163 (TX9 28).1 (TX9 28).2.1 (TX9 28).2.2.1 ∈ lw_tbl := by decide +kernel
theorem lt_fl_X9_170 : Cond.fieldLink RX9 170 (TX9 6).1 (TX9 6).2.1 (TX9 6).2.2.1 ∈ lw_tbl := by decide +kernel
theorem lt_fl_X9_213 : Cond.fieldLink RX9 213 (TX9 4).1 (TX9 4).2.1 (TX9 4).2.2.1 ∈ lw_tbl := by decide +kernel
theorem lt_ml_X5_3 : Cond.methodLink RX5 3 Lib.objectInit ∈ lw_tbl := by decide +kernel
theorem lt_ml_X0_3 : Cond.methodLink RX0 3 Lib.objectInit ∈ lw_tbl := by decide +kernel
theorem lt_ml_X0_39 : Cond.methodLink RX0 39 arraycopyName ∈ lw_tbl := by decide +kernel
theorem lt_ml_X0_35 : Cond.methodLink RX0 35 yX5_copyFrom ∈ lw_tbl := by decide +kernel
theorem lt_ml_X5_18 : Cond.methodLink RX5 18 yX5_learn ∈ lw_tbl := by decide +kernel
theorem lt_ml_X0_54 : Cond.methodLink RX0 54 yX5_begin ∈ lw_tbl := by decide +kernel
theorem lt_ml_X5_59 : Cond.methodLink RX5 59 Lib.Math.max.name ∈ lw_tbl := by decide +kernel
theorem lt_ml_X5_65 : Cond.methodLink RX5 65 Lib.Math.min.name ∈ lw_tbl := by decide +kernel
theorem lt_ml_X0_58 : Cond.methodLink RX0 58 yX5_notesIn ∈ lw_tbl := by decide +kernel
theorem lt_ml_X0_62 : Cond.methodLink RX0 62 yX0_fits ∈ lw_tbl := by decide +kernel
theorem lt_ml_X0_66 : Cond.methodLink RX0 66 yX0_members ∈ lw_tbl := by decide +kernel
theorem lt_ml_X0_79 : Cond.methodLink RX0 79 yX0_strengthPresent ∈ lw_tbl := by decide +kernel
theorem lt_ml_X0_82 : Cond.methodLink RX0 82 yX0_covers ∈ lw_tbl := by decide +kernel
theorem lt_ml_X0_89 : Cond.methodLink RX0 89 Lib.Math.max.name ∈ lw_tbl := by decide +kernel
theorem lt_ml_X0_95 : Cond.methodLink RX0 95 yX0_width ∈ lw_tbl := by decide +kernel
theorem lt_ml_X0_99 : Cond.methodLink RX0 99 yX0_rows ∈ lw_tbl := by decide +kernel
theorem lt_ml_X0_102 : Cond.methodLink RX0 102 yX5_sitsBefore ∈ lw_tbl := by decide +kernel
theorem lt_ml_X1_3 : Cond.methodLink RX1 3 Lib.objectInit ∈ lw_tbl := by decide +kernel
theorem lt_ml_X1_17 : Cond.methodLink RX1 17 yX0_init ∈ lw_tbl := by decide +kernel
theorem lt_ml_X1_25 : Cond.methodLink RX1 25 yX0_copyFrom ∈ lw_tbl := by decide +kernel
theorem lt_ml_X6_3 : Cond.methodLink RX6 3 Lib.objectInit ∈ lw_tbl := by decide +kernel
theorem lt_ml_X2_3 : Cond.methodLink RX2 3 Lib.objectInit ∈ lw_tbl := by decide +kernel
theorem lt_ml_X2_11 : Cond.methodLink RX2 11 yX6_init ∈ lw_tbl := by decide +kernel
theorem lt_ml_X2_76 : Cond.methodLink RX2 76 yX6_addVoice ∈ lw_tbl := by decide +kernel
theorem lt_ml_X6_18 : Cond.methodLink RX6 18 yX6_gives ∈ lw_tbl := by decide +kernel
theorem lt_ml_X2_83 : Cond.methodLink RX2 83 Lib.Math.min.name ∈ lw_tbl := by decide +kernel
theorem lt_ml_X2_88 : Cond.methodLink RX2 88 Lib.Math.max.name ∈ lw_tbl := by decide +kernel
theorem lt_ml_X2_79 : Cond.methodLink RX2 79 yX6_evenest ∈ lw_tbl := by decide +kernel
theorem lt_ml_X2_46 : Cond.methodLink RX2 46 yX0_fittingParts ∈ lw_tbl := by decide +kernel
theorem lt_ml_X2_58 : Cond.methodLink RX2 58 yX2_addVoice ∈ lw_tbl := by decide +kernel
theorem lt_ml_X2_68 : Cond.methodLink RX2 68 yX2_weighPairs ∈ lw_tbl := by decide +kernel
theorem lt_ml_X6_26 : Cond.methodLink RX6 26 yX6_bits ∈ lw_tbl := by decide +kernel
theorem lt_ml_X2_105 : Cond.methodLink RX2 105 yX6_reaches ∈ lw_tbl := by decide +kernel
theorem lt_ml_X2_101 : Cond.methodLink RX2 101 yX2_pairCanReach ∈ lw_tbl := by decide +kernel
theorem lt_ml_X2_97 : Cond.methodLink RX2 97 yX2_canFinish ∈ lw_tbl := by decide +kernel
theorem lt_ml_X2_94 : Cond.methodLink RX2 94 yX2_firstGoodPart ∈ lw_tbl := by decide +kernel
theorem lt_ml_X3_3 : Cond.methodLink RX3 3 Lib.objectInit ∈ lw_tbl := by decide +kernel
theorem lt_ml_X3_76 : Cond.methodLink RX3 76 yX3_fail ∈ lw_tbl := by decide +kernel
theorem lt_ml_X3_88 : Cond.methodLink RX3 88 yX3_numberStands ∈ lw_tbl := by decide +kernel
theorem lt_ml_X3_91 : Cond.methodLink RX3 91 yX3_closeWord ∈ lw_tbl := by decide +kernel
theorem lt_ml_X3_62 : Cond.methodLink RX3 62 yX3_inNumber ∈ lw_tbl := by decide +kernel
theorem lt_ml_X3_66 : Cond.methodLink RX3 66 yX3_takeDigit ∈ lw_tbl := by decide +kernel
theorem lt_ml_X3_69 : Cond.methodLink RX3 69 yX3_takeBehindNumber ∈ lw_tbl := by decide +kernel
theorem lt_ml_X3_72 : Cond.methodLink RX3 72 yX3_beginNumber ∈ lw_tbl := by decide +kernel
theorem lt_ml_X3_54 : Cond.methodLink RX3 54 yX3_take ∈ lw_tbl := by decide +kernel
theorem lt_ml_X3_58 : Cond.methodLink RX3 58 yX3_end ∈ lw_tbl := by decide +kernel
theorem lt_ml_X3_38 : Cond.methodLink RX3 38 yX3_read ∈ lw_tbl := by decide +kernel
theorem lt_ml_X4_3 : Cond.methodLink RX4 3 Lib.objectInit ∈ lw_tbl := by decide +kernel
theorem lt_ml_X4_65 : Cond.methodLink RX4 65 yX0_fits ∈ lw_tbl := by decide +kernel
theorem lt_ml_X4_39 : Cond.methodLink RX4 39 yX0_covers ∈ lw_tbl := by decide +kernel
theorem lt_ml_X4_43 : Cond.methodLink RX4 43 yX4_canStandIn ∈ lw_tbl := by decide +kernel
theorem lt_ml_X4_69 : Cond.methodLink RX4 69 yX0_rested ∈ lw_tbl := by decide +kernel
theorem lt_ml_X4_73 : Cond.methodLink RX4 73 yX5_singsBefore ∈ lw_tbl := by decide +kernel
theorem lt_ml_X4_21 : Cond.methodLink RX4 21 yX0_strengthPresent ∈ lw_tbl := by decide +kernel
theorem lt_ml_X4_27 : Cond.methodLink RX4 27 yX4_findStandIns ∈ lw_tbl := by decide +kernel
theorem lt_ml_X4_31 : Cond.methodLink RX4 31 yX4_findSoloist ∈ lw_tbl := by decide +kernel
theorem lt_ml_X7_3 : Cond.methodLink RX7 3 Lib.objectInit ∈ lw_tbl := by decide +kernel
theorem lt_ml_X8_1 : Cond.methodLink RX8 1 Lib.objectInit ∈ lw_tbl := by decide +kernel
theorem lt_ml_X8_9 : Cond.methodLink RX8 9 yX0_init ∈ lw_tbl := by decide +kernel
theorem lt_ml_X8_18 : Cond.methodLink RX8 18 yX1_init ∈ lw_tbl := by decide +kernel
theorem lt_ml_X8_33 : Cond.methodLink RX8 33 yX7_init ∈ lw_tbl := by decide +kernel
theorem lt_ml_X8_40 : Cond.methodLink RX8 40 yX3_init ∈ lw_tbl := by decide +kernel
theorem lt_ml_X8_47 : Cond.methodLink RX8 47 yX4_init ∈ lw_tbl := by decide +kernel
theorem lt_ml_X8_54 : Cond.methodLink RX8 54 yX2_init ∈ lw_tbl := by decide +kernel
theorem lt_ml_X8_63 : Cond.methodLink RX8 63 yX1_record ∈ lw_tbl := by decide +kernel
theorem lt_ml_X8_67 : Cond.methodLink RX8 67 yX0_join ∈ lw_tbl := by decide +kernel
theorem lt_ml_X8_71 : Cond.methodLink RX8 71 yX0_has ∈ lw_tbl := by decide +kernel
theorem lt_ml_X8_75 : Cond.methodLink RX8 75 yX0_dismiss ∈ lw_tbl := by decide +kernel
theorem lt_ml_X8_79 : Cond.methodLink RX8 79 yX8_isSetting ∈ lw_tbl := by decide +kernel
theorem lt_ml_X8_96 : Cond.methodLink RX8 96 yX3_readTests ∈ lw_tbl := by decide +kernel
theorem lt_ml_X8_107 : Cond.methodLink RX8 107 yX5_learn ∈ lw_tbl := by decide +kernel
theorem lt_ml_X8_116 : Cond.methodLink RX8 116 yX8_isPart ∈ lw_tbl := by decide +kernel
theorem lt_ml_X8_119 : Cond.methodLink RX8 119 yX0_fits ∈ lw_tbl := by decide +kernel
theorem lt_ml_X8_126 : Cond.methodLink RX8 126 yX2_weigh ∈ lw_tbl := by decide +kernel
theorem lt_ml_X8_130 : Cond.methodLink RX8 130 yX2_choose ∈ lw_tbl := by decide +kernel
theorem lt_ml_X8_136 : Cond.methodLink RX8 136 yX3_readAbsent ∈ lw_tbl := by decide +kernel
theorem lt_ml_X8_140 : Cond.methodLink RX8 140 yX8_contains ∈ lw_tbl := by decide +kernel
theorem lt_ml_X8_148 : Cond.methodLink RX8 148 yX0_absent ∈ lw_tbl := by decide +kernel
theorem lt_ml_X8_155 : Cond.methodLink RX8 155 yX4_plan ∈ lw_tbl := by decide +kernel
theorem lt_ml_X8_158 : Cond.methodLink RX8 158 yX4_happen ∈ lw_tbl := by decide +kernel
theorem lt_ml_X8_165 : Cond.methodLink RX8 165 yX1_restore ∈ lw_tbl := by decide +kernel
theorem lt_ml_X8_180 : Cond.methodLink RX8 180 yX0_placed ∈ lw_tbl := by decide +kernel
theorem lt_ml_X8_183 : Cond.methodLink RX8 183 yX0_coveredParts ∈ lw_tbl := by decide +kernel
theorem lt_ml_X8_201 : Cond.methodLink RX8 201 yX0_fittingParts ∈ lw_tbl := by decide +kernel
theorem lt_ml_X8_214 : Cond.methodLink RX8 214 yX5_notesIn ∈ lw_tbl := by decide +kernel
theorem lt_ml_X8_217 : Cond.methodLink RX8 217 yX0_members ∈ lw_tbl := by decide +kernel
theorem lt_ml_X8_220 : Cond.methodLink RX8 220 yX0_strength ∈ lw_tbl := by decide +kernel
theorem lt_ml_X8_222 : Cond.methodLink RX8 222 yX0_strengthPresent ∈ lw_tbl := by decide +kernel
theorem lt_ml_X8_228 : Cond.methodLink RX8 228 yX0_rows ∈ lw_tbl := by decide +kernel
theorem lt_ml_X8_234 : Cond.methodLink RX8 234 yX0_seatedBefore ∈ lw_tbl := by decide +kernel
theorem lt_ml_X8_237 : Cond.methodLink RX8 237 yX0_rowsBefore ∈ lw_tbl := by decide +kernel
theorem lt_ml_X8_240 : Cond.methodLink RX8 240 yX0_width ∈ lw_tbl := by decide +kernel
theorem lt_ml_X8_250 : Cond.methodLink RX8 250 yX0_rested ∈ lw_tbl := by decide +kernel
theorem lt_ml_X8_254 : Cond.methodLink RX8 254 yX8_isImage ∈ lw_tbl := by decide +kernel
theorem lt_ml_X8_257 : Cond.methodLink RX8 257 yX0_copyFrom ∈ lw_tbl := by decide +kernel
theorem lt_ml_X9_1 : Cond.methodLink RX9 1 Lib.objectInit ∈ lw_tbl := by decide +kernel
theorem lt_ml_X9_62 : Cond.methodLink RX9 62 yX9_isIn ∈ lw_tbl := by decide +kernel
theorem lt_ml_X9_72 : Cond.methodLink RX9 72 yX9_of ∈ lw_tbl := by decide +kernel
theorem lt_ml_X9_76 : Cond.methodLink RX9 76 yX9_findRange ∈ lw_tbl := by decide +kernel
theorem lt_ml_X9_80 : Cond.methodLink RX9 80 yX9_overlapOf ∈ lw_tbl := by decide +kernel
theorem lt_ml_X9_83 : Cond.methodLink RX9 83 yX9_isFit ∈ lw_tbl := by decide +kernel
theorem lt_ml_X9_93 : Cond.methodLink RX9 93 yX9_fits ∈ lw_tbl := by decide +kernel
theorem lt_ml_X9_97 : Cond.methodLink RX9 97 yX9_nextPart ∈ lw_tbl := by decide +kernel
theorem lt_ml_X9_100 : Cond.methodLink RX9 100 yX9_change ∈ lw_tbl := by decide +kernel
theorem lt_ml_X9_104 : Cond.methodLink RX9 104 yX9_judge ∈ lw_tbl := by decide +kernel
theorem lt_ml_X9_107 : Cond.methodLink RX9 107 yX9_remember ∈ lw_tbl := by decide +kernel
theorem lt_ml_X9_110 : Cond.methodLink RX9 110 yX9_findBest ∈ lw_tbl := by decide +kernel
theorem lt_ml_X9_113 : Cond.methodLink RX9 113 yX9_put ∈ lw_tbl := by decide +kernel
theorem lt_ml_X9_117 : Cond.methodLink RX9 117 yX9_isSinger ∈ lw_tbl := by decide +kernel
theorem lt_ml_X9_121 : Cond.methodLink RX9 121 yX9_presentStrength ∈ lw_tbl := by decide +kernel
theorem lt_ml_X9_124 : Cond.methodLink RX9 124 yX9_isFree ∈ lw_tbl := by decide +kernel
theorem lt_ml_X9_127 : Cond.methodLink RX9 127 yX9_findStandIns ∈ lw_tbl := by decide +kernel
theorem lt_ml_X9_130 : Cond.methodLink RX9 130 yX9_isRested ∈ lw_tbl := by decide +kernel
theorem lt_ml_X9_133 : Cond.methodLink RX9 133 yX9_isBefore ∈ lw_tbl := by decide +kernel
theorem lt_ml_X9_136 : Cond.methodLink RX9 136 yX9_findSolos ∈ lw_tbl := by decide +kernel
theorem lt_ml_X9_160 : Cond.methodLink RX9 160 yX9_fails ∈ lw_tbl := by decide +kernel
theorem lt_ml_X9_166 : Cond.methodLink RX9 166 yX9_endsWell ∈ lw_tbl := by decide +kernel
theorem lt_ml_X9_173 : Cond.methodLink RX9 173 yX9_readDigit ∈ lw_tbl := by decide +kernel
theorem lt_ml_X9_176 : Cond.methodLink RX9 176 yX9_readOther ∈ lw_tbl := by decide +kernel
theorem lt_ml_X9_180 : Cond.methodLink RX9 180 yX9_hasFault ∈ lw_tbl := by decide +kernel
theorem lt_ml_X9_184 : Cond.methodLink RX9 184 yX9_rangeSize ∈ lw_tbl := by decide +kernel
theorem lt_ml_X9_187 : Cond.methodLink RX9 187 yX9_absent ∈ lw_tbl := by decide +kernel
theorem lt_ml_X9_191 : Cond.methodLink RX9 191 yX9_isOf ∈ lw_tbl := by decide +kernel
theorem lt_ml_X9_194 : Cond.methodLink RX9 194 yX9_isPart ∈ lw_tbl := by decide +kernel
theorem lt_ml_X9_197 : Cond.methodLink RX9 197 yX9_placedIn ∈ lw_tbl := by decide +kernel
theorem lt_ml_X9_200 : Cond.methodLink RX9 200 yX9_covered ∈ lw_tbl := by decide +kernel
theorem lt_ml_X9_203 : Cond.methodLink RX9 203 yX9_strengthOf ∈ lw_tbl := by decide +kernel
theorem lt_ml_X9_206 : Cond.methodLink RX9 206 yX9_rows ∈ lw_tbl := by decide +kernel
theorem lt_ml_X9_210 : Cond.methodLink RX9 210 yX9_isImage ∈ lw_tbl := by decide +kernel
theorem lt_ml_L_9 : Cond.methodLink RL 9 yX8_init ∈ lw_tbl := by decide +kernel
theorem lt_ml_L_12 : Cond.methodLink RL 12 yX9_init ∈ lw_tbl := by decide +kernel
theorem lt_ml_L_13 : Cond.methodLink RL 13 yX8_add ∈ lw_tbl := by decide +kernel
theorem lt_ml_L_17 : Cond.methodLink RL 17 yX9_add ∈ lw_tbl := by decide +kernel
theorem lt_ml_L_18 : Cond.methodLink RL 18 yX8_remove ∈ lw_tbl := by decide +kernel
theorem lt_ml_L_22 : Cond.methodLink RL 22 yX9_remove ∈ lw_tbl := by decide +kernel
theorem lt_ml_L_23 : Cond.methodLink RL 23 yX8_set ∈ lw_tbl := by decide +kernel
theorem lt_ml_L_26 : Cond.methodLink RL 26 yX9_set ∈ lw_tbl := by decide +kernel
theorem lt_ml_L_27 : Cond.methodLink RL 27 yX8_test ∈ lw_tbl := by decide +kernel
theorem lt_ml_L_30 : Cond.methodLink RL 30 yX9_test ∈ lw_tbl := by decide +kernel
theorem lt_ml_L_31 : Cond.methodLink RL 31 yX8_place ∈ lw_tbl := by decide +kernel
theorem lt_ml_L_34 : Cond.methodLink RL 34 yX9_place ∈ lw_tbl := by decide +kernel
theorem lt_ml_L_35 : Cond.methodLink RL 35 yX8_placeAll ∈ lw_tbl := by decide +kernel
theorem lt_ml_L_39 : Cond.methodLink RL 39 yX9_placeAll ∈ lw_tbl := by decide +kernel
theorem lt_ml_L_40 : Cond.methodLink RL 40 yX8_attendance ∈ lw_tbl := by decide +kernel
theorem lt_ml_L_43 : Cond.methodLink RL 43 yX9_attendance ∈ lw_tbl := by decide +kernel
theorem lt_ml_L_44 : Cond.methodLink RL 44 yX8_hold ∈ lw_tbl := by decide +kernel
theorem lt_ml_L_47 : Cond.methodLink RL 47 yX9_hold ∈ lw_tbl := by decide +kernel
theorem lt_ml_L_48 : Cond.methodLink RL 48 yX8_undo ∈ lw_tbl := by decide +kernel
theorem lt_ml_L_51 : Cond.methodLink RL 51 yX9_undo ∈ lw_tbl := by decide +kernel
theorem lt_ml_L_52 : Cond.methodLink RL 52 yX8_write ∈ lw_tbl := by decide +kernel
theorem lt_ml_L_55 : Cond.methodLink RL 55 yX9_write ∈ lw_tbl := by decide +kernel
theorem lt_ml_L_56 : Cond.methodLink RL 56 yX8_wipe ∈ lw_tbl := by decide +kernel
theorem lt_ml_L_59 : Cond.methodLink RL 59 yX9_wipe ∈ lw_tbl := by decide +kernel
theorem lt_ml_L_60 : Cond.methodLink RL 60 yX8_fault ∈ lw_tbl := by decide +kernel
theorem lt_ml_L_63 : Cond.methodLink RL 63 yX9_fault ∈ lw_tbl := by decide +kernel
theorem lt_ml_L_64 : Cond.methodLink RL 64 yX8_told ∈ lw_tbl := by decide +kernel
theorem lt_ml_L_67 : Cond.methodLink RL 67 yX9_told ∈ lw_tbl := by decide +kernel
theorem lt_ml_L_68 : Cond.methodLink RL 68 yX8_setting ∈ lw_tbl := by decide +kernel
theorem lt_ml_L_71 : Cond.methodLink RL 71 yX9_setting ∈ lw_tbl := by decide +kernel
theorem lt_ml_L_72 : Cond.methodLink RL 72 yX8_singer ∈ lw_tbl := by decide +kernel
theorem lt_ml_L_75 : Cond.methodLink RL 75 yX9_singer ∈ lw_tbl := by decide +kernel
theorem lt_ml_L_76 : Cond.methodLink RL 76 yX8_note ∈ lw_tbl := by decide +kernel
theorem lt_ml_L_79 : Cond.methodLink RL 79 yX9_note ∈ lw_tbl := by decide +kernel
theorem lt_ml_L_80 : Cond.methodLink RL 80 yX8_overlap ∈ lw_tbl := by decide +kernel
theorem lt_ml_L_83 : Cond.methodLink RL 83 yX9_overlap ∈ lw_tbl := by decide +kernel
theorem lt_ml_L_84 : Cond.methodLink RL 84 yX8_part ∈ lw_tbl := by decide +kernel
theorem lt_ml_L_87 : Cond.methodLink RL 87 yX9_part ∈ lw_tbl := by decide +kernel
theorem lt_ml_L_88 : Cond.methodLink RL 88 yX8_seat ∈ lw_tbl := by decide +kernel
theorem lt_ml_L_91 : Cond.methodLink RL 91 yX9_seat ∈ lw_tbl := by decide +kernel
theorem lt_ml_L_92 : Cond.methodLink RL 92 yX8_solo ∈ lw_tbl := by decide +kernel
theorem lt_ml_L_95 : Cond.methodLink RL 95 yX9_solo ∈ lw_tbl := by decide +kernel
theorem lt_ml_L_96 : Cond.methodLink RL 96 yX8_mean ∈ lw_tbl := by decide +kernel
theorem lt_ml_L_100 : Cond.methodLink RL 100 yX9_mean ∈ lw_tbl := by decide +kernel
theorem lt_ml_L_101 : Cond.methodLink RL 101 yX8_standIn ∈ lw_tbl := by decide +kernel
theorem lt_ml_L_104 : Cond.methodLink RL 104 yX9_standIn ∈ lw_tbl := by decide +kernel
theorem lt_ml_L_105 : Cond.methodLink RL 105 yX8_passedOver ∈ lw_tbl := by decide +kernel
theorem lt_ml_L_108 : Cond.methodLink RL 108 yX9_passedOver ∈ lw_tbl := by decide +kernel
theorem lt_ml_L_109 : Cond.methodLink RL 109 yX8_without ∈ lw_tbl := by decide +kernel
theorem lt_ml_L_112 : Cond.methodLink RL 112 yX9_without ∈ lw_tbl := by decide +kernel
theorem lt_ml_L_113 : Cond.methodLink RL 113 yX8_keep ∈ lw_tbl := by decide +kernel
theorem lt_ml_L_116 : Cond.methodLink RL 116 yX9_keep ∈ lw_tbl := by decide +kernel
theorem lt_ml_L_117 : Cond.methodLink RL 117 yX8_back ∈ lw_tbl := by decide +kernel
theorem lt_ml_L_120 : Cond.methodLink RL 120 yX9_back ∈ lw_tbl := by decide +kernel
theorem lt_st_X6_bits : Cond.static yX6_bits ∈ lw_tbl := by decide +kernel
theorem lt_st_X8_contains : Cond.static yX8_contains ∈ lw_tbl := by decide +kernel
theorem lt_st_X8_isImage : Cond.static yX8_isImage ∈ lw_tbl := by decide +kernel
theorem lt_st_X8_isPart : Cond.static yX8_isPart ∈ lw_tbl := by decide +kernel
theorem lt_st_X8_isSetting : Cond.static yX8_isSetting ∈ lw_tbl := by decide +kernel
theorem lt_st_X9_isImage : Cond.static yX9_isImage ∈ lw_tbl := by decide +kernel
theorem lt_st_X9_isIn : Cond.static yX9_isIn ∈ lw_tbl := by decide +kernel
theorem lt_st_X9_isOf : Cond.static yX9_isOf ∈ lw_tbl := by decide +kernel
theorem lt_st_X9_isPart : Cond.static yX9_isPart ∈ lw_tbl := by decide +kernel
theorem lt_im_X0_absent : Cond.instanceMethod yX0_absent ∈ lw_tbl := by decide +kernel
theorem lt_im_X0_copyFrom : Cond.instanceMethod yX0_copyFrom ∈ lw_tbl := by decide +kernel
theorem lt_im_X0_coveredParts : Cond.instanceMethod yX0_coveredParts ∈ lw_tbl := by decide +kernel
theorem lt_im_X0_covers : Cond.instanceMethod yX0_covers ∈ lw_tbl := by decide +kernel
theorem lt_im_X0_dismiss : Cond.instanceMethod yX0_dismiss ∈ lw_tbl := by decide +kernel
theorem lt_im_X0_fits : Cond.instanceMethod yX0_fits ∈ lw_tbl := by decide +kernel
theorem lt_im_X0_fittingParts : Cond.instanceMethod yX0_fittingParts ∈ lw_tbl := by decide +kernel
theorem lt_im_X0_has : Cond.instanceMethod yX0_has ∈ lw_tbl := by decide +kernel
theorem lt_im_X0_init : Cond.instanceMethod yX0_init ∈ lw_tbl := by decide +kernel
theorem lt_im_X0_join : Cond.instanceMethod yX0_join ∈ lw_tbl := by decide +kernel
theorem lt_im_X0_members : Cond.instanceMethod yX0_members ∈ lw_tbl := by decide +kernel
theorem lt_im_X0_placed : Cond.instanceMethod yX0_placed ∈ lw_tbl := by decide +kernel
theorem lt_im_X0_rested : Cond.instanceMethod yX0_rested ∈ lw_tbl := by decide +kernel
theorem lt_im_X0_rows : Cond.instanceMethod yX0_rows ∈ lw_tbl := by decide +kernel
theorem lt_im_X0_rowsBefore : Cond.instanceMethod yX0_rowsBefore ∈ lw_tbl := by decide +kernel
theorem lt_im_X0_seatedBefore : Cond.instanceMethod yX0_seatedBefore ∈ lw_tbl := by decide +kernel
theorem lt_im_X0_strength : Cond.instanceMethod yX0_strength ∈ lw_tbl := by decide +kernel
theorem lt_im_X0_strengthPresent : Cond.instanceMethod yX0_strengthPresent ∈ lw_tbl := by decide +kernel
theorem lt_im_X0_width : Cond.instanceMethod yX0_width ∈ lw_tbl := by decide +kernel
theorem lt_im_X1_init : Cond.instanceMethod yX1_init ∈ lw_tbl := by decide +kernel
theorem lt_im_X1_record : Cond.instanceMethod yX1_record ∈ lw_tbl := by decide +kernel
theorem lt_im_X1_restore : Cond.instanceMethod yX1_restore ∈ lw_tbl := by decide +kernel
theorem lt_im_X2_addVoice : Cond.instanceMethod yX2_addVoice ∈ lw_tbl := by decide +kernel
theorem lt_im_X2_canFinish : Cond.instanceMethod yX2_canFinish ∈ lw_tbl := by decide +kernel
theorem lt_im_X2_choose : Cond.instanceMethod yX2_choose ∈ lw_tbl := by decide +kernel
theorem lt_im_X2_firstGoodPart : Cond.instanceMethod yX2_firstGoodPart ∈ lw_tbl := by decide +kernel
theorem lt_im_X2_init : Cond.instanceMethod yX2_init ∈ lw_tbl := by decide +kernel
theorem lt_im_X2_pairCanReach : Cond.instanceMethod yX2_pairCanReach ∈ lw_tbl := by decide +kernel
theorem lt_im_X2_weigh : Cond.instanceMethod yX2_weigh ∈ lw_tbl := by decide +kernel
theorem lt_im_X2_weighPairs : Cond.instanceMethod yX2_weighPairs ∈ lw_tbl := by decide +kernel
theorem lt_im_X3_beginNumber : Cond.instanceMethod yX3_beginNumber ∈ lw_tbl := by decide +kernel
theorem lt_im_X3_closeWord : Cond.instanceMethod yX3_closeWord ∈ lw_tbl := by decide +kernel
theorem lt_im_X3_end : Cond.instanceMethod yX3_end ∈ lw_tbl := by decide +kernel
theorem lt_im_X3_fail : Cond.instanceMethod yX3_fail ∈ lw_tbl := by decide +kernel
theorem lt_im_X3_inNumber : Cond.instanceMethod yX3_inNumber ∈ lw_tbl := by decide +kernel
theorem lt_im_X3_init : Cond.instanceMethod yX3_init ∈ lw_tbl := by decide +kernel
theorem lt_im_X3_numberStands : Cond.instanceMethod yX3_numberStands ∈ lw_tbl := by decide +kernel
theorem lt_im_X3_read : Cond.instanceMethod yX3_read ∈ lw_tbl := by decide +kernel
theorem lt_im_X3_readAbsent : Cond.instanceMethod yX3_readAbsent ∈ lw_tbl := by decide +kernel
theorem lt_im_X3_readTests : Cond.instanceMethod yX3_readTests ∈ lw_tbl := by decide +kernel
theorem lt_im_X3_take : Cond.instanceMethod yX3_take ∈ lw_tbl := by decide +kernel
theorem lt_im_X3_takeBehindNumber : Cond.instanceMethod yX3_takeBehindNumber ∈ lw_tbl := by decide +kernel
theorem lt_im_X3_takeDigit : Cond.instanceMethod yX3_takeDigit ∈ lw_tbl := by decide +kernel
theorem lt_im_X4_canStandIn : Cond.instanceMethod yX4_canStandIn ∈ lw_tbl := by decide +kernel
theorem lt_im_X4_findSoloist : Cond.instanceMethod yX4_findSoloist ∈ lw_tbl := by decide +kernel
theorem lt_im_X4_findStandIns : Cond.instanceMethod yX4_findStandIns ∈ lw_tbl := by decide +kernel
theorem lt_im_X4_happen : Cond.instanceMethod yX4_happen ∈ lw_tbl := by decide +kernel
theorem lt_im_X4_init : Cond.instanceMethod yX4_init ∈ lw_tbl := by decide +kernel
theorem lt_im_X4_plan : Cond.instanceMethod yX4_plan ∈ lw_tbl := by decide +kernel
theorem lt_im_X5_begin : Cond.instanceMethod yX5_begin ∈ lw_tbl := by decide +kernel
theorem lt_im_X5_copyFrom : Cond.instanceMethod yX5_copyFrom ∈ lw_tbl := by decide +kernel
theorem lt_im_X5_init : Cond.instanceMethod yX5_init ∈ lw_tbl := by decide +kernel
theorem lt_im_X5_learn : Cond.instanceMethod yX5_learn ∈ lw_tbl := by decide +kernel
theorem lt_im_X5_notesIn : Cond.instanceMethod yX5_notesIn ∈ lw_tbl := by decide +kernel
theorem lt_im_X5_singsBefore : Cond.instanceMethod yX5_singsBefore ∈ lw_tbl := by decide +kernel
theorem lt_im_X5_sitsBefore : Cond.instanceMethod yX5_sitsBefore ∈ lw_tbl := by decide +kernel
theorem lt_im_X6_addVoice : Cond.instanceMethod yX6_addVoice ∈ lw_tbl := by decide +kernel
theorem lt_im_X6_evenest : Cond.instanceMethod yX6_evenest ∈ lw_tbl := by decide +kernel
theorem lt_im_X6_gives : Cond.instanceMethod yX6_gives ∈ lw_tbl := by decide +kernel
theorem lt_im_X6_init : Cond.instanceMethod yX6_init ∈ lw_tbl := by decide +kernel
theorem lt_im_X6_reaches : Cond.instanceMethod yX6_reaches ∈ lw_tbl := by decide +kernel
theorem lt_im_X7_init : Cond.instanceMethod yX7_init ∈ lw_tbl := by decide +kernel
theorem lt_im_X8_add : Cond.instanceMethod yX8_add ∈ lw_tbl := by decide +kernel
theorem lt_im_X8_attendance : Cond.instanceMethod yX8_attendance ∈ lw_tbl := by decide +kernel
theorem lt_im_X8_back : Cond.instanceMethod yX8_back ∈ lw_tbl := by decide +kernel
theorem lt_im_X8_fault : Cond.instanceMethod yX8_fault ∈ lw_tbl := by decide +kernel
theorem lt_im_X8_hold : Cond.instanceMethod yX8_hold ∈ lw_tbl := by decide +kernel
theorem lt_im_X8_init : Cond.instanceMethod yX8_init ∈ lw_tbl := by decide +kernel
theorem lt_im_X8_keep : Cond.instanceMethod yX8_keep ∈ lw_tbl := by decide +kernel
theorem lt_im_X8_mean : Cond.instanceMethod yX8_mean ∈ lw_tbl := by decide +kernel
theorem lt_im_X8_note : Cond.instanceMethod yX8_note ∈ lw_tbl := by decide +kernel
theorem lt_im_X8_overlap : Cond.instanceMethod yX8_overlap ∈ lw_tbl := by decide +kernel
theorem lt_im_X8_part : Cond.instanceMethod yX8_part ∈ lw_tbl := by decide +kernel
theorem lt_im_X8_passedOver : Cond.instanceMethod yX8_passedOver ∈ lw_tbl := by decide +kernel
theorem lt_im_X8_place : Cond.instanceMethod yX8_place ∈ lw_tbl := by decide +kernel
theorem lt_im_X8_placeAll : Cond.instanceMethod yX8_placeAll ∈ lw_tbl := by decide +kernel
theorem lt_im_X8_remove : Cond.instanceMethod yX8_remove ∈ lw_tbl := by decide +kernel
theorem lt_im_X8_seat : Cond.instanceMethod yX8_seat ∈ lw_tbl := by decide +kernel
theorem lt_im_X8_set : Cond.instanceMethod yX8_set ∈ lw_tbl := by decide +kernel
theorem lt_im_X8_setting : Cond.instanceMethod yX8_setting ∈ lw_tbl := by decide +kernel
theorem lt_im_X8_singer : Cond.instanceMethod yX8_singer ∈ lw_tbl := by decide +kernel
theorem lt_im_X8_solo : Cond.instanceMethod yX8_solo ∈ lw_tbl := by decide +kernel
theorem lt_im_X8_standIn : Cond.instanceMethod yX8_standIn ∈ lw_tbl := by decide +kernel
theorem lt_im_X8_test : Cond.instanceMethod yX8_test ∈ lw_tbl := by decide +kernel
theorem lt_im_X8_told : Cond.instanceMethod yX8_told ∈ lw_tbl := by decide +kernel
theorem lt_im_X8_undo : Cond.instanceMethod yX8_undo ∈ lw_tbl := by decide +kernel
theorem lt_im_X8_wipe : Cond.instanceMethod yX8_wipe ∈ lw_tbl := by decide +kernel
theorem lt_im_X8_without : Cond.instanceMethod yX8_without ∈ lw_tbl := by decide +kernel
theorem lt_im_X8_write : Cond.instanceMethod yX8_write ∈ lw_tbl := by decide +kernel
theorem lt_im_X9_absent : Cond.instanceMethod yX9_absent ∈ lw_tbl := by decide +kernel
theorem lt_im_X9_add : Cond.instanceMethod yX9_add ∈ lw_tbl := by decide +kernel
theorem lt_im_X9_attendance : Cond.instanceMethod yX9_attendance ∈ lw_tbl := by decide +kernel
theorem lt_im_X9_back : Cond.instanceMethod yX9_back ∈ lw_tbl := by decide +kernel
theorem lt_im_X9_change : Cond.instanceMethod yX9_change ∈ lw_tbl := by decide +kernel
theorem lt_im_X9_covered : Cond.instanceMethod yX9_covered ∈ lw_tbl := by decide +kernel
theorem lt_im_X9_endsWell : Cond.instanceMethod yX9_endsWell ∈ lw_tbl := by decide +kernel
theorem lt_im_X9_fails : Cond.instanceMethod yX9_fails ∈ lw_tbl := by decide +kernel
theorem lt_im_X9_fault : Cond.instanceMethod yX9_fault ∈ lw_tbl := by decide +kernel
theorem lt_im_X9_findBest : Cond.instanceMethod yX9_findBest ∈ lw_tbl := by decide +kernel
theorem lt_im_X9_findRange : Cond.instanceMethod yX9_findRange ∈ lw_tbl := by decide +kernel
theorem lt_im_X9_findSolos : Cond.instanceMethod yX9_findSolos ∈ lw_tbl := by decide +kernel
theorem lt_im_X9_findStandIns : Cond.instanceMethod yX9_findStandIns ∈ lw_tbl := by decide +kernel
theorem lt_im_X9_fits : Cond.instanceMethod yX9_fits ∈ lw_tbl := by decide +kernel
theorem lt_im_X9_hasFault : Cond.instanceMethod yX9_hasFault ∈ lw_tbl := by decide +kernel
theorem lt_im_X9_hold : Cond.instanceMethod yX9_hold ∈ lw_tbl := by decide +kernel
theorem lt_im_X9_init : Cond.instanceMethod yX9_init ∈ lw_tbl := by decide +kernel
theorem lt_im_X9_isBefore : Cond.instanceMethod yX9_isBefore ∈ lw_tbl := by decide +kernel
theorem lt_im_X9_isFit : Cond.instanceMethod yX9_isFit ∈ lw_tbl := by decide +kernel
theorem lt_im_X9_isFree : Cond.instanceMethod yX9_isFree ∈ lw_tbl := by decide +kernel
theorem lt_im_X9_isRested : Cond.instanceMethod yX9_isRested ∈ lw_tbl := by decide +kernel
theorem lt_im_X9_isSinger : Cond.instanceMethod yX9_isSinger ∈ lw_tbl := by decide +kernel
theorem lt_im_X9_judge : Cond.instanceMethod yX9_judge ∈ lw_tbl := by decide +kernel
theorem lt_im_X9_keep : Cond.instanceMethod yX9_keep ∈ lw_tbl := by decide +kernel
theorem lt_im_X9_mean : Cond.instanceMethod yX9_mean ∈ lw_tbl := by decide +kernel
theorem lt_im_X9_nextPart : Cond.instanceMethod yX9_nextPart ∈ lw_tbl := by decide +kernel
theorem lt_im_X9_note : Cond.instanceMethod yX9_note ∈ lw_tbl := by decide +kernel
theorem lt_im_X9_of : Cond.instanceMethod yX9_of ∈ lw_tbl := by decide +kernel
theorem lt_im_X9_overlap : Cond.instanceMethod yX9_overlap ∈ lw_tbl := by decide +kernel
theorem lt_im_X9_overlapOf : Cond.instanceMethod yX9_overlapOf ∈ lw_tbl := by decide +kernel
theorem lt_im_X9_part : Cond.instanceMethod yX9_part ∈ lw_tbl := by decide +kernel
theorem lt_im_X9_passedOver : Cond.instanceMethod yX9_passedOver ∈ lw_tbl := by decide +kernel
theorem lt_im_X9_place : Cond.instanceMethod yX9_place ∈ lw_tbl := by decide +kernel
theorem lt_im_X9_placeAll : Cond.instanceMethod yX9_placeAll ∈ lw_tbl := by decide +kernel
theorem lt_im_X9_placedIn : Cond.instanceMethod yX9_placedIn ∈ lw_tbl := by decide +kernel
theorem lt_im_X9_presentStrength : Cond.instanceMethod yX9_presentStrength ∈ lw_tbl := by decide +kernel
theorem lt_im_X9_put : Cond.instanceMethod yX9_put ∈ lw_tbl := by decide +kernel
theorem lt_im_X9_rangeSize : Cond.instanceMethod yX9_rangeSize ∈ lw_tbl := by decide +kernel
theorem lt_im_X9_readDigit : Cond.instanceMethod yX9_readDigit ∈ lw_tbl := by decide +kernel
theorem lt_im_X9_readOther : Cond.instanceMethod yX9_readOther ∈ lw_tbl := by decide +kernel
theorem lt_im_X9_remember : Cond.instanceMethod yX9_remember ∈ lw_tbl := by decide +kernel
theorem lt_im_X9_remove : Cond.instanceMethod yX9_remove ∈ lw_tbl := by decide +kernel
theorem lt_im_X9_rows : Cond.instanceMethod yX9_rows ∈ lw_tbl := by decide +kernel
theorem lt_im_X9_seat : Cond.instanceMethod yX9_seat ∈ lw_tbl := by decide +kernel
theorem lt_im_X9_set : Cond.instanceMethod yX9_set ∈ lw_tbl := by decide +kernel
theorem lt_im_X9_setting : Cond.instanceMethod yX9_setting ∈ lw_tbl := by decide +kernel
theorem lt_im_X9_singer : Cond.instanceMethod yX9_singer ∈ lw_tbl := by decide +kernel
theorem lt_im_X9_solo : Cond.instanceMethod yX9_solo ∈ lw_tbl := by decide +kernel
theorem lt_im_X9_standIn : Cond.instanceMethod yX9_standIn ∈ lw_tbl := by decide +kernel
theorem lt_im_X9_strengthOf : Cond.instanceMethod yX9_strengthOf ∈ lw_tbl := by decide +kernel
theorem lt_im_X9_test : Cond.instanceMethod yX9_test ∈ lw_tbl := by decide +kernel
theorem lt_im_X9_told : Cond.instanceMethod yX9_told ∈ lw_tbl := by decide +kernel
theorem lt_im_X9_undo : Cond.instanceMethod yX9_undo ∈ lw_tbl := by decide +kernel
theorem lt_im_X9_wipe : Cond.instanceMethod yX9_wipe ∈ lw_tbl := by decide +kernel
theorem lt_im_X9_without : Cond.instanceMethod yX9_without ∈ lw_tbl := by decide +kernel
theorem lt_im_X9_write : Cond.instanceMethod yX9_write ∈ lw_tbl := by decide +kernel
theorem lt_se_X0_absent : Cond.selects RX0 yX0_absent yX0_absent ∈ lw_tbl := by decide +kernel
theorem lt_se_X0_copyFrom : Cond.selects RX0 yX0_copyFrom yX0_copyFrom ∈ lw_tbl := by decide +kernel
theorem lt_se_X0_coveredParts : Cond.selects RX0 yX0_coveredParts yX0_coveredParts ∈ lw_tbl := by decide +kernel
theorem lt_se_X0_covers : Cond.selects RX0 yX0_covers yX0_covers ∈ lw_tbl := by decide +kernel
theorem lt_se_X0_dismiss : Cond.selects RX0 yX0_dismiss yX0_dismiss ∈ lw_tbl := by decide +kernel
theorem lt_se_X0_fits : Cond.selects RX0 yX0_fits yX0_fits ∈ lw_tbl := by decide +kernel
theorem lt_se_X0_fittingParts : Cond.selects RX0 yX0_fittingParts yX0_fittingParts ∈ lw_tbl := by decide +kernel
theorem lt_se_X0_has : Cond.selects RX0 yX0_has yX0_has ∈ lw_tbl := by decide +kernel
theorem lt_se_X0_join : Cond.selects RX0 yX0_join yX0_join ∈ lw_tbl := by decide +kernel
theorem lt_se_X0_members : Cond.selects RX0 yX0_members yX0_members ∈ lw_tbl := by decide +kernel
theorem lt_se_X0_placed : Cond.selects RX0 yX0_placed yX0_placed ∈ lw_tbl := by decide +kernel
theorem lt_se_X0_rested : Cond.selects RX0 yX0_rested yX0_rested ∈ lw_tbl := by decide +kernel
theorem lt_se_X0_rows : Cond.selects RX0 yX0_rows yX0_rows ∈ lw_tbl := by decide +kernel
theorem lt_se_X0_rowsBefore : Cond.selects RX0 yX0_rowsBefore yX0_rowsBefore ∈ lw_tbl := by decide +kernel
theorem lt_se_X0_seatedBefore : Cond.selects RX0 yX0_seatedBefore yX0_seatedBefore ∈ lw_tbl := by decide +kernel
theorem lt_se_X0_strength : Cond.selects RX0 yX0_strength yX0_strength ∈ lw_tbl := by decide +kernel
theorem lt_se_X0_strengthPresent : Cond.selects RX0 yX0_strengthPresent yX0_strengthPresent ∈ lw_tbl := by decide +kernel
theorem lt_se_X0_width : Cond.selects RX0 yX0_width yX0_width ∈ lw_tbl := by decide +kernel
theorem lt_se_X1_record : Cond.selects RX1 yX1_record yX1_record ∈ lw_tbl := by decide +kernel
theorem lt_se_X1_restore : Cond.selects RX1 yX1_restore yX1_restore ∈ lw_tbl := by decide +kernel
theorem lt_se_X2_addVoice : Cond.selects RX2 yX2_addVoice yX2_addVoice ∈ lw_tbl := by decide +kernel
theorem lt_se_X2_canFinish : Cond.selects RX2 yX2_canFinish yX2_canFinish ∈ lw_tbl := by decide +kernel
theorem lt_se_X2_choose : Cond.selects RX2 yX2_choose yX2_choose ∈ lw_tbl := by decide +kernel
theorem lt_se_X2_firstGoodPart : Cond.selects RX2 yX2_firstGoodPart yX2_firstGoodPart ∈ lw_tbl := by decide +kernel
theorem lt_se_X2_pairCanReach : Cond.selects RX2 yX2_pairCanReach yX2_pairCanReach ∈ lw_tbl := by decide +kernel
theorem lt_se_X2_weigh : Cond.selects RX2 yX2_weigh yX2_weigh ∈ lw_tbl := by decide +kernel
theorem lt_se_X2_weighPairs : Cond.selects RX2 yX2_weighPairs yX2_weighPairs ∈ lw_tbl := by decide +kernel
theorem lt_se_X3_beginNumber : Cond.selects RX3 yX3_beginNumber yX3_beginNumber ∈ lw_tbl := by decide +kernel
theorem lt_se_X3_closeWord : Cond.selects RX3 yX3_closeWord yX3_closeWord ∈ lw_tbl := by decide +kernel
theorem lt_se_X3_end : Cond.selects RX3 yX3_end yX3_end ∈ lw_tbl := by decide +kernel
theorem lt_se_X3_fail : Cond.selects RX3 yX3_fail yX3_fail ∈ lw_tbl := by decide +kernel
theorem lt_se_X3_inNumber : Cond.selects RX3 yX3_inNumber yX3_inNumber ∈ lw_tbl := by decide +kernel
theorem lt_se_X3_numberStands : Cond.selects RX3 yX3_numberStands yX3_numberStands ∈ lw_tbl := by decide +kernel
theorem lt_se_X3_read : Cond.selects RX3 yX3_read yX3_read ∈ lw_tbl := by decide +kernel
theorem lt_se_X3_readAbsent : Cond.selects RX3 yX3_readAbsent yX3_readAbsent ∈ lw_tbl := by decide +kernel
theorem lt_se_X3_readTests : Cond.selects RX3 yX3_readTests yX3_readTests ∈ lw_tbl := by decide +kernel
theorem lt_se_X3_take : Cond.selects RX3 yX3_take yX3_take ∈ lw_tbl := by decide +kernel
theorem lt_se_X3_takeBehindNumber : Cond.selects RX3 yX3_takeBehindNumber yX3_takeBehindNumber ∈ lw_tbl := by decide +kernel
theorem lt_se_X3_takeDigit : Cond.selects RX3 yX3_takeDigit yX3_takeDigit ∈ lw_tbl := by decide +kernel
theorem lt_se_X4_canStandIn : Cond.selects RX4 yX4_canStandIn yX4_canStandIn ∈ lw_tbl := by decide +kernel
theorem lt_se_X4_findSoloist : Cond.selects RX4 yX4_findSoloist yX4_findSoloist ∈ lw_tbl := by decide +kernel
theorem lt_se_X4_findStandIns : Cond.selects RX4 yX4_findStandIns yX4_findStandIns ∈ lw_tbl := by decide +kernel
theorem lt_se_X4_happen : Cond.selects RX4 yX4_happen yX4_happen ∈ lw_tbl := by decide +kernel
theorem lt_se_X4_plan : Cond.selects RX4 yX4_plan yX4_plan ∈ lw_tbl := by decide +kernel
theorem lt_se_X5_begin : Cond.selects RX5 yX5_begin yX5_begin ∈ lw_tbl := by decide +kernel
theorem lt_se_X5_copyFrom : Cond.selects RX5 yX5_copyFrom yX5_copyFrom ∈ lw_tbl := by decide +kernel
theorem lt_se_X5_learn : Cond.selects RX5 yX5_learn yX5_learn ∈ lw_tbl := by decide +kernel
theorem lt_se_X5_notesIn : Cond.selects RX5 yX5_notesIn yX5_notesIn ∈ lw_tbl := by decide +kernel
theorem lt_se_X5_singsBefore : Cond.selects RX5 yX5_singsBefore yX5_singsBefore ∈ lw_tbl := by decide +kernel
theorem lt_se_X5_sitsBefore : Cond.selects RX5 yX5_sitsBefore yX5_sitsBefore ∈ lw_tbl := by decide +kernel
theorem lt_se_X6_addVoice : Cond.selects RX6 yX6_addVoice yX6_addVoice ∈ lw_tbl := by decide +kernel
theorem lt_se_X6_evenest : Cond.selects RX6 yX6_evenest yX6_evenest ∈ lw_tbl := by decide +kernel
theorem lt_se_X6_gives : Cond.selects RX6 yX6_gives yX6_gives ∈ lw_tbl := by decide +kernel
theorem lt_se_X6_reaches : Cond.selects RX6 yX6_reaches yX6_reaches ∈ lw_tbl := by decide +kernel
theorem lt_se_X8_add : Cond.selects RX8 yX8_add yX8_add ∈ lw_tbl := by decide +kernel
theorem lt_se_X8_attendance : Cond.selects RX8 yX8_attendance yX8_attendance ∈ lw_tbl := by decide +kernel
theorem lt_se_X8_back : Cond.selects RX8 yX8_back yX8_back ∈ lw_tbl := by decide +kernel
theorem lt_se_X8_fault : Cond.selects RX8 yX8_fault yX8_fault ∈ lw_tbl := by decide +kernel
theorem lt_se_X8_hold : Cond.selects RX8 yX8_hold yX8_hold ∈ lw_tbl := by decide +kernel
theorem lt_se_X8_keep : Cond.selects RX8 yX8_keep yX8_keep ∈ lw_tbl := by decide +kernel
theorem lt_se_X8_mean : Cond.selects RX8 yX8_mean yX8_mean ∈ lw_tbl := by decide +kernel
theorem lt_se_X8_note : Cond.selects RX8 yX8_note yX8_note ∈ lw_tbl := by decide +kernel
theorem lt_se_X8_overlap : Cond.selects RX8 yX8_overlap yX8_overlap ∈ lw_tbl := by decide +kernel
theorem lt_se_X8_part : Cond.selects RX8 yX8_part yX8_part ∈ lw_tbl := by decide +kernel
theorem lt_se_X8_passedOver : Cond.selects RX8 yX8_passedOver yX8_passedOver ∈ lw_tbl := by decide +kernel
theorem lt_se_X8_place : Cond.selects RX8 yX8_place yX8_place ∈ lw_tbl := by decide +kernel
theorem lt_se_X8_placeAll : Cond.selects RX8 yX8_placeAll yX8_placeAll ∈ lw_tbl := by decide +kernel
theorem lt_se_X8_remove : Cond.selects RX8 yX8_remove yX8_remove ∈ lw_tbl := by decide +kernel
theorem lt_se_X8_seat : Cond.selects RX8 yX8_seat yX8_seat ∈ lw_tbl := by decide +kernel
theorem lt_se_X8_set : Cond.selects RX8 yX8_set yX8_set ∈ lw_tbl := by decide +kernel
theorem lt_se_X8_setting : Cond.selects RX8 yX8_setting yX8_setting ∈ lw_tbl := by decide +kernel
theorem lt_se_X8_singer : Cond.selects RX8 yX8_singer yX8_singer ∈ lw_tbl := by decide +kernel
theorem lt_se_X8_solo : Cond.selects RX8 yX8_solo yX8_solo ∈ lw_tbl := by decide +kernel
theorem lt_se_X8_standIn : Cond.selects RX8 yX8_standIn yX8_standIn ∈ lw_tbl := by decide +kernel
theorem lt_se_X8_test : Cond.selects RX8 yX8_test yX8_test ∈ lw_tbl := by decide +kernel
theorem lt_se_X8_told : Cond.selects RX8 yX8_told yX8_told ∈ lw_tbl := by decide +kernel
theorem lt_se_X8_undo : Cond.selects RX8 yX8_undo yX8_undo ∈ lw_tbl := by decide +kernel
theorem lt_se_X8_wipe : Cond.selects RX8 yX8_wipe yX8_wipe ∈ lw_tbl := by decide +kernel
theorem lt_se_X8_without : Cond.selects RX8 yX8_without yX8_without ∈ lw_tbl := by decide +kernel
theorem lt_se_X8_write : Cond.selects RX8 yX8_write yX8_write ∈ lw_tbl := by decide +kernel
theorem lt_se_X9_absent : Cond.selects RX9 yX9_absent yX9_absent ∈ lw_tbl := by decide +kernel
theorem lt_se_X9_add : Cond.selects RX9 yX9_add yX9_add ∈ lw_tbl := by decide +kernel
theorem lt_se_X9_attendance : Cond.selects RX9 yX9_attendance yX9_attendance ∈ lw_tbl := by decide +kernel
theorem lt_se_X9_back : Cond.selects RX9 yX9_back yX9_back ∈ lw_tbl := by decide +kernel
theorem lt_se_X9_change : Cond.selects RX9 yX9_change yX9_change ∈ lw_tbl := by decide +kernel
theorem lt_se_X9_covered : Cond.selects RX9 yX9_covered yX9_covered ∈ lw_tbl := by decide +kernel
theorem lt_se_X9_endsWell : Cond.selects RX9 yX9_endsWell yX9_endsWell ∈ lw_tbl := by decide +kernel
theorem lt_se_X9_fails : Cond.selects RX9 yX9_fails yX9_fails ∈ lw_tbl := by decide +kernel
theorem lt_se_X9_fault : Cond.selects RX9 yX9_fault yX9_fault ∈ lw_tbl := by decide +kernel
theorem lt_se_X9_findBest : Cond.selects RX9 yX9_findBest yX9_findBest ∈ lw_tbl := by decide +kernel
theorem lt_se_X9_findRange : Cond.selects RX9 yX9_findRange yX9_findRange ∈ lw_tbl := by decide +kernel
theorem lt_se_X9_findSolos : Cond.selects RX9 yX9_findSolos yX9_findSolos ∈ lw_tbl := by decide +kernel
theorem lt_se_X9_findStandIns : Cond.selects RX9 yX9_findStandIns yX9_findStandIns ∈ lw_tbl := by decide +kernel
theorem lt_se_X9_fits : Cond.selects RX9 yX9_fits yX9_fits ∈ lw_tbl := by decide +kernel
theorem lt_se_X9_hasFault : Cond.selects RX9 yX9_hasFault yX9_hasFault ∈ lw_tbl := by decide +kernel
theorem lt_se_X9_hold : Cond.selects RX9 yX9_hold yX9_hold ∈ lw_tbl := by decide +kernel
theorem lt_se_X9_isBefore : Cond.selects RX9 yX9_isBefore yX9_isBefore ∈ lw_tbl := by decide +kernel
theorem lt_se_X9_isFit : Cond.selects RX9 yX9_isFit yX9_isFit ∈ lw_tbl := by decide +kernel
theorem lt_se_X9_isFree : Cond.selects RX9 yX9_isFree yX9_isFree ∈ lw_tbl := by decide +kernel
theorem lt_se_X9_isRested : Cond.selects RX9 yX9_isRested yX9_isRested ∈ lw_tbl := by decide +kernel
theorem lt_se_X9_isSinger : Cond.selects RX9 yX9_isSinger yX9_isSinger ∈ lw_tbl := by decide +kernel
theorem lt_se_X9_judge : Cond.selects RX9 yX9_judge yX9_judge ∈ lw_tbl := by decide +kernel
theorem lt_se_X9_keep : Cond.selects RX9 yX9_keep yX9_keep ∈ lw_tbl := by decide +kernel
theorem lt_se_X9_mean : Cond.selects RX9 yX9_mean yX9_mean ∈ lw_tbl := by decide +kernel
theorem lt_se_X9_nextPart : Cond.selects RX9 yX9_nextPart yX9_nextPart ∈ lw_tbl := by decide +kernel
theorem lt_se_X9_note : Cond.selects RX9 yX9_note yX9_note ∈ lw_tbl := by decide +kernel
theorem lt_se_X9_of : Cond.selects RX9 yX9_of yX9_of ∈ lw_tbl := by decide +kernel
theorem lt_se_X9_overlap : Cond.selects RX9 yX9_overlap yX9_overlap ∈ lw_tbl := by decide +kernel
theorem lt_se_X9_overlapOf : Cond.selects RX9 yX9_overlapOf yX9_overlapOf ∈ lw_tbl := by decide +kernel
theorem lt_se_X9_part : Cond.selects RX9 yX9_part yX9_part ∈ lw_tbl := by decide +kernel
theorem lt_se_X9_passedOver : Cond.selects RX9 yX9_passedOver yX9_passedOver ∈ lw_tbl := by decide +kernel
theorem lt_se_X9_place : Cond.selects RX9 yX9_place yX9_place ∈ lw_tbl := by decide +kernel
theorem lt_se_X9_placeAll : Cond.selects RX9 yX9_placeAll yX9_placeAll ∈ lw_tbl := by decide +kernel
theorem lt_se_X9_placedIn : Cond.selects RX9 yX9_placedIn yX9_placedIn ∈ lw_tbl := by decide +kernel
theorem lt_se_X9_presentStrength : Cond.selects RX9 yX9_presentStrength yX9_presentStrength ∈ lw_tbl := by decide +kernel
theorem lt_se_X9_put : Cond.selects RX9 yX9_put yX9_put ∈ lw_tbl := by decide +kernel
theorem lt_se_X9_rangeSize : Cond.selects RX9 yX9_rangeSize yX9_rangeSize ∈ lw_tbl := by decide +kernel
theorem lt_se_X9_readDigit : Cond.selects RX9 yX9_readDigit yX9_readDigit ∈ lw_tbl := by decide +kernel
theorem lt_se_X9_readOther : Cond.selects RX9 yX9_readOther yX9_readOther ∈ lw_tbl := by decide +kernel
theorem lt_se_X9_remember : Cond.selects RX9 yX9_remember yX9_remember ∈ lw_tbl := by decide +kernel
theorem lt_se_X9_remove : Cond.selects RX9 yX9_remove yX9_remove ∈ lw_tbl := by decide +kernel
theorem lt_se_X9_rows : Cond.selects RX9 yX9_rows yX9_rows ∈ lw_tbl := by decide +kernel
theorem lt_se_X9_seat : Cond.selects RX9 yX9_seat yX9_seat ∈ lw_tbl := by decide +kernel
theorem lt_se_X9_set : Cond.selects RX9 yX9_set yX9_set ∈ lw_tbl := by decide +kernel
theorem lt_se_X9_setting : Cond.selects RX9 yX9_setting yX9_setting ∈ lw_tbl := by decide +kernel
theorem lt_se_X9_singer : Cond.selects RX9 yX9_singer yX9_singer ∈ lw_tbl := by decide +kernel
theorem lt_se_X9_solo : Cond.selects RX9 yX9_solo yX9_solo ∈ lw_tbl := by decide +kernel
theorem lt_se_X9_standIn : Cond.selects RX9 yX9_standIn yX9_standIn ∈ lw_tbl := by decide +kernel
theorem lt_se_X9_strengthOf : Cond.selects RX9 yX9_strengthOf yX9_strengthOf ∈ lw_tbl := by decide +kernel
theorem lt_se_X9_test : Cond.selects RX9 yX9_test yX9_test ∈ lw_tbl := by decide +kernel
theorem lt_se_X9_told : Cond.selects RX9 yX9_told yX9_told ∈ lw_tbl := by decide +kernel
theorem lt_se_X9_undo : Cond.selects RX9 yX9_undo yX9_undo ∈ lw_tbl := by decide +kernel
theorem lt_se_X9_wipe : Cond.selects RX9 yX9_wipe yX9_wipe ∈ lw_tbl := by decide +kernel
theorem lt_se_X9_without : Cond.selects RX9 yX9_without yX9_without ∈ lw_tbl := by decide +kernel
theorem lt_se_X9_write : Cond.selects RX9 yX9_write yX9_write ∈ lw_tbl := by decide +kernel
theorem lt_ini_X0 : Cond.initialized RX0 ∈ lw_tbl := by decide +kernel
theorem lt_ins_X0 : Cond.instantiable RX0 8 ∈ lw_tbl := by decide +kernel
theorem lt_ini_X1 : Cond.initialized RX1 ∈ lw_tbl := by decide +kernel
theorem lt_ins_X1 : Cond.instantiable RX1 3 ∈ lw_tbl := by decide +kernel
theorem lt_ini_X2 : Cond.initialized RX2 ∈ lw_tbl := by decide +kernel
theorem lt_ins_X2 : Cond.instantiable RX2 10 ∈ lw_tbl := by decide +kernel
theorem lt_ini_X3 : Cond.initialized RX3 ∈ lw_tbl := by decide +kernel
theorem lt_ins_X3 : Cond.instantiable RX3 11 ∈ lw_tbl := by decide +kernel
theorem lt_ini_X4 : Cond.initialized RX4 ∈ lw_tbl := by decide +kernel
theorem lt_ins_X4 : Cond.instantiable RX4 3 ∈ lw_tbl := by decide +kernel
theorem lt_ini_X5 : Cond.initialized RX5 ∈ lw_tbl := by decide +kernel
theorem lt_ins_X5 : Cond.instantiable RX5 11 ∈ lw_tbl := by decide +kernel
theorem lt_ini_X6 : Cond.initialized RX6 ∈ lw_tbl := by decide +kernel
theorem lt_ins_X6 : Cond.instantiable RX6 2 ∈ lw_tbl := by decide +kernel
theorem lt_ini_X7 : Cond.initialized RX7 ∈ lw_tbl := by decide +kernel
theorem lt_ins_X7 : Cond.instantiable RX7 2 ∈ lw_tbl := by decide +kernel
theorem lt_ini_X8 : Cond.initialized RX8 ∈ lw_tbl := by decide +kernel
theorem lt_ins_X8 : Cond.instantiable RX8 8 ∈ lw_tbl := by decide +kernel
theorem lt_ini_X9 : Cond.initialized RX9 ∈ lw_tbl := by decide +kernel
theorem lt_ins_X9 : Cond.instantiable RX9 31 ∈ lw_tbl := by decide +kernel
theorem lt_cl_X0_9 : Cond.classLink RX0 9 RX5 ∈ lw_tbl := by decide +kernel
theorem lt_cl_X1_9 : Cond.classLink RX1 9 RX0 ∈ lw_tbl := by decide +kernel
theorem lt_cl_X2_9 : Cond.classLink RX2 9 RX6 ∈ lw_tbl := by decide +kernel
theorem lt_cl_X8_7 : Cond.classLink RX8 7 RX0 ∈ lw_tbl := by decide +kernel
theorem lt_cl_X8_16 : Cond.classLink RX8 16 RX1 ∈ lw_tbl := by decide +kernel
theorem lt_cl_X8_31 : Cond.classLink RX8 31 RX7 ∈ lw_tbl := by decide +kernel
theorem lt_cl_X8_38 : Cond.classLink RX8 38 RX3 ∈ lw_tbl := by decide +kernel
theorem lt_cl_X8_45 : Cond.classLink RX8 45 RX4 ∈ lw_tbl := by decide +kernel
theorem lt_cl_X8_52 : Cond.classLink RX8 52 RX2 ∈ lw_tbl := by decide +kernel
theorem lt_cl_L_7 : Cond.classLink RL 7 RX8 ∈ lw_tbl := by decide +kernel
theorem lt_cl_L_10 : Cond.classLink RL 10 RX9 ∈ lw_tbl := by decide +kernel
theorem lt_ac_int : Cond.arrayClass .int ∈ lw_tbl := by decide +kernel
theorem lt_ac_long : Cond.arrayClass .long ∈ lw_tbl := by decide +kernel
theorem lt_ac_boolean : Cond.arrayClass .boolean ∈ lw_tbl := by decide +kernel
theorem lt_cf_X8_246 : Cond.constantFloat RX8 246 (1082130432) ∈ lw_tbl := by decide +kernel
theorem lt_cf_X9_209 : Cond.constantFloat RX9 209 (1082130432) ∈ lw_tbl := by decide +kernel
theorem lt_ck_X3_98 : Cond.constantLong RX3 98 (-1) ∈ lw_tbl := by decide +kernel
theorem lt_ck_X6_30 : Cond.constantLong RX6 30 (-1) ∈ lw_tbl := by decide +kernel
theorem lt_ok_X0_init : Cond.code yX0_init cX0_init 2 none ∈ lw_tbl := by decide +kernel
theorem lt_ok_X0_copyFrom : Cond.code yX0_copyFrom cX0_copyFrom 3 none ∈ lw_tbl := by decide +kernel
theorem lt_ok_X0_has : Cond.code yX0_has cX0_has 2 (some .boolean) ∈ lw_tbl := by decide +kernel
theorem lt_ok_X0_join : Cond.code yX0_join cX0_join 3 none ∈ lw_tbl := by decide +kernel
theorem lt_ok_X0_dismiss : Cond.code yX0_dismiss cX0_dismiss 3 none ∈ lw_tbl := by decide +kernel
theorem lt_ok_X0_fits : Cond.code yX0_fits cX0_fits 3 (some .boolean) ∈ lw_tbl := by decide +kernel
theorem lt_ok_X0_fittingParts : Cond.code yX0_fittingParts cX0_fittingParts 4 (some .int) ∈ lw_tbl := by decide +kernel
theorem lt_ok_X0_placed : Cond.code yX0_placed cX0_placed 3 (some .int) ∈ lw_tbl := by decide +kernel
theorem lt_ok_X0_absent : Cond.code yX0_absent cX0_absent 3 (some .int) ∈ lw_tbl := by decide +kernel
theorem lt_ok_X0_members : Cond.code yX0_members cX0_members 4 (some .int) ∈ lw_tbl := by decide +kernel
theorem lt_ok_X0_strength : Cond.code yX0_strength cX0_strength 4 (some .int) ∈ lw_tbl := by decide +kernel
theorem lt_ok_X0_strengthPresent : Cond.code yX0_strengthPresent cX0_strengthPresent 5 (some .int) ∈ lw_tbl := by decide +kernel
theorem lt_ok_X0_covers : Cond.code yX0_covers cX0_covers 2 (some .boolean) ∈ lw_tbl := by decide +kernel
theorem lt_ok_X0_coveredParts : Cond.code yX0_coveredParts cX0_coveredParts 3 (some .int) ∈ lw_tbl := by decide +kernel
theorem lt_ok_X0_rested : Cond.code yX0_rested cX0_rested 2 (some .boolean) ∈ lw_tbl := by decide +kernel
theorem lt_ok_X0_width : Cond.code yX0_width cX0_width 1 (some .int) ∈ lw_tbl := by decide +kernel
theorem lt_ok_X0_rows : Cond.code yX0_rows cX0_rows 2 (some .int) ∈ lw_tbl := by decide +kernel
theorem lt_ok_X0_rowsBefore : Cond.code yX0_rowsBefore cX0_rowsBefore 4 (some .int) ∈ lw_tbl := by decide +kernel
theorem lt_ok_X0_seatedBefore : Cond.code yX0_seatedBefore cX0_seatedBefore 6 (some .int) ∈ lw_tbl := by decide +kernel
theorem lt_ok_X1_init : Cond.code yX1_init cX1_init 2 none ∈ lw_tbl := by decide +kernel
theorem lt_ok_X1_record : Cond.code yX1_record cX1_record 2 none ∈ lw_tbl := by decide +kernel
theorem lt_ok_X1_restore : Cond.code yX1_restore cX1_restore 2 none ∈ lw_tbl := by decide +kernel
theorem lt_ok_X2_init : Cond.code yX2_init cX2_init 1 none ∈ lw_tbl := by decide +kernel
theorem lt_ok_X2_weigh : Cond.code yX2_weigh cX2_weigh 5 none ∈ lw_tbl := by decide +kernel
theorem lt_ok_X2_addVoice : Cond.code yX2_addVoice cX2_addVoice 6 none ∈ lw_tbl := by decide +kernel
theorem lt_ok_X2_weighPairs : Cond.code yX2_weighPairs cX2_weighPairs 7 none ∈ lw_tbl := by decide +kernel
theorem lt_ok_X2_choose : Cond.code yX2_choose cX2_choose 3 none ∈ lw_tbl := by decide +kernel
theorem lt_ok_X2_firstGoodPart : Cond.code yX2_firstGoodPart cX2_firstGoodPart 3 (some .int) ∈ lw_tbl := by decide +kernel
theorem lt_ok_X2_canFinish : Cond.code yX2_canFinish cX2_canFinish 6 (some .boolean) ∈ lw_tbl := by decide +kernel
theorem lt_ok_X2_pairCanReach : Cond.code yX2_pairCanReach cX2_pairCanReach 6 (some .boolean) ∈ lw_tbl := by decide +kernel
theorem lt_ok_X3_init : Cond.code yX3_init cX3_init 1 none ∈ lw_tbl := by decide +kernel
theorem lt_ok_X3_readTests : Cond.code yX3_readTests cX3_readTests 3 (some .boolean) ∈ lw_tbl := by decide +kernel
theorem lt_ok_X3_readAbsent : Cond.code yX3_readAbsent cX3_readAbsent 3 (some .boolean) ∈ lw_tbl := by decide +kernel
theorem lt_ok_X3_read : Cond.code yX3_read cX3_read 3 (some .boolean) ∈ lw_tbl := by decide +kernel
theorem lt_ok_X3_take : Cond.code yX3_take cX3_take 4 (some .boolean) ∈ lw_tbl := by decide +kernel
theorem lt_ok_X3_inNumber : Cond.code yX3_inNumber cX3_inNumber 1 (some .boolean) ∈ lw_tbl := by decide +kernel
theorem lt_ok_X3_beginNumber : Cond.code yX3_beginNumber cX3_beginNumber 3 none ∈ lw_tbl := by decide +kernel
theorem lt_ok_X3_takeDigit : Cond.code yX3_takeDigit cX3_takeDigit 3 (some .boolean) ∈ lw_tbl := by decide +kernel
theorem lt_ok_X3_takeBehindNumber : Cond.code yX3_takeBehindNumber cX3_takeBehindNumber 3 (some .boolean) ∈ lw_tbl := by decide +kernel
theorem lt_ok_X3_end : Cond.code yX3_end cX3_end 2 (some .boolean) ∈ lw_tbl := by decide +kernel
theorem lt_ok_X3_numberStands : Cond.code yX3_numberStands cX3_numberStands 1 (some .boolean) ∈ lw_tbl := by decide +kernel
theorem lt_ok_X3_closeWord : Cond.code yX3_closeWord cX3_closeWord 5 none ∈ lw_tbl := by decide +kernel
theorem lt_ok_X3_fail : Cond.code yX3_fail cX3_fail 3 (some .boolean) ∈ lw_tbl := by decide +kernel
theorem lt_ok_X4_init : Cond.code yX4_init cX4_init 1 none ∈ lw_tbl := by decide +kernel
theorem lt_ok_X4_plan : Cond.code yX4_plan cX4_plan 3 none ∈ lw_tbl := by decide +kernel
theorem lt_ok_X4_findStandIns : Cond.code yX4_findStandIns cX4_findStandIns 5 none ∈ lw_tbl := by decide +kernel
theorem lt_ok_X4_canStandIn : Cond.code yX4_canStandIn cX4_canStandIn 5 (some .boolean) ∈ lw_tbl := by decide +kernel
theorem lt_ok_X4_findSoloist : Cond.code yX4_findSoloist cX4_findSoloist 7 (some .int) ∈ lw_tbl := by decide +kernel
theorem lt_ok_X4_happen : Cond.code yX4_happen cX4_happen 4 (some .int) ∈ lw_tbl := by decide +kernel
theorem lt_ok_X5_init : Cond.code yX5_init cX5_init 1 none ∈ lw_tbl := by decide +kernel
theorem lt_ok_X5_begin : Cond.code yX5_begin cX5_begin 3 none ∈ lw_tbl := by decide +kernel
theorem lt_ok_X5_copyFrom : Cond.code yX5_copyFrom cX5_copyFrom 2 none ∈ lw_tbl := by decide +kernel
theorem lt_ok_X5_learn : Cond.code yX5_learn cX5_learn 7 none ∈ lw_tbl := by decide +kernel
theorem lt_ok_X5_notesIn : Cond.code yX5_notesIn cX5_notesIn 4 (some .int) ∈ lw_tbl := by decide +kernel
theorem lt_ok_X5_sitsBefore : Cond.code yX5_sitsBefore cX5_sitsBefore 3 (some .boolean) ∈ lw_tbl := by decide +kernel
theorem lt_ok_X5_singsBefore : Cond.code yX5_singsBefore cX5_singsBefore 2 (some .boolean) ∈ lw_tbl := by decide +kernel
theorem lt_ok_X6_init : Cond.code yX6_init cX6_init 1 none ∈ lw_tbl := by decide +kernel
theorem lt_ok_X6_addVoice : Cond.code yX6_addVoice cX6_addVoice 11 none ∈ lw_tbl := by decide +kernel
theorem lt_ok_X6_evenest : Cond.code yX6_evenest cX6_evenest 4 (some .int) ∈ lw_tbl := by decide +kernel
theorem lt_ok_X6_gives : Cond.code yX6_gives cX6_gives 3 (some .boolean) ∈ lw_tbl := by decide +kernel
theorem lt_ok_X6_reaches : Cond.code yX6_reaches cX6_reaches 4 (some .boolean) ∈ lw_tbl := by decide +kernel
theorem lt_ok_X6_bits : Cond.code yX6_bits cX6_bits 4 (some .long) ∈ lw_tbl := by decide +kernel
theorem lt_ok_X7_init : Cond.code yX7_init cX7_init 1 none ∈ lw_tbl := by decide +kernel
theorem lt_ok_X8_init : Cond.code yX8_init cX8_init 2 none ∈ lw_tbl := by decide +kernel
theorem lt_ok_X8_add : Cond.code yX8_add cX8_add 3 (some .int) ∈ lw_tbl := by decide +kernel
theorem lt_ok_X8_remove : Cond.code yX8_remove cX8_remove 2 (some .int) ∈ lw_tbl := by decide +kernel
theorem lt_ok_X8_set : Cond.code yX8_set cX8_set 4 (some .int) ∈ lw_tbl := by decide +kernel
theorem lt_ok_X8_test : Cond.code yX8_test cX8_test 3 (some .int) ∈ lw_tbl := by decide +kernel
theorem lt_ok_X8_place : Cond.code yX8_place cX8_place 4 (some .int) ∈ lw_tbl := by decide +kernel
theorem lt_ok_X8_placeAll : Cond.code yX8_placeAll cX8_placeAll 1 (some .int) ∈ lw_tbl := by decide +kernel
theorem lt_ok_X8_attendance : Cond.code yX8_attendance cX8_attendance 2 (some .int) ∈ lw_tbl := by decide +kernel
theorem lt_ok_X8_hold : Cond.code yX8_hold cX8_hold 1 (some .int) ∈ lw_tbl := by decide +kernel
theorem lt_ok_X8_undo : Cond.code yX8_undo cX8_undo 1 (some .int) ∈ lw_tbl := by decide +kernel
theorem lt_ok_X8_write : Cond.code yX8_write cX8_write 2 (some .int) ∈ lw_tbl := by decide +kernel
theorem lt_ok_X8_wipe : Cond.code yX8_wipe cX8_wipe 2 (some .int) ∈ lw_tbl := by decide +kernel
theorem lt_ok_X8_fault : Cond.code yX8_fault cX8_fault 2 (some .int) ∈ lw_tbl := by decide +kernel
theorem lt_ok_X8_told : Cond.code yX8_told cX8_told 2 (some .int) ∈ lw_tbl := by decide +kernel
theorem lt_ok_X8_setting : Cond.code yX8_setting cX8_setting 2 (some .int) ∈ lw_tbl := by decide +kernel
theorem lt_ok_X8_singer : Cond.code yX8_singer cX8_singer 4 (some .int) ∈ lw_tbl := by decide +kernel
theorem lt_ok_X8_note : Cond.code yX8_note cX8_note 4 (some .int) ∈ lw_tbl := by decide +kernel
theorem lt_ok_X8_overlap : Cond.code yX8_overlap cX8_overlap 3 (some .int) ∈ lw_tbl := by decide +kernel
theorem lt_ok_X8_part : Cond.code yX8_part cX8_part 3 (some .int) ∈ lw_tbl := by decide +kernel
theorem lt_ok_X8_seat : Cond.code yX8_seat cX8_seat 6 (some .int) ∈ lw_tbl := by decide +kernel
theorem lt_ok_X8_solo : Cond.code yX8_solo cX8_solo 3 (some .int) ∈ lw_tbl := by decide +kernel
theorem lt_ok_X8_mean : Cond.code yX8_mean cX8_mean 3 (some .float) ∈ lw_tbl := by decide +kernel
theorem lt_ok_X8_standIn : Cond.code yX8_standIn cX8_standIn 2 (some .int) ∈ lw_tbl := by decide +kernel
theorem lt_ok_X8_passedOver : Cond.code yX8_passedOver cX8_passedOver 3 (some .int) ∈ lw_tbl := by decide +kernel
theorem lt_ok_X8_without : Cond.code yX8_without cX8_without 2 (some .int) ∈ lw_tbl := by decide +kernel
theorem lt_ok_X8_keep : Cond.code yX8_keep cX8_keep 2 (some .int) ∈ lw_tbl := by decide +kernel
theorem lt_ok_X8_back : Cond.code yX8_back cX8_back 2 (some .int) ∈ lw_tbl := by decide +kernel
theorem lt_ok_X8_isSetting : Cond.code yX8_isSetting cX8_isSetting 1 (some .boolean) ∈ lw_tbl := by decide +kernel
theorem lt_ok_X8_isPart : Cond.code yX8_isPart cX8_isPart 1 (some .boolean) ∈ lw_tbl := by decide +kernel
theorem lt_ok_X8_isImage : Cond.code yX8_isImage cX8_isImage 1 (some .boolean) ∈ lw_tbl := by decide +kernel
theorem lt_ok_X8_contains : Cond.code yX8_contains cX8_contains 3 (some .boolean) ∈ lw_tbl := by decide +kernel
theorem lt_ok_X9_init : Cond.code yX9_init cX9_init 1 none ∈ lw_tbl := by decide +kernel
theorem lt_ok_X9_isIn : Cond.code yX9_isIn cX9_isIn 3 (some .boolean) ∈ lw_tbl := by decide +kernel
theorem lt_ok_X9_remember : Cond.code yX9_remember cX9_remember 2 none ∈ lw_tbl := by decide +kernel
theorem lt_ok_X9_of : Cond.code yX9_of cX9_of 3 (some .int) ∈ lw_tbl := by decide +kernel
theorem lt_ok_X9_put : Cond.code yX9_put cX9_put 4 none ∈ lw_tbl := by decide +kernel
theorem lt_ok_X9_isSinger : Cond.code yX9_isSinger cX9_isSinger 2 (some .boolean) ∈ lw_tbl := by decide +kernel
theorem lt_ok_X9_isPart : Cond.code yX9_isPart cX9_isPart 1 (some .boolean) ∈ lw_tbl := by decide +kernel
theorem lt_ok_X9_findRange : Cond.code yX9_findRange cX9_findRange 4 none ∈ lw_tbl := by decide +kernel
theorem lt_ok_X9_overlapOf : Cond.code yX9_overlapOf cX9_overlapOf 6 (some .int) ∈ lw_tbl := by decide +kernel
theorem lt_ok_X9_isFit : Cond.code yX9_isFit cX9_isFit 3 (some .boolean) ∈ lw_tbl := by decide +kernel
theorem lt_ok_X9_fits : Cond.code yX9_fits cX9_fits 4 (some .int) ∈ lw_tbl := by decide +kernel
theorem lt_ok_X9_judge : Cond.code yX9_judge cX9_judge 4 none ∈ lw_tbl := by decide +kernel
theorem lt_ok_X9_nextPart : Cond.code yX9_nextPart cX9_nextPart 4 (some .int) ∈ lw_tbl := by decide +kernel
theorem lt_ok_X9_change : Cond.code yX9_change cX9_change 3 none ∈ lw_tbl := by decide +kernel
theorem lt_ok_X9_findBest : Cond.code yX9_findBest cX9_findBest 6 none ∈ lw_tbl := by decide +kernel
theorem lt_ok_X9_placeAll : Cond.code yX9_placeAll cX9_placeAll 2 (some .int) ∈ lw_tbl := by decide +kernel
theorem lt_ok_X9_without : Cond.code yX9_without cX9_without 2 (some .int) ∈ lw_tbl := by decide +kernel
theorem lt_ok_X9_presentStrength : Cond.code yX9_presentStrength cX9_presentStrength 4 (some .int) ∈ lw_tbl := by decide +kernel
theorem lt_ok_X9_isFree : Cond.code yX9_isFree cX9_isFree 4 (some .boolean) ∈ lw_tbl := by decide +kernel
theorem lt_ok_X9_findStandIns : Cond.code yX9_findStandIns cX9_findStandIns 3 none ∈ lw_tbl := by decide +kernel
theorem lt_ok_X9_isRested : Cond.code yX9_isRested cX9_isRested 2 (some .boolean) ∈ lw_tbl := by decide +kernel
theorem lt_ok_X9_isBefore : Cond.code yX9_isBefore cX9_isBefore 3 (some .boolean) ∈ lw_tbl := by decide +kernel
theorem lt_ok_X9_findSolos : Cond.code yX9_findSolos cX9_findSolos 3 none ∈ lw_tbl := by decide +kernel
theorem lt_ok_X9_hold : Cond.code yX9_hold cX9_hold 3 (some .int) ∈ lw_tbl := by decide +kernel
theorem lt_ok_X9_fails : Cond.code yX9_fails cX9_fails 3 none ∈ lw_tbl := by decide +kernel
theorem lt_ok_X9_endsWell : Cond.code yX9_endsWell cX9_endsWell 1 (some .boolean) ∈ lw_tbl := by decide +kernel
theorem lt_ok_X9_readDigit : Cond.code yX9_readDigit cX9_readDigit 2 none ∈ lw_tbl := by decide +kernel
theorem lt_ok_X9_readOther : Cond.code yX9_readOther cX9_readOther 4 none ∈ lw_tbl := by decide +kernel
theorem lt_ok_X9_hasFault : Cond.code yX9_hasFault cX9_hasFault 3 (some .boolean) ∈ lw_tbl := by decide +kernel
theorem lt_ok_X9_rangeSize : Cond.code yX9_rangeSize cX9_rangeSize 2 (some .int) ∈ lw_tbl := by decide +kernel
theorem lt_ok_X9_test : Cond.code yX9_test cX9_test 4 (some .int) ∈ lw_tbl := by decide +kernel
theorem lt_ok_X9_absent : Cond.code yX9_absent cX9_absent 3 (some .int) ∈ lw_tbl := by decide +kernel
theorem lt_ok_X9_attendance : Cond.code yX9_attendance cX9_attendance 2 (some .int) ∈ lw_tbl := by decide +kernel
theorem lt_ok_X9_write : Cond.code yX9_write cX9_write 2 (some .int) ∈ lw_tbl := by decide +kernel
theorem lt_ok_X9_wipe : Cond.code yX9_wipe cX9_wipe 2 (some .int) ∈ lw_tbl := by decide +kernel
theorem lt_ok_X9_fault : Cond.code yX9_fault cX9_fault 2 (some .int) ∈ lw_tbl := by decide +kernel
theorem lt_ok_X9_add : Cond.code yX9_add cX9_add 5 (some .int) ∈ lw_tbl := by decide +kernel
theorem lt_ok_X9_remove : Cond.code yX9_remove cX9_remove 3 (some .int) ∈ lw_tbl := by decide +kernel
theorem lt_ok_X9_isOf : Cond.code yX9_isOf cX9_isOf 2 (some .boolean) ∈ lw_tbl := by decide +kernel
theorem lt_ok_X9_set : Cond.code yX9_set cX9_set 4 (some .int) ∈ lw_tbl := by decide +kernel
theorem lt_ok_X9_place : Cond.code yX9_place cX9_place 4 (some .int) ∈ lw_tbl := by decide +kernel
theorem lt_ok_X9_undo : Cond.code yX9_undo cX9_undo 2 (some .int) ∈ lw_tbl := by decide +kernel
theorem lt_ok_X9_placedIn : Cond.code yX9_placedIn cX9_placedIn 4 (some .int) ∈ lw_tbl := by decide +kernel
theorem lt_ok_X9_covered : Cond.code yX9_covered cX9_covered 3 (some .int) ∈ lw_tbl := by decide +kernel
theorem lt_ok_X9_told : Cond.code yX9_told cX9_told 2 (some .int) ∈ lw_tbl := by decide +kernel
theorem lt_ok_X9_setting : Cond.code yX9_setting cX9_setting 2 (some .int) ∈ lw_tbl := by decide +kernel
theorem lt_ok_X9_singer : Cond.code yX9_singer cX9_singer 3 (some .int) ∈ lw_tbl := by decide +kernel
theorem lt_ok_X9_note : Cond.code yX9_note cX9_note 3 (some .int) ∈ lw_tbl := by decide +kernel
theorem lt_ok_X9_overlap : Cond.code yX9_overlap cX9_overlap 3 (some .int) ∈ lw_tbl := by decide +kernel
theorem lt_ok_X9_strengthOf : Cond.code yX9_strengthOf cX9_strengthOf 4 (some .int) ∈ lw_tbl := by decide +kernel
theorem lt_ok_X9_rows : Cond.code yX9_rows cX9_rows 2 (some .int) ∈ lw_tbl := by decide +kernel
theorem lt_ok_X9_part : Cond.code yX9_part cX9_part 3 (some .int) ∈ lw_tbl := by decide +kernel
theorem lt_ok_X9_seat : Cond.code yX9_seat cX9_seat 7 (some .int) ∈ lw_tbl := by decide +kernel
theorem lt_ok_X9_solo : Cond.code yX9_solo cX9_solo 3 (some .int) ∈ lw_tbl := by decide +kernel
theorem lt_ok_X9_mean : Cond.code yX9_mean cX9_mean 3 (some .float) ∈ lw_tbl := by decide +kernel
theorem lt_ok_X9_standIn : Cond.code yX9_standIn cX9_standIn 2 (some .int) ∈ lw_tbl := by decide +kernel
theorem lt_ok_X9_passedOver : Cond.code yX9_passedOver cX9_passedOver 3 (some .int) ∈ lw_tbl := by decide +kernel
theorem lt_ok_X9_isImage : Cond.code yX9_isImage cX9_isImage 1 (some .boolean) ∈ lw_tbl := by decide +kernel
theorem lt_ok_X9_keep : Cond.code yX9_keep cX9_keep 3 (some .int) ∈ lw_tbl := by decide +kernel
theorem lt_ok_X9_back : Cond.code yX9_back cX9_back 3 (some .int) ∈ lw_tbl := by decide +kernel
end
section
/-! THE LAYER: values, the state of all objects by their numbers, and what a heap that holds it is -/
abbrev mV : Type := Int ⊕ (BitVec 64 ⊕ (Option Nat ⊕ (UInt32 ⊕ (UInt64 ⊕ Nat))))
abbrev vI (z : Int) : mV := .inl z
abbrev vL (b : BitVec 64) : mV := .inr (.inl b)
abbrev vR (r : Option Nat) : mV := .inr (.inr (.inl r))
abbrev vF (x : UInt32) : mV := .inr (.inr (.inr (.inl x)))
abbrev vD (x : UInt64) : mV := .inr (.inr (.inr (.inr (.inl x))))
abbrev vT (t : Nat) : mV := .inr (.inr (.inr (.inr (.inr t))))
abbrev mI (z : Int) : Value := .int (Int32.ofInt z)
def mC (base : Nat) (tb : Nat → Nat) : mV → Value
  | .inl z => mI z
  | .inr (.inl b) => .long (Int64.ofBitVec b)
  | .inr (.inr (.inl none)) => .null
  | .inr (.inr (.inl (some k))) => .ref (base + k)
  | .inr (.inr (.inr (.inl x))) => .float x
  | .inr (.inr (.inr (.inr (.inl x)))) => .double x
  | .inr (.inr (.inr (.inr (.inr t)))) => .ref (tb t)
def mCat : mV → Nat
  | .inr (.inl _) => 2
  | .inr (.inr (.inr (.inr (.inl _)))) => 2
  | _ => 1
theorem mC_cat (base : Nat) (tb : Nat → Nat) (v : mV) : (mC base tb v).category = mCat v := by
  rcases v with z | b | (_ | k) | x | x | t <;> rfl
/-- numbers of objects; a kind an object: its class's place in vwCl, or an array's kind (0 int, 1 long, 2 boolean, 3 Singer, 4 Choir) and length; ints, longs and references by object and place -/
abbrev mS : Type := Nat × (Nat → Nat ⊕ (Nat × Nat)) × (Nat → Int → Int) × (Nat → Int → BitVec 64) × (Nat → Int → Option Nat)
abbrev sN (g : mS) : Nat := g.1
abbrev sK (g : mS) : Nat → Nat ⊕ (Nat × Nat) := g.2.1
abbrev sI (g : mS) : Nat → Int → Int := g.2.2.1
abbrev sL (g : mS) : Nat → Int → BitVec 64 := g.2.2.2.1
abbrev sR (g : mS) : Nat → Int → Option Nat := g.2.2.2.2
def mU {α : Type} (f : Nat → Int → α) (o : Nat) (k : Int) (x : α) : Nat → Int → α := fun a b => if a = o ∧ b = k then x else f a b
abbrev sPutI (g : mS) (o : Nat) (k : Int) (z : Int) : mS := (g.1, g.2.1, mU g.2.2.1 o k z, g.2.2.2.1, g.2.2.2.2)
abbrev sPutL (g : mS) (o : Nat) (k : Int) (z : BitVec 64) : mS := (g.1, g.2.1, g.2.2.1, mU g.2.2.2.1 o k z, g.2.2.2.2)
abbrev sPutR (g : mS) (o : Nat) (k : Int) (z : Option Nat) : mS := (g.1, g.2.1, g.2.2.1, g.2.2.2.1, mU g.2.2.2.2 o k z)
/-- a new object of a kind, all of it at its first values -/
abbrev sNew (g : mS) (kd : Nat ⊕ (Nat × Nat)) : mS := (g.1 + 1, fun a => if a = g.1 then kd else g.2.1 a, fun a b => if a = g.1 then 0 else g.2.2.1 a b, fun a b => if a = g.1 then 0 else g.2.2.2.1 a b, fun a b => if a = g.1 then none else g.2.2.2.2 a b)
def mTy (ci : Nat) : Nat → FieldType := match ci with
  | 0 => tyX0 | 1 => tyX1 | 2 => tyX2 | 3 => tyX3 | 4 => tyX4 | 5 => tyX5 | 6 => tyX6 | 7 => tyX7 | 8 => tyX8 | _ => tyX9
/-- how a type is kept: 0 int, 1 long, 2 reference -/
def mTc : FieldType → Nat
  | .int => 0
  | .boolean => 0
  | .long => 1
  | _ => 2
def mAT (t : Nat) : FieldType := match t with
  | 0 => .int | 1 => .long | 2 => .boolean | 3 => .object RX5 | _ => .object RX0
def mRv (base : Nat) (r : Option Nat) : Value := match r with
  | none => .null
  | some k => .ref (base + k)
def mVal (base c : Nat) (g : mS) (o k : Nat) : Value := match c with
  | 0 => mI (sI g o (k : Int))
  | 1 => .long (Int64.ofBitVec (sL g o (k : Int)))
  | _ => mRv base (sR g o (k : Int))
theorem mVal0 (base : Nat) (g : mS) (o k : Nat) : mVal base 0 g o k = mI (sI g o (k : Int)) := rfl
theorem mVal1 (base : Nat) (g : mS) (o k : Nat) : mVal base 1 g o k = .long (Int64.ofBitVec (sL g o (k : Int))) := rfl
theorem mVal2 (base : Nat) (g : mS) (o k : Nat) : mVal base 2 g o k = mRv base (sR g o (k : Int)) := rfl
def mCell (base : Nat) (dC : Nat → ClassId) (dI : Nat → Nat → Nat) (U : State) (g : mS) (H : Heap) (o : Nat) : Prop := match sK g o with
  | .inl ci => ∃ q : vw_C, vwCl[ci]? = some q ∧ t_OB (base + o) (dC ci) q.2.2 (dI ci) H (fun k => mVal base (mTc (mTy ci k)) g o k)
  | .inr (t, n) => ∃ cA : ClassId, ArrOfT U cA (mAT t) ∧ va_RA U cA (mAT t) ∧ H[base + o]? = some (arrV cA n (fun k => mVal base (mTc (mAT t)) g o k))
/-- the heap H holds the state g, from the address base on -/
def mHp (base : Nat) (dC : Nat → ClassId) (dI : Nat → Nat → Nat) (U : State) (g : mS) (H : Heap) : Prop := H.size = base + sN g ∧ ∀ o : Nat, o < sN g → mCell base dC dI U g H o
/-- the four tables of the system's statics -/
def mTN (t : Nat) : String × String := match t with
  | 0 => ("ChoirBook", "SETTING_LEAST") | 1 => ("ChoirBook", "SETTING_MOST") | 2 => ("ChoirBook", "SETTING_FIRST") | _ => ("ChoirBook", "LOWEST_NOTE")
def mTF (t : Nat) (k : Nat) : Int := match t with
  | 0 => [1, 1, 0, 1].getD k 0 | 1 => [15, 50, 10, 6].getD k 0 | 2 => [12, 5, 1, 4].getD k 0 | _ => [22, 16, 10, 4].getD k 0
abbrev mA (base : Nat) : Nat → Prop := fun q => base ≤ q
def mGood : List Cond := lw_tbl.filter goodWord
theorem mIn {w : Cond} (i : Nat) (h : lw_tbl[i]? = some w) (hg : goodWord w = true) : w ∈ mGood := List.mem_filter.mpr ⟨List.mem_of_getElem? h, hg⟩
def mNest : List Cond := [.methodLinkNest "ChoirBook$Choir" 17 yX5_init "ChoirBook", .methodLinkNest "ChoirBook$Singer" 51 yX8_contains "ChoirBook", .methodLinkNest "ChoirBook$Placing" 72 yX8_contains "ChoirBook", .methodLinkNest "ChoirBook$Split" 22 yX8_contains "ChoirBook", .methodLinkNest "ChoirBook$Rehearsal" 62 yX8_isPart "ChoirBook", .fieldLinkNest "ChoirBook$Choir" 22 "ChoirBook" "SETTING_FIRST" "[I" "ChoirBook", .fieldLinkNest "ChoirBook$Singer" 55 "ChoirBook" "LOWEST_NOTE" "[I" "ChoirBook"]
/-- what the tables say wherever a method begins -/
def mWs (base : Nat) (tb : Nat → Nat) (dC : Nat → ClassId) (dI : Nat → Nat → Nat) (U : State) (H : Heap) : Prop :=
  va_K (dC, dI) vwCl [] U ∧ (∀ t : Nat, t < 4 → va_Z (mTN t).1 (mTN t).2 "[I" (.ref (tb t)) (mA base) U H ∧ va_T .int (tb t) 4 (fun k => mI (mTF t k)) (mA base) U H) ∧ (∀ w ∈ mNest, va_Nw w U) ∧ va_AO RX5 U ∧ va_AO RX0 U
theorem mNest_on : ∀ w ∈ mNest, w.onTables = true := by decide +kernel
theorem mWs.kept {base : Nat} {tb : Nat → Nat} {dC : Nat → ClassId} {dI : Nat → Nat → Nat} {U : State} {H H1 : Heap} (h : mWs base tb dC dI U H) (hq : ∀ a : Nat, a < H.size → ¬ mA base a → H1[a]? = H[a]?) : mWs base tb dC dI U H1 :=
  ⟨h.1, fun t ht => ⟨(h.2.1 t ht).1.kept hq, (h.2.1 t ht).2.kept hq⟩, h.2.2⟩
theorem mWs.moved {base : Nat} {tb : Nat → Nat} {dC : Nat → ClassId} {dI : Nat → Nat → Nat} {s U : State} {H : Heap} (hW : s.WarmedH U.vm) (h : mWs base tb dC dI s H) : mWs base tb dC dI U H := by
  obtain ⟨h1, h2, h3, h4, h5⟩ := h
  refine ⟨va_K.moved hW.alike h1, fun t ht => ⟨va_Z.moved hW.alike (h2 t ht).1, va_T.moved hW.alike (h2 t ht).2⟩, ?_, va_AO.moved hW.alike h4, va_AO.moved hW.alike h5⟩
  intro w hw
  have hz := h3 w hw
  simp only [mNest, List.mem_cons, List.not_mem_nil, or_false] at hw
  rcases hw with rfl | rfl | rfl | rfl | rfl | rfl | rfl
  all_goals first | exact va_Nw.warmM hW hz | exact va_Nw.warmF hW hz
theorem mWs.same {base : Nat} {tb : Nat → Nat} {dC : Nat → ClassId} {dI : Nat → Nat → Nat} {u U : State} {H : Heap} (hv : u.vm = U.vm) (h : mWs base tb dC dI u H) : mWs base tb dC dI U H := by
  have hal : u.vm.Alike U.vm := by rw [hv]; exact Vm.Alike.refl _
  obtain ⟨h1, h2, h3, h4, h5⟩ := h
  exact ⟨va_K.moved hal h1, fun t ht => ⟨va_Z.moved hal (h2 t ht).1, va_T.moved hal (h2 t ht).2⟩, fun w hw => va_Nw.same (mNest_on w hw) hv (h3 w hw), va_AO.moved hal h4, va_AO.moved hal h5⟩
theorem mCell.moved {base : Nat} {dC : Nat → ClassId} {dI : Nat → Nat → Nat} {u U : State} {g : mS} {H : Heap} {o : Nat} (hal : u.vm.Alike U.vm) (h : mCell base dC dI u g H o) : mCell base dC dI U g H o := by
  unfold mCell at h ⊢
  split
  · rename_i ci e
    simp only [e] at h
    exact h
  · rename_i t n e
    simp only [e] at h
    obtain ⟨cA, h1, h2, h3⟩ := h
    exact ⟨cA, arrOfT_moved hal h1, h2.moved hal, h3⟩
theorem mHp.moved {base : Nat} {dC : Nat → ClassId} {dI : Nat → Nat → Nat} {u U : State} {g : mS} {H : Heap} (hal : u.vm.Alike U.vm) (h : mHp base dC dI u g H) : mHp base dC dI U g H := ⟨h.1, fun o ho => (h.2 o ho).moved hal⟩
def mW (base : Nat) (tb : Nat → Nat) (dC : Nat → ClassId) (dI : Nat → Nat → Nat) (g : mS) (U : State) : Prop := mWs base tb dC dI U U.heap ∧ mHp base dC dI U g U.heap
/-- locals by place -/
def mLoc (base : Nat) (tb : Nat → Nat) (nL : Nat) (ls : Array Slot) (L : List (Option mV)) : Prop := ls.size = nL ∧ lv_wf ls ∧ ∀ (i : Nat) (v : mV), L[i]? = some (some v) → ls[i]? = some (.val (mC base tb v))
def mNW (L : List (Option mV)) (i : Nat) : Bool := match i with
  | 0 => true
  | j + 1 => match L[j]? with
    | some (some v) => mCat v == 1
    | _ => true
def mLst (base : Nat) (tb : Nat → Nat) (L : List (Option mV)) : List (Nat × Value) := (List.range L.length).filterMap (fun i => match L[i]? with | some (some v) => some (i, mC base tb v) | _ => none)
theorem mLst_mem {base : Nat} {tb : Nat → Nat} {L : List (Option mV)} {q : Nat × Value} : q ∈ mLst base tb L ↔ ∃ v, L[q.1]? = some (some v) ∧ q.2 = mC base tb v := by
  unfold mLst
  rw [List.mem_filterMap]
  constructor
  · rintro ⟨i, -, h⟩
    split at h
    · rename_i v e
      cases h
      exact ⟨v, e, rfl⟩
    · cases h
  · rintro ⟨v, h1, h2⟩
    refine ⟨q.1, List.mem_range.mpr (List.getElem?_eq_some_iff.mp h1).1, ?_⟩
    rw [h1]
    obtain ⟨a, b⟩ := q
    simp only at h2 ⊢
    rw [h2]
theorem mLoc.has {base : Nat} {tb : Nat → Nat} {nL : Nat} {ls : Array Slot} {L : List (Option mV)} (h : mLoc base tb nL ls L) : lv_has ls nL (mLst base tb L) := by
  refine ⟨h.1, h.2.1, fun q hq => ?_⟩
  obtain ⟨v, h1, h2⟩ := mLst_mem.mp hq
  rw [h2]
  exact h.2.2 _ _ h1
/-- behind a store of one word at i -/
theorem mLoc.st1 {base : Nat} {tb : Nat → Nat} {nL : Nat} {L L' : List (Option mV)} {i : Nat} {v : mV} {ls' : Array Slot} {lv' : List (Nat × Value)} (hw : mNW L i = true) (hL : L.set i (some v) = L')
    (hl : (i, mC base tb v) :: (mLst base tb L).filter (fun q => !(q.1 == i) && !(q.1 + 1 == i && q.2.category == 2)) = lv') (h' : lv_has ls' nL lv') : mLoc base tb nL ls' L' := by
  refine ⟨h'.1, h'.2.1, fun j w hj => h'.2.2 (j, mC base tb w) ?_⟩
  subst hL; subst hl
  rw [List.getElem?_set] at hj
  by_cases hij : i = j
  · subst hij
    rw [if_pos rfl] at hj
    split at hj
    · cases hj
      exact List.mem_cons_self
    · cases hj
  · rw [if_neg hij] at hj
    refine List.mem_cons_of_mem _ (List.mem_filter.mpr ⟨mLst_mem.mpr ⟨w, hj, rfl⟩, ?_⟩)
    have h1 : (j == i) = false := by simp; omega
    simp only [h1, Bool.not_false, Bool.true_and, Bool.not_eq_true', Bool.and_eq_false_iff]
    by_cases hji : j + 1 = i
    · right
      subst hji
      simp only [mNW, hj, beq_iff_eq] at hw
      rw [mC_cat, hw]
      rfl
    · left
      simp [hji]
/-- behind a store of two words at i -/
theorem mLoc.st2 {base : Nat} {tb : Nat → Nat} {nL : Nat} {L L' : List (Option mV)} {i : Nat} {v : mV} {ls' : Array Slot} {lv' : List (Nat × Value)} (hw : mNW L i = true) (hL : (L.set i (some v)).set (i + 1) none = L')
    (hl : (i, mC base tb v) :: (mLst base tb L).filter (fun q => !(q.1 == i) && (!(q.1 == i + 1) && !(q.1 + 1 == i && q.2.category == 2))) = lv') (h' : lv_has ls' nL lv') : mLoc base tb nL ls' L' := by
  refine ⟨h'.1, h'.2.1, fun j w hj => h'.2.2 (j, mC base tb w) ?_⟩
  subst hL; subst hl
  rw [List.getElem?_set] at hj
  by_cases hi1 : i + 1 = j
  · subst hi1
    rw [if_pos rfl] at hj
    split at hj <;> cases hj
  rw [if_neg hi1, List.getElem?_set] at hj
  by_cases hij : i = j
  · subst hij
    rw [if_pos rfl] at hj
    split at hj
    · cases hj
      exact List.mem_cons_self
    · cases hj
  · rw [if_neg hij] at hj
    refine List.mem_cons_of_mem _ (List.mem_filter.mpr ⟨mLst_mem.mpr ⟨w, hj, rfl⟩, ?_⟩)
    have h1 : (j == i) = false := by simp; omega
    have h2 : (j == i + 1) = false := by simp; omega
    simp only [h1, h2, Bool.not_false, Bool.true_and, Bool.not_eq_true', Bool.and_eq_false_iff]
    by_cases hji : j + 1 = i
    · right
      subst hji
      simp only [mNW, hj, beq_iff_eq] at hw
      rw [mC_cat, hw]
      rfl
    · left
      simp [hji]
theorem mLoc.drop {base : Nat} {tb : Nat → Nat} {nL : Nat} {ls : Array Slot} {L L' : List (Option mV)} (h : mLoc base tb nL ls L) (hs : ∀ (i : Nat) (v : mV), L'[i]? = some (some v) → L[i]? = some (some v)) : mLoc base tb nL ls L' := ⟨h.1, h.2.1, fun i v hi => h.2.2 i v (hs i v hi)⟩
end
section
/-! THE LAYER'S JUDGEMENT: a method at a place with its locals, stack and state; its end and the rows of the instructions -/
/-- a method: its name, bytes, number of locals, answer, decoded instructions, and (the law alone) the script -/
abbrev mM : Type := MethodName × ByteArray × Nat × Option FieldType × List (Nat × Instr × Nat) × Option (Nat × (Nat → Int32))
abbrev mName (M : mM) : MethodName := M.1
abbrev mBytes (M : mM) : ByteArray := M.2.1
abbrev mNL (M : mM) : Nat := M.2.2.1
abbrev mRet (M : mM) : Option FieldType := M.2.2.2.1
abbrev mTab (M : mM) : List (Nat × Instr × Nat) := M.2.2.2.2.1
abbrev mScr (M : mM) : Option (Nat × (Nat → Int32)) := M.2.2.2.2.2
def mFix (M : mM) (d : Nat) (p : Program) (R : Room) (s : State) (m : MethodId) (args : Array Value) (meth : Method) (c : Code) (base : Nat) (tb : Nat → Nat) (dC : Nat → ClassId) (dI : Nat → Nat → Nat) : Prop :=
  p.tables.exec = Jvm.exec ∧ c.code = mBytes M ∧ c.maxLocals = mNL M ∧ s.vm.findClass (mName M).cls = some m.cls ∧ (∀ w ∈ mGood, w.before args s = true) ∧ d ≤ R.frames ∧ 30 * d ≤ R.locals ∧ mWs base tb dC dI s s.heap ∧ base ≤ s.heap.size ∧ (∀ q ∈ mTab M, decode (mBytes M) q.1 = .ok q.2) ∧ meth.name = (mName M).name ∧ ∀ q, mScr M = some q → va_X (tb 4) q.1 q.2 s s.heap ∧ tb 4 < s.heap.size ∧ ¬ mA base (tb 4)
/-- what an answer must be: nothing, an int, a boolean, a long, a float -/
def mRok (ret : Option FieldType) (v : Option mV) (i : Instr) : Prop := match v with
  | none => ret = none ∧ i = .return_
  | some (.inl z) => i = .ireturn ∧ (ret = some .int ∨ (ret = some .boolean ∧ (z = 0 ∨ z = 1)))
  | some (.inr (.inl _)) => i = .lreturn ∧ ret = some .long
  | some (.inr (.inr (.inr (.inl _)))) => i = .freturn ∧ ret = some .float
  | _ => False
def mEnd (M : mM) (p : Program) (l : Launch) (e : Env) (R : Room) (s : State) (m : MethodId) (args : Array Value) (below : List Frame) (meth : Method) (c : Code) (Q : State → Prop) (base : Nat) (tb : Nat → Nat) (dC : Nat → ClassId) (dI : Nat → Nat → Nat) (Qa : Option mV → mS → Prop) : Prop :=
  ∀ (v : Option mV) (g : mS) (H : Heap) (locs : List Loc) (cells slots pc : Nat) (i : Instr) (ls : Array Slot), Qa v g → mRok (mRet M) v i → decode (mBytes M) pc = .ok (i, 1) → mHp base dC dI s g H → va_S (mA base) s.heap H locs → cells ≤ R.cells → slots ≤ R.slots →
    W p l e R s m args below meth c H locs cells slots Q (F0 m pc ls ((v.map (mC base tb)).toList))
def mX (M : mM) (d : Nat) (Qa : Option mV → mS → Prop) (cb sb pc : Nat) (L : List (Option mV)) (S : List mV) (g : mS) : Prop :=
  ∀ (p : Program) (l : Launch) (e : Env) (R : Room) (s : State) (m : MethodId) (args : Array Value) (below : List Frame) (meth : Method) (c : Code) (Q : State → Prop) (base : Nat) (tb : Nat → Nat) (dC : Nat → ClassId) (dI : Nat → Nat → Nat),
    mFix M d p R s m args meth c base tb dC dI → mEnd M p l e R s m args below meth c Q base tb dC dI Qa →
    ∀ (H : Heap) (locs : List Loc) (cells slots : Nat) (ls : Array Slot), mHp base dC dI s g H → va_S (mA base) s.heap H locs → mLoc base tb (mNL M) ls L → cells + cb ≤ R.cells → slots + sb ≤ R.slots →
      W p l e R s m args below meth c H locs cells slots Q (F0 m pc ls (S.map (mC base tb)))
theorem mFix.dec {M : mM} {d : Nat} {p : Program} {R : Room} {s : State} {m : MethodId} {args : Array Value} {meth : Method} {c : Code} {base : Nat} {tb : Nat → Nat} {dC : Nat → ClassId} {dI : Nat → Nat → Nat} (F : mFix M d p R s m args meth c base tb dC dI) {j pc len : Nat} {i : Instr} (h : (mTab M)[j]? = some (pc, i, len)) : decode (mBytes M) pc = .ok (i, len) := by
  obtain ⟨-, -, -, -, -, -, -, -, -, h10, -⟩ := F
  exact h10 (pc, i, len) (List.mem_of_getElem? h)
theorem mFix.go {M : mM} {d : Nat} {p : Program} {R : Room} {s : State} {m : MethodId} {args : Array Value} {meth : Method} {c : Code} {base : Nat} {tb : Nat → Nat} {dC : Nat → ClassId} {dI : Nat → Nat → Nat} (F : mFix M d p R s m args meth c base tb dC dI) {w : Cond} (h : w ∈ mGood) : w.before args s = true := F.2.2.2.2.1 w h
/-! numbers: an int of the machine is the number it is, where that fits -/
def mR (a : Int) : Prop := -2147483648 ≤ a ∧ a < 2147483648
theorem mI_to {a : Int} (h : mR a) : (Int32.ofInt a).toInt = a := by
  obtain ⟨h1, h2⟩ := h
  rw [Int32.toInt_ofInt]
  exact Int.bmod_eq_of_le (by simp [Int32.size]; omega) (by simp [Int32.size]; omega)
theorem mI_eq {a b : Int} (ha : mR a) (hb : mR b) : (Int32.ofInt a = Int32.ofInt b) ↔ a = b := by
  constructor
  · intro h
    have := congrArg Int32.toInt h
    rwa [mI_to ha, mI_to hb] at this
  · rintro rfl; rfl
theorem mI_lt {a b : Int} (ha : mR a) (hb : mR b) : (Int32.ofInt a < Int32.ofInt b) ↔ a < b := by
  rw [Int32.lt_iff_toInt_lt, mI_to ha, mI_to hb]
theorem mI_le {a b : Int} (ha : mR a) (hb : mR b) : (Int32.ofInt a ≤ Int32.ofInt b) ↔ a ≤ b := by
  rw [Int32.le_iff_toInt_le, mI_to ha, mI_to hb]
theorem mI_of (x : Int32) : mI x.toInt = .int x := by simp [mI]
theorem mI_rg (x : Int32) : mR x.toInt := ⟨Int32.le_toInt x, Int32.toInt_lt x⟩
theorem mI_nat {a : Int} (h : mR a) (h0 : 0 ≤ a) : (Int32.ofInt a).toNatClampNeg = a.toNat := by
  show (Int32.ofInt a).toInt.toNat = a.toNat
  rw [mI_to h]
theorem mR0 : mR 0 := ⟨by decide, by decide⟩
theorem mI_in {a : Int} {n : Nat} (h0 : 0 ≤ a) (h1 : a < n) (h : mR a) : ¬ (Int32.ofInt a < 0 ∨ n ≤ (Int32.ofInt a).toNatClampNeg) := by
  rw [mI_nat h h0, show (0 : Int32) = Int32.ofInt 0 from rfl, mI_lt h mR0]
  omega
end
section
/-! rows: constants, locals, arithmetic, branches -/
/-- some of the locals forgotten -/
def mSubL : List (Option mV) → List (Option mV) → Prop
  | [], _ => True
  | none :: t, _ :: u => mSubL t u
  | some v :: t, w :: u => w = some v ∧ mSubL t u
  | _ :: _, [] => False
theorem mSubL_at : ∀ (L' L : List (Option mV)), mSubL L' L → ∀ (i : Nat) (v : mV), L'[i]? = some (some v) → L[i]? = some (some v)
  | [], L, _, i, v, h => by simp at h
  | none :: t, [], h, i, v, h1 => h.elim
  | some w :: t, [], h, i, v, h1 => h.elim
  | none :: t, w :: u, h, 0, v, h1 => by simp at h1
  | none :: t, w :: u, h, i + 1, v, h1 => mSubL_at t u h i v h1
  | some x :: t, w :: u, h, 0, v, h1 => by
    obtain ⟨rfl, -⟩ := h
    exact h1
  | some x :: t, w :: u, h, i + 1, v, h1 => mSubL_at t u h.2 i v h1
section MX
variable {M : mM} {d cb sb pc : Nat} {Qa : Option mV → mS → Prop} {L : List (Option mV)} {S : List mV} {g : mS}
theorem x_iconst (j : Nat) {n : Int} (hd : (mTab M)[j]? = some (pc, .iconst n, 1)) (k : mX M d Qa cb sb (pc + 1) L (vI n :: S) g) : mX M d Qa cb sb pc L (S) g := by
  intro p l e R s m args below meth c Q base tb dC dI F E H locs cells slots ls hH hS hL hc hs
  exact lv_iconst F.1 F.2.1 (F.dec hd) rfl (k p l e R s m args below meth c Q base tb dC dI F E H locs cells slots ls hH hS hL hc hs)
theorem x_bipush (j : Nat) {n : Int} (hd : (mTab M)[j]? = some (pc, .bipush n, 2)) (hv : (Int8.ofInt n).toInt32 = Int32.ofInt n) (k : mX M d Qa cb sb (pc + 2) L (vI n :: S) g) : mX M d Qa cb sb pc L (S) g := by
  intro p l e R s m args below meth c Q base tb dC dI F E H locs cells slots ls hH hS hL hc hs
  exact lv_bipush F.1 F.2.1 (F.dec hd) hv (k p l e R s m args below meth c Q base tb dC dI F E H locs cells slots ls hH hS hL hc hs)
theorem x_sipush (j : Nat) {n : Int} (hd : (mTab M)[j]? = some (pc, .sipush n, 3)) (hv : (Int16.ofInt n).toInt32 = Int32.ofInt n) (k : mX M d Qa cb sb (pc + 3) L (vI n :: S) g) : mX M d Qa cb sb pc L (S) g := by
  intro p l e R s m args below meth c Q base tb dC dI F E H locs cells slots ls hH hS hL hc hs
  exact lv_sipush F.1 F.2.1 (F.dec hd) hv (k p l e R s m args below meth c Q base tb dC dI F E H locs cells slots ls hH hS hL hc hs)
theorem x_lconst (j : Nat) {n : Fin 2} {v : BitVec 64} (hd : (mTab M)[j]? = some (pc, .lconst n, 1)) (hv : BitVec.ofNat 64 (n : Nat) = v) (k : mX M d Qa cb sb (pc + 1) L (vL v :: S) g) : mX M d Qa cb sb pc L (S) g := by
  intro p l e R s m args below meth c Q base tb dC dI F E H locs cells slots ls hH hS hL hc hs
  subst hv
  exact lv_lconst F.1 F.2.1 (F.dec hd) rfl (k p l e R s m args below meth c Q base tb dC dI F E H locs cells slots ls hH hS hL hc hs)
theorem x_iload_n (j : Nat) {i : Fin 4} {z : Int} (hd : (mTab M)[j]? = some (pc, .iload_n i, 1)) (hl : L[(i : Nat)]? = some (some (vI z))) (k : mX M d Qa cb sb (pc + 1) L (vI z :: S) g) : mX M d Qa cb sb pc L (S) g := by
  intro p l e R s m args below meth c Q base tb dC dI F E H locs cells slots ls hH hS hL hc hs
  exact lv_iload_n F.1 F.2.1 (F.dec hd) rfl (hL.2.2 _ _ hl) (k p l e R s m args below meth c Q base tb dC dI F E H locs cells slots ls hH hS hL hc hs)
theorem x_iload (j : Nat) {i : Nat} {z : Int} (hd : (mTab M)[j]? = some (pc, .iload i, 2)) (hl : L[i]? = some (some (vI z))) (k : mX M d Qa cb sb (pc + 2) L (vI z :: S) g) : mX M d Qa cb sb pc L (S) g := by
  intro p l e R s m args below meth c Q base tb dC dI F E H locs cells slots ls hH hS hL hc hs
  exact lv_iload F.1 F.2.1 (F.dec hd) (hL.2.2 _ _ hl) (k p l e R s m args below meth c Q base tb dC dI F E H locs cells slots ls hH hS hL hc hs)
theorem x_lload_n (j : Nat) {i : Fin 4} {z : BitVec 64} (hd : (mTab M)[j]? = some (pc, .lload_n i, 1)) (hl : L[(i : Nat)]? = some (some (vL z))) (k : mX M d Qa cb sb (pc + 1) L (vL z :: S) g) : mX M d Qa cb sb pc L (S) g := by
  intro p l e R s m args below meth c Q base tb dC dI F E H locs cells slots ls hH hS hL hc hs
  exact lv_lload_n F.1 F.2.1 (F.dec hd) rfl (hL.2.2 _ _ hl) (k p l e R s m args below meth c Q base tb dC dI F E H locs cells slots ls hH hS hL hc hs)
theorem x_lload (j : Nat) {i : Nat} {z : BitVec 64} (hd : (mTab M)[j]? = some (pc, .lload i, 2)) (hl : L[i]? = some (some (vL z))) (k : mX M d Qa cb sb (pc + 2) L (vL z :: S) g) : mX M d Qa cb sb pc L (S) g := by
  intro p l e R s m args below meth c Q base tb dC dI F E H locs cells slots ls hH hS hL hc hs
  exact lv_lload F.1 F.2.1 (F.dec hd) (hL.2.2 _ _ hl) (k p l e R s m args below meth c Q base tb dC dI F E H locs cells slots ls hH hS hL hc hs)
theorem x_aload_n (j : Nat) {i : Fin 4} {z : Nat} (hd : (mTab M)[j]? = some (pc, .aload_n i, 1)) (hl : L[(i : Nat)]? = some (some (vR (some z)))) (k : mX M d Qa cb sb (pc + 1) L (vR (some z) :: S) g) : mX M d Qa cb sb pc L (S) g := by
  intro p l e R s m args below meth c Q base tb dC dI F E H locs cells slots ls hH hS hL hc hs
  exact lv_aload_n F.1 F.2.1 (F.dec hd) rfl (hL.2.2 _ _ hl) (k p l e R s m args below meth c Q base tb dC dI F E H locs cells slots ls hH hS hL hc hs)
theorem x_aload (j : Nat) {i : Nat} {z : Nat} (hd : (mTab M)[j]? = some (pc, .aload i, 2)) (hl : L[i]? = some (some (vR (some z)))) (k : mX M d Qa cb sb (pc + 2) L (vR (some z) :: S) g) : mX M d Qa cb sb pc L (S) g := by
  intro p l e R s m args below meth c Q base tb dC dI F E H locs cells slots ls hH hS hL hc hs
  exact lv_aload F.1 F.2.1 (F.dec hd) (hL.2.2 _ _ hl) (k p l e R s m args below meth c Q base tb dC dI F E H locs cells slots ls hH hS hL hc hs)
theorem x_tload_n (j : Nat) {i : Fin 4} {z : Nat} (hd : (mTab M)[j]? = some (pc, .aload_n i, 1)) (hl : L[(i : Nat)]? = some (some (vT z))) (k : mX M d Qa cb sb (pc + 1) L (vT z :: S) g) : mX M d Qa cb sb pc L (S) g := by
  intro p l e R s m args below meth c Q base tb dC dI F E H locs cells slots ls hH hS hL hc hs
  exact lv_aload_n F.1 F.2.1 (F.dec hd) rfl (hL.2.2 _ _ hl) (k p l e R s m args below meth c Q base tb dC dI F E H locs cells slots ls hH hS hL hc hs)
theorem x_tload (j : Nat) {i : Nat} {z : Nat} (hd : (mTab M)[j]? = some (pc, .aload i, 2)) (hl : L[i]? = some (some (vT z))) (k : mX M d Qa cb sb (pc + 2) L (vT z :: S) g) : mX M d Qa cb sb pc L (S) g := by
  intro p l e R s m args below meth c Q base tb dC dI F E H locs cells slots ls hH hS hL hc hs
  exact lv_aload F.1 F.2.1 (F.dec hd) (hL.2.2 _ _ hl) (k p l e R s m args below meth c Q base tb dC dI F E H locs cells slots ls hH hS hL hc hs)
theorem x_dload (j : Nat) {i : Nat} {z : UInt64} (hd : (mTab M)[j]? = some (pc, .dload i, 2)) (hl : L[i]? = some (some (vD z))) (k : mX M d Qa cb sb (pc + 2) L (vD z :: S) g) : mX M d Qa cb sb pc L (S) g := by
  intro p l e R s m args below meth c Q base tb dC dI F E H locs cells slots ls hH hS hL hc hs
  exact lv_dload F.1 F.2.1 (F.dec hd) (hL.2.2 _ _ hl) (k p l e R s m args below meth c Q base tb dC dI F E H locs cells slots ls hH hS hL hc hs)
theorem x_istore_n (j : Nat) {L' : List (Option mV)} {i : Fin 4} {z : Int} (hd : (mTab M)[j]? = some (pc, .istore_n i, 1)) (hn : (i : Nat) < mNL M) (hw : mNW L (i : Nat) = true) (hl : L.set (i : Nat) (some (vI z)) = L') (k : mX M d Qa cb sb (pc + 1) L' S g) : mX M d Qa cb sb pc L (vI z :: S) g := by
  intro p l e R s m args below meth c Q base tb dC dI F E H locs cells slots ls hH hS hL hc hs
  exact lv_istore_n (lv' := _) F.1 F.2.1 (F.dec hd) rfl hL.has hn rfl (fun ls' h' => k p l e R s m args below meth c Q base tb dC dI F E H locs cells slots ls' hH hS (mLoc.st1 hw hl rfl h') hc hs)
theorem x_istore (j : Nat) {L' : List (Option mV)} {i : Nat} {z : Int} (hd : (mTab M)[j]? = some (pc, .istore i, 2)) (hn : i < mNL M) (hw : mNW L i = true) (hl : L.set i (some (vI z)) = L') (k : mX M d Qa cb sb (pc + 2) L' S g) : mX M d Qa cb sb pc L (vI z :: S) g := by
  intro p l e R s m args below meth c Q base tb dC dI F E H locs cells slots ls hH hS hL hc hs
  exact lv_istore (lv' := _) F.1 F.2.1 (F.dec hd) hL.has hn rfl (fun ls' h' => k p l e R s m args below meth c Q base tb dC dI F E H locs cells slots ls' hH hS (mLoc.st1 hw hl rfl h') hc hs)
theorem x_lstore_n (j : Nat) {L' : List (Option mV)} {i : Fin 4} {z : BitVec 64} (hd : (mTab M)[j]? = some (pc, .lstore_n i, 1)) (hn : (i : Nat) + 1 < mNL M) (hw : mNW L (i : Nat) = true) (hl : (L.set (i : Nat) (some (vL z))).set ((i : Nat) + 1) none = L') (k : mX M d Qa cb sb (pc + 1) L' S g) : mX M d Qa cb sb pc L (vL z :: S) g := by
  intro p l e R s m args below meth c Q base tb dC dI F E H locs cells slots ls hH hS hL hc hs
  exact lv_lstore_n (lv' := _) F.1 F.2.1 (F.dec hd) rfl hL.has hn rfl (fun ls' h' => k p l e R s m args below meth c Q base tb dC dI F E H locs cells slots ls' hH hS (mLoc.st2 hw hl rfl h') hc hs)
theorem x_lstore (j : Nat) {L' : List (Option mV)} {i : Nat} {z : BitVec 64} (hd : (mTab M)[j]? = some (pc, .lstore i, 2)) (hn : i + 1 < mNL M) (hw : mNW L i = true) (hl : (L.set i (some (vL z))).set (i + 1) none = L') (k : mX M d Qa cb sb (pc + 2) L' S g) : mX M d Qa cb sb pc L (vL z :: S) g := by
  intro p l e R s m args below meth c Q base tb dC dI F E H locs cells slots ls hH hS hL hc hs
  exact lv_lstore (lv' := _) F.1 F.2.1 (F.dec hd) hL.has hn rfl (fun ls' h' => k p l e R s m args below meth c Q base tb dC dI F E H locs cells slots ls' hH hS (mLoc.st2 hw hl rfl h') hc hs)
theorem x_astore_n (j : Nat) {L' : List (Option mV)} {i : Fin 4} {z : Nat} (hd : (mTab M)[j]? = some (pc, .astore_n i, 1)) (hn : (i : Nat) < mNL M) (hw : mNW L (i : Nat) = true) (hl : L.set (i : Nat) (some (vR (some z))) = L') (k : mX M d Qa cb sb (pc + 1) L' S g) : mX M d Qa cb sb pc L (vR (some z) :: S) g := by
  intro p l e R s m args below meth c Q base tb dC dI F E H locs cells slots ls hH hS hL hc hs
  exact lv_astore_n (lv' := _) F.1 F.2.1 (F.dec hd) rfl hL.has hn rfl (fun ls' h' => k p l e R s m args below meth c Q base tb dC dI F E H locs cells slots ls' hH hS (mLoc.st1 hw hl rfl h') hc hs)
theorem x_astore (j : Nat) {L' : List (Option mV)} {i : Nat} {z : Nat} (hd : (mTab M)[j]? = some (pc, .astore i, 2)) (hn : i < mNL M) (hw : mNW L i = true) (hl : L.set i (some (vR (some z))) = L') (k : mX M d Qa cb sb (pc + 2) L' S g) : mX M d Qa cb sb pc L (vR (some z) :: S) g := by
  intro p l e R s m args below meth c Q base tb dC dI F E H locs cells slots ls hH hS hL hc hs
  exact lv_astore (lv' := _) F.1 F.2.1 (F.dec hd) hL.has hn rfl (fun ls' h' => k p l e R s m args below meth c Q base tb dC dI F E H locs cells slots ls' hH hS (mLoc.st1 hw hl rfl h') hc hs)
theorem x_dstore (j : Nat) {L' : List (Option mV)} {i : Nat} {z : UInt64} (hd : (mTab M)[j]? = some (pc, .dstore i, 2)) (hn : i + 1 < mNL M) (hw : mNW L i = true) (hl : (L.set i (some (vD z))).set (i + 1) none = L') (k : mX M d Qa cb sb (pc + 2) L' S g) : mX M d Qa cb sb pc L (vD z :: S) g := by
  intro p l e R s m args below meth c Q base tb dC dI F E H locs cells slots ls hH hS hL hc hs
  exact lv_dstore (lv' := _) F.1 F.2.1 (F.dec hd) hL.has hn rfl (fun ls' h' => k p l e R s m args below meth c Q base tb dC dI F E H locs cells slots ls' hH hS (mLoc.st2 hw hl rfl h') hc hs)
theorem x_iinc (j : Nat) {L' : List (Option mV)} {i : Nat} {n z z' : Int} (hd : (mTab M)[j]? = some (pc, .iinc i n, 3)) (hn : i < mNL M) (hg : L[i]? = some (some (vI z))) (hz : z + n = z') (hw : mNW L i = true) (hl : L.set i (some (vI z')) = L') (k : mX M d Qa cb sb (pc + 3) L' S g) : mX M d Qa cb sb pc L S g := by
  intro p l e R s m args below meth c Q base tb dC dI F E H locs cells slots ls hH hS hL hc hs
  have hm : (i, mC base tb (vI z)) ∈ mLst base tb L := mLst_mem.mpr ⟨vI z, hg, rfl⟩
  obtain ⟨q, hq⟩ := List.getElem?_of_mem hm
  refine lv_iinc (k := q) (x := Int32.ofInt z) (v := Int32.ofInt z') (lv' := _) F.1 F.2.1 (F.dec hd) hL.has hq (by rw [← hz, Int32.ofInt_add]) hn rfl (fun ls' h' => ?_)
  exact k p l e R s m args below meth c Q base tb dC dI F E H locs cells slots ls' hH hS (mLoc.st1 (v := vI z') hw hl rfl h') hc hs
theorem x_iadd (j : Nat) {a b r : Int} (hd : (mTab M)[j]? = some (pc, .iadd, 1)) (hr : a + b = r) (k : mX M d Qa cb sb (pc + 1) L (vI r :: S) g) : mX M d Qa cb sb pc L (vI b :: vI a :: S) g := by
  intro p l e R s m args below meth c Q base tb dC dI F E H locs cells slots ls hH hS hL hc hs
  refine lv_iadd F.1 F.2.1 (F.dec hd) ?_
  rw [← Int32.ofInt_add, hr]
  exact (k p l e R s m args below meth c Q base tb dC dI F E H locs cells slots ls hH hS hL hc hs)
theorem x_isub (j : Nat) {a b r : Int} (hd : (mTab M)[j]? = some (pc, .isub, 1)) (hr : a - b = r) (k : mX M d Qa cb sb (pc + 1) L (vI r :: S) g) : mX M d Qa cb sb pc L (vI b :: vI a :: S) g := by
  intro p l e R s m args below meth c Q base tb dC dI F E H locs cells slots ls hH hS hL hc hs
  refine lv_isub F.1 F.2.1 (F.dec hd) ?_
  rw [← Int32.ofInt_sub, hr]
  exact (k p l e R s m args below meth c Q base tb dC dI F E H locs cells slots ls hH hS hL hc hs)
theorem x_imul (j : Nat) {a b r : Int} (hd : (mTab M)[j]? = some (pc, .imul, 1)) (hr : a * b = r) (k : mX M d Qa cb sb (pc + 1) L (vI r :: S) g) : mX M d Qa cb sb pc L (vI b :: vI a :: S) g := by
  intro p l e R s m args below meth c Q base tb dC dI F E H locs cells slots ls hH hS hL hc hs
  refine lv_imul F.1 F.2.1 (F.dec hd) ?_
  rw [← Int32.ofInt_mul, hr]
  exact (k p l e R s m args below meth c Q base tb dC dI F E H locs cells slots ls hH hS hL hc hs)
theorem x_ineg (j : Nat) {a r : Int} (hd : (mTab M)[j]? = some (pc, .ineg, 1)) (hr : -a = r) (k : mX M d Qa cb sb (pc + 1) L (vI r :: S) g) : mX M d Qa cb sb pc L (vI a :: S) g := by
  intro p l e R s m args below meth c Q base tb dC dI F E H locs cells slots ls hH hS hL hc hs
  refine lv_ineg F.1 F.2.1 (F.dec hd) ?_
  rw [← Int32.ofInt_neg, hr]
  exact (k p l e R s m args below meth c Q base tb dC dI F E H locs cells slots ls hH hS hL hc hs)
theorem x_dup (j : Nat) {v : mV} (hd : (mTab M)[j]? = some (pc, .dup, 1)) (hv : mCat v = 1) (k : mX M d Qa cb sb (pc + 1) L (v :: v :: S) g) : mX M d Qa cb sb pc L (v :: S) g := by
  intro p l e R s m args below meth c Q base tb dC dI F E H locs cells slots ls hH hS hL hc hs
  exact lv_dup F.1 F.2.1 (F.dec hd) (by rw [mC_cat, hv]) (k p l e R s m args below meth c Q base tb dC dI F E H locs cells slots ls hH hS hL hc hs)
theorem x_dup2 (j : Nat) {v w : mV} (hd : (mTab M)[j]? = some (pc, .dup2, 1)) (hv : mCat v = 1) (hw : mCat w = 1) (k : mX M d Qa cb sb (pc + 1) L (v :: w :: v :: w :: S) g) : mX M d Qa cb sb pc L (v :: w :: S) g := by
  intro p l e R s m args below meth c Q base tb dC dI F E H locs cells slots ls hH hS hL hc hs
  exact lv_dup2_11 F.1 F.2.1 (F.dec hd) (by rw [mC_cat, hv]) (by rw [mC_cat, hw]) (k p l e R s m args below meth c Q base tb dC dI F E H locs cells slots ls hH hS hL hc hs)
theorem x_icmp_eq (j : Nat) {off : Int} {tgt : Nat} {a b : Int} (hd : (mTab M)[j]? = some (pc, .if_icmp .eq off, 3)) (ht : (pc : Int) + off = (tgt : Int)) (hr : -2147483648 ≤ a ∧ a < 2147483648 ∧ -2147483648 ≤ b ∧ b < 2147483648) (kt : a = b → mX M d Qa cb sb tgt L S g) (kf : a ≠ b → mX M d Qa cb sb (pc + 3) L S g) : mX M d Qa cb sb pc L (vI b :: vI a :: S) g := by
  intro p l e R s m args below meth c Q base tb dC dI F E H locs cells slots ls hH hS hL hc hs
  have ha : mR a := ⟨hr.1, hr.2.1⟩
  have hb : mR b := ⟨hr.2.2.1, hr.2.2.2⟩
  have e1 := mI_eq ha hb
  have e2 := mI_lt ha hb
  have e3 := mI_lt hb ha
  have e4 := mI_le ha hb
  have e5 := mI_le hb ha
  refine lv_icmp_eq (x := Int32.ofInt a) (y := Int32.ofInt b) F.1 F.2.1 (F.dec hd) ht (fun h => kt ?_ p l e R s m args below meth c Q base tb dC dI F E H locs cells slots ls hH hS hL hc hs) (fun h => kf ?_ p l e R s m args below meth c Q base tb dC dI F E H locs cells slots ls hH hS hL hc hs)
  all_goals (try simp only [show (0 : Int32) = Int32.ofInt 0 from rfl] at h)
  all_goals (try simp only [ge_iff_le, gt_iff_lt, ne_eq, e1, e2, e3, e4, e5] at h ⊢)
  all_goals omega
theorem x_icmp_ne (j : Nat) {off : Int} {tgt : Nat} {a b : Int} (hd : (mTab M)[j]? = some (pc, .if_icmp .ne off, 3)) (ht : (pc : Int) + off = (tgt : Int)) (hr : -2147483648 ≤ a ∧ a < 2147483648 ∧ -2147483648 ≤ b ∧ b < 2147483648) (kt : a ≠ b → mX M d Qa cb sb tgt L S g) (kf : a = b → mX M d Qa cb sb (pc + 3) L S g) : mX M d Qa cb sb pc L (vI b :: vI a :: S) g := by
  intro p l e R s m args below meth c Q base tb dC dI F E H locs cells slots ls hH hS hL hc hs
  have ha : mR a := ⟨hr.1, hr.2.1⟩
  have hb : mR b := ⟨hr.2.2.1, hr.2.2.2⟩
  have e1 := mI_eq ha hb
  have e2 := mI_lt ha hb
  have e3 := mI_lt hb ha
  have e4 := mI_le ha hb
  have e5 := mI_le hb ha
  refine lv_icmp_ne (x := Int32.ofInt a) (y := Int32.ofInt b) F.1 F.2.1 (F.dec hd) ht (fun h => kt ?_ p l e R s m args below meth c Q base tb dC dI F E H locs cells slots ls hH hS hL hc hs) (fun h => kf ?_ p l e R s m args below meth c Q base tb dC dI F E H locs cells slots ls hH hS hL hc hs)
  all_goals (try simp only [show (0 : Int32) = Int32.ofInt 0 from rfl] at h)
  all_goals (try simp only [ge_iff_le, gt_iff_lt, ne_eq, e1, e2, e3, e4, e5] at h ⊢)
  all_goals omega
theorem x_icmp_lt (j : Nat) {off : Int} {tgt : Nat} {a b : Int} (hd : (mTab M)[j]? = some (pc, .if_icmp .lt off, 3)) (ht : (pc : Int) + off = (tgt : Int)) (hr : -2147483648 ≤ a ∧ a < 2147483648 ∧ -2147483648 ≤ b ∧ b < 2147483648) (kt : a < b → mX M d Qa cb sb tgt L S g) (kf : b ≤ a → mX M d Qa cb sb (pc + 3) L S g) : mX M d Qa cb sb pc L (vI b :: vI a :: S) g := by
  intro p l e R s m args below meth c Q base tb dC dI F E H locs cells slots ls hH hS hL hc hs
  have ha : mR a := ⟨hr.1, hr.2.1⟩
  have hb : mR b := ⟨hr.2.2.1, hr.2.2.2⟩
  have e1 := mI_eq ha hb
  have e2 := mI_lt ha hb
  have e3 := mI_lt hb ha
  have e4 := mI_le ha hb
  have e5 := mI_le hb ha
  refine lv_icmp_lt (x := Int32.ofInt a) (y := Int32.ofInt b) F.1 F.2.1 (F.dec hd) ht (fun h => kt ?_ p l e R s m args below meth c Q base tb dC dI F E H locs cells slots ls hH hS hL hc hs) (fun h => kf ?_ p l e R s m args below meth c Q base tb dC dI F E H locs cells slots ls hH hS hL hc hs)
  all_goals (try simp only [show (0 : Int32) = Int32.ofInt 0 from rfl] at h)
  all_goals (try simp only [ge_iff_le, gt_iff_lt, ne_eq, e1, e2, e3, e4, e5] at h ⊢)
  all_goals omega
theorem x_icmp_ge (j : Nat) {off : Int} {tgt : Nat} {a b : Int} (hd : (mTab M)[j]? = some (pc, .if_icmp .ge off, 3)) (ht : (pc : Int) + off = (tgt : Int)) (hr : -2147483648 ≤ a ∧ a < 2147483648 ∧ -2147483648 ≤ b ∧ b < 2147483648) (kt : b ≤ a → mX M d Qa cb sb tgt L S g) (kf : a < b → mX M d Qa cb sb (pc + 3) L S g) : mX M d Qa cb sb pc L (vI b :: vI a :: S) g := by
  intro p l e R s m args below meth c Q base tb dC dI F E H locs cells slots ls hH hS hL hc hs
  have ha : mR a := ⟨hr.1, hr.2.1⟩
  have hb : mR b := ⟨hr.2.2.1, hr.2.2.2⟩
  have e1 := mI_eq ha hb
  have e2 := mI_lt ha hb
  have e3 := mI_lt hb ha
  have e4 := mI_le ha hb
  have e5 := mI_le hb ha
  refine lv_icmp_ge (x := Int32.ofInt a) (y := Int32.ofInt b) F.1 F.2.1 (F.dec hd) ht (fun h => kt ?_ p l e R s m args below meth c Q base tb dC dI F E H locs cells slots ls hH hS hL hc hs) (fun h => kf ?_ p l e R s m args below meth c Q base tb dC dI F E H locs cells slots ls hH hS hL hc hs)
  all_goals (try simp only [show (0 : Int32) = Int32.ofInt 0 from rfl] at h)
  all_goals (try simp only [ge_iff_le, gt_iff_lt, ne_eq, e1, e2, e3, e4, e5] at h ⊢)
  all_goals omega
theorem x_icmp_gt (j : Nat) {off : Int} {tgt : Nat} {a b : Int} (hd : (mTab M)[j]? = some (pc, .if_icmp .gt off, 3)) (ht : (pc : Int) + off = (tgt : Int)) (hr : -2147483648 ≤ a ∧ a < 2147483648 ∧ -2147483648 ≤ b ∧ b < 2147483648) (kt : b < a → mX M d Qa cb sb tgt L S g) (kf : a ≤ b → mX M d Qa cb sb (pc + 3) L S g) : mX M d Qa cb sb pc L (vI b :: vI a :: S) g := by
  intro p l e R s m args below meth c Q base tb dC dI F E H locs cells slots ls hH hS hL hc hs
  have ha : mR a := ⟨hr.1, hr.2.1⟩
  have hb : mR b := ⟨hr.2.2.1, hr.2.2.2⟩
  have e1 := mI_eq ha hb
  have e2 := mI_lt ha hb
  have e3 := mI_lt hb ha
  have e4 := mI_le ha hb
  have e5 := mI_le hb ha
  refine lv_icmp_gt (x := Int32.ofInt a) (y := Int32.ofInt b) F.1 F.2.1 (F.dec hd) ht (fun h => kt ?_ p l e R s m args below meth c Q base tb dC dI F E H locs cells slots ls hH hS hL hc hs) (fun h => kf ?_ p l e R s m args below meth c Q base tb dC dI F E H locs cells slots ls hH hS hL hc hs)
  all_goals (try simp only [show (0 : Int32) = Int32.ofInt 0 from rfl] at h)
  all_goals (try simp only [ge_iff_le, gt_iff_lt, ne_eq, e1, e2, e3, e4, e5] at h ⊢)
  all_goals omega
theorem x_icmp_le (j : Nat) {off : Int} {tgt : Nat} {a b : Int} (hd : (mTab M)[j]? = some (pc, .if_icmp .le off, 3)) (ht : (pc : Int) + off = (tgt : Int)) (hr : -2147483648 ≤ a ∧ a < 2147483648 ∧ -2147483648 ≤ b ∧ b < 2147483648) (kt : a ≤ b → mX M d Qa cb sb tgt L S g) (kf : b < a → mX M d Qa cb sb (pc + 3) L S g) : mX M d Qa cb sb pc L (vI b :: vI a :: S) g := by
  intro p l e R s m args below meth c Q base tb dC dI F E H locs cells slots ls hH hS hL hc hs
  have ha : mR a := ⟨hr.1, hr.2.1⟩
  have hb : mR b := ⟨hr.2.2.1, hr.2.2.2⟩
  have e1 := mI_eq ha hb
  have e2 := mI_lt ha hb
  have e3 := mI_lt hb ha
  have e4 := mI_le ha hb
  have e5 := mI_le hb ha
  refine lv_icmp_le (x := Int32.ofInt a) (y := Int32.ofInt b) F.1 F.2.1 (F.dec hd) ht (fun h => kt ?_ p l e R s m args below meth c Q base tb dC dI F E H locs cells slots ls hH hS hL hc hs) (fun h => kf ?_ p l e R s m args below meth c Q base tb dC dI F E H locs cells slots ls hH hS hL hc hs)
  all_goals (try simp only [show (0 : Int32) = Int32.ofInt 0 from rfl] at h)
  all_goals (try simp only [ge_iff_le, gt_iff_lt, ne_eq, e1, e2, e3, e4, e5] at h ⊢)
  all_goals omega
theorem x_if_eq (j : Nat) {off : Int} {tgt : Nat} {a : Int} (hd : (mTab M)[j]? = some (pc, .ifCond .eq off, 3)) (ht : (pc : Int) + off = (tgt : Int)) (hr : -2147483648 ≤ a ∧ a < 2147483648) (kt : a = 0 → mX M d Qa cb sb tgt L S g) (kf : a ≠ 0 → mX M d Qa cb sb (pc + 3) L S g) : mX M d Qa cb sb pc L (vI a :: S) g := by
  intro p l e R s m args below meth c Q base tb dC dI F E H locs cells slots ls hH hS hL hc hs
  have ha : mR a := ⟨hr.1, hr.2⟩
  have hb : mR 0 := mR0
  have e1 := mI_eq ha hb
  have e2 := mI_lt ha hb
  have e3 := mI_lt hb ha
  have e4 := mI_le ha hb
  have e5 := mI_le hb ha
  refine lv_if_eq (x := Int32.ofInt a) F.1 F.2.1 (F.dec hd) ht (fun h => kt ?_ p l e R s m args below meth c Q base tb dC dI F E H locs cells slots ls hH hS hL hc hs) (fun h => kf ?_ p l e R s m args below meth c Q base tb dC dI F E H locs cells slots ls hH hS hL hc hs)
  all_goals (try simp only [show (0 : Int32) = Int32.ofInt 0 from rfl] at h)
  all_goals (try simp only [ge_iff_le, gt_iff_lt, ne_eq, e1, e2, e3, e4, e5] at h ⊢)
  all_goals omega
theorem x_if_ne (j : Nat) {off : Int} {tgt : Nat} {a : Int} (hd : (mTab M)[j]? = some (pc, .ifCond .ne off, 3)) (ht : (pc : Int) + off = (tgt : Int)) (hr : -2147483648 ≤ a ∧ a < 2147483648) (kt : a ≠ 0 → mX M d Qa cb sb tgt L S g) (kf : a = 0 → mX M d Qa cb sb (pc + 3) L S g) : mX M d Qa cb sb pc L (vI a :: S) g := by
  intro p l e R s m args below meth c Q base tb dC dI F E H locs cells slots ls hH hS hL hc hs
  have ha : mR a := ⟨hr.1, hr.2⟩
  have hb : mR 0 := mR0
  have e1 := mI_eq ha hb
  have e2 := mI_lt ha hb
  have e3 := mI_lt hb ha
  have e4 := mI_le ha hb
  have e5 := mI_le hb ha
  refine lv_if_ne (x := Int32.ofInt a) F.1 F.2.1 (F.dec hd) ht (fun h => kt ?_ p l e R s m args below meth c Q base tb dC dI F E H locs cells slots ls hH hS hL hc hs) (fun h => kf ?_ p l e R s m args below meth c Q base tb dC dI F E H locs cells slots ls hH hS hL hc hs)
  all_goals (try simp only [show (0 : Int32) = Int32.ofInt 0 from rfl] at h)
  all_goals (try simp only [ge_iff_le, gt_iff_lt, ne_eq, e1, e2, e3, e4, e5] at h ⊢)
  all_goals omega
theorem x_if_lt (j : Nat) {off : Int} {tgt : Nat} {a : Int} (hd : (mTab M)[j]? = some (pc, .ifCond .lt off, 3)) (ht : (pc : Int) + off = (tgt : Int)) (hr : -2147483648 ≤ a ∧ a < 2147483648) (kt : a < 0 → mX M d Qa cb sb tgt L S g) (kf : 0 ≤ a → mX M d Qa cb sb (pc + 3) L S g) : mX M d Qa cb sb pc L (vI a :: S) g := by
  intro p l e R s m args below meth c Q base tb dC dI F E H locs cells slots ls hH hS hL hc hs
  have ha : mR a := ⟨hr.1, hr.2⟩
  have hb : mR 0 := mR0
  have e1 := mI_eq ha hb
  have e2 := mI_lt ha hb
  have e3 := mI_lt hb ha
  have e4 := mI_le ha hb
  have e5 := mI_le hb ha
  refine lv_if_lt (x := Int32.ofInt a) F.1 F.2.1 (F.dec hd) ht (fun h => kt ?_ p l e R s m args below meth c Q base tb dC dI F E H locs cells slots ls hH hS hL hc hs) (fun h => kf ?_ p l e R s m args below meth c Q base tb dC dI F E H locs cells slots ls hH hS hL hc hs)
  all_goals (try simp only [show (0 : Int32) = Int32.ofInt 0 from rfl] at h)
  all_goals (try simp only [ge_iff_le, gt_iff_lt, ne_eq, e1, e2, e3, e4, e5] at h ⊢)
  all_goals omega
theorem x_if_ge (j : Nat) {off : Int} {tgt : Nat} {a : Int} (hd : (mTab M)[j]? = some (pc, .ifCond .ge off, 3)) (ht : (pc : Int) + off = (tgt : Int)) (hr : -2147483648 ≤ a ∧ a < 2147483648) (kt : 0 ≤ a → mX M d Qa cb sb tgt L S g) (kf : a < 0 → mX M d Qa cb sb (pc + 3) L S g) : mX M d Qa cb sb pc L (vI a :: S) g := by
  intro p l e R s m args below meth c Q base tb dC dI F E H locs cells slots ls hH hS hL hc hs
  have ha : mR a := ⟨hr.1, hr.2⟩
  have hb : mR 0 := mR0
  have e1 := mI_eq ha hb
  have e2 := mI_lt ha hb
  have e3 := mI_lt hb ha
  have e4 := mI_le ha hb
  have e5 := mI_le hb ha
  refine lv_if_ge (x := Int32.ofInt a) F.1 F.2.1 (F.dec hd) ht (fun h => kt ?_ p l e R s m args below meth c Q base tb dC dI F E H locs cells slots ls hH hS hL hc hs) (fun h => kf ?_ p l e R s m args below meth c Q base tb dC dI F E H locs cells slots ls hH hS hL hc hs)
  all_goals (try simp only [show (0 : Int32) = Int32.ofInt 0 from rfl] at h)
  all_goals (try simp only [ge_iff_le, gt_iff_lt, ne_eq, e1, e2, e3, e4, e5] at h ⊢)
  all_goals omega
theorem x_if_gt (j : Nat) {off : Int} {tgt : Nat} {a : Int} (hd : (mTab M)[j]? = some (pc, .ifCond .gt off, 3)) (ht : (pc : Int) + off = (tgt : Int)) (hr : -2147483648 ≤ a ∧ a < 2147483648) (kt : 0 < a → mX M d Qa cb sb tgt L S g) (kf : a ≤ 0 → mX M d Qa cb sb (pc + 3) L S g) : mX M d Qa cb sb pc L (vI a :: S) g := by
  intro p l e R s m args below meth c Q base tb dC dI F E H locs cells slots ls hH hS hL hc hs
  have ha : mR a := ⟨hr.1, hr.2⟩
  have hb : mR 0 := mR0
  have e1 := mI_eq ha hb
  have e2 := mI_lt ha hb
  have e3 := mI_lt hb ha
  have e4 := mI_le ha hb
  have e5 := mI_le hb ha
  refine lv_if_gt (x := Int32.ofInt a) F.1 F.2.1 (F.dec hd) ht (fun h => kt ?_ p l e R s m args below meth c Q base tb dC dI F E H locs cells slots ls hH hS hL hc hs) (fun h => kf ?_ p l e R s m args below meth c Q base tb dC dI F E H locs cells slots ls hH hS hL hc hs)
  all_goals (try simp only [show (0 : Int32) = Int32.ofInt 0 from rfl] at h)
  all_goals (try simp only [ge_iff_le, gt_iff_lt, ne_eq, e1, e2, e3, e4, e5] at h ⊢)
  all_goals omega
theorem x_if_le (j : Nat) {off : Int} {tgt : Nat} {a : Int} (hd : (mTab M)[j]? = some (pc, .ifCond .le off, 3)) (ht : (pc : Int) + off = (tgt : Int)) (hr : -2147483648 ≤ a ∧ a < 2147483648) (kt : a ≤ 0 → mX M d Qa cb sb tgt L S g) (kf : 0 < a → mX M d Qa cb sb (pc + 3) L S g) : mX M d Qa cb sb pc L (vI a :: S) g := by
  intro p l e R s m args below meth c Q base tb dC dI F E H locs cells slots ls hH hS hL hc hs
  have ha : mR a := ⟨hr.1, hr.2⟩
  have hb : mR 0 := mR0
  have e1 := mI_eq ha hb
  have e2 := mI_lt ha hb
  have e3 := mI_lt hb ha
  have e4 := mI_le ha hb
  have e5 := mI_le hb ha
  refine lv_if_le (x := Int32.ofInt a) F.1 F.2.1 (F.dec hd) ht (fun h => kt ?_ p l e R s m args below meth c Q base tb dC dI F E H locs cells slots ls hH hS hL hc hs) (fun h => kf ?_ p l e R s m args below meth c Q base tb dC dI F E H locs cells slots ls hH hS hL hc hs)
  all_goals (try simp only [show (0 : Int32) = Int32.ofInt 0 from rfl] at h)
  all_goals (try simp only [ge_iff_le, gt_iff_lt, ne_eq, e1, e2, e3, e4, e5] at h ⊢)
  all_goals omega
theorem x_goto (j : Nat) {off : Int} {tgt : Nat} (hd : (mTab M)[j]? = some (pc, .goto off, 3)) (ht : (pc : Int) + off = (tgt : Int)) (k : mX M d Qa cb sb tgt L S g) : mX M d Qa cb sb pc L S g := by
  intro p l e R s m args below meth c Q base tb dC dI F E H locs cells slots ls hH hS hL hc hs
  exact lv_goto F.1 F.2.1 (F.dec hd) ht (k p l e R s m args below meth c Q base tb dC dI F E H locs cells slots ls hH hS hL hc hs)
theorem x_drop {L' : List (Option mV)} (hs : ∀ (i : Nat) (v : mV), L'[i]? = some (some v) → L[i]? = some (some v)) (k : mX M d Qa cb sb pc L' S g) : mX M d Qa cb sb pc L S g := by
  intro p l e R s m args below meth c Q base tb dC dI F E H locs cells slots ls hH hS hL hc hz
  exact k p l e R s m args below meth c Q base tb dC dI F E H locs cells slots ls hH hS (hL.drop hs) hc hz
theorem x_dropL {L' : List (Option mV)} (hs : mSubL L' L) (k : mX M d Qa cb sb pc L' S g) : mX M d Qa cb sb pc L S g := x_drop (mSubL_at L' L hs) k
theorem x_ret (j : Nat) {i : Instr} (v : Option mV) (hd : (mTab M)[j]? = some (pc, i, 1)) (hv : mRok (mRet M) v i) (hq : Qa v g) : mX M d Qa cb sb pc L v.toList g := by
  intro p l e R s m args below meth c Q base tb dC dI F E H locs cells slots ls hH hS hL hc hs
  have h := E v g H locs cells slots pc i ls hq hv (F.dec hd) hH hS (by omega) (by omega)
  cases v <;> exact h
theorem x_post {Qb : Option mV → mS → Prop} (hq : ∀ v g, Qb v g → Qa v g) (k : mX M d Qb cb sb pc L S g) : mX M d Qa cb sb pc L S g := by
  intro p l e R s m args below meth c Q base tb dC dI F E H locs cells slots ls hH hS hL hc hs
  exact k p l e R s m args below meth c Q base tb dC dI F (fun v g H locs cells slots pc i ls h => E v g H locs cells slots pc i ls (hq v g h)) H locs cells slots ls hH hS hL hc hs
end MX
end
section
/-! numbers: division, bits, shifts, longs -/
theorem mI_ofN (n : Nat) : Int32.ofInt (n : Int) = nI n := rfl
theorem mI_tN {a : Int} (h0 : 0 ≤ a) : Int32.ofInt a = nI a.toNat := by
  show Int32.ofInt a = Int32.ofInt ((a.toNat : Nat) : Int)
  rw [Int.toNat_of_nonneg h0]
theorem mN_div {a b : Int} (ha : 0 ≤ a ∧ a < 2147483648) (hb : 0 < b ∧ b < 2147483648) : Int32.ofInt a / Int32.ofInt b = Int32.ofInt (a / b) := by
  have hq : 0 ≤ a / b := Int.ediv_nonneg ha.1 (by omega)
  have hq2 : a / b ≤ a := Int.ediv_le_self b ha.1
  apply Int32.toInt_inj.mp
  rw [Int32.toInt_div, mI_to ⟨by omega, by omega⟩, mI_to ⟨by omega, by omega⟩, mI_to ⟨by omega, by omega⟩]
  rw [Int.tdiv_eq_ediv_of_nonneg ha.1]
  exact Int.bmod_eq_of_le (by omega) (by omega)
theorem mN_mod {a b : Int} (ha : 0 ≤ a ∧ a < 2147483648) (hb : 0 < b ∧ b < 2147483648) : Int32.ofInt a % Int32.ofInt b = Int32.ofInt (a % b) := by
  have hq : 0 ≤ a % b := Int.emod_nonneg a (by omega)
  have hq2 : a % b < b := Int.emod_lt_of_pos a hb.1
  apply Int32.toInt_inj.mp
  rw [Int32.toInt_mod, mI_to ⟨by omega, by omega⟩, mI_to ⟨by omega, by omega⟩, mI_to ⟨by omega, by omega⟩]
  exact Int.tmod_eq_emod_of_nonneg ha.1
theorem mN_bv (a : Int) : (Int32.ofInt a).toBitVec = BitVec.ofInt 32 a := rfl
theorem mN_nbv {n : Nat} (h : n < 4294967296) : (nI n).toBitVec.toNat = n := by
  simp [nI, Int32.toBitVec_ofNat', BitVec.toNat_ofNat]
  omega
theorem mN_inj {x y : Int32} (h : x.toBitVec.toNat = y.toBitVec.toNat) : x = y := Int32.toBitVec_inj.mp (BitVec.eq_of_toNat_eq h)
theorem mN_and {a b : Nat} (ha : a < 4294967296) (hb : b < 4294967296) : nI a &&& nI b = nI (a &&& b) := by
  have h : a &&& b < 4294967296 := Nat.lt_of_le_of_lt Nat.and_le_left ha
  apply mN_inj
  rw [Int32.toBitVec_and, BitVec.toNat_and, mN_nbv ha, mN_nbv hb, mN_nbv h]
theorem mN_or {a b : Nat} (ha : a < 4294967296) (hb : b < 4294967296) : nI a ||| nI b = nI (a ||| b) := by
  have h : a ||| b < 4294967296 := Nat.or_lt_two_pow (n := 32) ha hb
  apply mN_inj
  rw [Int32.toBitVec_or, BitVec.toNat_or, mN_nbv ha, mN_nbv hb, mN_nbv h]
theorem mN_xor {a b : Nat} (ha : a < 4294967296) (hb : b < 4294967296) : nI a ^^^ nI b = nI (a ^^^ b) := by
  have h : a ^^^ b < 4294967296 := Nat.xor_lt_two_pow (n := 32) ha hb
  apply mN_inj
  rw [Int32.toBitVec_xor, BitVec.toNat_xor, mN_nbv ha, mN_nbv hb, mN_nbv h]
/-- the last k bits of any int -/
theorem mN_mask (a : Int) (k : Nat) (hk : k < 31) : Int32.ofInt a &&& nI (2 ^ k - 1) = Int32.ofInt (a % (2 ^ k : Int)) := by
  have hp : 2 ^ k ≤ 2 ^ 30 := Nat.pow_le_pow_right (by omega) (by omega)
  have hp0 : 0 < 2 ^ k := Nat.two_pow_pos k
  have hc : ((2 ^ k : Nat) : Int) = (2 ^ k : Int) := by simp
  rw [← hc]
  have hm : 0 ≤ a % ((2 ^ k : Nat) : Int) := Int.emod_nonneg a (by omega)
  have hm2 : a % ((2 ^ k : Nat) : Int) < ((2 ^ k : Nat) : Int) := Int.emod_lt_of_pos a (by omega)
  rw [mI_tN hm]
  apply mN_inj
  rw [Int32.toBitVec_and, BitVec.toNat_and, mN_nbv (by omega), mN_nbv (by omega), mN_bv, BitVec.toNat_ofInt, Nat.and_two_pow_sub_one_eq_mod]
  have hd : (2 ^ k : Nat) ∣ 2 ^ 32 := Nat.pow_dvd_pow 2 (by omega)
  have hdi : ((2 ^ k : Nat) : Int) ∣ ((2 ^ 32 : Nat) : Int) := Int.natCast_dvd_natCast.mpr hd
  apply Int.ofNat_inj.mp
  rw [Int.natCast_emod, Int.toNat_of_nonneg (Int.emod_nonneg a (by decide)), Int.emod_emod_of_dvd a hdi, Int.toNat_of_nonneg hm]
theorem mN_s32 : ∀ k, k < 32 → ((nI k &&& 31).toBitVec.smod 32).toNat = k := by decide +kernel
theorem mN_shl {a : Nat} {k : Nat} (hk : k < 32) (h : a * 2 ^ k < 4294967296) : nI a <<< (nI k &&& 31) = nI (a * 2 ^ k) := pk_shlN _ k (mN_s32 k hk) h
theorem mN_shr {a : Nat} {k : Nat} (hk : k < 32) (h : a < 2147483648) : nI a >>> (nI k &&& 31) = nI (a / 2 ^ k) := pk_shrN h _ k (mN_s32 k hk)
theorem mN_s64 : ∀ k, k < 64 → ((nI k).toInt64 &&& 63).toBitVec.smod 64 = BitVec.ofNat 64 k := by decide +kernel
theorem mN_u64 : ∀ k, k < 64 → (((nI k).toInt64.toUInt64 &&& Int64.toUInt64 63).toBitVec % 64).toNat = k := by decide +kernel
theorem mN_lshl (b : BitVec 64) {k : Nat} (hk : k < 64) : Int64.ofBitVec b <<< ((nI k).toInt64 &&& 63) = Int64.ofBitVec (b <<< k) := by
  apply Int64.toBitVec_inj.mp
  rw [Int64.toBitVec_shiftLeft, mN_s64 k hk]
  show b <<< (BitVec.ofNat 64 k) = b <<< k
  rw [BitVec.shiftLeft_eq', BitVec.toNat_ofNat, Nat.mod_eq_of_lt (by omega)]
theorem mN_lushr (b : BitVec 64) {k : Nat} (hk : k < 64) : ((Int64.ofBitVec b).toUInt64 >>> ((nI k).toInt64.toUInt64 &&& Int64.toUInt64 63)).toInt64 = Int64.ofBitVec (b >>> k) := by
  apply Int64.toBitVec_inj.mp
  have h := mN_u64 k hk
  show ((Int64.ofBitVec b).toUInt64 >>> ((nI k).toInt64.toUInt64 &&& Int64.toUInt64 63)).toBitVec = b >>> k
  rw [UInt64.toBitVec_shiftRight, BitVec.ushiftRight_eq', h]
  rfl
theorem mN_land (a b : BitVec 64) : Int64.ofBitVec a &&& Int64.ofBitVec b = Int64.ofBitVec (a &&& b) := rfl
theorem mN_lor (a b : BitVec 64) : Int64.ofBitVec a ||| Int64.ofBitVec b = Int64.ofBitVec (a ||| b) := rfl
theorem mN_lxor (a b : BitVec 64) : Int64.ofBitVec a ^^^ Int64.ofBitVec b = Int64.ofBitVec (a ^^^ b) := rfl
theorem mN_lsub (a b : BitVec 64) : Int64.ofBitVec a - Int64.ofBitVec b = Int64.ofBitVec (a - b) := rfl
theorem mN_leq (a b : BitVec 64) : Int64.ofBitVec a = Int64.ofBitVec b ↔ a = b := ⟨fun h => congrArg Int64.toBitVec h, fun h => by rw [h]⟩
theorem mN_i2l {a : Int} (h : mR a) : (Int32.ofInt a).toInt64 = Int64.ofBitVec (BitVec.ofInt 64 a) := by
  apply Int64.toInt_inj.mp
  rw [Int32.toInt_toInt64, mI_to h]
  show a = (BitVec.ofInt 64 a).toInt
  obtain ⟨h1, h2⟩ := h
  rw [BitVec.toInt_ofInt]
  exact (Int.bmod_eq_of_le (by omega) (by omega)).symm
/-- what comparing two longs answers -/
theorem mN_cmp (a b : BitVec 64) : ∃ z : Int, lg_cmp (Int64.ofBitVec a) (Int64.ofBitVec b) = Int32.ofInt z ∧ (z = 0 ↔ a = b) ∧ -1 ≤ z ∧ z ≤ 1 := by
  unfold lg_cmp
  by_cases h1 : Int64.ofBitVec b < Int64.ofBitVec a
  · refine ⟨1, ?_, ?_, by omega, by omega⟩
    · simp [h1]
    · constructor
      · intro h; omega
      · intro h
        subst h
        exact absurd h1 (Int64.lt_irrefl)
  · by_cases h2 : Int64.ofBitVec a = Int64.ofBitVec b
    · refine ⟨0, ?_, ?_, by omega, by omega⟩
      · simp [h2, Int64.lt_irrefl]
      · constructor
        · intro _; exact (mN_leq a b).mp h2
        · intro _; rfl
    · refine ⟨-1, ?_, ?_, by omega, by omega⟩
      · simp [h1, h2]
      · constructor
        · intro h; omega
        · intro h; exact absurd ((mN_leq a b).mpr h) h2
section MY
variable {M : mM} {d cb sb pc : Nat} {Qa : Option mV → mS → Prop} {L : List (Option mV)} {S : List mV} {g : mS}
theorem x_idiv (j : Nat) {a b r : Int} (hd : (mTab M)[j]? = some (pc, .idiv, 1)) (hab : 0 ≤ a ∧ a < 2147483648 ∧ 0 < b ∧ b < 2147483648) (hr : a / b = r) (k : mX M d Qa cb sb (pc + 1) L (vI r :: S) g) : mX M d Qa cb sb pc L (vI b :: vI a :: S) g := by
  intro p l e R s m args below meth c Q base tb dC dI F E H locs cells slots ls hH hS hL hc hs
  obtain ⟨h1, h2, h3, h4⟩ := hab
  refine lv_idiv F.1 F.2.1 (F.dec hd) (fun h => ?_) ?_
  · rw [show (0 : Int32) = Int32.ofInt 0 from rfl, mI_eq ⟨by omega, by omega⟩ mR0] at h
    omega
  · rw [mN_div ⟨h1, h2⟩ ⟨h3, h4⟩, hr]
    exact k p l e R s m args below meth c Q base tb dC dI F E H locs cells slots ls hH hS hL hc hs
theorem x_irem (j : Nat) {a b r : Int} (hd : (mTab M)[j]? = some (pc, .irem, 1)) (hab : 0 ≤ a ∧ a < 2147483648 ∧ 0 < b ∧ b < 2147483648) (hr : a % b = r) (k : mX M d Qa cb sb (pc + 1) L (vI r :: S) g) : mX M d Qa cb sb pc L (vI b :: vI a :: S) g := by
  intro p l e R s m args below meth c Q base tb dC dI F E H locs cells slots ls hH hS hL hc hs
  obtain ⟨h1, h2, h3, h4⟩ := hab
  refine lv_irem F.1 F.2.1 (F.dec hd) (fun h => ?_) ?_
  · rw [show (0 : Int32) = Int32.ofInt 0 from rfl, mI_eq ⟨by omega, by omega⟩ mR0] at h
    omega
  · rw [mN_div ⟨h1, h2⟩ ⟨h3, h4⟩, ← Int32.ofInt_mul, ← Int32.ofInt_sub, show a - a / b * b = r by rw [← hr, Int.emod_def, Int.mul_comm]]
    exact k p l e R s m args below meth c Q base tb dC dI F E H locs cells slots ls hH hS hL hc hs
theorem x_iand (j : Nat) {a b : Int} {r : Nat} (hd : (mTab M)[j]? = some (pc, .iand, 1)) (hab : 0 ≤ a ∧ a < 2147483648 ∧ 0 ≤ b ∧ b < 2147483648) (hr : a.toNat &&& b.toNat = r) (k : mX M d Qa cb sb (pc + 1) L (vI (r : Int) :: S) g) : mX M d Qa cb sb pc L (vI b :: vI a :: S) g := by
  intro p l e R s m args below meth c Q base tb dC dI F E H locs cells slots ls hH hS hL hc hs
  obtain ⟨h1, h2, h3, h4⟩ := hab
  refine lv_iand F.1 F.2.1 (F.dec hd) ?_
  rw [mI_tN h1, mI_tN h3, mN_and (by omega) (by omega), hr, ← mI_ofN]
  exact k p l e R s m args below meth c Q base tb dC dI F E H locs cells slots ls hH hS hL hc hs
theorem x_ior (j : Nat) {a b : Int} {r : Nat} (hd : (mTab M)[j]? = some (pc, .ior, 1)) (hab : 0 ≤ a ∧ a < 2147483648 ∧ 0 ≤ b ∧ b < 2147483648) (hr : a.toNat ||| b.toNat = r) (k : mX M d Qa cb sb (pc + 1) L (vI (r : Int) :: S) g) : mX M d Qa cb sb pc L (vI b :: vI a :: S) g := by
  intro p l e R s m args below meth c Q base tb dC dI F E H locs cells slots ls hH hS hL hc hs
  obtain ⟨h1, h2, h3, h4⟩ := hab
  refine lv_ior F.1 F.2.1 (F.dec hd) ?_
  rw [mI_tN h1, mI_tN h3, mN_or (by omega) (by omega), hr, ← mI_ofN]
  exact k p l e R s m args below meth c Q base tb dC dI F E H locs cells slots ls hH hS hL hc hs
theorem x_ixor (j : Nat) {a b : Int} {r : Nat} (hd : (mTab M)[j]? = some (pc, .ixor, 1)) (hab : 0 ≤ a ∧ a < 2147483648 ∧ 0 ≤ b ∧ b < 2147483648) (hr : a.toNat ^^^ b.toNat = r) (k : mX M d Qa cb sb (pc + 1) L (vI (r : Int) :: S) g) : mX M d Qa cb sb pc L (vI b :: vI a :: S) g := by
  intro p l e R s m args below meth c Q base tb dC dI F E H locs cells slots ls hH hS hL hc hs
  obtain ⟨h1, h2, h3, h4⟩ := hab
  refine lv_ixor F.1 F.2.1 (F.dec hd) ?_
  rw [mI_tN h1, mI_tN h3, mN_xor (by omega) (by omega), hr, ← mI_ofN]
  exact k p l e R s m args below meth c Q base tb dC dI F E H locs cells slots ls hH hS hL hc hs
theorem x_iandm (j kk : Nat) {a b r : Int} (hd : (mTab M)[j]? = some (pc, .iand, 1)) (hk : kk < 31) (hb : b = ((2 ^ kk - 1 : Nat) : Int)) (hr : a % (2 ^ kk : Int) = r) (k : mX M d Qa cb sb (pc + 1) L (vI r :: S) g) : mX M d Qa cb sb pc L (vI b :: vI a :: S) g := by
  intro p l e R s m args below meth c Q base tb dC dI F E H locs cells slots ls hH hS hL hc hs
  subst hb
  refine lv_iand F.1 F.2.1 (F.dec hd) ?_
  rw [mI_ofN, mN_mask a kk hk, hr]
  exact k p l e R s m args below meth c Q base tb dC dI F E H locs cells slots ls hH hS hL hc hs
theorem x_ishl (j : Nat) {a b r : Int} (hd : (mTab M)[j]? = some (pc, .ishl, 1)) (hab : 0 ≤ a ∧ 0 ≤ b ∧ b < 32 ∧ a * 2 ^ b.toNat < 4294967296) (hr : a * 2 ^ b.toNat = r) (k : mX M d Qa cb sb (pc + 1) L (vI r :: S) g) : mX M d Qa cb sb pc L (vI b :: vI a :: S) g := by
  intro p l e R s m args below meth c Q base tb dC dI F E H locs cells slots ls hH hS hL hc hs
  obtain ⟨h1, h2, h3, h4⟩ := hab
  have he : a * 2 ^ b.toNat = ((a.toNat * 2 ^ b.toNat : Nat) : Int) := by
    rw [Int.natCast_mul, Int.toNat_of_nonneg h1, Int.natCast_pow]
    rfl
  refine lv_ishl F.1 F.2.1 (F.dec hd) ?_
  rw [mI_tN h1, mI_tN h2, mN_shl (by omega) (by omega), ← mI_ofN, ← he, hr]
  exact k p l e R s m args below meth c Q base tb dC dI F E H locs cells slots ls hH hS hL hc hs
theorem x_ishr (j : Nat) {a b r : Int} (hd : (mTab M)[j]? = some (pc, .ishr, 1)) (hab : 0 ≤ a ∧ a < 2147483648 ∧ 0 ≤ b ∧ b < 32) (hr : a / 2 ^ b.toNat = r) (k : mX M d Qa cb sb (pc + 1) L (vI r :: S) g) : mX M d Qa cb sb pc L (vI b :: vI a :: S) g := by
  intro p l e R s m args below meth c Q base tb dC dI F E H locs cells slots ls hH hS hL hc hs
  obtain ⟨h1, h2, h3, h4⟩ := hab
  have he : a / 2 ^ b.toNat = ((a.toNat / 2 ^ b.toNat : Nat) : Int) := by
    rw [Int.natCast_ediv, Int.toNat_of_nonneg h1, Int.natCast_pow]
    rfl
  refine lv_ishr F.1 F.2.1 (F.dec hd) ?_
  rw [mI_tN h1, mI_tN h3, mN_shr (by omega) (by omega), ← mI_ofN, ← he, hr]
  exact k p l e R s m args below meth c Q base tb dC dI F E H locs cells slots ls hH hS hL hc hs
theorem x_land (j : Nat) {a b r : BitVec 64} (hd : (mTab M)[j]? = some (pc, .land, 1)) (hr : a &&& b = r) (k : mX M d Qa cb sb (pc + 1) L (vL r :: S) g) : mX M d Qa cb sb pc L (vL b :: vL a :: S) g := by
  intro p l e R s m args below meth c Q base tb dC dI F E H locs cells slots ls hH hS hL hc hs
  refine lv_land F.1 F.2.1 (F.dec hd) ?_
  rw [mN_land, hr]
  exact k p l e R s m args below meth c Q base tb dC dI F E H locs cells slots ls hH hS hL hc hs
theorem x_lor (j : Nat) {a b r : BitVec 64} (hd : (mTab M)[j]? = some (pc, .lor, 1)) (hr : a ||| b = r) (k : mX M d Qa cb sb (pc + 1) L (vL r :: S) g) : mX M d Qa cb sb pc L (vL b :: vL a :: S) g := by
  intro p l e R s m args below meth c Q base tb dC dI F E H locs cells slots ls hH hS hL hc hs
  refine lv_lor F.1 F.2.1 (F.dec hd) ?_
  rw [mN_lor, hr]
  exact k p l e R s m args below meth c Q base tb dC dI F E H locs cells slots ls hH hS hL hc hs
theorem x_lxor (j : Nat) {a b r : BitVec 64} (hd : (mTab M)[j]? = some (pc, .lxor, 1)) (hr : a ^^^ b = r) (k : mX M d Qa cb sb (pc + 1) L (vL r :: S) g) : mX M d Qa cb sb pc L (vL b :: vL a :: S) g := by
  intro p l e R s m args below meth c Q base tb dC dI F E H locs cells slots ls hH hS hL hc hs
  refine lv_lxor F.1 F.2.1 (F.dec hd) ?_
  rw [mN_lxor, hr]
  exact k p l e R s m args below meth c Q base tb dC dI F E H locs cells slots ls hH hS hL hc hs
theorem x_lsub (j : Nat) {a b r : BitVec 64} (hd : (mTab M)[j]? = some (pc, .lsub, 1)) (hr : a - b = r) (k : mX M d Qa cb sb (pc + 1) L (vL r :: S) g) : mX M d Qa cb sb pc L (vL b :: vL a :: S) g := by
  intro p l e R s m args below meth c Q base tb dC dI F E H locs cells slots ls hH hS hL hc hs
  refine lv_lsub F.1 F.2.1 (F.dec hd) ?_
  rw [mN_lsub, hr]
  exact k p l e R s m args below meth c Q base tb dC dI F E H locs cells slots ls hH hS hL hc hs
theorem x_lshl (j : Nat) {a r : BitVec 64} {b : Int} (hd : (mTab M)[j]? = some (pc, .lshl, 1)) (hb : 0 ≤ b ∧ b < 64) (hr : a <<< b.toNat = r) (k : mX M d Qa cb sb (pc + 1) L (vL r :: S) g) : mX M d Qa cb sb pc L (vI b :: vL a :: S) g := by
  intro p l e R s m args below meth c Q base tb dC dI F E H locs cells slots ls hH hS hL hc hs
  exact lv_lshl (v := Int64.ofBitVec r) F.1 F.2.1 (F.dec hd) (by rw [mI_tN hb.1, mN_lshl a (by omega), hr]) (k p l e R s m args below meth c Q base tb dC dI F E H locs cells slots ls hH hS hL hc hs)
theorem x_lushr (j : Nat) {a r : BitVec 64} {b : Int} (hd : (mTab M)[j]? = some (pc, .lushr, 1)) (hb : 0 ≤ b ∧ b < 64) (hr : a >>> b.toNat = r) (k : mX M d Qa cb sb (pc + 1) L (vL r :: S) g) : mX M d Qa cb sb pc L (vI b :: vL a :: S) g := by
  intro p l e R s m args below meth c Q base tb dC dI F E H locs cells slots ls hH hS hL hc hs
  exact lv_lushr (v := Int64.ofBitVec r) F.1 F.2.1 (F.dec hd) (by rw [mI_tN hb.1, mN_lushr a (by omega), hr]) (k p l e R s m args below meth c Q base tb dC dI F E H locs cells slots ls hH hS hL hc hs)
theorem x_lcmp (j : Nat) {a b : BitVec 64} (hd : (mTab M)[j]? = some (pc, .lcmp, 1)) (k : ∀ z : Int, (z = 0 ↔ a = b) → -1 ≤ z → z ≤ 1 → mX M d Qa cb sb (pc + 1) L (vI z :: S) g) : mX M d Qa cb sb pc L (vL b :: vL a :: S) g := by
  intro p l e R s m args below meth c Q base tb dC dI F E H locs cells slots ls hH hS hL hc hs
  obtain ⟨z, e1, e2, e3, e4⟩ := mN_cmp a b
  refine W.lcmp F.1 F.2.1 (F.dec hd) ?_
  rw [e1]
  exact k z e2 e3 e4 p l e R s m args below meth c Q base tb dC dI F E H locs cells slots ls hH hS hL hc hs
theorem x_i2l (j : Nat) {a : Int} {r : BitVec 64} (hd : (mTab M)[j]? = some (pc, .i2l, 1)) (ha : -2147483648 ≤ a ∧ a < 2147483648) (hr : BitVec.ofInt 64 a = r) (k : mX M d Qa cb sb (pc + 1) L (vL r :: S) g) : mX M d Qa cb sb pc L (vI a :: S) g := by
  intro p l e R s m args below meth c Q base tb dC dI F E H locs cells slots ls hH hS hL hc hs
  exact lv_i2l (v := Int64.ofBitVec r) F.1 F.2.1 (F.dec hd) (by rw [mN_i2l ha, hr]) (k p l e R s m args below meth c Q base tb dC dI F E H locs cells slots ls hH hS hL hc hs)
theorem x_i2f (j : Nat) {a : Int} {r : UInt32} (hd : (mTab M)[j]? = some (pc, .i2f, 1)) (hr : FP.i2f (Int32.ofInt a) = r) (k : mX M d Qa cb sb (pc + 1) L (vF r :: S) g) : mX M d Qa cb sb pc L (vI a :: S) g := by
  intro p l e R s m args below meth c Q base tb dC dI F E H locs cells slots ls hH hS hL hc hs
  refine lv_i2f F.1 F.2.1 (F.dec hd) ?_
  rw [hr]
  exact k p l e R s m args below meth c Q base tb dC dI F E H locs cells slots ls hH hS hL hc hs
theorem x_fdiv (j : Nat) {a b r : UInt32} (hd : (mTab M)[j]? = some (pc, .fdiv, 1)) (hr : FP.fdiv a b = r) (hn : vf_n32 r) (k : mX M d Qa cb sb (pc + 1) L (vF r :: S) g) : mX M d Qa cb sb pc L (vF b :: vF a :: S) g := by
  intro p l e R s m args below meth c Q base tb dC dI F E H locs cells slots ls hH hS hL hc hs
  subst hr
  exact lv_fdiv F.1 F.2.1 (F.dec hd) hn (k p l e R s m args below meth c Q base tb dC dI F E H locs cells slots ls hH hS hL hc hs)
theorem x_f2d (j : Nat) {a : UInt32} {r : UInt64} (hd : (mTab M)[j]? = some (pc, .f2d, 1)) (hr : FP.f2d a = r) (hn : vf_n64 r) (k : mX M d Qa cb sb (pc + 1) L (vD r :: S) g) : mX M d Qa cb sb pc L (vF a :: S) g := by
  intro p l e R s m args below meth c Q base tb dC dI F E H locs cells slots ls hH hS hL hc hs
  subst hr
  exact lv_f2d F.1 F.2.1 (F.dec hd) hn (k p l e R s m args below meth c Q base tb dC dI F E H locs cells slots ls hH hS hL hc hs)
theorem x_dcmp (j : Nat) {a b : UInt64} {op : CmpOp} {r : Int} (hd : (mTab M)[j]? = some (pc, .dcmp op, 1)) (hr : Op.cmpValue (FP.dcmp a b) op = Int32.ofInt r) (k : mX M d Qa cb sb (pc + 1) L (vI r :: S) g) : mX M d Qa cb sb pc L (vD b :: vD a :: S) g := by
  intro p l e R s m args below meth c Q base tb dC dI F E H locs cells slots ls hH hS hL hc hs
  refine lv_dcmp F.1 F.2.1 (F.dec hd) ?_
  rw [hr]
  exact k p l e R s m args below meth c Q base tb dC dI F E H locs cells slots ls hH hS hL hc hs
theorem x_ldcf (j : Nat) {idx : Nat} {r : UInt32} (hd : (mTab M)[j]? = some (pc, .ldc idx, 2)) (hw : Cond.constantFloat (mName M).cls idx r ∈ mGood) (k : mX M d Qa cb sb (pc + 2) L (vF r :: S) g) : mX M d Qa cb sb pc L S g := by
  intro p l e R s m args below meth c Q base tb dC dI F E H locs cells slots ls hH hS hL hc hs
  exact lv_ldcf F.1 F.2.1 F.2.2.2.1 (F.go hw) (F.dec hd) (k p l e R s m args below meth c Q base tb dC dI F E H locs cells slots ls hH hS hL hc hs)
theorem x_ldc2 (j : Nat) {idx : Nat} {r : BitVec 64} {r' : Int64} (hd : (mTab M)[j]? = some (pc, .ldc2_w idx, 3)) (hw : Cond.constantLong (mName M).cls idx r' ∈ mGood) (hr : r' = Int64.ofBitVec r) (k : mX M d Qa cb sb (pc + 3) L (vL r :: S) g) : mX M d Qa cb sb pc L S g := by
  intro p l e R s m args below meth c Q base tb dC dI F E H locs cells slots ls hH hS hL hc hs
  subst hr
  exact lv_ldc2 F.1 F.2.1 F.2.2.2.1 (F.go hw) (F.dec hd) (k p l e R s m args below meth c Q base tb dC dI F E H locs cells slots ls hH hS hL hc hs)
theorem x_tabOut (j : Nat) {dflt lo hi : Int} {offs : Array Int} {len tgt : Nat} {a : Int} (hd : (mTab M)[j]? = some (pc, .tableswitch dflt lo hi offs, len)) (ha : -2147483648 ≤ a ∧ a < 2147483648) (h : a < lo ∨ hi < a) (ht : (pc : Int) + dflt = (tgt : Int)) (k : mX M d Qa cb sb tgt L S g) : mX M d Qa cb sb pc L (vI a :: S) g := by
  intro p l e R s m args below meth c Q base tb dC dI F E H locs cells slots ls hH hS hL hc hs
  exact lv_tableOut (x := Int32.ofInt a) F.1 F.2.1 (F.dec hd) (by rw [mI_to ha]; exact h) ht (k p l e R s m args below meth c Q base tb dC dI F E H locs cells slots ls hH hS hL hc hs)
theorem x_tabIn (j : Nat) {dflt lo hi : Int} {offs : Array Int} {len tgt : Nat} {a off : Int} (hd : (mTab M)[j]? = some (pc, .tableswitch dflt lo hi offs, len)) (ha : -2147483648 ≤ a ∧ a < 2147483648) (h : lo ≤ a ∧ a ≤ hi) (ho : offs[(a - lo).toNat]? = some off) (ht : (pc : Int) + off = (tgt : Int)) (k : mX M d Qa cb sb tgt L S g) : mX M d Qa cb sb pc L (vI a :: S) g := by
  intro p l e R s m args below meth c Q base tb dC dI F E H locs cells slots ls hH hS hL hc hs
  exact lv_tableIn (x := Int32.ofInt a) F.1 F.2.1 (F.dec hd) (by rw [mI_to ha]; omega) (by rw [mI_to ha]; omega) (by rw [mI_to ha]; exact ho) ht (k p l e R s m args below meth c Q base tb dC dI F E H locs cells slots ls hH hS hL hc hs)
theorem x_lookup (j : Nat) {dflt : Int} {ps : Array (Int × Int)} {len tgt : Nat} {a off : Int} (hd : (mTab M)[j]? = some (pc, .lookupswitch dflt ps, len)) (ha : -2147483648 ≤ a ∧ a < 2147483648) (hp : (ps.toList.zip (ps.toList.drop 1)).all (fun (a, next) => a.1 < next.1) = true) (ho : Op.lookupswitch.offset ps.toList dflt a = off) (ht : (pc : Int) + off = (tgt : Int)) (k : mX M d Qa cb sb tgt L S g) : mX M d Qa cb sb pc L (vI a :: S) g := by
  intro p l e R s m args below meth c Q base tb dC dI F E H locs cells slots ls hH hS hL hc hs
  exact lv_lookup (x := Int32.ofInt a) F.1 F.2.1 (F.dec hd) hp (by rw [mI_to ha]; exact ho) ht (k p l e R s m args below meth c Q base tb dC dI F E H locs cells slots ls hH hS hL hc hs)
end MY
end
section
/-! rows of objects and arrays -/
theorem mUws0 : ∀ w ∈ wsX00, w ∈ mGood := by decide +kernel
theorem mUws1 : ∀ w ∈ wsX10, w ∈ mGood := by decide +kernel
theorem mUws2 : ∀ w ∈ wsX20, w ∈ mGood := by decide +kernel
theorem mUws3 : ∀ w ∈ wsX30, w ∈ mGood := by decide +kernel
theorem mUws4 : ∀ w ∈ wsX40, w ∈ mGood := by decide +kernel
theorem mUws5 : ∀ w ∈ wsX50, w ∈ mGood := by decide +kernel
theorem mUws6 : ∀ w ∈ wsX60, w ∈ mGood := by decide +kernel
theorem mUws7 : ∀ w ∈ wsX70, w ∈ mGood := by decide +kernel
theorem mUws8 : ∀ w ∈ wsX80, w ∈ mGood := by decide +kernel
theorem mUws9 : ∀ w ∈ wsX90, w ∈ mGood := by decide +kernel
theorem mCl_all {P : Nat → vw_C → Prop} (h0 : P 0 (RX0, TX0, 8)) (h1 : P 1 (RX1, TX1, 3)) (h2 : P 2 (RX2, TX2, 10)) (h3 : P 3 (RX3, TX3, 11)) (h4 : P 4 (RX4, TX4, 3)) (h5 : P 5 (RX5, TX5, 11)) (h6 : P 6 (RX6, TX6, 2)) (h7 : P 7 (RX7, TX7, 2)) (h8 : P 8 (RX8, TX8, 8)) (h9 : P 9 (RX9, TX9, 31)) {ci : Nat} {q : vw_C} (h : vwCl[ci]? = some q) : P ci q := by
  match ci, h with
  | 0, h => cases h; exact h0
  | 1, h => cases h; exact h1
  | 2, h => cases h; exact h2
  | 3, h => cases h; exact h3
  | 4, h => cases h; exact h4
  | 5, h => cases h; exact h5
  | 6, h => cases h; exact h6
  | 7, h => cases h; exact h7
  | 8, h => cases h; exact h8
  | 9, h => cases h; exact h9
  | n + 10, h => exact absurd h (by simp [vwCl])
theorem mUws {ci : Nat} {q : vw_C} (h : vwCl[ci]? = some q) : ∀ w ∈ u_ws q.1 q.2.1 q.2.2, w ∈ mGood := mCl_all (P := fun _ q => ∀ w ∈ u_ws q.1 q.2.1 q.2.2, w ∈ mGood) mUws0 mUws1 mUws2 mUws3 mUws4 mUws5 mUws6 mUws7 mUws8 mUws9 h
theorem mTyOk {ci : Nat} {q : vw_C} (h : vwCl[ci]? = some q) : ∀ k, k < q.2.2 → parseFieldDescriptor (q.2.1 k).2.2.1 = some (mTy ci k) := mCl_all (P := fun ci q => ∀ k, k < q.2.2 → parseFieldDescriptor (q.2.1 k).2.2.1 = some (mTy ci k)) tyX0_ok tyX1_ok tyX2_ok tyX3_ok tyX4_ok tyX5_ok tyX6_ok tyX7_ok tyX8_ok tyX9_ok h
theorem mNmOk {ci : Nat} {q : vw_C} (h : vwCl[ci]? = some q) : ∀ a, a < q.2.2 → ∀ b, b < q.2.2 → a ≠ b → (q.2.1 a).2.1 ≠ (q.2.1 b).2.1 := mCl_all (P := fun _ q => ∀ a, a < q.2.2 → ∀ b, b < q.2.2 → a ≠ b → (q.2.1 a).2.1 ≠ (q.2.1 b).2.1) nmX0 nmX1 nmX2 nmX3 nmX4 nmX5 nmX6 nmX7 nmX8 nmX9 h
/-- the field k of a class, by a place of a pool -/
def mFL (own : String) (idx ci k : Nat) : Prop := ∃ q : vw_C, vwCl[ci]? = some q ∧ k < q.2.2 ∧ Cond.fieldLink own idx (q.2.1 k).1 (q.2.1 k).2.1 (q.2.1 k).2.2.1 ∈ mGood
/-- two states alike but at one place -/
def mBut (g g' : mS) (o k : Nat) : Prop := sN g' = sN g ∧ sK g' = sK g ∧ ∀ (base c a b : Nat), ¬ (a = o ∧ b = k) → mVal base c g' a b = mVal base c g a b
theorem mBut_I (g : mS) (o k : Nat) (z : Int) : mBut g (sPutI g o (k : Int) z) o k := by
  refine ⟨rfl, rfl, fun base c a b h => ?_⟩
  match c with
  | 0 => rw [mVal0, mVal0]; have h' : ¬ (a = o ∧ (b : Int) = (k : Int)) := fun q => h ⟨q.1, Int.ofNat_inj.mp q.2⟩; simp only [sI, mU, if_neg h']
  | 1 => rfl
  | c + 2 => rfl
theorem mBut_L (g : mS) (o k : Nat) (z : BitVec 64) : mBut g (sPutL g o (k : Int) z) o k := by
  refine ⟨rfl, rfl, fun base c a b h => ?_⟩
  match c with
  | 0 => rfl
  | 1 => rw [mVal1, mVal1]; have h' : ¬ (a = o ∧ (b : Int) = (k : Int)) := fun q => h ⟨q.1, Int.ofNat_inj.mp q.2⟩; simp only [sL, mU, if_neg h']
  | c + 2 => rfl
theorem mBut_R (g : mS) (o k : Nat) (z : Option Nat) : mBut g (sPutR g o (k : Int) z) o k := by
  refine ⟨rfl, rfl, fun base c a b h => ?_⟩
  match c with
  | 0 => rfl
  | 1 => rfl
  | c + 2 => show mRv base _ = mRv base _; have h' : ¬ (a = o ∧ (b : Int) = (k : Int)) := fun q => h ⟨q.1, Int.ofNat_inj.mp q.2⟩; simp only [sR, mU, if_neg h']
theorem mPut_I (base : Nat) (g : mS) (o k : Nat) (z : Int) : mVal base 0 (sPutI g o (k : Int) z) o k = mI z := by rw [mVal0]; simp [sI, mU]
theorem mPut_L (base : Nat) (g : mS) (o k : Nat) (z : BitVec 64) : mVal base 1 (sPutL g o (k : Int) z) o k = .long (Int64.ofBitVec z) := by rw [mVal1]; simp [sL, mU]
theorem mPut_R (base : Nat) (g : mS) (o k : Nat) (z : Option Nat) : mVal base 2 (sPutR g o (k : Int) z) o k = mRv base z := by rw [mVal2]; simp [sR, mU]
section MH
variable {base : Nat} {tb : Nat → Nat} {dC : Nat → ClassId} {dI : Nat → Nat → Nat} {s : State} {g g' : mS} {H H1 : Heap} {o k : Nat}
theorem mHp.obj (h : mHp base dC dI s g H) (ho : o < sN g) {ci : Nat} (hk : sK g o = .inl ci) : ∃ q : vw_C, vwCl[ci]? = some q ∧ t_OB (base + o) (dC ci) q.2.2 (dI ci) H (fun k => mVal base (mTc (mTy ci k)) g o k) := by
  have h1 := h.2 o ho
  unfold mCell at h1
  rw [hk] at h1
  exact h1
theorem mHp.arr (h : mHp base dC dI s g H) (ho : o < sN g) {t n : Nat} (hk : sK g o = .inr (t, n)) : ∃ cA : ClassId, ArrOfT s cA (mAT t) ∧ va_RA s cA (mAT t) ∧ H[base + o]? = some (arrV cA n (fun k => mVal base (mTc (mAT t)) g o k)) := by
  have h1 := h.2 o ho
  unfold mCell at h1
  rw [hk] at h1
  exact h1
/-- another cell stays -/
theorem mCell.kept {a : Nat} (h : mCell base dC dI s g H a) (hK : sK g' = sK g) (hq : H1[base + a]? = H[base + a]?) (hv : ∀ base c b : Nat, mVal base c g' a b = mVal base c g a b) : mCell base dC dI s g' H1 a := by
  unfold mCell at h ⊢
  rw [hK]
  split
  · rename_i ci e
    simp only [e] at h
    obtain ⟨q, h1, h2⟩ := h
    exact ⟨q, h1, (h2.kept hq).to (fun k _ => (hv _ _ _).symm)⟩
  · rename_i t n e
    simp only [e] at h
    obtain ⟨cA, h1, h2, h3⟩ := h
    refine ⟨cA, h1, h2, ?_⟩
    rw [hq, h3]
    simp only [hv]
theorem mHp.putO (h : mHp base dC dI s g H) (ho : o < sN g) {ci : Nat} (hk : sK g o = .inl ci) {q : vw_C} (hq : vwCl[ci]? = some q) (hkN : k < q.2.2) (hap : ∀ x y, x < q.2.2 → y < q.2.2 → x ≠ y → (dI ci) x ≠ (dI ci) y) (hb : mBut g g' o k) {cell : Cell} {v : Value}
    (q1 : H[base + o]? = some cell) (q2 : cell.cls = dC ci) (q3 : cell.vm = .none) (q4 : ∀ j, j < q.2.2 → cell.slots[dI ci j]? = some (mVal base (mTc (mTy ci j)) g o j)) (hv : mVal base (mTc (mTy ci k)) g' o k = v)
    (e1 : H1[base + o]? = some (cell.setSlot (dI ci k) v)) (e2 : H1.size = H.size) (e3 : ∀ x, x ≠ base + o → H1[x]? = H[x]?) : mHp base dC dI s g' H1 := by
  refine ⟨by rw [e2, h.1, hb.1], fun a ha => ?_⟩
  rw [hb.1] at ha
  by_cases hao : a = o
  · subst hao
    unfold mCell
    rw [hb.2.1, hk]
    refine ⟨q, hq, _, e1, q2, q3, fun j hj => ?_⟩
    have h9 := t_set (V := fun j => mVal base (mTc (mTy ci j)) g a j) q4 hap hkN v j hj
    rw [h9]
    by_cases hjk : j = k
    · subst hjk
      simp [updV, hv]
    · simp only [updV, if_neg hjk]
      rw [hb.2.2 _ _ _ _ (fun e => hjk e.2)]
  · exact (h.2 a ha).kept hb.2.1 (e3 _ (by omega)) (fun _ _ _ => hb.2.2 _ _ _ _ (fun e => hao e.1))
theorem mHp.putA (h : mHp base dC dI s g H) (ho : o < sN g) {t n : Nat} (hk : sK g o = .inr (t, n)) (hb : mBut g g' o k) {cA : ClassId} {v : Value} (r1 : ArrOfT s cA (mAT t)) (r2 : va_RA s cA (mAT t))
    (hv : mVal base (mTc (mAT t)) g' o k = v) (e1 : H1[base + o]? = some ((arrV cA n (fun j => mVal base (mTc (mAT t)) g o j)).setSlot k v)) (e2 : H1.size = H.size) (e3 : ∀ x, x ≠ base + o → H1[x]? = H[x]?) : mHp base dC dI s g' H1 := by
  refine ⟨by rw [e2, h.1, hb.1], fun a ha => ?_⟩
  rw [hb.1] at ha
  by_cases hao : a = o
  · subst hao
    unfold mCell
    rw [hb.2.1, hk]
    refine ⟨cA, r1, r2, ?_⟩
    rw [e1, arrV_store]
    congr 2
    funext j
    by_cases hjk : j = k
    · subst hjk
      simp [updV, hv]
    · simp only [updV, if_neg hjk]
      rw [hb.2.2 _ _ _ _ (fun e => hjk e.2)]
  · exact (h.2 a ha).kept hb.2.1 (e3 _ (by omega)) (fun _ _ _ => hb.2.2 _ _ _ _ (fun e => hao e.1))
theorem mHp.lt (h : mHp base dC dI s g H) (ho : o < sN g) : base + o < H.size := by rw [h.1]; omega
end MH
theorem mNew_old (g : mS) (kd : Nat ⊕ (Nat × Nat)) {a : Nat} (ha : a ≠ sN g) (base c b : Nat) : mVal base c (sNew g kd) a b = mVal base c g a b := by
  match c with
  | 0 => rw [mVal0, mVal0]; simp only [sI, sNew, if_neg ha]
  | 1 => rw [mVal1, mVal1]; simp only [sL, sNew, if_neg ha]
  | c + 2 => show mRv base _ = mRv base _; simp only [sR, sNew, if_neg ha]
theorem mNew_def (g : mS) (kd : Nat ⊕ (Nat × Nat)) (base b : Nat) (t : FieldType) (ht : mTc t = 0 → t = .int ∨ t = .boolean) (hr : mTc t = 2 → defaultValue t = .null) : mVal base (mTc t) (sNew g kd) (sN g) b = defaultValue t := by
  cases t with
  | int => show mVal base 0 _ _ _ = _; rw [mVal0]; simp [sI, sNew]; rfl
  | boolean => show mVal base 0 _ _ _ = _; rw [mVal0]; simp [sI, sNew]; rfl
  | long => show mVal base 1 _ _ _ = _; rw [mVal1]; simp [sL, sNew]; rfl
  | _ =>
    rw [hr rfl]
    show mVal base 2 _ _ _ = _
    rw [mVal2]
    simp [sR, sNew, mRv]
theorem mCell.old {base : Nat} {dC : Nat → ClassId} {dI : Nat → Nat → Nat} {s : State} {g : mS} {kd : Nat ⊕ (Nat × Nat)} {H H1 : Heap} {a : Nat} (h : mCell base dC dI s g H a) (ha : a ≠ sN g) (hq : H1[base + a]? = H[base + a]?) : mCell base dC dI s (sNew g kd) H1 a := by
  unfold mCell at h ⊢
  have hk : sK (sNew g kd) a = sK g a := by simp only [sK, sNew, if_neg ha]
  rw [hk]
  split
  · rename_i ci e
    simp only [e] at h
    obtain ⟨q, h1, h2⟩ := h
    exact ⟨q, h1, (h2.kept hq).to (fun k _ => (mNew_old g kd ha _ _ _).symm)⟩
  · rename_i t n e
    simp only [e] at h
    obtain ⟨cA, h1, h2, h3⟩ := h
    refine ⟨cA, h1, h2, ?_⟩
    rw [hq, h3]
    simp only [mNew_old g kd ha]
theorem mNarZ {z : Int} (h : z = 0 ∨ z = 1) : narrow .boolean (mI z) = mI z := by
  rcases h with rfl | rfl <;> decide
section MO
variable {M : mM} {d cb sb pc : Nat} {Qa : Option mV → mS → Prop} {L : List (Option mV)} {S : List mV} {g : mS}
theorem x_getI (j : Nat) {idx o ci k : Nat} {z : Int} (hd : (mTab M)[j]? = some (pc, .getfield idx, 3)) (hf : mFL (mName M).cls idx ci k) (ho : o < sN g) (hk : sK g o = .inl ci) (ht : mTc (mTy ci k) = 0) (hz : sI g o (k : Int) = z) (kk : mX M d Qa cb sb (pc + 3) L (vI z :: S) g) : mX M d Qa cb sb pc L (vR (some o) :: S) g := by
  intro p l e R s m args below meth c Q base tb dC dI F E H locs cells slots ls hH hS hL hc hs
  obtain ⟨q, hq, hkN, hw⟩ := hf
  obtain ⟨q', hq', cell, q1, q2, q3, q4⟩ := hH.obj ho hk
  obtain rfl : q' = q := Option.some.inj (hq'.symm.trans hq)
  obtain ⟨hSl, hfc, kC, hkC, hkind⟩ := F.2.2.2.2.2.2.2.1.1.1 ci _ hq
  obtain ⟨cf, kf, fi, f, hi, hsl⟩ := hSl k hkN
  refine W.getf F.1 F.2.1 F.2.2.2.1 (F.go hw) hi (u_facts hfc hkC (u_lays F.2.2.2.2.1 (mUws hq) hkN) hi).1 q1 (by rw [q3]; exact fun h => by cases h) (v := mC base tb (vI z)) ?_ rfl rfl (F.dec hd) (kk p l e R s m args below meth c Q base tb dC dI F E H locs cells slots ls hH hS hL hc hs)
  rw [hsl, q4 k hkN]
  show some (mVal base (mTc (mTy ci k)) g o k) = _
  rw [ht]
  rw [mVal0, hz]; rfl
theorem x_getL (j : Nat) {idx o ci k : Nat} {z : BitVec 64} (hd : (mTab M)[j]? = some (pc, .getfield idx, 3)) (hf : mFL (mName M).cls idx ci k) (ho : o < sN g) (hk : sK g o = .inl ci) (ht : mTc (mTy ci k) = 1) (hz : sL g o (k : Int) = z) (kk : mX M d Qa cb sb (pc + 3) L (vL z :: S) g) : mX M d Qa cb sb pc L (vR (some o) :: S) g := by
  intro p l e R s m args below meth c Q base tb dC dI F E H locs cells slots ls hH hS hL hc hs
  obtain ⟨q, hq, hkN, hw⟩ := hf
  obtain ⟨q', hq', cell, q1, q2, q3, q4⟩ := hH.obj ho hk
  obtain rfl : q' = q := Option.some.inj (hq'.symm.trans hq)
  obtain ⟨hSl, hfc, kC, hkC, hkind⟩ := F.2.2.2.2.2.2.2.1.1.1 ci _ hq
  obtain ⟨cf, kf, fi, f, hi, hsl⟩ := hSl k hkN
  refine W.getf F.1 F.2.1 F.2.2.2.1 (F.go hw) hi (u_facts hfc hkC (u_lays F.2.2.2.2.1 (mUws hq) hkN) hi).1 q1 (by rw [q3]; exact fun h => by cases h) (v := mC base tb (vL z)) ?_ rfl rfl (F.dec hd) (kk p l e R s m args below meth c Q base tb dC dI F E H locs cells slots ls hH hS hL hc hs)
  rw [hsl, q4 k hkN]
  show some (mVal base (mTc (mTy ci k)) g o k) = _
  rw [ht]
  rw [mVal1, hz]; rfl
theorem x_getR (j : Nat) {idx o ci k : Nat} {z : Nat} (hd : (mTab M)[j]? = some (pc, .getfield idx, 3)) (hf : mFL (mName M).cls idx ci k) (ho : o < sN g) (hk : sK g o = .inl ci) (ht : mTc (mTy ci k) = 2) (hz : sR g o (k : Int) = some z) (kk : mX M d Qa cb sb (pc + 3) L (vR (some z) :: S) g) : mX M d Qa cb sb pc L (vR (some o) :: S) g := by
  intro p l e R s m args below meth c Q base tb dC dI F E H locs cells slots ls hH hS hL hc hs
  obtain ⟨q, hq, hkN, hw⟩ := hf
  obtain ⟨q', hq', cell, q1, q2, q3, q4⟩ := hH.obj ho hk
  obtain rfl : q' = q := Option.some.inj (hq'.symm.trans hq)
  obtain ⟨hSl, hfc, kC, hkC, hkind⟩ := F.2.2.2.2.2.2.2.1.1.1 ci _ hq
  obtain ⟨cf, kf, fi, f, hi, hsl⟩ := hSl k hkN
  refine W.getf F.1 F.2.1 F.2.2.2.1 (F.go hw) hi (u_facts hfc hkC (u_lays F.2.2.2.2.1 (mUws hq) hkN) hi).1 q1 (by rw [q3]; exact fun h => by cases h) (v := mC base tb (vR (some z))) ?_ rfl rfl (F.dec hd) (kk p l e R s m args below meth c Q base tb dC dI F E H locs cells slots ls hH hS hL hc hs)
  rw [hsl, q4 k hkN]
  show some (mVal base (mTc (mTy ci k)) g o k) = _
  rw [ht]
  rw [mVal2, hz]; rfl
theorem x_putI (j : Nat) {idx o ci k : Nat} {z : Int} (hd : (mTab M)[j]? = some (pc, .putfield idx, 3)) (hf : mFL (mName M).cls idx ci k) (ho : o < sN g) (hk : sK g o = .inl ci) (ht : mTy ci k = .int) (hfin : (vwCl[ci]?.map (fun q => ((q.2.1 k).2.2.2))) = some false) {g' : mS} (hg : sPutI g o (k : Int) z = g') (kk : mX M d Qa cb sb (pc + 3) L S g') : mX M d Qa cb sb pc L (vI z :: vR (some o) :: S) g := by
  intro p l e R s m args below meth c Q base tb dC dI F E H locs cells slots ls hH hS hL hc hs
  subst hg
  obtain ⟨q, hq, hkN, hw⟩ := hf
  obtain ⟨q', hq', cell, q1, q2, q3, q4⟩ := hH.obj ho hk
  obtain rfl : q' = q := Option.some.inj (hq'.symm.trans hq)
  have hKn := F.2.2.2.2.2.2.2.1.1.1 ci _ hq
  obtain ⟨hSl, hfc, kC, hkC, hkind⟩ := hKn
  obtain ⟨cf, kf, fi, f, hi, hsl⟩ := hSl k hkN
  have hts := F.2.2.2.2.1
  have hap := va_apart (own := (mName M).cls) hts (mUws hq) (mTy ci) (mTyOk hq) (mNmOk hq) F.2.2.2.2.2.2.2.1.1 hq
  have hlay := hts _ (mUws hq _ (u_in_lay hkN))
  rw [hq] at hfin
  have hfin := Option.some.inj hfin
  simp only [] at hfin
  unfold u_lay at hlay
  have hst := (u_facts hfc hkC (u_lays hts (mUws hq) hkN) hi).1
  have hty := mTyOk hq k hkN
  rw [if_neg (by rw [hfin]; decide)] at hlay
  have h6 := u_store (v := mC base tb (vI z)) hfc hkC hkind hlay hi hty (by rw [ht]; rfl) (by rw [ht]; rfl)
  refine W.putK F.1 F.2.1 (f := f) ⟨F.2.2.2.1, F.go hw, ⟨_, _, _, hi⟩, hst⟩ (by rw [q2]; exact h6) q1 q3 (by rw [hsl]; exact k2_hasslot (q4 k hkN)) rfl rfl (F.dec hd) fun H' e1 e2 e3 => ?_
  rw [hsl] at e1 ⊢
  exact kk p l e R s m args below meth c Q base tb dC dI F E H' _ cells slots ls (hH.putO ho hk hq hkN hap (mBut_I g o k z) q1 q2 q3 q4 (by rw [ht]; exact mPut_I base g o k z) e1 e2 e3) (hS.put e2 e3 (Nat.le_add_right _ _)) hL hc hs
theorem x_putZ (j : Nat) {idx o ci k : Nat} {z : Int} (hd : (mTab M)[j]? = some (pc, .putfield idx, 3)) (hf : mFL (mName M).cls idx ci k) (ho : o < sN g) (hk : sK g o = .inl ci) (ht : mTy ci k = .boolean) (hz : z = 0 ∨ z = 1) (hfin : (vwCl[ci]?.map (fun q => ((q.2.1 k).2.2.2))) = some false) {g' : mS} (hg : sPutI g o (k : Int) z = g') (kk : mX M d Qa cb sb (pc + 3) L S g') : mX M d Qa cb sb pc L (vI z :: vR (some o) :: S) g := by
  intro p l e R s m args below meth c Q base tb dC dI F E H locs cells slots ls hH hS hL hc hs
  subst hg
  obtain ⟨q, hq, hkN, hw⟩ := hf
  obtain ⟨q', hq', cell, q1, q2, q3, q4⟩ := hH.obj ho hk
  obtain rfl : q' = q := Option.some.inj (hq'.symm.trans hq)
  have hKn := F.2.2.2.2.2.2.2.1.1.1 ci _ hq
  obtain ⟨hSl, hfc, kC, hkC, hkind⟩ := hKn
  obtain ⟨cf, kf, fi, f, hi, hsl⟩ := hSl k hkN
  have hts := F.2.2.2.2.1
  have hap := va_apart (own := (mName M).cls) hts (mUws hq) (mTy ci) (mTyOk hq) (mNmOk hq) F.2.2.2.2.2.2.2.1.1 hq
  have hlay := hts _ (mUws hq _ (u_in_lay hkN))
  rw [hq] at hfin
  have hfin := Option.some.inj hfin
  simp only [] at hfin
  unfold u_lay at hlay
  have hst := (u_facts hfc hkC (u_lays hts (mUws hq) hkN) hi).1
  have hty := mTyOk hq k hkN
  rw [if_neg (by rw [hfin]; decide)] at hlay
  have h6 := u_store (v := mC base tb (vI z)) hfc hkC hkind hlay hi hty (by rw [ht]; exact mNarZ hz) (by rw [ht]; rcases hz with rfl | rfl <;> rfl)
  refine W.putK F.1 F.2.1 (f := f) ⟨F.2.2.2.1, F.go hw, ⟨_, _, _, hi⟩, hst⟩ (by rw [q2]; exact h6) q1 q3 (by rw [hsl]; exact k2_hasslot (q4 k hkN)) rfl rfl (F.dec hd) fun H' e1 e2 e3 => ?_
  rw [hsl] at e1 ⊢
  exact kk p l e R s m args below meth c Q base tb dC dI F E H' _ cells slots ls (hH.putO ho hk hq hkN hap (mBut_I g o k z) q1 q2 q3 q4 (by rw [ht]; exact mPut_I base g o k z) e1 e2 e3) (hS.put e2 e3 (Nat.le_add_right _ _)) hL hc hs
theorem x_putL (j : Nat) {idx o ci k : Nat} {z : BitVec 64} (hd : (mTab M)[j]? = some (pc, .putfield idx, 3)) (hf : mFL (mName M).cls idx ci k) (ho : o < sN g) (hk : sK g o = .inl ci) (ht : mTy ci k = .long) (hfin : (vwCl[ci]?.map (fun q => ((q.2.1 k).2.2.2))) = some false) {g' : mS} (hg : sPutL g o (k : Int) z = g') (kk : mX M d Qa cb sb (pc + 3) L S g') : mX M d Qa cb sb pc L (vL z :: vR (some o) :: S) g := by
  intro p l e R s m args below meth c Q base tb dC dI F E H locs cells slots ls hH hS hL hc hs
  subst hg
  obtain ⟨q, hq, hkN, hw⟩ := hf
  obtain ⟨q', hq', cell, q1, q2, q3, q4⟩ := hH.obj ho hk
  obtain rfl : q' = q := Option.some.inj (hq'.symm.trans hq)
  have hKn := F.2.2.2.2.2.2.2.1.1.1 ci _ hq
  obtain ⟨hSl, hfc, kC, hkC, hkind⟩ := hKn
  obtain ⟨cf, kf, fi, f, hi, hsl⟩ := hSl k hkN
  have hts := F.2.2.2.2.1
  have hap := va_apart (own := (mName M).cls) hts (mUws hq) (mTy ci) (mTyOk hq) (mNmOk hq) F.2.2.2.2.2.2.2.1.1 hq
  have hlay := hts _ (mUws hq _ (u_in_lay hkN))
  rw [hq] at hfin
  have hfin := Option.some.inj hfin
  simp only [] at hfin
  unfold u_lay at hlay
  have hst := (u_facts hfc hkC (u_lays hts (mUws hq) hkN) hi).1
  have hty := mTyOk hq k hkN
  rw [if_neg (by rw [hfin]; decide)] at hlay
  have h6 := u_store (v := mC base tb (vL z)) hfc hkC hkind hlay hi hty (by rw [ht]; rfl) (by rw [ht]; rfl)
  refine W.putK F.1 F.2.1 (f := f) ⟨F.2.2.2.1, F.go hw, ⟨_, _, _, hi⟩, hst⟩ (by rw [q2]; exact h6) q1 q3 (by rw [hsl]; exact k2_hasslot (q4 k hkN)) rfl rfl (F.dec hd) fun H' e1 e2 e3 => ?_
  rw [hsl] at e1 ⊢
  exact kk p l e R s m args below meth c Q base tb dC dI F E H' _ cells slots ls (hH.putO ho hk hq hkN hap (mBut_L g o k z) q1 q2 q3 q4 (by rw [ht]; exact mPut_L base g o k z) e1 e2 e3) (hS.put e2 e3 (Nat.le_add_right _ _)) hL hc hs
theorem x_putF (j : Nat) {idx o ci k : Nat} {z : Nat} (hd : (mTab M)[j]? = some (pc, .putfield idx, 3)) (hf : mFL (mName M).cls idx ci k) (ho : o < sN g) (hk : sK g o = .inl ci) (ht : mTc (mTy ci k) = 2) (hn : ∀ a : Nat, narrow (mTy ci k) (.ref a) = .ref a ∧ fits (mTy ci k) (.ref a) = true) (hfin : (vwCl[ci]?.map (fun q => ((q.2.1 k).2.2.2, (q.2.1 k).1, M.1.name))) = some (true, (mName M).cls, "<init>")) {g' : mS} (hg : sPutR g o (k : Int) (some z) = g') (kk : mX M d Qa cb sb (pc + 3) L S g') : mX M d Qa cb sb pc L (vR (some z) :: vR (some o) :: S) g := by
  intro p l e R s m args below meth c Q base tb dC dI F E H locs cells slots ls hH hS hL hc hs
  subst hg
  obtain ⟨q, hq, hkN, hw⟩ := hf
  obtain ⟨q', hq', cell, q1, q2, q3, q4⟩ := hH.obj ho hk
  obtain rfl : q' = q := Option.some.inj (hq'.symm.trans hq)
  have hKn := F.2.2.2.2.2.2.2.1.1.1 ci _ hq
  obtain ⟨hSl, hfc, kC, hkC, hkind⟩ := hKn
  obtain ⟨cf, kf, fi, f, hi, hsl⟩ := hSl k hkN
  have hts := F.2.2.2.2.1
  have hap := va_apart (own := (mName M).cls) hts (mUws hq) (mTy ci) (mTyOk hq) (mNmOk hq) F.2.2.2.2.2.2.2.1.1 hq
  have hlay := hts _ (mUws hq _ (u_in_lay hkN))
  rw [hq] at hfin
  have hfin := Option.some.inj hfin
  simp only [] at hfin
  unfold u_lay at hlay
  have hst := (u_facts hfc hkC (u_lays hts (mUws hq) hkN) hi).1
  have hty := mTyOk hq k hkN
  have hf1 : (q'.2.1 k).2.2.2 = true := congrArg Prod.fst hfin
  have hf2 : (q'.2.1 k).1 = (mName M).cls := congrArg (fun x => x.2.1) hfin
  have hf3 : (mName M).name = "<init>" := congrArg (fun x => x.2.2) hfin
  rw [if_pos hf1] at hlay
  have hcf : m.cls = cf := by
    obtain ⟨_, _, c', _, _, _, -, -, hf', -, -, -, hown2, -⟩ := Cond.laysFinal_spec hlay
    have e1 : c' = cf := by have := hi.symm.trans hf'; simp at this; exact this.1.symm
    rw [hf2] at hown2
    rw [← e1]; exact Option.some.inj (F.2.2.2.1.symm.trans hown2)
  have h6 := u_fits (v := mC base tb (vR (some z))) hfc hkC hkind (Or.inr hlay) hi hty (hn _).1 (hn _).2
  have hin : meth.name = "<init>" := by rw [← hf3]; exact F.2.2.2.2.2.2.2.2.2.2.1
  refine W.putFinK F.1 F.2.1 F.2.2.2.1 (F.go hw) hi hst hcf hin (by rw [q2]; exact h6) q1 q3 (by rw [hsl]; exact k2_hasslot (q4 k hkN)) rfl rfl (F.dec hd) fun H' e1 e2 e3 => ?_
  rw [hsl] at e1 ⊢
  exact kk p l e R s m args below meth c Q base tb dC dI F E H' _ cells slots ls (hH.putO ho hk hq hkN hap (mBut_R g o k (some z)) q1 q2 q3 q4 (by rw [ht]; exact mPut_R base g o k (some z)) e1 e2 e3) (hS.put e2 e3 (Nat.le_add_right _ _)) hL hc hs
theorem x_new (j : Nat) {idx ci : Nat} {q : vw_C} (hd : (mTab M)[j]? = some (pc, .new idx, 3)) (hq : vwCl[ci]? = some q) (hcl : Cond.classLink (mName M).cls idx q.1 ∈ mGood) (hin : Cond.instantiable q.1 q.2.2 ∈ mGood) (hini : Cond.initialized q.1 ∈ mGood) {cb' sb' : Nat} (hcb : cb = cb' + 1) (hsb : sb = sb' + q.2.2) {g' : mS} (hg : sNew g (.inl ci) = g') (kk : mX M d Qa cb' sb' (pc + 3) L (vR (some (sN g)) :: S) g') : mX M d Qa cb sb pc L S g := by
  intro p l e R s m args below meth c Q base tb dC dI F E H locs cells slots ls hH hS hL hc hs
  subst hg; subst hcb; subst hsb
  have hKn := F.2.2.2.2.2.2.2.1.1.1 ci _ hq
  refine W.newcK F.1 F.2.1 F.2.2.2.1 (F.go hcl) (F.go hin) (F.go hini) rfl (F.dec hd) (by omega) (by omega) hKn.2.1 hH.1 fun H' kC hkC e1 e2 e3 => ?_
  refine kk p l e R s m args below meth c Q base tb dC dI F E H' _ _ _ ls ⟨by rw [e2]; rfl, fun a ha => ?_⟩ ⟨Nat.le_trans hS.1 (by rw [e2, hH.1]; omega), fun x h1 h2 => ?_, hS.2.2⟩ hL (by omega) (by omega)
  · by_cases hao : a = sN g
    · subst hao
      unfold mCell
      have hk : sK (sNew g (.inl ci)) (sN g) = .inl ci := by simp [sK, sNew]
      rw [hk]
      refine ⟨q, hq, (u_born (mTy ci) F.2.2.2.2.1 (mUws hq) hKn hkC e1 (mTyOk hq)).to (fun k hkN => ?_)⟩
      refine (mNew_def g _ base k _ ?_ ?_).symm
      · intro h
        cases h9 : mTy ci k <;> rw [h9] at h <;> first | exact Or.inl rfl | exact Or.inr rfl | cases h
      · intro h
        have hb : ∀ k, k < q.2.2 → mTc (mTy ci k) = 2 → defaultValue (mTy ci k) = .null := mCl_all (P := fun ci q => ∀ k, k < q.2.2 → mTc (mTy ci k) = 2 → defaultValue (mTy ci k) = .null) (by decide) (by decide) (by decide) (by decide) (by decide) (by decide) (by decide) (by decide) (by decide) (by decide) hq
        exact hb k hkN h
    · have ha' : a < sN g := by
        have : a < sN g + 1 := ha
        omega
      exact (hH.2 a ha').old hao (e3 _ (by omega))
  · rw [e3 x (Nat.lt_of_lt_of_le h1 (by rw [← hH.1]; exact hS.1))]
    exact hS.2.1 x h1 h2
theorem x_newa (j : Nat) {atype : ArrayType} {t n : Nat} {z : Int} (hd : (mTab M)[j]? = some (pc, .newarray atype, 2)) (ht : newarray.typeOf atype = mAT t) (ht3 : t < 3) (hw : Cond.arrayClass (newarray.typeOf atype) ∈ mGood) (hz : z = (n : Int)) (hn : n < 65536) {cb' sb' : Nat} (hcb : cb = cb' + 1) (hsb : sb = sb' + n) {g' : mS} (hg : sNew g (.inr (t, n)) = g') (kk : mX M d Qa cb' sb' (pc + 2) L (vR (some (sN g)) :: S) g') : mX M d Qa cb sb pc L (vI z :: S) g := by
  intro p l e R s m args below meth c Q base tb dC dI F E H locs cells slots ls hH hS hL hc hs
  subst hg; subst hcb; subst hsb; subst hz
  have hcmp : componentBytes (newarray.typeOf atype) ≤ 8 := by cases atype <;> decide
  refine va_newaK (n := Int32.ofInt (n : Int)) (N := n) F.1 F.2.1 (F.go hw) rfl (F.dec hd) rfl (by rw [show (0 : Int32) = Int32.ofInt 0 from rfl, mI_lt ⟨by omega, by omega⟩ mR0]; omega) (by rw [mI_nat ⟨by omega, by omega⟩ (by omega)]; rfl) (Nat.le_trans (Nat.mul_le_mul (Nat.le_of_lt hn) hcmp) (by decide)) (by omega) (by omega) hH.1 fun H' cA e1 e2 e3 r1 r2 => ?_
  refine kk p l e R s m args below meth c Q base tb dC dI F E H' _ _ _ ls ⟨by rw [e2]; rfl, fun a ha => ?_⟩ ⟨Nat.le_trans hS.1 (by rw [e2, hH.1]; omega), fun x h1 h2 => ?_, hS.2.2⟩ hL (by omega) (by omega)
  · by_cases hao : a = sN g
    · subst hao
      unfold mCell
      have hk : sK (sNew g (.inr (t, n))) (sN g) = .inr (t, n) := by simp [sK, sNew]
      rw [hk]
      rw [ht] at r1 r2 e1
      refine ⟨cA, r1, ?_, ?_⟩
      · match t, ht3 with
        | 0, _ => exact r2
        | 1, _ => exact r2
        | 2, _ => exact r2
      · rw [e1]
        congr 2
        funext k
        match t, ht3 with
        | 0, _ => exact (mNew_def g _ base k .int (fun _ => Or.inl rfl) (fun h => by cases h)).symm
        | 1, _ => exact (mNew_def g _ base k .long (fun h => by cases h) (fun h => by cases h)).symm
        | 2, _ => exact (mNew_def g _ base k .boolean (fun _ => Or.inr rfl) (fun h => by cases h)).symm
    · have ha' : a < sN g := by
        have : a < sN g + 1 := ha
        omega
      exact (hH.2 a ha').old hao (e3 _ (by omega))
  · rw [e3 x (Nat.lt_of_lt_of_le h1 (by rw [← hH.1]; exact hS.1))]
    exact hS.2.1 x h1 h2
theorem x_newq5 (j : Nat) {idx n : Nat} {z : Int} (hd : (mTab M)[j]? = some (pc, .anewarray idx, 3)) (hcl : Cond.classLink (mName M).cls idx RX5 ∈ mGood) (hz : z = (n : Int)) (hn : n < 65536) {cb' sb' : Nat} (hcb : cb = cb' + 1) (hsb : sb = sb' + n) {g' : mS} (hg : sNew g (.inr (3, n)) = g') (kk : mX M d Qa cb' sb' (pc + 3) L (vR (some (sN g)) :: S) g') : mX M d Qa cb sb pc L (vI z :: S) g := by
  intro p l e R s m args below meth c Q base tb dC dI F E H locs cells slots ls hH hS hL hc hs
  subst hg; subst hcb; subst hsb; subst hz
  have hnn : (Int32.ofInt (n : Int)).toNatClampNeg = n := by rw [mI_nat ⟨by omega, by omega⟩ (by omega)]; rfl
  refine W.anew (n := Int32.ofInt (n : Int)) F.1 F.2.1 F.2.2.2.1 (F.go hcl) (va_AO.use F.2.2.2.2.2.2.2.1.2.2.2.1) rfl (F.dec hd) rfl (by rw [show (0 : Int32) = Int32.ofInt 0 from rfl, mI_lt ⟨by omega, by omega⟩ mR0]; omega) (by rw [hnn]; omega) (by omega) (by rw [hnn]; omega) fun cA kA comp f1 f2 f3 f4 => ?_
  rw [hnn]
  generalize hH1 : H.push ({ cls := cA, slots := Array.replicate n .null, vm := .none } : Cell) = H1
  have e2 : H1.size = H.size + 1 := by rw [← hH1, Array.size_push]
  have e1 : H1[H.size]? = some (arrV cA n (fun _ => .null)) := by rw [← hH1, Array.getElem?_push_size, ← arrV_new]
  have e3 : ∀ q : Nat, q < H.size → H1[q]? = H[q]? := fun q hq => by rw [← hH1, Array.getElem?_push, if_neg (Nat.ne_of_lt hq)]
  have r1 : ArrOfT s cA (.object RX5) := fun N z => ⟨(fun k h => by cases h), kA, f2, comp, f3⟩
  rw [show (Value.ref H.size :: List.map (mC base tb) S) = List.map (mC base tb) (vR (some (sN g)) :: S) by rw [hH.1]; rfl]
  refine kk p l e R s m args below meth c Q base tb dC dI F E H1 _ _ _ ls ⟨by rw [e2, hH.1]; rfl, fun a ha => ?_⟩ ⟨Nat.le_trans hS.1 (by rw [e2]; omega), fun x h1 h2 => ?_, hS.2.2⟩ hL (by omega) (by omega)
  · by_cases hao : a = sN g
    · subst hao
      unfold mCell
      have hk : sK (sNew g (.inr (3, n))) (sN g) = .inr (3, n) := by simp [sK, sNew]
      rw [hk]
      refine ⟨cA, r1, ⟨kA, comp, f2, f3, f4, f1⟩, ?_⟩
      rw [← hH.1, e1]
      congr 2
      funext k
      show _ = mVal base 2 _ _ _
      rw [mVal2]
      simp [sR, sNew, mRv]
    · have ha' : a < sN g := by
        have : a < sN g + 1 := ha
        omega
      exact (hH.2 a ha').old hao (e3 _ (hH.lt ha'))
  · rw [e3 x (Nat.lt_of_lt_of_le h1 hS.1)]
    exact hS.2.1 x h1 h2
theorem x_newq0 (j : Nat) {idx n : Nat} {z : Int} (hd : (mTab M)[j]? = some (pc, .anewarray idx, 3)) (hcl : Cond.classLink (mName M).cls idx RX0 ∈ mGood) (hz : z = (n : Int)) (hn : n < 65536) {cb' sb' : Nat} (hcb : cb = cb' + 1) (hsb : sb = sb' + n) {g' : mS} (hg : sNew g (.inr (4, n)) = g') (kk : mX M d Qa cb' sb' (pc + 3) L (vR (some (sN g)) :: S) g') : mX M d Qa cb sb pc L (vI z :: S) g := by
  intro p l e R s m args below meth c Q base tb dC dI F E H locs cells slots ls hH hS hL hc hs
  subst hg; subst hcb; subst hsb; subst hz
  have hnn : (Int32.ofInt (n : Int)).toNatClampNeg = n := by rw [mI_nat ⟨by omega, by omega⟩ (by omega)]; rfl
  refine W.anew (n := Int32.ofInt (n : Int)) F.1 F.2.1 F.2.2.2.1 (F.go hcl) (va_AO.use F.2.2.2.2.2.2.2.1.2.2.2.2) rfl (F.dec hd) rfl (by rw [show (0 : Int32) = Int32.ofInt 0 from rfl, mI_lt ⟨by omega, by omega⟩ mR0]; omega) (by rw [hnn]; omega) (by omega) (by rw [hnn]; omega) fun cA kA comp f1 f2 f3 f4 => ?_
  rw [hnn]
  generalize hH1 : H.push ({ cls := cA, slots := Array.replicate n .null, vm := .none } : Cell) = H1
  have e2 : H1.size = H.size + 1 := by rw [← hH1, Array.size_push]
  have e1 : H1[H.size]? = some (arrV cA n (fun _ => .null)) := by rw [← hH1, Array.getElem?_push_size, ← arrV_new]
  have e3 : ∀ q : Nat, q < H.size → H1[q]? = H[q]? := fun q hq => by rw [← hH1, Array.getElem?_push, if_neg (Nat.ne_of_lt hq)]
  have r1 : ArrOfT s cA (.object RX0) := fun N z => ⟨(fun k h => by cases h), kA, f2, comp, f3⟩
  rw [show (Value.ref H.size :: List.map (mC base tb) S) = List.map (mC base tb) (vR (some (sN g)) :: S) by rw [hH.1]; rfl]
  refine kk p l e R s m args below meth c Q base tb dC dI F E H1 _ _ _ ls ⟨by rw [e2, hH.1]; rfl, fun a ha => ?_⟩ ⟨Nat.le_trans hS.1 (by rw [e2]; omega), fun x h1 h2 => ?_, hS.2.2⟩ hL (by omega) (by omega)
  · by_cases hao : a = sN g
    · subst hao
      unfold mCell
      have hk : sK (sNew g (.inr (4, n))) (sN g) = .inr (4, n) := by simp [sK, sNew]
      rw [hk]
      refine ⟨cA, r1, ⟨kA, comp, f2, f3, f4, f1⟩, ?_⟩
      rw [← hH.1, e1]
      congr 2
      funext k
      show _ = mVal base 2 _ _ _
      rw [mVal2]
      simp [sR, sNew, mRv]
    · have ha' : a < sN g := by
        have : a < sN g + 1 := ha
        omega
      exact (hH.2 a ha').old hao (e3 _ (hH.lt ha'))
  · rw [e3 x (Nat.lt_of_lt_of_le h1 hS.1)]
    exact hS.2.1 x h1 h2
theorem x_iald (j : Nat) {o n : Nat} {i : Int} {z : Int} (hd : (mTab M)[j]? = some (pc, .iaload, 1)) (ho : o < sN g) (hk : sK g o = .inr (0, n)) (hi : 0 ≤ i ∧ i < n ∧ i < 2147483648) (hz : sI g o i = z) (kk : mX M d Qa cb sb (pc + 1) L (vI z :: S) g) : mX M d Qa cb sb pc L (vI i :: vR (some o) :: S) g := by
  intro p l e R s m args below meth c Q base tb dC dI F E H locs cells slots ls hH hS hL hc hs
  obtain ⟨i', rfl⟩ : ∃ i' : Nat, i = (i' : Int) := ⟨i.toNat, by omega⟩
  obtain ⟨cA, r1, r2, q1⟩ := hH.arr ho hk
  have hin := mI_in (n := n) hi.1 hi.2.1 ⟨by omega, hi.2.2⟩
  have hnn : (Int32.ofInt (i' : Int)).toNatClampNeg = i' := mI_nat ⟨by omega, hi.2.2⟩ hi.1
  refine W.iald (j := Int32.ofInt (i' : Int)) (v := mC base tb (vI z)) F.1 F.2.1 q1 (r1 n _) (fun q => by cases q) (by rw [arrV_size]; exact hin) ?_ rfl rfl (F.dec hd) (kk p l e R s m args below meth c Q base tb dC dI F E H locs cells slots ls hH hS hL hc hs)
  rw [hnn, arrV_read _ _ (by omega)]
  show some (mVal base 0 g o i') = _; rw [mVal0, hz]; rfl
theorem x_zald (j : Nat) {o n : Nat} {i : Int} {z : Int} (hd : (mTab M)[j]? = some (pc, .baload, 1)) (ho : o < sN g) (hk : sK g o = .inr (2, n)) (hi : 0 ≤ i ∧ i < n ∧ i < 2147483648) (hz : sI g o i = z) (kk : mX M d Qa cb sb (pc + 1) L (vI z :: S) g) : mX M d Qa cb sb pc L (vI i :: vR (some o) :: S) g := by
  intro p l e R s m args below meth c Q base tb dC dI F E H locs cells slots ls hH hS hL hc hs
  obtain ⟨i', rfl⟩ : ∃ i' : Nat, i = (i' : Int) := ⟨i.toNat, by omega⟩
  obtain ⟨cA, r1, r2, q1⟩ := hH.arr ho hk
  have hin := mI_in (n := n) hi.1 hi.2.1 ⟨by omega, hi.2.2⟩
  have hnn : (Int32.ofInt (i' : Int)).toNatClampNeg = i' := mI_nat ⟨by omega, hi.2.2⟩ hi.1
  refine W.zald (j := Int32.ofInt (i' : Int)) (v := mC base tb (vI z)) F.1 F.2.1 q1 (r1 n _) (fun q => by cases q) (by rw [arrV_size]; exact hin) ?_ rfl rfl (F.dec hd) (kk p l e R s m args below meth c Q base tb dC dI F E H locs cells slots ls hH hS hL hc hs)
  rw [hnn, arrV_read _ _ (by omega)]
  show some (mVal base 0 g o i') = _; rw [mVal0, hz]; rfl
theorem x_lald (j : Nat) {o n : Nat} {i : Int} {z : BitVec 64} (hd : (mTab M)[j]? = some (pc, .laload, 1)) (ho : o < sN g) (hk : sK g o = .inr (1, n)) (hi : 0 ≤ i ∧ i < n ∧ i < 2147483648) (hz : sL g o i = z) (kk : mX M d Qa cb sb (pc + 1) L (vL z :: S) g) : mX M d Qa cb sb pc L (vI i :: vR (some o) :: S) g := by
  intro p l e R s m args below meth c Q base tb dC dI F E H locs cells slots ls hH hS hL hc hs
  obtain ⟨i', rfl⟩ : ∃ i' : Nat, i = (i' : Int) := ⟨i.toNat, by omega⟩
  obtain ⟨cA, r1, r2, q1⟩ := hH.arr ho hk
  have hin := mI_in (n := n) hi.1 hi.2.1 ⟨by omega, hi.2.2⟩
  have hnn : (Int32.ofInt (i' : Int)).toNatClampNeg = i' := mI_nat ⟨by omega, hi.2.2⟩ hi.1
  refine W.lald (j := Int32.ofInt (i' : Int)) (v := mC base tb (vL z)) F.1 F.2.1 q1 (r1 n _) (fun q => by cases q) (by rw [arrV_size]; exact hin) ?_ rfl rfl (F.dec hd) (kk p l e R s m args below meth c Q base tb dC dI F E H locs cells slots ls hH hS hL hc hs)
  rw [hnn, arrV_read _ _ (by omega)]
  show some (mVal base 1 g o i') = _; rw [mVal1, hz]; rfl
theorem x_aald (j : Nat) {o n : Nat} {i : Int} {t z : Nat} (hd : (mTab M)[j]? = some (pc, .aaload, 1)) (ho : o < sN g) (hk : sK g o = .inr (t, n)) (hi : 0 ≤ i ∧ i < n ∧ i < 2147483648) (ht : (mAT t).isReference = true ∧ mTc (mAT t) = 2) (hz : sR g o i = some z) (kk : mX M d Qa cb sb (pc + 1) L (vR (some z) :: S) g) : mX M d Qa cb sb pc L (vI i :: vR (some o) :: S) g := by
  intro p l e R s m args below meth c Q base tb dC dI F E H locs cells slots ls hH hS hL hc hs
  obtain ⟨i', rfl⟩ : ∃ i' : Nat, i = (i' : Int) := ⟨i.toNat, by omega⟩
  obtain ⟨cA, r1, r2, q1⟩ := hH.arr ho hk
  have hin := mI_in (n := n) hi.1 hi.2.1 ⟨by omega, hi.2.2⟩
  have hnn : (Int32.ofInt (i' : Int)).toNatClampNeg = i' := mI_nat ⟨by omega, hi.2.2⟩ hi.1
  refine W.aald (j := Int32.ofInt (i' : Int)) (v := mC base tb (vR (some z))) F.1 F.2.1 q1 (r1 n _) ht.1 (fun q => by cases q) (by rw [arrV_size]; exact hin) ?_ rfl rfl (F.dec hd) (kk p l e R s m args below meth c Q base tb dC dI F E H locs cells slots ls hH hS hL hc hs)
  rw [hnn, arrV_read _ _ (by omega)]
  rw [ht.2, mVal2, hz]; rfl
theorem x_iast (j : Nat) {o n : Nat} {i : Int} {z : Int} (hd : (mTab M)[j]? = some (pc, .iastore, 1)) (ho : o < sN g) (hk : sK g o = .inr (0, n)) (hi : 0 ≤ i ∧ i < n ∧ i < 2147483648) {g' : mS} (hg : sPutI g o i z = g') (kk : mX M d Qa cb sb (pc + 1) L S g') : mX M d Qa cb sb pc L (vI z :: vI i :: vR (some o) :: S) g := by
  intro p l e R s m args below meth c Q base tb dC dI F E H locs cells slots ls hH hS hL hc hs
  subst hg
  obtain ⟨i', rfl⟩ : ∃ i' : Nat, i = (i' : Int) := ⟨i.toNat, by omega⟩
  obtain ⟨cA, r1, r2, q1⟩ := hH.arr ho hk
  have hin := mI_in (n := n) hi.1 hi.2.1 ⟨by omega, hi.2.2⟩
  have hnn : (Int32.ofInt (i' : Int)).toNatClampNeg = i' := mI_nat ⟨by omega, hi.2.2⟩ hi.1
  refine W.iast (j := Int32.ofInt (i' : Int)) F.1 F.2.1 q1 (r1 n _) (fun q => by cases q) (by rw [arrV_size]; exact hin) rfl rfl (F.dec hd) fun H' e1 e2 e3 => ?_
  rw [hnn] at e1 ⊢
  
  exact kk p l e R s m args below meth c Q base tb dC dI F E H' _ cells slots ls (hH.putA ho hk (mBut_I g o i' z) r1 r2 (mPut_I base g o i' z) e1 e2 e3) (hS.put e2 e3 (Nat.le_add_right _ _)) hL hc hs
theorem x_last (j : Nat) {o n : Nat} {i : Int} {z : BitVec 64} (hd : (mTab M)[j]? = some (pc, .lastore, 1)) (ho : o < sN g) (hk : sK g o = .inr (1, n)) (hi : 0 ≤ i ∧ i < n ∧ i < 2147483648) {g' : mS} (hg : sPutL g o i z = g') (kk : mX M d Qa cb sb (pc + 1) L S g') : mX M d Qa cb sb pc L (vL z :: vI i :: vR (some o) :: S) g := by
  intro p l e R s m args below meth c Q base tb dC dI F E H locs cells slots ls hH hS hL hc hs
  subst hg
  obtain ⟨i', rfl⟩ : ∃ i' : Nat, i = (i' : Int) := ⟨i.toNat, by omega⟩
  obtain ⟨cA, r1, r2, q1⟩ := hH.arr ho hk
  have hin := mI_in (n := n) hi.1 hi.2.1 ⟨by omega, hi.2.2⟩
  have hnn : (Int32.ofInt (i' : Int)).toNatClampNeg = i' := mI_nat ⟨by omega, hi.2.2⟩ hi.1
  refine W.last (j := Int32.ofInt (i' : Int)) F.1 F.2.1 q1 (r1 n _) (fun q => by cases q) (by rw [arrV_size]; exact hin) rfl rfl (F.dec hd) fun H' e1 e2 e3 => ?_
  rw [hnn] at e1 ⊢
  
  exact kk p l e R s m args below meth c Q base tb dC dI F E H' _ cells slots ls (hH.putA ho hk (mBut_L g o i' z) r1 r2 (mPut_L base g o i' z) e1 e2 e3) (hS.put e2 e3 (Nat.le_add_right _ _)) hL hc hs
theorem x_zast (j : Nat) {o n : Nat} {i : Int} {z : Int} (hd : (mTab M)[j]? = some (pc, .bastore, 1)) (ho : o < sN g) (hk : sK g o = .inr (2, n)) (hi : 0 ≤ i ∧ i < n ∧ i < 2147483648) (hb : z = 0 ∨ z = 1) {g' : mS} (hg : sPutI g o i z = g') (kk : mX M d Qa cb sb (pc + 1) L S g') : mX M d Qa cb sb pc L (vI z :: vI i :: vR (some o) :: S) g := by
  intro p l e R s m args below meth c Q base tb dC dI F E H locs cells slots ls hH hS hL hc hs
  subst hg
  obtain ⟨i', rfl⟩ : ∃ i' : Nat, i = (i' : Int) := ⟨i.toNat, by omega⟩
  obtain ⟨cA, r1, r2, q1⟩ := hH.arr ho hk
  have hin := mI_in (n := n) hi.1 hi.2.1 ⟨by omega, hi.2.2⟩
  have hnn : (Int32.ofInt (i' : Int)).toNatClampNeg = i' := mI_nat ⟨by omega, hi.2.2⟩ hi.1
  refine W.zast (j := Int32.ofInt (i' : Int)) F.1 F.2.1 q1 (r1 n _) (fun q => by cases q) (by rw [arrV_size]; exact hin) rfl rfl (F.dec hd) fun H' e1 e2 e3 => ?_
  rw [hnn] at e1 ⊢
  try rw [show narrow .boolean (.int (Int32.ofInt z)) = .int (Int32.ofInt z) from mNarZ hb] at e1
  exact kk p l e R s m args below meth c Q base tb dC dI F E H' _ cells slots ls (hH.putA ho hk (mBut_I g o i' z) r1 r2 (mPut_I base g o i' z) e1 e2 e3) (hS.put e2 e3 (Nat.le_add_right _ _)) hL hc hs
theorem x_aast (j : Nat) {o n t ci w : Nat} {i : Int} {r : vw_C} (hd : (mTab M)[j]? = some (pc, .aastore, 1)) (ho : o < sN g) (hk : sK g o = .inr (t, n)) (ht : mAT t = .object r.1) (hc' : vwCl[ci]? = some r) (hw : w < sN g) (hwk : sK g w = .inl ci) (hi : 0 ≤ i ∧ i < n ∧ i < 2147483648) {g' : mS} (hg : sPutR g o i (some w) = g') (kk : mX M d Qa cb sb (pc + 1) L S g') : mX M d Qa cb sb pc L (vR (some w) :: vI i :: vR (some o) :: S) g := by
  intro p l e R s m args below meth c Q base tb dC dI F E H locs cells slots ls hH hS hL hc hs
  subst hg
  obtain ⟨i', rfl⟩ : ∃ i' : Nat, i = (i' : Int) := ⟨i.toNat, by omega⟩
  obtain ⟨cA, r1, r2, q1⟩ := hH.arr ho hk
  obtain ⟨r', hr', cellV, g1, g2, g3, -⟩ := hH.obj hw hwk
  have hin := mI_in (n := n) hi.1 hi.2.1 ⟨by omega, hi.2.2⟩
  have hnn : (Int32.ofInt (i' : Int)).toNatClampNeg = i' := mI_nat ⟨by omega, hi.2.2⟩ hi.1
  have hcls := (F.2.2.2.2.2.2.2.1.1.1 ci r hc').2
  have r2' := r2
  rw [ht] at r2'
  obtain ⟨kA, comp, k1, k2, k3, -⟩ := r2'
  have hcomp : comp = dC ci := Option.some.inj (k3.symm.trans hcls.1)
  subst hcomp
  obtain ⟨kC, hkC, -⟩ := hcls.2
  refine W.aast (j := Int32.ofInt (i' : Int)) F.1 F.2.1 q1 (fun q h => by cases h) (fun h => by cases h) k1 k2 rfl hkC ⟨fun q => hin (Or.inl q), by rw [arrV_size, hnn]; omega⟩ g1 (fun q h => by rw [g3] at h; cases h) (by rw [g2]; exact hkC) (by rw [g2]; exact va_assign hcls) rfl rfl (F.dec hd) fun H' e1 e2 e3 => ?_
  rw [hnn] at e1 ⊢
  exact kk p l e R s m args below meth c Q base tb dC dI F E H' _ cells slots ls (hH.putA ho hk (mBut_R g o i' (some w)) r1 r2 (by rw [ht]; exact mPut_R base g o i' (some w)) e1 e2 e3) (hS.put e2 e3 (Nat.le_add_right _ _)) hL hc hs
theorem x_gets (j : Nat) {idx t : Nat} (hd : (mTab M)[j]? = some (pc, .getstatic idx, 3)) (ht : t < 4) (hw : Cond.fieldLink (mName M).cls idx (mTN t).1 (mTN t).2 "[I" ∈ mGood) (kk : mX M d Qa cb sb (pc + 3) L (vT t :: S) g) : mX M d Qa cb sb pc L S g := by
  intro p l e R s m args below meth c Q base tb dC dI F E H locs cells slots ls hH hS hL hc hs
  exact va_gets F.1 F.2.1 (F.2.2.2.2.2.2.2.1.2.1 t ht).1 hS F.2.2.2.1 (F.go hw) (fun _ h => h) (F.dec hd) (kk p l e R s m args below meth c Q base tb dC dI F E H locs cells slots ls hH hS hL hc hs)
theorem x_getsN (j : Nat) {idx t : Nat} (hd : (mTab M)[j]? = some (pc, .getstatic idx, 3)) (ht : t < 4) (hw : Cond.fieldLinkNest (mName M).cls idx (mTN t).1 (mTN t).2 "[I" "ChoirBook" ∈ mNest) (kk : mX M d Qa cb sb (pc + 3) L (vT t :: S) g) : mX M d Qa cb sb pc L S g := by
  intro p l e R s m args below meth c Q base tb dC dI F E H locs cells slots ls hH hS hL hc hs
  exact va_getsN F.1 F.2.1 (F.2.2.2.2.2.2.2.1.2.1 t ht).1 hS F.2.2.2.1 (va_Nw.use rfl (F.2.2.2.2.2.2.2.1.2.2.1 _ hw)) (fun _ h => h) (F.dec hd) (kk p l e R s m args below meth c Q base tb dC dI F E H locs cells slots ls hH hS hL hc hs)
theorem x_tald (j : Nat) {t : Nat} {i z : Int} (hd : (mTab M)[j]? = some (pc, .iaload, 1)) (ht : t < 4) (hi : 0 ≤ i ∧ i < 4) (hz : mTF t i.toNat = z) (kk : mX M d Qa cb sb (pc + 1) L (vI z :: S) g) : mX M d Qa cb sb pc L (vI i :: vT t :: S) g := by
  intro p l e R s m args below meth c Q base tb dC dI F E H locs cells slots ls hH hS hL hc hs
  have hin := mI_in (n := 4) hi.1 (by omega) ⟨by omega, by omega⟩
  have hnn := mI_nat (a := i) ⟨by omega, by omega⟩ hi.1
  exact va_ti F.1 F.2.1 (F.2.2.2.2.2.2.2.1.2.1 t ht).2 hS (i := Int32.ofInt i) hin (v := mI z) (by rw [hnn, hz]) (F.dec hd) (kk p l e R s m args below meth c Q base tb dC dI F E H locs cells slots ls hH hS hL hc hs)
end MO
end
section
/-! calls: a method's contract, how it is got from a walk, how it is used -/
def mWords (M : mM) : List Cond := .code (mName M) (mBytes M) (mNL M) (mRet M) :: mGood
def mRoom (d mc ms : Nat) : Room := { frames := d, cells := mc, slots := ms, locals := 30 * d }
def mQ (base : Nat) (tb : Nat → Nat) (dC : Nat → ClassId) (dI : Nat → Nat → Nat) (Qc : Option mV → mS → Prop) : Array Value → State → Outcome → State → Prop := fun _ st oc t => (∃ (v : Option mV) (g' : mS), oc = .returned (v.map (mC base tb)) ∧ Qc v g' ∧ mW base tb dC dI g' t) ∧ va_F (mA base) st t
/-- the contract of the method M: from the state g with these arguments it comes back with an answer and a state of which Qc holds; d: how deep it calls; mc, ms: what it makes -/
def mCtr (M : mM) (d mc ms : Nat) (as : List mV) (g : mS) (Qc : Option mV → mS → Prop) : Prop :=
  ∀ (l : Launch) (base : Nat) (tb : Nat → Nat) (dC : Nat → ClassId) (dI : Nat → Nat → Nat), Met l (mName M) (mWords M) (mRoom d mc ms) (va_Pc (as.map (mC base tb)) (fun U => mW base tb dC dI g U)) (mQ base tb dC dI Qc) mc ms (mA base)
theorem mBlind {av : List Value} {base : Nat} {tb : Nat → Nat} {dC : Nat → ClassId} {dI : Nat → Nat → Nat} {g : mS} : FrameBlind (va_Pc av (fun U => mW base tb dC dI g U)) := by
  intro a U f mk h
  obtain ⟨h1, h2, h3⟩ := h
  exact ⟨h1, mWs.same (u := U) (U := U.calling f mk a) rfl h2, mHp.moved (u := U) (U := U.calling f mk a) (Vm.Alike.refl U.vm) h3⟩
def mEntry : List mV → List (Option mV)
  | [] => []
  | v :: t => if mCat v = 2 then some v :: none :: mEntry t else some v :: mEntry t
theorem mEntry_at (base : Nat) (tb : Nat → Nat) : ∀ (as : List mV) (i j : Nat) (v : mV), (mEntry as)[j]? = some (some v) → (i + j, mC base tb v) ∈ lv_args i (as.map (mC base tb))
  | [], i, j, v, h => by simp [mEntry] at h
  | a :: t, i, j, v, h => by
    unfold mEntry at h
    show _ ∈ (i, mC base tb a) :: lv_args (if (mC base tb a).category = 2 then i + 2 else i + 1) (t.map (mC base tb))
    rw [mC_cat]
    by_cases hc : mCat a = 2
    · rw [if_pos hc] at h ⊢
      match j, h with
      | 0, h => cases h; exact List.mem_cons_self
      | 1, h => cases h
      | j + 2, h =>
        have := mEntry_at base tb t (i + 2) j v h
        rw [show i + (j + 2) = i + 2 + j by omega]
        exact List.mem_cons_of_mem _ this
    · rw [if_neg hc] at h ⊢
      match j, h with
      | 0, h => cases h; exact List.mem_cons_self
      | j + 1, h =>
        have := mEntry_at base tb t (i + 1) j v h
        rw [show i + (j + 1) = i + 1 + j by omega]
        exact List.mem_cons_of_mem _ this
theorem mEntry_len (base : Nat) (tb : Nat → Nat) : ∀ as : List mV, (lg_sl (as.map (mC base tb))).length = (mEntry as).length
  | [] => rfl
  | a :: t => by
    have ih := mEntry_len base tb t
    unfold lg_sl at ih ⊢
    rw [List.map_cons, List.flatMap_cons, List.length_append, ih]
    show _ = (if mCat a = 2 then some a :: none :: mEntry t else some a :: mEntry t).length
    rw [mC_cat]
    by_cases hc : mCat a = 2
    · rw [if_pos hc, if_pos hc]; simp only [List.length_cons, List.length_nil]; omega
    · rw [if_neg hc, if_neg hc]; simp only [List.length_cons, List.length_nil]; omega
theorem mCtr_of {M : mM} {d mc ms : Nat} {as : List mV} {g : mS} {Qc : Option mV → mS → Prop} (hpl : plainName (mName M).cls = true) (hdec : ∀ q ∈ mTab M, decode (mBytes M) q.1 = .ok q.2) (hlen : (mEntry as).length ≤ mNL M) (hsc : mScr M = none)
    (k : mX M d Qc mc ms 0 (mEntry as ++ List.replicate (mNL M - (mEntry as).length) none) [] g) : mCtr M d mc ms as g Qc := by
  intro l base tb dC dI
  refine Met.ofW (cc := mBytes M) (maxL := mNL M) (ret := mRet M) hpl rfl ?_
  intro p e s m args below meth c s₁ B hml hv
  obtain ⟨rfl, hW, hH⟩ := hv
  have hts := atoms_spec (ws := mWords M) B.pre
  have hown : s.vm.findClass (mName M).cls = some m.cls := findClass_of_methodNamed B.named
  have hin : meth.name = (mName M).name := (name_of_methodNamed B.named B.method).1
  have hlocks := B.notSynchronized
  have hl := lv_entry (as.map (mC base tb)) (n := mNL M) (by rw [mEntry_len]; exact hlen)
  rw [lg_entry_eq]
  generalize (lg_sl (as.map (mC base tb)) ++ List.replicate (mNL M - (lg_sl (as.map (mC base tb))).length) Slot.unset).toArray = ls at hl ⊢
  have hb : base ≤ s.heap.size := by rw [hH.1]; omega
  refine k p l e (headSpec (mWords M) (mRoom d mc ms)).room s m _ below meth c _ base tb dC dI ⟨B.exec, B.bytes, hml, hown, fun w hw => hts w (List.mem_cons_of_mem _ hw), Nat.le_refl _, Nat.le_refl _, hW, hb, hdec, hin, fun q hq => by rw [hsc] at hq; cases hq⟩ ?_ s.heap [] 0 0 ls hH va_S.rf ⟨hl.1, hl.2.1, fun i v hi => ?_⟩ (by show 0 + mc ≤ mc; omega) (by show 0 + ms ≤ ms; omega)
  · intro v g' H locs cells slots pc i ls' hq hrok hdg hH' hS hc hs
    refine W.widen (k := mc) (n := ms) hc hs ?_
    have fin : ∀ t : State, t.heap = H → s.WarmedH t.vm → mQ base tb dC dI Qc (as.map (mC base tb)).toArray s (.returned (v.map (mC base tb))) t := fun t ht hWt =>
      ⟨⟨v, g', rfl, hq, (mWs.moved hWt hW).kept (fun a ha hna => by rw [ht]; exact hS.2.1 a ha hna), by rw [ht]; exact hH'.moved hWt.alike⟩, hS.F ht⟩
    match v, hrok, fin with
    | none, hrok, fin =>
      obtain ⟨h1, rfl⟩ := hrok
      exact W.vret B.exec B.bytes (by rw [B.returns]; exact h1) fin hS.2.2 hdg
    | some (.inl z), hrok, fin =>
      obtain ⟨rfl, h1⟩ := hrok
      rcases h1 with h1 | ⟨h1, hz⟩
      · exact W.iret B.exec B.bytes (by rw [B.returns]; exact h1) fin hS.2.2 hdg
      · exact W.zret B.exec B.bytes (by rw [B.returns]; exact h1) (mNarZ hz) fin hS.2.2 hdg
    | some (.inr (.inl b)), hrok, fin =>
      obtain ⟨rfl, h1⟩ := hrok
      exact W.lret B.exec B.bytes (by rw [B.returns]; exact h1) fin hS.2.2 hdg
    | some (.inr (.inr (.inr (.inl x)))), hrok, fin =>
      obtain ⟨rfl, h1⟩ := hrok
      exact W.fret B.exec B.bytes (by rw [B.returns]; exact h1) fin hS.2.2 hdg
    | some (.inr (.inr (.inl r))), hrok, fin => exact hrok.elim
    | some (.inr (.inr (.inr (.inr r)))), hrok, fin => exact hrok.elim
  · have hi' : (mEntry as)[i]? = some (some v) := by
      rw [List.getElem?_append] at hi
      split at hi
      · exact hi
      · rw [List.getElem?_replicate] at hi
        split at hi <;> cases hi
    have h0 := mEntry_at base tb as 0 i v hi'
    rw [Nat.zero_add] at h0
    exact hl.2.2 _ h0
/-- what the tables say of a method that is called: by number of its arguments -/
def mOk (y : mM) (n : Nat) : Prop := Cond.code (mName y) (mBytes y) (mNL y) (mRet y) ∈ mGood ∧ Cond.initialized (mName y).cls ∈ mGood ∧ ((mName y).cls ≠ "java/lang/invoke/MethodHandle" ∧ (mName y).cls ≠ "java/lang/invoke/VarHandle" ∧ (parseMethodDescriptor (mName y).desc).map (fun d => d.parameters.length) = some n) ∧ mNL y ≤ 11
theorem mOiI : Cond.instanceMethod Lib.objectInit ∈ mGood := by decide +kernel
theorem mOiC : Cond.code Lib.objectInit ⟨#[0xb1]⟩ 1 none ∈ mGood := by decide +kernel
theorem mMx_max : Cond.static Lib.Math.max.name ∈ mGood := by decide +kernel
theorem mMx_min : Cond.static Lib.Math.min.name ∈ mGood := by decide +kernel
theorem mMi : Cond.initialized "java/lang/Math" ∈ mGood := by decide +kernel
theorem mMc_max : Cond.code Lib.Math.max.name Lib.Math.max.code 2 (some .int) ∈ mGood := by decide +kernel
theorem mMc_min : Cond.code Lib.Math.min.name Lib.Math.min.code 2 (some .int) ∈ mGood := by decide +kernel
theorem mGood_all : mGood.all goodWord = true := List.all_eq_true.mpr fun _ h => (List.mem_filter.mp h).2
section MCALL
variable {p : Program} {l : Launch} {e : Env} {R : Room} {s : State} {m : MethodId} {args : Array Value} {below : List Frame} {meth : Method} {c : Code} {H : Heap} {locs : List Loc} {cells slots : Nat} {Q : State → Prop}
variable {base : Nat} {tb : Nat → Nat} {dC : Nat → ClassId} {dI : Nat → Nat → Nat}
theorem mGoodIn {y : mM} {n : Nat} (h : mOk y n) : GoodIn mGood (mWords y) := by
  intro w hw
  have h1 : w ∈ mGood := by
    rcases List.mem_cons.mp hw with rfl | h1
    · exact h.1
    · exact h1
  exact ⟨h1, good_of_word (List.mem_filter.mp h1).2⟩
theorem mRun {pc mc ms : Nat} {ls : Array Slot} {st0 rest : List Value} {a : Array Value} {Qc : Option mV → mS → Prop} (hr : va_Run p l e R s m args below meth c H locs cells slots mc ms (F0 m pc ls st0) rest (mQ base tb dC dI Qc a) (mA base)) (hS : va_S (mA base) s.heap H locs)
    (kk : ∀ (v : Option mV) (g' : mS) (H1 : Heap) (locs1 : List Loc), Qc v g' → mHp base dC dI s g' H1 → va_S (mA base) s.heap H1 locs1 → W p l e R s m args below meth c H1 locs1 (cells + mc) (slots + ms) Q (F0 m (pc + 3) ls ((v.map (mC base tb)).toList ++ rest))) : W p l e R s m args below meth c H locs cells slots Q (F0 m pc ls st0) := by
  intro T hT X
  obtain ⟨v, st₀, t, T', L, h0, X', hL, e1, e2, ⟨⟨w, g', hv, hp, -, hb⟩, hz, hk⟩, st⟩ := hr T hT X
  cases hv
  rw [h0] at hz hk
  have hal : s.vm.Alike t.vm := by rw [← e2]; exact X'.warmed.alike
  obtain ⟨t2, a1, b1⟩ := kk w g' T'.heap (locs ++ L) hp (by rw [e1]; exact hb.moved hal.symm)
    ⟨Nat.le_trans hS.1 (by rw [e1]; exact hz), fun q h1 h2 => by rw [e1, hk q (Nat.lt_of_lt_of_le h1 hS.1) h2]; exact hS.2.1 q h1 h2, fun q hq => by
      rcases List.mem_append.mp hq with h | h
      · exact hS.2.2 q h
      · exact hL q h⟩ T' rfl X'
  exact ⟨t2, st t2 a1, b1⟩
end MCALL
theorem mCatS (base : Nat) (tb : Nat → Nat) (S : List mV) : ((S.map (mC base tb)).map fun v => v.category) = S.map mCat := by
  rw [List.map_map]
  exact List.map_congr_left fun v _ => mC_cat base tb v
theorem mRevS (base : Nat) (tb : Nat → Nat) (as : List mV) (b : mV) (S T : List mV) (h : T = as.reverse ++ b :: S) : T.map (mC base tb) = (as.map (mC base tb)).reverse ++ mC base tb b :: S.map (mC base tb) := by
  rw [h, List.map_append, List.map_reverse, List.map_cons]
theorem mRevS0 (base : Nat) (tb : Nat → Nat) (as : List mV) (S T : List mV) (h : T = as.reverse ++ S) : T.map (mC base tb) = (as.map (mC base tb)).reverse ++ S.map (mC base tb) := by
  rw [h, List.map_append, List.map_reverse]
theorem mTailS (base : Nat) (tb : Nat → Nat) (v : Option mV) (S : List mV) : (v.map (mC base tb)).toList ++ S.map (mC base tb) = (v.toList ++ S).map (mC base tb) := by
  cases v <;> rfl
section MCX
variable {M : mM} {d cb sb pc : Nat} {Qa : Option mV → mS → Prop} {L : List (Option mV)} {S : List mV} {g : mS}
theorem x_callV (j : Nat) {idx d' mc ms cb' sb' n : Nat} {as : List mV} {T : List mV} {Qc : Option mV → mS → Prop} (y : mM) {o ci : Nat} {q : vw_C} (hy : mCtr y d' mc ms (vR (some o) :: as) g Qc) (hd : (mTab M)[j]? = some (pc, .invokevirtual idx, 3)) (hok : mOk y n) (ho : o < sN g) (hk : sK g o = .inl ci) (hq : vwCl[ci]? = some q) (hqc : q.1 = (mName y).cls) (hl : Cond.methodLink (mName M).cls idx (mName y) ∈ mGood) (hin : Cond.instanceMethod (mName y) ∈ mGood) (hse : Cond.selects (mName y).cls (mName y) (mName y) ∈ mGood) (hn : as.length = n) (hdd : d' < d) (hT : T = as.reverse ++ vR (some o) :: S) (h8 : (S.map mCat).sum ≤ 8) (hcb : cb = cb' + mc) (hsb : sb = sb' + ms)
    (kk : ∀ (v : Option mV) (g' : mS), Qc v g' → mX M d Qa cb' sb' (pc + 3) L (v.toList ++ S) g') : mX M d Qa cb sb pc L T g := by
  intro p l e R s m args below meth c Q base tb dC dI F E H locs cells slots ls hH hS hL hc hs
  subst hcb; subst hsb
  have hWs := F.2.2.2.2.2.2.2.1
  have hfr := F.2.2.2.2.2.1
  have hlo := F.2.2.2.2.2.2.1
  have hW' : ∀ U : State, U.heap = H → s.WarmedH U.vm → mW base tb dC dI g U := fun U hU hWU => ⟨(mWs.moved hWU hWs).kept (fun a ha hna => by rw [hU]; exact hS.2.1 a ha hna), by rw [hU]; exact hH.moved hWU.alike⟩
  have hroom : (mRoom d' mc ms).frames + 1 ≤ R.frames ∧ 8 + (mNL y + 11) + (mRoom d' mc ms).locals ≤ R.locals := ⟨by show d' + 1 ≤ _; omega, by show 8 + (mNL y + 11) + 30 * d' ≤ _; have := hok.2.2.2; omega⟩
  have hS8 : ((S.map (mC base tb)).map fun v => v.category).sum ≤ 8 := by rw [mCatS]; exact h8
  rw [mRevS base tb as _ S T hT]
  refine mRun (va_runV (C := (mName y).cls) ⟨F.1, F.2.1, F.2.2.1, F.2.2.2.1, F.2.2.2.2.1⟩ (hy l base tb dC dI) ⟨callB_of n F.2.2.2.2.1 (mGoodIn hok) rfl rfl rfl (F.go hok.2.1) (F.go hl) hok.2.2.1 hroom, F.go hin, F.go hse⟩ ⟨mBlind, (by
      obtain ⟨q', hq', cell, q1, q2, q3, -⟩ := hH.obj ho hk
      exact ⟨cell, q1, by rw [q3]; rfl, by rw [q2, ← hqc]; exact (hWs.1.1 ci q hq).2.1⟩), fun U hU hWU => ⟨rfl, hW' U hU hWU⟩⟩ rfl (by rw [List.length_map]; exact hn) hL.1 rfl (lv_room hS8) (F.dec hd) ⟨by omega, by omega⟩) hS (fun v g' H1 locs1 hq hH1 hS1 => ?_)
  rw [mTailS]
  exact kk v g' hq p l e R s m args below meth c Q base tb dC dI F E H1 locs1 _ _ ls hH1 hS1 hL (by omega) (by omega)
theorem x_callS (j : Nat) {idx d' mc ms cb' sb' n : Nat} {as : List mV} {T : List mV} {Qc : Option mV → mS → Prop} (y : mM) (hy : mCtr y d' mc ms (as) g Qc) (hd : (mTab M)[j]? = some (pc, .invokestatic idx, 3)) (hok : mOk y n) (hl : Cond.methodLink (mName M).cls idx (mName y) ∈ mGood) (hst : Cond.static (mName y) ∈ mGood) (hn : as.length = n) (hdd : d' < d) (hT : T = as.reverse ++ S) (h8 : (S.map mCat).sum ≤ 8) (hcb : cb = cb' + mc) (hsb : sb = sb' + ms)
    (kk : ∀ (v : Option mV) (g' : mS), Qc v g' → mX M d Qa cb' sb' (pc + 3) L (v.toList ++ S) g') : mX M d Qa cb sb pc L T g := by
  intro p l e R s m args below meth c Q base tb dC dI F E H locs cells slots ls hH hS hL hc hs
  subst hcb; subst hsb
  have hWs := F.2.2.2.2.2.2.2.1
  have hfr := F.2.2.2.2.2.1
  have hlo := F.2.2.2.2.2.2.1
  have hW' : ∀ U : State, U.heap = H → s.WarmedH U.vm → mW base tb dC dI g U := fun U hU hWU => ⟨(mWs.moved hWU hWs).kept (fun a ha hna => by rw [hU]; exact hS.2.1 a ha hna), by rw [hU]; exact hH.moved hWU.alike⟩
  have hroom : (mRoom d' mc ms).frames + 1 ≤ R.frames ∧ 8 + (mNL y + 11) + (mRoom d' mc ms).locals ≤ R.locals := ⟨by show d' + 1 ≤ _; omega, by show 8 + (mNL y + 11) + 30 * d' ≤ _; have := hok.2.2.2; omega⟩
  have hS8 : ((S.map (mC base tb)).map fun v => v.category).sum ≤ 8 := by rw [mCatS]; exact h8
  rw [mRevS0 base tb as S T hT]
  refine mRun (va_runS ⟨F.1, F.2.1, F.2.2.1, F.2.2.2.1, F.2.2.2.2.1⟩ (hy l base tb dC dI) ⟨callB_of n F.2.2.2.2.1 (mGoodIn hok) rfl rfl rfl (F.go hok.2.1) (F.go hl) hok.2.2.1 hroom, F.go hst⟩ ⟨mBlind, fun U hU hWU => ⟨rfl, hW' U hU hWU⟩⟩ rfl (by rw [List.length_map]; exact hn) hL.1 rfl (lv_room hS8) (F.dec hd) ⟨by omega, by omega⟩) hS (fun v g' H1 locs1 hq hH1 hS1 => ?_)
  rw [mTailS]
  exact kk v g' hq p l e R s m args below meth c Q base tb dC dI F E H1 locs1 _ _ ls hH1 hS1 hL (by omega) (by omega)
theorem x_callSN (j : Nat) {idx d' mc ms cb' sb' n : Nat} {as : List mV} {T : List mV} {Qc : Option mV → mS → Prop} (y : mM) (hy : mCtr y d' mc ms (as) g Qc) (hd : (mTab M)[j]? = some (pc, .invokestatic idx, 3)) (hok : mOk y n) (hl : Cond.methodLinkNest (mName M).cls idx (mName y) "ChoirBook" ∈ mNest) (hst : Cond.static (mName y) ∈ mGood) (hn : as.length = n) (hdd : d' < d) (hT : T = as.reverse ++ S) (h8 : (S.map mCat).sum ≤ 8) (hcb : cb = cb' + mc) (hsb : sb = sb' + ms)
    (kk : ∀ (v : Option mV) (g' : mS), Qc v g' → mX M d Qa cb' sb' (pc + 3) L (v.toList ++ S) g') : mX M d Qa cb sb pc L T g := by
  intro p l e R s m args below meth c Q base tb dC dI F E H locs cells slots ls hH hS hL hc hs
  subst hcb; subst hsb
  have hWs := F.2.2.2.2.2.2.2.1
  have hfr := F.2.2.2.2.2.1
  have hlo := F.2.2.2.2.2.2.1
  have hW' : ∀ U : State, U.heap = H → s.WarmedH U.vm → mW base tb dC dI g U := fun U hU hWU => ⟨(mWs.moved hWU hWs).kept (fun a ha hna => by rw [hU]; exact hS.2.1 a ha hna), by rw [hU]; exact hH.moved hWU.alike⟩
  have hroom : (mRoom d' mc ms).frames + 1 ≤ R.frames ∧ 8 + (mNL y + 11) + (mRoom d' mc ms).locals ≤ R.locals := ⟨by show d' + 1 ≤ _; omega, by show 8 + (mNL y + 11) + 30 * d' ≤ _; have := hok.2.2.2; omega⟩
  have hS8 : ((S.map (mC base tb)).map fun v => v.category).sum ≤ 8 := by rw [mCatS]; exact h8
  rw [mRevS0 base tb as S T hT]
  refine mRun (va_runSN ⟨F.1, F.2.1, F.2.2.1, F.2.2.2.1, F.2.2.2.2.1⟩ (hy l base tb dC dI) ⟨va_cnB n F.2.2.2.2.1 (mGoodIn hok) rfl rfl rfl (hWs.2.2.1 _ hl) (F.go hok.2.1) hok.2.2.1 hroom, F.go hst, trivial⟩ ⟨mBlind, fun U hU hWU => ⟨rfl, hW' U hU hWU⟩⟩ rfl (by rw [List.length_map]; exact hn) hL.1 rfl (lv_room hS8) (F.dec hd) ⟨by omega, by omega⟩) hS (fun v g' H1 locs1 hq hH1 hS1 => ?_)
  rw [mTailS]
  exact kk v g' hq p l e R s m args below meth c Q base tb dC dI F E H1 locs1 _ _ ls hH1 hS1 hL (by omega) (by omega)
theorem x_callI (j : Nat) {idx d' mc ms cb' sb' n : Nat} {as : List mV} {T : List mV} {Qc : Option mV → mS → Prop} (y : mM) {o : Nat} (hy : mCtr y d' mc ms (vR (some o) :: as) g Qc) (hd : (mTab M)[j]? = some (pc, .invokespecial idx, 3)) (hok : mOk y n) (hret : mRet y = none) (hnm : (mName y).name = "<init>") (hl : Cond.methodLink (mName M).cls idx (mName y) ∈ mGood) (hin : Cond.instanceMethod (mName y) ∈ mGood) (hn : as.length = n) (hdd : d' < d) (hT : T = as.reverse ++ vR (some o) :: S) (h8 : (S.map mCat).sum ≤ 8) (hcb : cb = cb' + mc) (hsb : sb = sb' + ms)
    (kk : ∀ (v : Option mV) (g' : mS), Qc v g' → mX M d Qa cb' sb' (pc + 3) L (v.toList ++ S) g') : mX M d Qa cb sb pc L T g := by
  intro p l e R s m args below meth c Q base tb dC dI F E H locs cells slots ls hH hS hL hc hs
  subst hcb; subst hsb
  have hWs := F.2.2.2.2.2.2.2.1
  have hfr := F.2.2.2.2.2.1
  have hlo := F.2.2.2.2.2.2.1
  have hW' : ∀ U : State, U.heap = H → s.WarmedH U.vm → mW base tb dC dI g U := fun U hU hWU => ⟨(mWs.moved hWU hWs).kept (fun a ha hna => by rw [hU]; exact hS.2.1 a ha hna), by rw [hU]; exact hH.moved hWU.alike⟩
  have hroom : (mRoom d' mc ms).frames + 1 ≤ R.frames ∧ 8 + (mNL y + 11) + (mRoom d' mc ms).locals ≤ R.locals := ⟨by show d' + 1 ≤ _; omega, by show 8 + (mNL y + 11) + 30 * d' ≤ _; have := hok.2.2.2; omega⟩
  have hS8 : ((S.map (mC base tb)).map fun v => v.category).sum ≤ 8 := by rw [mCatS]; exact h8
  rw [mRevS base tb as _ S T hT]
  refine mRun (va_runI ⟨F.1, F.2.1, F.2.2.1, F.2.2.2.1, F.2.2.2.2.1⟩ (hy l base tb dC dI) ⟨hret ▸ callB_of n F.2.2.2.2.1 (mGoodIn hok) rfl rfl rfl (F.go hok.2.1) (F.go hl) hok.2.2.1 hroom, hnm, F.go hin⟩ ⟨mBlind, fun U hU hWU => ⟨rfl, hW' U hU hWU⟩⟩ rfl (by rw [List.length_map]; exact hn) hL.1 rfl (lv_room hS8) (F.dec hd) ⟨by omega, by omega⟩) hS (fun v g' H1 locs1 hq hH1 hS1 => ?_)
  rw [mTailS]
  exact kk v g' hq p l e R s m args below meth c Q base tb dC dI F E H1 locs1 _ _ ls hH1 hS1 hL (by omega) (by omega)
theorem x_callIN (j : Nat) {idx d' mc ms cb' sb' n : Nat} {as : List mV} {T : List mV} {Qc : Option mV → mS → Prop} (y : mM) {o : Nat} (hy : mCtr y d' mc ms (vR (some o) :: as) g Qc) (hd : (mTab M)[j]? = some (pc, .invokespecial idx, 3)) (hok : mOk y n) (hret : mRet y = none) (hnm : (mName y).name = "<init>") (hl : Cond.methodLinkNest (mName M).cls idx (mName y) "ChoirBook" ∈ mNest) (hin : Cond.instanceMethod (mName y) ∈ mGood) (hn : as.length = n) (hdd : d' < d) (hT : T = as.reverse ++ vR (some o) :: S) (h8 : (S.map mCat).sum ≤ 8) (hcb : cb = cb' + mc) (hsb : sb = sb' + ms)
    (kk : ∀ (v : Option mV) (g' : mS), Qc v g' → mX M d Qa cb' sb' (pc + 3) L (v.toList ++ S) g') : mX M d Qa cb sb pc L T g := by
  intro p l e R s m args below meth c Q base tb dC dI F E H locs cells slots ls hH hS hL hc hs
  subst hcb; subst hsb
  have hWs := F.2.2.2.2.2.2.2.1
  have hfr := F.2.2.2.2.2.1
  have hlo := F.2.2.2.2.2.2.1
  have hW' : ∀ U : State, U.heap = H → s.WarmedH U.vm → mW base tb dC dI g U := fun U hU hWU => ⟨(mWs.moved hWU hWs).kept (fun a ha hna => by rw [hU]; exact hS.2.1 a ha hna), by rw [hU]; exact hH.moved hWU.alike⟩
  have hroom : (mRoom d' mc ms).frames + 1 ≤ R.frames ∧ 8 + (mNL y + 11) + (mRoom d' mc ms).locals ≤ R.locals := ⟨by show d' + 1 ≤ _; omega, by show 8 + (mNL y + 11) + 30 * d' ≤ _; have := hok.2.2.2; omega⟩
  have hS8 : ((S.map (mC base tb)).map fun v => v.category).sum ≤ 8 := by rw [mCatS]; exact h8
  rw [mRevS base tb as _ S T hT]
  refine mRun (va_runIN ⟨F.1, F.2.1, F.2.2.1, F.2.2.2.1, F.2.2.2.2.1⟩ (hy l base tb dC dI) ⟨hret ▸ va_cnB n F.2.2.2.2.1 (mGoodIn hok) rfl rfl rfl (hWs.2.2.1 _ hl) (F.go hok.2.1) hok.2.2.1 hroom, hnm, F.go hin⟩ ⟨mBlind, fun U hU hWU => ⟨rfl, hW' U hU hWU⟩⟩ rfl (by rw [List.length_map]; exact hn) hL.1 rfl (lv_room hS8) (F.dec hd) ⟨by omega, by omega⟩) hS (fun v g' H1 locs1 hq hH1 hS1 => ?_)
  rw [mTailS]
  exact kk v g' hq p l e R s m args below meth c Q base tb dC dI F E H1 locs1 _ _ ls hH1 hS1 hL (by omega) (by omega)
theorem x_objInit (j : Nat) {idx o : Nat} (hd : (mTab M)[j]? = some (pc, .invokespecial idx, 3)) (hl : Cond.methodLink (mName M).cls idx Lib.objectInit ∈ mGood) (hd1 : 1 ≤ d) (h8 : (S.map mCat).sum ≤ 8) (kk : mX M d Qa cb sb (pc + 3) L S g) : mX M d Qa cb sb pc L (vR (some o) :: S) g := by
  intro p l e R s m args below meth c Q base tb dC dI F E H locs cells slots ls hH hS hL hc hs
  have hS8 : ((S.map (mC base tb)).map fun v => v.category).sum ≤ 8 := by rw [mCatS]; exact h8
  have hfr := F.2.2.2.2.2.1
  have hlo := F.2.2.2.2.2.2.1
  exact W.objInit F.1 F.2.1 F.2.2.2.1 (F.go hl) (F.go mOiI) (F.go mOiC) rfl (by rw [F.2.2.1]; exact hL.1) rfl (F.dec hd) (by omega) (by show 2 * 0 + _ + 12 ≤ _; omega) (kk p l e R s m args below meth c Q base tb dC dI F E H locs cells slots ls hH hS hL hc hs)
theorem x_mmax (j : Nat) {idx : Nat} {a b r : Int} (hd : (mTab M)[j]? = some (pc, .invokestatic idx, 3)) (hl : Cond.methodLink (mName M).cls idx Lib.Math.max.name ∈ mGood) (hr : -2147483648 ≤ a ∧ a < 2147483648 ∧ -2147483648 ≤ b ∧ b < 2147483648) (hz : max a b = r) (hd1 : 1 ≤ d) (h8 : (S.map mCat).sum ≤ 8) (kk : mX M d Qa cb sb (pc + 3) L (vI r :: S) g) : mX M d Qa cb sb pc L (vI b :: vI a :: S) g := by
  intro p l e R s m args below meth c Q base tb dC dI F E H locs cells slots ls hH hS hL hc hs
  have hS8 : ((S.map (mC base tb)).map fun v => v.category).sum ≤ 8 := by rw [mCatS]; exact h8
  have hfr := F.2.2.2.2.2.1
  have hlo := F.2.2.2.2.2.2.1
  refine va_mmax (x := Int32.ofInt a) (y := Int32.ofInt b) F.1 F.2.1 (by rw [F.2.2.1]; exact hL.1.symm) F.2.2.2.1 (F.go hl) (F.go mMx_max) (F.go mMi) (F.go mMc_max) (by omega) (by omega) (by omega) (by omega) (F.dec hd) ?_
  have ha : mR a := ⟨hr.1, hr.2.1⟩
  have hb : mR b := ⟨hr.2.2.1, hr.2.2.2⟩
  have hv : (if Int32.ofInt a < Int32.ofInt b then Int32.ofInt b else Int32.ofInt a) = Int32.ofInt r := by
    rw [← hz]
    split
    · rename_i h
      have h := (mI_lt ha hb).mp h
      congr 1
      omega
    · rename_i h
      have h := mt (mI_lt ha hb).mpr h
      congr 1
      omega
  rw [hv]
  exact kk p l e R s m args below meth c Q base tb dC dI F E H locs cells slots ls hH hS hL hc hs
theorem x_mmin (j : Nat) {idx : Nat} {a b r : Int} (hd : (mTab M)[j]? = some (pc, .invokestatic idx, 3)) (hl : Cond.methodLink (mName M).cls idx Lib.Math.min.name ∈ mGood) (hr : -2147483648 ≤ a ∧ a < 2147483648 ∧ -2147483648 ≤ b ∧ b < 2147483648) (hz : min a b = r) (hd1 : 1 ≤ d) (h8 : (S.map mCat).sum ≤ 8) (kk : mX M d Qa cb sb (pc + 3) L (vI r :: S) g) : mX M d Qa cb sb pc L (vI b :: vI a :: S) g := by
  intro p l e R s m args below meth c Q base tb dC dI F E H locs cells slots ls hH hS hL hc hs
  have hS8 : ((S.map (mC base tb)).map fun v => v.category).sum ≤ 8 := by rw [mCatS]; exact h8
  have hfr := F.2.2.2.2.2.1
  have hlo := F.2.2.2.2.2.2.1
  refine va_mmin (x := Int32.ofInt a) (y := Int32.ofInt b) F.1 F.2.1 (by rw [F.2.2.1]; exact hL.1.symm) F.2.2.2.1 (F.go hl) (F.go mMx_min) (F.go mMi) (F.go mMc_min) (by omega) (by omega) (by omega) (by omega) (F.dec hd) ?_
  have ha : mR a := ⟨hr.1, hr.2.1⟩
  have hb : mR b := ⟨hr.2.2.1, hr.2.2.2⟩
  have hv : (if Int32.ofInt b < Int32.ofInt a then Int32.ofInt b else Int32.ofInt a) = Int32.ofInt r := by
    rw [← hz]
    split
    · rename_i h
      have h := (mI_lt hb ha).mp h
      congr 1
      omega
    · rename_i h
      have h := mt (mI_lt hb ha).mpr h
      congr 1
      omega
  rw [hv]
  exact kk p l e R s m args below meth c Q base tb dC dI F E H locs cells slots ls hH hS hL hc hs
end MCX
end
section
/-! System.arraycopy of ints from the first place on; the script -/
theorem mAcN : Cond.native arraycopyName ∈ mGood := by decide +kernel
theorem mAcS : Cond.static arraycopyName ∈ mGood := by decide +kernel
theorem mAcI : Cond.initialized "java/lang/System" ∈ mGood := by decide +kernel
theorem mAcW : nativeFrameWords "java/lang/System" "arraycopy" 5 + 11 ≤ 20 := by decide +kernel
def mCp (f : Nat → Int → Int) (o0 o : Nat) (n : Int) : Nat → Int → Int := fun a b => if a = o ∧ 0 ≤ b ∧ b < n then f o0 b else f a b
section MCP
variable {M : mM} {d cb sb pc : Nat} {Qa : Option mV → mS → Prop} {L : List (Option mV)} {S : List mV} {g : mS}
set_option maxHeartbeats 4000000 in
theorem x_copyi (j : Nat) {idx o0 o n0 n1 : Nat} {n : Int} (hd : (mTab M)[j]? = some (pc, .invokestatic idx, 3)) (hl : Cond.methodLink (mName M).cls idx arraycopyName ∈ mGood) (ho0 : o0 < sN g) (hk0 : sK g o0 = .inr (0, n0)) (ho : o < sN g) (hk1 : sK g o = .inr (0, n1)) (hn : 0 ≤ n ∧ n ≤ n0 ∧ n ≤ n1 ∧ n < 2147483648) (hd1 : 1 ≤ d) (h8 : (S.map mCat).sum ≤ 8)
    {g' : mS} (hg : ((sN g, sK g, mCp (sI g) o0 o n, sL g, sR g) : mS) = g') (kk : mX M d Qa cb sb (pc + 3) L S g') : mX M d Qa cb sb pc L (vI n :: vI 0 :: vR (some o) :: vI 0 :: vR (some o0) :: S) g := by
  intro p l e R s m args below meth c Q base tb dC dI F E H locs cells slots ls hH hS hL hc hs
  subst hg
  obtain ⟨n', rfl⟩ : ∃ n' : Nat, n = (n' : Int) := ⟨n.toNat, by omega⟩
  have hS8 : ((S.map (mC base tb)).map fun v => v.category).sum ≤ 8 := by rw [mCatS]; exact h8
  have hfr := F.2.2.2.2.2.1
  have hlo := F.2.2.2.2.2.2.1
  obtain ⟨c0, r1, r2, q0⟩ := hH.arr ho0 hk0
  obtain ⟨c1, s1, s2, q1⟩ := hH.arr ho hk1
  obtain ⟨-, k0, hk0', cm0, hkk0⟩ := r1 n0 (fun k => mVal base 0 g o0 k)
  obtain ⟨-, k1, hk1', cm1, hkk1⟩ := s1 n1 (fun k => mVal base 0 g o k)
  have hnn : (Int32.ofInt (n' : Int)).toNatClampNeg = n' := mI_nat ⟨by omega, hn.2.2.2⟩ (by omega)
  have hz0 : (Int32.ofInt 0).toNatClampNeg = 0 := rfl
  have hni : (Int32.ofInt (n' : Int)).toInt = (n' : Int) := mI_to ⟨by omega, hn.2.2.2⟩
  have hzi : (Int32.ofInt 0).toInt = 0 := rfl
  have hneg : ¬ Int32.ofInt (n' : Int) < 0 := by rw [show (0 : Int32) = Int32.ofInt 0 from rfl, mI_lt ⟨by omega, hn.2.2.2⟩ mR0]; omega
  have hneg0 : ¬ Int32.ofInt 0 < 0 := by decide
  intro T hT X
  obtain ⟨vm', X', step⟩ := X.arraycopy F.1 F.2.2.2.1 (F.go hl) (F.go mAcN) (F.go mAcS) (F.go mAcI) (src := base + o0) (dst := base + o) (cs := arrV c0 n0 (fun k => .int (Int32.ofInt (sI g o0 (k : Int))))) (cd := arrV c1 n1 (fun k => .int (Int32.ofInt (sI g o (k : Int))))) (srcPos := Int32.ofInt 0) (destPos := Int32.ofInt 0) (n := Int32.ofInt (n' : Int)) (by rw [hT]; exact q0) (by rw [hT]; exact q1)
    (fun _ h => by cases h) (fun _ h => by cases h) (fun h => by cases h) (fun h => by cases h) hk0' hk1' hkk0 hkk1 (by rfl) hneg0 hneg0 hneg
    (by rw [hzi, hni, arrV_size]; omega)
    (by rw [hzi, hni, arrV_size]; omega)
    (fun vm₁ _ i hi => by
      rw [hnn] at hi
      have e : (arrV c0 n0 (fun k => .int (Int32.ofInt (sI g o0 (k : Int))))).slots.getD ((Int32.ofInt 0).toNatClampNeg + i) .null = .int (Int32.ofInt (sI g o0 (i : Int))) := by
        rw [hz0, Nat.zero_add, Array.getD_eq_getD_getElem?, arrV_read _ _ (by omega)]
        rfl
      refine ⟨?_, ?_⟩
      · rw [e]
        rfl
      · rw [e]
        exact trivial)
    (g := F0 m pc ls ((vI (n' : Int) :: vI 0 :: vR (some o) :: vI 0 :: vR (some o0) :: S).map (mC base tb))) rfl (by rw [F.2.2.1]; exact hL.1) (rest := S.map (mC base tb)) rfl (by rw [F.2.1]; exact F.dec hd) (by omega) (by show 2 * 0 + _ + _ ≤ _; have := mAcW; omega)
  have e1 : copied (arrV c0 n0 (fun k => .int (Int32.ofInt (sI g o0 (k : Int))))) (arrV c1 n1 (fun k => .int (Int32.ofInt (sI g o (k : Int))))) (Int32.ofInt 0) (Int32.ofInt 0) (Int32.ofInt (n' : Int)) = arrV c1 n1 (fun k => .int (va_cpy (fun k : Nat => Int32.ofInt (sI g o0 (k : Int))) (fun k : Nat => Int32.ofInt (sI g o (k : Int))) 0 0 n' k)) := by
    have := va_copied (fun z => Value.int z) c0 c1 (sp := 0) (dp := 0) (n := n') (n0 := n0) (n1 := n1) (fun k : Nat => Int32.ofInt (sI g o0 (k : Int))) (fun k : Nat => Int32.ofInt (sI g o (k : Int))) (by omega)
    unfold copied
    rw [hnn, hz0]
    exact this
  rw [e1] at X' step
  have hl1 : base + o < H.size := hH.lt ho
  generalize hcell : arrV c1 n1 (fun k => Value.int (va_cpy (fun k : Nat => Int32.ofInt (sI g o0 (k : Int))) (fun k : Nat => Int32.ofInt (sI g o (k : Int))) 0 0 n' k)) = cell at X' step
  have hheap : ((T.setVm vm').setCell (base + o) cell).heap = H.setIfInBounds (base + o) cell := by rw [← hT]; rfl
  have oq : ∀ q : Nat, q ≠ base + o → (H.setIfInBounds (base + o) cell)[q]? = H[q]? := fun q hq => by simp [Array.getElem?_setIfInBounds, Ne.symm hq]
  have e2 : (H.setIfInBounds (base + o) cell)[base + o]? = some cell := by simp [Array.getElem?_setIfInBounds, hl1]
  have hHp : mHp base dC dI s ((sN g, sK g, mCp (sI g) o0 o (n' : Int), sL g, sR g) : mS) (H.setIfInBounds (base + o) cell) := by
    refine ⟨by simp; exact hH.1, fun a ha => ?_⟩
    by_cases hao : a = o
    · subst hao
      unfold mCell
      have hk2 : sK ((sN g, sK g, mCp (sI g) o0 a (n' : Int), sL g, sR g) : mS) a = .inr (0, n1) := hk1
      rw [hk2]
      refine ⟨c1, s1, s2, ?_⟩
      rw [e2, ← hcell]
      congr 2
      funext k
      show _ = mVal base 0 _ _ _
      rw [mVal0]
      simp only [sI, mCp, va_cpy, mI, Nat.zero_le, true_and, Nat.zero_add, Nat.sub_zero]
      by_cases hkn : k < n'
      · rw [if_pos hkn, if_pos ⟨by omega, by omega⟩]
      · rw [if_neg hkn, if_neg (by omega)]
    · refine (hH.2 a ha).kept rfl (oq _ (by omega)) (fun bs cc b => ?_)
      match cc with
      | 0 => rw [mVal0, mVal0]; simp only [sI, mCp]; rw [if_neg (fun q => hao q.1)]
      | 1 => rfl
      | cc + 2 => rfl
  obtain ⟨t, a1, b1⟩ := kk p l e R s m args below meth c Q base tb dC dI F E (H.setIfInBounds (base + o) cell) _ cells slots ls hHp ⟨by simp; exact hS.1, fun q g1 g2 => by
      rw [oq q (fun e => g2 (by rw [e]; exact Nat.le_add_right _ _))]
      exact hS.2.1 q g1 g2, fun q hq => by
      rcases List.mem_append.mp hq with h | h
      · exact hS.2.2 q h
      · obtain ⟨z, -, hz⟩ := List.mem_map.mp h
        rw [← hz]
        exact Nat.le_add_right _ _⟩ hL hc hs _ hheap X'
  exact ⟨t, step t a1, b1⟩
theorem x_sld (j : Nat) {q : Nat × (Nat → Int32)} {i z : Int} (hsc : mScr M = some q) (hd : (mTab M)[j]? = some (pc, .iaload, 1)) (hi : 0 ≤ i ∧ i < q.1 ∧ i < 2147483648) (hz : (q.2 i.toNat).toInt = z) (kk : mX M d Qa cb sb (pc + 1) L (vI z :: S) g) : mX M d Qa cb sb pc L (vI i :: vT 4 :: S) g := by
  intro p l e R s m args below meth c Q base tb dC dI F E H locs cells slots ls hH hS hL hc hs
  have hX := F.2.2.2.2.2.2.2.2.2.2.2 q hsc
  have hin := mI_in (n := q.1) hi.1 hi.2.1 ⟨by omega, hi.2.2⟩
  have hnn := mI_nat (a := i) ⟨by omega, hi.2.2⟩ hi.1
  refine va_sld (i := Int32.ofInt i) F.1 F.2.1 hX.1 hX.2.1 hX.2.2 hS hin (F.dec hd) ?_
  rw [hnn, ← mI_of (q.2 i.toNat), hz]
  exact kk p l e R s m args below meth c Q base tb dC dI F E H locs cells slots ls hH hS hL hc hs
theorem x_slen (j : Nat) {q : Nat × (Nat → Int32)} (hsc : mScr M = some q) (hd : (mTab M)[j]? = some (pc, .arraylength, 1)) (kk : mX M d Qa cb sb (pc + 1) L (vI (q.1 : Int) :: S) g) : mX M d Qa cb sb pc L (vT 4 :: S) g := by
  intro p l e R s m args below meth c Q base tb dC dI F E H locs cells slots ls hH hS hL hc hs
  have hX := F.2.2.2.2.2.2.2.2.2.2.2 q hsc
  exact va_slen F.1 F.2.1 hX.1 hX.2.1 hX.2.2 hS (F.dec hd) (kk p l e R s m args below meth c Q base tb dC dI F E H locs cells slots ls hH hS hL hc hs)
end MCP
end
section
/-! the methods, and what the tables say of their fields and calls: by program -/
theorem mInD {w : Cond} (h : w ∈ lw_tbl) (g : goodWord w = true) : w ∈ mGood := List.mem_filter.mpr ⟨h, g⟩
def m_X0_init : mM := (yX0_init, cX0_init, 2, none, tb_X0_init, none)
def m_X0_copyFrom : mM := (yX0_copyFrom, cX0_copyFrom, 3, none, tb_X0_copyFrom, none)
def m_X0_has : mM := (yX0_has, cX0_has, 2, (some .boolean), tb_X0_has, none)
def m_X0_join : mM := (yX0_join, cX0_join, 3, none, tb_X0_join, none)
def m_X0_dismiss : mM := (yX0_dismiss, cX0_dismiss, 3, none, tb_X0_dismiss, none)
def m_X0_fits : mM := (yX0_fits, cX0_fits, 3, (some .boolean), tb_X0_fits, none)
def m_X0_fittingParts : mM := (yX0_fittingParts, cX0_fittingParts, 4, (some .int), tb_X0_fittingParts, none)
def m_X0_placed : mM := (yX0_placed, cX0_placed, 3, (some .int), tb_X0_placed, none)
def m_X0_absent : mM := (yX0_absent, cX0_absent, 3, (some .int), tb_X0_absent, none)
def m_X0_members : mM := (yX0_members, cX0_members, 4, (some .int), tb_X0_members, none)
def m_X0_strength : mM := (yX0_strength, cX0_strength, 4, (some .int), tb_X0_strength, none)
def m_X0_strengthPresent : mM := (yX0_strengthPresent, cX0_strengthPresent, 5, (some .int), tb_X0_strengthPresent, none)
def m_X0_covers : mM := (yX0_covers, cX0_covers, 2, (some .boolean), tb_X0_covers, none)
def m_X0_coveredParts : mM := (yX0_coveredParts, cX0_coveredParts, 3, (some .int), tb_X0_coveredParts, none)
def m_X0_rested : mM := (yX0_rested, cX0_rested, 2, (some .boolean), tb_X0_rested, none)
def m_X0_width : mM := (yX0_width, cX0_width, 1, (some .int), tb_X0_width, none)
def m_X0_rows : mM := (yX0_rows, cX0_rows, 2, (some .int), tb_X0_rows, none)
def m_X0_rowsBefore : mM := (yX0_rowsBefore, cX0_rowsBefore, 4, (some .int), tb_X0_rowsBefore, none)
def m_X0_seatedBefore : mM := (yX0_seatedBefore, cX0_seatedBefore, 6, (some .int), tb_X0_seatedBefore, none)
def m_X1_init : mM := (yX1_init, cX1_init, 2, none, tb_X1_init, none)
def m_X1_record : mM := (yX1_record, cX1_record, 2, none, tb_X1_record, none)
def m_X1_restore : mM := (yX1_restore, cX1_restore, 2, none, tb_X1_restore, none)
def m_X2_init : mM := (yX2_init, cX2_init, 1, none, tb_X2_init, none)
def m_X2_weigh : mM := (yX2_weigh, cX2_weigh, 5, none, tb_X2_weigh, none)
def m_X2_addVoice : mM := (yX2_addVoice, cX2_addVoice, 6, none, tb_X2_addVoice, none)
def m_X2_weighPairs : mM := (yX2_weighPairs, cX2_weighPairs, 7, none, tb_X2_weighPairs, none)
def m_X2_choose : mM := (yX2_choose, cX2_choose, 3, none, tb_X2_choose, none)
def m_X2_firstGoodPart : mM := (yX2_firstGoodPart, cX2_firstGoodPart, 3, (some .int), tb_X2_firstGoodPart, none)
def m_X2_canFinish : mM := (yX2_canFinish, cX2_canFinish, 6, (some .boolean), tb_X2_canFinish, none)
def m_X2_pairCanReach : mM := (yX2_pairCanReach, cX2_pairCanReach, 6, (some .boolean), tb_X2_pairCanReach, none)
def m_X3_init : mM := (yX3_init, cX3_init, 1, none, tb_X3_init, none)
def m_X3_readTests : mM := (yX3_readTests, cX3_readTests, 3, (some .boolean), tb_X3_readTests, none)
def m_X3_readAbsent : mM := (yX3_readAbsent, cX3_readAbsent, 3, (some .boolean), tb_X3_readAbsent, none)
def m_X3_read : mM := (yX3_read, cX3_read, 3, (some .boolean), tb_X3_read, none)
def m_X3_take : mM := (yX3_take, cX3_take, 4, (some .boolean), tb_X3_take, none)
def m_X3_inNumber : mM := (yX3_inNumber, cX3_inNumber, 1, (some .boolean), tb_X3_inNumber, none)
def m_X3_beginNumber : mM := (yX3_beginNumber, cX3_beginNumber, 3, none, tb_X3_beginNumber, none)
def m_X3_takeDigit : mM := (yX3_takeDigit, cX3_takeDigit, 3, (some .boolean), tb_X3_takeDigit, none)
def m_X3_takeBehindNumber : mM := (yX3_takeBehindNumber, cX3_takeBehindNumber, 3, (some .boolean), tb_X3_takeBehindNumber, none)
def m_X3_end : mM := (yX3_end, cX3_end, 2, (some .boolean), tb_X3_end, none)
def m_X3_numberStands : mM := (yX3_numberStands, cX3_numberStands, 1, (some .boolean), tb_X3_numberStands, none)
def m_X3_closeWord : mM := (yX3_closeWord, cX3_closeWord, 5, none, tb_X3_closeWord, none)
def m_X3_fail : mM := (yX3_fail, cX3_fail, 3, (some .boolean), tb_X3_fail, none)
def m_X4_init : mM := (yX4_init, cX4_init, 1, none, tb_X4_init, none)
def m_X4_plan : mM := (yX4_plan, cX4_plan, 3, none, tb_X4_plan, none)
def m_X4_findStandIns : mM := (yX4_findStandIns, cX4_findStandIns, 5, none, tb_X4_findStandIns, none)
def m_X4_canStandIn : mM := (yX4_canStandIn, cX4_canStandIn, 5, (some .boolean), tb_X4_canStandIn, none)
def m_X4_findSoloist : mM := (yX4_findSoloist, cX4_findSoloist, 7, (some .int), tb_X4_findSoloist, none)
def m_X4_happen : mM := (yX4_happen, cX4_happen, 4, (some .int), tb_X4_happen, none)
def m_X5_init : mM := (yX5_init, cX5_init, 1, none, tb_X5_init, none)
def m_X5_begin : mM := (yX5_begin, cX5_begin, 3, none, tb_X5_begin, none)
def m_X5_copyFrom : mM := (yX5_copyFrom, cX5_copyFrom, 2, none, tb_X5_copyFrom, none)
def m_X5_learn : mM := (yX5_learn, cX5_learn, 7, none, tb_X5_learn, none)
def m_X5_notesIn : mM := (yX5_notesIn, cX5_notesIn, 4, (some .int), tb_X5_notesIn, none)
def m_X5_sitsBefore : mM := (yX5_sitsBefore, cX5_sitsBefore, 3, (some .boolean), tb_X5_sitsBefore, none)
def m_X5_singsBefore : mM := (yX5_singsBefore, cX5_singsBefore, 2, (some .boolean), tb_X5_singsBefore, none)
def m_X6_init : mM := (yX6_init, cX6_init, 1, none, tb_X6_init, none)
def m_X6_addVoice : mM := (yX6_addVoice, cX6_addVoice, 11, none, tb_X6_addVoice, none)
def m_X6_evenest : mM := (yX6_evenest, cX6_evenest, 4, (some .int), tb_X6_evenest, none)
def m_X6_gives : mM := (yX6_gives, cX6_gives, 3, (some .boolean), tb_X6_gives, none)
def m_X6_reaches : mM := (yX6_reaches, cX6_reaches, 4, (some .boolean), tb_X6_reaches, none)
def m_X6_bits : mM := (yX6_bits, cX6_bits, 4, (some .long), tb_X6_bits, none)
def m_X7_init : mM := (yX7_init, cX7_init, 1, none, tb_X7_init, none)
def m_X8_init : mM := (yX8_init, cX8_init, 2, none, tb_X8_init, none)
def m_X8_add : mM := (yX8_add, cX8_add, 3, (some .int), tb_X8_add, none)
def m_X8_remove : mM := (yX8_remove, cX8_remove, 2, (some .int), tb_X8_remove, none)
def m_X8_set : mM := (yX8_set, cX8_set, 4, (some .int), tb_X8_set, none)
def m_X8_test : mM := (yX8_test, cX8_test, 3, (some .int), tb_X8_test, none)
def m_X8_place : mM := (yX8_place, cX8_place, 4, (some .int), tb_X8_place, none)
def m_X8_placeAll : mM := (yX8_placeAll, cX8_placeAll, 1, (some .int), tb_X8_placeAll, none)
def m_X8_attendance : mM := (yX8_attendance, cX8_attendance, 2, (some .int), tb_X8_attendance, none)
def m_X8_hold : mM := (yX8_hold, cX8_hold, 1, (some .int), tb_X8_hold, none)
def m_X8_undo : mM := (yX8_undo, cX8_undo, 1, (some .int), tb_X8_undo, none)
def m_X8_write : mM := (yX8_write, cX8_write, 2, (some .int), tb_X8_write, none)
def m_X8_wipe : mM := (yX8_wipe, cX8_wipe, 2, (some .int), tb_X8_wipe, none)
def m_X8_fault : mM := (yX8_fault, cX8_fault, 2, (some .int), tb_X8_fault, none)
def m_X8_told : mM := (yX8_told, cX8_told, 2, (some .int), tb_X8_told, none)
def m_X8_setting : mM := (yX8_setting, cX8_setting, 2, (some .int), tb_X8_setting, none)
def m_X8_singer : mM := (yX8_singer, cX8_singer, 4, (some .int), tb_X8_singer, none)
def m_X8_note : mM := (yX8_note, cX8_note, 4, (some .int), tb_X8_note, none)
def m_X8_overlap : mM := (yX8_overlap, cX8_overlap, 3, (some .int), tb_X8_overlap, none)
def m_X8_part : mM := (yX8_part, cX8_part, 3, (some .int), tb_X8_part, none)
def m_X8_seat : mM := (yX8_seat, cX8_seat, 6, (some .int), tb_X8_seat, none)
def m_X8_solo : mM := (yX8_solo, cX8_solo, 3, (some .int), tb_X8_solo, none)
def m_X8_mean : mM := (yX8_mean, cX8_mean, 3, (some .float), tb_X8_mean, none)
def m_X8_standIn : mM := (yX8_standIn, cX8_standIn, 2, (some .int), tb_X8_standIn, none)
def m_X8_passedOver : mM := (yX8_passedOver, cX8_passedOver, 3, (some .int), tb_X8_passedOver, none)
def m_X8_without : mM := (yX8_without, cX8_without, 2, (some .int), tb_X8_without, none)
def m_X8_keep : mM := (yX8_keep, cX8_keep, 2, (some .int), tb_X8_keep, none)
def m_X8_back : mM := (yX8_back, cX8_back, 2, (some .int), tb_X8_back, none)
def m_X8_isSetting : mM := (yX8_isSetting, cX8_isSetting, 1, (some .boolean), tb_X8_isSetting, none)
def m_X8_isPart : mM := (yX8_isPart, cX8_isPart, 1, (some .boolean), tb_X8_isPart, none)
def m_X8_isImage : mM := (yX8_isImage, cX8_isImage, 1, (some .boolean), tb_X8_isImage, none)
def m_X8_contains : mM := (yX8_contains, cX8_contains, 3, (some .boolean), tb_X8_contains, none)
def m_X9_init : mM := (yX9_init, cX9_init, 1, none, tb_X9_init, none)
def m_X9_isIn : mM := (yX9_isIn, cX9_isIn, 3, (some .boolean), tb_X9_isIn, none)
def m_X9_remember : mM := (yX9_remember, cX9_remember, 2, none, tb_X9_remember, none)
def m_X9_of : mM := (yX9_of, cX9_of, 3, (some .int), tb_X9_of, none)
def m_X9_put : mM := (yX9_put, cX9_put, 4, none, tb_X9_put, none)
def m_X9_isSinger : mM := (yX9_isSinger, cX9_isSinger, 2, (some .boolean), tb_X9_isSinger, none)
def m_X9_isPart : mM := (yX9_isPart, cX9_isPart, 1, (some .boolean), tb_X9_isPart, none)
def m_X9_findRange : mM := (yX9_findRange, cX9_findRange, 4, none, tb_X9_findRange, none)
def m_X9_overlapOf : mM := (yX9_overlapOf, cX9_overlapOf, 6, (some .int), tb_X9_overlapOf, none)
def m_X9_isFit : mM := (yX9_isFit, cX9_isFit, 3, (some .boolean), tb_X9_isFit, none)
def m_X9_fits : mM := (yX9_fits, cX9_fits, 4, (some .int), tb_X9_fits, none)
def m_X9_judge : mM := (yX9_judge, cX9_judge, 4, none, tb_X9_judge, none)
def m_X9_nextPart : mM := (yX9_nextPart, cX9_nextPart, 4, (some .int), tb_X9_nextPart, none)
def m_X9_change : mM := (yX9_change, cX9_change, 3, none, tb_X9_change, none)
def m_X9_findBest : mM := (yX9_findBest, cX9_findBest, 6, none, tb_X9_findBest, none)
def m_X9_placeAll : mM := (yX9_placeAll, cX9_placeAll, 2, (some .int), tb_X9_placeAll, none)
def m_X9_without : mM := (yX9_without, cX9_without, 2, (some .int), tb_X9_without, none)
def m_X9_presentStrength : mM := (yX9_presentStrength, cX9_presentStrength, 4, (some .int), tb_X9_presentStrength, none)
def m_X9_isFree : mM := (yX9_isFree, cX9_isFree, 4, (some .boolean), tb_X9_isFree, none)
def m_X9_findStandIns : mM := (yX9_findStandIns, cX9_findStandIns, 3, none, tb_X9_findStandIns, none)
def m_X9_isRested : mM := (yX9_isRested, cX9_isRested, 2, (some .boolean), tb_X9_isRested, none)
def m_X9_isBefore : mM := (yX9_isBefore, cX9_isBefore, 3, (some .boolean), tb_X9_isBefore, none)
def m_X9_findSolos : mM := (yX9_findSolos, cX9_findSolos, 3, none, tb_X9_findSolos, none)
def m_X9_hold : mM := (yX9_hold, cX9_hold, 3, (some .int), tb_X9_hold, none)
def m_X9_fails : mM := (yX9_fails, cX9_fails, 3, none, tb_X9_fails, none)
def m_X9_endsWell : mM := (yX9_endsWell, cX9_endsWell, 1, (some .boolean), tb_X9_endsWell, none)
def m_X9_readDigit : mM := (yX9_readDigit, cX9_readDigit, 2, none, tb_X9_readDigit, none)
def m_X9_readOther : mM := (yX9_readOther, cX9_readOther, 4, none, tb_X9_readOther, none)
def m_X9_hasFault : mM := (yX9_hasFault, cX9_hasFault, 3, (some .boolean), tb_X9_hasFault, none)
def m_X9_rangeSize : mM := (yX9_rangeSize, cX9_rangeSize, 2, (some .int), tb_X9_rangeSize, none)
def m_X9_test : mM := (yX9_test, cX9_test, 4, (some .int), tb_X9_test, none)
def m_X9_absent : mM := (yX9_absent, cX9_absent, 3, (some .int), tb_X9_absent, none)
def m_X9_attendance : mM := (yX9_attendance, cX9_attendance, 2, (some .int), tb_X9_attendance, none)
def m_X9_write : mM := (yX9_write, cX9_write, 2, (some .int), tb_X9_write, none)
def m_X9_wipe : mM := (yX9_wipe, cX9_wipe, 2, (some .int), tb_X9_wipe, none)
def m_X9_fault : mM := (yX9_fault, cX9_fault, 2, (some .int), tb_X9_fault, none)
def m_X9_add : mM := (yX9_add, cX9_add, 5, (some .int), tb_X9_add, none)
def m_X9_remove : mM := (yX9_remove, cX9_remove, 3, (some .int), tb_X9_remove, none)
def m_X9_isOf : mM := (yX9_isOf, cX9_isOf, 2, (some .boolean), tb_X9_isOf, none)
def m_X9_set : mM := (yX9_set, cX9_set, 4, (some .int), tb_X9_set, none)
def m_X9_place : mM := (yX9_place, cX9_place, 4, (some .int), tb_X9_place, none)
def m_X9_undo : mM := (yX9_undo, cX9_undo, 2, (some .int), tb_X9_undo, none)
def m_X9_placedIn : mM := (yX9_placedIn, cX9_placedIn, 4, (some .int), tb_X9_placedIn, none)
def m_X9_covered : mM := (yX9_covered, cX9_covered, 3, (some .int), tb_X9_covered, none)
def m_X9_told : mM := (yX9_told, cX9_told, 2, (some .int), tb_X9_told, none)
def m_X9_setting : mM := (yX9_setting, cX9_setting, 2, (some .int), tb_X9_setting, none)
def m_X9_singer : mM := (yX9_singer, cX9_singer, 3, (some .int), tb_X9_singer, none)
def m_X9_note : mM := (yX9_note, cX9_note, 3, (some .int), tb_X9_note, none)
def m_X9_overlap : mM := (yX9_overlap, cX9_overlap, 3, (some .int), tb_X9_overlap, none)
def m_X9_strengthOf : mM := (yX9_strengthOf, cX9_strengthOf, 4, (some .int), tb_X9_strengthOf, none)
def m_X9_rows : mM := (yX9_rows, cX9_rows, 2, (some .int), tb_X9_rows, none)
def m_X9_part : mM := (yX9_part, cX9_part, 3, (some .int), tb_X9_part, none)
def m_X9_seat : mM := (yX9_seat, cX9_seat, 7, (some .int), tb_X9_seat, none)
def m_X9_solo : mM := (yX9_solo, cX9_solo, 3, (some .int), tb_X9_solo, none)
def m_X9_mean : mM := (yX9_mean, cX9_mean, 3, (some .float), tb_X9_mean, none)
def m_X9_standIn : mM := (yX9_standIn, cX9_standIn, 2, (some .int), tb_X9_standIn, none)
def m_X9_passedOver : mM := (yX9_passedOver, cX9_passedOver, 3, (some .int), tb_X9_passedOver, none)
def m_X9_isImage : mM := (yX9_isImage, cX9_isImage, 1, (some .boolean), tb_X9_isImage, none)
def m_X9_keep : mM := (yX9_keep, cX9_keep, 3, (some .int), tb_X9_keep, none)
def m_X9_back : mM := (yX9_back, cX9_back, 3, (some .int), tb_X9_back, none)
def m_L_law (q : Nat × (Nat → Int32)) : mM := (yL_law, cL_law, 8, some .boolean, tb_L_law, some q)
theorem fl_X0_11 : mFL RX0 11 0 0 := ⟨_, rfl, by decide, mInD lt_fl_X0_11 rfl⟩
theorem fl_X0_18 : mFL RX0 18 0 1 := ⟨_, rfl, by decide, mInD lt_fl_X0_18 rfl⟩
theorem fl_X0_25 : mFL RX0 25 0 2 := ⟨_, rfl, by decide, mInD lt_fl_X0_25 rfl⟩
theorem fl_X0_28 : mFL RX0 28 0 3 := ⟨_, rfl, by decide, mInD lt_fl_X0_28 rfl⟩
theorem fl_X5_9 : mFL RX5 9 5 0 := ⟨_, rfl, by decide, mInD lt_fl_X5_9 rfl⟩
theorem fl_X5_15 : mFL RX5 15 5 1 := ⟨_, rfl, by decide, mInD lt_fl_X5_15 rfl⟩
theorem fl_X5_38 : mFL RX5 38 5 2 := ⟨_, rfl, by decide, mInD lt_fl_X5_38 rfl⟩
theorem fl_X5_42 : mFL RX5 42 5 3 := ⟨_, rfl, by decide, mInD lt_fl_X5_42 rfl⟩
theorem fl_X5_45 : mFL RX5 45 5 4 := ⟨_, rfl, by decide, mInD lt_fl_X5_45 rfl⟩
theorem fl_X5_48 : mFL RX5 48 5 5 := ⟨_, rfl, by decide, mInD lt_fl_X5_48 rfl⟩
theorem fl_X5_22 : mFL RX5 22 5 6 := ⟨_, rfl, by decide, mInD lt_fl_X5_22 rfl⟩
theorem fl_X5_25 : mFL RX5 25 5 7 := ⟨_, rfl, by decide, mInD lt_fl_X5_25 rfl⟩
theorem fl_X5_29 : mFL RX5 29 5 8 := ⟨_, rfl, by decide, mInD lt_fl_X5_29 rfl⟩
theorem fl_X5_32 : mFL RX5 32 5 9 := ⟨_, rfl, by decide, mInD lt_fl_X5_32 rfl⟩
theorem fl_X5_35 : mFL RX5 35 5 10 := ⟨_, rfl, by decide, mInD lt_fl_X5_35 rfl⟩
theorem fl_X0_31 : mFL RX0 31 0 4 := ⟨_, rfl, by decide, mInD lt_fl_X0_31 rfl⟩
theorem fl_X0_45 : mFL RX0 45 0 5 := ⟨_, rfl, by decide, mInD lt_fl_X0_45 rfl⟩
theorem fl_X0_48 : mFL RX0 48 0 6 := ⟨_, rfl, by decide, mInD lt_fl_X0_48 rfl⟩
theorem fl_X0_51 : mFL RX0 51 0 7 := ⟨_, rfl, by decide, mInD lt_fl_X0_51 rfl⟩
theorem fl_X0_73 : mFL RX0 73 5 6 := ⟨_, rfl, by decide, mInD lt_fl_X0_73 rfl⟩
theorem fl_X0_69 : mFL RX0 69 5 7 := ⟨_, rfl, by decide, mInD lt_fl_X0_69 rfl⟩
theorem fl_X0_76 : mFL RX0 76 5 0 := ⟨_, rfl, by decide, mInD lt_fl_X0_76 rfl⟩
theorem fl_X0_86 : mFL RX0 86 5 9 := ⟨_, rfl, by decide, mInD lt_fl_X0_86 rfl⟩
theorem fl_X1_11 : mFL RX1 11 1 0 := ⟨_, rfl, by decide, mInD lt_fl_X1_11 rfl⟩
theorem fl_X1_18 : mFL RX1 18 1 1 := ⟨_, rfl, by decide, mInD lt_fl_X1_18 rfl⟩
theorem fl_X1_22 : mFL RX1 22 1 2 := ⟨_, rfl, by decide, mInD lt_fl_X1_22 rfl⟩
theorem fl_X6_9 : mFL RX6 9 6 0 := ⟨_, rfl, by decide, mInD lt_fl_X6_9 rfl⟩
theorem fl_X6_15 : mFL RX6 15 6 1 := ⟨_, rfl, by decide, mInD lt_fl_X6_15 rfl⟩
theorem fl_X2_12 : mFL RX2 12 2 0 := ⟨_, rfl, by decide, mInD lt_fl_X2_12 rfl⟩
theorem fl_X2_18 : mFL RX2 18 2 1 := ⟨_, rfl, by decide, mInD lt_fl_X2_18 rfl⟩
theorem fl_X2_21 : mFL RX2 21 2 2 := ⟨_, rfl, by decide, mInD lt_fl_X2_21 rfl⟩
theorem fl_X2_25 : mFL RX2 25 2 3 := ⟨_, rfl, by decide, mInD lt_fl_X2_25 rfl⟩
theorem fl_X2_28 : mFL RX2 28 2 4 := ⟨_, rfl, by decide, mInD lt_fl_X2_28 rfl⟩
theorem fl_X2_31 : mFL RX2 31 2 5 := ⟨_, rfl, by decide, mInD lt_fl_X2_31 rfl⟩
theorem fl_X2_34 : mFL RX2 34 2 6 := ⟨_, rfl, by decide, mInD lt_fl_X2_34 rfl⟩
theorem fl_X2_37 : mFL RX2 37 2 7 := ⟨_, rfl, by decide, mInD lt_fl_X2_37 rfl⟩
theorem fl_X2_62 : mFL RX2 62 2 8 := ⟨_, rfl, by decide, mInD lt_fl_X2_62 rfl⟩
theorem fl_X2_65 : mFL RX2 65 2 9 := ⟨_, rfl, by decide, mInD lt_fl_X2_65 rfl⟩
theorem fl_X2_41 : mFL RX2 41 0 4 := ⟨_, rfl, by decide, mInD lt_fl_X2_41 rfl⟩
theorem fl_X2_50 : mFL RX2 50 0 0 := ⟨_, rfl, by decide, mInD lt_fl_X2_50 rfl⟩
theorem fl_X2_54 : mFL RX2 54 5 0 := ⟨_, rfl, by decide, mInD lt_fl_X2_54 rfl⟩
theorem fl_X2_91 : mFL RX2 91 5 6 := ⟨_, rfl, by decide, mInD lt_fl_X2_91 rfl⟩
theorem fl_X3_9 : mFL RX3 9 3 2 := ⟨_, rfl, by decide, mInD lt_fl_X3_9 rfl⟩
theorem fl_X3_15 : mFL RX3 15 3 3 := ⟨_, rfl, by decide, mInD lt_fl_X3_15 rfl⟩
theorem fl_X3_42 : mFL RX3 42 3 6 := ⟨_, rfl, by decide, mInD lt_fl_X3_42 rfl⟩
theorem fl_X3_82 : mFL RX3 82 3 8 := ⟨_, rfl, by decide, mInD lt_fl_X3_82 rfl⟩
theorem fl_X3_79 : mFL RX3 79 3 7 := ⟨_, rfl, by decide, mInD lt_fl_X3_79 rfl⟩
theorem fl_X3_31 : mFL RX3 31 3 4 := ⟨_, rfl, by decide, mInD lt_fl_X3_31 rfl⟩
theorem fl_X3_95 : mFL RX3 95 3 10 := ⟨_, rfl, by decide, mInD lt_fl_X3_95 rfl⟩
theorem fl_X3_24 : mFL RX3 24 3 0 := ⟨_, rfl, by decide, mInD lt_fl_X3_24 rfl⟩
theorem fl_X3_30 : mFL RX3 30 3 1 := ⟨_, rfl, by decide, mInD lt_fl_X3_30 rfl⟩
theorem fl_X3_85 : mFL RX3 85 3 9 := ⟨_, rfl, by decide, mInD lt_fl_X3_85 rfl⟩
theorem fl_X3_34 : mFL RX3 34 3 5 := ⟨_, rfl, by decide, mInD lt_fl_X3_34 rfl⟩
theorem fl_X3_45 : mFL RX3 45 7 1 := ⟨_, rfl, by decide, mInD lt_fl_X3_45 rfl⟩
theorem fl_X3_50 : mFL RX3 50 7 0 := ⟨_, rfl, by decide, mInD lt_fl_X3_50 rfl⟩
theorem fl_X3_18 : mFL RX3 18 5 2 := ⟨_, rfl, by decide, mInD lt_fl_X3_18 rfl⟩
theorem fl_X3_27 : mFL RX3 27 5 3 := ⟨_, rfl, by decide, mInD lt_fl_X3_27 rfl⟩
theorem fl_X4_9 : mFL RX4 9 4 0 := ⟨_, rfl, by decide, mInD lt_fl_X4_9 rfl⟩
theorem fl_X4_15 : mFL RX4 15 4 1 := ⟨_, rfl, by decide, mInD lt_fl_X4_15 rfl⟩
theorem fl_X4_18 : mFL RX4 18 4 2 := ⟨_, rfl, by decide, mInD lt_fl_X4_18 rfl⟩
theorem fl_X4_47 : mFL RX4 47 0 0 := ⟨_, rfl, by decide, mInD lt_fl_X4_47 rfl⟩
theorem fl_X4_58 : mFL RX4 58 5 7 := ⟨_, rfl, by decide, mInD lt_fl_X4_58 rfl⟩
theorem fl_X4_51 : mFL RX4 51 5 6 := ⟨_, rfl, by decide, mInD lt_fl_X4_51 rfl⟩
theorem fl_X4_56 : mFL RX4 56 5 0 := ⟨_, rfl, by decide, mInD lt_fl_X4_56 rfl⟩
theorem fl_X4_35 : mFL RX4 35 0 4 := ⟨_, rfl, by decide, mInD lt_fl_X4_35 rfl⟩
theorem fl_X4_76 : mFL RX4 76 0 3 := ⟨_, rfl, by decide, mInD lt_fl_X4_76 rfl⟩
theorem fl_X4_79 : mFL RX4 79 0 2 := ⟨_, rfl, by decide, mInD lt_fl_X4_79 rfl⟩
theorem fl_X4_82 : mFL RX4 82 0 5 := ⟨_, rfl, by decide, mInD lt_fl_X4_82 rfl⟩
theorem fl_X4_85 : mFL RX4 85 5 8 := ⟨_, rfl, by decide, mInD lt_fl_X4_85 rfl⟩
theorem fl_X4_88 : mFL RX4 88 5 9 := ⟨_, rfl, by decide, mInD lt_fl_X4_88 rfl⟩
theorem fl_X4_91 : mFL RX4 91 0 6 := ⟨_, rfl, by decide, mInD lt_fl_X4_91 rfl⟩
theorem fl_X4_92 : mFL RX4 92 5 10 := ⟨_, rfl, by decide, mInD lt_fl_X4_92 rfl⟩
theorem fl_X4_95 : mFL RX4 95 0 7 := ⟨_, rfl, by decide, mInD lt_fl_X4_95 rfl⟩
theorem fl_X7_9 : mFL RX7 9 7 0 := ⟨_, rfl, by decide, mInD lt_fl_X7_9 rfl⟩
theorem fl_X8_10 : mFL RX8 10 8 0 := ⟨_, rfl, by decide, mInD lt_fl_X8_10 rfl⟩
theorem fl_X8_19 : mFL RX8 19 8 1 := ⟨_, rfl, by decide, mInD lt_fl_X8_19 rfl⟩
theorem fl_X8_23 : mFL RX8 23 8 2 := ⟨_, rfl, by decide, mInD lt_fl_X8_23 rfl⟩
theorem fl_X8_27 : mFL RX8 27 8 3 := ⟨_, rfl, by decide, mInD lt_fl_X8_27 rfl⟩
theorem fl_X8_34 : mFL RX8 34 8 4 := ⟨_, rfl, by decide, mInD lt_fl_X8_34 rfl⟩
theorem fl_X8_41 : mFL RX8 41 8 5 := ⟨_, rfl, by decide, mInD lt_fl_X8_41 rfl⟩
theorem fl_X8_48 : mFL RX8 48 8 6 := ⟨_, rfl, by decide, mInD lt_fl_X8_48 rfl⟩
theorem fl_X8_55 : mFL RX8 55 8 7 := ⟨_, rfl, by decide, mInD lt_fl_X8_55 rfl⟩
theorem fl_X8_59 : mFL RX8 59 0 4 := ⟨_, rfl, by decide, mInD lt_fl_X8_59 rfl⟩
theorem fs_X8_82 : Cond.fieldLink RX8 82 "ChoirBook" "SETTING_LEAST" "[I" ∈ mGood := mInD lt_fs_X8_82 rfl
theorem fs_X8_86 : Cond.fieldLink RX8 86 "ChoirBook" "SETTING_MOST" "[I" ∈ mGood := mInD lt_fs_X8_86 rfl
theorem fl_X8_89 : mFL RX8 89 0 1 := ⟨_, rfl, by decide, mInD lt_fl_X8_89 rfl⟩
theorem fl_X8_92 : mFL RX8 92 0 0 := ⟨_, rfl, by decide, mInD lt_fl_X8_92 rfl⟩
theorem fl_X8_100 : mFL RX8 100 3 0 := ⟨_, rfl, by decide, mInD lt_fl_X8_100 rfl⟩
theorem fl_X8_104 : mFL RX8 104 3 1 := ⟨_, rfl, by decide, mInD lt_fl_X8_104 rfl⟩
theorem fl_X8_113 : mFL RX8 113 5 5 := ⟨_, rfl, by decide, mInD lt_fl_X8_113 rfl⟩
theorem fl_X8_123 : mFL RX8 123 5 6 := ⟨_, rfl, by decide, mInD lt_fl_X8_123 rfl⟩
theorem fl_X8_133 : mFL RX8 133 2 8 := ⟨_, rfl, by decide, mInD lt_fl_X8_133 rfl⟩
theorem fl_X8_144 : mFL RX8 144 5 7 := ⟨_, rfl, by decide, mInD lt_fl_X8_144 rfl⟩
theorem fl_X8_152 : mFL RX8 152 0 5 := ⟨_, rfl, by decide, mInD lt_fl_X8_152 rfl⟩
theorem fl_X8_162 : mFL RX8 162 1 2 := ⟨_, rfl, by decide, mInD lt_fl_X8_162 rfl⟩
theorem fl_X8_168 : mFL RX8 168 7 1 := ⟨_, rfl, by decide, mInD lt_fl_X8_168 rfl⟩
theorem fl_X8_171 : mFL RX8 171 7 0 := ⟨_, rfl, by decide, mInD lt_fl_X8_171 rfl⟩
theorem fl_X8_174 : mFL RX8 174 3 2 := ⟨_, rfl, by decide, mInD lt_fl_X8_174 rfl⟩
theorem fl_X8_177 : mFL RX8 177 3 3 := ⟨_, rfl, by decide, mInD lt_fl_X8_177 rfl⟩
theorem fl_X8_186 : mFL RX8 186 0 6 := ⟨_, rfl, by decide, mInD lt_fl_X8_186 rfl⟩
theorem fl_X8_189 : mFL RX8 189 0 7 := ⟨_, rfl, by decide, mInD lt_fl_X8_189 rfl⟩
theorem fl_X8_192 : mFL RX8 192 5 0 := ⟨_, rfl, by decide, mInD lt_fl_X8_192 rfl⟩
theorem fl_X8_195 : mFL RX8 195 5 1 := ⟨_, rfl, by decide, mInD lt_fl_X8_195 rfl⟩
theorem fl_X8_198 : mFL RX8 198 5 4 := ⟨_, rfl, by decide, mInD lt_fl_X8_198 rfl⟩
theorem fl_X8_205 : mFL RX8 205 5 8 := ⟨_, rfl, by decide, mInD lt_fl_X8_205 rfl⟩
theorem fl_X8_206 : mFL RX8 206 5 9 := ⟨_, rfl, by decide, mInD lt_fl_X8_206 rfl⟩
theorem fl_X8_209 : mFL RX8 209 5 10 := ⟨_, rfl, by decide, mInD lt_fl_X8_209 rfl⟩
theorem fl_X8_210 : mFL RX8 210 5 2 := ⟨_, rfl, by decide, mInD lt_fl_X8_210 rfl⟩
theorem fl_X8_213 : mFL RX8 213 5 3 := ⟨_, rfl, by decide, mInD lt_fl_X8_213 rfl⟩
theorem fl_X8_225 : mFL RX8 225 0 3 := ⟨_, rfl, by decide, mInD lt_fl_X8_225 rfl⟩
theorem fl_X8_231 : mFL RX8 231 4 2 := ⟨_, rfl, by decide, mInD lt_fl_X8_231 rfl⟩
theorem fl_X8_243 : mFL RX8 243 0 2 := ⟨_, rfl, by decide, mInD lt_fl_X8_243 rfl⟩
theorem fl_X8_247 : mFL RX8 247 4 0 := ⟨_, rfl, by decide, mInD lt_fl_X8_247 rfl⟩
theorem fl_X9_7 : mFL RX9 7 9 0 := ⟨_, rfl, by decide, mInD lt_fl_X9_7 rfl⟩
theorem fl_X9_13 : mFL RX9 13 9 1 := ⟨_, rfl, by decide, mInD lt_fl_X9_13 rfl⟩
theorem fl_X9_16 : mFL RX9 16 9 3 := ⟨_, rfl, by decide, mInD lt_fl_X9_16 rfl⟩
theorem fl_X9_19 : mFL RX9 19 9 5 := ⟨_, rfl, by decide, mInD lt_fl_X9_19 rfl⟩
theorem fl_X9_22 : mFL RX9 22 9 7 := ⟨_, rfl, by decide, mInD lt_fl_X9_22 rfl⟩
theorem fl_X9_26 : mFL RX9 26 9 8 := ⟨_, rfl, by decide, mInD lt_fl_X9_26 rfl⟩
theorem fl_X9_29 : mFL RX9 29 9 11 := ⟨_, rfl, by decide, mInD lt_fl_X9_29 rfl⟩
theorem fl_X9_32 : mFL RX9 32 9 12 := ⟨_, rfl, by decide, mInD lt_fl_X9_32 rfl⟩
theorem fl_X9_35 : mFL RX9 35 9 13 := ⟨_, rfl, by decide, mInD lt_fl_X9_35 rfl⟩
theorem fl_X9_38 : mFL RX9 38 9 14 := ⟨_, rfl, by decide, mInD lt_fl_X9_38 rfl⟩
theorem fl_X9_41 : mFL RX9 41 9 17 := ⟨_, rfl, by decide, mInD lt_fl_X9_41 rfl⟩
theorem fl_X9_44 : mFL RX9 44 9 18 := ⟨_, rfl, by decide, mInD lt_fl_X9_44 rfl⟩
theorem fl_X9_47 : mFL RX9 47 9 19 := ⟨_, rfl, by decide, mInD lt_fl_X9_47 rfl⟩
theorem fl_X9_50 : mFL RX9 50 9 21 := ⟨_, rfl, by decide, mInD lt_fl_X9_50 rfl⟩
theorem fl_X9_53 : mFL RX9 53 9 22 := ⟨_, rfl, by decide, mInD lt_fl_X9_53 rfl⟩
theorem fl_X9_56 : mFL RX9 56 9 23 := ⟨_, rfl, by decide, mInD lt_fl_X9_56 rfl⟩
theorem fl_X9_59 : mFL RX9 59 9 2 := ⟨_, rfl, by decide, mInD lt_fl_X9_59 rfl⟩
theorem fl_X9_66 : mFL RX9 66 9 9 := ⟨_, rfl, by decide, mInD lt_fl_X9_66 rfl⟩
theorem fl_X9_69 : mFL RX9 69 9 10 := ⟨_, rfl, by decide, mInD lt_fl_X9_69 rfl⟩
theorem fl_X9_87 : mFL RX9 87 9 15 := ⟨_, rfl, by decide, mInD lt_fl_X9_87 rfl⟩
theorem fl_X9_90 : mFL RX9 90 9 16 := ⟨_, rfl, by decide, mInD lt_fl_X9_90 rfl⟩
theorem fl_X9_139 : mFL RX9 139 9 24 := ⟨_, rfl, by decide, mInD lt_fl_X9_139 rfl⟩
theorem fl_X9_142 : mFL RX9 142 9 25 := ⟨_, rfl, by decide, mInD lt_fl_X9_142 rfl⟩
theorem fl_X9_145 : mFL RX9 145 9 26 := ⟨_, rfl, by decide, mInD lt_fl_X9_145 rfl⟩
theorem fl_X9_148 : mFL RX9 148 9 27 := ⟨_, rfl, by decide, mInD lt_fl_X9_148 rfl⟩
theorem fl_X9_151 : mFL RX9 151 9 30 := ⟨_, rfl, by decide, mInD lt_fl_X9_151 rfl⟩
theorem fl_X9_154 : mFL RX9 154 9 20 := ⟨_, rfl, by decide, mInD lt_fl_X9_154 rfl⟩
theorem fl_X9_157 : mFL RX9 157 9 29 := ⟨_, rfl, by decide, mInD lt_fl_X9_157 rfl⟩
theorem fl_X9_163 : mFL RX9 163 9 28 := ⟨_, rfl, by decide, mInD lt_fl_X9_163 rfl⟩
theorem fl_X9_170 : mFL RX9 170 9 6 := ⟨_, rfl, by decide, mInD lt_fl_X9_170 rfl⟩
theorem fl_X9_213 : mFL RX9 213 9 4 := ⟨_, rfl, by decide, mInD lt_fl_X9_213 rfl⟩
theorem ml_X5_3 : Cond.methodLink RX5 3 Lib.objectInit ∈ mGood := mInD lt_ml_X5_3 rfl
theorem ml_X0_3 : Cond.methodLink RX0 3 Lib.objectInit ∈ mGood := mInD lt_ml_X0_3 rfl
theorem ml_X0_39 : Cond.methodLink RX0 39 arraycopyName ∈ mGood := mInD lt_ml_X0_39 rfl
theorem ml_X0_35 : Cond.methodLink RX0 35 yX5_copyFrom ∈ mGood := mInD lt_ml_X0_35 rfl
theorem ml_X5_18 : Cond.methodLink RX5 18 yX5_learn ∈ mGood := mInD lt_ml_X5_18 rfl
theorem ml_X0_54 : Cond.methodLink RX0 54 yX5_begin ∈ mGood := mInD lt_ml_X0_54 rfl
theorem ml_X5_59 : Cond.methodLink RX5 59 Lib.Math.max.name ∈ mGood := mInD lt_ml_X5_59 rfl
theorem ml_X5_65 : Cond.methodLink RX5 65 Lib.Math.min.name ∈ mGood := mInD lt_ml_X5_65 rfl
theorem ml_X0_58 : Cond.methodLink RX0 58 yX5_notesIn ∈ mGood := mInD lt_ml_X0_58 rfl
theorem ml_X0_62 : Cond.methodLink RX0 62 yX0_fits ∈ mGood := mInD lt_ml_X0_62 rfl
theorem ml_X0_66 : Cond.methodLink RX0 66 yX0_members ∈ mGood := mInD lt_ml_X0_66 rfl
theorem ml_X0_79 : Cond.methodLink RX0 79 yX0_strengthPresent ∈ mGood := mInD lt_ml_X0_79 rfl
theorem ml_X0_82 : Cond.methodLink RX0 82 yX0_covers ∈ mGood := mInD lt_ml_X0_82 rfl
theorem ml_X0_89 : Cond.methodLink RX0 89 Lib.Math.max.name ∈ mGood := mInD lt_ml_X0_89 rfl
theorem ml_X0_95 : Cond.methodLink RX0 95 yX0_width ∈ mGood := mInD lt_ml_X0_95 rfl
theorem ml_X0_99 : Cond.methodLink RX0 99 yX0_rows ∈ mGood := mInD lt_ml_X0_99 rfl
theorem ml_X0_102 : Cond.methodLink RX0 102 yX5_sitsBefore ∈ mGood := mInD lt_ml_X0_102 rfl
theorem ml_X1_3 : Cond.methodLink RX1 3 Lib.objectInit ∈ mGood := mInD lt_ml_X1_3 rfl
theorem ml_X1_17 : Cond.methodLink RX1 17 yX0_init ∈ mGood := mInD lt_ml_X1_17 rfl
theorem ml_X1_25 : Cond.methodLink RX1 25 yX0_copyFrom ∈ mGood := mInD lt_ml_X1_25 rfl
theorem ml_X6_3 : Cond.methodLink RX6 3 Lib.objectInit ∈ mGood := mInD lt_ml_X6_3 rfl
theorem ml_X2_3 : Cond.methodLink RX2 3 Lib.objectInit ∈ mGood := mInD lt_ml_X2_3 rfl
theorem ml_X2_11 : Cond.methodLink RX2 11 yX6_init ∈ mGood := mInD lt_ml_X2_11 rfl
theorem ml_X2_76 : Cond.methodLink RX2 76 yX6_addVoice ∈ mGood := mInD lt_ml_X2_76 rfl
theorem ml_X6_18 : Cond.methodLink RX6 18 yX6_gives ∈ mGood := mInD lt_ml_X6_18 rfl
theorem ml_X2_83 : Cond.methodLink RX2 83 Lib.Math.min.name ∈ mGood := mInD lt_ml_X2_83 rfl
theorem ml_X2_88 : Cond.methodLink RX2 88 Lib.Math.max.name ∈ mGood := mInD lt_ml_X2_88 rfl
theorem ml_X2_79 : Cond.methodLink RX2 79 yX6_evenest ∈ mGood := mInD lt_ml_X2_79 rfl
theorem ml_X2_46 : Cond.methodLink RX2 46 yX0_fittingParts ∈ mGood := mInD lt_ml_X2_46 rfl
theorem ml_X2_58 : Cond.methodLink RX2 58 yX2_addVoice ∈ mGood := mInD lt_ml_X2_58 rfl
theorem ml_X2_68 : Cond.methodLink RX2 68 yX2_weighPairs ∈ mGood := mInD lt_ml_X2_68 rfl
theorem ml_X6_26 : Cond.methodLink RX6 26 yX6_bits ∈ mGood := mInD lt_ml_X6_26 rfl
theorem ml_X2_105 : Cond.methodLink RX2 105 yX6_reaches ∈ mGood := mInD lt_ml_X2_105 rfl
theorem ml_X2_101 : Cond.methodLink RX2 101 yX2_pairCanReach ∈ mGood := mInD lt_ml_X2_101 rfl
theorem ml_X2_97 : Cond.methodLink RX2 97 yX2_canFinish ∈ mGood := mInD lt_ml_X2_97 rfl
theorem ml_X2_94 : Cond.methodLink RX2 94 yX2_firstGoodPart ∈ mGood := mInD lt_ml_X2_94 rfl
theorem ml_X3_3 : Cond.methodLink RX3 3 Lib.objectInit ∈ mGood := mInD lt_ml_X3_3 rfl
theorem ml_X3_76 : Cond.methodLink RX3 76 yX3_fail ∈ mGood := mInD lt_ml_X3_76 rfl
theorem ml_X3_88 : Cond.methodLink RX3 88 yX3_numberStands ∈ mGood := mInD lt_ml_X3_88 rfl
theorem ml_X3_91 : Cond.methodLink RX3 91 yX3_closeWord ∈ mGood := mInD lt_ml_X3_91 rfl
theorem ml_X3_62 : Cond.methodLink RX3 62 yX3_inNumber ∈ mGood := mInD lt_ml_X3_62 rfl
theorem ml_X3_66 : Cond.methodLink RX3 66 yX3_takeDigit ∈ mGood := mInD lt_ml_X3_66 rfl
theorem ml_X3_69 : Cond.methodLink RX3 69 yX3_takeBehindNumber ∈ mGood := mInD lt_ml_X3_69 rfl
theorem ml_X3_72 : Cond.methodLink RX3 72 yX3_beginNumber ∈ mGood := mInD lt_ml_X3_72 rfl
theorem ml_X3_54 : Cond.methodLink RX3 54 yX3_take ∈ mGood := mInD lt_ml_X3_54 rfl
theorem ml_X3_58 : Cond.methodLink RX3 58 yX3_end ∈ mGood := mInD lt_ml_X3_58 rfl
theorem ml_X3_38 : Cond.methodLink RX3 38 yX3_read ∈ mGood := mInD lt_ml_X3_38 rfl
theorem ml_X4_3 : Cond.methodLink RX4 3 Lib.objectInit ∈ mGood := mInD lt_ml_X4_3 rfl
theorem ml_X4_65 : Cond.methodLink RX4 65 yX0_fits ∈ mGood := mInD lt_ml_X4_65 rfl
theorem ml_X4_39 : Cond.methodLink RX4 39 yX0_covers ∈ mGood := mInD lt_ml_X4_39 rfl
theorem ml_X4_43 : Cond.methodLink RX4 43 yX4_canStandIn ∈ mGood := mInD lt_ml_X4_43 rfl
theorem ml_X4_69 : Cond.methodLink RX4 69 yX0_rested ∈ mGood := mInD lt_ml_X4_69 rfl
theorem ml_X4_73 : Cond.methodLink RX4 73 yX5_singsBefore ∈ mGood := mInD lt_ml_X4_73 rfl
theorem ml_X4_21 : Cond.methodLink RX4 21 yX0_strengthPresent ∈ mGood := mInD lt_ml_X4_21 rfl
theorem ml_X4_27 : Cond.methodLink RX4 27 yX4_findStandIns ∈ mGood := mInD lt_ml_X4_27 rfl
theorem ml_X4_31 : Cond.methodLink RX4 31 yX4_findSoloist ∈ mGood := mInD lt_ml_X4_31 rfl
theorem ml_X7_3 : Cond.methodLink RX7 3 Lib.objectInit ∈ mGood := mInD lt_ml_X7_3 rfl
theorem ml_X8_1 : Cond.methodLink RX8 1 Lib.objectInit ∈ mGood := mInD lt_ml_X8_1 rfl
theorem ml_X8_9 : Cond.methodLink RX8 9 yX0_init ∈ mGood := mInD lt_ml_X8_9 rfl
theorem ml_X8_18 : Cond.methodLink RX8 18 yX1_init ∈ mGood := mInD lt_ml_X8_18 rfl
theorem ml_X8_33 : Cond.methodLink RX8 33 yX7_init ∈ mGood := mInD lt_ml_X8_33 rfl
theorem ml_X8_40 : Cond.methodLink RX8 40 yX3_init ∈ mGood := mInD lt_ml_X8_40 rfl
theorem ml_X8_47 : Cond.methodLink RX8 47 yX4_init ∈ mGood := mInD lt_ml_X8_47 rfl
theorem ml_X8_54 : Cond.methodLink RX8 54 yX2_init ∈ mGood := mInD lt_ml_X8_54 rfl
theorem ml_X8_63 : Cond.methodLink RX8 63 yX1_record ∈ mGood := mInD lt_ml_X8_63 rfl
theorem ml_X8_67 : Cond.methodLink RX8 67 yX0_join ∈ mGood := mInD lt_ml_X8_67 rfl
theorem ml_X8_71 : Cond.methodLink RX8 71 yX0_has ∈ mGood := mInD lt_ml_X8_71 rfl
theorem ml_X8_75 : Cond.methodLink RX8 75 yX0_dismiss ∈ mGood := mInD lt_ml_X8_75 rfl
theorem ml_X8_79 : Cond.methodLink RX8 79 yX8_isSetting ∈ mGood := mInD lt_ml_X8_79 rfl
theorem ml_X8_96 : Cond.methodLink RX8 96 yX3_readTests ∈ mGood := mInD lt_ml_X8_96 rfl
theorem ml_X8_107 : Cond.methodLink RX8 107 yX5_learn ∈ mGood := mInD lt_ml_X8_107 rfl
theorem ml_X8_116 : Cond.methodLink RX8 116 yX8_isPart ∈ mGood := mInD lt_ml_X8_116 rfl
theorem ml_X8_119 : Cond.methodLink RX8 119 yX0_fits ∈ mGood := mInD lt_ml_X8_119 rfl
theorem ml_X8_126 : Cond.methodLink RX8 126 yX2_weigh ∈ mGood := mInD lt_ml_X8_126 rfl
theorem ml_X8_130 : Cond.methodLink RX8 130 yX2_choose ∈ mGood := mInD lt_ml_X8_130 rfl
theorem ml_X8_136 : Cond.methodLink RX8 136 yX3_readAbsent ∈ mGood := mInD lt_ml_X8_136 rfl
theorem ml_X8_140 : Cond.methodLink RX8 140 yX8_contains ∈ mGood := mInD lt_ml_X8_140 rfl
theorem ml_X8_148 : Cond.methodLink RX8 148 yX0_absent ∈ mGood := mInD lt_ml_X8_148 rfl
theorem ml_X8_155 : Cond.methodLink RX8 155 yX4_plan ∈ mGood := mInD lt_ml_X8_155 rfl
theorem ml_X8_158 : Cond.methodLink RX8 158 yX4_happen ∈ mGood := mInD lt_ml_X8_158 rfl
theorem ml_X8_165 : Cond.methodLink RX8 165 yX1_restore ∈ mGood := mInD lt_ml_X8_165 rfl
theorem ml_X8_180 : Cond.methodLink RX8 180 yX0_placed ∈ mGood := mInD lt_ml_X8_180 rfl
theorem ml_X8_183 : Cond.methodLink RX8 183 yX0_coveredParts ∈ mGood := mInD lt_ml_X8_183 rfl
theorem ml_X8_201 : Cond.methodLink RX8 201 yX0_fittingParts ∈ mGood := mInD lt_ml_X8_201 rfl
theorem ml_X8_214 : Cond.methodLink RX8 214 yX5_notesIn ∈ mGood := mInD lt_ml_X8_214 rfl
theorem ml_X8_217 : Cond.methodLink RX8 217 yX0_members ∈ mGood := mInD lt_ml_X8_217 rfl
theorem ml_X8_220 : Cond.methodLink RX8 220 yX0_strength ∈ mGood := mInD lt_ml_X8_220 rfl
theorem ml_X8_222 : Cond.methodLink RX8 222 yX0_strengthPresent ∈ mGood := mInD lt_ml_X8_222 rfl
theorem ml_X8_228 : Cond.methodLink RX8 228 yX0_rows ∈ mGood := mInD lt_ml_X8_228 rfl
theorem ml_X8_234 : Cond.methodLink RX8 234 yX0_seatedBefore ∈ mGood := mInD lt_ml_X8_234 rfl
theorem ml_X8_237 : Cond.methodLink RX8 237 yX0_rowsBefore ∈ mGood := mInD lt_ml_X8_237 rfl
theorem ml_X8_240 : Cond.methodLink RX8 240 yX0_width ∈ mGood := mInD lt_ml_X8_240 rfl
theorem ml_X8_250 : Cond.methodLink RX8 250 yX0_rested ∈ mGood := mInD lt_ml_X8_250 rfl
theorem ml_X8_254 : Cond.methodLink RX8 254 yX8_isImage ∈ mGood := mInD lt_ml_X8_254 rfl
theorem ml_X8_257 : Cond.methodLink RX8 257 yX0_copyFrom ∈ mGood := mInD lt_ml_X8_257 rfl
theorem ml_X9_1 : Cond.methodLink RX9 1 Lib.objectInit ∈ mGood := mInD lt_ml_X9_1 rfl
theorem ml_X9_62 : Cond.methodLink RX9 62 yX9_isIn ∈ mGood := mInD lt_ml_X9_62 rfl
theorem ml_X9_72 : Cond.methodLink RX9 72 yX9_of ∈ mGood := mInD lt_ml_X9_72 rfl
theorem ml_X9_76 : Cond.methodLink RX9 76 yX9_findRange ∈ mGood := mInD lt_ml_X9_76 rfl
theorem ml_X9_80 : Cond.methodLink RX9 80 yX9_overlapOf ∈ mGood := mInD lt_ml_X9_80 rfl
theorem ml_X9_83 : Cond.methodLink RX9 83 yX9_isFit ∈ mGood := mInD lt_ml_X9_83 rfl
theorem ml_X9_93 : Cond.methodLink RX9 93 yX9_fits ∈ mGood := mInD lt_ml_X9_93 rfl
theorem ml_X9_97 : Cond.methodLink RX9 97 yX9_nextPart ∈ mGood := mInD lt_ml_X9_97 rfl
theorem ml_X9_100 : Cond.methodLink RX9 100 yX9_change ∈ mGood := mInD lt_ml_X9_100 rfl
theorem ml_X9_104 : Cond.methodLink RX9 104 yX9_judge ∈ mGood := mInD lt_ml_X9_104 rfl
theorem ml_X9_107 : Cond.methodLink RX9 107 yX9_remember ∈ mGood := mInD lt_ml_X9_107 rfl
theorem ml_X9_110 : Cond.methodLink RX9 110 yX9_findBest ∈ mGood := mInD lt_ml_X9_110 rfl
theorem ml_X9_113 : Cond.methodLink RX9 113 yX9_put ∈ mGood := mInD lt_ml_X9_113 rfl
theorem ml_X9_117 : Cond.methodLink RX9 117 yX9_isSinger ∈ mGood := mInD lt_ml_X9_117 rfl
theorem ml_X9_121 : Cond.methodLink RX9 121 yX9_presentStrength ∈ mGood := mInD lt_ml_X9_121 rfl
theorem ml_X9_124 : Cond.methodLink RX9 124 yX9_isFree ∈ mGood := mInD lt_ml_X9_124 rfl
theorem ml_X9_127 : Cond.methodLink RX9 127 yX9_findStandIns ∈ mGood := mInD lt_ml_X9_127 rfl
theorem ml_X9_130 : Cond.methodLink RX9 130 yX9_isRested ∈ mGood := mInD lt_ml_X9_130 rfl
theorem ml_X9_133 : Cond.methodLink RX9 133 yX9_isBefore ∈ mGood := mInD lt_ml_X9_133 rfl
theorem ml_X9_136 : Cond.methodLink RX9 136 yX9_findSolos ∈ mGood := mInD lt_ml_X9_136 rfl
theorem ml_X9_160 : Cond.methodLink RX9 160 yX9_fails ∈ mGood := mInD lt_ml_X9_160 rfl
theorem ml_X9_166 : Cond.methodLink RX9 166 yX9_endsWell ∈ mGood := mInD lt_ml_X9_166 rfl
theorem ml_X9_173 : Cond.methodLink RX9 173 yX9_readDigit ∈ mGood := mInD lt_ml_X9_173 rfl
theorem ml_X9_176 : Cond.methodLink RX9 176 yX9_readOther ∈ mGood := mInD lt_ml_X9_176 rfl
theorem ml_X9_180 : Cond.methodLink RX9 180 yX9_hasFault ∈ mGood := mInD lt_ml_X9_180 rfl
theorem ml_X9_184 : Cond.methodLink RX9 184 yX9_rangeSize ∈ mGood := mInD lt_ml_X9_184 rfl
theorem ml_X9_187 : Cond.methodLink RX9 187 yX9_absent ∈ mGood := mInD lt_ml_X9_187 rfl
theorem ml_X9_191 : Cond.methodLink RX9 191 yX9_isOf ∈ mGood := mInD lt_ml_X9_191 rfl
theorem ml_X9_194 : Cond.methodLink RX9 194 yX9_isPart ∈ mGood := mInD lt_ml_X9_194 rfl
theorem ml_X9_197 : Cond.methodLink RX9 197 yX9_placedIn ∈ mGood := mInD lt_ml_X9_197 rfl
theorem ml_X9_200 : Cond.methodLink RX9 200 yX9_covered ∈ mGood := mInD lt_ml_X9_200 rfl
theorem ml_X9_203 : Cond.methodLink RX9 203 yX9_strengthOf ∈ mGood := mInD lt_ml_X9_203 rfl
theorem ml_X9_206 : Cond.methodLink RX9 206 yX9_rows ∈ mGood := mInD lt_ml_X9_206 rfl
theorem ml_X9_210 : Cond.methodLink RX9 210 yX9_isImage ∈ mGood := mInD lt_ml_X9_210 rfl
theorem ml_L_9 : Cond.methodLink RL 9 yX8_init ∈ mGood := mInD lt_ml_L_9 rfl
theorem ml_L_12 : Cond.methodLink RL 12 yX9_init ∈ mGood := mInD lt_ml_L_12 rfl
theorem ml_L_13 : Cond.methodLink RL 13 yX8_add ∈ mGood := mInD lt_ml_L_13 rfl
theorem ml_L_17 : Cond.methodLink RL 17 yX9_add ∈ mGood := mInD lt_ml_L_17 rfl
theorem ml_L_18 : Cond.methodLink RL 18 yX8_remove ∈ mGood := mInD lt_ml_L_18 rfl
theorem ml_L_22 : Cond.methodLink RL 22 yX9_remove ∈ mGood := mInD lt_ml_L_22 rfl
theorem ml_L_23 : Cond.methodLink RL 23 yX8_set ∈ mGood := mInD lt_ml_L_23 rfl
theorem ml_L_26 : Cond.methodLink RL 26 yX9_set ∈ mGood := mInD lt_ml_L_26 rfl
theorem ml_L_27 : Cond.methodLink RL 27 yX8_test ∈ mGood := mInD lt_ml_L_27 rfl
theorem ml_L_30 : Cond.methodLink RL 30 yX9_test ∈ mGood := mInD lt_ml_L_30 rfl
theorem ml_L_31 : Cond.methodLink RL 31 yX8_place ∈ mGood := mInD lt_ml_L_31 rfl
theorem ml_L_34 : Cond.methodLink RL 34 yX9_place ∈ mGood := mInD lt_ml_L_34 rfl
theorem ml_L_35 : Cond.methodLink RL 35 yX8_placeAll ∈ mGood := mInD lt_ml_L_35 rfl
theorem ml_L_39 : Cond.methodLink RL 39 yX9_placeAll ∈ mGood := mInD lt_ml_L_39 rfl
theorem ml_L_40 : Cond.methodLink RL 40 yX8_attendance ∈ mGood := mInD lt_ml_L_40 rfl
theorem ml_L_43 : Cond.methodLink RL 43 yX9_attendance ∈ mGood := mInD lt_ml_L_43 rfl
theorem ml_L_44 : Cond.methodLink RL 44 yX8_hold ∈ mGood := mInD lt_ml_L_44 rfl
theorem ml_L_47 : Cond.methodLink RL 47 yX9_hold ∈ mGood := mInD lt_ml_L_47 rfl
theorem ml_L_48 : Cond.methodLink RL 48 yX8_undo ∈ mGood := mInD lt_ml_L_48 rfl
theorem ml_L_51 : Cond.methodLink RL 51 yX9_undo ∈ mGood := mInD lt_ml_L_51 rfl
theorem ml_L_52 : Cond.methodLink RL 52 yX8_write ∈ mGood := mInD lt_ml_L_52 rfl
theorem ml_L_55 : Cond.methodLink RL 55 yX9_write ∈ mGood := mInD lt_ml_L_55 rfl
theorem ml_L_56 : Cond.methodLink RL 56 yX8_wipe ∈ mGood := mInD lt_ml_L_56 rfl
theorem ml_L_59 : Cond.methodLink RL 59 yX9_wipe ∈ mGood := mInD lt_ml_L_59 rfl
theorem ml_L_60 : Cond.methodLink RL 60 yX8_fault ∈ mGood := mInD lt_ml_L_60 rfl
theorem ml_L_63 : Cond.methodLink RL 63 yX9_fault ∈ mGood := mInD lt_ml_L_63 rfl
theorem ml_L_64 : Cond.methodLink RL 64 yX8_told ∈ mGood := mInD lt_ml_L_64 rfl
theorem ml_L_67 : Cond.methodLink RL 67 yX9_told ∈ mGood := mInD lt_ml_L_67 rfl
theorem ml_L_68 : Cond.methodLink RL 68 yX8_setting ∈ mGood := mInD lt_ml_L_68 rfl
theorem ml_L_71 : Cond.methodLink RL 71 yX9_setting ∈ mGood := mInD lt_ml_L_71 rfl
theorem ml_L_72 : Cond.methodLink RL 72 yX8_singer ∈ mGood := mInD lt_ml_L_72 rfl
theorem ml_L_75 : Cond.methodLink RL 75 yX9_singer ∈ mGood := mInD lt_ml_L_75 rfl
theorem ml_L_76 : Cond.methodLink RL 76 yX8_note ∈ mGood := mInD lt_ml_L_76 rfl
theorem ml_L_79 : Cond.methodLink RL 79 yX9_note ∈ mGood := mInD lt_ml_L_79 rfl
theorem ml_L_80 : Cond.methodLink RL 80 yX8_overlap ∈ mGood := mInD lt_ml_L_80 rfl
theorem ml_L_83 : Cond.methodLink RL 83 yX9_overlap ∈ mGood := mInD lt_ml_L_83 rfl
theorem ml_L_84 : Cond.methodLink RL 84 yX8_part ∈ mGood := mInD lt_ml_L_84 rfl
theorem ml_L_87 : Cond.methodLink RL 87 yX9_part ∈ mGood := mInD lt_ml_L_87 rfl
theorem ml_L_88 : Cond.methodLink RL 88 yX8_seat ∈ mGood := mInD lt_ml_L_88 rfl
theorem ml_L_91 : Cond.methodLink RL 91 yX9_seat ∈ mGood := mInD lt_ml_L_91 rfl
theorem ml_L_92 : Cond.methodLink RL 92 yX8_solo ∈ mGood := mInD lt_ml_L_92 rfl
theorem ml_L_95 : Cond.methodLink RL 95 yX9_solo ∈ mGood := mInD lt_ml_L_95 rfl
theorem ml_L_96 : Cond.methodLink RL 96 yX8_mean ∈ mGood := mInD lt_ml_L_96 rfl
theorem ml_L_100 : Cond.methodLink RL 100 yX9_mean ∈ mGood := mInD lt_ml_L_100 rfl
theorem ml_L_101 : Cond.methodLink RL 101 yX8_standIn ∈ mGood := mInD lt_ml_L_101 rfl
theorem ml_L_104 : Cond.methodLink RL 104 yX9_standIn ∈ mGood := mInD lt_ml_L_104 rfl
theorem ml_L_105 : Cond.methodLink RL 105 yX8_passedOver ∈ mGood := mInD lt_ml_L_105 rfl
theorem ml_L_108 : Cond.methodLink RL 108 yX9_passedOver ∈ mGood := mInD lt_ml_L_108 rfl
theorem ml_L_109 : Cond.methodLink RL 109 yX8_without ∈ mGood := mInD lt_ml_L_109 rfl
theorem ml_L_112 : Cond.methodLink RL 112 yX9_without ∈ mGood := mInD lt_ml_L_112 rfl
theorem ml_L_113 : Cond.methodLink RL 113 yX8_keep ∈ mGood := mInD lt_ml_L_113 rfl
theorem ml_L_116 : Cond.methodLink RL 116 yX9_keep ∈ mGood := mInD lt_ml_L_116 rfl
theorem ml_L_117 : Cond.methodLink RL 117 yX8_back ∈ mGood := mInD lt_ml_L_117 rfl
theorem ml_L_120 : Cond.methodLink RL 120 yX9_back ∈ mGood := mInD lt_ml_L_120 rfl
theorem st_X6_bits : Cond.static yX6_bits ∈ mGood := mInD lt_st_X6_bits rfl
theorem st_X8_contains : Cond.static yX8_contains ∈ mGood := mInD lt_st_X8_contains rfl
theorem st_X8_isImage : Cond.static yX8_isImage ∈ mGood := mInD lt_st_X8_isImage rfl
theorem st_X8_isPart : Cond.static yX8_isPart ∈ mGood := mInD lt_st_X8_isPart rfl
theorem st_X8_isSetting : Cond.static yX8_isSetting ∈ mGood := mInD lt_st_X8_isSetting rfl
theorem st_X9_isImage : Cond.static yX9_isImage ∈ mGood := mInD lt_st_X9_isImage rfl
theorem st_X9_isIn : Cond.static yX9_isIn ∈ mGood := mInD lt_st_X9_isIn rfl
theorem st_X9_isOf : Cond.static yX9_isOf ∈ mGood := mInD lt_st_X9_isOf rfl
theorem st_X9_isPart : Cond.static yX9_isPart ∈ mGood := mInD lt_st_X9_isPart rfl
theorem im_X0_absent : Cond.instanceMethod yX0_absent ∈ mGood := mInD lt_im_X0_absent rfl
theorem im_X0_copyFrom : Cond.instanceMethod yX0_copyFrom ∈ mGood := mInD lt_im_X0_copyFrom rfl
theorem im_X0_coveredParts : Cond.instanceMethod yX0_coveredParts ∈ mGood := mInD lt_im_X0_coveredParts rfl
theorem im_X0_covers : Cond.instanceMethod yX0_covers ∈ mGood := mInD lt_im_X0_covers rfl
theorem im_X0_dismiss : Cond.instanceMethod yX0_dismiss ∈ mGood := mInD lt_im_X0_dismiss rfl
theorem im_X0_fits : Cond.instanceMethod yX0_fits ∈ mGood := mInD lt_im_X0_fits rfl
theorem im_X0_fittingParts : Cond.instanceMethod yX0_fittingParts ∈ mGood := mInD lt_im_X0_fittingParts rfl
theorem im_X0_has : Cond.instanceMethod yX0_has ∈ mGood := mInD lt_im_X0_has rfl
theorem im_X0_init : Cond.instanceMethod yX0_init ∈ mGood := mInD lt_im_X0_init rfl
theorem im_X0_join : Cond.instanceMethod yX0_join ∈ mGood := mInD lt_im_X0_join rfl
theorem im_X0_members : Cond.instanceMethod yX0_members ∈ mGood := mInD lt_im_X0_members rfl
theorem im_X0_placed : Cond.instanceMethod yX0_placed ∈ mGood := mInD lt_im_X0_placed rfl
theorem im_X0_rested : Cond.instanceMethod yX0_rested ∈ mGood := mInD lt_im_X0_rested rfl
theorem im_X0_rows : Cond.instanceMethod yX0_rows ∈ mGood := mInD lt_im_X0_rows rfl
theorem im_X0_rowsBefore : Cond.instanceMethod yX0_rowsBefore ∈ mGood := mInD lt_im_X0_rowsBefore rfl
theorem im_X0_seatedBefore : Cond.instanceMethod yX0_seatedBefore ∈ mGood := mInD lt_im_X0_seatedBefore rfl
theorem im_X0_strength : Cond.instanceMethod yX0_strength ∈ mGood := mInD lt_im_X0_strength rfl
theorem im_X0_strengthPresent : Cond.instanceMethod yX0_strengthPresent ∈ mGood := mInD lt_im_X0_strengthPresent rfl
theorem im_X0_width : Cond.instanceMethod yX0_width ∈ mGood := mInD lt_im_X0_width rfl
theorem im_X1_init : Cond.instanceMethod yX1_init ∈ mGood := mInD lt_im_X1_init rfl
theorem im_X1_record : Cond.instanceMethod yX1_record ∈ mGood := mInD lt_im_X1_record rfl
theorem im_X1_restore : Cond.instanceMethod yX1_restore ∈ mGood := mInD lt_im_X1_restore rfl
theorem im_X2_addVoice : Cond.instanceMethod yX2_addVoice ∈ mGood := mInD lt_im_X2_addVoice rfl
theorem im_X2_canFinish : Cond.instanceMethod yX2_canFinish ∈ mGood := mInD lt_im_X2_canFinish rfl
theorem im_X2_choose : Cond.instanceMethod yX2_choose ∈ mGood := mInD lt_im_X2_choose rfl
theorem im_X2_firstGoodPart : Cond.instanceMethod yX2_firstGoodPart ∈ mGood := mInD lt_im_X2_firstGoodPart rfl
theorem im_X2_init : Cond.instanceMethod yX2_init ∈ mGood := mInD lt_im_X2_init rfl
theorem im_X2_pairCanReach : Cond.instanceMethod yX2_pairCanReach ∈ mGood := mInD lt_im_X2_pairCanReach rfl
theorem im_X2_weigh : Cond.instanceMethod yX2_weigh ∈ mGood := mInD lt_im_X2_weigh rfl
theorem im_X2_weighPairs : Cond.instanceMethod yX2_weighPairs ∈ mGood := mInD lt_im_X2_weighPairs rfl
theorem im_X3_beginNumber : Cond.instanceMethod yX3_beginNumber ∈ mGood := mInD lt_im_X3_beginNumber rfl
theorem im_X3_closeWord : Cond.instanceMethod yX3_closeWord ∈ mGood := mInD lt_im_X3_closeWord rfl
theorem im_X3_end : Cond.instanceMethod yX3_end ∈ mGood := mInD lt_im_X3_end rfl
theorem im_X3_fail : Cond.instanceMethod yX3_fail ∈ mGood := mInD lt_im_X3_fail rfl
theorem im_X3_inNumber : Cond.instanceMethod yX3_inNumber ∈ mGood := mInD lt_im_X3_inNumber rfl
theorem im_X3_init : Cond.instanceMethod yX3_init ∈ mGood := mInD lt_im_X3_init rfl
theorem im_X3_numberStands : Cond.instanceMethod yX3_numberStands ∈ mGood := mInD lt_im_X3_numberStands rfl
theorem im_X3_read : Cond.instanceMethod yX3_read ∈ mGood := mInD lt_im_X3_read rfl
theorem im_X3_readAbsent : Cond.instanceMethod yX3_readAbsent ∈ mGood := mInD lt_im_X3_readAbsent rfl
theorem im_X3_readTests : Cond.instanceMethod yX3_readTests ∈ mGood := mInD lt_im_X3_readTests rfl
theorem im_X3_take : Cond.instanceMethod yX3_take ∈ mGood := mInD lt_im_X3_take rfl
theorem im_X3_takeBehindNumber : Cond.instanceMethod yX3_takeBehindNumber ∈ mGood := mInD lt_im_X3_takeBehindNumber rfl
theorem im_X3_takeDigit : Cond.instanceMethod yX3_takeDigit ∈ mGood := mInD lt_im_X3_takeDigit rfl
theorem im_X4_canStandIn : Cond.instanceMethod yX4_canStandIn ∈ mGood := mInD lt_im_X4_canStandIn rfl
theorem im_X4_findSoloist : Cond.instanceMethod yX4_findSoloist ∈ mGood := mInD lt_im_X4_findSoloist rfl
theorem im_X4_findStandIns : Cond.instanceMethod yX4_findStandIns ∈ mGood := mInD lt_im_X4_findStandIns rfl
theorem im_X4_happen : Cond.instanceMethod yX4_happen ∈ mGood := mInD lt_im_X4_happen rfl
theorem im_X4_init : Cond.instanceMethod yX4_init ∈ mGood := mInD lt_im_X4_init rfl
theorem im_X4_plan : Cond.instanceMethod yX4_plan ∈ mGood := mInD lt_im_X4_plan rfl
theorem im_X5_begin : Cond.instanceMethod yX5_begin ∈ mGood := mInD lt_im_X5_begin rfl
theorem im_X5_copyFrom : Cond.instanceMethod yX5_copyFrom ∈ mGood := mInD lt_im_X5_copyFrom rfl
theorem im_X5_init : Cond.instanceMethod yX5_init ∈ mGood := mInD lt_im_X5_init rfl
theorem im_X5_learn : Cond.instanceMethod yX5_learn ∈ mGood := mInD lt_im_X5_learn rfl
theorem im_X5_notesIn : Cond.instanceMethod yX5_notesIn ∈ mGood := mInD lt_im_X5_notesIn rfl
theorem im_X5_singsBefore : Cond.instanceMethod yX5_singsBefore ∈ mGood := mInD lt_im_X5_singsBefore rfl
theorem im_X5_sitsBefore : Cond.instanceMethod yX5_sitsBefore ∈ mGood := mInD lt_im_X5_sitsBefore rfl
theorem im_X6_addVoice : Cond.instanceMethod yX6_addVoice ∈ mGood := mInD lt_im_X6_addVoice rfl
theorem im_X6_evenest : Cond.instanceMethod yX6_evenest ∈ mGood := mInD lt_im_X6_evenest rfl
theorem im_X6_gives : Cond.instanceMethod yX6_gives ∈ mGood := mInD lt_im_X6_gives rfl
theorem im_X6_init : Cond.instanceMethod yX6_init ∈ mGood := mInD lt_im_X6_init rfl
theorem im_X6_reaches : Cond.instanceMethod yX6_reaches ∈ mGood := mInD lt_im_X6_reaches rfl
theorem im_X7_init : Cond.instanceMethod yX7_init ∈ mGood := mInD lt_im_X7_init rfl
theorem im_X8_add : Cond.instanceMethod yX8_add ∈ mGood := mInD lt_im_X8_add rfl
theorem im_X8_attendance : Cond.instanceMethod yX8_attendance ∈ mGood := mInD lt_im_X8_attendance rfl
theorem im_X8_back : Cond.instanceMethod yX8_back ∈ mGood := mInD lt_im_X8_back rfl
theorem im_X8_fault : Cond.instanceMethod yX8_fault ∈ mGood := mInD lt_im_X8_fault rfl
theorem im_X8_hold : Cond.instanceMethod yX8_hold ∈ mGood := mInD lt_im_X8_hold rfl
theorem im_X8_init : Cond.instanceMethod yX8_init ∈ mGood := mInD lt_im_X8_init rfl
theorem im_X8_keep : Cond.instanceMethod yX8_keep ∈ mGood := mInD lt_im_X8_keep rfl
theorem im_X8_mean : Cond.instanceMethod yX8_mean ∈ mGood := mInD lt_im_X8_mean rfl
theorem im_X8_note : Cond.instanceMethod yX8_note ∈ mGood := mInD lt_im_X8_note rfl
theorem im_X8_overlap : Cond.instanceMethod yX8_overlap ∈ mGood := mInD lt_im_X8_overlap rfl
theorem im_X8_part : Cond.instanceMethod yX8_part ∈ mGood := mInD lt_im_X8_part rfl
theorem im_X8_passedOver : Cond.instanceMethod yX8_passedOver ∈ mGood := mInD lt_im_X8_passedOver rfl
theorem im_X8_place : Cond.instanceMethod yX8_place ∈ mGood := mInD lt_im_X8_place rfl
theorem im_X8_placeAll : Cond.instanceMethod yX8_placeAll ∈ mGood := mInD lt_im_X8_placeAll rfl
theorem im_X8_remove : Cond.instanceMethod yX8_remove ∈ mGood := mInD lt_im_X8_remove rfl
theorem im_X8_seat : Cond.instanceMethod yX8_seat ∈ mGood := mInD lt_im_X8_seat rfl
theorem im_X8_set : Cond.instanceMethod yX8_set ∈ mGood := mInD lt_im_X8_set rfl
theorem im_X8_setting : Cond.instanceMethod yX8_setting ∈ mGood := mInD lt_im_X8_setting rfl
theorem im_X8_singer : Cond.instanceMethod yX8_singer ∈ mGood := mInD lt_im_X8_singer rfl
theorem im_X8_solo : Cond.instanceMethod yX8_solo ∈ mGood := mInD lt_im_X8_solo rfl
theorem im_X8_standIn : Cond.instanceMethod yX8_standIn ∈ mGood := mInD lt_im_X8_standIn rfl
theorem im_X8_test : Cond.instanceMethod yX8_test ∈ mGood := mInD lt_im_X8_test rfl
theorem im_X8_told : Cond.instanceMethod yX8_told ∈ mGood := mInD lt_im_X8_told rfl
theorem im_X8_undo : Cond.instanceMethod yX8_undo ∈ mGood := mInD lt_im_X8_undo rfl
theorem im_X8_wipe : Cond.instanceMethod yX8_wipe ∈ mGood := mInD lt_im_X8_wipe rfl
theorem im_X8_without : Cond.instanceMethod yX8_without ∈ mGood := mInD lt_im_X8_without rfl
theorem im_X8_write : Cond.instanceMethod yX8_write ∈ mGood := mInD lt_im_X8_write rfl
theorem im_X9_absent : Cond.instanceMethod yX9_absent ∈ mGood := mInD lt_im_X9_absent rfl
theorem im_X9_add : Cond.instanceMethod yX9_add ∈ mGood := mInD lt_im_X9_add rfl
theorem im_X9_attendance : Cond.instanceMethod yX9_attendance ∈ mGood := mInD lt_im_X9_attendance rfl
theorem im_X9_back : Cond.instanceMethod yX9_back ∈ mGood := mInD lt_im_X9_back rfl
theorem im_X9_change : Cond.instanceMethod yX9_change ∈ mGood := mInD lt_im_X9_change rfl
theorem im_X9_covered : Cond.instanceMethod yX9_covered ∈ mGood := mInD lt_im_X9_covered rfl
theorem im_X9_endsWell : Cond.instanceMethod yX9_endsWell ∈ mGood := mInD lt_im_X9_endsWell rfl
theorem im_X9_fails : Cond.instanceMethod yX9_fails ∈ mGood := mInD lt_im_X9_fails rfl
theorem im_X9_fault : Cond.instanceMethod yX9_fault ∈ mGood := mInD lt_im_X9_fault rfl
theorem im_X9_findBest : Cond.instanceMethod yX9_findBest ∈ mGood := mInD lt_im_X9_findBest rfl
theorem im_X9_findRange : Cond.instanceMethod yX9_findRange ∈ mGood := mInD lt_im_X9_findRange rfl
theorem im_X9_findSolos : Cond.instanceMethod yX9_findSolos ∈ mGood := mInD lt_im_X9_findSolos rfl
theorem im_X9_findStandIns : Cond.instanceMethod yX9_findStandIns ∈ mGood := mInD lt_im_X9_findStandIns rfl
theorem im_X9_fits : Cond.instanceMethod yX9_fits ∈ mGood := mInD lt_im_X9_fits rfl
theorem im_X9_hasFault : Cond.instanceMethod yX9_hasFault ∈ mGood := mInD lt_im_X9_hasFault rfl
theorem im_X9_hold : Cond.instanceMethod yX9_hold ∈ mGood := mInD lt_im_X9_hold rfl
theorem im_X9_init : Cond.instanceMethod yX9_init ∈ mGood := mInD lt_im_X9_init rfl
theorem im_X9_isBefore : Cond.instanceMethod yX9_isBefore ∈ mGood := mInD lt_im_X9_isBefore rfl
theorem im_X9_isFit : Cond.instanceMethod yX9_isFit ∈ mGood := mInD lt_im_X9_isFit rfl
theorem im_X9_isFree : Cond.instanceMethod yX9_isFree ∈ mGood := mInD lt_im_X9_isFree rfl
theorem im_X9_isRested : Cond.instanceMethod yX9_isRested ∈ mGood := mInD lt_im_X9_isRested rfl
theorem im_X9_isSinger : Cond.instanceMethod yX9_isSinger ∈ mGood := mInD lt_im_X9_isSinger rfl
theorem im_X9_judge : Cond.instanceMethod yX9_judge ∈ mGood := mInD lt_im_X9_judge rfl
theorem im_X9_keep : Cond.instanceMethod yX9_keep ∈ mGood := mInD lt_im_X9_keep rfl
theorem im_X9_mean : Cond.instanceMethod yX9_mean ∈ mGood := mInD lt_im_X9_mean rfl
theorem im_X9_nextPart : Cond.instanceMethod yX9_nextPart ∈ mGood := mInD lt_im_X9_nextPart rfl
theorem im_X9_note : Cond.instanceMethod yX9_note ∈ mGood := mInD lt_im_X9_note rfl
theorem im_X9_of : Cond.instanceMethod yX9_of ∈ mGood := mInD lt_im_X9_of rfl
theorem im_X9_overlap : Cond.instanceMethod yX9_overlap ∈ mGood := mInD lt_im_X9_overlap rfl
theorem im_X9_overlapOf : Cond.instanceMethod yX9_overlapOf ∈ mGood := mInD lt_im_X9_overlapOf rfl
theorem im_X9_part : Cond.instanceMethod yX9_part ∈ mGood := mInD lt_im_X9_part rfl
theorem im_X9_passedOver : Cond.instanceMethod yX9_passedOver ∈ mGood := mInD lt_im_X9_passedOver rfl
theorem im_X9_place : Cond.instanceMethod yX9_place ∈ mGood := mInD lt_im_X9_place rfl
theorem im_X9_placeAll : Cond.instanceMethod yX9_placeAll ∈ mGood := mInD lt_im_X9_placeAll rfl
theorem im_X9_placedIn : Cond.instanceMethod yX9_placedIn ∈ mGood := mInD lt_im_X9_placedIn rfl
theorem im_X9_presentStrength : Cond.instanceMethod yX9_presentStrength ∈ mGood := mInD lt_im_X9_presentStrength rfl
theorem im_X9_put : Cond.instanceMethod yX9_put ∈ mGood := mInD lt_im_X9_put rfl
theorem im_X9_rangeSize : Cond.instanceMethod yX9_rangeSize ∈ mGood := mInD lt_im_X9_rangeSize rfl
theorem im_X9_readDigit : Cond.instanceMethod yX9_readDigit ∈ mGood := mInD lt_im_X9_readDigit rfl
theorem im_X9_readOther : Cond.instanceMethod yX9_readOther ∈ mGood := mInD lt_im_X9_readOther rfl
theorem im_X9_remember : Cond.instanceMethod yX9_remember ∈ mGood := mInD lt_im_X9_remember rfl
theorem im_X9_remove : Cond.instanceMethod yX9_remove ∈ mGood := mInD lt_im_X9_remove rfl
theorem im_X9_rows : Cond.instanceMethod yX9_rows ∈ mGood := mInD lt_im_X9_rows rfl
theorem im_X9_seat : Cond.instanceMethod yX9_seat ∈ mGood := mInD lt_im_X9_seat rfl
theorem im_X9_set : Cond.instanceMethod yX9_set ∈ mGood := mInD lt_im_X9_set rfl
theorem im_X9_setting : Cond.instanceMethod yX9_setting ∈ mGood := mInD lt_im_X9_setting rfl
theorem im_X9_singer : Cond.instanceMethod yX9_singer ∈ mGood := mInD lt_im_X9_singer rfl
theorem im_X9_solo : Cond.instanceMethod yX9_solo ∈ mGood := mInD lt_im_X9_solo rfl
theorem im_X9_standIn : Cond.instanceMethod yX9_standIn ∈ mGood := mInD lt_im_X9_standIn rfl
theorem im_X9_strengthOf : Cond.instanceMethod yX9_strengthOf ∈ mGood := mInD lt_im_X9_strengthOf rfl
theorem im_X9_test : Cond.instanceMethod yX9_test ∈ mGood := mInD lt_im_X9_test rfl
theorem im_X9_told : Cond.instanceMethod yX9_told ∈ mGood := mInD lt_im_X9_told rfl
theorem im_X9_undo : Cond.instanceMethod yX9_undo ∈ mGood := mInD lt_im_X9_undo rfl
theorem im_X9_wipe : Cond.instanceMethod yX9_wipe ∈ mGood := mInD lt_im_X9_wipe rfl
theorem im_X9_without : Cond.instanceMethod yX9_without ∈ mGood := mInD lt_im_X9_without rfl
theorem im_X9_write : Cond.instanceMethod yX9_write ∈ mGood := mInD lt_im_X9_write rfl
theorem se_X0_absent : Cond.selects (mName m_X0_absent).cls yX0_absent yX0_absent ∈ mGood := mInD lt_se_X0_absent rfl
theorem se_X0_copyFrom : Cond.selects (mName m_X0_copyFrom).cls yX0_copyFrom yX0_copyFrom ∈ mGood := mInD lt_se_X0_copyFrom rfl
theorem se_X0_coveredParts : Cond.selects (mName m_X0_coveredParts).cls yX0_coveredParts yX0_coveredParts ∈ mGood := mInD lt_se_X0_coveredParts rfl
theorem se_X0_covers : Cond.selects (mName m_X0_covers).cls yX0_covers yX0_covers ∈ mGood := mInD lt_se_X0_covers rfl
theorem se_X0_dismiss : Cond.selects (mName m_X0_dismiss).cls yX0_dismiss yX0_dismiss ∈ mGood := mInD lt_se_X0_dismiss rfl
theorem se_X0_fits : Cond.selects (mName m_X0_fits).cls yX0_fits yX0_fits ∈ mGood := mInD lt_se_X0_fits rfl
theorem se_X0_fittingParts : Cond.selects (mName m_X0_fittingParts).cls yX0_fittingParts yX0_fittingParts ∈ mGood := mInD lt_se_X0_fittingParts rfl
theorem se_X0_has : Cond.selects (mName m_X0_has).cls yX0_has yX0_has ∈ mGood := mInD lt_se_X0_has rfl
theorem se_X0_join : Cond.selects (mName m_X0_join).cls yX0_join yX0_join ∈ mGood := mInD lt_se_X0_join rfl
theorem se_X0_members : Cond.selects (mName m_X0_members).cls yX0_members yX0_members ∈ mGood := mInD lt_se_X0_members rfl
theorem se_X0_placed : Cond.selects (mName m_X0_placed).cls yX0_placed yX0_placed ∈ mGood := mInD lt_se_X0_placed rfl
theorem se_X0_rested : Cond.selects (mName m_X0_rested).cls yX0_rested yX0_rested ∈ mGood := mInD lt_se_X0_rested rfl
theorem se_X0_rows : Cond.selects (mName m_X0_rows).cls yX0_rows yX0_rows ∈ mGood := mInD lt_se_X0_rows rfl
theorem se_X0_rowsBefore : Cond.selects (mName m_X0_rowsBefore).cls yX0_rowsBefore yX0_rowsBefore ∈ mGood := mInD lt_se_X0_rowsBefore rfl
theorem se_X0_seatedBefore : Cond.selects (mName m_X0_seatedBefore).cls yX0_seatedBefore yX0_seatedBefore ∈ mGood := mInD lt_se_X0_seatedBefore rfl
theorem se_X0_strength : Cond.selects (mName m_X0_strength).cls yX0_strength yX0_strength ∈ mGood := mInD lt_se_X0_strength rfl
theorem se_X0_strengthPresent : Cond.selects (mName m_X0_strengthPresent).cls yX0_strengthPresent yX0_strengthPresent ∈ mGood := mInD lt_se_X0_strengthPresent rfl
theorem se_X0_width : Cond.selects (mName m_X0_width).cls yX0_width yX0_width ∈ mGood := mInD lt_se_X0_width rfl
theorem se_X1_record : Cond.selects (mName m_X1_record).cls yX1_record yX1_record ∈ mGood := mInD lt_se_X1_record rfl
theorem se_X1_restore : Cond.selects (mName m_X1_restore).cls yX1_restore yX1_restore ∈ mGood := mInD lt_se_X1_restore rfl
theorem se_X2_addVoice : Cond.selects (mName m_X2_addVoice).cls yX2_addVoice yX2_addVoice ∈ mGood := mInD lt_se_X2_addVoice rfl
theorem se_X2_canFinish : Cond.selects (mName m_X2_canFinish).cls yX2_canFinish yX2_canFinish ∈ mGood := mInD lt_se_X2_canFinish rfl
theorem se_X2_choose : Cond.selects (mName m_X2_choose).cls yX2_choose yX2_choose ∈ mGood := mInD lt_se_X2_choose rfl
theorem se_X2_firstGoodPart : Cond.selects (mName m_X2_firstGoodPart).cls yX2_firstGoodPart yX2_firstGoodPart ∈ mGood := mInD lt_se_X2_firstGoodPart rfl
theorem se_X2_pairCanReach : Cond.selects (mName m_X2_pairCanReach).cls yX2_pairCanReach yX2_pairCanReach ∈ mGood := mInD lt_se_X2_pairCanReach rfl
theorem se_X2_weigh : Cond.selects (mName m_X2_weigh).cls yX2_weigh yX2_weigh ∈ mGood := mInD lt_se_X2_weigh rfl
theorem se_X2_weighPairs : Cond.selects (mName m_X2_weighPairs).cls yX2_weighPairs yX2_weighPairs ∈ mGood := mInD lt_se_X2_weighPairs rfl
theorem se_X3_beginNumber : Cond.selects (mName m_X3_beginNumber).cls yX3_beginNumber yX3_beginNumber ∈ mGood := mInD lt_se_X3_beginNumber rfl
theorem se_X3_closeWord : Cond.selects (mName m_X3_closeWord).cls yX3_closeWord yX3_closeWord ∈ mGood := mInD lt_se_X3_closeWord rfl
theorem se_X3_end : Cond.selects (mName m_X3_end).cls yX3_end yX3_end ∈ mGood := mInD lt_se_X3_end rfl
theorem se_X3_fail : Cond.selects (mName m_X3_fail).cls yX3_fail yX3_fail ∈ mGood := mInD lt_se_X3_fail rfl
theorem se_X3_inNumber : Cond.selects (mName m_X3_inNumber).cls yX3_inNumber yX3_inNumber ∈ mGood := mInD lt_se_X3_inNumber rfl
theorem se_X3_numberStands : Cond.selects (mName m_X3_numberStands).cls yX3_numberStands yX3_numberStands ∈ mGood := mInD lt_se_X3_numberStands rfl
theorem se_X3_read : Cond.selects (mName m_X3_read).cls yX3_read yX3_read ∈ mGood := mInD lt_se_X3_read rfl
theorem se_X3_readAbsent : Cond.selects (mName m_X3_readAbsent).cls yX3_readAbsent yX3_readAbsent ∈ mGood := mInD lt_se_X3_readAbsent rfl
theorem se_X3_readTests : Cond.selects (mName m_X3_readTests).cls yX3_readTests yX3_readTests ∈ mGood := mInD lt_se_X3_readTests rfl
theorem se_X3_take : Cond.selects (mName m_X3_take).cls yX3_take yX3_take ∈ mGood := mInD lt_se_X3_take rfl
theorem se_X3_takeBehindNumber : Cond.selects (mName m_X3_takeBehindNumber).cls yX3_takeBehindNumber yX3_takeBehindNumber ∈ mGood := mInD lt_se_X3_takeBehindNumber rfl
theorem se_X3_takeDigit : Cond.selects (mName m_X3_takeDigit).cls yX3_takeDigit yX3_takeDigit ∈ mGood := mInD lt_se_X3_takeDigit rfl
theorem se_X4_canStandIn : Cond.selects (mName m_X4_canStandIn).cls yX4_canStandIn yX4_canStandIn ∈ mGood := mInD lt_se_X4_canStandIn rfl
theorem se_X4_findSoloist : Cond.selects (mName m_X4_findSoloist).cls yX4_findSoloist yX4_findSoloist ∈ mGood := mInD lt_se_X4_findSoloist rfl
theorem se_X4_findStandIns : Cond.selects (mName m_X4_findStandIns).cls yX4_findStandIns yX4_findStandIns ∈ mGood := mInD lt_se_X4_findStandIns rfl
theorem se_X4_happen : Cond.selects (mName m_X4_happen).cls yX4_happen yX4_happen ∈ mGood := mInD lt_se_X4_happen rfl
theorem se_X4_plan : Cond.selects (mName m_X4_plan).cls yX4_plan yX4_plan ∈ mGood := mInD lt_se_X4_plan rfl
theorem se_X5_begin : Cond.selects (mName m_X5_begin).cls yX5_begin yX5_begin ∈ mGood := mInD lt_se_X5_begin rfl
theorem se_X5_copyFrom : Cond.selects (mName m_X5_copyFrom).cls yX5_copyFrom yX5_copyFrom ∈ mGood := mInD lt_se_X5_copyFrom rfl
theorem se_X5_learn : Cond.selects (mName m_X5_learn).cls yX5_learn yX5_learn ∈ mGood := mInD lt_se_X5_learn rfl
theorem se_X5_notesIn : Cond.selects (mName m_X5_notesIn).cls yX5_notesIn yX5_notesIn ∈ mGood := mInD lt_se_X5_notesIn rfl
theorem se_X5_singsBefore : Cond.selects (mName m_X5_singsBefore).cls yX5_singsBefore yX5_singsBefore ∈ mGood := mInD lt_se_X5_singsBefore rfl
theorem se_X5_sitsBefore : Cond.selects (mName m_X5_sitsBefore).cls yX5_sitsBefore yX5_sitsBefore ∈ mGood := mInD lt_se_X5_sitsBefore rfl
theorem se_X6_addVoice : Cond.selects (mName m_X6_addVoice).cls yX6_addVoice yX6_addVoice ∈ mGood := mInD lt_se_X6_addVoice rfl
theorem se_X6_evenest : Cond.selects (mName m_X6_evenest).cls yX6_evenest yX6_evenest ∈ mGood := mInD lt_se_X6_evenest rfl
theorem se_X6_gives : Cond.selects (mName m_X6_gives).cls yX6_gives yX6_gives ∈ mGood := mInD lt_se_X6_gives rfl
theorem se_X6_reaches : Cond.selects (mName m_X6_reaches).cls yX6_reaches yX6_reaches ∈ mGood := mInD lt_se_X6_reaches rfl
theorem se_X8_add : Cond.selects (mName m_X8_add).cls yX8_add yX8_add ∈ mGood := mInD lt_se_X8_add rfl
theorem se_X8_attendance : Cond.selects (mName m_X8_attendance).cls yX8_attendance yX8_attendance ∈ mGood := mInD lt_se_X8_attendance rfl
theorem se_X8_back : Cond.selects (mName m_X8_back).cls yX8_back yX8_back ∈ mGood := mInD lt_se_X8_back rfl
theorem se_X8_fault : Cond.selects (mName m_X8_fault).cls yX8_fault yX8_fault ∈ mGood := mInD lt_se_X8_fault rfl
theorem se_X8_hold : Cond.selects (mName m_X8_hold).cls yX8_hold yX8_hold ∈ mGood := mInD lt_se_X8_hold rfl
theorem se_X8_keep : Cond.selects (mName m_X8_keep).cls yX8_keep yX8_keep ∈ mGood := mInD lt_se_X8_keep rfl
theorem se_X8_mean : Cond.selects (mName m_X8_mean).cls yX8_mean yX8_mean ∈ mGood := mInD lt_se_X8_mean rfl
theorem se_X8_note : Cond.selects (mName m_X8_note).cls yX8_note yX8_note ∈ mGood := mInD lt_se_X8_note rfl
theorem se_X8_overlap : Cond.selects (mName m_X8_overlap).cls yX8_overlap yX8_overlap ∈ mGood := mInD lt_se_X8_overlap rfl
theorem se_X8_part : Cond.selects (mName m_X8_part).cls yX8_part yX8_part ∈ mGood := mInD lt_se_X8_part rfl
theorem se_X8_passedOver : Cond.selects (mName m_X8_passedOver).cls yX8_passedOver yX8_passedOver ∈ mGood := mInD lt_se_X8_passedOver rfl
theorem se_X8_place : Cond.selects (mName m_X8_place).cls yX8_place yX8_place ∈ mGood := mInD lt_se_X8_place rfl
theorem se_X8_placeAll : Cond.selects (mName m_X8_placeAll).cls yX8_placeAll yX8_placeAll ∈ mGood := mInD lt_se_X8_placeAll rfl
theorem se_X8_remove : Cond.selects (mName m_X8_remove).cls yX8_remove yX8_remove ∈ mGood := mInD lt_se_X8_remove rfl
theorem se_X8_seat : Cond.selects (mName m_X8_seat).cls yX8_seat yX8_seat ∈ mGood := mInD lt_se_X8_seat rfl
theorem se_X8_set : Cond.selects (mName m_X8_set).cls yX8_set yX8_set ∈ mGood := mInD lt_se_X8_set rfl
theorem se_X8_setting : Cond.selects (mName m_X8_setting).cls yX8_setting yX8_setting ∈ mGood := mInD lt_se_X8_setting rfl
theorem se_X8_singer : Cond.selects (mName m_X8_singer).cls yX8_singer yX8_singer ∈ mGood := mInD lt_se_X8_singer rfl
theorem se_X8_solo : Cond.selects (mName m_X8_solo).cls yX8_solo yX8_solo ∈ mGood := mInD lt_se_X8_solo rfl
theorem se_X8_standIn : Cond.selects (mName m_X8_standIn).cls yX8_standIn yX8_standIn ∈ mGood := mInD lt_se_X8_standIn rfl
theorem se_X8_test : Cond.selects (mName m_X8_test).cls yX8_test yX8_test ∈ mGood := mInD lt_se_X8_test rfl
theorem se_X8_told : Cond.selects (mName m_X8_told).cls yX8_told yX8_told ∈ mGood := mInD lt_se_X8_told rfl
theorem se_X8_undo : Cond.selects (mName m_X8_undo).cls yX8_undo yX8_undo ∈ mGood := mInD lt_se_X8_undo rfl
theorem se_X8_wipe : Cond.selects (mName m_X8_wipe).cls yX8_wipe yX8_wipe ∈ mGood := mInD lt_se_X8_wipe rfl
theorem se_X8_without : Cond.selects (mName m_X8_without).cls yX8_without yX8_without ∈ mGood := mInD lt_se_X8_without rfl
theorem se_X8_write : Cond.selects (mName m_X8_write).cls yX8_write yX8_write ∈ mGood := mInD lt_se_X8_write rfl
theorem se_X9_absent : Cond.selects (mName m_X9_absent).cls yX9_absent yX9_absent ∈ mGood := mInD lt_se_X9_absent rfl
theorem se_X9_add : Cond.selects (mName m_X9_add).cls yX9_add yX9_add ∈ mGood := mInD lt_se_X9_add rfl
theorem se_X9_attendance : Cond.selects (mName m_X9_attendance).cls yX9_attendance yX9_attendance ∈ mGood := mInD lt_se_X9_attendance rfl
theorem se_X9_back : Cond.selects (mName m_X9_back).cls yX9_back yX9_back ∈ mGood := mInD lt_se_X9_back rfl
theorem se_X9_change : Cond.selects (mName m_X9_change).cls yX9_change yX9_change ∈ mGood := mInD lt_se_X9_change rfl
theorem se_X9_covered : Cond.selects (mName m_X9_covered).cls yX9_covered yX9_covered ∈ mGood := mInD lt_se_X9_covered rfl
theorem se_X9_endsWell : Cond.selects (mName m_X9_endsWell).cls yX9_endsWell yX9_endsWell ∈ mGood := mInD lt_se_X9_endsWell rfl
theorem se_X9_fails : Cond.selects (mName m_X9_fails).cls yX9_fails yX9_fails ∈ mGood := mInD lt_se_X9_fails rfl
theorem se_X9_fault : Cond.selects (mName m_X9_fault).cls yX9_fault yX9_fault ∈ mGood := mInD lt_se_X9_fault rfl
theorem se_X9_findBest : Cond.selects (mName m_X9_findBest).cls yX9_findBest yX9_findBest ∈ mGood := mInD lt_se_X9_findBest rfl
theorem se_X9_findRange : Cond.selects (mName m_X9_findRange).cls yX9_findRange yX9_findRange ∈ mGood := mInD lt_se_X9_findRange rfl
theorem se_X9_findSolos : Cond.selects (mName m_X9_findSolos).cls yX9_findSolos yX9_findSolos ∈ mGood := mInD lt_se_X9_findSolos rfl
theorem se_X9_findStandIns : Cond.selects (mName m_X9_findStandIns).cls yX9_findStandIns yX9_findStandIns ∈ mGood := mInD lt_se_X9_findStandIns rfl
theorem se_X9_fits : Cond.selects (mName m_X9_fits).cls yX9_fits yX9_fits ∈ mGood := mInD lt_se_X9_fits rfl
theorem se_X9_hasFault : Cond.selects (mName m_X9_hasFault).cls yX9_hasFault yX9_hasFault ∈ mGood := mInD lt_se_X9_hasFault rfl
theorem se_X9_hold : Cond.selects (mName m_X9_hold).cls yX9_hold yX9_hold ∈ mGood := mInD lt_se_X9_hold rfl
theorem se_X9_isBefore : Cond.selects (mName m_X9_isBefore).cls yX9_isBefore yX9_isBefore ∈ mGood := mInD lt_se_X9_isBefore rfl
theorem se_X9_isFit : Cond.selects (mName m_X9_isFit).cls yX9_isFit yX9_isFit ∈ mGood := mInD lt_se_X9_isFit rfl
theorem se_X9_isFree : Cond.selects (mName m_X9_isFree).cls yX9_isFree yX9_isFree ∈ mGood := mInD lt_se_X9_isFree rfl
theorem se_X9_isRested : Cond.selects (mName m_X9_isRested).cls yX9_isRested yX9_isRested ∈ mGood := mInD lt_se_X9_isRested rfl
theorem se_X9_isSinger : Cond.selects (mName m_X9_isSinger).cls yX9_isSinger yX9_isSinger ∈ mGood := mInD lt_se_X9_isSinger rfl
theorem se_X9_judge : Cond.selects (mName m_X9_judge).cls yX9_judge yX9_judge ∈ mGood := mInD lt_se_X9_judge rfl
theorem se_X9_keep : Cond.selects (mName m_X9_keep).cls yX9_keep yX9_keep ∈ mGood := mInD lt_se_X9_keep rfl
theorem se_X9_mean : Cond.selects (mName m_X9_mean).cls yX9_mean yX9_mean ∈ mGood := mInD lt_se_X9_mean rfl
theorem se_X9_nextPart : Cond.selects (mName m_X9_nextPart).cls yX9_nextPart yX9_nextPart ∈ mGood := mInD lt_se_X9_nextPart rfl
theorem se_X9_note : Cond.selects (mName m_X9_note).cls yX9_note yX9_note ∈ mGood := mInD lt_se_X9_note rfl
theorem se_X9_of : Cond.selects (mName m_X9_of).cls yX9_of yX9_of ∈ mGood := mInD lt_se_X9_of rfl
theorem se_X9_overlap : Cond.selects (mName m_X9_overlap).cls yX9_overlap yX9_overlap ∈ mGood := mInD lt_se_X9_overlap rfl
theorem se_X9_overlapOf : Cond.selects (mName m_X9_overlapOf).cls yX9_overlapOf yX9_overlapOf ∈ mGood := mInD lt_se_X9_overlapOf rfl
theorem se_X9_part : Cond.selects (mName m_X9_part).cls yX9_part yX9_part ∈ mGood := mInD lt_se_X9_part rfl
theorem se_X9_passedOver : Cond.selects (mName m_X9_passedOver).cls yX9_passedOver yX9_passedOver ∈ mGood := mInD lt_se_X9_passedOver rfl
theorem se_X9_place : Cond.selects (mName m_X9_place).cls yX9_place yX9_place ∈ mGood := mInD lt_se_X9_place rfl
theorem se_X9_placeAll : Cond.selects (mName m_X9_placeAll).cls yX9_placeAll yX9_placeAll ∈ mGood := mInD lt_se_X9_placeAll rfl
theorem se_X9_placedIn : Cond.selects (mName m_X9_placedIn).cls yX9_placedIn yX9_placedIn ∈ mGood := mInD lt_se_X9_placedIn rfl
theorem se_X9_presentStrength : Cond.selects (mName m_X9_presentStrength).cls yX9_presentStrength yX9_presentStrength ∈ mGood := mInD lt_se_X9_presentStrength rfl
theorem se_X9_put : Cond.selects (mName m_X9_put).cls yX9_put yX9_put ∈ mGood := mInD lt_se_X9_put rfl
theorem se_X9_rangeSize : Cond.selects (mName m_X9_rangeSize).cls yX9_rangeSize yX9_rangeSize ∈ mGood := mInD lt_se_X9_rangeSize rfl
theorem se_X9_readDigit : Cond.selects (mName m_X9_readDigit).cls yX9_readDigit yX9_readDigit ∈ mGood := mInD lt_se_X9_readDigit rfl
theorem se_X9_readOther : Cond.selects (mName m_X9_readOther).cls yX9_readOther yX9_readOther ∈ mGood := mInD lt_se_X9_readOther rfl
theorem se_X9_remember : Cond.selects (mName m_X9_remember).cls yX9_remember yX9_remember ∈ mGood := mInD lt_se_X9_remember rfl
theorem se_X9_remove : Cond.selects (mName m_X9_remove).cls yX9_remove yX9_remove ∈ mGood := mInD lt_se_X9_remove rfl
theorem se_X9_rows : Cond.selects (mName m_X9_rows).cls yX9_rows yX9_rows ∈ mGood := mInD lt_se_X9_rows rfl
theorem se_X9_seat : Cond.selects (mName m_X9_seat).cls yX9_seat yX9_seat ∈ mGood := mInD lt_se_X9_seat rfl
theorem se_X9_set : Cond.selects (mName m_X9_set).cls yX9_set yX9_set ∈ mGood := mInD lt_se_X9_set rfl
theorem se_X9_setting : Cond.selects (mName m_X9_setting).cls yX9_setting yX9_setting ∈ mGood := mInD lt_se_X9_setting rfl
theorem se_X9_singer : Cond.selects (mName m_X9_singer).cls yX9_singer yX9_singer ∈ mGood := mInD lt_se_X9_singer rfl
theorem se_X9_solo : Cond.selects (mName m_X9_solo).cls yX9_solo yX9_solo ∈ mGood := mInD lt_se_X9_solo rfl
theorem se_X9_standIn : Cond.selects (mName m_X9_standIn).cls yX9_standIn yX9_standIn ∈ mGood := mInD lt_se_X9_standIn rfl
theorem se_X9_strengthOf : Cond.selects (mName m_X9_strengthOf).cls yX9_strengthOf yX9_strengthOf ∈ mGood := mInD lt_se_X9_strengthOf rfl
theorem se_X9_test : Cond.selects (mName m_X9_test).cls yX9_test yX9_test ∈ mGood := mInD lt_se_X9_test rfl
theorem se_X9_told : Cond.selects (mName m_X9_told).cls yX9_told yX9_told ∈ mGood := mInD lt_se_X9_told rfl
theorem se_X9_undo : Cond.selects (mName m_X9_undo).cls yX9_undo yX9_undo ∈ mGood := mInD lt_se_X9_undo rfl
theorem se_X9_wipe : Cond.selects (mName m_X9_wipe).cls yX9_wipe yX9_wipe ∈ mGood := mInD lt_se_X9_wipe rfl
theorem se_X9_without : Cond.selects (mName m_X9_without).cls yX9_without yX9_without ∈ mGood := mInD lt_se_X9_without rfl
theorem se_X9_write : Cond.selects (mName m_X9_write).cls yX9_write yX9_write ∈ mGood := mInD lt_se_X9_write rfl
theorem ini_X0 : Cond.initialized RX0 ∈ mGood := mInD lt_ini_X0 rfl
theorem ins_X0 : Cond.instantiable RX0 8 ∈ mGood := mInD lt_ins_X0 rfl
theorem ini_X1 : Cond.initialized RX1 ∈ mGood := mInD lt_ini_X1 rfl
theorem ins_X1 : Cond.instantiable RX1 3 ∈ mGood := mInD lt_ins_X1 rfl
theorem ini_X2 : Cond.initialized RX2 ∈ mGood := mInD lt_ini_X2 rfl
theorem ins_X2 : Cond.instantiable RX2 10 ∈ mGood := mInD lt_ins_X2 rfl
theorem ini_X3 : Cond.initialized RX3 ∈ mGood := mInD lt_ini_X3 rfl
theorem ins_X3 : Cond.instantiable RX3 11 ∈ mGood := mInD lt_ins_X3 rfl
theorem ini_X4 : Cond.initialized RX4 ∈ mGood := mInD lt_ini_X4 rfl
theorem ins_X4 : Cond.instantiable RX4 3 ∈ mGood := mInD lt_ins_X4 rfl
theorem ini_X5 : Cond.initialized RX5 ∈ mGood := mInD lt_ini_X5 rfl
theorem ins_X5 : Cond.instantiable RX5 11 ∈ mGood := mInD lt_ins_X5 rfl
theorem ini_X6 : Cond.initialized RX6 ∈ mGood := mInD lt_ini_X6 rfl
theorem ins_X6 : Cond.instantiable RX6 2 ∈ mGood := mInD lt_ins_X6 rfl
theorem ini_X7 : Cond.initialized RX7 ∈ mGood := mInD lt_ini_X7 rfl
theorem ins_X7 : Cond.instantiable RX7 2 ∈ mGood := mInD lt_ins_X7 rfl
theorem ini_X8 : Cond.initialized RX8 ∈ mGood := mInD lt_ini_X8 rfl
theorem ins_X8 : Cond.instantiable RX8 8 ∈ mGood := mInD lt_ins_X8 rfl
theorem ini_X9 : Cond.initialized RX9 ∈ mGood := mInD lt_ini_X9 rfl
theorem ins_X9 : Cond.instantiable RX9 31 ∈ mGood := mInD lt_ins_X9 rfl
theorem cl_X0_9 : Cond.classLink RX0 9 RX5 ∈ mGood := mInD lt_cl_X0_9 rfl
theorem cl_X1_9 : Cond.classLink RX1 9 RX0 ∈ mGood := mInD lt_cl_X1_9 rfl
theorem cl_X2_9 : Cond.classLink RX2 9 RX6 ∈ mGood := mInD lt_cl_X2_9 rfl
theorem cl_X8_7 : Cond.classLink RX8 7 RX0 ∈ mGood := mInD lt_cl_X8_7 rfl
theorem cl_X8_16 : Cond.classLink RX8 16 RX1 ∈ mGood := mInD lt_cl_X8_16 rfl
theorem cl_X8_31 : Cond.classLink RX8 31 RX7 ∈ mGood := mInD lt_cl_X8_31 rfl
theorem cl_X8_38 : Cond.classLink RX8 38 RX3 ∈ mGood := mInD lt_cl_X8_38 rfl
theorem cl_X8_45 : Cond.classLink RX8 45 RX4 ∈ mGood := mInD lt_cl_X8_45 rfl
theorem cl_X8_52 : Cond.classLink RX8 52 RX2 ∈ mGood := mInD lt_cl_X8_52 rfl
theorem cl_L_7 : Cond.classLink RL 7 RX8 ∈ mGood := mInD lt_cl_L_7 rfl
theorem cl_L_10 : Cond.classLink RL 10 RX9 ∈ mGood := mInD lt_cl_L_10 rfl
theorem ac_int : Cond.arrayClass .int ∈ mGood := mInD lt_ac_int rfl
theorem ac_long : Cond.arrayClass .long ∈ mGood := mInD lt_ac_long rfl
theorem ac_boolean : Cond.arrayClass .boolean ∈ mGood := mInD lt_ac_boolean rfl
theorem cf_X8_246 : Cond.constantFloat RX8 246 (1082130432) ∈ mGood := mInD lt_cf_X8_246 rfl
theorem cf_X9_209 : Cond.constantFloat RX9 209 (1082130432) ∈ mGood := mInD lt_cf_X9_209 rfl
theorem ck_X3_98 : Cond.constantLong RX3 98 (-1) ∈ mGood := mInD lt_ck_X3_98 rfl
theorem ck_X6_30 : Cond.constantLong RX6 30 (-1) ∈ mGood := mInD lt_ck_X6_30 rfl
theorem ok_X0_init : mOk m_X0_init 0 := ⟨mInD lt_ok_X0_init rfl, ini_X0, by decide +kernel, by decide⟩
theorem ok_X0_copyFrom : mOk m_X0_copyFrom 1 := ⟨mInD lt_ok_X0_copyFrom rfl, ini_X0, by decide +kernel, by decide⟩
theorem ok_X0_has : mOk m_X0_has 1 := ⟨mInD lt_ok_X0_has rfl, ini_X0, by decide +kernel, by decide⟩
theorem ok_X0_join : mOk m_X0_join 2 := ⟨mInD lt_ok_X0_join rfl, ini_X0, by decide +kernel, by decide⟩
theorem ok_X0_dismiss : mOk m_X0_dismiss 1 := ⟨mInD lt_ok_X0_dismiss rfl, ini_X0, by decide +kernel, by decide⟩
theorem ok_X0_fits : mOk m_X0_fits 2 := ⟨mInD lt_ok_X0_fits rfl, ini_X0, by decide +kernel, by decide⟩
theorem ok_X0_fittingParts : mOk m_X0_fittingParts 1 := ⟨mInD lt_ok_X0_fittingParts rfl, ini_X0, by decide +kernel, by decide⟩
theorem ok_X0_placed : mOk m_X0_placed 0 := ⟨mInD lt_ok_X0_placed rfl, ini_X0, by decide +kernel, by decide⟩
theorem ok_X0_absent : mOk m_X0_absent 0 := ⟨mInD lt_ok_X0_absent rfl, ini_X0, by decide +kernel, by decide⟩
theorem ok_X0_members : mOk m_X0_members 1 := ⟨mInD lt_ok_X0_members rfl, ini_X0, by decide +kernel, by decide⟩
theorem ok_X0_strength : mOk m_X0_strength 1 := ⟨mInD lt_ok_X0_strength rfl, ini_X0, by decide +kernel, by decide⟩
theorem ok_X0_strengthPresent : mOk m_X0_strengthPresent 1 := ⟨mInD lt_ok_X0_strengthPresent rfl, ini_X0, by decide +kernel, by decide⟩
theorem ok_X0_covers : mOk m_X0_covers 1 := ⟨mInD lt_ok_X0_covers rfl, ini_X0, by decide +kernel, by decide⟩
theorem ok_X0_coveredParts : mOk m_X0_coveredParts 0 := ⟨mInD lt_ok_X0_coveredParts rfl, ini_X0, by decide +kernel, by decide⟩
theorem ok_X0_rested : mOk m_X0_rested 1 := ⟨mInD lt_ok_X0_rested rfl, ini_X0, by decide +kernel, by decide⟩
theorem ok_X0_width : mOk m_X0_width 0 := ⟨mInD lt_ok_X0_width rfl, ini_X0, by decide +kernel, by decide⟩
theorem ok_X0_rows : mOk m_X0_rows 1 := ⟨mInD lt_ok_X0_rows rfl, ini_X0, by decide +kernel, by decide⟩
theorem ok_X0_rowsBefore : mOk m_X0_rowsBefore 1 := ⟨mInD lt_ok_X0_rowsBefore rfl, ini_X0, by decide +kernel, by decide⟩
theorem ok_X0_seatedBefore : mOk m_X0_seatedBefore 1 := ⟨mInD lt_ok_X0_seatedBefore rfl, ini_X0, by decide +kernel, by decide⟩
theorem ok_X1_init : mOk m_X1_init 0 := ⟨mInD lt_ok_X1_init rfl, ini_X1, by decide +kernel, by decide⟩
theorem ok_X1_record : mOk m_X1_record 1 := ⟨mInD lt_ok_X1_record rfl, ini_X1, by decide +kernel, by decide⟩
theorem ok_X1_restore : mOk m_X1_restore 1 := ⟨mInD lt_ok_X1_restore rfl, ini_X1, by decide +kernel, by decide⟩
theorem ok_X2_init : mOk m_X2_init 0 := ⟨mInD lt_ok_X2_init rfl, ini_X2, by decide +kernel, by decide⟩
theorem ok_X2_weigh : mOk m_X2_weigh 2 := ⟨mInD lt_ok_X2_weigh rfl, ini_X2, by decide +kernel, by decide⟩
theorem ok_X2_addVoice : mOk m_X2_addVoice 3 := ⟨mInD lt_ok_X2_addVoice rfl, ini_X2, by decide +kernel, by decide⟩
theorem ok_X2_weighPairs : mOk m_X2_weighPairs 2 := ⟨mInD lt_ok_X2_weighPairs rfl, ini_X2, by decide +kernel, by decide⟩
theorem ok_X2_choose : mOk m_X2_choose 1 := ⟨mInD lt_ok_X2_choose rfl, ini_X2, by decide +kernel, by decide⟩
theorem ok_X2_firstGoodPart : mOk m_X2_firstGoodPart 1 := ⟨mInD lt_ok_X2_firstGoodPart rfl, ini_X2, by decide +kernel, by decide⟩
theorem ok_X2_canFinish : mOk m_X2_canFinish 1 := ⟨mInD lt_ok_X2_canFinish rfl, ini_X2, by decide +kernel, by decide⟩
theorem ok_X2_pairCanReach : mOk m_X2_pairCanReach 3 := ⟨mInD lt_ok_X2_pairCanReach rfl, ini_X2, by decide +kernel, by decide⟩
theorem ok_X3_init : mOk m_X3_init 0 := ⟨mInD lt_ok_X3_init rfl, ini_X3, by decide +kernel, by decide⟩
theorem ok_X3_readTests : mOk m_X3_readTests 2 := ⟨mInD lt_ok_X3_readTests rfl, ini_X3, by decide +kernel, by decide⟩
theorem ok_X3_readAbsent : mOk m_X3_readAbsent 2 := ⟨mInD lt_ok_X3_readAbsent rfl, ini_X3, by decide +kernel, by decide⟩
theorem ok_X3_read : mOk m_X3_read 1 := ⟨mInD lt_ok_X3_read rfl, ini_X3, by decide +kernel, by decide⟩
theorem ok_X3_take : mOk m_X3_take 2 := ⟨mInD lt_ok_X3_take rfl, ini_X3, by decide +kernel, by decide⟩
theorem ok_X3_inNumber : mOk m_X3_inNumber 0 := ⟨mInD lt_ok_X3_inNumber rfl, ini_X3, by decide +kernel, by decide⟩
theorem ok_X3_beginNumber : mOk m_X3_beginNumber 2 := ⟨mInD lt_ok_X3_beginNumber rfl, ini_X3, by decide +kernel, by decide⟩
theorem ok_X3_takeDigit : mOk m_X3_takeDigit 2 := ⟨mInD lt_ok_X3_takeDigit rfl, ini_X3, by decide +kernel, by decide⟩
theorem ok_X3_takeBehindNumber : mOk m_X3_takeBehindNumber 2 := ⟨mInD lt_ok_X3_takeBehindNumber rfl, ini_X3, by decide +kernel, by decide⟩
theorem ok_X3_end : mOk m_X3_end 1 := ⟨mInD lt_ok_X3_end rfl, ini_X3, by decide +kernel, by decide⟩
theorem ok_X3_numberStands : mOk m_X3_numberStands 0 := ⟨mInD lt_ok_X3_numberStands rfl, ini_X3, by decide +kernel, by decide⟩
theorem ok_X3_closeWord : mOk m_X3_closeWord 1 := ⟨mInD lt_ok_X3_closeWord rfl, ini_X3, by decide +kernel, by decide⟩
theorem ok_X3_fail : mOk m_X3_fail 2 := ⟨mInD lt_ok_X3_fail rfl, ini_X3, by decide +kernel, by decide⟩
theorem ok_X4_init : mOk m_X4_init 0 := ⟨mInD lt_ok_X4_init rfl, ini_X4, by decide +kernel, by decide⟩
theorem ok_X4_plan : mOk m_X4_plan 1 := ⟨mInD lt_ok_X4_plan rfl, ini_X4, by decide +kernel, by decide⟩
theorem ok_X4_findStandIns : mOk m_X4_findStandIns 2 := ⟨mInD lt_ok_X4_findStandIns rfl, ini_X4, by decide +kernel, by decide⟩
theorem ok_X4_canStandIn : mOk m_X4_canStandIn 3 := ⟨mInD lt_ok_X4_canStandIn rfl, ini_X4, by decide +kernel, by decide⟩
theorem ok_X4_findSoloist : mOk m_X4_findSoloist 2 := ⟨mInD lt_ok_X4_findSoloist rfl, ini_X4, by decide +kernel, by decide⟩
theorem ok_X4_happen : mOk m_X4_happen 1 := ⟨mInD lt_ok_X4_happen rfl, ini_X4, by decide +kernel, by decide⟩
theorem ok_X5_init : mOk m_X5_init 0 := ⟨mInD lt_ok_X5_init rfl, ini_X5, by decide +kernel, by decide⟩
theorem ok_X5_begin : mOk m_X5_begin 2 := ⟨mInD lt_ok_X5_begin rfl, ini_X5, by decide +kernel, by decide⟩
theorem ok_X5_copyFrom : mOk m_X5_copyFrom 1 := ⟨mInD lt_ok_X5_copyFrom rfl, ini_X5, by decide +kernel, by decide⟩
theorem ok_X5_learn : mOk m_X5_learn 2 := ⟨mInD lt_ok_X5_learn rfl, ini_X5, by decide +kernel, by decide⟩
theorem ok_X5_notesIn : mOk m_X5_notesIn 1 := ⟨mInD lt_ok_X5_notesIn rfl, ini_X5, by decide +kernel, by decide⟩
theorem ok_X5_sitsBefore : mOk m_X5_sitsBefore 2 := ⟨mInD lt_ok_X5_sitsBefore rfl, ini_X5, by decide +kernel, by decide⟩
theorem ok_X5_singsBefore : mOk m_X5_singsBefore 1 := ⟨mInD lt_ok_X5_singsBefore rfl, ini_X5, by decide +kernel, by decide⟩
theorem ok_X6_init : mOk m_X6_init 0 := ⟨mInD lt_ok_X6_init rfl, ini_X6, by decide +kernel, by decide⟩
theorem ok_X6_addVoice : mOk m_X6_addVoice 4 := ⟨mInD lt_ok_X6_addVoice rfl, ini_X6, by decide +kernel, by decide⟩
theorem ok_X6_evenest : mOk m_X6_evenest 2 := ⟨mInD lt_ok_X6_evenest rfl, ini_X6, by decide +kernel, by decide⟩
theorem ok_X6_gives : mOk m_X6_gives 2 := ⟨mInD lt_ok_X6_gives rfl, ini_X6, by decide +kernel, by decide⟩
theorem ok_X6_reaches : mOk m_X6_reaches 3 := ⟨mInD lt_ok_X6_reaches rfl, ini_X6, by decide +kernel, by decide⟩
theorem ok_X6_bits : mOk m_X6_bits 2 := ⟨mInD lt_ok_X6_bits rfl, ini_X6, by decide +kernel, by decide⟩
theorem ok_X7_init : mOk m_X7_init 0 := ⟨mInD lt_ok_X7_init rfl, ini_X7, by decide +kernel, by decide⟩
theorem ok_X8_init : mOk m_X8_init 0 := ⟨mInD lt_ok_X8_init rfl, ini_X8, by decide +kernel, by decide⟩
theorem ok_X8_add : mOk m_X8_add 2 := ⟨mInD lt_ok_X8_add rfl, ini_X8, by decide +kernel, by decide⟩
theorem ok_X8_remove : mOk m_X8_remove 1 := ⟨mInD lt_ok_X8_remove rfl, ini_X8, by decide +kernel, by decide⟩
theorem ok_X8_set : mOk m_X8_set 2 := ⟨mInD lt_ok_X8_set rfl, ini_X8, by decide +kernel, by decide⟩
theorem ok_X8_test : mOk m_X8_test 1 := ⟨mInD lt_ok_X8_test rfl, ini_X8, by decide +kernel, by decide⟩
theorem ok_X8_place : mOk m_X8_place 2 := ⟨mInD lt_ok_X8_place rfl, ini_X8, by decide +kernel, by decide⟩
theorem ok_X8_placeAll : mOk m_X8_placeAll 0 := ⟨mInD lt_ok_X8_placeAll rfl, ini_X8, by decide +kernel, by decide⟩
theorem ok_X8_attendance : mOk m_X8_attendance 0 := ⟨mInD lt_ok_X8_attendance rfl, ini_X8, by decide +kernel, by decide⟩
theorem ok_X8_hold : mOk m_X8_hold 0 := ⟨mInD lt_ok_X8_hold rfl, ini_X8, by decide +kernel, by decide⟩
theorem ok_X8_undo : mOk m_X8_undo 0 := ⟨mInD lt_ok_X8_undo rfl, ini_X8, by decide +kernel, by decide⟩
theorem ok_X8_write : mOk m_X8_write 1 := ⟨mInD lt_ok_X8_write rfl, ini_X8, by decide +kernel, by decide⟩
theorem ok_X8_wipe : mOk m_X8_wipe 0 := ⟨mInD lt_ok_X8_wipe rfl, ini_X8, by decide +kernel, by decide⟩
theorem ok_X8_fault : mOk m_X8_fault 1 := ⟨mInD lt_ok_X8_fault rfl, ini_X8, by decide +kernel, by decide⟩
theorem ok_X8_told : mOk m_X8_told 1 := ⟨mInD lt_ok_X8_told rfl, ini_X8, by decide +kernel, by decide⟩
theorem ok_X8_setting : mOk m_X8_setting 1 := ⟨mInD lt_ok_X8_setting rfl, ini_X8, by decide +kernel, by decide⟩
theorem ok_X8_singer : mOk m_X8_singer 2 := ⟨mInD lt_ok_X8_singer rfl, ini_X8, by decide +kernel, by decide⟩
theorem ok_X8_note : mOk m_X8_note 2 := ⟨mInD lt_ok_X8_note rfl, ini_X8, by decide +kernel, by decide⟩
theorem ok_X8_overlap : mOk m_X8_overlap 2 := ⟨mInD lt_ok_X8_overlap rfl, ini_X8, by decide +kernel, by decide⟩
theorem ok_X8_part : mOk m_X8_part 2 := ⟨mInD lt_ok_X8_part rfl, ini_X8, by decide +kernel, by decide⟩
theorem ok_X8_seat : mOk m_X8_seat 2 := ⟨mInD lt_ok_X8_seat rfl, ini_X8, by decide +kernel, by decide⟩
theorem ok_X8_solo : mOk m_X8_solo 2 := ⟨mInD lt_ok_X8_solo rfl, ini_X8, by decide +kernel, by decide⟩
theorem ok_X8_mean : mOk m_X8_mean 0 := ⟨mInD lt_ok_X8_mean rfl, ini_X8, by decide +kernel, by decide⟩
theorem ok_X8_standIn : mOk m_X8_standIn 1 := ⟨mInD lt_ok_X8_standIn rfl, ini_X8, by decide +kernel, by decide⟩
theorem ok_X8_passedOver : mOk m_X8_passedOver 1 := ⟨mInD lt_ok_X8_passedOver rfl, ini_X8, by decide +kernel, by decide⟩
theorem ok_X8_without : mOk m_X8_without 1 := ⟨mInD lt_ok_X8_without rfl, ini_X8, by decide +kernel, by decide⟩
theorem ok_X8_keep : mOk m_X8_keep 1 := ⟨mInD lt_ok_X8_keep rfl, ini_X8, by decide +kernel, by decide⟩
theorem ok_X8_back : mOk m_X8_back 1 := ⟨mInD lt_ok_X8_back rfl, ini_X8, by decide +kernel, by decide⟩
theorem ok_X8_isSetting : mOk m_X8_isSetting 1 := ⟨mInD lt_ok_X8_isSetting rfl, ini_X8, by decide +kernel, by decide⟩
theorem ok_X8_isPart : mOk m_X8_isPart 1 := ⟨mInD lt_ok_X8_isPart rfl, ini_X8, by decide +kernel, by decide⟩
theorem ok_X8_isImage : mOk m_X8_isImage 1 := ⟨mInD lt_ok_X8_isImage rfl, ini_X8, by decide +kernel, by decide⟩
theorem ok_X8_contains : mOk m_X8_contains 2 := ⟨mInD lt_ok_X8_contains rfl, ini_X8, by decide +kernel, by decide⟩
theorem ok_X9_init : mOk m_X9_init 0 := ⟨mInD lt_ok_X9_init rfl, ini_X9, by decide +kernel, by decide⟩
theorem ok_X9_isIn : mOk m_X9_isIn 3 := ⟨mInD lt_ok_X9_isIn rfl, ini_X9, by decide +kernel, by decide⟩
theorem ok_X9_remember : mOk m_X9_remember 0 := ⟨mInD lt_ok_X9_remember rfl, ini_X9, by decide +kernel, by decide⟩
theorem ok_X9_of : mOk m_X9_of 2 := ⟨mInD lt_ok_X9_of rfl, ini_X9, by decide +kernel, by decide⟩
theorem ok_X9_put : mOk m_X9_put 3 := ⟨mInD lt_ok_X9_put rfl, ini_X9, by decide +kernel, by decide⟩
theorem ok_X9_isSinger : mOk m_X9_isSinger 1 := ⟨mInD lt_ok_X9_isSinger rfl, ini_X9, by decide +kernel, by decide⟩
theorem ok_X9_isPart : mOk m_X9_isPart 1 := ⟨mInD lt_ok_X9_isPart rfl, ini_X9, by decide +kernel, by decide⟩
theorem ok_X9_findRange : mOk m_X9_findRange 1 := ⟨mInD lt_ok_X9_findRange rfl, ini_X9, by decide +kernel, by decide⟩
theorem ok_X9_overlapOf : mOk m_X9_overlapOf 2 := ⟨mInD lt_ok_X9_overlapOf rfl, ini_X9, by decide +kernel, by decide⟩
theorem ok_X9_isFit : mOk m_X9_isFit 2 := ⟨mInD lt_ok_X9_isFit rfl, ini_X9, by decide +kernel, by decide⟩
theorem ok_X9_fits : mOk m_X9_fits 1 := ⟨mInD lt_ok_X9_fits rfl, ini_X9, by decide +kernel, by decide⟩
theorem ok_X9_judge : mOk m_X9_judge 0 := ⟨mInD lt_ok_X9_judge rfl, ini_X9, by decide +kernel, by decide⟩
theorem ok_X9_nextPart : mOk m_X9_nextPart 2 := ⟨mInD lt_ok_X9_nextPart rfl, ini_X9, by decide +kernel, by decide⟩
theorem ok_X9_change : mOk m_X9_change 2 := ⟨mInD lt_ok_X9_change rfl, ini_X9, by decide +kernel, by decide⟩
theorem ok_X9_findBest : mOk m_X9_findBest 1 := ⟨mInD lt_ok_X9_findBest rfl, ini_X9, by decide +kernel, by decide⟩
theorem ok_X9_placeAll : mOk m_X9_placeAll 0 := ⟨mInD lt_ok_X9_placeAll rfl, ini_X9, by decide +kernel, by decide⟩
theorem ok_X9_without : mOk m_X9_without 1 := ⟨mInD lt_ok_X9_without rfl, ini_X9, by decide +kernel, by decide⟩
theorem ok_X9_presentStrength : mOk m_X9_presentStrength 1 := ⟨mInD lt_ok_X9_presentStrength rfl, ini_X9, by decide +kernel, by decide⟩
theorem ok_X9_isFree : mOk m_X9_isFree 2 := ⟨mInD lt_ok_X9_isFree rfl, ini_X9, by decide +kernel, by decide⟩
theorem ok_X9_findStandIns : mOk m_X9_findStandIns 0 := ⟨mInD lt_ok_X9_findStandIns rfl, ini_X9, by decide +kernel, by decide⟩
theorem ok_X9_isRested : mOk m_X9_isRested 1 := ⟨mInD lt_ok_X9_isRested rfl, ini_X9, by decide +kernel, by decide⟩
theorem ok_X9_isBefore : mOk m_X9_isBefore 2 := ⟨mInD lt_ok_X9_isBefore rfl, ini_X9, by decide +kernel, by decide⟩
theorem ok_X9_findSolos : mOk m_X9_findSolos 0 := ⟨mInD lt_ok_X9_findSolos rfl, ini_X9, by decide +kernel, by decide⟩
theorem ok_X9_hold : mOk m_X9_hold 0 := ⟨mInD lt_ok_X9_hold rfl, ini_X9, by decide +kernel, by decide⟩
theorem ok_X9_fails : mOk m_X9_fails 2 := ⟨mInD lt_ok_X9_fails rfl, ini_X9, by decide +kernel, by decide⟩
theorem ok_X9_endsWell : mOk m_X9_endsWell 0 := ⟨mInD lt_ok_X9_endsWell rfl, ini_X9, by decide +kernel, by decide⟩
theorem ok_X9_readDigit : mOk m_X9_readDigit 1 := ⟨mInD lt_ok_X9_readDigit rfl, ini_X9, by decide +kernel, by decide⟩
theorem ok_X9_readOther : mOk m_X9_readOther 2 := ⟨mInD lt_ok_X9_readOther rfl, ini_X9, by decide +kernel, by decide⟩
theorem ok_X9_hasFault : mOk m_X9_hasFault 1 := ⟨mInD lt_ok_X9_hasFault rfl, ini_X9, by decide +kernel, by decide⟩
theorem ok_X9_rangeSize : mOk m_X9_rangeSize 1 := ⟨mInD lt_ok_X9_rangeSize rfl, ini_X9, by decide +kernel, by decide⟩
theorem ok_X9_test : mOk m_X9_test 1 := ⟨mInD lt_ok_X9_test rfl, ini_X9, by decide +kernel, by decide⟩
theorem ok_X9_absent : mOk m_X9_absent 0 := ⟨mInD lt_ok_X9_absent rfl, ini_X9, by decide +kernel, by decide⟩
theorem ok_X9_attendance : mOk m_X9_attendance 0 := ⟨mInD lt_ok_X9_attendance rfl, ini_X9, by decide +kernel, by decide⟩
theorem ok_X9_write : mOk m_X9_write 1 := ⟨mInD lt_ok_X9_write rfl, ini_X9, by decide +kernel, by decide⟩
theorem ok_X9_wipe : mOk m_X9_wipe 0 := ⟨mInD lt_ok_X9_wipe rfl, ini_X9, by decide +kernel, by decide⟩
theorem ok_X9_fault : mOk m_X9_fault 1 := ⟨mInD lt_ok_X9_fault rfl, ini_X9, by decide +kernel, by decide⟩
theorem ok_X9_add : mOk m_X9_add 2 := ⟨mInD lt_ok_X9_add rfl, ini_X9, by decide +kernel, by decide⟩
theorem ok_X9_remove : mOk m_X9_remove 1 := ⟨mInD lt_ok_X9_remove rfl, ini_X9, by decide +kernel, by decide⟩
theorem ok_X9_isOf : mOk m_X9_isOf 2 := ⟨mInD lt_ok_X9_isOf rfl, ini_X9, by decide +kernel, by decide⟩
theorem ok_X9_set : mOk m_X9_set 2 := ⟨mInD lt_ok_X9_set rfl, ini_X9, by decide +kernel, by decide⟩
theorem ok_X9_place : mOk m_X9_place 2 := ⟨mInD lt_ok_X9_place rfl, ini_X9, by decide +kernel, by decide⟩
theorem ok_X9_undo : mOk m_X9_undo 0 := ⟨mInD lt_ok_X9_undo rfl, ini_X9, by decide +kernel, by decide⟩
theorem ok_X9_placedIn : mOk m_X9_placedIn 1 := ⟨mInD lt_ok_X9_placedIn rfl, ini_X9, by decide +kernel, by decide⟩
theorem ok_X9_covered : mOk m_X9_covered 0 := ⟨mInD lt_ok_X9_covered rfl, ini_X9, by decide +kernel, by decide⟩
theorem ok_X9_told : mOk m_X9_told 1 := ⟨mInD lt_ok_X9_told rfl, ini_X9, by decide +kernel, by decide⟩
theorem ok_X9_setting : mOk m_X9_setting 1 := ⟨mInD lt_ok_X9_setting rfl, ini_X9, by decide +kernel, by decide⟩
theorem ok_X9_singer : mOk m_X9_singer 2 := ⟨mInD lt_ok_X9_singer rfl, ini_X9, by decide +kernel, by decide⟩
theorem ok_X9_note : mOk m_X9_note 2 := ⟨mInD lt_ok_X9_note rfl, ini_X9, by decide +kernel, by decide⟩
theorem ok_X9_overlap : mOk m_X9_overlap 2 := ⟨mInD lt_ok_X9_overlap rfl, ini_X9, by decide +kernel, by decide⟩
theorem ok_X9_strengthOf : mOk m_X9_strengthOf 1 := ⟨mInD lt_ok_X9_strengthOf rfl, ini_X9, by decide +kernel, by decide⟩
theorem ok_X9_rows : mOk m_X9_rows 1 := ⟨mInD lt_ok_X9_rows rfl, ini_X9, by decide +kernel, by decide⟩
theorem ok_X9_part : mOk m_X9_part 2 := ⟨mInD lt_ok_X9_part rfl, ini_X9, by decide +kernel, by decide⟩
theorem ok_X9_seat : mOk m_X9_seat 2 := ⟨mInD lt_ok_X9_seat rfl, ini_X9, by decide +kernel, by decide⟩
theorem ok_X9_solo : mOk m_X9_solo 2 := ⟨mInD lt_ok_X9_solo rfl, ini_X9, by decide +kernel, by decide⟩
theorem ok_X9_mean : mOk m_X9_mean 0 := ⟨mInD lt_ok_X9_mean rfl, ini_X9, by decide +kernel, by decide⟩
theorem ok_X9_standIn : mOk m_X9_standIn 1 := ⟨mInD lt_ok_X9_standIn rfl, ini_X9, by decide +kernel, by decide⟩
theorem ok_X9_passedOver : mOk m_X9_passedOver 1 := ⟨mInD lt_ok_X9_passedOver rfl, ini_X9, by decide +kernel, by decide⟩
theorem ok_X9_isImage : mOk m_X9_isImage 1 := ⟨mInD lt_ok_X9_isImage rfl, ini_X9, by decide +kernel, by decide⟩
theorem ok_X9_keep : mOk m_X9_keep 1 := ⟨mInD lt_ok_X9_keep rfl, ini_X9, by decide +kernel, by decide⟩
theorem ok_X9_back : mOk m_X9_back 1 := ⟨mInD lt_ok_X9_back rfl, ini_X9, by decide +kernel, by decide⟩
end
section
/-! the shape of the two systems, once made: which object is which, by the order in which they are made -/
def kL : List (Nat ⊕ (Nat × Nat)) := [.inl 8, .inl 0, .inr (3, 10), .inl 5, .inl 5, .inl 5, .inl 5, .inl 5, .inl 5, .inl 5, .inl 5, .inl 5, .inl 5, .inr (0, 4), .inr (0, 160), .inr (0, 4), .inl 1, .inr (4, 8), .inl 0, .inr (3, 10), .inl 5, .inl 5, .inl 5, .inl 5, .inl 5, .inl 5, .inl 5, .inl 5, .inl 5, .inl 5, .inr (0, 4), .inr (0, 160), .inr (0, 4), .inl 0, .inr (3, 10), .inl 5, .inl 5, .inl 5, .inl 5, .inl 5, .inl 5, .inl 5, .inl 5, .inl 5, .inl 5, .inr (0, 4), .inr (0, 160), .inr (0, 4), .inl 0, .inr (3, 10), .inl 5, .inl 5, .inl 5, .inl 5, .inl 5, .inl 5, .inl 5, .inl 5, .inl 5, .inl 5, .inr (0, 4), .inr (0, 160), .inr (0, 4), .inl 0, .inr (3, 10), .inl 5, .inl 5, .inl 5, .inl 5, .inl 5, .inl 5, .inl 5, .inl 5, .inl 5, .inl 5, .inr (0, 4), .inr (0, 160), .inr (0, 4), .inl 0, .inr (3, 10), .inl 5, .inl 5, .inl 5, .inl 5, .inl 5, .inl 5, .inl 5, .inl 5, .inl 5, .inl 5, .inr (0, 4), .inr (0, 160), .inr (0, 4), .inl 0, .inr (3, 10), .inl 5, .inl 5, .inl 5, .inl 5, .inl 5, .inl 5, .inl 5, .inl 5, .inl 5, .inl 5, .inr (0, 4), .inr (0, 160), .inr (0, 4), .inl 0, .inr (3, 10), .inl 5, .inl 5, .inl 5, .inl 5, .inl 5, .inl 5, .inl 5, .inl 5, .inl 5, .inl 5, .inr (0, 4), .inr (0, 160), .inr (0, 4), .inl 0, .inr (3, 10), .inl 5, .inl 5, .inl 5, .inl 5, .inl 5, .inl 5, .inl 5, .inl 5, .inl 5, .inl 5, .inr (0, 4), .inr (0, 160), .inr (0, 4), .inr (4, 2), .inl 0, .inr (3, 10), .inl 5, .inl 5, .inl 5, .inl 5, .inl 5, .inl 5, .inl 5, .inl 5, .inl 5, .inl 5, .inr (0, 4), .inr (0, 160), .inr (0, 4), .inl 0, .inr (3, 10), .inl 5, .inl 5, .inl 5, .inl 5, .inl 5, .inl 5, .inl 5, .inl 5, .inl 5, .inl 5, .inr (0, 4), .inr (0, 160), .inr (0, 4), .inr (2, 2), .inl 7, .inr (0, 60), .inl 3, .inl 4, .inr (0, 10), .inr (0, 4), .inr (0, 4), .inl 2, .inl 6, .inr (1, 1024), .inr (1, 1024), .inl 6, .inr (1, 1024), .inr (1, 1024), .inr (0, 1024), .inr (0, 4), .inr (0, 10), .inr (0, 10), .inr (0, 10), .inl 9, .inr (0, 652), .inr (0, 5216), .inr (0, 1304), .inr (0, 60), .inr (0, 10), .inr (0, 10), .inr (0, 10), .inr (0, 4), .inr (0, 10), .inr (0, 4), .inr (0, 4), .inr (0, 30), .inr (0, 30), .inr (0, 30)]
def rL : List (List (Option Nat)) := [[some 1, some 16, some 138, some 169, some 170, some 172, some 173, some 177], [some 2, some 13, some 14, some 15], [some 3, some 4, some 5, some 6, some 7, some 8, some 9, some 10, some 11, some 12], [], [], [], [], [], [], [], [], [], [], [], [], [], [some 17], [some 18, some 33, some 48, some 63, some 78, some 93, some 108, some 123], [some 19, some 30, some 31, some 32], [some 20, some 21, some 22, some 23, some 24, some 25, some 26, some 27, some 28, some 29], [], [], [], [], [], [], [], [], [], [], [], [], [], [some 34, some 45, some 46, some 47], [some 35, some 36, some 37, some 38, some 39, some 40, some 41, some 42, some 43, some 44], [], [], [], [], [], [], [], [], [], [], [], [], [], [some 49, some 60, some 61, some 62], [some 50, some 51, some 52, some 53, some 54, some 55, some 56, some 57, some 58, some 59], [], [], [], [], [], [], [], [], [], [], [], [], [], [some 64, some 75, some 76, some 77], [some 65, some 66, some 67, some 68, some 69, some 70, some 71, some 72, some 73, some 74], [], [], [], [], [], [], [], [], [], [], [], [], [], [some 79, some 90, some 91, some 92], [some 80, some 81, some 82, some 83, some 84, some 85, some 86, some 87, some 88, some 89], [], [], [], [], [], [], [], [], [], [], [], [], [], [some 94, some 105, some 106, some 107], [some 95, some 96, some 97, some 98, some 99, some 100, some 101, some 102, some 103, some 104], [], [], [], [], [], [], [], [], [], [], [], [], [], [some 109, some 120, some 121, some 122], [some 110, some 111, some 112, some 113, some 114, some 115, some 116, some 117, some 118, some 119], [], [], [], [], [], [], [], [], [], [], [], [], [], [some 124, some 135, some 136, some 137], [some 125, some 126, some 127, some 128, some 129, some 130, some 131, some 132, some 133, some 134], [], [], [], [], [], [], [], [], [], [], [], [], [], [some 139, some 154], [some 140, some 151, some 152, some 153], [some 141, some 142, some 143, some 144, some 145, some 146, some 147, some 148, some 149, some 150], [], [], [], [], [], [], [], [], [], [], [], [], [], [some 155, some 166, some 167, some 168], [some 156, some 157, some 158, some 159, some 160, some 161, some 162, some 163, some 164, some 165], [], [], [], [], [], [], [], [], [], [], [], [], [], [], [some 171], [], [], [some 174, some 175, some 176], [], [], [], [some 178, some 181, some 184, some 185, some 186, some 187, some 188], [some 179, some 180], [], [], [some 182, some 183], [], [], [], [], [], [], [], [some 190, some 191, none, some 192, none, some 193, none, none, none, none, none, some 194, some 195, some 196, some 197, none, none, some 198, some 199, some 200, none, some 201, some 202, some 203], [], [], [], [], [], [], [], [], [], [], [], [], [], []]
def K0 (a : Nat) : Nat ⊕ (Nat × Nat) := kL.getD a (.inl 0)
def R0 (a : Nat) (b : Int) : Option Nat := (rL.getD a []).getD b.toNat none
/-- a state of the made systems: what their ints and longs are -/
abbrev st (i : Nat → Int → Int) (l : Nat → Int → BitVec 64) : mS := (204, K0, i, l, R0)
def cL : List Nat := [1, 18, 33, 48, 63, 78, 93, 108, 123, 139, 154]
/-- c is one of the eleven choirs -/
def isC (c : Nat) : Prop := c ∈ cL
theorem isC_lt {c : Nat} (h : isC c) : c + 15 ≤ 204 := by
  have : ∀ c ∈ cL, c + 15 ≤ 204 := by decide
  exact this c h
theorem isC_0 {c : Nat} (h : isC c) : c < 204 := by have := isC_lt h; omega
theorem isC_S {c : Nat} (h : isC c) : c + 1 < 204 := by have := isC_lt h; omega
theorem isC_T {c : Nat} (h : isC c) : c + 12 < 204 := by have := isC_lt h; omega
theorem isC_O {c : Nat} (h : isC c) : c + 13 < 204 := by have := isC_lt h; omega
theorem isC_W {c : Nat} (h : isC c) : c + 14 < 204 := by have := isC_lt h; omega
theorem isC_s {c : Nat} (h : isC c) {k : Nat} (hk : k < 10) : c + 2 + k < 204 := by have := isC_lt h; omega
theorem kC {c : Nat} (h : isC c) : K0 c = .inl 0 := (by decide +kernel : ∀ c ∈ cL, K0 c = .inl 0) c h
theorem kCS {c : Nat} (h : isC c) : K0 (c + 1) = .inr (3, 10) := (by decide +kernel : ∀ c ∈ cL, K0 (c + 1) = .inr (3, 10)) c h
theorem kCT {c : Nat} (h : isC c) : K0 (c + 12) = .inr (0, 4) := (by decide +kernel : ∀ c ∈ cL, K0 (c + 12) = .inr (0, 4)) c h
theorem kCO {c : Nat} (h : isC c) : K0 (c + 13) = .inr (0, 160) := (by decide +kernel : ∀ c ∈ cL, K0 (c + 13) = .inr (0, 160)) c h
theorem kCW {c : Nat} (h : isC c) : K0 (c + 14) = .inr (0, 4) := (by decide +kernel : ∀ c ∈ cL, K0 (c + 14) = .inr (0, 4)) c h
theorem kCs {c : Nat} (h : isC c) {k : Nat} (hk : k < 10) : K0 (c + 2 + k) = .inl 5 := (by decide +kernel : ∀ c ∈ cL, ∀ k, k < 10 → K0 (c + 2 + k) = .inl 5) c h k hk
theorem rC0 {c : Nat} (h : isC c) : R0 c 0 = some (c + 1) := (by decide +kernel : ∀ c ∈ cL, R0 c 0 = some (c + 1)) c h
theorem rC1 {c : Nat} (h : isC c) : R0 c 1 = some (c + 12) := (by decide +kernel : ∀ c ∈ cL, R0 c 1 = some (c + 12)) c h
theorem rC2 {c : Nat} (h : isC c) : R0 c 2 = some (c + 13) := (by decide +kernel : ∀ c ∈ cL, R0 c 2 = some (c + 13)) c h
theorem rC3 {c : Nat} (h : isC c) : R0 c 3 = some (c + 14) := (by decide +kernel : ∀ c ∈ cL, R0 c 3 = some (c + 14)) c h
theorem rCs {c : Nat} (h : isC c) {x : Int} (hx : 0 ≤ x ∧ x < 10) : R0 (c + 1) x = some (c + 2 + x.toNat) := by
  have h1 := (by decide +kernel : ∀ c ∈ cL, ∀ k, k < 10 → R0 (c + 1) ((k : Nat) : Int) = some (c + 2 + k)) c h x.toNat (by omega)
  rwa [Int.toNat_of_nonneg hx.1] at h1
/-- q is a singer's object of some choir -/
def isS (q : Nat) : Prop := ∃ c k, isC c ∧ k < 10 ∧ q = c + 2 + k
theorem isS.of {c : Nat} (h : isC c) {k : Nat} (hk : k < 10) : isS (c + 2 + k) := ⟨c, k, h, hk, rfl⟩
theorem isS_lt {q : Nat} (h : isS q) : q < 204 := by
  obtain ⟨c, k, hc, hk, rfl⟩ := h
  exact isC_s hc hk
theorem kS {q : Nat} (h : isS q) : K0 q = .inl 5 := by
  obtain ⟨c, k, hc, hk, rfl⟩ := h
  exact kCs hc hk
/-- the states of the history and the images are choirs -/
theorem rH {x : Int} (hx : 0 ≤ x ∧ x < 8) : R0 17 x = some (18 + 15 * x.toNat) := by
  have h1 := (by decide +kernel : ∀ k, k < 8 → R0 17 ((k : Nat) : Int) = some (18 + 15 * k)) x.toNat (by omega)
  rwa [Int.toNat_of_nonneg hx.1] at h1
theorem isC_h {k : Nat} (hk : k < 8) : isC (18 + 15 * k) := (by decide : ∀ k, k < 8 → 18 + 15 * k ∈ cL) k hk
theorem rM {x : Int} (hx : 0 ≤ x ∧ x < 2) : R0 138 x = some (139 + 15 * x.toNat) := by
  have h1 := (by decide +kernel : ∀ k, k < 2 → R0 138 ((k : Nat) : Int) = some (139 + 15 * k)) x.toNat (by omega)
  rwa [Int.toNat_of_nonneg hx.1] at h1
theorem isC_m {k : Nat} (hk : k < 2) : isC (139 + 15 * k) := (by decide : ∀ k, k < 2 → 139 + 15 * k ∈ cL) k hk
theorem isC_1 : isC 1 := (by decide : (1 : Nat) ∈ cL)
/-! ends of methods -/
abbrev qI (e : Int) (g : mS) : Option mV → mS → Prop := fun v g' => v = some (vI e) ∧ g' = g
abbrev qL (e : BitVec 64) (g : mS) : Option mV → mS → Prop := fun v g' => v = some (vL e) ∧ g' = g
abbrev qB (P : Prop) (g : mS) : Option mV → mS → Prop := fun v g' => g' = g ∧ ((P ∧ v = some (vI 1)) ∨ (¬ P ∧ v = some (vI 0)))
abbrev qV (P : (Nat → Int → Int) → (Nat → Int → BitVec 64) → Prop) : Option mV → mS → Prop := fun v g' => v = none ∧ ∃ i' l', g' = st i' l' ∧ P i' l'
abbrev qW (P : Int → (Nat → Int → Int) → (Nat → Int → BitVec 64) → Prop) : Option mV → mS → Prop := fun v g' => ∃ z i' l', v = some (vI z) ∧ g' = st i' l' ∧ P z i' l'
/-- sums, counted from 0 on -/
def sumN (f : Int → Int) : Nat → Int
  | 0 => 0
  | n + 1 => sumN f n + f n
def sumZ (f : Int → Int) (x : Int) : Int := sumN f x.toNat
theorem sumZ_0 (f : Int → Int) : sumZ f 0 = 0 := rfl
theorem sumZ_s (f : Int → Int) {x : Int} (h : 0 ≤ x) : sumZ f (x + 1) = sumZ f x + f x := by
  unfold sumZ
  rw [show (x + 1).toNat = x.toNat + 1 by omega]
  show sumN f x.toNat + f (x.toNat : Int) = _
  rw [Int.toNat_of_nonneg h]
theorem sumN_congr {f f' : Int → Int} {n : Nat} (h : ∀ k : Int, 0 ≤ k → k < n → f k = f' k) : sumN f n = sumN f' n := by
  induction n with
  | zero => rfl
  | succ n ih =>
    show sumN f n + f n = sumN f' n + f' n
    rw [ih (fun k h0 h1 => h k h0 (by omega)), h n (by omega) (by omega)]
theorem sumZ_congr {f f' : Int → Int} {x : Int} (h : ∀ k, 0 ≤ k → k < x → f k = f' k) : sumZ f x = sumZ f' x := sumN_congr (fun k h0 h1 => h k h0 (by omega))
theorem sumN_bd {f : Int → Int} {n : Nat} {a b : Int} (h : ∀ k : Int, 0 ≤ k → k < n → a ≤ f k ∧ f k ≤ b) : a * n ≤ sumN f n ∧ sumN f n ≤ b * n := by
  induction n with
  | zero => simp [sumN]
  | succ n ih =>
    have h1 := ih (fun k h0 h1 => h k h0 (by omega))
    have h2 := h n (by omega) (by omega)
    show a * ((n + 1 : Nat) : Int) ≤ sumN f n + f n ∧ sumN f n + f n ≤ b * ((n + 1 : Nat) : Int)
    rw [Int.natCast_add, Int.mul_add, Int.mul_add]
    omega
theorem sumZ_bd {f : Int → Int} {x a b : Int} (hx : 0 ≤ x) (h : ∀ k, 0 ≤ k → k < x → a ≤ f k ∧ f k ≤ b) : a * x ≤ sumZ f x ∧ sumZ f x ≤ b * x := by
  have := sumN_bd (f := f) (n := x.toNat) (a := a) (b := b) (fun k h0 h1 => h k h0 (by omega))
  rwa [Int.toNat_of_nonneg hx] at this
theorem k_0 : K0 0 = .inl 8 := by decide +kernel
theorem r_0_0 : R0 0 0 = some 1 := by decide +kernel
theorem r_0_1 : R0 0 1 = some 16 := by decide +kernel
theorem r_0_2 : R0 0 2 = some 138 := by decide +kernel
theorem r_0_3 : R0 0 3 = some 169 := by decide +kernel
theorem r_0_4 : R0 0 4 = some 170 := by decide +kernel
theorem r_0_5 : R0 0 5 = some 172 := by decide +kernel
theorem r_0_6 : R0 0 6 = some 173 := by decide +kernel
theorem r_0_7 : R0 0 7 = some 177 := by decide +kernel
theorem k_16 : K0 16 = .inl 1 := by decide +kernel
theorem r_16_0 : R0 16 0 = some 17 := by decide +kernel
theorem k_17 : K0 17 = .inr (4, 8) := by decide +kernel
theorem k_138 : K0 138 = .inr (4, 2) := by decide +kernel
theorem k_169 : K0 169 = .inr (2, 2) := by decide +kernel
theorem k_170 : K0 170 = .inl 7 := by decide +kernel
theorem r_170_0 : R0 170 0 = some 171 := by decide +kernel
theorem k_171 : K0 171 = .inr (0, 60) := by decide +kernel
theorem k_172 : K0 172 = .inl 3 := by decide +kernel
theorem k_173 : K0 173 = .inl 4 := by decide +kernel
theorem r_173_0 : R0 173 0 = some 174 := by decide +kernel
theorem r_173_1 : R0 173 1 = some 175 := by decide +kernel
theorem r_173_2 : R0 173 2 = some 176 := by decide +kernel
theorem k_174 : K0 174 = .inr (0, 10) := by decide +kernel
theorem k_175 : K0 175 = .inr (0, 4) := by decide +kernel
theorem k_176 : K0 176 = .inr (0, 4) := by decide +kernel
theorem k_177 : K0 177 = .inl 2 := by decide +kernel
theorem r_177_0 : R0 177 0 = some 178 := by decide +kernel
theorem r_177_1 : R0 177 1 = some 181 := by decide +kernel
theorem r_177_2 : R0 177 2 = some 184 := by decide +kernel
theorem r_177_3 : R0 177 3 = some 185 := by decide +kernel
theorem r_177_4 : R0 177 4 = some 186 := by decide +kernel
theorem r_177_5 : R0 177 5 = some 187 := by decide +kernel
theorem r_177_6 : R0 177 6 = some 188 := by decide +kernel
theorem k_178 : K0 178 = .inl 6 := by decide +kernel
theorem r_178_0 : R0 178 0 = some 179 := by decide +kernel
theorem r_178_1 : R0 178 1 = some 180 := by decide +kernel
theorem k_179 : K0 179 = .inr (1, 1024) := by decide +kernel
theorem k_180 : K0 180 = .inr (1, 1024) := by decide +kernel
theorem k_181 : K0 181 = .inl 6 := by decide +kernel
theorem r_181_0 : R0 181 0 = some 182 := by decide +kernel
theorem r_181_1 : R0 181 1 = some 183 := by decide +kernel
theorem k_182 : K0 182 = .inr (1, 1024) := by decide +kernel
theorem k_183 : K0 183 = .inr (1, 1024) := by decide +kernel
theorem k_184 : K0 184 = .inr (0, 1024) := by decide +kernel
theorem k_185 : K0 185 = .inr (0, 4) := by decide +kernel
theorem k_186 : K0 186 = .inr (0, 10) := by decide +kernel
theorem k_187 : K0 187 = .inr (0, 10) := by decide +kernel
theorem k_188 : K0 188 = .inr (0, 10) := by decide +kernel
theorem k_189 : K0 189 = .inl 9 := by decide +kernel
theorem r_189_0 : R0 189 0 = some 190 := by decide +kernel
theorem r_189_1 : R0 189 1 = some 191 := by decide +kernel
theorem r_189_3 : R0 189 3 = some 192 := by decide +kernel
theorem r_189_5 : R0 189 5 = some 193 := by decide +kernel
theorem r_189_11 : R0 189 11 = some 194 := by decide +kernel
theorem r_189_12 : R0 189 12 = some 195 := by decide +kernel
theorem r_189_13 : R0 189 13 = some 196 := by decide +kernel
theorem r_189_14 : R0 189 14 = some 197 := by decide +kernel
theorem r_189_17 : R0 189 17 = some 198 := by decide +kernel
theorem r_189_18 : R0 189 18 = some 199 := by decide +kernel
theorem r_189_19 : R0 189 19 = some 200 := by decide +kernel
theorem r_189_21 : R0 189 21 = some 201 := by decide +kernel
theorem r_189_22 : R0 189 22 = some 202 := by decide +kernel
theorem r_189_23 : R0 189 23 = some 203 := by decide +kernel
theorem k_190 : K0 190 = .inr (0, 652) := by decide +kernel
theorem k_191 : K0 191 = .inr (0, 5216) := by decide +kernel
theorem k_192 : K0 192 = .inr (0, 1304) := by decide +kernel
theorem k_193 : K0 193 = .inr (0, 60) := by decide +kernel
theorem k_194 : K0 194 = .inr (0, 10) := by decide +kernel
theorem k_195 : K0 195 = .inr (0, 10) := by decide +kernel
theorem k_196 : K0 196 = .inr (0, 10) := by decide +kernel
theorem k_197 : K0 197 = .inr (0, 4) := by decide +kernel
theorem k_198 : K0 198 = .inr (0, 10) := by decide +kernel
theorem k_199 : K0 199 = .inr (0, 4) := by decide +kernel
theorem k_200 : K0 200 = .inr (0, 4) := by decide +kernel
theorem k_201 : K0 201 = .inr (0, 30) := by decide +kernel
theorem k_202 : K0 202 = .inr (0, 30) := by decide +kernel
theorem k_203 : K0 203 = .inr (0, 30) := by decide +kernel
theorem n_lt {a : Nat} (h : Nat.blt a 204 = true) : a < 204 := by simpa using h
end
section
/-! words for what the methods compute, over the ints i and longs l of all objects -/
theorem pl_X0 : plainName RX0 = true := by decide +kernel
theorem pl_X1 : plainName RX1 = true := by decide +kernel
theorem pl_X2 : plainName RX2 = true := by decide +kernel
theorem pl_X3 : plainName RX3 = true := by decide +kernel
theorem pl_X4 : plainName RX4 = true := by decide +kernel
theorem pl_X5 : plainName RX5 = true := by decide +kernel
theorem pl_X6 : plainName RX6 = true := by decide +kernel
theorem pl_X7 : plainName RX7 = true := by decide +kernel
theorem pl_X8 : plainName RX8 = true := by decide +kernel
theorem pl_X9 : plainName RX9 = true := by decide +kernel
theorem mBit (b : BitVec 64) (k : Nat) : (b >>> k &&& BitVec.ofNat 64 1 = BitVec.ofNat 64 0) ↔ b.getLsbD k = false := by
  have h1 : b >>> k &&& BitVec.ofNat 64 1 = BitVec.ofNat 64 0 ↔ ∀ j, (b >>> k &&& BitVec.ofNat 64 1).getLsbD j = (BitVec.ofNat 64 0).getLsbD j := ⟨fun h j => by rw [h], fun h => BitVec.eq_of_getLsbD_eq (fun j _ => h j)⟩
  rw [h1]
  constructor
  · intro h
    have := h 0
    simpa using this
  · intro h j
    by_cases hj : j = 0
    · subst hj; simp [h]
    · have : (BitVec.ofNat 64 1).getLsbD j = false := by
        rw [BitVec.getLsbD_ofNat]
        have : Nat.testBit 1 j = false := Bool.eq_false_iff.mpr (fun h => hj (Nat.testBit_one_eq_true_iff_self_eq_zero.mp h))
        simp [this]
      simp [BitVec.getLsbD_and, this]
theorem mTF3 {p : Int} (hp : 0 ≤ p ∧ p < 4) : mTF 3 p.toNat = 22 - 6 * p := by
  rcases (show p = 0 ∨ p = 1 ∨ p = 2 ∨ p = 3 by omega) with rfl | rfl | rfl | rfl <;> rfl
/-- a singer's numbers are in their ranges -/
def okS (i : Nat → Int → Int) (q : Nat) : Prop := (1 ≤ i q 0 ∧ i q 0 ≤ 9) ∧ (100 ≤ i q 1 ∧ i q 1 ≤ 220) ∧ (0 ≤ i q 4 ∧ 0 ≤ i q 5 ∧ i q 4 + i q 5 ≤ 41) ∧ (-9 ≤ i q 6 ∧ i q 6 ≤ 3 ∧ (i q 6 = -9 ∨ 0 ≤ i q 6)) ∧ (0 ≤ i q 7 ∧ i q 7 ≤ 1) ∧ (0 ≤ i q 8 ∧ i q 8 ≤ 40) ∧ (-9 ≤ i q 9 ∧ i q 9 ≤ 39 ∧ (i q 9 = -9 ∨ 0 ≤ i q 9)) ∧ (0 ≤ i q 10 ∧ i q 10 ≤ 40)
/-- a choir's numbers are in their ranges -/
def okC (i : Nat → Int → Int) (c : Nat) : Prop := ((0 ≤ i c 4 ∧ i c 4 ≤ 10) ∧ (0 ≤ i c 5 ∧ i c 5 ≤ 40) ∧ (0 ≤ i c 6 ∧ i c 6 ≤ 4 * i c 5) ∧ (0 ≤ i c 7 ∧ i c 7 ≤ 10 * i c 5) ∧ (1 ≤ i (c + 12) 0 ∧ i (c + 12) 0 ≤ 15) ∧ (1 ≤ i (c + 12) 1 ∧ i (c + 12) 1 ≤ 50) ∧ (0 ≤ i (c + 12) 2 ∧ i (c + 12) 2 ≤ 10) ∧ (1 ≤ i (c + 12) 3 ∧ i (c + 12) 3 ≤ 6)) ∧ (∀ p : Int, 0 ≤ p → p < 4 → 0 ≤ i (c + 14) p ∧ i (c + 14) p ≤ 40) ∧ (∀ x : Int, 0 ≤ x → x < 4 * i c 5 → -9 ≤ i (c + 13) x ∧ i (c + 13) x ≤ 9) ∧ ∀ x : Int, 0 ≤ x → x < i c 4 → okS i (c + 2 + x.toNat)
theorem okC.n {i : Nat → Int → Int} {c : Nat} (h : okC i c) : (0 ≤ i c 4 ∧ i c 4 ≤ 10) ∧ (0 ≤ i c 5 ∧ i c 5 ≤ 40) ∧ (0 ≤ i c 6 ∧ i c 6 ≤ 4 * i c 5) ∧ (0 ≤ i c 7 ∧ i c 7 ≤ 10 * i c 5) ∧ (1 ≤ i (c + 12) 0 ∧ i (c + 12) 0 ≤ 15) ∧ (1 ≤ i (c + 12) 1 ∧ i (c + 12) 1 ≤ 50) ∧ (0 ≤ i (c + 12) 2 ∧ i (c + 12) 2 ≤ 10) ∧ (1 ≤ i (c + 12) 3 ∧ i (c + 12) 3 ≤ 6) := h.1
theorem okC.s {i : Nat → Int → Int} {c : Nat} (h : okC i c) {x : Int} (h0 : 0 ≤ x) (h1 : x < i c 4) : (1 ≤ i (c + 2 + x.toNat) 0 ∧ i (c + 2 + x.toNat) 0 ≤ 9) ∧ (100 ≤ i (c + 2 + x.toNat) 1 ∧ i (c + 2 + x.toNat) 1 ≤ 220) ∧ (0 ≤ i (c + 2 + x.toNat) 4 ∧ 0 ≤ i (c + 2 + x.toNat) 5 ∧ i (c + 2 + x.toNat) 4 + i (c + 2 + x.toNat) 5 ≤ 41) ∧ (-9 ≤ i (c + 2 + x.toNat) 6 ∧ i (c + 2 + x.toNat) 6 ≤ 3 ∧ (i (c + 2 + x.toNat) 6 = -9 ∨ 0 ≤ i (c + 2 + x.toNat) 6)) ∧ (0 ≤ i (c + 2 + x.toNat) 7 ∧ i (c + 2 + x.toNat) 7 ≤ 1) ∧ (0 ≤ i (c + 2 + x.toNat) 8 ∧ i (c + 2 + x.toNat) 8 ≤ 40) ∧ (-9 ≤ i (c + 2 + x.toNat) 9 ∧ i (c + 2 + x.toNat) 9 ≤ 39 ∧ (i (c + 2 + x.toNat) 9 = -9 ∨ 0 ≤ i (c + 2 + x.toNat) 9)) ∧ (0 ≤ i (c + 2 + x.toNat) 10 ∧ i (c + 2 + x.toNat) 10 ≤ 40) := h.2.2.2 x h0 h1
/-- row so far, longest row, its lowest note: behind n notes of which f tells -/
def rw3 (f : Int → Bool) : Nat → Int × Int × Int
  | 0 => (0, 0, 0)
  | n + 1 => if f n then (if (rw3 f n).1 + 1 > (rw3 f n).2.1 then ((rw3 f n).1 + 1, (rw3 f n).1 + 1, n - ((rw3 f n).1 + 1) + 1) else ((rw3 f n).1 + 1, (rw3 f n).2.1, (rw3 f n).2.2)) else (0, (rw3 f n).2.1, (rw3 f n).2.2)
def rwZ (f : Int → Bool) (x : Int) : Int × Int × Int := rw3 f x.toNat
theorem rwZ_s (f : Int → Bool) {x : Int} (h : 0 ≤ x) : rwZ f (x + 1) = if f x then (if (rwZ f x).1 + 1 > (rwZ f x).2.1 then ((rwZ f x).1 + 1, (rwZ f x).1 + 1, x - ((rwZ f x).1 + 1) + 1) else ((rwZ f x).1 + 1, (rwZ f x).2.1, (rwZ f x).2.2)) else (0, (rwZ f x).2.1, (rwZ f x).2.2) := by
  unfold rwZ
  rw [show (x + 1).toNat = x.toNat + 1 by omega]
  show (if f (x.toNat : Int) then _ else _) = _
  rw [Int.toNat_of_nonneg h]
theorem rwZ_bd (f : Int → Bool) {x : Int} (h : 0 ≤ x) : 0 ≤ (rwZ f x).1 ∧ (rwZ f x).1 ≤ x ∧ 0 ≤ (rwZ f x).2.1 ∧ 0 ≤ (rwZ f x).2.2 ∧ (rwZ f x).2.2 + (rwZ f x).2.1 ≤ x := by
  have key : ∀ n : Nat, 0 ≤ (rw3 f n).1 ∧ (rw3 f n).1 ≤ n ∧ 0 ≤ (rw3 f n).2.1 ∧ 0 ≤ (rw3 f n).2.2 ∧ (rw3 f n).2.2 + (rw3 f n).2.1 ≤ n := by
    intro n
    induction n with
    | zero => simp [rw3]
    | succ n ih =>
      unfold rw3
      split
      · split <;> simp only [] <;> omega
      · simp only []; omega
  have := key x.toNat
  rwa [Int.toNat_of_nonneg h] at this
theorem rwZ_no (x : Int) : rwZ (fun _ => false) x = (0, 0, 0) := by
  unfold rwZ
  induction x.toNat with
  | zero => rfl
  | succ n ih => show (if false = true then _ else _) = _; rw [if_neg (by decide), ih]
theorem rwZ_congr {f f' : Int → Bool} {x : Int} (h : ∀ k, 0 ≤ k → k < x → f k = f' k) : rwZ f x = rwZ f' x := by
  have key : ∀ n : Nat, (∀ k : Int, 0 ≤ k → k < n → f k = f' k) → rw3 f n = rw3 f' n := by
    intro n
    induction n with
    | zero => intro _; rfl
    | succ n ih =>
      intro hh
      unfold rw3
      rw [ih (fun k h0 h1 => hh k h0 (by omega)), hh n (by omega) (by omega)]
  exact key _ (fun k h0 h1 => h k h0 (by omega))
/-- a set of parts (of notes ..) as bits -/
def orN (f : Int → Bool) : Nat → Nat
  | 0 => 0
  | n + 1 => if f n then orN f n ||| 2 ^ n else orN f n
def orZ (f : Int → Bool) (x : Int) : Int := (orN f x.toNat : Nat)
theorem orZ_s (f : Int → Bool) {x : Int} (h : 0 ≤ x) : orZ f (x + 1) = if f x then (((orZ f x).toNat ||| 2 ^ x.toNat : Nat) : Int) else orZ f x := by
  unfold orZ
  rw [show (x + 1).toNat = x.toNat + 1 by omega]
  show ((if f (x.toNat : Int) then _ else _ : Nat) : Int) = _
  rw [Int.toNat_of_nonneg h]
  split <;> rfl
theorem orN_lt (f : Int → Bool) (n : Nat) : orN f n < 2 ^ n := by
  induction n with
  | zero => simp [orN]
  | succ n ih =>
    have h2 : 2 ^ n < 2 ^ (n + 1) := Nat.pow_lt_pow_right (by decide) (by omega)
    unfold orN
    split
    · exact Nat.or_lt_two_pow (Nat.lt_trans ih h2) h2
    · omega
theorem orZ_bd (f : Int → Bool) {x : Int} (h : x ≤ 30) : 0 ≤ orZ f x ∧ orZ f x < 1073741824 := by
  unfold orZ
  have h1 := orN_lt f x.toNat
  have h2 : 2 ^ x.toNat ≤ 2 ^ 30 := Nat.pow_le_pow_right (by decide) (by omega)
  omega
/-- notes of a part within a singer's range -/
def fIn (i : Nat → Int → Int) (q : Nat) (p : Int) : Int := max 0 (min (i q 4 + i q 5) (22 - 6 * p + 15) - max (i q 4) (22 - 6 * p))
def fFit (i : Nat → Int → Int) (c : Nat) (x p : Int) : Prop := i (c + 12) 0 ≤ fIn i (c + 2 + x.toNat) p
def fFits (i : Nat → Int → Int) (c : Nat) (x : Int) : Int := orZ (fun p => decide (i (c + 12) 0 ≤ fIn i (c + 2 + x.toNat) p)) 4
def fMem (i : Nat → Int → Int) (c : Nat) (p : Int) : Int := sumZ (fun k => if i (c + 2 + k.toNat) 6 = p then 1 else 0) (i c 4)
def fStr (i : Nat → Int → Int) (c : Nat) (p : Int) : Int := sumZ (fun k => if i (c + 2 + k.toNat) 6 = p then i (c + 2 + k.toNat) 0 else 0) (i c 4)
def fPres (i : Nat → Int → Int) (c : Nat) (p : Int) : Int := sumZ (fun k => if i (c + 2 + k.toNat) 6 = p ∧ i (c + 2 + k.toNat) 7 ≠ 0 then i (c + 2 + k.toNat) 0 else 0) (i c 4)
def fAbs (i : Nat → Int → Int) (c : Nat) : Int := sumZ (fun k => if i (c + 2 + k.toNat) 7 = 0 then 1 else 0) (i c 4)
def fCov (i : Nat → Int → Int) (c : Nat) : Int := orZ (fun p => decide (i (c + 12) 1 ≤ fPres i c p)) 4
def fRows (i : Nat → Int → Int) (c : Nat) (p : Int) : Int := (fMem i c p + i (c + 12) 3 - 1) / i (c + 12) 3
def fRest (i : Nat → Int → Int) (c q : Nat) : Prop := i q 9 = -9 ∨ i (c + 12) 2 < i c 5 - i q 9
def fSeat (i : Nat → Int → Int) (c : Nat) (x : Int) : Int := sumZ (fun k => if i (c + 2 + k.toNat) 6 = i (c + 2 + x.toNat) 6 ∧ (i (c + 2 + k.toNat) 1 < i (c + 2 + x.toNat) 1 ∨ (i (c + 2 + k.toNat) 1 = i (c + 2 + x.toNat) 1 ∧ k < x)) then 1 else 0) (i c 4)
theorem fMem_bd {i : Nat → Int → Int} {c : Nat} {p : Int} (h : okC i c) : 0 ≤ fMem i c p ∧ fMem i c p ≤ 10 := by
  have h1 := h.n
  have := sumZ_bd (f := fun k => if i (c + 2 + k.toNat) 6 = p then 1 else 0) (x := i c 4) (a := 0) (b := 1) h1.1.1 (fun k _ _ => by split <;> omega)
  unfold fMem
  omega
theorem fStr_bd {i : Nat → Int → Int} {c : Nat} {p : Int} (h : okC i c) : 0 ≤ fStr i c p ∧ fStr i c p ≤ 90 := by
  have h1 := h.n
  have := sumZ_bd (f := fun k => if i (c + 2 + k.toNat) 6 = p then i (c + 2 + k.toNat) 0 else 0) (x := i c 4) (a := 0) (b := 9) h1.1.1 (fun k h0 h2 => by have := h.s h0 h2; split <;> omega)
  unfold fStr
  omega
theorem fPres_bd {i : Nat → Int → Int} {c : Nat} {p : Int} (h : okC i c) : 0 ≤ fPres i c p ∧ fPres i c p ≤ 90 := by
  have h1 := h.n
  have := sumZ_bd (f := fun k => if i (c + 2 + k.toNat) 6 = p ∧ i (c + 2 + k.toNat) 7 ≠ 0 then i (c + 2 + k.toNat) 0 else 0) (x := i c 4) (a := 0) (b := 9) h1.1.1 (fun k h0 h2 => by have := h.s h0 h2; split <;> omega)
  unfold fPres
  omega
end
section
/-! singers -/
set_option maxRecDepth 20000 in
set_option maxHeartbeats 2000000 in
theorem c_contains {i : Nat → Int → Int} {l : Nat → Int → BitVec 64} {b : BitVec 64} {x : Int} (hx : 0 ≤ x ∧ x < 64) : mCtr m_X8_contains 1 0 0 [vL (b), vI (x)] (st i l) (qB (b.getLsbD x.toNat = true) (st i l)) := by
  refine mCtr_of pl_X8 dc_X8_contains (Nat.le_of_ble_eq_true rfl) rfl ?_
  show mX m_X8_contains 1 _ 0 0 0 [some (vL (b)), none, some (vI (x))] [] (st i l)
  refine x_lload_n 0 rfl rfl ?_
  refine x_iload_n 1 rfl rfl ?_
  refine x_lushr 2 (r := b >>> (x : Int).toNat) rfl (by omega) rfl ?_
  refine x_lconst 3 (v := 1#64) rfl rfl ?_
  refine x_land 4 (r := (b >>> (x : Int).toNat) &&& (1#64)) rfl rfl ?_
  refine x_lconst 5 (v := 0#64) rfl rfl ?_
  refine x_lcmp 6 rfl (fun z1 hz1 gz1 fz1 => ?_)
  refine x_if_eq 7 (tgt := 14) rfl (by decide) (by omega) (fun h2 => ?_) (fun h2 => ?_)
  · refine x_iconst 10 rfl ?_
    refine x_ret 11 (some (vI (0))) rfl ⟨rfl, Or.inr ⟨rfl, by omega⟩⟩ ⟨rfl, Or.inr ⟨?_, rfl⟩⟩
    have e2 : z1 = 0 ↔ b.getLsbD x.toNat = false := Iff.trans hz1 (mBit b x.toNat)
    cases hb : b.getLsbD x.toNat <;> simp_all
  · refine x_iconst 8 rfl ?_
    refine x_goto 9 (tgt := 15) rfl (by decide) ?_
    refine x_ret 11 (some (vI (1))) rfl ⟨rfl, Or.inr ⟨rfl, by omega⟩⟩ ⟨rfl, Or.inl ⟨?_, rfl⟩⟩
    have e2 : z1 = 0 ↔ b.getLsbD x.toNat = false := Iff.trans hz1 (mBit b x.toNat)
    cases hb : b.getLsbD x.toNat <;> simp_all
set_option maxRecDepth 20000 in
set_option maxHeartbeats 2000000 in
theorem c_isPart {i : Nat → Int → Int} {l : Nat → Int → BitVec 64} {x : Int} (hx : -2147483648 ≤ x ∧ x < 2147483648) : mCtr m_X8_isPart 1 0 0 [vI (x)] (st i l) (qB (0 ≤ x ∧ x < 4) (st i l)) := by
  refine mCtr_of pl_X8 dc_X8_isPart (Nat.le_of_ble_eq_true rfl) rfl ?_
  show mX m_X8_isPart 1 _ 0 0 0 [some (vI (x))] [] (st i l)
  refine x_iload_n 0 rfl rfl ?_
  refine x_if_lt 1 (tgt := 13) rfl (by decide) (by omega) (fun h1 => ?_) (fun h1 => ?_)
  · refine x_iconst 7 rfl ?_
    refine x_ret 8 (some (vI (0))) rfl ⟨rfl, Or.inr ⟨rfl, by omega⟩⟩ ⟨rfl, Or.inr ⟨?_, rfl⟩⟩
    omega
  · refine x_iload_n 2 rfl rfl ?_
    refine x_iconst 3 rfl ?_
    refine x_icmp_ge 4 (tgt := 13) rfl (by decide) (by omega) (fun h2 => ?_) (fun h2 => ?_)
    · refine x_iconst 7 rfl ?_
      refine x_ret 8 (some (vI (0))) rfl ⟨rfl, Or.inr ⟨rfl, by omega⟩⟩ ⟨rfl, Or.inr ⟨?_, rfl⟩⟩
      omega
    · refine x_iconst 5 rfl ?_
      refine x_goto 6 (tgt := 14) rfl (by decide) ?_
      refine x_ret 8 (some (vI (1))) rfl ⟨rfl, Or.inr ⟨rfl, by omega⟩⟩ ⟨rfl, Or.inl ⟨?_, rfl⟩⟩
      omega
set_option maxRecDepth 20000 in
set_option maxHeartbeats 2000000 in
theorem c_isSetting {i : Nat → Int → Int} {l : Nat → Int → BitVec 64} {x : Int} (hx : -2147483648 ≤ x ∧ x < 2147483648) : mCtr m_X8_isSetting 1 0 0 [vI (x)] (st i l) (qB (0 ≤ x ∧ x < 4) (st i l)) := by
  refine mCtr_of pl_X8 dc_X8_isSetting (Nat.le_of_ble_eq_true rfl) rfl ?_
  show mX m_X8_isSetting 1 _ 0 0 0 [some (vI (x))] [] (st i l)
  refine x_iload_n 0 rfl rfl ?_
  refine x_if_lt 1 (tgt := 13) rfl (by decide) (by omega) (fun h1 => ?_) (fun h1 => ?_)
  · refine x_iconst 7 rfl ?_
    refine x_ret 8 (some (vI (0))) rfl ⟨rfl, Or.inr ⟨rfl, by omega⟩⟩ ⟨rfl, Or.inr ⟨?_, rfl⟩⟩
    omega
  · refine x_iload_n 2 rfl rfl ?_
    refine x_iconst 3 rfl ?_
    refine x_icmp_ge 4 (tgt := 13) rfl (by decide) (by omega) (fun h2 => ?_) (fun h2 => ?_)
    · refine x_iconst 7 rfl ?_
      refine x_ret 8 (some (vI (0))) rfl ⟨rfl, Or.inr ⟨rfl, by omega⟩⟩ ⟨rfl, Or.inr ⟨?_, rfl⟩⟩
      omega
    · refine x_iconst 5 rfl ?_
      refine x_goto 6 (tgt := 14) rfl (by decide) ?_
      refine x_ret 8 (some (vI (1))) rfl ⟨rfl, Or.inr ⟨rfl, by omega⟩⟩ ⟨rfl, Or.inl ⟨?_, rfl⟩⟩
      omega
set_option maxRecDepth 20000 in
set_option maxHeartbeats 2000000 in
theorem c_isImage {i : Nat → Int → Int} {l : Nat → Int → BitVec 64} {x : Int} (hx : -2147483648 ≤ x ∧ x < 2147483648) : mCtr m_X8_isImage 1 0 0 [vI (x)] (st i l) (qB (0 ≤ x ∧ x < 2) (st i l)) := by
  refine mCtr_of pl_X8 dc_X8_isImage (Nat.le_of_ble_eq_true rfl) rfl ?_
  show mX m_X8_isImage 1 _ 0 0 0 [some (vI (x))] [] (st i l)
  refine x_iload_n 0 rfl rfl ?_
  refine x_if_lt 1 (tgt := 13) rfl (by decide) (by omega) (fun h1 => ?_) (fun h1 => ?_)
  · refine x_iconst 7 rfl ?_
    refine x_ret 8 (some (vI (0))) rfl ⟨rfl, Or.inr ⟨rfl, by omega⟩⟩ ⟨rfl, Or.inr ⟨?_, rfl⟩⟩
    omega
  · refine x_iload_n 2 rfl rfl ?_
    refine x_iconst 3 rfl ?_
    refine x_icmp_ge 4 (tgt := 13) rfl (by decide) (by omega) (fun h2 => ?_) (fun h2 => ?_)
    · refine x_iconst 7 rfl ?_
      refine x_ret 8 (some (vI (0))) rfl ⟨rfl, Or.inr ⟨rfl, by omega⟩⟩ ⟨rfl, Or.inr ⟨?_, rfl⟩⟩
      omega
    · refine x_iconst 5 rfl ?_
      refine x_goto 6 (tgt := 14) rfl (by decide) ?_
      refine x_ret 8 (some (vI (1))) rfl ⟨rfl, Or.inr ⟨rfl, by omega⟩⟩ ⟨rfl, Or.inl ⟨?_, rfl⟩⟩
      omega
set_option maxRecDepth 20000 in
set_option maxHeartbeats 2000000 in
theorem c_notesIn {i : Nat → Int → Int} {l : Nat → Int → BitVec 64} {q : Nat} (hq : isS q) {p : Int} (hp : 0 ≤ p ∧ p < 4) (h4 : 0 ≤ i q 4 ∧ 0 ≤ i q 5 ∧ i q 4 + i q 5 ≤ 41) : mCtr m_X5_notesIn 2 0 0 [vR (some q), vI (p)] (st i l) (qI (fIn i q p) (st i l)) := by
  refine mCtr_of pl_X5 dc_X5_notesIn (Nat.le_of_ble_eq_true rfl) rfl ?_
  show mX m_X5_notesIn 2 _ 0 0 0 [some (vR (some q)), some (vI (p)), none, none] [] (st i l)
  have hT := mTF3 hp
  refine x_aload_n 0 rfl rfl ?_
  refine x_getI 1 (z := i q 4) rfl fl_X5_45 (isS_lt hq) (kS hq) rfl rfl ?_
  refine x_getsN 2 (t := 3) rfl (by decide) (by decide +kernel) ?_
  refine x_iload_n 3 rfl rfl ?_
  refine x_tald 4 (z := mTF 3 (p).toNat) rfl (by decide) (by omega) rfl ?_
  refine x_mmax 5 (r := max (i q 4) (mTF 3 (p).toNat)) rfl ml_X5_59 (by omega) rfl (by decide) (Nat.le_of_ble_eq_true rfl) ?_
  refine x_istore_n 6 (L' := [some (vR (some q)), some (vI (p)), some (vI (max (i q 4) (mTF 3 (p).toNat))), none]) rfl (by decide) rfl rfl ?_
  refine x_aload_n 7 rfl rfl ?_
  refine x_getI 8 (z := i q 4) rfl fl_X5_45 (isS_lt hq) (kS hq) rfl rfl ?_
  refine x_aload_n 9 rfl rfl ?_
  refine x_getI 10 (z := i q 5) rfl fl_X5_48 (isS_lt hq) (kS hq) rfl rfl ?_
  refine x_iadd 11 (r := (i q 4) + (i q 5)) rfl rfl ?_
  refine x_getsN 12 (t := 3) rfl (by decide) (by decide +kernel) ?_
  refine x_iload_n 13 rfl rfl ?_
  refine x_tald 14 (z := mTF 3 (p).toNat) rfl (by decide) (by omega) rfl ?_
  refine x_bipush 15 rfl (by decide) ?_
  refine x_iadd 16 (r := (mTF 3 (p).toNat) + 15) rfl rfl ?_
  refine x_mmin 17 (r := min ((i q 4) + (i q 5)) ((mTF 3 (p).toNat) + 15)) rfl ml_X5_65 (by omega) rfl (by decide) (Nat.le_of_ble_eq_true rfl) ?_
  refine x_istore_n 18 (L' := [some (vR (some q)), some (vI (p)), some (vI (max (i q 4) (mTF 3 (p).toNat))), some (vI (min ((i q 4) + (i q 5)) ((mTF 3 (p).toNat) + 15)))]) rfl (by decide) rfl rfl ?_
  refine x_iconst 19 rfl ?_
  refine x_iload_n 20 rfl rfl ?_
  refine x_iload_n 21 rfl rfl ?_
  refine x_isub 22 (r := (min ((i q 4) + (i q 5)) ((mTF 3 (p).toNat) + 15)) - (max (i q 4) (mTF 3 (p).toNat))) rfl rfl ?_
  refine x_mmax 23 (r := max 0 ((min ((i q 4) + (i q 5)) ((mTF 3 (p).toNat) + 15)) - (max (i q 4) (mTF 3 (p).toNat)))) rfl ml_X5_59 (by omega) rfl (by decide) (Nat.le_of_ble_eq_true rfl) ?_
  refine x_ret 24 (some (vI (max 0 ((min ((i q 4) + (i q 5)) ((mTF 3 (p).toNat) + 15)) - (max (i q 4) (mTF 3 (p).toNat)))))) rfl ⟨rfl, Or.inl rfl⟩ ⟨congrArg (fun z => some (vI z)) ?_, rfl⟩
  unfold fIn; rw [hT]
set_option maxRecDepth 20000 in
set_option maxHeartbeats 2000000 in
theorem c_sitsBefore {i : Nat → Int → Int} {l : Nat → Int → BitVec 64} {q : Nat} (hq : isS q) {q2 : Nat} (hq2 : isS q2) {b : Int} (hb : b = 0 ∨ b = 1) (h1 : 100 ≤ i q 1 ∧ i q 1 ≤ 220) (h2 : 100 ≤ i q2 1 ∧ i q2 1 ≤ 220) : mCtr m_X5_sitsBefore 1 0 0 [vR (some q), vR (some q2), vI (b)] (st i l) (qB (i q 1 < i q2 1 ∨ (i q 1 = i q2 1 ∧ b = 1)) (st i l)) := by
  refine mCtr_of pl_X5 dc_X5_sitsBefore (Nat.le_of_ble_eq_true rfl) rfl ?_
  show mX m_X5_sitsBefore 1 _ 0 0 0 [some (vR (some q)), some (vR (some q2)), some (vI (b))] [] (st i l)
  refine x_aload_n 0 rfl rfl ?_
  refine x_getI 1 (z := i q 1) rfl fl_X5_15 (isS_lt hq) (kS hq) rfl rfl ?_
  refine x_aload_n 2 rfl rfl ?_
  refine x_getI 3 (z := i q2 1) rfl fl_X5_15 (isS_lt hq2) (kS hq2) rfl rfl ?_
  refine x_icmp_lt 4 (tgt := 26) rfl (by decide) (by omega) (fun h1 => ?_) (fun h1 => ?_)
  · refine x_iconst 12 rfl ?_
    refine x_goto 13 (tgt := 31) rfl (by decide) ?_
    refine x_ret 15 (some (vI (1))) rfl ⟨rfl, Or.inr ⟨rfl, by omega⟩⟩ ⟨rfl, Or.inl ⟨?_, rfl⟩⟩
    omega
  · refine x_aload_n 5 rfl rfl ?_
    refine x_getI 6 (z := i q 1) rfl fl_X5_15 (isS_lt hq) (kS hq) rfl rfl ?_
    refine x_aload_n 7 rfl rfl ?_
    refine x_getI 8 (z := i q2 1) rfl fl_X5_15 (isS_lt hq2) (kS hq2) rfl rfl ?_
    refine x_icmp_ne 9 (tgt := 30) rfl (by decide) (by omega) (fun h2 => ?_) (fun h2 => ?_)
    · refine x_iconst 14 rfl ?_
      refine x_ret 15 (some (vI (0))) rfl ⟨rfl, Or.inr ⟨rfl, by omega⟩⟩ ⟨rfl, Or.inr ⟨?_, rfl⟩⟩
      omega
    · refine x_iload_n 10 rfl rfl ?_
      refine x_if_eq 11 (tgt := 30) rfl (by decide) (by omega) (fun h3 => ?_) (fun h3 => ?_)
      · refine x_iconst 14 rfl ?_
        refine x_ret 15 (some (vI (0))) rfl ⟨rfl, Or.inr ⟨rfl, by omega⟩⟩ ⟨rfl, Or.inr ⟨?_, rfl⟩⟩
        omega
      · refine x_iconst 12 rfl ?_
        refine x_goto 13 (tgt := 31) rfl (by decide) ?_
        refine x_ret 15 (some (vI (1))) rfl ⟨rfl, Or.inr ⟨rfl, by omega⟩⟩ ⟨rfl, Or.inl ⟨?_, rfl⟩⟩
        omega
set_option maxRecDepth 20000 in
set_option maxHeartbeats 2000000 in
theorem c_singsBefore {i : Nat → Int → Int} {l : Nat → Int → BitVec 64} {q : Nat} (hq : isS q) {q2 : Nat} (hq2 : isS q2) (h1 : 0 ≤ i q 8 ∧ i q 8 ≤ 40 ∧ -9 ≤ i q 9 ∧ i q 9 ≤ 39) (h2 : 0 ≤ i q2 8 ∧ i q2 8 ≤ 40 ∧ -9 ≤ i q2 9 ∧ i q2 9 ≤ 39) : mCtr m_X5_singsBefore 1 0 0 [vR (some q), vR (some q2)] (st i l) (qB (i q 8 < i q2 8 ∨ (i q 8 = i q2 8 ∧ i q 9 < i q2 9)) (st i l)) := by
  refine mCtr_of pl_X5 dc_X5_singsBefore (Nat.le_of_ble_eq_true rfl) rfl ?_
  show mX m_X5_singsBefore 1 _ 0 0 0 [some (vR (some q)), some (vR (some q2))] [] (st i l)
  refine x_aload_n 0 rfl rfl ?_
  refine x_getI 1 (z := i q 8) rfl fl_X5_29 (isS_lt hq) (kS hq) rfl rfl ?_
  refine x_aload_n 2 rfl rfl ?_
  refine x_getI 3 (z := i q2 8) rfl fl_X5_29 (isS_lt hq2) (kS hq2) rfl rfl ?_
  refine x_icmp_lt 4 (tgt := 33) rfl (by decide) (by omega) (fun h1 => ?_) (fun h1 => ?_)
  · refine x_iconst 15 rfl ?_
    refine x_goto 16 (tgt := 38) rfl (by decide) ?_
    refine x_ret 18 (some (vI (1))) rfl ⟨rfl, Or.inr ⟨rfl, by omega⟩⟩ ⟨rfl, Or.inl ⟨?_, rfl⟩⟩
    omega
  · refine x_aload_n 5 rfl rfl ?_
    refine x_getI 6 (z := i q 8) rfl fl_X5_29 (isS_lt hq) (kS hq) rfl rfl ?_
    refine x_aload_n 7 rfl rfl ?_
    refine x_getI 8 (z := i q2 8) rfl fl_X5_29 (isS_lt hq2) (kS hq2) rfl rfl ?_
    refine x_icmp_ne 9 (tgt := 37) rfl (by decide) (by omega) (fun h2 => ?_) (fun h2 => ?_)
    · refine x_iconst 17 rfl ?_
      refine x_ret 18 (some (vI (0))) rfl ⟨rfl, Or.inr ⟨rfl, by omega⟩⟩ ⟨rfl, Or.inr ⟨?_, rfl⟩⟩
      omega
    · refine x_aload_n 10 rfl rfl ?_
      refine x_getI 11 (z := i q 9) rfl fl_X5_32 (isS_lt hq) (kS hq) rfl rfl ?_
      refine x_aload_n 12 rfl rfl ?_
      refine x_getI 13 (z := i q2 9) rfl fl_X5_32 (isS_lt hq2) (kS hq2) rfl rfl ?_
      refine x_icmp_ge 14 (tgt := 37) rfl (by decide) (by omega) (fun h3 => ?_) (fun h3 => ?_)
      · refine x_iconst 17 rfl ?_
        refine x_ret 18 (some (vI (0))) rfl ⟨rfl, Or.inr ⟨rfl, by omega⟩⟩ ⟨rfl, Or.inr ⟨?_, rfl⟩⟩
        omega
      · refine x_iconst 15 rfl ?_
        refine x_goto 16 (tgt := 38) rfl (by decide) ?_
        refine x_ret 18 (some (vI (1))) rfl ⟨rfl, Or.inr ⟨rfl, by omega⟩⟩ ⟨rfl, Or.inl ⟨?_, rfl⟩⟩
        omega
set_option maxRecDepth 20000 in
set_option maxHeartbeats 2000000 in
theorem c_s_copyFrom {i : Nat → Int → Int} {l : Nat → Int → BitVec 64} {q : Nat} (hq : isS q) {q2 : Nat} (hq2 : isS q2) (h7 : i q2 7 = 0 ∨ i q2 7 = 1) : mCtr m_X5_copyFrom 1 0 0 [vR (some q), vR (some q2)] (st i l) (qV (fun i' l' => (∀ a b, i' a b = if a = q ∧ (b = 0 ∨ b = 1 ∨ (4 ≤ b ∧ b ≤ 10)) then i q2 b else i a b) ∧ ∀ a b, l' a b = if a = q ∧ (b = 2 ∨ b = 3) then l q2 b else l a b)) := by
  refine mCtr_of pl_X5 dc_X5_copyFrom (Nat.le_of_ble_eq_true rfl) rfl ?_
  show mX m_X5_copyFrom 1 _ 0 0 0 [some (vR (some q)), some (vR (some q2))] [] (st i l)
  refine x_aload_n 0 rfl rfl ?_
  refine x_aload_n 1 rfl rfl ?_
  refine x_getI 2 (z := i q2 0) rfl fl_X5_9 (isS_lt hq2) (kS hq2) rfl rfl ?_
  obtain ⟨i1, hi1⟩ : ∃ f, f = mU i q 0 (i q2 0) := ⟨_, rfl⟩
  refine x_putI 3 rfl fl_X5_9 (isS_lt hq) (kS hq) rfl rfl (g' := st i1 l) (by subst hi1; rfl) ?_
  refine x_aload_n 4 rfl rfl ?_
  refine x_aload_n 5 rfl rfl ?_
  refine x_getI 6 (z := i1 q2 1) rfl fl_X5_15 (isS_lt hq2) (kS hq2) rfl rfl ?_
  obtain ⟨i2, hi2⟩ : ∃ f, f = mU i1 q 1 (i1 q2 1) := ⟨_, rfl⟩
  refine x_putI 7 rfl fl_X5_15 (isS_lt hq) (kS hq) rfl rfl (g' := st i2 l) (by subst hi2; rfl) ?_
  refine x_aload_n 8 rfl rfl ?_
  refine x_aload_n 9 rfl rfl ?_
  refine x_getL 10 (z := l q2 2) rfl fl_X5_38 (isS_lt hq2) (kS hq2) rfl rfl ?_
  obtain ⟨l3, hl3⟩ : ∃ f, f = mU l q 2 (l q2 2) := ⟨_, rfl⟩
  refine x_putL 11 rfl fl_X5_38 (isS_lt hq) (kS hq) rfl rfl (g' := st i2 l3) (by subst hl3; rfl) ?_
  refine x_aload_n 12 rfl rfl ?_
  refine x_aload_n 13 rfl rfl ?_
  refine x_getL 14 (z := l3 q2 3) rfl fl_X5_42 (isS_lt hq2) (kS hq2) rfl rfl ?_
  obtain ⟨l4, hl4⟩ : ∃ f, f = mU l3 q 3 (l3 q2 3) := ⟨_, rfl⟩
  refine x_putL 15 rfl fl_X5_42 (isS_lt hq) (kS hq) rfl rfl (g' := st i2 l4) (by subst hl4; rfl) ?_
  refine x_aload_n 16 rfl rfl ?_
  refine x_aload_n 17 rfl rfl ?_
  refine x_getI 18 (z := i2 q2 4) rfl fl_X5_45 (isS_lt hq2) (kS hq2) rfl rfl ?_
  obtain ⟨i5, hi5⟩ : ∃ f, f = mU i2 q 4 (i2 q2 4) := ⟨_, rfl⟩
  refine x_putI 19 rfl fl_X5_45 (isS_lt hq) (kS hq) rfl rfl (g' := st i5 l4) (by subst hi5; rfl) ?_
  refine x_aload_n 20 rfl rfl ?_
  refine x_aload_n 21 rfl rfl ?_
  refine x_getI 22 (z := i5 q2 5) rfl fl_X5_48 (isS_lt hq2) (kS hq2) rfl rfl ?_
  obtain ⟨i6, hi6⟩ : ∃ f, f = mU i5 q 5 (i5 q2 5) := ⟨_, rfl⟩
  refine x_putI 23 rfl fl_X5_48 (isS_lt hq) (kS hq) rfl rfl (g' := st i6 l4) (by subst hi6; rfl) ?_
  refine x_aload_n 24 rfl rfl ?_
  refine x_aload_n 25 rfl rfl ?_
  refine x_getI 26 (z := i6 q2 6) rfl fl_X5_22 (isS_lt hq2) (kS hq2) rfl rfl ?_
  obtain ⟨i7, hi7⟩ : ∃ f, f = mU i6 q 6 (i6 q2 6) := ⟨_, rfl⟩
  refine x_putI 27 rfl fl_X5_22 (isS_lt hq) (kS hq) rfl rfl (g' := st i7 l4) (by subst hi7; rfl) ?_
  refine x_aload_n 28 rfl rfl ?_
  refine x_aload_n 29 rfl rfl ?_
  refine x_getI 30 (z := i7 q2 7) rfl fl_X5_25 (isS_lt hq2) (kS hq2) rfl rfl ?_
  obtain ⟨i8, hi8⟩ : ∃ f, f = mU i7 q 7 (i7 q2 7) := ⟨_, rfl⟩
  refine x_putZ 31 rfl fl_X5_25 (isS_lt hq) (kS hq) rfl (by subst_vars; simpa [mU] using h7) rfl (g' := st i8 l4) (by subst hi8; rfl) ?_
  refine x_aload_n 32 rfl rfl ?_
  refine x_aload_n 33 rfl rfl ?_
  refine x_getI 34 (z := i8 q2 8) rfl fl_X5_29 (isS_lt hq2) (kS hq2) rfl rfl ?_
  obtain ⟨i9, hi9⟩ : ∃ f, f = mU i8 q 8 (i8 q2 8) := ⟨_, rfl⟩
  refine x_putI 35 rfl fl_X5_29 (isS_lt hq) (kS hq) rfl rfl (g' := st i9 l4) (by subst hi9; rfl) ?_
  refine x_aload_n 36 rfl rfl ?_
  refine x_aload_n 37 rfl rfl ?_
  refine x_getI 38 (z := i9 q2 9) rfl fl_X5_32 (isS_lt hq2) (kS hq2) rfl rfl ?_
  obtain ⟨i10, hi10⟩ : ∃ f, f = mU i9 q 9 (i9 q2 9) := ⟨_, rfl⟩
  refine x_putI 39 rfl fl_X5_32 (isS_lt hq) (kS hq) rfl rfl (g' := st i10 l4) (by subst hi10; rfl) ?_
  refine x_aload_n 40 rfl rfl ?_
  refine x_aload_n 41 rfl rfl ?_
  refine x_getI 42 (z := i10 q2 10) rfl fl_X5_35 (isS_lt hq2) (kS hq2) rfl rfl ?_
  obtain ⟨i11, hi11⟩ : ∃ f, f = mU i10 q 10 (i10 q2 10) := ⟨_, rfl⟩
  refine x_putI 43 rfl fl_X5_35 (isS_lt hq) (kS hq) rfl rfl (g' := st i11 l4) (by subst hi11; rfl) ?_
  refine x_ret 44 none rfl ⟨rfl, rfl⟩ ⟨rfl, i11, l4, rfl, ?_⟩
  subst_vars; refine ⟨fun a b => ?_, fun a b => ?_⟩ <;> simp only [mU] <;> grind
set_option maxRecDepth 20000 in
set_option maxHeartbeats 2000000 in
theorem c_learn {i : Nat → Int → Int} {l : Nat → Int → BitVec 64} {q : Nat} (hq : isS q) {t u : BitVec 64} : mCtr m_X5_learn 2 0 0 [vR (some q), vL (t), vL (u)] (st i l) (qV (fun i' l' => (∀ a b, i' a b = if a = q ∧ b = 4 then (rwZ (fun k => u.getLsbD k.toNat) 41).2.2 else if a = q ∧ b = 5 then (rwZ (fun k => u.getLsbD k.toNat) 41).2.1 else i a b) ∧ ∀ a b, l' a b = if a = q ∧ b = 2 then t else if a = q ∧ b = 3 then u else l a b)) := by
  refine mCtr_of pl_X5 dc_X5_learn (Nat.le_of_ble_eq_true rfl) rfl ?_
  show mX m_X5_learn 2 _ 0 0 0 [some (vR (some q)), some (vL (t)), none, some (vL (u)), none, none, none] [] (st i l)
  obtain ⟨f, hf⟩ : ∃ f : Int → Bool, f = fun k => u.getLsbD k.toNat := ⟨_, rfl⟩
  refine x_aload_n 0 rfl rfl ?_
  refine x_lload_n 1 rfl rfl ?_
  obtain ⟨l1, hl1⟩ : ∃ f, f = mU l q 2 (t) := ⟨_, rfl⟩
  refine x_putL 2 rfl fl_X5_38 (isS_lt hq) (kS hq) rfl rfl (g' := st i l1) (by subst hl1; rfl) ?_
  refine x_aload_n 3 rfl rfl ?_
  refine x_lload_n 4 rfl rfl ?_
  obtain ⟨l2, hl2⟩ : ∃ f, f = mU l1 q 3 (u) := ⟨_, rfl⟩
  refine x_putL 5 rfl fl_X5_42 (isS_lt hq) (kS hq) rfl rfl (g' := st i l2) (by subst hl2; rfl) ?_
  refine x_aload_n 6 rfl rfl ?_
  refine x_iconst 7 rfl ?_
  obtain ⟨i3, hi3⟩ : ∃ f, f = mU i q 4 (0) := ⟨_, rfl⟩
  refine x_putI 8 rfl fl_X5_45 (isS_lt hq) (kS hq) rfl rfl (g' := st i3 l2) (by subst hi3; rfl) ?_
  refine x_aload_n 9 rfl rfl ?_
  refine x_iconst 10 rfl ?_
  obtain ⟨i4, hi4⟩ : ∃ f, f = mU i3 q 5 (0) := ⟨_, rfl⟩
  refine x_putI 11 rfl fl_X5_48 (isS_lt hq) (kS hq) rfl rfl (g' := st i4 l2) (by subst hi4; rfl) ?_
  refine x_iconst 12 rfl ?_
  refine x_istore 13 (L' := [some (vR (some q)), some (vL (t)), none, some (vL (u)), none, some (vI (0)), none]) rfl (by decide) rfl rfl ?_
  refine x_iconst 14 rfl ?_
  refine x_istore 15 (L' := [some (vR (some q)), some (vL (t)), none, some (vL (u)), none, some (vI (0)), some (vI (0))]) rfl (by decide) rfl rfl ?_
  have hu : l2 q 3 = u := by subst hl2; simp [mU]
  have hll : ∀ a b, l2 a b = if a = q ∧ b = 2 then t else if a = q ∧ b = 3 then u else l a b := by intro a b; simp only [hl2, hl1, mU]; grind
  have loopL5 : ∀ (nz : Nat) (ii : Nat → Int → Int) (x : Int) (r : Int), (0 ≤ x ∧ x ≤ 41) → (r = (rwZ f x).1) → (∀ a b, ii a b = if a = q ∧ b = 4 then (rwZ f x).2.2 else if a = q ∧ b = 5 then (rwZ f x).2.1 else i a b) → (41 - x) < (nz : Int) → mX m_X5_learn 2 (qV (fun i' l' => (∀ a b, i' a b = if a = q ∧ b = 4 then (rwZ (fun k => u.getLsbD k.toNat) 41).2.2 else if a = q ∧ b = 5 then (rwZ (fun k => u.getLsbD k.toNat) 41).2.1 else i a b) ∧ ∀ a b, l' a b = if a = q ∧ b = 2 then t else if a = q ∧ b = 3 then u else l a b)) 0 0 26 [some (vR (some q)), some (vL (t)), none, some (vL (u)), none, some (vI (r)), some (vI (x))] [] (st ii l2) := by
    intro nz
    induction nz with
    | zero => intro ii x r h0 hr hi hz; exact absurd hz (by omega)
    | succ nz ihL5 =>
      intro ii x r h0 hr hi hzL5
      refine x_iload 16 rfl rfl ?_
      refine x_bipush 17 rfl (by decide) ?_
      refine x_icmp_ge 18 (tgt := 87) rfl (by decide) (by omega) (fun h6 => ?_) (fun h6 => ?_)
      · refine x_ret 46 none rfl ⟨rfl, rfl⟩ ⟨rfl, ii, l2, rfl, ?_⟩
        rw [show x = 41 by omega] at hi; subst hf; exact ⟨hi, hll⟩
      · refine x_aload_n 19 rfl rfl ?_
        refine x_getL 20 (z := l2 q 3) rfl fl_X5_42 (isS_lt hq) (kS hq) rfl rfl ?_
        refine x_iload 21 rfl rfl ?_
        have hb := rwZ_bd f h0.1
        have h5 : ii q 5 = (rwZ f x).2.1 := by rw [hi]; simp
        rw [hu]
        refine x_callSN 22 m_X8_contains (c_contains (by omega)) rfl ok_X8_contains (by decide +kernel) st_X8_contains rfl (by decide) rfl (Nat.le_of_ble_eq_true rfl) rfl rfl (fun v g q7 => ?_)
        rcases q7 with ⟨rfl, ⟨h8, rfl⟩ | ⟨h8, rfl⟩⟩
        · show mX m_X5_learn 2 _ 0 0 _ _ [vI (1)] _
          have hfx : f x = true := by rw [hf]; exact h8
          refine x_if_eq 23 (tgt := 52) rfl (by decide) (by decide) (fun h9 => absurd h9 (by decide)) (fun h9 => ?_)
          refine x_iload 24 rfl rfl ?_
          refine x_iconst 25 rfl ?_
          refine x_iadd 26 (r := r + 1) rfl rfl ?_
          refine x_goto 27 (tgt := 53) rfl (by decide) ?_
          refine x_istore 29 (L' := [some (vR (some q)), some (vL (t)), none, some (vL (u)), none, some (vI (r + 1)), some (vI (x))]) rfl (by decide) rfl rfl ?_
          refine x_iload 30 rfl rfl ?_
          refine x_aload_n 31 rfl rfl ?_
          refine x_getI 32 (z := ii q 5) rfl fl_X5_48 (isS_lt hq) (kS hq) rfl rfl ?_
          refine x_icmp_le 33 (tgt := 81) rfl (by decide) (by omega) (fun h10 => ?_) (fun h10 => ?_)
          · refine x_iinc 44 (L' := [some (vR (some q)), some (vL (t)), none, some (vL (u)), none, some (vI (r + 1)), some (vI (x + 1))]) rfl (by decide) rfl rfl rfl rfl ?_
            refine x_goto 45 (tgt := 26) rfl (by decide) ?_
            exact ihL5 ii (x + 1) (r + 1) (by omega) (by rw [rwZ_s f h0.1]; grind) (by intro a b; rw [rwZ_s f h0.1]; subst_vars; simp only [mU]; grind) (by omega)
          · refine x_aload_n 34 rfl rfl ?_
            refine x_iload 35 rfl rfl ?_
            obtain ⟨i11, hi11⟩ : ∃ f, f = mU ii q 5 (r + 1) := ⟨_, rfl⟩
            refine x_putI 36 rfl fl_X5_48 (isS_lt hq) (kS hq) rfl rfl (g' := st i11 l2) (by subst hi11; rfl) ?_
            refine x_aload_n 37 rfl rfl ?_
            refine x_iload 38 rfl rfl ?_
            refine x_iload 39 rfl rfl ?_
            refine x_isub 40 (r := x - (r + 1)) rfl rfl ?_
            refine x_iconst 41 rfl ?_
            refine x_iadd 42 (r := (x - (r + 1)) + 1) rfl rfl ?_
            obtain ⟨i12, hi12⟩ : ∃ f, f = mU i11 q 4 ((x - (r + 1)) + 1) := ⟨_, rfl⟩
            refine x_putI 43 rfl fl_X5_45 (isS_lt hq) (kS hq) rfl rfl (g' := st i12 l2) (by subst hi12; rfl) ?_
            refine x_iinc 44 (L' := [some (vR (some q)), some (vL (t)), none, some (vL (u)), none, some (vI (r + 1)), some (vI (x + 1))]) rfl (by decide) rfl rfl rfl rfl ?_
            refine x_goto 45 (tgt := 26) rfl (by decide) ?_
            exact ihL5 i12 (x + 1) (r + 1) (by omega) (by rw [rwZ_s f h0.1]; grind) (by intro a b; rw [rwZ_s f h0.1]; subst_vars; simp only [mU]; grind) (by omega)
        · show mX m_X5_learn 2 _ 0 0 _ _ [vI (0)] _
          have hfx : f x = false := by rw [hf]; simpa using h8
          refine x_if_eq 23 (tgt := 52) rfl (by decide) (by decide) (fun h13 => ?_) (fun h13 => absurd h13 (by decide))
          refine x_iconst 28 rfl ?_
          refine x_istore 29 (L' := [some (vR (some q)), some (vL (t)), none, some (vL (u)), none, some (vI (0)), some (vI (x))]) rfl (by decide) rfl rfl ?_
          refine x_iload 30 rfl rfl ?_
          refine x_aload_n 31 rfl rfl ?_
          refine x_getI 32 (z := ii q 5) rfl fl_X5_48 (isS_lt hq) (kS hq) rfl rfl ?_
          refine x_icmp_le 33 (tgt := 81) rfl (by decide) (by omega) (fun h14 => ?_) (fun h14 => ?_)
          · refine x_iinc 44 (L' := [some (vR (some q)), some (vL (t)), none, some (vL (u)), none, some (vI (0)), some (vI (x + 1))]) rfl (by decide) rfl rfl rfl rfl ?_
            refine x_goto 45 (tgt := 26) rfl (by decide) ?_
            exact ihL5 ii (x + 1) (0) (by omega) (by rw [rwZ_s f h0.1]; grind) (by intro a b; rw [rwZ_s f h0.1]; subst_vars; simp only [mU]; grind) (by omega)
          · refine x_aload_n 34 rfl rfl ?_
            refine x_iload 35 rfl rfl ?_
            obtain ⟨i15, hi15⟩ : ∃ f, f = mU ii q 5 (0) := ⟨_, rfl⟩
            refine x_putI 36 rfl fl_X5_48 (isS_lt hq) (kS hq) rfl rfl (g' := st i15 l2) (by subst hi15; rfl) ?_
            refine x_aload_n 37 rfl rfl ?_
            refine x_iload 38 rfl rfl ?_
            refine x_iload 39 rfl rfl ?_
            refine x_isub 40 (r := x - 0) rfl rfl ?_
            refine x_iconst 41 rfl ?_
            refine x_iadd 42 (r := (x - 0) + 1) rfl rfl ?_
            obtain ⟨i16, hi16⟩ : ∃ f, f = mU i15 q 4 ((x - 0) + 1) := ⟨_, rfl⟩
            refine x_putI 43 rfl fl_X5_45 (isS_lt hq) (kS hq) rfl rfl (g' := st i16 l2) (by subst hi16; rfl) ?_
            refine x_iinc 44 (L' := [some (vR (some q)), some (vL (t)), none, some (vL (u)), none, some (vI (0)), some (vI (x + 1))]) rfl (by decide) rfl rfl rfl rfl ?_
            refine x_goto 45 (tgt := 26) rfl (by decide) ?_
            exact ihL5 i16 (x + 1) (0) (by omega) (by rw [rwZ_s f h0.1]; grind) (by intro a b; rw [rwZ_s f h0.1]; subst_vars; simp only [mU]; grind) (by omega)
  exact loopL5 ((41 - ((0))) + 1 : Int).toNat i4 (0) (0) (by omega) (rfl) (by intro a b; subst_vars; simp only [mU]; show _ = if a = q ∧ b = 4 then 0 else if a = q ∧ b = 5 then 0 else i a b; grind) (by omega)
set_option maxRecDepth 20000 in
set_option maxHeartbeats 2000000 in
theorem c_begin {i : Nat → Int → Int} {l : Nat → Int → BitVec 64} {q : Nat} (hq : isS q) {s h : Int} : mCtr m_X5_begin 3 0 0 [vR (some q), vI (s), vI (h)] (st i l) (qV (fun i' l' => (∀ a b, i' a b = if a = q then (if b = 0 then s else if b = 1 then h else if b = 4 ∨ b = 5 ∨ b = 8 ∨ b = 10 then 0 else if b = 6 ∨ b = 9 then -9 else if b = 7 then 1 else i a b) else i a b) ∧ ∀ a b, l' a b = if a = q ∧ (b = 2 ∨ b = 3) then BitVec.ofNat 64 0 else l a b)) := by
  refine mCtr_of pl_X5 dc_X5_begin (Nat.le_of_ble_eq_true rfl) rfl ?_
  show mX m_X5_begin 3 _ 0 0 0 [some (vR (some q)), some (vI (s)), some (vI (h))] [] (st i l)
  refine x_aload_n 0 rfl rfl ?_
  refine x_iload_n 1 rfl rfl ?_
  obtain ⟨i1, hi1⟩ : ∃ f, f = mU i q 0 (s) := ⟨_, rfl⟩
  refine x_putI 2 rfl fl_X5_9 (isS_lt hq) (kS hq) rfl rfl (g' := st i1 l) (by subst hi1; rfl) ?_
  refine x_aload_n 3 rfl rfl ?_
  refine x_iload_n 4 rfl rfl ?_
  obtain ⟨i2, hi2⟩ : ∃ f, f = mU i1 q 1 (h) := ⟨_, rfl⟩
  refine x_putI 5 rfl fl_X5_15 (isS_lt hq) (kS hq) rfl rfl (g' := st i2 l) (by subst hi2; rfl) ?_
  refine x_aload_n 6 rfl rfl ?_
  refine x_lconst 7 (v := 0#64) rfl rfl ?_
  refine x_lconst 8 (v := 0#64) rfl rfl ?_
  refine x_callV 9 m_X5_learn (c_learn hq) rfl ok_X5_learn (isS_lt hq) (kS hq) rfl rfl ml_X5_18 im_X5_learn se_X5_learn rfl (by decide) rfl (Nat.le_of_ble_eq_true rfl) rfl rfl (fun v g q3 => ?_)
  obtain ⟨rfl, i4, li4, rfl, hi4⟩ := q3
  show mX m_X5_begin 3 _ 0 0 _ _ [] _
  obtain ⟨hA, hB⟩ := hi4
  rw [show (fun k : Int => (BitVec.ofNat 64 0).getLsbD k.toNat) = fun _ => false by funext k; simp, rwZ_no] at hA
  refine x_aload_n 10 rfl rfl ?_
  refine x_bipush 11 rfl (by decide) ?_
  obtain ⟨i5, hi5⟩ : ∃ f, f = mU i4 q 6 ((-9)) := ⟨_, rfl⟩
  refine x_putI 12 rfl fl_X5_22 (isS_lt hq) (kS hq) rfl rfl (g' := st i5 li4) (by subst hi5; rfl) ?_
  refine x_aload_n 13 rfl rfl ?_
  refine x_iconst 14 rfl ?_
  obtain ⟨i6, hi6⟩ : ∃ f, f = mU i5 q 7 (1) := ⟨_, rfl⟩
  refine x_putZ 15 rfl fl_X5_25 (isS_lt hq) (kS hq) rfl (by omega) rfl (g' := st i6 li4) (by subst hi6; rfl) ?_
  refine x_aload_n 16 rfl rfl ?_
  refine x_iconst 17 rfl ?_
  obtain ⟨i7, hi7⟩ : ∃ f, f = mU i6 q 8 (0) := ⟨_, rfl⟩
  refine x_putI 18 rfl fl_X5_29 (isS_lt hq) (kS hq) rfl rfl (g' := st i7 li4) (by subst hi7; rfl) ?_
  refine x_aload_n 19 rfl rfl ?_
  refine x_bipush 20 rfl (by decide) ?_
  obtain ⟨i8, hi8⟩ : ∃ f, f = mU i7 q 9 ((-9)) := ⟨_, rfl⟩
  refine x_putI 21 rfl fl_X5_32 (isS_lt hq) (kS hq) rfl rfl (g' := st i8 li4) (by subst hi8; rfl) ?_
  refine x_aload_n 22 rfl rfl ?_
  refine x_iconst 23 rfl ?_
  obtain ⟨i9, hi9⟩ : ∃ f, f = mU i8 q 10 (0) := ⟨_, rfl⟩
  refine x_putI 24 rfl fl_X5_35 (isS_lt hq) (kS hq) rfl rfl (g' := st i9 li4) (by subst hi9; rfl) ?_
  refine x_ret 25 none rfl ⟨rfl, rfl⟩ ⟨rfl, i9, li4, rfl, ?_⟩
  constructor
  · intro a b; subst_vars; simp only [mU, hA]; grind
  · intro a b; rw [hB]; grind
end
section
/-! the choir's questions -/
theorem mPow4 {x : Int} (h : 0 ≤ x ∧ x < 4) : (1 : Int) * 2 ^ x.toNat = ((2 ^ x.toNat : Nat) : Int) ∧ 1 ≤ 2 ^ x.toNat ∧ 2 ^ x.toNat ≤ 8 := by
  rcases (show x = 0 ∨ x = 1 ∨ x = 2 ∨ x = 3 by omega) with rfl | rfl | rfl | rfl <;> decide
theorem mOne (k : Nat) : ((1 : Int) * 2 ^ k).toNat = 2 ^ k := by
  rw [Int.one_mul]
  have : (2 : Int) ^ k = ((2 ^ k : Nat) : Int) := by simp
  rw [this]; rfl
theorem fIn_bd {i : Nat → Int → Int} {q : Nat} {p : Int} (h4 : 0 ≤ i q 4 ∧ 0 ≤ i q 5 ∧ i q 4 + i q 5 ≤ 41) (hp : 0 ≤ p ∧ p < 4) : 0 ≤ fIn i q p ∧ fIn i q p ≤ 15 := by
  unfold fIn
  omega
set_option maxRecDepth 20000 in
set_option maxHeartbeats 2000000 in
theorem c_has {i : Nat → Int → Int} {l : Nat → Int → BitVec 64} {c : Nat} (hc : isC c) (hn : 0 ≤ i c 4 ∧ i c 4 ≤ 10) {x : Int} (hx : -2147483648 ≤ x ∧ x < 2147483648) : mCtr m_X0_has 1 0 0 [vR (some c), vI (x)] (st i l) (qB (0 ≤ x ∧ x < i c 4) (st i l)) := by
  refine mCtr_of pl_X0 dc_X0_has (Nat.le_of_ble_eq_true rfl) rfl ?_
  show mX m_X0_has 1 _ 0 0 0 [some (vR (some c)), some (vI (x))] [] (st i l)
  refine x_iload_n 0 rfl rfl ?_
  refine x_if_lt 1 (tgt := 16) rfl (by decide) (by omega) (fun h1 => ?_) (fun h1 => ?_)
  · refine x_iconst 8 rfl ?_
    refine x_ret 9 (some (vI (0))) rfl ⟨rfl, Or.inr ⟨rfl, by omega⟩⟩ ⟨rfl, Or.inr ⟨?_, rfl⟩⟩
    omega
  · refine x_iload_n 2 rfl rfl ?_
    refine x_aload_n 3 rfl rfl ?_
    refine x_getI 4 (z := i c 4) rfl fl_X0_31 (isC_0 hc) (kC hc) rfl rfl ?_
    refine x_icmp_ge 5 (tgt := 16) rfl (by decide) (by omega) (fun h2 => ?_) (fun h2 => ?_)
    · refine x_iconst 8 rfl ?_
      refine x_ret 9 (some (vI (0))) rfl ⟨rfl, Or.inr ⟨rfl, by omega⟩⟩ ⟨rfl, Or.inr ⟨?_, rfl⟩⟩
      omega
    · refine x_iconst 6 rfl ?_
      refine x_goto 7 (tgt := 17) rfl (by decide) ?_
      refine x_ret 9 (some (vI (1))) rfl ⟨rfl, Or.inr ⟨rfl, by omega⟩⟩ ⟨rfl, Or.inl ⟨?_, rfl⟩⟩
      omega
set_option maxRecDepth 20000 in
set_option maxHeartbeats 2000000 in
theorem c_members {i : Nat → Int → Int} {l : Nat → Int → BitVec 64} {c : Nat} (hc : isC c) (hO : okC i c) {p : Int} (hp : -2147483648 ≤ p ∧ p < 2147483648) : mCtr m_X0_members 1 0 0 [vR (some c), vI (p)] (st i l) (qI (fMem i c p) (st i l)) := by
  refine mCtr_of pl_X0 dc_X0_members (Nat.le_of_ble_eq_true rfl) rfl ?_
  show mX m_X0_members 1 _ 0 0 0 [some (vR (some c)), some (vI (p)), none, none] [] (st i l)
  have hN := hO.n
  obtain ⟨f, hf⟩ : ∃ f : Int → Int, f = fun k => if i (c + 2 + k.toNat) 6 = p then 1 else 0 := ⟨_, rfl⟩
  refine x_iconst 0 rfl ?_
  refine x_istore_n 1 (L' := [some (vR (some c)), some (vI (p)), some (vI (0)), none]) rfl (by decide) rfl rfl ?_
  refine x_iconst 2 rfl ?_
  refine x_istore_n 3 (L' := [some (vR (some c)), some (vI (p)), some (vI (0)), some (vI (0))]) rfl (by decide) rfl rfl ?_
  have loopL1 : ∀ (n : Nat) (x : Int) (s : Int), (0 ≤ x ∧ x ≤ i c 4) → (s = sumZ f x) → (i c 4 - x) < (n : Int) → mX m_X0_members 1 (qI (fMem i c p) (st i l)) 0 0 4 [some (vR (some c)), some (vI (p)), some (vI (s)), some (vI (x))] [] (st i l) := by
    intro n
    induction n with
    | zero => intro x s hx hs hz; exact absurd hz (by omega)
    | succ n ihL1 =>
      intro x s hx hs hzL1
      refine x_iload_n 4 rfl rfl ?_
      refine x_aload_n 5 rfl rfl ?_
      refine x_getI 6 (z := i c 4) rfl fl_X0_31 (isC_0 hc) (kC hc) rfl rfl ?_
      refine x_icmp_ge 7 (tgt := 39) rfl (by decide) (by omega) (fun h2 => ?_) (fun h2 => ?_)
      · refine x_iload_n 23 rfl rfl ?_
        refine x_ret 24 (some (vI (s))) rfl ⟨rfl, Or.inl rfl⟩ ⟨congrArg (fun z => some (vI z)) ?_, rfl⟩
        rw [hs, hf, show x = i c 4 by omega]; rfl
      · have hfx : f x = (if i (c + 2 + x.toNat) 6 = p then 1 else 0) := by rw [hf]
        have hsg := hO.s hx.1 (show x < i c 4 by omega)
        refine x_iload_n 8 rfl rfl ?_
        refine x_aload_n 9 rfl rfl ?_
        refine x_getR 10 (z := (c + 1)) rfl fl_X0_11 (isC_0 hc) (kC hc) rfl (rC0 hc) ?_
        refine x_iload_n 11 rfl rfl ?_
        refine x_aald 12 (t := 3) (z := (c + 2 + (x).toNat)) rfl (isC_S hc) (kCS hc) (by omega) ⟨rfl, rfl⟩ (rCs hc (by omega)) ?_
        refine x_getI 13 (z := i (c + 2 + (x).toNat) 6) rfl fl_X0_73 (isS_lt (isS.of hc (show (x).toNat < 10 by omega))) (kS (isS.of hc (show (x).toNat < 10 by omega))) rfl rfl ?_
        refine x_iload_n 14 rfl rfl ?_
        refine x_icmp_ne 15 (tgt := 30) rfl (by decide) (by omega) (fun h3 => ?_) (fun h3 => ?_)
        · refine x_iconst 18 rfl ?_
          refine x_iadd 19 (r := s + 0) rfl rfl ?_
          refine x_istore_n 20 (L' := [some (vR (some c)), some (vI (p)), some (vI (s + 0)), some (vI (x))]) rfl (by decide) rfl rfl ?_
          refine x_iinc 21 (L' := [some (vR (some c)), some (vI (p)), some (vI (s + 0)), some (vI (x + 1))]) rfl (by decide) rfl rfl rfl rfl ?_
          refine x_goto 22 (tgt := 4) rfl (by decide) ?_
          exact ihL1 (x + 1) (s + 0) (by omega) (by rw [sumZ_s f hx.1, hfx]; grind) (by omega)
        · refine x_iconst 16 rfl ?_
          refine x_goto 17 (tgt := 31) rfl (by decide) ?_
          refine x_iadd 19 (r := s + 1) rfl rfl ?_
          refine x_istore_n 20 (L' := [some (vR (some c)), some (vI (p)), some (vI (s + 1)), some (vI (x))]) rfl (by decide) rfl rfl ?_
          refine x_iinc 21 (L' := [some (vR (some c)), some (vI (p)), some (vI (s + 1)), some (vI (x + 1))]) rfl (by decide) rfl rfl rfl rfl ?_
          refine x_goto 22 (tgt := 4) rfl (by decide) ?_
          exact ihL1 (x + 1) (s + 1) (by omega) (by rw [sumZ_s f hx.1, hfx]; grind) (by omega)
  exact loopL1 ((i c 4 - ((0))) + 1 : Int).toNat (0) (0) (by omega) (rfl) (by omega)
set_option maxRecDepth 20000 in
set_option maxHeartbeats 2000000 in
theorem c_strength {i : Nat → Int → Int} {l : Nat → Int → BitVec 64} {c : Nat} (hc : isC c) (hO : okC i c) {p : Int} (hp : -2147483648 ≤ p ∧ p < 2147483648) : mCtr m_X0_strength 1 0 0 [vR (some c), vI (p)] (st i l) (qI (fStr i c p) (st i l)) := by
  refine mCtr_of pl_X0 dc_X0_strength (Nat.le_of_ble_eq_true rfl) rfl ?_
  show mX m_X0_strength 1 _ 0 0 0 [some (vR (some c)), some (vI (p)), none, none] [] (st i l)
  have hN := hO.n
  obtain ⟨f, hf⟩ : ∃ f : Int → Int, f = fun k => if i (c + 2 + k.toNat) 6 = p then i (c + 2 + k.toNat) 0 else 0 := ⟨_, rfl⟩
  refine x_iconst 0 rfl ?_
  refine x_istore_n 1 (L' := [some (vR (some c)), some (vI (p)), some (vI (0)), none]) rfl (by decide) rfl rfl ?_
  refine x_iconst 2 rfl ?_
  refine x_istore_n 3 (L' := [some (vR (some c)), some (vI (p)), some (vI (0)), some (vI (0))]) rfl (by decide) rfl rfl ?_
  have loopL1 : ∀ (n : Nat) (x : Int) (s : Int), (0 ≤ x ∧ x ≤ i c 4) → (s = sumZ f x) → (i c 4 - x) < (n : Int) → mX m_X0_strength 1 (qI (fStr i c p) (st i l)) 0 0 4 [some (vR (some c)), some (vI (p)), some (vI (s)), some (vI (x))] [] (st i l) := by
    intro n
    induction n with
    | zero => intro x s hx hs hz; exact absurd hz (by omega)
    | succ n ihL1 =>
      intro x s hx hs hzL1
      refine x_iload_n 4 rfl rfl ?_
      refine x_aload_n 5 rfl rfl ?_
      refine x_getI 6 (z := i c 4) rfl fl_X0_31 (isC_0 hc) (kC hc) rfl rfl ?_
      refine x_icmp_ge 7 (tgt := 47) rfl (by decide) (by omega) (fun h2 => ?_) (fun h2 => ?_)
      · refine x_iload_n 27 rfl rfl ?_
        refine x_ret 28 (some (vI (s))) rfl ⟨rfl, Or.inl rfl⟩ ⟨congrArg (fun z => some (vI z)) ?_, rfl⟩
        rw [hs, hf, show x = i c 4 by omega]; rfl
      · have hfx : f x = (if i (c + 2 + x.toNat) 6 = p then i (c + 2 + x.toNat) 0 else 0) := by rw [hf]
        have hsg := hO.s hx.1 (show x < i c 4 by omega)
        refine x_iload_n 8 rfl rfl ?_
        refine x_aload_n 9 rfl rfl ?_
        refine x_getR 10 (z := (c + 1)) rfl fl_X0_11 (isC_0 hc) (kC hc) rfl (rC0 hc) ?_
        refine x_iload_n 11 rfl rfl ?_
        refine x_aald 12 (t := 3) (z := (c + 2 + (x).toNat)) rfl (isC_S hc) (kCS hc) (by omega) ⟨rfl, rfl⟩ (rCs hc (by omega)) ?_
        refine x_getI 13 (z := i (c + 2 + (x).toNat) 6) rfl fl_X0_73 (isS_lt (isS.of hc (show (x).toNat < 10 by omega))) (kS (isS.of hc (show (x).toNat < 10 by omega))) rfl rfl ?_
        refine x_iload_n 14 rfl rfl ?_
        refine x_icmp_ne 15 (tgt := 38) rfl (by decide) (by omega) (fun h3 => ?_) (fun h3 => ?_)
        · refine x_iconst 22 rfl ?_
          refine x_iadd 23 (r := s + 0) rfl rfl ?_
          refine x_istore_n 24 (L' := [some (vR (some c)), some (vI (p)), some (vI (s + 0)), some (vI (x))]) rfl (by decide) rfl rfl ?_
          refine x_iinc 25 (L' := [some (vR (some c)), some (vI (p)), some (vI (s + 0)), some (vI (x + 1))]) rfl (by decide) rfl rfl rfl rfl ?_
          refine x_goto 26 (tgt := 4) rfl (by decide) ?_
          exact ihL1 (x + 1) (s + 0) (by omega) (by rw [sumZ_s f hx.1, hfx]; grind) (by omega)
        · refine x_aload_n 16 rfl rfl ?_
          refine x_getR 17 (z := (c + 1)) rfl fl_X0_11 (isC_0 hc) (kC hc) rfl (rC0 hc) ?_
          refine x_iload_n 18 rfl rfl ?_
          refine x_aald 19 (t := 3) (z := (c + 2 + (x).toNat)) rfl (isC_S hc) (kCS hc) (by omega) ⟨rfl, rfl⟩ (rCs hc (by omega)) ?_
          refine x_getI 20 (z := i (c + 2 + (x).toNat) 0) rfl fl_X0_76 (isS_lt (isS.of hc (show (x).toNat < 10 by omega))) (kS (isS.of hc (show (x).toNat < 10 by omega))) rfl rfl ?_
          refine x_goto 21 (tgt := 39) rfl (by decide) ?_
          refine x_iadd 23 (r := s + (i (c + 2 + (x).toNat) 0)) rfl rfl ?_
          refine x_istore_n 24 (L' := [some (vR (some c)), some (vI (p)), some (vI (s + (i (c + 2 + (x).toNat) 0))), some (vI (x))]) rfl (by decide) rfl rfl ?_
          refine x_iinc 25 (L' := [some (vR (some c)), some (vI (p)), some (vI (s + (i (c + 2 + (x).toNat) 0))), some (vI (x + 1))]) rfl (by decide) rfl rfl rfl rfl ?_
          refine x_goto 26 (tgt := 4) rfl (by decide) ?_
          exact ihL1 (x + 1) (s + (i (c + 2 + (x).toNat) 0)) (by omega) (by rw [sumZ_s f hx.1, hfx]; grind) (by omega)
  exact loopL1 ((i c 4 - ((0))) + 1 : Int).toNat (0) (0) (by omega) (rfl) (by omega)
set_option maxRecDepth 20000 in
set_option maxHeartbeats 2000000 in
theorem c_strengthPresent {i : Nat → Int → Int} {l : Nat → Int → BitVec 64} {c : Nat} (hc : isC c) (hO : okC i c) {p : Int} (hp : -2147483648 ≤ p ∧ p < 2147483648) : mCtr m_X0_strengthPresent 1 0 0 [vR (some c), vI (p)] (st i l) (qI (fPres i c p) (st i l)) := by
  refine mCtr_of pl_X0 dc_X0_strengthPresent (Nat.le_of_ble_eq_true rfl) rfl ?_
  show mX m_X0_strengthPresent 1 _ 0 0 0 [some (vR (some c)), some (vI (p)), none, none, none] [] (st i l)
  have hN := hO.n
  obtain ⟨f, hf⟩ : ∃ f : Int → Int, f = fun k => if i (c + 2 + k.toNat) 6 = p ∧ i (c + 2 + k.toNat) 7 ≠ 0 then i (c + 2 + k.toNat) 0 else 0 := ⟨_, rfl⟩
  refine x_iconst 0 rfl ?_
  refine x_istore_n 1 (L' := [some (vR (some c)), some (vI (p)), some (vI (0)), none, none]) rfl (by decide) rfl rfl ?_
  refine x_iconst 2 rfl ?_
  refine x_istore_n 3 (L' := [some (vR (some c)), some (vI (p)), some (vI (0)), some (vI (0)), none]) rfl (by decide) rfl rfl ?_
  have loopL1 : ∀ (n : Nat) (x : Int) (s : Int), (0 ≤ x ∧ x ≤ i c 4) → (s = sumZ f x) → (i c 4 - x) < (n : Int) → mX m_X0_strengthPresent 1 (qI (fPres i c p) (st i l)) 0 0 4 [some (vR (some c)), some (vI (p)), some (vI (s)), some (vI (x)), none] [] (st i l) := by
    intro n
    induction n with
    | zero => intro x s hx hs hz; exact absurd hz (by omega)
    | succ n ihL1 =>
      intro x s hx hs hzL1
      refine x_iload_n 4 rfl rfl ?_
      refine x_aload_n 5 rfl rfl ?_
      refine x_getI 6 (z := i c 4) rfl fl_X0_31 (isC_0 hc) (kC hc) rfl rfl ?_
      refine x_icmp_ge 7 (tgt := 55) rfl (by decide) (by omega) (fun h2 => ?_) (fun h2 => ?_)
      · refine x_iload_n 29 rfl rfl ?_
        refine x_ret 30 (some (vI (s))) rfl ⟨rfl, Or.inl rfl⟩ ⟨congrArg (fun z => some (vI z)) ?_, rfl⟩
        rw [hs, hf, show x = i c 4 by omega]; rfl
      · have hfx : f x = (if i (c + 2 + x.toNat) 6 = p ∧ i (c + 2 + x.toNat) 7 ≠ 0 then i (c + 2 + x.toNat) 0 else 0) := by rw [hf]
        have hsg := hO.s hx.1 (show x < i c 4 by omega)
        refine x_aload_n 8 rfl rfl ?_
        refine x_getR 9 (z := (c + 1)) rfl fl_X0_11 (isC_0 hc) (kC hc) rfl (rC0 hc) ?_
        refine x_iload_n 10 rfl rfl ?_
        refine x_aald 11 (t := 3) (z := (c + 2 + (x).toNat)) rfl (isC_S hc) (kCS hc) (by omega) ⟨rfl, rfl⟩ (rCs hc (by omega)) ?_
        refine x_astore 12 (L' := [some (vR (some c)), some (vI (p)), some (vI (s)), some (vI (x)), some (vR (some (c + 2 + (x).toNat)))]) rfl (by decide) rfl rfl ?_
        refine x_iload_n 13 rfl rfl ?_
        refine x_aload 14 rfl rfl ?_
        refine x_getI 15 (z := i (c + 2 + (x).toNat) 6) rfl fl_X0_73 (isS_lt (isS.of hc (show (x).toNat < 10 by omega))) (kS (isS.of hc (show (x).toNat < 10 by omega))) rfl rfl ?_
        refine x_iload_n 16 rfl rfl ?_
        refine x_icmp_ne 17 (tgt := 46) rfl (by decide) (by omega) (fun h3 => ?_) (fun h3 => ?_)
        · refine x_iconst 24 rfl ?_
          refine x_iadd 25 (r := s + 0) rfl rfl ?_
          refine x_istore_n 26 (L' := [some (vR (some c)), some (vI (p)), some (vI (s + 0)), some (vI (x)), some (vR (some (c + 2 + (x).toNat)))]) rfl (by decide) rfl rfl ?_
          refine x_iinc 27 (L' := [some (vR (some c)), some (vI (p)), some (vI (s + 0)), some (vI (x + 1)), some (vR (some (c + 2 + (x).toNat)))]) rfl (by decide) rfl rfl rfl rfl ?_
          refine x_goto 28 (tgt := 4) rfl (by decide) ?_
          refine x_dropL (L' := [some (vR (some c)), some (vI (p)), some (vI (s + 0)), some (vI (x + 1)), none]) ⟨rfl, ⟨rfl, ⟨rfl, ⟨rfl, True.intro⟩⟩⟩⟩ ?_
          exact ihL1 (x + 1) (s + 0) (by omega) (by rw [sumZ_s f hx.1, hfx]; grind) (by omega)
        · refine x_aload 18 rfl rfl ?_
          refine x_getI 19 (z := i (c + 2 + (x).toNat) 7) rfl fl_X0_69 (isS_lt (isS.of hc (show (x).toNat < 10 by omega))) (kS (isS.of hc (show (x).toNat < 10 by omega))) rfl rfl ?_
          refine x_if_eq 20 (tgt := 46) rfl (by decide) (by omega) (fun h4 => ?_) (fun h4 => ?_)
          · refine x_iconst 24 rfl ?_
            refine x_iadd 25 (r := s + 0) rfl rfl ?_
            refine x_istore_n 26 (L' := [some (vR (some c)), some (vI (p)), some (vI (s + 0)), some (vI (x)), some (vR (some (c + 2 + (x).toNat)))]) rfl (by decide) rfl rfl ?_
            refine x_iinc 27 (L' := [some (vR (some c)), some (vI (p)), some (vI (s + 0)), some (vI (x + 1)), some (vR (some (c + 2 + (x).toNat)))]) rfl (by decide) rfl rfl rfl rfl ?_
            refine x_goto 28 (tgt := 4) rfl (by decide) ?_
            refine x_dropL (L' := [some (vR (some c)), some (vI (p)), some (vI (s + 0)), some (vI (x + 1)), none]) ⟨rfl, ⟨rfl, ⟨rfl, ⟨rfl, True.intro⟩⟩⟩⟩ ?_
            exact ihL1 (x + 1) (s + 0) (by omega) (by rw [sumZ_s f hx.1, hfx]; grind) (by omega)
          · refine x_aload 21 rfl rfl ?_
            refine x_getI 22 (z := i (c + 2 + (x).toNat) 0) rfl fl_X0_76 (isS_lt (isS.of hc (show (x).toNat < 10 by omega))) (kS (isS.of hc (show (x).toNat < 10 by omega))) rfl rfl ?_
            refine x_goto 23 (tgt := 47) rfl (by decide) ?_
            refine x_iadd 25 (r := s + (i (c + 2 + (x).toNat) 0)) rfl rfl ?_
            refine x_istore_n 26 (L' := [some (vR (some c)), some (vI (p)), some (vI (s + (i (c + 2 + (x).toNat) 0))), some (vI (x)), some (vR (some (c + 2 + (x).toNat)))]) rfl (by decide) rfl rfl ?_
            refine x_iinc 27 (L' := [some (vR (some c)), some (vI (p)), some (vI (s + (i (c + 2 + (x).toNat) 0))), some (vI (x + 1)), some (vR (some (c + 2 + (x).toNat)))]) rfl (by decide) rfl rfl rfl rfl ?_
            refine x_goto 28 (tgt := 4) rfl (by decide) ?_
            refine x_dropL (L' := [some (vR (some c)), some (vI (p)), some (vI (s + (i (c + 2 + (x).toNat) 0))), some (vI (x + 1)), none]) ⟨rfl, ⟨rfl, ⟨rfl, ⟨rfl, True.intro⟩⟩⟩⟩ ?_
            exact ihL1 (x + 1) (s + (i (c + 2 + (x).toNat) 0)) (by omega) (by rw [sumZ_s f hx.1, hfx]; grind) (by omega)
  exact loopL1 ((i c 4 - ((0))) + 1 : Int).toNat (0) (0) (by omega) (rfl) (by omega)
set_option maxRecDepth 20000 in
set_option maxHeartbeats 2000000 in
theorem c_absent {i : Nat → Int → Int} {l : Nat → Int → BitVec 64} {c : Nat} (hc : isC c) (hO : okC i c) : mCtr m_X0_absent 1 0 0 [vR (some c)] (st i l) (qI (fAbs i c) (st i l)) := by
  refine mCtr_of pl_X0 dc_X0_absent (Nat.le_of_ble_eq_true rfl) rfl ?_
  show mX m_X0_absent 1 _ 0 0 0 [some (vR (some c)), none, none] [] (st i l)
  have hN := hO.n
  obtain ⟨f, hf⟩ : ∃ f : Int → Int, f = fun k => if i (c + 2 + k.toNat) 7 = 0 then 1 else 0 := ⟨_, rfl⟩
  refine x_iconst 0 rfl ?_
  refine x_istore_n 1 (L' := [some (vR (some c)), some (vI (0)), none]) rfl (by decide) rfl rfl ?_
  refine x_iconst 2 rfl ?_
  refine x_istore_n 3 (L' := [some (vR (some c)), some (vI (0)), some (vI (0))]) rfl (by decide) rfl rfl ?_
  have loopL1 : ∀ (n : Nat) (x : Int) (s : Int), (0 ≤ x ∧ x ≤ i c 4) → (s = sumZ f x) → (i c 4 - x) < (n : Int) → mX m_X0_absent 1 (qI (fAbs i c) (st i l)) 0 0 4 [some (vR (some c)), some (vI (s)), some (vI (x))] [] (st i l) := by
    intro n
    induction n with
    | zero => intro x s hx hs hz; exact absurd hz (by omega)
    | succ n ihL1 =>
      intro x s hx hs hzL1
      refine x_iload_n 4 rfl rfl ?_
      refine x_aload_n 5 rfl rfl ?_
      refine x_getI 6 (z := i c 4) rfl fl_X0_31 (isC_0 hc) (kC hc) rfl rfl ?_
      refine x_icmp_ge 7 (tgt := 38) rfl (by decide) (by omega) (fun h2 => ?_) (fun h2 => ?_)
      · refine x_iload_n 22 rfl rfl ?_
        refine x_ret 23 (some (vI (s))) rfl ⟨rfl, Or.inl rfl⟩ ⟨congrArg (fun z => some (vI z)) ?_, rfl⟩
        rw [hs, hf, show x = i c 4 by omega]; rfl
      · have hfx : f x = (if i (c + 2 + x.toNat) 7 = 0 then 1 else 0) := by rw [hf]
        have hsg := hO.s hx.1 (show x < i c 4 by omega)
        refine x_iload_n 8 rfl rfl ?_
        refine x_aload_n 9 rfl rfl ?_
        refine x_getR 10 (z := (c + 1)) rfl fl_X0_11 (isC_0 hc) (kC hc) rfl (rC0 hc) ?_
        refine x_iload_n 11 rfl rfl ?_
        refine x_aald 12 (t := 3) (z := (c + 2 + (x).toNat)) rfl (isC_S hc) (kCS hc) (by omega) ⟨rfl, rfl⟩ (rCs hc (by omega)) ?_
        refine x_getI 13 (z := i (c + 2 + (x).toNat) 7) rfl fl_X0_69 (isS_lt (isS.of hc (show (x).toNat < 10 by omega))) (kS (isS.of hc (show (x).toNat < 10 by omega))) rfl rfl ?_
        refine x_if_eq 14 (tgt := 29) rfl (by decide) (by omega) (fun h3 => ?_) (fun h3 => ?_)
        · refine x_iconst 17 rfl ?_
          refine x_iadd 18 (r := s + 1) rfl rfl ?_
          refine x_istore_n 19 (L' := [some (vR (some c)), some (vI (s + 1)), some (vI (x))]) rfl (by decide) rfl rfl ?_
          refine x_iinc 20 (L' := [some (vR (some c)), some (vI (s + 1)), some (vI (x + 1))]) rfl (by decide) rfl rfl rfl rfl ?_
          refine x_goto 21 (tgt := 4) rfl (by decide) ?_
          exact ihL1 (x + 1) (s + 1) (by omega) (by rw [sumZ_s f hx.1, hfx]; grind) (by omega)
        · refine x_iconst 15 rfl ?_
          refine x_goto 16 (tgt := 30) rfl (by decide) ?_
          refine x_iadd 18 (r := s + 0) rfl rfl ?_
          refine x_istore_n 19 (L' := [some (vR (some c)), some (vI (s + 0)), some (vI (x))]) rfl (by decide) rfl rfl ?_
          refine x_iinc 20 (L' := [some (vR (some c)), some (vI (s + 0)), some (vI (x + 1))]) rfl (by decide) rfl rfl rfl rfl ?_
          refine x_goto 21 (tgt := 4) rfl (by decide) ?_
          exact ihL1 (x + 1) (s + 0) (by omega) (by rw [sumZ_s f hx.1, hfx]; grind) (by omega)
  exact loopL1 ((i c 4 - ((0))) + 1 : Int).toNat (0) (0) (by omega) (rfl) (by omega)
set_option maxRecDepth 20000 in
set_option maxHeartbeats 2000000 in
theorem c_placed {i : Nat → Int → Int} {l : Nat → Int → BitVec 64} {c : Nat} (hc : isC c) (hO : okC i c) : mCtr m_X0_placed 2 0 0 [vR (some c)] (st i l) (qI (sumZ (fun p => fMem i c p) 4) (st i l)) := by
  refine mCtr_of pl_X0 dc_X0_placed (Nat.le_of_ble_eq_true rfl) rfl ?_
  show mX m_X0_placed 2 _ 0 0 0 [some (vR (some c)), none, none] [] (st i l)
  have hN := hO.n
  obtain ⟨f, hf⟩ : ∃ f : Int → Int, f = fun k => fMem i c k := ⟨_, rfl⟩
  refine x_iconst 0 rfl ?_
  refine x_istore_n 1 (L' := [some (vR (some c)), some (vI (0)), none]) rfl (by decide) rfl rfl ?_
  refine x_iconst 2 rfl ?_
  refine x_istore_n 3 (L' := [some (vR (some c)), some (vI (0)), some (vI (0))]) rfl (by decide) rfl rfl ?_
  have loopL1 : ∀ (n : Nat) (x : Int) (s : Int), (0 ≤ x ∧ x ≤ 4) → (s = sumZ f x) → (4 - x) < (n : Int) → mX m_X0_placed 2 (qI (sumZ (fun p => fMem i c p) 4) (st i l)) 0 0 4 [some (vR (some c)), some (vI (s)), some (vI (x))] [] (st i l) := by
    intro n
    induction n with
    | zero => intro x s hx hs hz; exact absurd hz (by omega)
    | succ n ihL1 =>
      intro x s hx hs hzL1
      refine x_iload_n 4 rfl rfl ?_
      refine x_iconst 5 rfl ?_
      refine x_icmp_ge 6 (tgt := 23) rfl (by decide) (by omega) (fun h2 => ?_) (fun h2 => ?_)
      · refine x_iload_n 15 rfl rfl ?_
        refine x_ret 16 (some (vI (s))) rfl ⟨rfl, Or.inl rfl⟩ ⟨congrArg (fun z => some (vI z)) ?_, rfl⟩
        rw [hs, hf, show x = 4 by omega]
      · have hfx : f x = (fMem i c x) := by rw [hf]
        refine x_iload_n 7 rfl rfl ?_
        refine x_aload_n 8 rfl rfl ?_
        refine x_iload_n 9 rfl rfl ?_
        refine x_callV 10 m_X0_members (c_members hc hO (by omega)) rfl ok_X0_members (isC_0 hc) (kC hc) rfl rfl ml_X0_66 im_X0_members se_X0_members rfl (by decide) rfl (Nat.le_of_ble_eq_true rfl) rfl rfl (fun v g q3 => ?_)
        obtain ⟨rfl, rfl⟩ := q3
        show mX m_X0_placed 2 _ 0 0 _ _ [vI (fMem i c x), vI (s)] _
        refine x_iadd 11 (r := s + (fMem i c x)) rfl rfl ?_
        refine x_istore_n 12 (L' := [some (vR (some c)), some (vI (s + (fMem i c x))), some (vI (x))]) rfl (by decide) rfl rfl ?_
        refine x_iinc 13 (L' := [some (vR (some c)), some (vI (s + (fMem i c x))), some (vI (x + 1))]) rfl (by decide) rfl rfl rfl rfl ?_
        refine x_goto 14 (tgt := 4) rfl (by decide) ?_
        exact ihL1 (x + 1) (s + (fMem i c x)) (by omega) (by rw [sumZ_s f hx.1, hfx]; grind) (by omega)
  exact loopL1 ((4 - ((0))) + 1 : Int).toNat (0) (0) (by omega) (rfl) (by omega)
set_option maxRecDepth 20000 in
set_option maxHeartbeats 2000000 in
theorem c_covers {i : Nat → Int → Int} {l : Nat → Int → BitVec 64} {c : Nat} (hc : isC c) (hs : 1 ≤ i (c + 12) 1 ∧ i (c + 12) 1 ≤ 50) {x : Int} (hx : -2147483648 ≤ x ∧ x < 2147483648) : mCtr m_X0_covers 1 0 0 [vR (some c), vI (x)] (st i l) (qB (i (c + 12) 1 ≤ x) (st i l)) := by
  refine mCtr_of pl_X0 dc_X0_covers (Nat.le_of_ble_eq_true rfl) rfl ?_
  show mX m_X0_covers 1 _ 0 0 0 [some (vR (some c)), some (vI (x))] [] (st i l)
  refine x_iload_n 0 rfl rfl ?_
  refine x_aload_n 1 rfl rfl ?_
  refine x_getR 2 (z := (c + 12)) rfl fl_X0_18 (isC_0 hc) (kC hc) rfl (rC1 hc) ?_
  refine x_iconst 3 rfl ?_
  refine x_iald 4 (z := i (c + 12) 1) rfl (isC_T hc) (kCT hc) (by omega) rfl ?_
  refine x_icmp_lt 5 (tgt := 14) rfl (by decide) (by omega) (fun h1 => ?_) (fun h1 => ?_)
  · refine x_iconst 8 rfl ?_
    refine x_ret 9 (some (vI (0))) rfl ⟨rfl, Or.inr ⟨rfl, by omega⟩⟩ ⟨rfl, Or.inr ⟨?_, rfl⟩⟩
    omega
  · refine x_iconst 6 rfl ?_
    refine x_goto 7 (tgt := 15) rfl (by decide) ?_
    refine x_ret 9 (some (vI (1))) rfl ⟨rfl, Or.inr ⟨rfl, by omega⟩⟩ ⟨rfl, Or.inl ⟨?_, rfl⟩⟩
    omega
set_option maxRecDepth 20000 in
set_option maxHeartbeats 2000000 in
theorem c_coveredParts {i : Nat → Int → Int} {l : Nat → Int → BitVec 64} {c : Nat} (hc : isC c) (hO : okC i c) : mCtr m_X0_coveredParts 2 0 0 [vR (some c)] (st i l) (qI (fCov i c) (st i l)) := by
  refine mCtr_of pl_X0 dc_X0_coveredParts (Nat.le_of_ble_eq_true rfl) rfl ?_
  show mX m_X0_coveredParts 2 _ 0 0 0 [some (vR (some c)), none, none] [] (st i l)
  have hN := hO.n
  obtain ⟨f, hf⟩ : ∃ f : Int → Bool, f = fun p => decide (i (c + 12) 1 ≤ fPres i c p) := ⟨_, rfl⟩
  refine x_iconst 0 rfl ?_
  refine x_istore_n 1 (L' := [some (vR (some c)), some (vI (0)), none]) rfl (by decide) rfl rfl ?_
  refine x_iconst 2 rfl ?_
  refine x_istore_n 3 (L' := [some (vR (some c)), some (vI (0)), some (vI (0))]) rfl (by decide) rfl rfl ?_
  have loopL1 : ∀ (n : Nat) (x : Int) (s : Int), (0 ≤ x ∧ x ≤ 4) → (s = orZ f x) → (4 - x) < (n : Int) → mX m_X0_coveredParts 2 (qI (fCov i c) (st i l)) 0 0 4 [some (vR (some c)), some (vI (s)), some (vI (x))] [] (st i l) := by
    intro n
    induction n with
    | zero => intro x s hx hs hz; exact absurd hz (by omega)
    | succ n ihL1 =>
      intro x s hx hs hzL1
      refine x_iload_n 4 rfl rfl ?_
      refine x_iconst 5 rfl ?_
      refine x_icmp_ge 6 (tgt := 33) rfl (by decide) (by omega) (fun h2 => ?_) (fun h2 => ?_)
      · refine x_iload_n 21 rfl rfl ?_
        refine x_ret 22 (some (vI (s))) rfl ⟨rfl, Or.inl rfl⟩ ⟨congrArg (fun z => some (vI z)) ?_, rfl⟩
        rw [hs, hf, show x = 4 by omega]; rfl
      · refine x_aload_n 7 rfl rfl ?_
        refine x_aload_n 8 rfl rfl ?_
        refine x_iload_n 9 rfl rfl ?_
        have hpb := fPres_bd (p := x) hO
        have hob := orZ_bd f (x := x) (by omega)
        refine x_callV 10 m_X0_strengthPresent (c_strengthPresent hc hO (by omega)) rfl ok_X0_strengthPresent (isC_0 hc) (kC hc) rfl rfl ml_X0_79 im_X0_strengthPresent se_X0_strengthPresent rfl (by decide) rfl (Nat.le_of_ble_eq_true rfl) rfl rfl (fun v g q3 => ?_)
        obtain ⟨rfl, rfl⟩ := q3
        show mX m_X0_coveredParts 2 _ 0 0 _ _ [vI (fPres i c x), vR (some c)] _
        refine x_callV 11 m_X0_covers (c_covers hc (by omega) (by omega)) rfl ok_X0_covers (isC_0 hc) (kC hc) rfl rfl ml_X0_82 im_X0_covers se_X0_covers rfl (by decide) rfl (Nat.le_of_ble_eq_true rfl) rfl rfl (fun v g q4 => ?_)
        rcases q4 with ⟨rfl, ⟨h5, rfl⟩ | ⟨h5, rfl⟩⟩
        · show mX m_X0_coveredParts 2 _ 0 0 _ _ [vI (1)] _
          have hfx : f x = true := by rw [hf]; simpa using h5
          refine x_if_eq 12 (tgt := 27) rfl (by decide) (by decide) (fun h6 => absurd h6 (by decide)) (fun h6 => ?_)
          have hp2 := mPow4 (show 0 ≤ x ∧ x < 4 by omega)
          refine x_iload_n 13 rfl rfl ?_
          refine x_iconst 14 rfl ?_
          refine x_iload_n 15 rfl rfl ?_
          refine x_ishl 16 (r := 1 * 2 ^ (x).toNat) rfl (by have := Nat.pow_le_pow_right (n := 2) (by decide) (show x.toNat ≤ 4 by omega); omega) rfl ?_
          refine x_ior 17 (r := (s : Int).toNat ||| (1 * 2 ^ (x).toNat : Int).toNat) rfl (by omega) rfl ?_
          refine x_istore_n 18 (L' := [some (vR (some c)), some (vI ((((s : Int).toNat ||| (1 * 2 ^ (x).toNat : Int).toNat : Nat) : Int))), some (vI (x))]) rfl (by decide) rfl rfl ?_
          refine x_iinc 19 (L' := [some (vR (some c)), some (vI ((((s : Int).toNat ||| (1 * 2 ^ (x).toNat : Int).toNat : Nat) : Int))), some (vI (x + 1))]) rfl (by decide) rfl rfl rfl rfl ?_
          refine x_goto 20 (tgt := 4) rfl (by decide) ?_
          exact ihL1 (x + 1) ((((s : Int).toNat ||| (1 * 2 ^ (x).toNat : Int).toNat : Nat) : Int)) (by omega) (by rw [orZ_s f hx.1, hs, hfx]; first | (rw [if_neg (by decide)]) | (rw [if_pos rfl, mOne])) (by omega)
        · show mX m_X0_coveredParts 2 _ 0 0 _ _ [vI (0)] _
          have hfx : f x = false := by rw [hf]; simpa using h5
          refine x_if_eq 12 (tgt := 27) rfl (by decide) (by decide) (fun h7 => ?_) (fun h7 => absurd h7 (by decide))
          refine x_iinc 19 (L' := [some (vR (some c)), some (vI (s)), some (vI (x + 1))]) rfl (by decide) rfl rfl rfl rfl ?_
          refine x_goto 20 (tgt := 4) rfl (by decide) ?_
          exact ihL1 (x + 1) (s) (by omega) (by rw [orZ_s f hx.1, hs, hfx]; first | (rw [if_neg (by decide)]) | (rw [if_pos rfl, mOne])) (by omega)
  exact loopL1 ((4 - ((0))) + 1 : Int).toNat (0) (0) (by omega) (rfl) (by omega)
set_option maxRecDepth 20000 in
set_option maxHeartbeats 2000000 in
theorem c_width {i : Nat → Int → Int} {l : Nat → Int → BitVec 64} {c : Nat} (hc : isC c) (hO : okC i c) : mCtr m_X0_width 2 0 0 [vR (some c)] (st i l) (qI (i (c + 12) 3) (st i l)) := by
  refine mCtr_of pl_X0 dc_X0_width (Nat.le_of_ble_eq_true rfl) rfl ?_
  show mX m_X0_width 2 _ 0 0 0 [some (vR (some c))] [] (st i l)
  have hN := hO.n
  refine x_iconst 0 rfl ?_
  refine x_aload_n 1 rfl rfl ?_
  refine x_getR 2 (z := (c + 12)) rfl fl_X0_18 (isC_0 hc) (kC hc) rfl (rC1 hc) ?_
  refine x_iconst 3 rfl ?_
  refine x_iald 4 (z := i (c + 12) 3) rfl (isC_T hc) (kCT hc) (by omega) rfl ?_
  refine x_mmax 5 (r := max 1 (i (c + 12) 3)) rfl ml_X0_89 (by omega) rfl (by decide) (Nat.le_of_ble_eq_true rfl) ?_
  refine x_ret 6 (some (vI (max 1 (i (c + 12) 3)))) rfl ⟨rfl, Or.inl rfl⟩ ⟨congrArg (fun z => some (vI z)) ?_, rfl⟩
  omega
set_option maxRecDepth 20000 in
set_option maxHeartbeats 2000000 in
theorem c_rows {i : Nat → Int → Int} {l : Nat → Int → BitVec 64} {c : Nat} (hc : isC c) (hO : okC i c) {p : Int} (hp : -2147483648 ≤ p ∧ p < 2147483648) : mCtr m_X0_rows 3 0 0 [vR (some c), vI (p)] (st i l) (qI (fRows i c p) (st i l)) := by
  refine mCtr_of pl_X0 dc_X0_rows (Nat.le_of_ble_eq_true rfl) rfl ?_
  show mX m_X0_rows 3 _ 0 0 0 [some (vR (some c)), some (vI (p))] [] (st i l)
  have hN := hO.n
  have hM := fMem_bd (p := p) hO
  refine x_aload_n 0 rfl rfl ?_
  refine x_iload_n 1 rfl rfl ?_
  refine x_callV 2 m_X0_members (c_members hc hO (by omega)) rfl ok_X0_members (isC_0 hc) (kC hc) rfl rfl ml_X0_66 im_X0_members se_X0_members rfl (by decide) rfl (Nat.le_of_ble_eq_true rfl) rfl rfl (fun v g q1 => ?_)
  obtain ⟨rfl, rfl⟩ := q1
  show mX m_X0_rows 3 _ 0 0 _ _ [vI (fMem i c p)] _
  refine x_aload_n 3 rfl rfl ?_
  refine x_callV 4 m_X0_width (c_width hc hO) rfl ok_X0_width (isC_0 hc) (kC hc) rfl rfl ml_X0_95 im_X0_width se_X0_width rfl (by decide) rfl (Nat.le_of_ble_eq_true rfl) rfl rfl (fun v g q2 => ?_)
  obtain ⟨rfl, rfl⟩ := q2
  show mX m_X0_rows 3 _ 0 0 _ _ [vI (i (c + 12) 3), vI (fMem i c p)] _
  refine x_iadd 5 (r := (fMem i c p) + (i (c + 12) 3)) rfl rfl ?_
  refine x_iconst 6 rfl ?_
  refine x_isub 7 (r := ((fMem i c p) + (i (c + 12) 3)) - 1) rfl rfl ?_
  refine x_aload_n 8 rfl rfl ?_
  refine x_callV 9 m_X0_width (c_width hc hO) rfl ok_X0_width (isC_0 hc) (kC hc) rfl rfl ml_X0_95 im_X0_width se_X0_width rfl (by decide) rfl (Nat.le_of_ble_eq_true rfl) rfl rfl (fun v g q3 => ?_)
  obtain ⟨rfl, rfl⟩ := q3
  show mX m_X0_rows 3 _ 0 0 _ _ [vI (i (c + 12) 3), vI (((fMem i c p) + (i (c + 12) 3)) - 1)] _
  refine x_idiv 10 (r := (((fMem i c p) + (i (c + 12) 3)) - 1) / (i (c + 12) 3)) rfl (by omega) rfl ?_
  refine x_ret 11 (some (vI ((((fMem i c p) + (i (c + 12) 3)) - 1) / (i (c + 12) 3)))) rfl ⟨rfl, Or.inl rfl⟩ ⟨congrArg (fun z => some (vI z)) ?_, rfl⟩
  rfl
set_option maxRecDepth 20000 in
set_option maxHeartbeats 2000000 in
theorem c_rowsBefore {i : Nat → Int → Int} {l : Nat → Int → BitVec 64} {c : Nat} (hc : isC c) (hO : okC i c) {p : Int} (hp : 0 ≤ p ∧ p ≤ 4) : mCtr m_X0_rowsBefore 4 0 0 [vR (some c), vI (p)] (st i l) (qI (sumZ (fun k => fRows i c k) p) (st i l)) := by
  refine mCtr_of pl_X0 dc_X0_rowsBefore (Nat.le_of_ble_eq_true rfl) rfl ?_
  show mX m_X0_rowsBefore 4 _ 0 0 0 [some (vR (some c)), some (vI (p)), none, none] [] (st i l)
  have hN := hO.n
  obtain ⟨f, hf⟩ : ∃ f : Int → Int, f = fun k => fRows i c k := ⟨_, rfl⟩
  refine x_iconst 0 rfl ?_
  refine x_istore_n 1 (L' := [some (vR (some c)), some (vI (p)), some (vI (0)), none]) rfl (by decide) rfl rfl ?_
  refine x_iconst 2 rfl ?_
  refine x_istore_n 3 (L' := [some (vR (some c)), some (vI (p)), some (vI (0)), some (vI (0))]) rfl (by decide) rfl rfl ?_
  have loopL1 : ∀ (n : Nat) (x : Int) (s : Int), (0 ≤ x ∧ x ≤ p) → (s = sumZ f x) → (p - x) < (n : Int) → mX m_X0_rowsBefore 4 (qI (sumZ (fun k => fRows i c k) p) (st i l)) 0 0 4 [some (vR (some c)), some (vI (p)), some (vI (s)), some (vI (x))] [] (st i l) := by
    intro n
    induction n with
    | zero => intro x s hx hs hz; exact absurd hz (by omega)
    | succ n ihL1 =>
      intro x s hx hs hzL1
      refine x_iload_n 4 rfl rfl ?_
      refine x_iload_n 5 rfl rfl ?_
      refine x_icmp_ge 6 (tgt := 23) rfl (by decide) (by omega) (fun h2 => ?_) (fun h2 => ?_)
      · refine x_iload_n 15 rfl rfl ?_
        refine x_ret 16 (some (vI (s))) rfl ⟨rfl, Or.inl rfl⟩ ⟨congrArg (fun z => some (vI z)) ?_, rfl⟩
        rw [hs, hf, show x = p by omega]
      · have hfx : f x = (fRows i c x) := by rw [hf]
        refine x_iload_n 7 rfl rfl ?_
        refine x_aload_n 8 rfl rfl ?_
        refine x_iload_n 9 rfl rfl ?_
        refine x_callV 10 m_X0_rows (c_rows hc hO (by omega)) rfl ok_X0_rows (isC_0 hc) (kC hc) rfl rfl ml_X0_99 im_X0_rows se_X0_rows rfl (by decide) rfl (Nat.le_of_ble_eq_true rfl) rfl rfl (fun v g q3 => ?_)
        obtain ⟨rfl, rfl⟩ := q3
        show mX m_X0_rowsBefore 4 _ 0 0 _ _ [vI (fRows i c x), vI (s)] _
        refine x_iadd 11 (r := s + (fRows i c x)) rfl rfl ?_
        refine x_istore_n 12 (L' := [some (vR (some c)), some (vI (p)), some (vI (s + (fRows i c x))), some (vI (x))]) rfl (by decide) rfl rfl ?_
        refine x_iinc 13 (L' := [some (vR (some c)), some (vI (p)), some (vI (s + (fRows i c x))), some (vI (x + 1))]) rfl (by decide) rfl rfl rfl rfl ?_
        refine x_goto 14 (tgt := 4) rfl (by decide) ?_
        exact ihL1 (x + 1) (s + (fRows i c x)) (by omega) (by rw [sumZ_s f hx.1, hfx]; grind) (by omega)
  exact loopL1 ((p - ((0))) + 1 : Int).toNat (0) (0) (by omega) (rfl) (by omega)
set_option maxRecDepth 20000 in
set_option maxHeartbeats 2000000 in
theorem c_fits {i : Nat → Int → Int} {l : Nat → Int → BitVec 64} {c : Nat} (hc : isC c) (hO : okC i c) {x : Int} (hx : 0 ≤ x ∧ x < i c 4) {p : Int} (hp : 0 ≤ p ∧ p < 4) : mCtr m_X0_fits 3 0 0 [vR (some c), vI (x), vI (p)] (st i l) (qB (i (c + 12) 0 ≤ fIn i (c + 2 + x.toNat) p) (st i l)) := by
  refine mCtr_of pl_X0 dc_X0_fits (Nat.le_of_ble_eq_true rfl) rfl ?_
  show mX m_X0_fits 3 _ 0 0 0 [some (vR (some c)), some (vI (x)), some (vI (p))] [] (st i l)
  have hN := hO.n
  have hsg := hO.s hx.1 hx.2
  have hfi := fIn_bd (p := p) (q := c + 2 + x.toNat) (i := i) (by omega) (by omega)
  refine x_aload_n 0 rfl rfl ?_
  refine x_getR 1 (z := (c + 1)) rfl fl_X0_11 (isC_0 hc) (kC hc) rfl (rC0 hc) ?_
  refine x_iload_n 2 rfl rfl ?_
  refine x_aald 3 (t := 3) (z := (c + 2 + (x).toNat)) rfl (isC_S hc) (kCS hc) (by omega) ⟨rfl, rfl⟩ (rCs hc (by omega)) ?_
  refine x_iload_n 4 rfl rfl ?_
  refine x_callV 5 m_X5_notesIn (c_notesIn (isS.of hc (show (x).toNat < 10 by omega)) (by omega) (by omega)) rfl ok_X5_notesIn (isS_lt (isS.of hc (show (x).toNat < 10 by omega))) (kS (isS.of hc (show (x).toNat < 10 by omega))) rfl rfl ml_X0_58 im_X5_notesIn se_X5_notesIn rfl (by decide) rfl (Nat.le_of_ble_eq_true rfl) rfl rfl (fun v g q1 => ?_)
  obtain ⟨rfl, rfl⟩ := q1
  show mX m_X0_fits 3 _ 0 0 _ _ [vI (fIn i (c + 2 + (x).toNat) p)] _
  refine x_aload_n 6 rfl rfl ?_
  refine x_getR 7 (z := (c + 12)) rfl fl_X0_18 (isC_0 hc) (kC hc) rfl (rC1 hc) ?_
  refine x_iconst 8 rfl ?_
  refine x_iald 9 (z := i (c + 12) 0) rfl (isC_T hc) (kCT hc) (by omega) rfl ?_
  refine x_icmp_lt 10 (tgt := 23) rfl (by decide) (by omega) (fun h2 => ?_) (fun h2 => ?_)
  · refine x_iconst 13 rfl ?_
    refine x_ret 14 (some (vI (0))) rfl ⟨rfl, Or.inr ⟨rfl, by omega⟩⟩ ⟨rfl, Or.inr ⟨?_, rfl⟩⟩
    omega
  · refine x_iconst 11 rfl ?_
    refine x_goto 12 (tgt := 24) rfl (by decide) ?_
    refine x_ret 14 (some (vI (1))) rfl ⟨rfl, Or.inr ⟨rfl, by omega⟩⟩ ⟨rfl, Or.inl ⟨?_, rfl⟩⟩
    omega
set_option maxRecDepth 20000 in
set_option maxHeartbeats 2000000 in
theorem c_fittingParts {i : Nat → Int → Int} {l : Nat → Int → BitVec 64} {c : Nat} (hc : isC c) (hO : okC i c) {y : Int} (hy : 0 ≤ y ∧ y < i c 4) : mCtr m_X0_fittingParts 4 0 0 [vR (some c), vI (y)] (st i l) (qI (fFits i c y) (st i l)) := by
  refine mCtr_of pl_X0 dc_X0_fittingParts (Nat.le_of_ble_eq_true rfl) rfl ?_
  show mX m_X0_fittingParts 4 _ 0 0 0 [some (vR (some c)), some (vI (y)), none, none] [] (st i l)
  have hN := hO.n
  obtain ⟨f, hf⟩ : ∃ f : Int → Bool, f = fun p => decide (i (c + 12) 0 ≤ fIn i (c + 2 + y.toNat) p) := ⟨_, rfl⟩
  refine x_iconst 0 rfl ?_
  refine x_istore_n 1 (L' := [some (vR (some c)), some (vI (y)), some (vI (0)), none]) rfl (by decide) rfl rfl ?_
  refine x_iconst 2 rfl ?_
  refine x_istore_n 3 (L' := [some (vR (some c)), some (vI (y)), some (vI (0)), some (vI (0))]) rfl (by decide) rfl rfl ?_
  have loopL1 : ∀ (n : Nat) (x : Int) (s : Int), (0 ≤ x ∧ x ≤ 4) → (s = orZ f x) → (4 - x) < (n : Int) → mX m_X0_fittingParts 4 (qI (fFits i c y) (st i l)) 0 0 4 [some (vR (some c)), some (vI (y)), some (vI (s)), some (vI (x))] [] (st i l) := by
    intro n
    induction n with
    | zero => intro x s hx hs hz; exact absurd hz (by omega)
    | succ n ihL1 =>
      intro x s hx hs hzL1
      refine x_iload_n 4 rfl rfl ?_
      refine x_iconst 5 rfl ?_
      refine x_icmp_ge 6 (tgt := 30) rfl (by decide) (by omega) (fun h2 => ?_) (fun h2 => ?_)
      · refine x_iload_n 20 rfl rfl ?_
        refine x_ret 21 (some (vI (s))) rfl ⟨rfl, Or.inl rfl⟩ ⟨congrArg (fun z => some (vI z)) ?_, rfl⟩
        rw [hs, hf, show x = 4 by omega]; rfl
      · refine x_aload_n 7 rfl rfl ?_
        refine x_iload_n 8 rfl rfl ?_
        refine x_iload_n 9 rfl rfl ?_
        have hob := orZ_bd f (x := x) (by omega)
        refine x_callV 10 m_X0_fits (c_fits hc hO (by omega) (by omega)) rfl ok_X0_fits (isC_0 hc) (kC hc) rfl rfl ml_X0_62 im_X0_fits se_X0_fits rfl (by decide) rfl (Nat.le_of_ble_eq_true rfl) rfl rfl (fun v g q3 => ?_)
        rcases q3 with ⟨rfl, ⟨h4, rfl⟩ | ⟨h4, rfl⟩⟩
        · show mX m_X0_fittingParts 4 _ 0 0 _ _ [vI (1)] _
          have hfx : f x = true := by rw [hf]; simpa using h4
          refine x_if_eq 11 (tgt := 24) rfl (by decide) (by decide) (fun h5 => absurd h5 (by decide)) (fun h5 => ?_)
          have hp2 := mPow4 (show 0 ≤ x ∧ x < 4 by omega)
          refine x_iload_n 12 rfl rfl ?_
          refine x_iconst 13 rfl ?_
          refine x_iload_n 14 rfl rfl ?_
          refine x_ishl 15 (r := 1 * 2 ^ (x).toNat) rfl (by have := Nat.pow_le_pow_right (n := 2) (by decide) (show x.toNat ≤ 4 by omega); omega) rfl ?_
          refine x_ior 16 (r := (s : Int).toNat ||| (1 * 2 ^ (x).toNat : Int).toNat) rfl (by omega) rfl ?_
          refine x_istore_n 17 (L' := [some (vR (some c)), some (vI (y)), some (vI ((((s : Int).toNat ||| (1 * 2 ^ (x).toNat : Int).toNat : Nat) : Int))), some (vI (x))]) rfl (by decide) rfl rfl ?_
          refine x_iinc 18 (L' := [some (vR (some c)), some (vI (y)), some (vI ((((s : Int).toNat ||| (1 * 2 ^ (x).toNat : Int).toNat : Nat) : Int))), some (vI (x + 1))]) rfl (by decide) rfl rfl rfl rfl ?_
          refine x_goto 19 (tgt := 4) rfl (by decide) ?_
          exact ihL1 (x + 1) ((((s : Int).toNat ||| (1 * 2 ^ (x).toNat : Int).toNat : Nat) : Int)) (by omega) (by rw [orZ_s f hx.1, hs, hfx]; first | (rw [if_neg (by decide)]) | (rw [if_pos rfl, mOne])) (by omega)
        · show mX m_X0_fittingParts 4 _ 0 0 _ _ [vI (0)] _
          have hfx : f x = false := by rw [hf]; simpa using h4
          refine x_if_eq 11 (tgt := 24) rfl (by decide) (by decide) (fun h6 => ?_) (fun h6 => absurd h6 (by decide))
          refine x_iinc 18 (L' := [some (vR (some c)), some (vI (y)), some (vI (s)), some (vI (x + 1))]) rfl (by decide) rfl rfl rfl rfl ?_
          refine x_goto 19 (tgt := 4) rfl (by decide) ?_
          exact ihL1 (x + 1) (s) (by omega) (by rw [orZ_s f hx.1, hs, hfx]; first | (rw [if_neg (by decide)]) | (rw [if_pos rfl, mOne])) (by omega)
  exact loopL1 ((4 - ((0))) + 1 : Int).toNat (0) (0) (by omega) (rfl) (by omega)
set_option maxRecDepth 20000 in
set_option maxHeartbeats 2000000 in
theorem c_rested {i : Nat → Int → Int} {l : Nat → Int → BitVec 64} {c : Nat} (hc : isC c) (hO : okC i c) {q : Nat} (hq : isS q) (h9 : -9 ≤ i q 9 ∧ i q 9 ≤ 39) : mCtr m_X0_rested 1 0 0 [vR (some c), vR (some q)] (st i l) (qB (fRest i c q) (st i l)) := by
  refine mCtr_of pl_X0 dc_X0_rested (Nat.le_of_ble_eq_true rfl) rfl ?_
  show mX m_X0_rested 1 _ 0 0 0 [some (vR (some c)), some (vR (some q))] [] (st i l)
  have hN := hO.n
  refine x_aload_n 0 rfl rfl ?_
  refine x_getI 1 (z := i q 9) rfl fl_X0_86 (isS_lt hq) (kS hq) rfl rfl ?_
  refine x_bipush 2 rfl (by decide) ?_
  refine x_icmp_eq 3 (tgt := 27) rfl (by decide) (by omega) (fun h1 => ?_) (fun h1 => ?_)
  · refine x_iconst 14 rfl ?_
    refine x_goto 15 (tgt := 32) rfl (by decide) ?_
    refine x_ret 17 (some (vI (1))) rfl ⟨rfl, Or.inr ⟨rfl, by omega⟩⟩ ⟨rfl, Or.inl ⟨?_, rfl⟩⟩
    unfold fRest; omega
  · refine x_aload_n 4 rfl rfl ?_
    refine x_getI 5 (z := i c 5) rfl fl_X0_45 (isC_0 hc) (kC hc) rfl rfl ?_
    refine x_aload_n 6 rfl rfl ?_
    refine x_getI 7 (z := i q 9) rfl fl_X0_86 (isS_lt hq) (kS hq) rfl rfl ?_
    refine x_isub 8 (r := (i c 5) - (i q 9)) rfl rfl ?_
    refine x_aload_n 9 rfl rfl ?_
    refine x_getR 10 (z := (c + 12)) rfl fl_X0_18 (isC_0 hc) (kC hc) rfl (rC1 hc) ?_
    refine x_iconst 11 rfl ?_
    refine x_iald 12 (z := i (c + 12) 2) rfl (isC_T hc) (kCT hc) (by omega) rfl ?_
    refine x_icmp_le 13 (tgt := 31) rfl (by decide) (by omega) (fun h2 => ?_) (fun h2 => ?_)
    · refine x_iconst 16 rfl ?_
      refine x_ret 17 (some (vI (0))) rfl ⟨rfl, Or.inr ⟨rfl, by omega⟩⟩ ⟨rfl, Or.inr ⟨?_, rfl⟩⟩
      unfold fRest; omega
    · refine x_iconst 14 rfl ?_
      refine x_goto 15 (tgt := 32) rfl (by decide) ?_
      refine x_ret 17 (some (vI (1))) rfl ⟨rfl, Or.inr ⟨rfl, by omega⟩⟩ ⟨rfl, Or.inl ⟨?_, rfl⟩⟩
      unfold fRest; omega
set_option maxRecDepth 20000 in
set_option maxHeartbeats 2000000 in
theorem c_seatedBefore {i : Nat → Int → Int} {l : Nat → Int → BitVec 64} {c : Nat} (hc : isC c) (hO : okC i c) {y : Int} (hy : 0 ≤ y ∧ y < i c 4) : mCtr m_X0_seatedBefore 2 0 0 [vR (some c), vI (y)] (st i l) (qI (fSeat i c y) (st i l)) := by
  refine mCtr_of pl_X0 dc_X0_seatedBefore (Nat.le_of_ble_eq_true rfl) rfl ?_
  show mX m_X0_seatedBefore 2 _ 0 0 0 [some (vR (some c)), some (vI (y)), none, none, none, none] [] (st i l)
  have hN := hO.n
  obtain ⟨f, hf⟩ : ∃ f : Int → Int, f = fun k => if i (c + 2 + k.toNat) 6 = i (c + 2 + y.toNat) 6 ∧ (i (c + 2 + k.toNat) 1 < i (c + 2 + y.toNat) 1 ∨ (i (c + 2 + k.toNat) 1 = i (c + 2 + y.toNat) 1 ∧ k < y)) then 1 else 0 := ⟨_, rfl⟩
  refine x_aload_n 0 rfl rfl ?_
  refine x_getR 1 (z := (c + 1)) rfl fl_X0_11 (isC_0 hc) (kC hc) rfl (rC0 hc) ?_
  refine x_iload_n 2 rfl rfl ?_
  refine x_aald 3 (t := 3) (z := (c + 2 + (y).toNat)) rfl (isC_S hc) (kCS hc) (by omega) ⟨rfl, rfl⟩ (rCs hc (by omega)) ?_
  refine x_astore_n 4 (L' := [some (vR (some c)), some (vI (y)), some (vR (some (c + 2 + (y).toNat))), none, none, none]) rfl (by decide) rfl rfl ?_
  refine x_iconst 5 rfl ?_
  refine x_istore_n 6 (L' := [some (vR (some c)), some (vI (y)), some (vR (some (c + 2 + (y).toNat))), some (vI (0)), none, none]) rfl (by decide) rfl rfl ?_
  refine x_iconst 7 rfl ?_
  refine x_istore 8 (L' := [some (vR (some c)), some (vI (y)), some (vR (some (c + 2 + (y).toNat))), some (vI (0)), some (vI (0)), none]) rfl (by decide) rfl rfl ?_
  have loopL1 : ∀ (n : Nat) (x : Int) (s : Int), (0 ≤ x ∧ x ≤ i c 4) → (s = sumZ f x) → (i c 4 - x) < (n : Int) → mX m_X0_seatedBefore 2 (qI (fSeat i c y) (st i l)) 0 0 12 [some (vR (some c)), some (vI (y)), some (vR (some (c + 2 + (y).toNat))), some (vI (s)), some (vI (x)), none] [] (st i l) := by
    intro n
    induction n with
    | zero => intro x s hx hs hz; exact absurd hz (by omega)
    | succ n ihL1 =>
      intro x s hx hs hzL1
      refine x_iload 9 rfl rfl ?_
      refine x_aload_n 10 rfl rfl ?_
      refine x_getI 11 (z := i c 4) rfl fl_X0_31 (isC_0 hc) (kC hc) rfl rfl ?_
      refine x_icmp_ge 12 (tgt := 71) rfl (by decide) (by omega) (fun h2 => ?_) (fun h2 => ?_)
      · refine x_iload_n 36 rfl rfl ?_
        refine x_ret 37 (some (vI (s))) rfl ⟨rfl, Or.inl rfl⟩ ⟨congrArg (fun z => some (vI z)) ?_, rfl⟩
        rw [hs, hf, show x = i c 4 by omega]; rfl
      · have hfx : f x = (if i (c + 2 + x.toNat) 6 = i (c + 2 + y.toNat) 6 ∧ (i (c + 2 + x.toNat) 1 < i (c + 2 + y.toNat) 1 ∨ (i (c + 2 + x.toNat) 1 = i (c + 2 + y.toNat) 1 ∧ x < y)) then 1 else 0) := by rw [hf]
        have hsg := hO.s hx.1 (show x < i c 4 by omega)
        have hsy := hO.s hy.1 hy.2
        refine x_aload_n 13 rfl rfl ?_
        refine x_getR 14 (z := (c + 1)) rfl fl_X0_11 (isC_0 hc) (kC hc) rfl (rC0 hc) ?_
        refine x_iload 15 rfl rfl ?_
        refine x_aald 16 (t := 3) (z := (c + 2 + (x).toNat)) rfl (isC_S hc) (kCS hc) (by omega) ⟨rfl, rfl⟩ (rCs hc (by omega)) ?_
        refine x_astore 17 (L' := [some (vR (some c)), some (vI (y)), some (vR (some (c + 2 + (y).toNat))), some (vI (s)), some (vI (x)), some (vR (some (c + 2 + (x).toNat)))]) rfl (by decide) rfl rfl ?_
        refine x_aload 18 rfl rfl ?_
        refine x_getI 19 (z := i (c + 2 + (x).toNat) 6) rfl fl_X0_73 (isS_lt (isS.of hc (show (x).toNat < 10 by omega))) (kS (isS.of hc (show (x).toNat < 10 by omega))) rfl rfl ?_
        refine x_aload_n 20 rfl rfl ?_
        refine x_getI 21 (z := i (c + 2 + (y).toNat) 6) rfl fl_X0_73 (isS_lt (isS.of hc (show (y).toNat < 10 by omega))) (kS (isS.of hc (show (y).toNat < 10 by omega))) rfl rfl ?_
        refine x_icmp_ne 22 (tgt := 65) rfl (by decide) (by omega) (fun h3 => ?_) (fun h3 => ?_)
        · refine x_iinc 34 (L' := [some (vR (some c)), some (vI (y)), some (vR (some (c + 2 + (y).toNat))), some (vI (s)), some (vI (x + 1)), some (vR (some (c + 2 + (x).toNat)))]) rfl (by decide) rfl rfl rfl rfl ?_
          refine x_goto 35 (tgt := 12) rfl (by decide) ?_
          refine x_dropL (L' := [some (vR (some c)), some (vI (y)), some (vR (some (c + 2 + (y).toNat))), some (vI (s)), some (vI (x + 1)), none]) ⟨rfl, ⟨rfl, ⟨rfl, ⟨rfl, ⟨rfl, True.intro⟩⟩⟩⟩⟩ ?_
          exact ihL1 (x + 1) (s) (by omega) (by rw [sumZ_s f hx.1, hfx]; grind) (by omega)
        · refine x_aload 23 rfl rfl ?_
          refine x_aload_n 24 rfl rfl ?_
          refine x_iload 25 rfl rfl ?_
          refine x_iload_n 26 rfl rfl ?_
          refine x_icmp_ge 27 (tgt := 55) rfl (by decide) (by omega) (fun h4 => ?_) (fun h4 => ?_)
          · refine x_iconst 30 rfl ?_
            refine x_callV 31 m_X5_sitsBefore (c_sitsBefore (isS.of hc (show (x).toNat < 10 by omega)) (isS.of hc (show (y).toNat < 10 by omega)) (by omega) (by omega) (by omega)) rfl ok_X5_sitsBefore (isS_lt (isS.of hc (show (x).toNat < 10 by omega))) (kS (isS.of hc (show (x).toNat < 10 by omega))) rfl rfl ml_X0_102 im_X5_sitsBefore se_X5_sitsBefore rfl (by decide) rfl (Nat.le_of_ble_eq_true rfl) rfl rfl (fun v g q5 => ?_)
            rcases q5 with ⟨rfl, ⟨h6, rfl⟩ | ⟨h6, rfl⟩⟩
            · show mX m_X0_seatedBefore 2 _ 0 0 _ _ [vI (1)] _
              refine x_if_eq 32 (tgt := 65) rfl (by decide) (by decide) (fun h7 => absurd h7 (by decide)) (fun h7 => ?_)
              refine x_iinc 33 (L' := [some (vR (some c)), some (vI (y)), some (vR (some (c + 2 + (y).toNat))), some (vI (s + 1)), some (vI (x)), some (vR (some (c + 2 + (x).toNat)))]) rfl (by decide) rfl rfl rfl rfl ?_
              refine x_iinc 34 (L' := [some (vR (some c)), some (vI (y)), some (vR (some (c + 2 + (y).toNat))), some (vI (s + 1)), some (vI (x + 1)), some (vR (some (c + 2 + (x).toNat)))]) rfl (by decide) rfl rfl rfl rfl ?_
              refine x_goto 35 (tgt := 12) rfl (by decide) ?_
              refine x_dropL (L' := [some (vR (some c)), some (vI (y)), some (vR (some (c + 2 + (y).toNat))), some (vI (s + 1)), some (vI (x + 1)), none]) ⟨rfl, ⟨rfl, ⟨rfl, ⟨rfl, ⟨rfl, True.intro⟩⟩⟩⟩⟩ ?_
              exact ihL1 (x + 1) (s + 1) (by omega) (by rw [sumZ_s f hx.1, hfx]; grind) (by omega)
            · show mX m_X0_seatedBefore 2 _ 0 0 _ _ [vI (0)] _
              refine x_if_eq 32 (tgt := 65) rfl (by decide) (by decide) (fun h8 => ?_) (fun h8 => absurd h8 (by decide))
              refine x_iinc 34 (L' := [some (vR (some c)), some (vI (y)), some (vR (some (c + 2 + (y).toNat))), some (vI (s)), some (vI (x + 1)), some (vR (some (c + 2 + (x).toNat)))]) rfl (by decide) rfl rfl rfl rfl ?_
              refine x_goto 35 (tgt := 12) rfl (by decide) ?_
              refine x_dropL (L' := [some (vR (some c)), some (vI (y)), some (vR (some (c + 2 + (y).toNat))), some (vI (s)), some (vI (x + 1)), none]) ⟨rfl, ⟨rfl, ⟨rfl, ⟨rfl, ⟨rfl, True.intro⟩⟩⟩⟩⟩ ?_
              exact ihL1 (x + 1) (s) (by omega) (by rw [sumZ_s f hx.1, hfx]; grind) (by omega)
          · refine x_iconst 28 rfl ?_
            refine x_goto 29 (tgt := 56) rfl (by decide) ?_
            refine x_callV 31 m_X5_sitsBefore (c_sitsBefore (isS.of hc (show (x).toNat < 10 by omega)) (isS.of hc (show (y).toNat < 10 by omega)) (by omega) (by omega) (by omega)) rfl ok_X5_sitsBefore (isS_lt (isS.of hc (show (x).toNat < 10 by omega))) (kS (isS.of hc (show (x).toNat < 10 by omega))) rfl rfl ml_X0_102 im_X5_sitsBefore se_X5_sitsBefore rfl (by decide) rfl (Nat.le_of_ble_eq_true rfl) rfl rfl (fun v g q9 => ?_)
            rcases q9 with ⟨rfl, ⟨h10, rfl⟩ | ⟨h10, rfl⟩⟩
            · show mX m_X0_seatedBefore 2 _ 0 0 _ _ [vI (1)] _
              refine x_if_eq 32 (tgt := 65) rfl (by decide) (by decide) (fun h11 => absurd h11 (by decide)) (fun h11 => ?_)
              refine x_iinc 33 (L' := [some (vR (some c)), some (vI (y)), some (vR (some (c + 2 + (y).toNat))), some (vI (s + 1)), some (vI (x)), some (vR (some (c + 2 + (x).toNat)))]) rfl (by decide) rfl rfl rfl rfl ?_
              refine x_iinc 34 (L' := [some (vR (some c)), some (vI (y)), some (vR (some (c + 2 + (y).toNat))), some (vI (s + 1)), some (vI (x + 1)), some (vR (some (c + 2 + (x).toNat)))]) rfl (by decide) rfl rfl rfl rfl ?_
              refine x_goto 35 (tgt := 12) rfl (by decide) ?_
              refine x_dropL (L' := [some (vR (some c)), some (vI (y)), some (vR (some (c + 2 + (y).toNat))), some (vI (s + 1)), some (vI (x + 1)), none]) ⟨rfl, ⟨rfl, ⟨rfl, ⟨rfl, ⟨rfl, True.intro⟩⟩⟩⟩⟩ ?_
              exact ihL1 (x + 1) (s + 1) (by omega) (by rw [sumZ_s f hx.1, hfx]; grind) (by omega)
            · show mX m_X0_seatedBefore 2 _ 0 0 _ _ [vI (0)] _
              refine x_if_eq 32 (tgt := 65) rfl (by decide) (by decide) (fun h12 => ?_) (fun h12 => absurd h12 (by decide))
              refine x_iinc 34 (L' := [some (vR (some c)), some (vI (y)), some (vR (some (c + 2 + (y).toNat))), some (vI (s)), some (vI (x + 1)), some (vR (some (c + 2 + (x).toNat)))]) rfl (by decide) rfl rfl rfl rfl ?_
              refine x_goto 35 (tgt := 12) rfl (by decide) ?_
              refine x_dropL (L' := [some (vR (some c)), some (vI (y)), some (vR (some (c + 2 + (y).toNat))), some (vI (s)), some (vI (x + 1)), none]) ⟨rfl, ⟨rfl, ⟨rfl, ⟨rfl, ⟨rfl, True.intro⟩⟩⟩⟩⟩ ?_
              exact ihL1 (x + 1) (s) (by omega) (by rw [sumZ_s f hx.1, hfx]; grind) (by omega)
  exact loopL1 ((i c 4 - ((0))) + 1 : Int).toNat (0) (0) (by omega) (rfl) (by omega)
end
section
/-! changes of a choir -/
theorem isC_ap {c c2 : Nat} (hc : isC c) (hc2 : isC c2) (h : c ≠ c2) : c + 15 ≤ c2 ∨ c2 + 15 ≤ c := (by decide : ∀ a ∈ cL, ∀ b ∈ cL, a ≠ b → a + 15 ≤ b ∨ b + 15 ≤ a) c hc c2 hc2 h
/-- c has become a copy of c2 -/
def cpC (i : Nat → Int → Int) (l : Nat → Int → BitVec 64) (i' : Nat → Int → Int) (l' : Nat → Int → BitVec 64) (c c2 : Nat) : Prop :=
  (∀ a b, i' a b = if a = c ∧ b = 7 then i c2 7 else if a = c ∧ b = 6 then i c2 6 else if a = c ∧ b = 5 then i c2 5 else if a = c ∧ b = 4 then i c2 4 else if a = c + 14 ∧ 0 ≤ b ∧ b < 4 then i (c2 + 14) b else if a = c + 13 ∧ 0 ≤ b ∧ b < i c2 5 * 4 then i (c2 + 13) b else if a = c + 12 ∧ 0 ≤ b ∧ b < 4 then i (c2 + 12) b else if c + 2 ≤ a ∧ (a : Int) < c + 2 + i c2 4 ∧ (b = 0 ∨ b = 1 ∨ (4 ≤ b ∧ b ≤ 10)) then i (a - c + c2) b else i a b)
  ∧ ∀ a b, l' a b = if c + 2 ≤ a ∧ (a : Int) < c + 2 + i c2 4 ∧ (b = 2 ∨ b = 3) then l (a - c + c2) b else l a b
theorem cp_stepI {i ii i' : Nat → Int → Int} {c c2 : Nat} {x : Int} (hap : c + 15 ≤ c2 ∨ c2 + 15 ≤ c) (h0 : 0 ≤ x) (h10 : x < 10) (hm : ∀ a b, i' a b = if a = c + 2 + x.toNat ∧ (b = 0 ∨ b = 1 ∨ (4 ≤ b ∧ b ≤ 10)) then ii (c2 + 2 + x.toNat) b else ii a b)
    (hA : ∀ a b, ii a b = if c + 2 ≤ a ∧ (a : Int) < c + 2 + x ∧ (b = 0 ∨ b = 1 ∨ (4 ≤ b ∧ b ≤ 10)) then i (a - c + c2) b else i a b) : ∀ a b, i' a b = if c + 2 ≤ a ∧ (a : Int) < c + 2 + (x + 1) ∧ (b = 0 ∨ b = 1 ∨ (4 ≤ b ∧ b ≤ 10)) then i (a - c + c2) b else i a b := by
  intro a b
  rw [hm a b]
  by_cases hb : b = 0 ∨ b = 1 ∨ (4 ≤ b ∧ b ≤ 10)
  · by_cases ha : a = c + 2 + x.toNat
    · rw [if_pos ⟨ha, hb⟩, hA, if_neg (by omega), if_pos ⟨by omega, by omega, hb⟩]
      congr 1
      omega
    · rw [if_neg (fun q => ha q.1), hA]
      by_cases h3 : c + 2 ≤ a ∧ (a : Int) < c + 2 + x
      · rw [if_pos ⟨h3.1, h3.2, hb⟩, if_pos ⟨h3.1, by omega, hb⟩]
      · rw [if_neg (by omega), if_neg (by omega)]
  · rw [if_neg (fun q => hb q.2), hA, if_neg (fun q => hb q.2.2), if_neg (fun q => hb q.2.2)]
theorem cp_stepL {l ll l' : Nat → Int → BitVec 64} {c c2 : Nat} {x : Int} (hap : c + 15 ≤ c2 ∨ c2 + 15 ≤ c) (h0 : 0 ≤ x) (h10 : x < 10) (hm : ∀ a b, l' a b = if a = c + 2 + x.toNat ∧ (b = 2 ∨ b = 3) then ll (c2 + 2 + x.toNat) b else ll a b)
    (hA : ∀ a b, ll a b = if c + 2 ≤ a ∧ (a : Int) < c + 2 + x ∧ (b = 2 ∨ b = 3) then l (a - c + c2) b else l a b) : ∀ a b, l' a b = if c + 2 ≤ a ∧ (a : Int) < c + 2 + (x + 1) ∧ (b = 2 ∨ b = 3) then l (a - c + c2) b else l a b := by
  intro a b
  rw [hm a b]
  by_cases hb : b = 2 ∨ b = 3
  · by_cases ha : a = c + 2 + x.toNat
    · rw [if_pos ⟨ha, hb⟩, hA, if_neg (by omega), if_pos ⟨by omega, by omega, hb⟩]
      congr 1
      omega
    · rw [if_neg (fun q => ha q.1), hA]
      by_cases h3 : c + 2 ≤ a ∧ (a : Int) < c + 2 + x
      · rw [if_pos ⟨h3.1, h3.2, hb⟩, if_pos ⟨h3.1, by omega, hb⟩]
      · rw [if_neg (by omega), if_neg (by omega)]
  · rw [if_neg (fun q => hb q.2), hA, if_neg (fun q => hb q.2.2), if_neg (fun q => hb q.2.2)]
/-- a singer has gone: those behind come one place nearer -/
theorem dm_stepI {i ii i' : Nat → Int → Int} {c : Nat} {x y : Int} (h0 : 0 ≤ y) (h1 : y ≤ x) (hm : ∀ a b, i' a b = if a = c + 2 + x.toNat ∧ (b = 0 ∨ b = 1 ∨ (4 ≤ b ∧ b ≤ 10)) then ii (c + 2 + (x + 1).toNat) b else ii a b)
    (hA : ∀ a b, ii a b = if c + 2 + y ≤ (a : Int) ∧ (a : Int) < c + 2 + x ∧ (b = 0 ∨ b = 1 ∨ (4 ≤ b ∧ b ≤ 10)) then i (a + 1) b else i a b) : ∀ a b, i' a b = if c + 2 + y ≤ (a : Int) ∧ (a : Int) < c + 2 + (x + 1) ∧ (b = 0 ∨ b = 1 ∨ (4 ≤ b ∧ b ≤ 10)) then i (a + 1) b else i a b := by
  intro a b
  rw [hm a b]
  by_cases hb : b = 0 ∨ b = 1 ∨ (4 ≤ b ∧ b ≤ 10)
  · by_cases ha : a = c + 2 + x.toNat
    · rw [if_pos ⟨ha, hb⟩, hA, if_neg (by omega), if_pos ⟨by omega, by omega, hb⟩]
      congr 1
      omega
    · rw [if_neg (fun q => ha q.1), hA]
      by_cases h3 : c + 2 + y ≤ (a : Int) ∧ (a : Int) < c + 2 + x
      · rw [if_pos ⟨h3.1, h3.2, hb⟩, if_pos ⟨h3.1, by omega, hb⟩]
      · rw [if_neg (by omega), if_neg (by omega)]
  · rw [if_neg (fun q => hb q.2), hA, if_neg (fun q => hb q.2.2), if_neg (fun q => hb q.2.2)]
theorem dm_stepL {l ll l' : Nat → Int → BitVec 64} {c : Nat} {x y : Int} (h0 : 0 ≤ y) (h1 : y ≤ x) (hm : ∀ a b, l' a b = if a = c + 2 + x.toNat ∧ (b = 2 ∨ b = 3) then ll (c + 2 + (x + 1).toNat) b else ll a b)
    (hA : ∀ a b, ll a b = if c + 2 + y ≤ (a : Int) ∧ (a : Int) < c + 2 + x ∧ (b = 2 ∨ b = 3) then l (a + 1) b else l a b) : ∀ a b, l' a b = if c + 2 + y ≤ (a : Int) ∧ (a : Int) < c + 2 + (x + 1) ∧ (b = 2 ∨ b = 3) then l (a + 1) b else l a b := by
  intro a b
  rw [hm a b]
  by_cases hb : b = 2 ∨ b = 3
  · by_cases ha : a = c + 2 + x.toNat
    · rw [if_pos ⟨ha, hb⟩, hA, if_neg (by omega), if_pos ⟨by omega, by omega, hb⟩]
      congr 1
      omega
    · rw [if_neg (fun q => ha q.1), hA]
      by_cases h3 : c + 2 + y ≤ (a : Int) ∧ (a : Int) < c + 2 + x
      · rw [if_pos ⟨h3.1, h3.2, hb⟩, if_pos ⟨h3.1, by omega, hb⟩]
      · rw [if_neg (by omega), if_neg (by omega)]
  · rw [if_neg (fun q => hb q.2), hA, if_neg (fun q => hb q.2.2), if_neg (fun q => hb q.2.2)]
theorem okC.congr {i i' : Nat → Int → Int} {c : Nat} (h : okC i c) (he : ∀ a b, c ≤ a → a < c + 15 → i' a b = i a b) : okC i' c := by
  obtain ⟨h1, h2, h3, h4⟩ := h
  have e : ∀ k, k < 15 → ∀ b, i' (c + k) b = i (c + k) b := fun k hk b => he _ b (by omega) (by omega)
  have e0 := fun b => e 0 (by omega) b
  simp only [Nat.add_zero] at e0
  refine ⟨by simp only [e0, e 12 (by omega)]; exact h1, fun p a b => by rw [e 14 (by omega)]; exact h2 p a b, fun x a b => by rw [e 13 (by omega)]; rw [e0] at b; exact h3 x a b, fun x a b => ?_⟩
  rw [e0] at b
  have := h4 x a b
  unfold okS at this ⊢
  simp only [he (c + 2 + x.toNat) _ (by omega) (by omega)]
  exact this
set_option maxRecDepth 20000 in
set_option maxHeartbeats 2000000 in
theorem c_copyFrom {i : Nat → Int → Int} {l : Nat → Int → BitVec 64} {c c2 : Nat} (hc : isC c) (hc2 : isC c2) (hne : c ≠ c2) (hO2 : okC i c2) : mCtr m_X0_copyFrom 2 0 0 [vR (some c), vR (some c2)] (st i l) (qV (fun i' l' => cpC i l i' l' c c2)) := by
  refine mCtr_of pl_X0 dc_X0_copyFrom (Nat.le_of_ble_eq_true rfl) rfl ?_
  show mX m_X0_copyFrom 2 _ 0 0 0 [some (vR (some c)), some (vR (some c2)), none] [] (st i l)
  have hN := hO2.n
  have hap := isC_ap hc hc2 hne
  refine x_iconst 0 rfl ?_
  refine x_istore_n 1 (L' := [some (vR (some c)), some (vR (some c2)), some (vI (0))]) rfl (by decide) rfl rfl ?_
  have loopL1 : ∀ (nz : Nat) (ii : Nat → Int → Int) (ll : Nat → Int → BitVec 64) (x : Int), (0 ≤ x ∧ x ≤ i c2 4) → (∀ a b, ii a b = if c + 2 ≤ a ∧ (a : Int) < c + 2 + x ∧ (b = 0 ∨ b = 1 ∨ (4 ≤ b ∧ b ≤ 10)) then i (a - c + c2) b else i a b) → (∀ a b, ll a b = if c + 2 ≤ a ∧ (a : Int) < c + 2 + x ∧ (b = 2 ∨ b = 3) then l (a - c + c2) b else l a b) → (i c2 4 - x) < (nz : Int) → mX m_X0_copyFrom 2 (qV (fun i' l' => cpC i l i' l' c c2)) 0 0 2 [some (vR (some c)), some (vR (some c2)), some (vI (x))] [] (st ii ll) := by
    intro nz
    induction nz with
    | zero => intro ii ll x hx hA hB hz; exact absurd hz (by omega)
    | succ nz ihL1 =>
      intro ii ll x hx hA hB hzL1
      have hc4 : ii c2 4 = i c2 4 := by rw [hA, if_neg (by omega)]
      refine x_iload_n 2 rfl rfl ?_
      refine x_aload_n 3 rfl rfl ?_
      refine x_getI 4 (z := ii c2 4) rfl fl_X0_31 (isC_0 hc2) (kC hc2) rfl rfl ?_
      refine x_icmp_ge 5 (tgt := 31) rfl (by decide) (by omega) (fun h2 => ?_) (fun h2 => ?_)
      · have hxe : x = i c2 4 := by omega
        subst hxe
        refine x_aload_n 17 rfl rfl ?_
        refine x_getR 18 (z := (c2 + 12)) rfl fl_X0_18 (isC_0 hc2) (kC hc2) rfl (rC1 hc2) ?_
        refine x_iconst 19 rfl ?_
        refine x_aload_n 20 rfl rfl ?_
        refine x_getR 21 (z := (c + 12)) rfl fl_X0_18 (isC_0 hc) (kC hc) rfl (rC1 hc) ?_
        refine x_iconst 22 rfl ?_
        refine x_iconst 23 rfl ?_
        obtain ⟨i3, hi3⟩ : ∃ f, f = mCp ii (c2 + 12) (c + 12) (4) := ⟨_, rfl⟩
        refine x_copyi 24 rfl ml_X0_39 (isC_T hc2) (kCT hc2) (isC_T hc) (kCT hc) (by omega) (by decide) (Nat.le_of_ble_eq_true rfl) (g' := st i3 ll) (by subst hi3; rfl) ?_
        have e3 : ∀ a b, i3 a b = if a = c + 12 ∧ 0 ≤ b ∧ b < 4 then i (c2 + 12) b else ii a b := by
          intro a b; simp only [hi3, mCp]; split
          · rw [hA, if_neg (by omega)]
          · rfl
        have e35 : i3 c2 5 = i c2 5 := by rw [e3, if_neg (by omega), hA, if_neg (by omega)]
        refine x_aload_n 25 rfl rfl ?_
        refine x_getR 26 (z := (c2 + 13)) rfl fl_X0_25 (isC_0 hc2) (kC hc2) rfl (rC2 hc2) ?_
        refine x_iconst 27 rfl ?_
        refine x_aload_n 28 rfl rfl ?_
        refine x_getR 29 (z := (c + 13)) rfl fl_X0_25 (isC_0 hc) (kC hc) rfl (rC2 hc) ?_
        refine x_iconst 30 rfl ?_
        refine x_aload_n 31 rfl rfl ?_
        refine x_getI 32 (z := i3 c2 5) rfl fl_X0_45 (isC_0 hc2) (kC hc2) rfl rfl ?_
        refine x_iconst 33 rfl ?_
        refine x_imul 34 (r := (i3 c2 5) * 4) rfl rfl ?_
        obtain ⟨i4, hi4⟩ : ∃ f, f = mCp i3 (c2 + 13) (c + 13) ((i3 c2 5) * 4) := ⟨_, rfl⟩
        refine x_copyi 35 rfl ml_X0_39 (isC_O hc2) (kCO hc2) (isC_O hc) (kCO hc) (by omega) (by decide) (Nat.le_of_ble_eq_true rfl) (g' := st i4 ll) (by subst hi4; rfl) ?_
        have e4 : ∀ a b, i4 a b = if a = c + 13 ∧ 0 ≤ b ∧ b < i c2 5 * 4 then i (c2 + 13) b else i3 a b := by
          intro a b; simp only [hi4, mCp, e35]; split
          · rw [e3, if_neg (by omega), hA, if_neg (by omega)]
          · rfl
        refine x_aload_n 36 rfl rfl ?_
        refine x_getR 37 (z := (c2 + 14)) rfl fl_X0_28 (isC_0 hc2) (kC hc2) rfl (rC3 hc2) ?_
        refine x_iconst 38 rfl ?_
        refine x_aload_n 39 rfl rfl ?_
        refine x_getR 40 (z := (c + 14)) rfl fl_X0_28 (isC_0 hc) (kC hc) rfl (rC3 hc) ?_
        refine x_iconst 41 rfl ?_
        refine x_iconst 42 rfl ?_
        obtain ⟨i5, hi5⟩ : ∃ f, f = mCp i4 (c2 + 14) (c + 14) (4) := ⟨_, rfl⟩
        refine x_copyi 43 rfl ml_X0_39 (isC_W hc2) (kCW hc2) (isC_W hc) (kCW hc) (by omega) (by decide) (Nat.le_of_ble_eq_true rfl) (g' := st i5 ll) (by subst hi5; rfl) ?_
        have e5 : ∀ a b, i5 a b = if a = c + 14 ∧ 0 ≤ b ∧ b < 4 then i (c2 + 14) b else i4 a b := by
          intro a b; simp only [hi5, mCp]; split
          · rw [e4, if_neg (by omega), e3, if_neg (by omega), hA, if_neg (by omega)]
          · rfl
        have e0 : ∀ b, i5 c2 b = i c2 b := by intro b; rw [e5, if_neg (by omega), e4, if_neg (by omega), e3, if_neg (by omega), hA, if_neg (by omega)]
        refine x_aload_n 44 rfl rfl ?_
        refine x_aload_n 45 rfl rfl ?_
        refine x_getI 46 (z := i5 c2 4) rfl fl_X0_31 (isC_0 hc2) (kC hc2) rfl rfl ?_
        obtain ⟨i6, hi6⟩ : ∃ f, f = mU i5 c 4 (i5 c2 4) := ⟨_, rfl⟩
        refine x_putI 47 rfl fl_X0_31 (isC_0 hc) (kC hc) rfl rfl (g' := st i6 ll) (by subst hi6; rfl) ?_
        refine x_aload_n 48 rfl rfl ?_
        refine x_aload_n 49 rfl rfl ?_
        refine x_getI 50 (z := i6 c2 5) rfl fl_X0_45 (isC_0 hc2) (kC hc2) rfl rfl ?_
        obtain ⟨i7, hi7⟩ : ∃ f, f = mU i6 c 5 (i6 c2 5) := ⟨_, rfl⟩
        refine x_putI 51 rfl fl_X0_45 (isC_0 hc) (kC hc) rfl rfl (g' := st i7 ll) (by subst hi7; rfl) ?_
        refine x_aload_n 52 rfl rfl ?_
        refine x_aload_n 53 rfl rfl ?_
        refine x_getI 54 (z := i7 c2 6) rfl fl_X0_48 (isC_0 hc2) (kC hc2) rfl rfl ?_
        obtain ⟨i8, hi8⟩ : ∃ f, f = mU i7 c 6 (i7 c2 6) := ⟨_, rfl⟩
        refine x_putI 55 rfl fl_X0_48 (isC_0 hc) (kC hc) rfl rfl (g' := st i8 ll) (by subst hi8; rfl) ?_
        refine x_aload_n 56 rfl rfl ?_
        refine x_aload_n 57 rfl rfl ?_
        refine x_getI 58 (z := i8 c2 7) rfl fl_X0_51 (isC_0 hc2) (kC hc2) rfl rfl ?_
        obtain ⟨i9, hi9⟩ : ∃ f, f = mU i8 c 7 (i8 c2 7) := ⟨_, rfl⟩
        refine x_putI 59 rfl fl_X0_51 (isC_0 hc) (kC hc) rfl rfl (g' := st i9 ll) (by subst hi9; rfl) ?_
        refine x_ret 60 none rfl ⟨rfl, rfl⟩ ⟨rfl, i9, ll, rfl, ?_⟩
        have e6 : ∀ a b, i6 a b = if a = c ∧ b = 4 then i c2 4 else i5 a b := by intro a b; simp only [hi6, mU, e0]
        have e60 : ∀ b, i6 c2 b = i c2 b := by intro b; rw [e6, if_neg (by omega), e0]
        have e7 : ∀ a b, i7 a b = if a = c ∧ b = 5 then i c2 5 else i6 a b := by intro a b; simp only [hi7, mU, e60]
        have e70 : ∀ b, i7 c2 b = i c2 b := by intro b; rw [e7, if_neg (by omega), e60]
        have e8 : ∀ a b, i8 a b = if a = c ∧ b = 6 then i c2 6 else i7 a b := by intro a b; simp only [hi8, mU, e70]
        have e80 : ∀ b, i8 c2 b = i c2 b := by intro b; rw [e8, if_neg (by omega), e70]
        refine ⟨fun a b => ?_, hB⟩
        simp only [hi9, mU, e80, e8, e7, e6, e5, e4, e3, hA]
      · refine x_aload_n 6 rfl rfl ?_
        refine x_getR 7 (z := (c + 1)) rfl fl_X0_11 (isC_0 hc) (kC hc) rfl (rC0 hc) ?_
        refine x_iload_n 8 rfl rfl ?_
        refine x_aald 9 (t := 3) (z := (c + 2 + (x).toNat)) rfl (isC_S hc) (kCS hc) (by omega) ⟨rfl, rfl⟩ (rCs hc (by omega)) ?_
        have h7 : ii (c2 + 2 + x.toNat) 7 = 0 ∨ ii (c2 + 2 + x.toNat) 7 = 1 := by rw [hA, if_neg (by omega)]; have := hO2.s hx.1 (show x < i c2 4 by omega); omega
        refine x_aload_n 10 rfl rfl ?_
        refine x_getR 11 (z := (c2 + 1)) rfl fl_X0_11 (isC_0 hc2) (kC hc2) rfl (rC0 hc2) ?_
        refine x_iload_n 12 rfl rfl ?_
        refine x_aald 13 (t := 3) (z := (c2 + 2 + (x).toNat)) rfl (isC_S hc2) (kCS hc2) (by omega) ⟨rfl, rfl⟩ (rCs hc2 (by omega)) ?_
        refine x_callV 14 m_X5_copyFrom (c_s_copyFrom (isS.of hc (show (x).toNat < 10 by omega)) (isS.of hc2 (show (x).toNat < 10 by omega)) (by omega)) rfl ok_X5_copyFrom (isS_lt (isS.of hc (show (x).toNat < 10 by omega))) (kS (isS.of hc (show (x).toNat < 10 by omega))) rfl rfl ml_X0_35 im_X5_copyFrom se_X5_copyFrom rfl (by decide) rfl (Nat.le_of_ble_eq_true rfl) rfl rfl (fun v g q10 => ?_)
        obtain ⟨rfl, i11, li11, rfl, hi11⟩ := q10
        show mX m_X0_copyFrom 2 _ 0 0 _ _ [] _
        have hm := hi11
        refine x_iinc 15 (L' := [some (vR (some c)), some (vR (some c2)), some (vI (x + 1))]) rfl (by decide) rfl rfl rfl rfl ?_
        refine x_goto 16 (tgt := 2) rfl (by decide) ?_
        exact ihL1 i11 li11 (x + 1) (by omega) (cp_stepI hap hx.1 (by omega) hm.1 hA) (cp_stepL hap hx.1 (by omega) hm.2 hB) (by omega)
  exact loopL1 ((i c2 4 - ((0))) + 1 : Int).toNat i l (0) (by omega) (by intro a b; rw [if_neg (by omega)]) (by intro a b; rw [if_neg (by omega)]) (by omega)
set_option maxRecDepth 20000 in
set_option maxHeartbeats 2000000 in
theorem c_dismiss {i : Nat → Int → Int} {l : Nat → Int → BitVec 64} {c : Nat} (hc : isC c) (hO : okC i c) {y : Int} (hy : 0 ≤ y ∧ y < i c 4) : mCtr m_X0_dismiss 2 0 0 [vR (some c), vI (y)] (st i l) (qV (fun i' l' => (∀ a b, i' a b = if a = c ∧ b = 4 then i c 4 - 1 else if c + 2 + y ≤ (a : Int) ∧ (a : Int) < c + 2 + (i c 4 - 1) ∧ (b = 0 ∨ b = 1 ∨ (4 ≤ b ∧ b ≤ 10)) then i (a + 1) b else i a b) ∧ ∀ a b, l' a b = if c + 2 + y ≤ (a : Int) ∧ (a : Int) < c + 2 + (i c 4 - 1) ∧ (b = 2 ∨ b = 3) then l (a + 1) b else l a b)) := by
  refine mCtr_of pl_X0 dc_X0_dismiss (Nat.le_of_ble_eq_true rfl) rfl ?_
  show mX m_X0_dismiss 2 _ 0 0 0 [some (vR (some c)), some (vI (y)), none] [] (st i l)
  have hN := hO.n
  refine x_iload_n 0 rfl rfl ?_
  refine x_istore_n 1 (L' := [some (vR (some c)), some (vI (y)), some (vI (y))]) rfl (by decide) rfl rfl ?_
  have loopL1 : ∀ (nz : Nat) (ii : Nat → Int → Int) (ll : Nat → Int → BitVec 64) (x : Int), (y ≤ x ∧ x + 1 ≤ i c 4) → (∀ a b, ii a b = if c + 2 + y ≤ (a : Int) ∧ (a : Int) < c + 2 + x ∧ (b = 0 ∨ b = 1 ∨ (4 ≤ b ∧ b ≤ 10)) then i (a + 1) b else i a b) → (∀ a b, ll a b = if c + 2 + y ≤ (a : Int) ∧ (a : Int) < c + 2 + x ∧ (b = 2 ∨ b = 3) then l (a + 1) b else l a b) → (i c 4 - x) < (nz : Int) → mX m_X0_dismiss 2 (qV (fun i' l' => (∀ a b, i' a b = if a = c ∧ b = 4 then i c 4 - 1 else if c + 2 + y ≤ (a : Int) ∧ (a : Int) < c + 2 + (i c 4 - 1) ∧ (b = 0 ∨ b = 1 ∨ (4 ≤ b ∧ b ≤ 10)) then i (a + 1) b else i a b) ∧ ∀ a b, l' a b = if c + 2 + y ≤ (a : Int) ∧ (a : Int) < c + 2 + (i c 4 - 1) ∧ (b = 2 ∨ b = 3) then l (a + 1) b else l a b)) 0 0 2 [some (vR (some c)), some (vI (y)), some (vI (x))] [] (st ii ll) := by
    intro nz
    induction nz with
    | zero => intro ii ll x hx hA hB hz; exact absurd hz (by omega)
    | succ nz ihL1 =>
      intro ii ll x hx hA hB hzL1
      have hc4 : ii c 4 = i c 4 := by rw [hA, if_neg (by omega)]
      refine x_iload_n 2 rfl rfl ?_
      refine x_iconst 3 rfl ?_
      refine x_iadd 4 (r := x + 1) rfl rfl ?_
      refine x_aload_n 5 rfl rfl ?_
      refine x_getI 6 (z := ii c 4) rfl fl_X0_31 (isC_0 hc) (kC hc) rfl rfl ?_
      refine x_icmp_ge 7 (tgt := 35) rfl (by decide) (by omega) (fun h2 => ?_) (fun h2 => ?_)
      · have hxe : x = i c 4 - 1 := by omega
        subst hxe
        refine x_aload_n 21 rfl rfl ?_
        refine x_dup 22 rfl rfl ?_
        refine x_getI 23 (z := ii c 4) rfl fl_X0_31 (isC_0 hc) (kC hc) rfl rfl ?_
        refine x_iconst 24 rfl ?_
        refine x_isub 25 (r := (ii c 4) - 1) rfl rfl ?_
        obtain ⟨i3, hi3⟩ : ∃ f, f = mU ii c 4 ((ii c 4) - 1) := ⟨_, rfl⟩
        refine x_putI 26 rfl fl_X0_31 (isC_0 hc) (kC hc) rfl rfl (g' := st i3 ll) (by subst hi3; rfl) ?_
        refine x_ret 27 none rfl ⟨rfl, rfl⟩ ⟨rfl, i3, ll, rfl, ?_⟩
        refine ⟨fun a b => ?_, hB⟩
        simp only [hi3, mU, hc4, hA]
      · refine x_aload_n 8 rfl rfl ?_
        refine x_getR 9 (z := (c + 1)) rfl fl_X0_11 (isC_0 hc) (kC hc) rfl (rC0 hc) ?_
        have h7 : ii (c + 2 + (x + 1).toNat) 7 = 0 ∨ ii (c + 2 + (x + 1).toNat) 7 = 1 := by rw [hA, if_neg (by omega)]; have := hO.s (show 0 ≤ x + 1 by omega) (show x + 1 < i c 4 by omega); omega
        refine x_iload_n 10 rfl rfl ?_
        refine x_aald 11 (t := 3) (z := (c + 2 + (x).toNat)) rfl (isC_S hc) (kCS hc) (by omega) ⟨rfl, rfl⟩ (rCs hc (by omega)) ?_
        refine x_aload_n 12 rfl rfl ?_
        refine x_getR 13 (z := (c + 1)) rfl fl_X0_11 (isC_0 hc) (kC hc) rfl (rC0 hc) ?_
        refine x_iload_n 14 rfl rfl ?_
        refine x_iconst 15 rfl ?_
        refine x_iadd 16 (r := x + 1) rfl rfl ?_
        refine x_aald 17 (t := 3) (z := (c + 2 + (x + 1).toNat)) rfl (isC_S hc) (kCS hc) (by omega) ⟨rfl, rfl⟩ (rCs hc (by omega)) ?_
        refine x_callV 18 m_X5_copyFrom (c_s_copyFrom (isS.of hc (show (x).toNat < 10 by omega)) (isS.of hc (show (x + 1).toNat < 10 by omega)) (by omega)) rfl ok_X5_copyFrom (isS_lt (isS.of hc (show (x).toNat < 10 by omega))) (kS (isS.of hc (show (x).toNat < 10 by omega))) rfl rfl ml_X0_35 im_X5_copyFrom se_X5_copyFrom rfl (by decide) rfl (Nat.le_of_ble_eq_true rfl) rfl rfl (fun v g q4 => ?_)
        obtain ⟨rfl, i5, li5, rfl, hi5⟩ := q4
        show mX m_X0_dismiss 2 _ 0 0 _ _ [] _
        have hm := hi5
        refine x_iinc 19 (L' := [some (vR (some c)), some (vI (y)), some (vI (x + 1))]) rfl (by decide) rfl rfl rfl rfl ?_
        refine x_goto 20 (tgt := 2) rfl (by decide) ?_
        exact ihL1 i5 li5 (x + 1) (by omega) (dm_stepI hy.1 hx.1 hm.1 hA) (dm_stepL hy.1 hx.1 hm.2 hB) (by omega)
  exact loopL1 ((i c 4 - ((y))) + 1 : Int).toNat i l (y) (by omega) (by intro a b; rw [if_neg (by omega)]) (by intro a b; rw [if_neg (by omega)]) (by omega)
set_option maxRecDepth 20000 in
set_option maxHeartbeats 2000000 in
theorem c_join {i : Nat → Int → Int} {l : Nat → Int → BitVec 64} {c : Nat} (hc : isC c) (hn : 0 ≤ i c 4 ∧ i c 4 < 10) {s h : Int} : mCtr m_X0_join 4 0 0 [vR (some c), vI (s), vI (h)] (st i l) (qV (fun i' l' => (∀ a b, i' a b = if a = c ∧ b = 4 then i c 4 + 1 else if a = c + 2 + (i c 4).toNat then (if b = 0 then s else if b = 1 then h else if b = 4 ∨ b = 5 ∨ b = 8 ∨ b = 10 then 0 else if b = 6 ∨ b = 9 then -9 else if b = 7 then 1 else i a b) else i a b) ∧ ∀ a b, l' a b = if a = c + 2 + (i c 4).toNat ∧ (b = 2 ∨ b = 3) then 0#64 else l a b)) := by
  refine mCtr_of pl_X0 dc_X0_join (Nat.le_of_ble_eq_true rfl) rfl ?_
  show mX m_X0_join 4 _ 0 0 0 [some (vR (some c)), some (vI (s)), some (vI (h))] [] (st i l)
  refine x_aload_n 0 rfl rfl ?_
  refine x_getR 1 (z := (c + 1)) rfl fl_X0_11 (isC_0 hc) (kC hc) rfl (rC0 hc) ?_
  refine x_aload_n 2 rfl rfl ?_
  refine x_getI 3 (z := i c 4) rfl fl_X0_31 (isC_0 hc) (kC hc) rfl rfl ?_
  refine x_aald 4 (t := 3) (z := (c + 2 + (i c 4).toNat)) rfl (isC_S hc) (kCS hc) (by omega) ⟨rfl, rfl⟩ (rCs hc (by omega)) ?_
  refine x_iload_n 5 rfl rfl ?_
  refine x_iload_n 6 rfl rfl ?_
  refine x_callV 7 m_X5_begin (c_begin (isS.of hc (show (i c 4).toNat < 10 by omega))) rfl ok_X5_begin (isS_lt (isS.of hc (show (i c 4).toNat < 10 by omega))) (kS (isS.of hc (show (i c 4).toNat < 10 by omega))) rfl rfl ml_X0_54 im_X5_begin se_X5_begin rfl (by decide) rfl (Nat.le_of_ble_eq_true rfl) rfl rfl (fun v g q1 => ?_)
  obtain ⟨rfl, i2, li2, rfl, hi2⟩ := q1
  show mX m_X0_join 4 _ 0 0 _ _ [] _
  have hm := hi2
  have hc4 : i2 c 4 = i c 4 := by rw [hm.1, if_neg (by omega)]
  refine x_aload_n 8 rfl rfl ?_
  refine x_dup 9 rfl rfl ?_
  refine x_getI 10 (z := i2 c 4) rfl fl_X0_31 (isC_0 hc) (kC hc) rfl rfl ?_
  refine x_iconst 11 rfl ?_
  refine x_iadd 12 (r := (i2 c 4) + 1) rfl rfl ?_
  obtain ⟨i3, hi3⟩ : ∃ f, f = mU i2 c 4 ((i2 c 4) + 1) := ⟨_, rfl⟩
  refine x_putI 13 rfl fl_X0_31 (isC_0 hc) (kC hc) rfl rfl (g' := st i3 li2) (by subst hi3; rfl) ?_
  refine x_ret 14 none rfl ⟨rfl, rfl⟩ ⟨rfl, i3, li2, rfl, ?_⟩
  refine ⟨fun a b => ?_, hm.2⟩
  simp only [hi3, mU, hc4, hm.1]
set_option maxRecDepth 20000 in
set_option maxHeartbeats 2000000 in
theorem c_record {i : Nat → Int → Int} {l : Nat → Int → BitVec 64} (hO : okC i 1) (hh : 0 ≤ i 16 1 ∧ i 16 1 < 8 ∧ 0 ≤ i 16 2 ∧ i 16 2 ≤ 8) : mCtr m_X1_record 3 0 0 [vR (some 16), vR (some 1)] (st i l) (qV (fun i' l' => ∃ i1, cpC i l i1 l' (18 + 15 * ((i 16 1 + i 16 2) % 8).toNat) 1 ∧ ∀ a b, i' a b = if a = 16 ∧ b = 2 then (if i 16 2 < 8 then i 16 2 + 1 else i 16 2) else if a = 16 ∧ b = 1 then (if i 16 2 < 8 then i 16 1 else (i 16 1 + 1) % 8) else i1 a b)) := by
  refine mCtr_of pl_X1 dc_X1_record (Nat.le_of_ble_eq_true rfl) rfl ?_
  show mX m_X1_record 3 _ 0 0 0 [some (vR (some 16)), some (vR (some 1))] [] (st i l)
  refine x_aload_n 0 rfl rfl ?_
  refine x_getR 1 (z := 17) rfl fl_X1_11 (n_lt rfl) k_16 rfl r_16_0 ?_
  refine x_aload_n 2 rfl rfl ?_
  refine x_getI 3 (z := i 16 1) rfl fl_X1_18 (n_lt rfl) k_16 rfl rfl ?_
  refine x_aload_n 4 rfl rfl ?_
  refine x_getI 5 (z := i 16 2) rfl fl_X1_22 (n_lt rfl) k_16 rfl rfl ?_
  refine x_iadd 6 (r := (i 16 1) + (i 16 2)) rfl rfl ?_
  refine x_bipush 7 rfl (by decide) ?_
  refine x_irem 8 (r := ((i 16 1) + (i 16 2)) % 8) rfl (by omega) rfl ?_
  refine x_aald 9 (t := 4) (z := (18 + 15 * (((i 16 1) + (i 16 2)) % 8).toNat)) rfl (n_lt rfl) k_17 (by omega) ⟨rfl, rfl⟩ (rH (by omega)) ?_
  refine x_aload_n 10 rfl rfl ?_
  refine x_callV 11 m_X0_copyFrom (c_copyFrom (isC_h (by omega)) isC_1 (by omega) hO) rfl ok_X0_copyFrom (isC_0 (isC_h (by omega))) (kC (isC_h (by omega))) rfl rfl ml_X1_25 im_X0_copyFrom se_X0_copyFrom rfl (by decide) rfl (Nat.le_of_ble_eq_true rfl) rfl rfl (fun v g q1 => ?_)
  obtain ⟨rfl, i2, li2, rfl, hi2⟩ := q1
  show mX m_X1_record 3 _ 0 0 _ _ [] _
  have hm := hi2
  have hT : 18 ≤ (18 + 15 * ((i 16 1 + i 16 2) % 8).toNat) ∧ (18 + 15 * ((i 16 1 + i 16 2) % 8).toNat) ≤ 123 := by omega
  have h162 : ∀ b, i2 16 b = i 16 b := by intro b; rw [hm.1]; simp only [show ¬ (16 = (18 + 15 * ((i 16 1 + i 16 2) % 8).toNat)) by omega, show ¬ (16 = (18 + 15 * ((i 16 1 + i 16 2) % 8).toNat) + 14) by omega, show ¬ (16 = (18 + 15 * ((i 16 1 + i 16 2) % 8).toNat) + 13) by omega, show ¬ (16 = (18 + 15 * ((i 16 1 + i 16 2) % 8).toNat) + 12) by omega, show ¬ ((18 + 15 * ((i 16 1 + i 16 2) % 8).toNat) + 2 ≤ 16) by omega, false_and, if_false]
  have h1621 := h162 1
  have h1622 := h162 2
  refine x_aload_n 12 rfl rfl ?_
  refine x_getI 13 (z := i2 16 2) rfl fl_X1_22 (n_lt rfl) k_16 rfl rfl ?_
  refine x_bipush 14 rfl (by decide) ?_
  refine x_icmp_ge 15 (tgt := 43) rfl (by decide) (by omega) (fun h3 => ?_) (fun h3 => ?_)
  · refine x_aload_n 23 rfl rfl ?_
    refine x_aload_n 24 rfl rfl ?_
    refine x_getI 25 (z := i2 16 1) rfl fl_X1_18 (n_lt rfl) k_16 rfl rfl ?_
    refine x_iconst 26 rfl ?_
    refine x_iadd 27 (r := (i2 16 1) + 1) rfl rfl ?_
    refine x_bipush 28 rfl (by decide) ?_
    refine x_irem 29 (r := ((i2 16 1) + 1) % 8) rfl (by omega) rfl ?_
    obtain ⟨i4, hi4⟩ : ∃ f, f = mU i2 16 1 (((i2 16 1) + 1) % 8) := ⟨_, rfl⟩
    refine x_putI 30 rfl fl_X1_18 (n_lt rfl) k_16 rfl rfl (g' := st i4 li2) (by subst hi4; rfl) ?_
    refine x_ret 31 none rfl ⟨rfl, rfl⟩ ⟨rfl, i4, li2, rfl, ?_⟩
    refine ⟨_, hm, fun a b => ?_⟩
    simp only [hi4, mU, h162]
    grind
  · refine x_aload_n 16 rfl rfl ?_
    refine x_dup 17 rfl rfl ?_
    refine x_getI 18 (z := i2 16 2) rfl fl_X1_22 (n_lt rfl) k_16 rfl rfl ?_
    refine x_iconst 19 rfl ?_
    refine x_iadd 20 (r := (i2 16 2) + 1) rfl rfl ?_
    obtain ⟨i5, hi5⟩ : ∃ f, f = mU i2 16 2 ((i2 16 2) + 1) := ⟨_, rfl⟩
    refine x_putI 21 rfl fl_X1_22 (n_lt rfl) k_16 rfl rfl (g' := st i5 li2) (by subst hi5; rfl) ?_
    refine x_goto 22 (tgt := 56) rfl (by decide) ?_
    refine x_ret 31 none rfl ⟨rfl, rfl⟩ ⟨rfl, i5, li2, rfl, ?_⟩
    refine ⟨_, hm, fun a b => ?_⟩
    simp only [hi5, mU, h162]
    grind
set_option maxRecDepth 20000 in
set_option maxHeartbeats 2000000 in
theorem c_restore {i : Nat → Int → Int} {l : Nat → Int → BitVec 64} (hh : 0 ≤ i 16 1 ∧ i 16 1 < 8 ∧ 1 ≤ i 16 2 ∧ i 16 2 ≤ 8) (hT : okC i (18 + 15 * ((i 16 1 + (i 16 2 - 1)) % 8).toNat)) : mCtr m_X1_restore 3 0 0 [vR (some 16), vR (some 1)] (st i l) (qV (fun i' l' => cpC (mU i 16 2 (i 16 2 - 1)) l i' l' 1 (18 + 15 * ((i 16 1 + (i 16 2 - 1)) % 8).toNat))) := by
  refine mCtr_of pl_X1 dc_X1_restore (Nat.le_of_ble_eq_true rfl) rfl ?_
  show mX m_X1_restore 3 _ 0 0 0 [some (vR (some 16)), some (vR (some 1))] [] (st i l)
  refine x_aload_n 0 rfl rfl ?_
  refine x_dup 1 rfl rfl ?_
  refine x_getI 2 (z := i 16 2) rfl fl_X1_22 (n_lt rfl) k_16 rfl rfl ?_
  refine x_iconst 3 rfl ?_
  refine x_isub 4 (r := (i 16 2) - 1) rfl rfl ?_
  obtain ⟨i1, hi1⟩ : ∃ f, f = mU i 16 2 ((i 16 2) - 1) := ⟨_, rfl⟩
  refine x_putI 5 rfl fl_X1_22 (n_lt rfl) k_16 rfl rfl (g' := st i1 l) (by subst hi1; rfl) ?_
  have e1 : i1 16 1 = i 16 1 := by simp [hi1, mU]
  have e2 : i1 16 2 = i 16 2 - 1 := by simp [hi1, mU]
  have hO2 : okC i1 (18 + 15 * ((i1 16 1 + i1 16 2) % 8).toNat) := by
    rw [e1, e2]; refine hT.congr (fun a b h1 h2 => ?_); simp only [hi1, mU]; rw [if_neg (by omega)]
  refine x_aload_n 6 rfl rfl ?_
  refine x_aload_n 7 rfl rfl ?_
  refine x_getR 8 (z := 17) rfl fl_X1_11 (n_lt rfl) k_16 rfl r_16_0 ?_
  refine x_aload_n 9 rfl rfl ?_
  refine x_getI 10 (z := i1 16 1) rfl fl_X1_18 (n_lt rfl) k_16 rfl rfl ?_
  refine x_aload_n 11 rfl rfl ?_
  refine x_getI 12 (z := i1 16 2) rfl fl_X1_22 (n_lt rfl) k_16 rfl rfl ?_
  refine x_iadd 13 (r := (i1 16 1) + (i1 16 2)) rfl rfl ?_
  refine x_bipush 14 rfl (by decide) ?_
  refine x_irem 15 (r := ((i1 16 1) + (i1 16 2)) % 8) rfl (by omega) rfl ?_
  refine x_aald 16 (t := 4) (z := (18 + 15 * (((i1 16 1) + (i1 16 2)) % 8).toNat)) rfl (n_lt rfl) k_17 (by omega) ⟨rfl, rfl⟩ (rH (by omega)) ?_
  refine x_callV 17 m_X0_copyFrom (c_copyFrom isC_1 (isC_h (by omega)) (by omega) hO2) rfl ok_X0_copyFrom (isC_0 isC_1) (kC isC_1) rfl rfl ml_X1_25 im_X0_copyFrom se_X0_copyFrom rfl (by decide) rfl (Nat.le_of_ble_eq_true rfl) rfl rfl (fun v g q2 => ?_)
  obtain ⟨rfl, i3, li3, rfl, hi3⟩ := q2
  show mX m_X1_restore 3 _ 0 0 _ _ [] _
  have hm := hi3
  refine x_ret 18 none rfl ⟨rfl, rfl⟩ ⟨rfl, i3, li3, rfl, ?_⟩
  rw [e1, e2] at hm
  rw [hi1] at hm
  exact hm
end
section
/-! the reader of texts -/
/-- where, value, digits, start, first, told, sung -/
abbrev cS : Type := Int × Int × Int × Int × Int × BitVec 64 × BitVec 64
def wBits (a b : Int) : BitVec 64 := (1#64 <<< (b - a + 1).toNat - 1#64) <<< a.toNat
def cClose (can : Bool) (s : cS) : cS := (s.1, s.2.1, s.2.2.1, s.2.2.2.1, s.2.2.2.2.1, s.2.2.2.2.2.1 ||| wBits (if s.1 = 3 then s.2.2.2.2.1 else s.2.1) s.2.1, if can then s.2.2.2.2.2.2 ||| wBits (if s.1 = 3 then s.2.2.2.2.1 else s.2.1) s.2.1 else s.2.2.2.2.2.2 &&& (wBits (if s.1 = 3 then s.2.2.2.2.1 else s.2.1) s.2.1 ^^^ -1))
def cWhere (w : Int) (s : cS) : cS := (w, s.2)
def cStands (hi : Int) (s : cS) : Prop := s.2.1 ≤ hi ∧ (s.1 = 1 ∨ s.2.2.2.2.1 ≤ s.2.1)
noncomputable def cStep (sg hi code pos : Int) (s : cS) : cS ⊕ (Int × Int) := by
  classical exact
  (if s.1 = 1 ∨ s.1 = 3 then
    (if 48 ≤ code ∧ code ≤ 57 then (if s.2.2.1 = 2 then .inr (1, pos) else .inl (s.1, s.2.1 * 10 + code - 48, 2, s.2.2.2))
    else if ¬ cStands hi s then .inr (2, s.2.2.2.1)
    else if code = 32 then .inl (cWhere 0 (cClose true s))
    else if code = 33 ∧ sg ≠ 0 then .inl (cWhere 4 (cClose false s))
    else if code = 45 ∧ sg ≠ 0 ∧ s.1 = 1 then .inl (2, s.2.1, s.2.2.1, s.2.2.2.1, s.2.1, s.2.2.2.2.2)
    else .inr (1, pos))
  else if (48 ≤ code ∧ code ≤ 57) ∧ s.1 ≠ 4 then .inl (if s.1 = 2 then 3 else 1, code - 48, 1, pos, s.2.2.2.2)
  else if code = 32 ∧ s.1 ≠ 2 then .inl (cWhere 0 s)
  else .inr (1, pos))
noncomputable def cEnd (hi len : Int) (s : cS) : cS ⊕ (Int × Int) := by
  classical exact
  (if s.1 = 2 then .inr (3, len) else if ¬ (s.1 = 1 ∨ s.1 = 3) then .inl s else if ¬ cStands hi s then .inr (2, s.2.2.2.1) else .inl (cClose true s))
noncomputable def cRun (sg hi : Int) (f : Int → Int) (s0 : cS) : Nat → cS ⊕ (Int × Int)
  | 0 => .inl s0
  | n + 1 => match cRun sg hi f s0 n with
    | .inl s => cStep sg hi (f n) n s
    | .inr e => .inr e
noncomputable def cRead (sg hi : Int) (f : Int → Int) (s0 : cS) (len : Int) : cS ⊕ (Int × Int) := match cRun sg hi f s0 len.toNat with
  | .inl s => cEnd hi len s
  | .inr e => .inr e
abbrev rdS (i : Nat → Int → Int) (l : Nat → Int → BitVec 64) : cS := (i 172 6, i 172 7, i 172 8, i 172 9, i 172 10, l 172 0, l 172 1)
def okRd (hi : Int) (s : cS) : Prop := 0 ≤ s.1 ∧ s.1 ≤ 4 ∧ ((s.1 = 1 ∨ s.1 = 3) → 0 ≤ s.2.1 ∧ s.2.1 ≤ 99 ∧ 1 ≤ s.2.2.1 ∧ s.2.2.1 ≤ 2 ∧ (s.2.2.1 = 1 → s.2.1 ≤ 9)) ∧ ((s.1 = 2 ∨ s.1 = 3) → 0 ≤ s.2.2.2.2.1 ∧ s.2.2.2.2.1 ≤ hi)
theorem okRd_step {sg hi code pos : Int} {s s' : cS} (h : okRd hi s) (hs : cStep sg hi code pos s = .inl s') : okRd hi s' := by
  obtain ⟨w, v, d, st, f, T, S⟩ := s
  unfold okRd at h
  simp only at h
  unfold cStep cStands cWhere cClose at hs
  simp only at hs
  unfold okRd
  split at hs
  · split at hs
    · split at hs
      · cases hs
      · cases hs; simp only; omega
    · split at hs
      · cases hs
      · split at hs
        · cases hs; simp only; omega
        · split at hs
          · cases hs; simp only; omega
          · split at hs
            · cases hs; simp only; omega
            · cases hs
  · split at hs
    · cases hs; simp only; split <;> omega
    · split at hs
      · cases hs; simp only; omega
      · cases hs
/-- what a step of the reader leaves -/
def tkR (i : Nat → Int → Int) (l : Nat → Int → BitVec 64) (i' : Nat → Int → Int) (l' : Nat → Int → BitVec 64) (res : cS ⊕ (Int × Int)) (z : Int) : Prop :=
  (z = 0 ∨ z = 1) ∧ (∀ a b, a ≠ 172 → i' a b = i a b) ∧ (∀ a b, a ≠ 172 → l' a b = l a b) ∧ i' 172 4 = i 172 4 ∧ i' 172 5 = i 172 5 ∧ match res with
    | .inl s => z = 1 ∧ rdS i' l' = s ∧ i' 172 2 = i 172 2 ∧ i' 172 3 = i 172 3
    | .inr e => z = 0 ∧ i' 172 2 = e.1 ∧ i' 172 3 = e.2
theorem mUne {α : Type} (f : Nat → Int → α) (o : Nat) (k : Int) (x : α) {a : Nat} (b : Int) (h : a ≠ o) : mU f o k x a b = f a b := by simp [mU, h]
theorem mUek {α : Type} (f : Nat → Int → α) (o : Nat) (k : Int) (x : α) {b : Int} (h : b ≠ k) : mU f o k x o b = f o b := by simp [mU, h]
theorem mUs {α : Type} (f : Nat → Int → α) (o : Nat) (k : Int) (x : α) : mU f o k x o k = x := by simp [mU]
set_option maxRecDepth 20000 in
set_option maxHeartbeats 2000000 in
theorem c_fail {i : Nat → Int → Int} {l : Nat → Int → BitVec 64} {k p : Int} : mCtr m_X3_fail 1 0 0 [vR (some 172), vI (k), vI (p)] (st i l) (qW (fun z i' l' => z = 0 ∧ i' = mU (mU i 172 2 k) 172 3 p ∧ l' = l)) := by
  refine mCtr_of pl_X3 dc_X3_fail (Nat.le_of_ble_eq_true rfl) rfl ?_
  show mX m_X3_fail 1 _ 0 0 0 [some (vR (some 172)), some (vI (k)), some (vI (p))] [] (st i l)
  refine x_aload_n 0 rfl rfl ?_
  refine x_iload_n 1 rfl rfl ?_
  obtain ⟨i1, hi1⟩ : ∃ f, f = mU i 172 2 (k) := ⟨_, rfl⟩
  refine x_putI 2 rfl fl_X3_9 (n_lt rfl) k_172 rfl rfl (g' := st i1 l) (by subst hi1; rfl) ?_
  refine x_aload_n 3 rfl rfl ?_
  refine x_iload_n 4 rfl rfl ?_
  obtain ⟨i2, hi2⟩ : ∃ f, f = mU i1 172 3 (p) := ⟨_, rfl⟩
  refine x_putI 5 rfl fl_X3_15 (n_lt rfl) k_172 rfl rfl (g' := st i2 l) (by subst hi2; rfl) ?_
  refine x_iconst 6 rfl ?_
  refine x_ret 7 (some (vI (0))) rfl ⟨rfl, Or.inr ⟨rfl, by omega⟩⟩ ⟨_, i2, l, rfl, rfl, ?_⟩
  exact ⟨rfl, by rw [hi2, hi1], rfl⟩
set_option maxRecDepth 20000 in
set_option maxHeartbeats 2000000 in
theorem c_inNumber {i : Nat → Int → Int} {l : Nat → Int → BitVec 64} (hw : 0 ≤ i 172 6 ∧ i 172 6 ≤ 4) : mCtr m_X3_inNumber 1 0 0 [vR (some 172)] (st i l) (qB (i 172 6 = 1 ∨ i 172 6 = 3) (st i l)) := by
  refine mCtr_of pl_X3 dc_X3_inNumber (Nat.le_of_ble_eq_true rfl) rfl ?_
  show mX m_X3_inNumber 1 _ 0 0 0 [some (vR (some 172))] [] (st i l)
  refine x_aload_n 0 rfl rfl ?_
  refine x_getI 1 (z := i 172 6) rfl fl_X3_42 (n_lt rfl) k_172 rfl rfl ?_
  refine x_iconst 2 rfl ?_
  refine x_icmp_eq 3 (tgt := 16) rfl (by decide) (by omega) (fun h1 => ?_) (fun h1 => ?_)
  · refine x_iconst 8 rfl ?_
    refine x_goto 9 (tgt := 21) rfl (by decide) ?_
    refine x_ret 11 (some (vI (1))) rfl ⟨rfl, Or.inr ⟨rfl, by omega⟩⟩ ⟨rfl, Or.inl ⟨?_, rfl⟩⟩
    omega
  · refine x_aload_n 4 rfl rfl ?_
    refine x_getI 5 (z := i 172 6) rfl fl_X3_42 (n_lt rfl) k_172 rfl rfl ?_
    refine x_iconst 6 rfl ?_
    refine x_icmp_ne 7 (tgt := 20) rfl (by decide) (by omega) (fun h2 => ?_) (fun h2 => ?_)
    · refine x_iconst 10 rfl ?_
      refine x_ret 11 (some (vI (0))) rfl ⟨rfl, Or.inr ⟨rfl, by omega⟩⟩ ⟨rfl, Or.inr ⟨?_, rfl⟩⟩
      omega
    · refine x_iconst 8 rfl ?_
      refine x_goto 9 (tgt := 21) rfl (by decide) ?_
      refine x_ret 11 (some (vI (1))) rfl ⟨rfl, Or.inr ⟨rfl, by omega⟩⟩ ⟨rfl, Or.inl ⟨?_, rfl⟩⟩
      omega
set_option maxRecDepth 20000 in
set_option maxHeartbeats 2000000 in
theorem c_numberStands {i : Nat → Int → Int} {l : Nat → Int → BitVec 64} (hw : 0 ≤ i 172 6 ∧ i 172 6 ≤ 4) (hv : 0 ≤ i 172 7 ∧ i 172 7 ≤ 99) (hf : i 172 6 = 1 ∨ (0 ≤ i 172 10 ∧ i 172 10 ≤ 40)) (hh : -1 ≤ i 172 4 ∧ i 172 4 ≤ 40) : mCtr m_X3_numberStands 1 0 0 [vR (some 172)] (st i l) (qB (cStands (i 172 4) (rdS i l)) (st i l)) := by
  refine mCtr_of pl_X3 dc_X3_numberStands (Nat.le_of_ble_eq_true rfl) rfl ?_
  show mX m_X3_numberStands 1 _ 0 0 0 [some (vR (some 172))] [] (st i l)
  refine x_aload_n 0 rfl rfl ?_
  refine x_getI 1 (z := i 172 7) rfl fl_X3_79 (n_lt rfl) k_172 rfl rfl ?_
  refine x_aload_n 2 rfl rfl ?_
  refine x_getI 3 (z := i 172 4) rfl fl_X3_31 (n_lt rfl) k_172 rfl rfl ?_
  refine x_icmp_gt 4 (tgt := 34) rfl (by decide) (by omega) (fun h1 => ?_) (fun h1 => ?_)
  · refine x_iconst 16 rfl ?_
    refine x_ret 17 (some (vI (0))) rfl ⟨rfl, Or.inr ⟨rfl, by omega⟩⟩ ⟨rfl, Or.inr ⟨?_, rfl⟩⟩
    unfold cStands; simp only; omega
  · refine x_aload_n 5 rfl rfl ?_
    refine x_getI 6 (z := i 172 6) rfl fl_X3_42 (n_lt rfl) k_172 rfl rfl ?_
    refine x_iconst 7 rfl ?_
    refine x_icmp_eq 8 (tgt := 30) rfl (by decide) (by omega) (fun h2 => ?_) (fun h2 => ?_)
    · refine x_iconst 14 rfl ?_
      refine x_goto 15 (tgt := 35) rfl (by decide) ?_
      refine x_ret 17 (some (vI (1))) rfl ⟨rfl, Or.inr ⟨rfl, by omega⟩⟩ ⟨rfl, Or.inl ⟨?_, rfl⟩⟩
      unfold cStands; simp only; omega
    · refine x_aload_n 9 rfl rfl ?_
      refine x_getI 10 (z := i 172 7) rfl fl_X3_79 (n_lt rfl) k_172 rfl rfl ?_
      refine x_aload_n 11 rfl rfl ?_
      refine x_getI 12 (z := i 172 10) rfl fl_X3_95 (n_lt rfl) k_172 rfl rfl ?_
      refine x_icmp_lt 13 (tgt := 34) rfl (by decide) (by omega) (fun h3 => ?_) (fun h3 => ?_)
      · refine x_iconst 16 rfl ?_
        refine x_ret 17 (some (vI (0))) rfl ⟨rfl, Or.inr ⟨rfl, by omega⟩⟩ ⟨rfl, Or.inr ⟨?_, rfl⟩⟩
        unfold cStands; simp only; omega
      · refine x_iconst 14 rfl ?_
        refine x_goto 15 (tgt := 35) rfl (by decide) ?_
        refine x_ret 17 (some (vI (1))) rfl ⟨rfl, Or.inr ⟨rfl, by omega⟩⟩ ⟨rfl, Or.inl ⟨?_, rfl⟩⟩
        unfold cStands; simp only; omega
set_option maxRecDepth 20000 in
set_option maxHeartbeats 2000000 in
theorem c_closeWord {i : Nat → Int → Int} {l : Nat → Int → BitVec 64} (hw : 0 ≤ i 172 6 ∧ i 172 6 ≤ 4) {k : Int} (hk : k = 0 ∨ k = 1) (hv : 0 ≤ i 172 7 ∧ i 172 7 ≤ 40) (hf : i 172 6 = 3 → 0 ≤ i 172 10 ∧ i 172 10 ≤ i 172 7) : mCtr m_X3_closeWord 1 0 0 [vR (some 172), vI (k)] (st i l) (qV (fun i' l' => i' = i ∧ l' = mU (mU l 172 0 (cClose (decide (k ≠ 0)) (rdS i l)).2.2.2.2.2.1) 172 1 (cClose (decide (k ≠ 0)) (rdS i l)).2.2.2.2.2.2)) := by
  refine mCtr_of pl_X3 dc_X3_closeWord (Nat.le_of_ble_eq_true rfl) rfl ?_
  show mX m_X3_closeWord 1 _ 0 0 0 [some (vR (some 172)), some (vI (k)), none, none, none] [] (st i l)
  refine x_aload_n 0 rfl rfl ?_
  refine x_getI 1 (z := i 172 6) rfl fl_X3_42 (n_lt rfl) k_172 rfl rfl ?_
  refine x_iconst 2 rfl ?_
  refine x_icmp_ne 3 (tgt := 15) rfl (by decide) (by omega) (fun h1 => ?_) (fun h1 => ?_)
  · refine x_aload_n 7 rfl rfl ?_
    refine x_getI 8 (z := i 172 7) rfl fl_X3_79 (n_lt rfl) k_172 rfl rfl ?_
    refine x_istore_n 9 (L' := [some (vR (some 172)), some (vI (k)), some (vI (i 172 7)), none, none]) rfl (by decide) rfl rfl ?_
    refine x_lconst 10 (v := 1#64) rfl rfl ?_
    refine x_aload_n 11 rfl rfl ?_
    refine x_getI 12 (z := i 172 7) rfl fl_X3_79 (n_lt rfl) k_172 rfl rfl ?_
    refine x_iload_n 13 rfl rfl ?_
    refine x_isub 14 (r := (i 172 7) - (i 172 7)) rfl rfl ?_
    refine x_iconst 15 rfl ?_
    refine x_iadd 16 (r := ((i 172 7) - (i 172 7)) + 1) rfl rfl ?_
    refine x_lshl 17 (r := (1#64) <<< (((i 172 7) - (i 172 7)) + 1).toNat) rfl (by omega) rfl ?_
    refine x_lconst 18 (v := 1#64) rfl rfl ?_
    refine x_lsub 19 (r := ((1#64) <<< (((i 172 7) - (i 172 7)) + 1).toNat) - (1#64)) rfl rfl ?_
    refine x_iload_n 20 rfl rfl ?_
    refine x_lshl 21 (r := (((1#64) <<< (((i 172 7) - (i 172 7)) + 1).toNat) - (1#64)) <<< (i 172 7).toNat) rfl (by omega) rfl ?_
    refine x_lstore_n 22 (L' := [some (vR (some 172)), some (vI (k)), some (vI (i 172 7)), some (vL ((((1#64) <<< (((i 172 7) - (i 172 7)) + 1).toNat) - (1#64)) <<< (i 172 7).toNat)), none]) rfl (by decide) rfl rfl ?_
    refine x_aload_n 23 rfl rfl ?_
    refine x_dup 24 rfl rfl ?_
    refine x_getL 25 (z := l 172 0) rfl fl_X3_24 (n_lt rfl) k_172 rfl rfl ?_
    refine x_lload_n 26 rfl rfl ?_
    refine x_lor 27 (r := (l 172 0) ||| ((((1#64) <<< (((i 172 7) - (i 172 7)) + 1).toNat) - (1#64)) <<< (i 172 7).toNat)) rfl rfl ?_
    obtain ⟨l2, hl2⟩ : ∃ f, f = mU l 172 0 ((l 172 0) ||| ((((1#64) <<< (((i 172 7) - (i 172 7)) + 1).toNat) - (1#64)) <<< (i 172 7).toNat)) := ⟨_, rfl⟩
    refine x_putL 28 rfl fl_X3_24 (n_lt rfl) k_172 rfl rfl (g' := st i l2) (by subst hl2; rfl) ?_
    refine x_aload_n 29 rfl rfl ?_
    refine x_iload_n 30 rfl rfl ?_
    refine x_if_eq 31 (tgt := 59) rfl (by decide) (by omega) (fun h3 => ?_) (fun h3 => ?_)
    · refine x_aload_n 37 rfl rfl ?_
      refine x_getL 38 (z := l2 172 1) rfl fl_X3_30 (n_lt rfl) k_172 rfl rfl ?_
      refine x_lload_n 39 rfl rfl ?_
      refine x_ldc2 40 (r := -1) rfl ck_X3_98 rfl ?_
      refine x_lxor 41 (r := ((((1#64) <<< (((i 172 7) - (i 172 7)) + 1).toNat) - (1#64)) <<< (i 172 7).toNat) ^^^ (-1)) rfl rfl ?_
      refine x_land 42 (r := (l2 172 1) &&& (((((1#64) <<< (((i 172 7) - (i 172 7)) + 1).toNat) - (1#64)) <<< (i 172 7).toNat) ^^^ (-1))) rfl rfl ?_
      obtain ⟨l4, hl4⟩ : ∃ f, f = mU l2 172 1 ((l2 172 1) &&& (((((1#64) <<< (((i 172 7) - (i 172 7)) + 1).toNat) - (1#64)) <<< (i 172 7).toNat) ^^^ (-1))) := ⟨_, rfl⟩
      refine x_putL 43 rfl fl_X3_30 (n_lt rfl) k_172 rfl rfl (g' := st i l4) (by subst hl4; rfl) ?_
      refine x_ret 44 none rfl ⟨rfl, rfl⟩ ⟨rfl, i, l4, rfl, ?_⟩
      refine ⟨rfl, ?_⟩
      subst_vars
      simp [cClose, wBits, mUek, *]
    · refine x_aload_n 32 rfl rfl ?_
      refine x_getL 33 (z := l2 172 1) rfl fl_X3_30 (n_lt rfl) k_172 rfl rfl ?_
      refine x_lload_n 34 rfl rfl ?_
      refine x_lor 35 (r := (l2 172 1) ||| ((((1#64) <<< (((i 172 7) - (i 172 7)) + 1).toNat) - (1#64)) <<< (i 172 7).toNat)) rfl rfl ?_
      refine x_goto 36 (tgt := 69) rfl (by decide) ?_
      obtain ⟨l5, hl5⟩ : ∃ f, f = mU l2 172 1 ((l2 172 1) ||| ((((1#64) <<< (((i 172 7) - (i 172 7)) + 1).toNat) - (1#64)) <<< (i 172 7).toNat)) := ⟨_, rfl⟩
      refine x_putL 43 rfl fl_X3_30 (n_lt rfl) k_172 rfl rfl (g' := st i l5) (by subst hl5; rfl) ?_
      refine x_ret 44 none rfl ⟨rfl, rfl⟩ ⟨rfl, i, l5, rfl, ?_⟩
      refine ⟨rfl, ?_⟩
      subst_vars
      simp [cClose, wBits, mUek, *]
  · refine x_aload_n 4 rfl rfl ?_
    refine x_getI 5 (z := i 172 10) rfl fl_X3_95 (n_lt rfl) k_172 rfl rfl ?_
    refine x_goto 6 (tgt := 19) rfl (by decide) ?_
    refine x_istore_n 9 (L' := [some (vR (some 172)), some (vI (k)), some (vI (i 172 10)), none, none]) rfl (by decide) rfl rfl ?_
    refine x_lconst 10 (v := 1#64) rfl rfl ?_
    refine x_aload_n 11 rfl rfl ?_
    refine x_getI 12 (z := i 172 7) rfl fl_X3_79 (n_lt rfl) k_172 rfl rfl ?_
    refine x_iload_n 13 rfl rfl ?_
    refine x_isub 14 (r := (i 172 7) - (i 172 10)) rfl rfl ?_
    refine x_iconst 15 rfl ?_
    refine x_iadd 16 (r := ((i 172 7) - (i 172 10)) + 1) rfl rfl ?_
    refine x_lshl 17 (r := (1#64) <<< (((i 172 7) - (i 172 10)) + 1).toNat) rfl (by omega) rfl ?_
    refine x_lconst 18 (v := 1#64) rfl rfl ?_
    refine x_lsub 19 (r := ((1#64) <<< (((i 172 7) - (i 172 10)) + 1).toNat) - (1#64)) rfl rfl ?_
    refine x_iload_n 20 rfl rfl ?_
    refine x_lshl 21 (r := (((1#64) <<< (((i 172 7) - (i 172 10)) + 1).toNat) - (1#64)) <<< (i 172 10).toNat) rfl (by omega) rfl ?_
    refine x_lstore_n 22 (L' := [some (vR (some 172)), some (vI (k)), some (vI (i 172 10)), some (vL ((((1#64) <<< (((i 172 7) - (i 172 10)) + 1).toNat) - (1#64)) <<< (i 172 10).toNat)), none]) rfl (by decide) rfl rfl ?_
    refine x_aload_n 23 rfl rfl ?_
    refine x_dup 24 rfl rfl ?_
    refine x_getL 25 (z := l 172 0) rfl fl_X3_24 (n_lt rfl) k_172 rfl rfl ?_
    refine x_lload_n 26 rfl rfl ?_
    refine x_lor 27 (r := (l 172 0) ||| ((((1#64) <<< (((i 172 7) - (i 172 10)) + 1).toNat) - (1#64)) <<< (i 172 10).toNat)) rfl rfl ?_
    obtain ⟨l6, hl6⟩ : ∃ f, f = mU l 172 0 ((l 172 0) ||| ((((1#64) <<< (((i 172 7) - (i 172 10)) + 1).toNat) - (1#64)) <<< (i 172 10).toNat)) := ⟨_, rfl⟩
    refine x_putL 28 rfl fl_X3_24 (n_lt rfl) k_172 rfl rfl (g' := st i l6) (by subst hl6; rfl) ?_
    refine x_aload_n 29 rfl rfl ?_
    refine x_iload_n 30 rfl rfl ?_
    refine x_if_eq 31 (tgt := 59) rfl (by decide) (by omega) (fun h7 => ?_) (fun h7 => ?_)
    · refine x_aload_n 37 rfl rfl ?_
      refine x_getL 38 (z := l6 172 1) rfl fl_X3_30 (n_lt rfl) k_172 rfl rfl ?_
      refine x_lload_n 39 rfl rfl ?_
      refine x_ldc2 40 (r := -1) rfl ck_X3_98 rfl ?_
      refine x_lxor 41 (r := ((((1#64) <<< (((i 172 7) - (i 172 10)) + 1).toNat) - (1#64)) <<< (i 172 10).toNat) ^^^ (-1)) rfl rfl ?_
      refine x_land 42 (r := (l6 172 1) &&& (((((1#64) <<< (((i 172 7) - (i 172 10)) + 1).toNat) - (1#64)) <<< (i 172 10).toNat) ^^^ (-1))) rfl rfl ?_
      obtain ⟨l8, hl8⟩ : ∃ f, f = mU l6 172 1 ((l6 172 1) &&& (((((1#64) <<< (((i 172 7) - (i 172 10)) + 1).toNat) - (1#64)) <<< (i 172 10).toNat) ^^^ (-1))) := ⟨_, rfl⟩
      refine x_putL 43 rfl fl_X3_30 (n_lt rfl) k_172 rfl rfl (g' := st i l8) (by subst hl8; rfl) ?_
      refine x_ret 44 none rfl ⟨rfl, rfl⟩ ⟨rfl, i, l8, rfl, ?_⟩
      refine ⟨rfl, ?_⟩
      subst_vars
      simp [cClose, wBits, mUek, *]
    · refine x_aload_n 32 rfl rfl ?_
      refine x_getL 33 (z := l6 172 1) rfl fl_X3_30 (n_lt rfl) k_172 rfl rfl ?_
      refine x_lload_n 34 rfl rfl ?_
      refine x_lor 35 (r := (l6 172 1) ||| ((((1#64) <<< (((i 172 7) - (i 172 10)) + 1).toNat) - (1#64)) <<< (i 172 10).toNat)) rfl rfl ?_
      refine x_goto 36 (tgt := 69) rfl (by decide) ?_
      obtain ⟨l9, hl9⟩ : ∃ f, f = mU l6 172 1 ((l6 172 1) ||| ((((1#64) <<< (((i 172 7) - (i 172 10)) + 1).toNat) - (1#64)) <<< (i 172 10).toNat)) := ⟨_, rfl⟩
      refine x_putL 43 rfl fl_X3_30 (n_lt rfl) k_172 rfl rfl (g' := st i l9) (by subst hl9; rfl) ?_
      refine x_ret 44 none rfl ⟨rfl, rfl⟩ ⟨rfl, i, l9, rfl, ?_⟩
      refine ⟨rfl, ?_⟩
      subst_vars
      simp [cClose, wBits, mUek, *]
set_option maxRecDepth 20000 in
set_option maxHeartbeats 2000000 in
theorem c_beginNumber {i : Nat → Int → Int} {l : Nat → Int → BitVec 64} (hw : 0 ≤ i 172 6 ∧ i 172 6 ≤ 4) {c p : Int} : mCtr m_X3_beginNumber 1 0 0 [vR (some 172), vI (c), vI (p)] (st i l) (qV (fun i' l' => l' = l ∧ i' = mU (mU (mU (mU i 172 6 (if i 172 6 = 2 then 3 else 1)) 172 7 (c - 48)) 172 8 1) 172 9 p)) := by
  refine mCtr_of pl_X3 dc_X3_beginNumber (Nat.le_of_ble_eq_true rfl) rfl ?_
  show mX m_X3_beginNumber 1 _ 0 0 0 [some (vR (some 172)), some (vI (c)), some (vI (p))] [] (st i l)
  refine x_aload_n 0 rfl rfl ?_
  refine x_aload_n 1 rfl rfl ?_
  refine x_getI 2 (z := i 172 6) rfl fl_X3_42 (n_lt rfl) k_172 rfl rfl ?_
  refine x_iconst 3 rfl ?_
  refine x_icmp_ne 4 (tgt := 13) rfl (by decide) (by omega) (fun h1 => ?_) (fun h1 => ?_)
  · refine x_iconst 7 rfl ?_
    obtain ⟨i2, hi2⟩ : ∃ f, f = mU i 172 6 (1) := ⟨_, rfl⟩
    refine x_putI 8 rfl fl_X3_42 (n_lt rfl) k_172 rfl rfl (g' := st i2 l) (by subst hi2; rfl) ?_
    refine x_aload_n 9 rfl rfl ?_
    refine x_iload_n 10 rfl rfl ?_
    refine x_bipush 11 rfl (by decide) ?_
    refine x_isub 12 (r := c - 48) rfl rfl ?_
    obtain ⟨i3, hi3⟩ : ∃ f, f = mU i2 172 7 (c - 48) := ⟨_, rfl⟩
    refine x_putI 13 rfl fl_X3_79 (n_lt rfl) k_172 rfl rfl (g' := st i3 l) (by subst hi3; rfl) ?_
    refine x_aload_n 14 rfl rfl ?_
    refine x_iconst 15 rfl ?_
    obtain ⟨i4, hi4⟩ : ∃ f, f = mU i3 172 8 (1) := ⟨_, rfl⟩
    refine x_putI 16 rfl fl_X3_82 (n_lt rfl) k_172 rfl rfl (g' := st i4 l) (by subst hi4; rfl) ?_
    refine x_aload_n 17 rfl rfl ?_
    refine x_iload_n 18 rfl rfl ?_
    obtain ⟨i5, hi5⟩ : ∃ f, f = mU i4 172 9 (p) := ⟨_, rfl⟩
    refine x_putI 19 rfl fl_X3_85 (n_lt rfl) k_172 rfl rfl (g' := st i5 l) (by subst hi5; rfl) ?_
    refine x_ret 20 none rfl ⟨rfl, rfl⟩ ⟨rfl, i5, l, rfl, ?_⟩
    subst_vars; refine ⟨rfl, ?_⟩; simp [*]
  · refine x_iconst 5 rfl ?_
    refine x_goto 6 (tgt := 14) rfl (by decide) ?_
    obtain ⟨i6, hi6⟩ : ∃ f, f = mU i 172 6 (3) := ⟨_, rfl⟩
    refine x_putI 8 rfl fl_X3_42 (n_lt rfl) k_172 rfl rfl (g' := st i6 l) (by subst hi6; rfl) ?_
    refine x_aload_n 9 rfl rfl ?_
    refine x_iload_n 10 rfl rfl ?_
    refine x_bipush 11 rfl (by decide) ?_
    refine x_isub 12 (r := c - 48) rfl rfl ?_
    obtain ⟨i7, hi7⟩ : ∃ f, f = mU i6 172 7 (c - 48) := ⟨_, rfl⟩
    refine x_putI 13 rfl fl_X3_79 (n_lt rfl) k_172 rfl rfl (g' := st i7 l) (by subst hi7; rfl) ?_
    refine x_aload_n 14 rfl rfl ?_
    refine x_iconst 15 rfl ?_
    obtain ⟨i8, hi8⟩ : ∃ f, f = mU i7 172 8 (1) := ⟨_, rfl⟩
    refine x_putI 16 rfl fl_X3_82 (n_lt rfl) k_172 rfl rfl (g' := st i8 l) (by subst hi8; rfl) ?_
    refine x_aload_n 17 rfl rfl ?_
    refine x_iload_n 18 rfl rfl ?_
    obtain ⟨i9, hi9⟩ : ∃ f, f = mU i8 172 9 (p) := ⟨_, rfl⟩
    refine x_putI 19 rfl fl_X3_85 (n_lt rfl) k_172 rfl rfl (g' := st i9 l) (by subst hi9; rfl) ?_
    refine x_ret 20 none rfl ⟨rfl, rfl⟩ ⟨rfl, i9, l, rfl, ?_⟩
    subst_vars; refine ⟨rfl, ?_⟩; simp [*]
set_option maxRecDepth 20000 in
set_option maxHeartbeats 2000000 in
theorem c_takeDigit {i : Nat → Int → Int} {l : Nat → Int → BitVec 64} {c p : Int} (hd : 1 ≤ i 172 8 ∧ i 172 8 ≤ 2) : mCtr m_X3_takeDigit 2 0 0 [vR (some 172), vI (c), vI (p)] (st i l) (qW (fun z i' l' => (z = 0 ∨ z = 1) ∧ l' = l ∧ ((i 172 8 = 2 ∧ z = 0 ∧ i' = mU (mU i 172 2 1) 172 3 p) ∨ (i 172 8 ≠ 2 ∧ z = 1 ∧ i' = mU (mU i 172 7 (i 172 7 * 10 + c - 48)) 172 8 2)))) := by
  refine mCtr_of pl_X3 dc_X3_takeDigit (Nat.le_of_ble_eq_true rfl) rfl ?_
  show mX m_X3_takeDigit 2 _ 0 0 0 [some (vR (some 172)), some (vI (c)), some (vI (p))] [] (st i l)
  refine x_aload_n 0 rfl rfl ?_
  refine x_getI 1 (z := i 172 8) rfl fl_X3_82 (n_lt rfl) k_172 rfl rfl ?_
  refine x_iconst 2 rfl ?_
  refine x_icmp_ne 3 (tgt := 15) rfl (by decide) (by omega) (fun h1 => ?_) (fun h1 => ?_)
  · refine x_aload_n 9 rfl rfl ?_
    refine x_aload_n 10 rfl rfl ?_
    refine x_getI 11 (z := i 172 7) rfl fl_X3_79 (n_lt rfl) k_172 rfl rfl ?_
    refine x_bipush 12 rfl (by decide) ?_
    refine x_imul 13 (r := (i 172 7) * 10) rfl rfl ?_
    refine x_iload_n 14 rfl rfl ?_
    refine x_iadd 15 (r := ((i 172 7) * 10) + c) rfl rfl ?_
    refine x_bipush 16 rfl (by decide) ?_
    refine x_isub 17 (r := (((i 172 7) * 10) + c) - 48) rfl rfl ?_
    obtain ⟨i2, hi2⟩ : ∃ f, f = mU i 172 7 ((((i 172 7) * 10) + c) - 48) := ⟨_, rfl⟩
    refine x_putI 18 rfl fl_X3_79 (n_lt rfl) k_172 rfl rfl (g' := st i2 l) (by subst hi2; rfl) ?_
    refine x_aload_n 19 rfl rfl ?_
    refine x_iconst 20 rfl ?_
    obtain ⟨i3, hi3⟩ : ∃ f, f = mU i2 172 8 (2) := ⟨_, rfl⟩
    refine x_putI 21 rfl fl_X3_82 (n_lt rfl) k_172 rfl rfl (g' := st i3 l) (by subst hi3; rfl) ?_
    refine x_iconst 22 rfl ?_
    refine x_ret 23 (some (vI (1))) rfl ⟨rfl, Or.inr ⟨rfl, by omega⟩⟩ ⟨_, i3, l, rfl, rfl, ?_⟩
    subst_vars; exact ⟨Or.inr rfl, rfl, Or.inr ⟨by omega, rfl, rfl⟩⟩
  · refine x_aload_n 4 rfl rfl ?_
    refine x_iconst 5 rfl ?_
    refine x_iload_n 6 rfl rfl ?_
    refine x_callV 7 m_X3_fail c_fail rfl ok_X3_fail (n_lt rfl) k_172 rfl rfl ml_X3_76 im_X3_fail se_X3_fail rfl (by decide) rfl (Nat.le_of_ble_eq_true rfl) rfl rfl (fun v g q4 => ?_)
    obtain ⟨z6, i5, li5, rfl, rfl, hi5⟩ := q4
    show mX m_X3_takeDigit 2 _ 0 0 _ _ [vI (z6)] _
    obtain ⟨rfl, hi5⟩ := hi5
    show mX m_X3_takeDigit 2 _ 0 0 _ _ [vI (0)] _
    refine x_ret 8 (some (vI (0))) rfl ⟨rfl, Or.inr ⟨rfl, by omega⟩⟩ ⟨_, i5, li5, rfl, rfl, ?_⟩
    exact ⟨Or.inl rfl, hi5.2, Or.inl ⟨by omega, rfl, hi5.1⟩⟩
set_option maxRecDepth 20000 in
set_option maxHeartbeats 2000000 in
theorem c_takeBehind {i : Nat → Int → Int} {l : Nat → Int → BitVec 64} (hd : okRd (i 172 4) (rdS i l)) (hh : -1 ≤ i 172 4 ∧ i 172 4 ≤ 40) (hsg : 0 ≤ i 172 5 ∧ i 172 5 ≤ 1) (hN : i 172 6 = 1 ∨ i 172 6 = 3) {c p : Int} (hc : 0 ≤ c ∧ c ≤ 127) (hnd : ¬ (48 ≤ c ∧ c ≤ 57)) : mCtr m_X3_takeBehindNumber 2 0 0 [vR (some 172), vI (c), vI (p)] (st i l) (qW (fun z i' l' => tkR i l i' l' (cStep (i 172 5) (i 172 4) c p (rdS i l)) z)) := by
  refine mCtr_of pl_X3 dc_X3_takeBehindNumber (Nat.le_of_ble_eq_true rfl) rfl ?_
  show mX m_X3_takeBehindNumber 2 _ 0 0 0 [some (vR (some 172)), some (vI (c)), some (vI (p))] [] (st i l)
  have hd0 := hd
  unfold okRd at hd
  simp only at hd
  refine x_aload_n 0 rfl rfl ?_
  refine x_callV 1 m_X3_numberStands (c_numberStands (by omega) (by omega) (by omega) (by omega)) rfl ok_X3_numberStands (n_lt rfl) k_172 rfl rfl ml_X3_88 im_X3_numberStands se_X3_numberStands rfl (by decide) rfl (Nat.le_of_ble_eq_true rfl) rfl rfl (fun v g q1 => ?_)
  rcases q1 with ⟨rfl, ⟨h2, rfl⟩ | ⟨h2, rfl⟩⟩
  · show mX m_X3_takeBehindNumber 2 _ 0 0 _ _ [vI (1)] _
    have hst : i 172 7 ≤ 40 ∧ (i 172 6 = 3 → i 172 10 ≤ i 172 7) := by have hz := h2; unfold cStands at hz; simp only at hz; omega
    refine x_if_ne 2 (tgt := 17) rfl (by decide) (by decide) (fun h3 => ?_) (fun h3 => absurd h3 (by decide))
    refine x_iload_n 9 rfl rfl ?_
    refine x_bipush 10 rfl (by decide) ?_
    refine x_icmp_ne 11 (tgt := 35) rfl (by decide) (by omega) (fun h4 => ?_) (fun h4 => ?_)
    · refine x_iload_n 20 rfl rfl ?_
      refine x_bipush 21 rfl (by decide) ?_
      refine x_icmp_ne 22 (tgt := 60) rfl (by decide) (by omega) (fun h5 => ?_) (fun h5 => ?_)
      · refine x_iload_n 34 rfl rfl ?_
        refine x_bipush 35 rfl (by decide) ?_
        refine x_icmp_ne 36 (tgt := 96) rfl (by decide) (by omega) (fun h6 => ?_) (fun h6 => ?_)
        · refine x_aload_n 53 rfl rfl ?_
          refine x_iconst 54 rfl ?_
          refine x_iload_n 55 rfl rfl ?_
          refine x_callV 56 m_X3_fail c_fail rfl ok_X3_fail (n_lt rfl) k_172 rfl rfl ml_X3_76 im_X3_fail se_X3_fail rfl (by decide) rfl (Nat.le_of_ble_eq_true rfl) rfl rfl (fun v g q7 => ?_)
          obtain ⟨z9, i8, li8, rfl, rfl, hi8⟩ := q7
          show mX m_X3_takeBehindNumber 2 _ 0 0 _ _ [vI (z9)] _
          obtain ⟨rfl, hi8⟩ := hi8
          show mX m_X3_takeBehindNumber 2 _ 0 0 _ _ [vI (0)] _
          obtain ⟨hia, hla⟩ := hi8
          refine x_ret 57 (some (vI (0))) rfl ⟨rfl, Or.inr ⟨rfl, by omega⟩⟩ ⟨_, i8, li8, rfl, rfl, ?_⟩
          subst_vars
          refine ⟨by omega, fun a b ha => by simp [mU, ha], fun a b ha => by simp [mU, ha], by simp [mU], by simp [mU], ?_⟩
          simp [cStep, cWhere, cClose, mU, *]
        · refine x_aload_n 37 rfl rfl ?_
          refine x_getI 38 (z := i 172 5) rfl fl_X3_34 (n_lt rfl) k_172 rfl rfl ?_
          refine x_if_eq 39 (tgt := 96) rfl (by decide) (by omega) (fun h10 => ?_) (fun h10 => ?_)
          · refine x_aload_n 53 rfl rfl ?_
            refine x_iconst 54 rfl ?_
            refine x_iload_n 55 rfl rfl ?_
            refine x_callV 56 m_X3_fail c_fail rfl ok_X3_fail (n_lt rfl) k_172 rfl rfl ml_X3_76 im_X3_fail se_X3_fail rfl (by decide) rfl (Nat.le_of_ble_eq_true rfl) rfl rfl (fun v g q11 => ?_)
            obtain ⟨z13, i12, li12, rfl, rfl, hi12⟩ := q11
            show mX m_X3_takeBehindNumber 2 _ 0 0 _ _ [vI (z13)] _
            obtain ⟨rfl, hi12⟩ := hi12
            show mX m_X3_takeBehindNumber 2 _ 0 0 _ _ [vI (0)] _
            obtain ⟨hia, hla⟩ := hi12
            refine x_ret 57 (some (vI (0))) rfl ⟨rfl, Or.inr ⟨rfl, by omega⟩⟩ ⟨_, i12, li12, rfl, rfl, ?_⟩
            subst_vars
            refine ⟨by omega, fun a b ha => by simp [mU, ha], fun a b ha => by simp [mU, ha], by simp [mU], by simp [mU], ?_⟩
            simp [cStep, cWhere, cClose, mU, *]
          · refine x_aload_n 40 rfl rfl ?_
            refine x_getI 41 (z := i 172 6) rfl fl_X3_42 (n_lt rfl) k_172 rfl rfl ?_
            refine x_iconst 42 rfl ?_
            refine x_icmp_ne 43 (tgt := 96) rfl (by decide) (by omega) (fun h14 => ?_) (fun h14 => ?_)
            · refine x_aload_n 53 rfl rfl ?_
              refine x_iconst 54 rfl ?_
              refine x_iload_n 55 rfl rfl ?_
              refine x_callV 56 m_X3_fail c_fail rfl ok_X3_fail (n_lt rfl) k_172 rfl rfl ml_X3_76 im_X3_fail se_X3_fail rfl (by decide) rfl (Nat.le_of_ble_eq_true rfl) rfl rfl (fun v g q15 => ?_)
              obtain ⟨z17, i16, li16, rfl, rfl, hi16⟩ := q15
              show mX m_X3_takeBehindNumber 2 _ 0 0 _ _ [vI (z17)] _
              obtain ⟨rfl, hi16⟩ := hi16
              show mX m_X3_takeBehindNumber 2 _ 0 0 _ _ [vI (0)] _
              obtain ⟨hia, hla⟩ := hi16
              refine x_ret 57 (some (vI (0))) rfl ⟨rfl, Or.inr ⟨rfl, by omega⟩⟩ ⟨_, i16, li16, rfl, rfl, ?_⟩
              subst_vars
              refine ⟨by omega, fun a b ha => by simp [mU, ha], fun a b ha => by simp [mU, ha], by simp [mU], by simp [mU], ?_⟩
              simp [cStep, cWhere, cClose, mU, *]
            · refine x_aload_n 44 rfl rfl ?_
              refine x_aload_n 45 rfl rfl ?_
              refine x_getI 46 (z := i 172 7) rfl fl_X3_79 (n_lt rfl) k_172 rfl rfl ?_
              obtain ⟨i18, hi18⟩ : ∃ f, f = mU i 172 10 (i 172 7) := ⟨_, rfl⟩
              refine x_putI 47 rfl fl_X3_95 (n_lt rfl) k_172 rfl rfl (g' := st i18 l) (by subst hi18; rfl) ?_
              refine x_aload_n 48 rfl rfl ?_
              refine x_iconst 49 rfl ?_
              obtain ⟨i19, hi19⟩ : ∃ f, f = mU i18 172 6 (2) := ⟨_, rfl⟩
              refine x_putI 50 rfl fl_X3_42 (n_lt rfl) k_172 rfl rfl (g' := st i19 l) (by subst hi19; rfl) ?_
              refine x_iconst 51 rfl ?_
              refine x_ret 52 (some (vI (1))) rfl ⟨rfl, Or.inr ⟨rfl, by omega⟩⟩ ⟨_, i19, l, rfl, rfl, ?_⟩
              subst_vars
              refine ⟨by omega, fun a b ha => by simp [mU, ha], fun a b ha => by simp [mU, ha], by simp [mU], by simp [mU], ?_⟩
              simp [cStep, cWhere, cClose, mU, *]
      · refine x_aload_n 23 rfl rfl ?_
        refine x_getI 24 (z := i 172 5) rfl fl_X3_34 (n_lt rfl) k_172 rfl rfl ?_
        refine x_if_eq 25 (tgt := 60) rfl (by decide) (by omega) (fun h20 => ?_) (fun h20 => ?_)
        · refine x_iload_n 34 rfl rfl ?_
          refine x_bipush 35 rfl (by decide) ?_
          refine x_icmp_ne 36 (tgt := 96) rfl (by decide) (by omega) (fun h21 => ?_) (fun h21 => ?_)
          · refine x_aload_n 53 rfl rfl ?_
            refine x_iconst 54 rfl ?_
            refine x_iload_n 55 rfl rfl ?_
            refine x_callV 56 m_X3_fail c_fail rfl ok_X3_fail (n_lt rfl) k_172 rfl rfl ml_X3_76 im_X3_fail se_X3_fail rfl (by decide) rfl (Nat.le_of_ble_eq_true rfl) rfl rfl (fun v g q22 => ?_)
            obtain ⟨z24, i23, li23, rfl, rfl, hi23⟩ := q22
            show mX m_X3_takeBehindNumber 2 _ 0 0 _ _ [vI (z24)] _
            obtain ⟨rfl, hi23⟩ := hi23
            show mX m_X3_takeBehindNumber 2 _ 0 0 _ _ [vI (0)] _
            obtain ⟨hia, hla⟩ := hi23
            refine x_ret 57 (some (vI (0))) rfl ⟨rfl, Or.inr ⟨rfl, by omega⟩⟩ ⟨_, i23, li23, rfl, rfl, ?_⟩
            subst_vars
            refine ⟨by omega, fun a b ha => by simp [mU, ha], fun a b ha => by simp [mU, ha], by simp [mU], by simp [mU], ?_⟩
            simp [cStep, cWhere, cClose, mU, *]
          · refine x_aload_n 37 rfl rfl ?_
            refine x_getI 38 (z := i 172 5) rfl fl_X3_34 (n_lt rfl) k_172 rfl rfl ?_
            refine x_if_eq 39 (tgt := 96) rfl (by decide) (by omega) (fun h25 => ?_) (fun h25 => absurd h25 (by omega))
            refine x_aload_n 53 rfl rfl ?_
            refine x_iconst 54 rfl ?_
            refine x_iload_n 55 rfl rfl ?_
            refine x_callV 56 m_X3_fail c_fail rfl ok_X3_fail (n_lt rfl) k_172 rfl rfl ml_X3_76 im_X3_fail se_X3_fail rfl (by decide) rfl (Nat.le_of_ble_eq_true rfl) rfl rfl (fun v g q26 => ?_)
            obtain ⟨z28, i27, li27, rfl, rfl, hi27⟩ := q26
            show mX m_X3_takeBehindNumber 2 _ 0 0 _ _ [vI (z28)] _
            obtain ⟨rfl, hi27⟩ := hi27
            show mX m_X3_takeBehindNumber 2 _ 0 0 _ _ [vI (0)] _
            obtain ⟨hia, hla⟩ := hi27
            refine x_ret 57 (some (vI (0))) rfl ⟨rfl, Or.inr ⟨rfl, by omega⟩⟩ ⟨_, i27, li27, rfl, rfl, ?_⟩
            subst_vars
            refine ⟨by omega, fun a b ha => by simp [mU, ha], fun a b ha => by simp [mU, ha], by simp [mU], by simp [mU], ?_⟩
            simp [cStep, cWhere, cClose, mU, *]
        · refine x_aload_n 26 rfl rfl ?_
          refine x_iconst 27 rfl ?_
          refine x_callV 28 m_X3_closeWord (c_closeWord (by omega) (by omega) (by omega) (by omega)) rfl ok_X3_closeWord (n_lt rfl) k_172 rfl rfl ml_X3_91 im_X3_closeWord se_X3_closeWord rfl (by decide) rfl (Nat.le_of_ble_eq_true rfl) rfl rfl (fun v g q29 => ?_)
          obtain ⟨rfl, i30, li30, rfl, hi30⟩ := q29
          show mX m_X3_takeBehindNumber 2 _ 0 0 _ _ [] _
          obtain ⟨hia, hla⟩ := hi30
          refine x_aload_n 29 rfl rfl ?_
          refine x_iconst 30 rfl ?_
          obtain ⟨i31, hi31⟩ : ∃ f, f = mU i30 172 6 (4) := ⟨_, rfl⟩
          refine x_putI 31 rfl fl_X3_42 (n_lt rfl) k_172 rfl rfl (g' := st i31 li30) (by subst hi31; rfl) ?_
          refine x_iconst 32 rfl ?_
          refine x_ret 33 (some (vI (1))) rfl ⟨rfl, Or.inr ⟨rfl, by omega⟩⟩ ⟨_, i31, li30, rfl, rfl, ?_⟩
          subst_vars
          refine ⟨by omega, fun a b ha => by simp [mU, ha], fun a b ha => by simp [mU, ha], by simp [mU], by simp [mU], ?_⟩
          simp [cStep, cWhere, cClose, mU, *]
    · refine x_aload_n 12 rfl rfl ?_
      refine x_iconst 13 rfl ?_
      refine x_callV 14 m_X3_closeWord (c_closeWord (by omega) (by omega) (by omega) (by omega)) rfl ok_X3_closeWord (n_lt rfl) k_172 rfl rfl ml_X3_91 im_X3_closeWord se_X3_closeWord rfl (by decide) rfl (Nat.le_of_ble_eq_true rfl) rfl rfl (fun v g q32 => ?_)
      obtain ⟨rfl, i33, li33, rfl, hi33⟩ := q32
      show mX m_X3_takeBehindNumber 2 _ 0 0 _ _ [] _
      obtain ⟨hia, hla⟩ := hi33
      refine x_aload_n 15 rfl rfl ?_
      refine x_iconst 16 rfl ?_
      obtain ⟨i34, hi34⟩ : ∃ f, f = mU i33 172 6 (0) := ⟨_, rfl⟩
      refine x_putI 17 rfl fl_X3_42 (n_lt rfl) k_172 rfl rfl (g' := st i34 li33) (by subst hi34; rfl) ?_
      refine x_iconst 18 rfl ?_
      refine x_ret 19 (some (vI (1))) rfl ⟨rfl, Or.inr ⟨rfl, by omega⟩⟩ ⟨_, i34, li33, rfl, rfl, ?_⟩
      subst_vars
      refine ⟨by omega, fun a b ha => by simp [mU, ha], fun a b ha => by simp [mU, ha], by simp [mU], by simp [mU], ?_⟩
      simp [cStep, cWhere, cClose, mU, *]
  · show mX m_X3_takeBehindNumber 2 _ 0 0 _ _ [vI (0)] _
    refine x_if_ne 2 (tgt := 17) rfl (by decide) (by decide) (fun h35 => absurd h35 (by decide)) (fun h35 => ?_)
    refine x_aload_n 3 rfl rfl ?_
    refine x_iconst 4 rfl ?_
    refine x_aload_n 5 rfl rfl ?_
    refine x_getI 6 (z := i 172 9) rfl fl_X3_85 (n_lt rfl) k_172 rfl rfl ?_
    refine x_callV 7 m_X3_fail c_fail rfl ok_X3_fail (n_lt rfl) k_172 rfl rfl ml_X3_76 im_X3_fail se_X3_fail rfl (by decide) rfl (Nat.le_of_ble_eq_true rfl) rfl rfl (fun v g q36 => ?_)
    obtain ⟨z38, i37, li37, rfl, rfl, hi37⟩ := q36
    show mX m_X3_takeBehindNumber 2 _ 0 0 _ _ [vI (z38)] _
    obtain ⟨rfl, hi37⟩ := hi37
    show mX m_X3_takeBehindNumber 2 _ 0 0 _ _ [vI (0)] _
    obtain ⟨hia, hla⟩ := hi37
    refine x_ret 8 (some (vI (0))) rfl ⟨rfl, Or.inr ⟨rfl, by omega⟩⟩ ⟨_, i37, li37, rfl, rfl, ?_⟩
    subst_vars
    refine ⟨by omega, fun a b ha => by simp [mU, ha], fun a b ha => by simp [mU, ha], by simp [mU], by simp [mU], ?_⟩
    simp [cStep, cWhere, cClose, mU, *]
set_option maxRecDepth 20000 in
set_option maxHeartbeats 2000000 in
theorem c_take {i : Nat → Int → Int} {l : Nat → Int → BitVec 64} (hd : okRd (i 172 4) (rdS i l)) (hh : -1 ≤ i 172 4 ∧ i 172 4 ≤ 40) (hsg : 0 ≤ i 172 5 ∧ i 172 5 ≤ 1) {c p : Int} (hc : 0 ≤ c ∧ c ≤ 127) : mCtr m_X3_take 3 0 0 [vR (some 172), vI (c), vI (p)] (st i l) (qW (fun z i' l' => tkR i l i' l' (cStep (i 172 5) (i 172 4) c p (rdS i l)) z)) := by
  refine mCtr_of pl_X3 dc_X3_take (Nat.le_of_ble_eq_true rfl) rfl ?_
  show mX m_X3_take 3 _ 0 0 0 [some (vR (some 172)), some (vI (c)), some (vI (p)), none] [] (st i l)
  have hd0 := hd
  unfold okRd at hd
  simp only at hd
  refine x_iload_n 0 rfl rfl ?_
  refine x_bipush 1 rfl (by decide) ?_
  refine x_icmp_lt 2 (tgt := 16) rfl (by decide) (by omega) (fun h1 => ?_) (fun h1 => ?_)
  · have hdg : ¬ (48 ≤ c ∧ c ≤ 57) := by omega
    have h48 : ¬ 48 ≤ c := by omega
    refine x_iconst 8 rfl ?_
    refine x_istore_n 9 (L' := [some (vR (some 172)), some (vI (c)), some (vI (p)), some (vI (0))]) rfl (by decide) rfl rfl ?_
    refine x_aload_n 10 rfl rfl ?_
    refine x_callV 11 m_X3_inNumber (c_inNumber (by omega)) rfl ok_X3_inNumber (n_lt rfl) k_172 rfl rfl ml_X3_62 im_X3_inNumber se_X3_inNumber rfl (by decide) rfl (Nat.le_of_ble_eq_true rfl) rfl rfl (fun v g q2 => ?_)
    rcases q2 with ⟨rfl, ⟨h3, rfl⟩ | ⟨h3, rfl⟩⟩
    · show mX m_X3_take 3 _ 0 0 _ _ [vI (1)] _
      refine x_if_eq 12 (tgt := 45) rfl (by decide) (by decide) (fun h4 => absurd h4 (by decide)) (fun h4 => ?_)
      refine x_iload_n 13 rfl rfl ?_
      refine x_if_eq 14 (tgt := 38) rfl (by decide) (by decide) (fun h5 => ?_) (fun h5 => absurd h5 (by decide))
      refine x_aload_n 20 rfl rfl ?_
      refine x_iload_n 21 rfl rfl ?_
      refine x_iload_n 22 rfl rfl ?_
      refine x_callV 23 m_X3_takeBehindNumber (c_takeBehind hd0 (by omega) (by omega) (by omega) (by omega) (by omega)) rfl ok_X3_takeBehindNumber (n_lt rfl) k_172 rfl rfl ml_X3_69 im_X3_takeBehindNumber se_X3_takeBehindNumber rfl (by decide) rfl (Nat.le_of_ble_eq_true rfl) rfl rfl (fun v g q6 => ?_)
      obtain ⟨z8, i7, li7, rfl, rfl, hi7⟩ := q6
      show mX m_X3_take 3 _ 0 0 _ _ [vI (z8)] _
      have hres := hi7
      have hz01 := hres.1
      refine x_ret 24 (some (vI (z8))) rfl ⟨rfl, Or.inr ⟨rfl, by omega⟩⟩ ⟨_, i7, li7, rfl, rfl, ?_⟩
      exact hres
    · show mX m_X3_take 3 _ 0 0 _ _ [vI (0)] _
      refine x_if_eq 12 (tgt := 45) rfl (by decide) (by decide) (fun h9 => ?_) (fun h9 => absurd h9 (by decide))
      refine x_iload_n 25 rfl rfl ?_
      refine x_if_eq 26 (tgt := 65) rfl (by decide) (by decide) (fun h10 => ?_) (fun h10 => absurd h10 (by decide))
      refine x_iload_n 37 rfl rfl ?_
      refine x_bipush 38 rfl (by decide) ?_
      refine x_icmp_ne 39 (tgt := 86) rfl (by decide) (by omega) (fun h11 => ?_) (fun h11 => ?_)
      · refine x_aload_n 49 rfl rfl ?_
        refine x_iconst 50 rfl ?_
        refine x_iload_n 51 rfl rfl ?_
        refine x_callV 52 m_X3_fail c_fail rfl ok_X3_fail (n_lt rfl) k_172 rfl rfl ml_X3_76 im_X3_fail se_X3_fail rfl (by decide) rfl (Nat.le_of_ble_eq_true rfl) rfl rfl (fun v g q12 => ?_)
        obtain ⟨z14, i13, li13, rfl, rfl, hi13⟩ := q12
        show mX m_X3_take 3 _ 0 0 _ _ [vI (z14)] _
        obtain ⟨rfl, hi13⟩ := hi13
        show mX m_X3_take 3 _ 0 0 _ _ [vI (0)] _
        obtain ⟨hia, hla⟩ := hi13
        have hres : tkR i l i13 li13 (cStep (i 172 5) (i 172 4) c p (rdS i l)) 0 := by
          first
            | (exfalso; omega; done)
            | (refine ⟨by omega, fun a b ha => by subst_vars; simp [mU, ha], fun a b ha => by subst_vars; simp [mU, ha], by subst_vars; simp [mU], by subst_vars; simp [mU], ?_⟩; subst_vars; simp [cStep, cWhere, cClose, mU, *]; done)
        refine x_ret 53 (some (vI (0))) rfl ⟨rfl, Or.inr ⟨rfl, by omega⟩⟩ ⟨_, i13, li13, rfl, rfl, ?_⟩
        exact hres
      · refine x_aload_n 40 rfl rfl ?_
        refine x_getI 41 (z := i 172 6) rfl fl_X3_42 (n_lt rfl) k_172 rfl rfl ?_
        refine x_iconst 42 rfl ?_
        refine x_icmp_eq 43 (tgt := 86) rfl (by decide) (by omega) (fun h15 => ?_) (fun h15 => ?_)
        · refine x_aload_n 49 rfl rfl ?_
          refine x_iconst 50 rfl ?_
          refine x_iload_n 51 rfl rfl ?_
          refine x_callV 52 m_X3_fail c_fail rfl ok_X3_fail (n_lt rfl) k_172 rfl rfl ml_X3_76 im_X3_fail se_X3_fail rfl (by decide) rfl (Nat.le_of_ble_eq_true rfl) rfl rfl (fun v g q16 => ?_)
          obtain ⟨z18, i17, li17, rfl, rfl, hi17⟩ := q16
          show mX m_X3_take 3 _ 0 0 _ _ [vI (z18)] _
          obtain ⟨rfl, hi17⟩ := hi17
          show mX m_X3_take 3 _ 0 0 _ _ [vI (0)] _
          obtain ⟨hia, hla⟩ := hi17
          have hres : tkR i l i17 li17 (cStep (i 172 5) (i 172 4) c p (rdS i l)) 0 := by
            first
              | (exfalso; omega; done)
              | (refine ⟨by omega, fun a b ha => by subst_vars; simp [mU, ha], fun a b ha => by subst_vars; simp [mU, ha], by subst_vars; simp [mU], by subst_vars; simp [mU], ?_⟩; subst_vars; simp [cStep, cWhere, cClose, mU, *]; done)
          refine x_ret 53 (some (vI (0))) rfl ⟨rfl, Or.inr ⟨rfl, by omega⟩⟩ ⟨_, i17, li17, rfl, rfl, ?_⟩
          exact hres
        · refine x_aload_n 44 rfl rfl ?_
          refine x_iconst 45 rfl ?_
          obtain ⟨i19, hi19⟩ : ∃ f, f = mU i 172 6 (0) := ⟨_, rfl⟩
          refine x_putI 46 rfl fl_X3_42 (n_lt rfl) k_172 rfl rfl (g' := st i19 l) (by subst hi19; rfl) ?_
          refine x_iconst 47 rfl ?_
          refine x_ret 48 (some (vI (1))) rfl ⟨rfl, Or.inr ⟨rfl, by omega⟩⟩ ⟨_, i19, l, rfl, rfl, ?_⟩
          exact by
            first
              | (exfalso; omega; done)
              | (refine ⟨by omega, fun a b ha => by subst_vars; simp [mU, ha], fun a b ha => by subst_vars; simp [mU, ha], by subst_vars; simp [mU], by subst_vars; simp [mU], ?_⟩; subst_vars; simp [cStep, cWhere, cClose, mU, *]; done)
  · refine x_iload_n 3 rfl rfl ?_
    refine x_bipush 4 rfl (by decide) ?_
    refine x_icmp_gt 5 (tgt := 16) rfl (by decide) (by omega) (fun h20 => ?_) (fun h20 => ?_)
    · have hdg : ¬ (48 ≤ c ∧ c ≤ 57) := by omega
      have h57 : ¬ c ≤ 57 := by omega
      refine x_iconst 8 rfl ?_
      refine x_istore_n 9 (L' := [some (vR (some 172)), some (vI (c)), some (vI (p)), some (vI (0))]) rfl (by decide) rfl rfl ?_
      refine x_aload_n 10 rfl rfl ?_
      refine x_callV 11 m_X3_inNumber (c_inNumber (by omega)) rfl ok_X3_inNumber (n_lt rfl) k_172 rfl rfl ml_X3_62 im_X3_inNumber se_X3_inNumber rfl (by decide) rfl (Nat.le_of_ble_eq_true rfl) rfl rfl (fun v g q21 => ?_)
      rcases q21 with ⟨rfl, ⟨h22, rfl⟩ | ⟨h22, rfl⟩⟩
      · show mX m_X3_take 3 _ 0 0 _ _ [vI (1)] _
        refine x_if_eq 12 (tgt := 45) rfl (by decide) (by decide) (fun h23 => absurd h23 (by decide)) (fun h23 => ?_)
        refine x_iload_n 13 rfl rfl ?_
        refine x_if_eq 14 (tgt := 38) rfl (by decide) (by decide) (fun h24 => ?_) (fun h24 => absurd h24 (by decide))
        refine x_aload_n 20 rfl rfl ?_
        refine x_iload_n 21 rfl rfl ?_
        refine x_iload_n 22 rfl rfl ?_
        refine x_callV 23 m_X3_takeBehindNumber (c_takeBehind hd0 (by omega) (by omega) (by omega) (by omega) (by omega)) rfl ok_X3_takeBehindNumber (n_lt rfl) k_172 rfl rfl ml_X3_69 im_X3_takeBehindNumber se_X3_takeBehindNumber rfl (by decide) rfl (Nat.le_of_ble_eq_true rfl) rfl rfl (fun v g q25 => ?_)
        obtain ⟨z27, i26, li26, rfl, rfl, hi26⟩ := q25
        show mX m_X3_take 3 _ 0 0 _ _ [vI (z27)] _
        have hres := hi26
        have hz01 := hres.1
        refine x_ret 24 (some (vI (z27))) rfl ⟨rfl, Or.inr ⟨rfl, by omega⟩⟩ ⟨_, i26, li26, rfl, rfl, ?_⟩
        exact hres
      · show mX m_X3_take 3 _ 0 0 _ _ [vI (0)] _
        refine x_if_eq 12 (tgt := 45) rfl (by decide) (by decide) (fun h28 => ?_) (fun h28 => absurd h28 (by decide))
        refine x_iload_n 25 rfl rfl ?_
        refine x_if_eq 26 (tgt := 65) rfl (by decide) (by decide) (fun h29 => ?_) (fun h29 => absurd h29 (by decide))
        refine x_iload_n 37 rfl rfl ?_
        refine x_bipush 38 rfl (by decide) ?_
        refine x_icmp_ne 39 (tgt := 86) rfl (by decide) (by omega) (fun h30 => ?_) (fun h30 => ?_)
        · refine x_aload_n 49 rfl rfl ?_
          refine x_iconst 50 rfl ?_
          refine x_iload_n 51 rfl rfl ?_
          refine x_callV 52 m_X3_fail c_fail rfl ok_X3_fail (n_lt rfl) k_172 rfl rfl ml_X3_76 im_X3_fail se_X3_fail rfl (by decide) rfl (Nat.le_of_ble_eq_true rfl) rfl rfl (fun v g q31 => ?_)
          obtain ⟨z33, i32, li32, rfl, rfl, hi32⟩ := q31
          show mX m_X3_take 3 _ 0 0 _ _ [vI (z33)] _
          obtain ⟨rfl, hi32⟩ := hi32
          show mX m_X3_take 3 _ 0 0 _ _ [vI (0)] _
          obtain ⟨hia, hla⟩ := hi32
          have hres : tkR i l i32 li32 (cStep (i 172 5) (i 172 4) c p (rdS i l)) 0 := by
            first
              | (exfalso; omega; done)
              | (refine ⟨by omega, fun a b ha => by subst_vars; simp [mU, ha], fun a b ha => by subst_vars; simp [mU, ha], by subst_vars; simp [mU], by subst_vars; simp [mU], ?_⟩; subst_vars; simp [cStep, cWhere, cClose, mU, *]; done)
          refine x_ret 53 (some (vI (0))) rfl ⟨rfl, Or.inr ⟨rfl, by omega⟩⟩ ⟨_, i32, li32, rfl, rfl, ?_⟩
          exact hres
        · refine x_aload_n 40 rfl rfl ?_
          refine x_getI 41 (z := i 172 6) rfl fl_X3_42 (n_lt rfl) k_172 rfl rfl ?_
          refine x_iconst 42 rfl ?_
          refine x_icmp_eq 43 (tgt := 86) rfl (by decide) (by omega) (fun h34 => ?_) (fun h34 => ?_)
          · refine x_aload_n 49 rfl rfl ?_
            refine x_iconst 50 rfl ?_
            refine x_iload_n 51 rfl rfl ?_
            refine x_callV 52 m_X3_fail c_fail rfl ok_X3_fail (n_lt rfl) k_172 rfl rfl ml_X3_76 im_X3_fail se_X3_fail rfl (by decide) rfl (Nat.le_of_ble_eq_true rfl) rfl rfl (fun v g q35 => ?_)
            obtain ⟨z37, i36, li36, rfl, rfl, hi36⟩ := q35
            show mX m_X3_take 3 _ 0 0 _ _ [vI (z37)] _
            obtain ⟨rfl, hi36⟩ := hi36
            show mX m_X3_take 3 _ 0 0 _ _ [vI (0)] _
            obtain ⟨hia, hla⟩ := hi36
            have hres : tkR i l i36 li36 (cStep (i 172 5) (i 172 4) c p (rdS i l)) 0 := by
              first
                | (exfalso; omega; done)
                | (refine ⟨by omega, fun a b ha => by subst_vars; simp [mU, ha], fun a b ha => by subst_vars; simp [mU, ha], by subst_vars; simp [mU], by subst_vars; simp [mU], ?_⟩; subst_vars; simp [cStep, cWhere, cClose, mU, *]; done)
            refine x_ret 53 (some (vI (0))) rfl ⟨rfl, Or.inr ⟨rfl, by omega⟩⟩ ⟨_, i36, li36, rfl, rfl, ?_⟩
            exact hres
          · refine x_aload_n 44 rfl rfl ?_
            refine x_iconst 45 rfl ?_
            obtain ⟨i38, hi38⟩ : ∃ f, f = mU i 172 6 (0) := ⟨_, rfl⟩
            refine x_putI 46 rfl fl_X3_42 (n_lt rfl) k_172 rfl rfl (g' := st i38 l) (by subst hi38; rfl) ?_
            refine x_iconst 47 rfl ?_
            refine x_ret 48 (some (vI (1))) rfl ⟨rfl, Or.inr ⟨rfl, by omega⟩⟩ ⟨_, i38, l, rfl, rfl, ?_⟩
            exact by
              first
                | (exfalso; omega; done)
                | (refine ⟨by omega, fun a b ha => by subst_vars; simp [mU, ha], fun a b ha => by subst_vars; simp [mU, ha], by subst_vars; simp [mU], by subst_vars; simp [mU], ?_⟩; subst_vars; simp [cStep, cWhere, cClose, mU, *]; done)
    · refine x_iconst 6 rfl ?_
      refine x_goto 7 (tgt := 17) rfl (by decide) ?_
      refine x_istore_n 9 (L' := [some (vR (some 172)), some (vI (c)), some (vI (p)), some (vI (1))]) rfl (by decide) rfl rfl ?_
      refine x_aload_n 10 rfl rfl ?_
      refine x_callV 11 m_X3_inNumber (c_inNumber (by omega)) rfl ok_X3_inNumber (n_lt rfl) k_172 rfl rfl ml_X3_62 im_X3_inNumber se_X3_inNumber rfl (by decide) rfl (Nat.le_of_ble_eq_true rfl) rfl rfl (fun v g q39 => ?_)
      rcases q39 with ⟨rfl, ⟨h40, rfl⟩ | ⟨h40, rfl⟩⟩
      · show mX m_X3_take 3 _ 0 0 _ _ [vI (1)] _
        refine x_if_eq 12 (tgt := 45) rfl (by decide) (by decide) (fun h41 => absurd h41 (by decide)) (fun h41 => ?_)
        refine x_iload_n 13 rfl rfl ?_
        refine x_if_eq 14 (tgt := 38) rfl (by decide) (by decide) (fun h42 => absurd h42 (by decide)) (fun h42 => ?_)
        refine x_aload_n 15 rfl rfl ?_
        refine x_iload_n 16 rfl rfl ?_
        refine x_iload_n 17 rfl rfl ?_
        refine x_callV 18 m_X3_takeDigit (c_takeDigit (by omega)) rfl ok_X3_takeDigit (n_lt rfl) k_172 rfl rfl ml_X3_66 im_X3_takeDigit se_X3_takeDigit rfl (by decide) rfl (Nat.le_of_ble_eq_true rfl) rfl rfl (fun v g q43 => ?_)
        obtain ⟨z45, i44, li44, rfl, rfl, hi44⟩ := q43
        show mX m_X3_take 3 _ 0 0 _ _ [vI (z45)] _
        obtain ⟨hz01, hla, hdd⟩ := hi44
        have hres : tkR i l i44 li44 (cStep (i 172 5) (i 172 4) c p (rdS i l)) z45 := by
          rcases hdd with ⟨h8, hz9, hia⟩ | ⟨h8, hz9, hia⟩
          · rw [hz9]; exact by
              first
                | (exfalso; omega; done)
                | (refine ⟨by omega, fun a b ha => by subst_vars; simp [mU, ha], fun a b ha => by subst_vars; simp [mU, ha], by subst_vars; simp [mU], by subst_vars; simp [mU], ?_⟩; subst_vars; simp [cStep, cWhere, cClose, mU, *]; done)
          · rw [hz9]; exact by
              first
                | (exfalso; omega; done)
                | (refine ⟨by omega, fun a b ha => by subst_vars; simp [mU, ha], fun a b ha => by subst_vars; simp [mU, ha], by subst_vars; simp [mU], by subst_vars; simp [mU], ?_⟩; subst_vars; simp [cStep, cWhere, cClose, mU, *]; done)
        refine x_goto 19 (tgt := 44) rfl (by decide) ?_
        refine x_ret 24 (some (vI (z45))) rfl ⟨rfl, Or.inr ⟨rfl, by omega⟩⟩ ⟨_, i44, li44, rfl, rfl, ?_⟩
        exact hres
      · show mX m_X3_take 3 _ 0 0 _ _ [vI (0)] _
        refine x_if_eq 12 (tgt := 45) rfl (by decide) (by decide) (fun h46 => ?_) (fun h46 => absurd h46 (by decide))
        refine x_iload_n 25 rfl rfl ?_
        refine x_if_eq 26 (tgt := 65) rfl (by decide) (by decide) (fun h47 => absurd h47 (by decide)) (fun h47 => ?_)
        refine x_aload_n 27 rfl rfl ?_
        refine x_getI 28 (z := i 172 6) rfl fl_X3_42 (n_lt rfl) k_172 rfl rfl ?_
        refine x_iconst 29 rfl ?_
        refine x_icmp_eq 30 (tgt := 65) rfl (by decide) (by omega) (fun h48 => ?_) (fun h48 => ?_)
        · refine x_iload_n 37 rfl rfl ?_
          refine x_bipush 38 rfl (by decide) ?_
          refine x_icmp_ne 39 (tgt := 86) rfl (by decide) (by omega) (fun h49 => ?_) (fun h49 => ?_)
          · refine x_aload_n 49 rfl rfl ?_
            refine x_iconst 50 rfl ?_
            refine x_iload_n 51 rfl rfl ?_
            refine x_callV 52 m_X3_fail c_fail rfl ok_X3_fail (n_lt rfl) k_172 rfl rfl ml_X3_76 im_X3_fail se_X3_fail rfl (by decide) rfl (Nat.le_of_ble_eq_true rfl) rfl rfl (fun v g q50 => ?_)
            obtain ⟨z52, i51, li51, rfl, rfl, hi51⟩ := q50
            show mX m_X3_take 3 _ 0 0 _ _ [vI (z52)] _
            obtain ⟨rfl, hi51⟩ := hi51
            show mX m_X3_take 3 _ 0 0 _ _ [vI (0)] _
            obtain ⟨hia, hla⟩ := hi51
            have hres : tkR i l i51 li51 (cStep (i 172 5) (i 172 4) c p (rdS i l)) 0 := by
              first
                | (exfalso; omega; done)
                | (refine ⟨by omega, fun a b ha => by subst_vars; simp [mU, ha], fun a b ha => by subst_vars; simp [mU, ha], by subst_vars; simp [mU], by subst_vars; simp [mU], ?_⟩; subst_vars; simp [cStep, cWhere, cClose, mU, *]; done)
            refine x_ret 53 (some (vI (0))) rfl ⟨rfl, Or.inr ⟨rfl, by omega⟩⟩ ⟨_, i51, li51, rfl, rfl, ?_⟩
            exact hres
          · refine x_aload_n 40 rfl rfl ?_
            refine x_getI 41 (z := i 172 6) rfl fl_X3_42 (n_lt rfl) k_172 rfl rfl ?_
            refine x_iconst 42 rfl ?_
            refine x_icmp_eq 43 (tgt := 86) rfl (by decide) (by omega) (fun h53 => ?_) (fun h53 => ?_)
            · refine x_aload_n 49 rfl rfl ?_
              refine x_iconst 50 rfl ?_
              refine x_iload_n 51 rfl rfl ?_
              refine x_callV 52 m_X3_fail c_fail rfl ok_X3_fail (n_lt rfl) k_172 rfl rfl ml_X3_76 im_X3_fail se_X3_fail rfl (by decide) rfl (Nat.le_of_ble_eq_true rfl) rfl rfl (fun v g q54 => ?_)
              obtain ⟨z56, i55, li55, rfl, rfl, hi55⟩ := q54
              show mX m_X3_take 3 _ 0 0 _ _ [vI (z56)] _
              obtain ⟨rfl, hi55⟩ := hi55
              show mX m_X3_take 3 _ 0 0 _ _ [vI (0)] _
              obtain ⟨hia, hla⟩ := hi55
              have hres : tkR i l i55 li55 (cStep (i 172 5) (i 172 4) c p (rdS i l)) 0 := by
                first
                  | (exfalso; omega; done)
                  | (refine ⟨by omega, fun a b ha => by subst_vars; simp [mU, ha], fun a b ha => by subst_vars; simp [mU, ha], by subst_vars; simp [mU], by subst_vars; simp [mU], ?_⟩; subst_vars; simp [cStep, cWhere, cClose, mU, *]; done)
              refine x_ret 53 (some (vI (0))) rfl ⟨rfl, Or.inr ⟨rfl, by omega⟩⟩ ⟨_, i55, li55, rfl, rfl, ?_⟩
              exact hres
            · refine x_aload_n 44 rfl rfl ?_
              refine x_iconst 45 rfl ?_
              obtain ⟨i57, hi57⟩ : ∃ f, f = mU i 172 6 (0) := ⟨_, rfl⟩
              refine x_putI 46 rfl fl_X3_42 (n_lt rfl) k_172 rfl rfl (g' := st i57 l) (by subst hi57; rfl) ?_
              refine x_iconst 47 rfl ?_
              refine x_ret 48 (some (vI (1))) rfl ⟨rfl, Or.inr ⟨rfl, by omega⟩⟩ ⟨_, i57, l, rfl, rfl, ?_⟩
              exact by
                first
                  | (exfalso; omega; done)
                  | (refine ⟨by omega, fun a b ha => by subst_vars; simp [mU, ha], fun a b ha => by subst_vars; simp [mU, ha], by subst_vars; simp [mU], by subst_vars; simp [mU], ?_⟩; subst_vars; simp [cStep, cWhere, cClose, mU, *]; done)
        · refine x_aload_n 31 rfl rfl ?_
          refine x_iload_n 32 rfl rfl ?_
          refine x_iload_n 33 rfl rfl ?_
          refine x_callV 34 m_X3_beginNumber (c_beginNumber (by omega)) rfl ok_X3_beginNumber (n_lt rfl) k_172 rfl rfl ml_X3_72 im_X3_beginNumber se_X3_beginNumber rfl (by decide) rfl (Nat.le_of_ble_eq_true rfl) rfl rfl (fun v g q58 => ?_)
          obtain ⟨rfl, i59, li59, rfl, hi59⟩ := q58
          show mX m_X3_take 3 _ 0 0 _ _ [] _
          obtain ⟨hla, hia⟩ := hi59
          have hres : tkR i l i59 li59 (cStep (i 172 5) (i 172 4) c p (rdS i l)) 1 := by
            first
              | (exfalso; omega; done)
              | (refine ⟨by omega, fun a b ha => by subst_vars; simp [mU, ha], fun a b ha => by subst_vars; simp [mU, ha], by subst_vars; simp [mU], by subst_vars; simp [mU], ?_⟩; subst_vars; simp [cStep, cWhere, cClose, mU, *]; done)
          refine x_iconst 35 rfl ?_
          refine x_ret 36 (some (vI (1))) rfl ⟨rfl, Or.inr ⟨rfl, by omega⟩⟩ ⟨_, i59, li59, rfl, rfl, ?_⟩
          exact hres
set_option maxRecDepth 20000 in
set_option maxHeartbeats 2000000 in
theorem c_end {i : Nat → Int → Int} {l : Nat → Int → BitVec 64} (hd : okRd (i 172 4) (rdS i l)) (hh : -1 ≤ i 172 4 ∧ i 172 4 ≤ 40) (hsg : 0 ≤ i 172 5 ∧ i 172 5 ≤ 1) {n : Int} : mCtr m_X3_end 2 0 0 [vR (some 172), vI (n)] (st i l) (qW (fun z i' l' => tkR i l i' l' (cEnd (i 172 4) n (rdS i l)) z)) := by
  refine mCtr_of pl_X3 dc_X3_end (Nat.le_of_ble_eq_true rfl) rfl ?_
  show mX m_X3_end 2 _ 0 0 0 [some (vR (some 172)), some (vI (n))] [] (st i l)
  have hd0 := hd
  unfold okRd at hd
  simp only at hd
  refine x_aload_n 0 rfl rfl ?_
  refine x_getI 1 (z := i 172 6) rfl fl_X3_42 (n_lt rfl) k_172 rfl rfl ?_
  refine x_iconst 2 rfl ?_
  refine x_icmp_ne 3 (tgt := 15) rfl (by decide) (by omega) (fun h1 => ?_) (fun h1 => ?_)
  · refine x_aload_n 9 rfl rfl ?_
    refine x_callV 10 m_X3_inNumber (c_inNumber (by omega)) rfl ok_X3_inNumber (n_lt rfl) k_172 rfl rfl ml_X3_62 im_X3_inNumber se_X3_inNumber rfl (by decide) rfl (Nat.le_of_ble_eq_true rfl) rfl rfl (fun v g q2 => ?_)
    rcases q2 with ⟨rfl, ⟨h3, rfl⟩ | ⟨h3, rfl⟩⟩
    · show mX m_X3_end 2 _ 0 0 _ _ [vI (1)] _
      refine x_if_ne 11 (tgt := 24) rfl (by decide) (by decide) (fun h4 => ?_) (fun h4 => absurd h4 (by decide))
      refine x_aload_n 14 rfl rfl ?_
      refine x_callV 15 m_X3_numberStands (c_numberStands (by omega) (by omega) (by omega) (by omega)) rfl ok_X3_numberStands (n_lt rfl) k_172 rfl rfl ml_X3_88 im_X3_numberStands se_X3_numberStands rfl (by decide) rfl (Nat.le_of_ble_eq_true rfl) rfl rfl (fun v g q5 => ?_)
      rcases q5 with ⟨rfl, ⟨h6, rfl⟩ | ⟨h6, rfl⟩⟩
      · show mX m_X3_end 2 _ 0 0 _ _ [vI (1)] _
        have hst : i 172 7 ≤ 40 ∧ (i 172 6 = 3 → i 172 10 ≤ i 172 7) := by have hz := h6; unfold cStands at hz; simp only at hz; omega
        refine x_if_ne 16 (tgt := 41) rfl (by decide) (by decide) (fun h7 => ?_) (fun h7 => absurd h7 (by decide))
        refine x_aload_n 23 rfl rfl ?_
        refine x_iconst 24 rfl ?_
        refine x_callV 25 m_X3_closeWord (c_closeWord (by omega) (by omega) (by omega) (by omega)) rfl ok_X3_closeWord (n_lt rfl) k_172 rfl rfl ml_X3_91 im_X3_closeWord se_X3_closeWord rfl (by decide) rfl (Nat.le_of_ble_eq_true rfl) rfl rfl (fun v g q8 => ?_)
        obtain ⟨rfl, i9, li9, rfl, hi9⟩ := q8
        show mX m_X3_end 2 _ 0 0 _ _ [] _
        obtain ⟨hia, hla⟩ := hi9
        refine x_iconst 26 rfl ?_
        refine x_ret 27 (some (vI (1))) rfl ⟨rfl, Or.inr ⟨rfl, by omega⟩⟩ ⟨_, i9, li9, rfl, rfl, ?_⟩
        exact by
          first
            | (exfalso; omega; done)
            | (refine ⟨by omega, fun a b ha => by subst_vars; simp [mU, ha], fun a b ha => by subst_vars; simp [mU, ha], by subst_vars; simp [mU], by subst_vars; simp [mU], ?_⟩; subst_vars; simp [cEnd, cWhere, cClose, mU, *]; done)
      · show mX m_X3_end 2 _ 0 0 _ _ [vI (0)] _
        refine x_if_ne 16 (tgt := 41) rfl (by decide) (by decide) (fun h10 => absurd h10 (by decide)) (fun h10 => ?_)
        refine x_aload_n 17 rfl rfl ?_
        refine x_iconst 18 rfl ?_
        refine x_aload_n 19 rfl rfl ?_
        refine x_getI 20 (z := i 172 9) rfl fl_X3_85 (n_lt rfl) k_172 rfl rfl ?_
        refine x_callV 21 m_X3_fail c_fail rfl ok_X3_fail (n_lt rfl) k_172 rfl rfl ml_X3_76 im_X3_fail se_X3_fail rfl (by decide) rfl (Nat.le_of_ble_eq_true rfl) rfl rfl (fun v g q11 => ?_)
        obtain ⟨z13, i12, li12, rfl, rfl, hi12⟩ := q11
        show mX m_X3_end 2 _ 0 0 _ _ [vI (z13)] _
        obtain ⟨rfl, hi12⟩ := hi12
        show mX m_X3_end 2 _ 0 0 _ _ [vI (0)] _
        obtain ⟨hia, hla⟩ := hi12
        refine x_ret 22 (some (vI (0))) rfl ⟨rfl, Or.inr ⟨rfl, by omega⟩⟩ ⟨_, i12, li12, rfl, rfl, ?_⟩
        exact by
          first
            | (exfalso; omega; done)
            | (refine ⟨by omega, fun a b ha => by subst_vars; simp [mU, ha], fun a b ha => by subst_vars; simp [mU, ha], by subst_vars; simp [mU], by subst_vars; simp [mU], ?_⟩; subst_vars; simp [cEnd, cWhere, cClose, mU, *]; done)
    · show mX m_X3_end 2 _ 0 0 _ _ [vI (0)] _
      refine x_if_ne 11 (tgt := 24) rfl (by decide) (by decide) (fun h14 => absurd h14 (by decide)) (fun h14 => ?_)
      refine x_iconst 12 rfl ?_
      refine x_ret 13 (some (vI (1))) rfl ⟨rfl, Or.inr ⟨rfl, by omega⟩⟩ ⟨_, i, l, rfl, rfl, ?_⟩
      exact by
        first
          | (exfalso; omega; done)
          | (refine ⟨by omega, fun a b ha => by subst_vars; simp [mU, ha], fun a b ha => by subst_vars; simp [mU, ha], by subst_vars; simp [mU], by subst_vars; simp [mU], ?_⟩; subst_vars; simp [cEnd, cWhere, cClose, mU, *]; done)
  · refine x_aload_n 4 rfl rfl ?_
    refine x_iconst 5 rfl ?_
    refine x_iload_n 6 rfl rfl ?_
    refine x_callV 7 m_X3_fail c_fail rfl ok_X3_fail (n_lt rfl) k_172 rfl rfl ml_X3_76 im_X3_fail se_X3_fail rfl (by decide) rfl (Nat.le_of_ble_eq_true rfl) rfl rfl (fun v g q15 => ?_)
    obtain ⟨z17, i16, li16, rfl, rfl, hi16⟩ := q15
    show mX m_X3_end 2 _ 0 0 _ _ [vI (z17)] _
    obtain ⟨rfl, hi16⟩ := hi16
    show mX m_X3_end 2 _ 0 0 _ _ [vI (0)] _
    obtain ⟨hia, hla⟩ := hi16
    refine x_ret 8 (some (vI (0))) rfl ⟨rfl, Or.inr ⟨rfl, by omega⟩⟩ ⟨_, i16, li16, rfl, rfl, ?_⟩
    exact by
      first
        | (exfalso; omega; done)
        | (refine ⟨by omega, fun a b ha => by subst_vars; simp [mU, ha], fun a b ha => by subst_vars; simp [mU, ha], by subst_vars; simp [mU], by subst_vars; simp [mU], ?_⟩; subst_vars; simp [cEnd, cWhere, cClose, mU, *]; done)
end
section
/-! the reader's whole way through a text -/
theorem tkR_ok {i i' : Nat → Int → Int} {l l' : Nat → Int → BitVec 64} {res : cS ⊕ (Int × Int)} {z : Int} (h : tkR i l i' l' res z) (hz : z ≠ 0) : ∃ s, res = .inl s ∧ rdS i' l' = s ∧ i' 172 2 = i 172 2 ∧ i' 172 3 = i 172 3 := by
  obtain ⟨-, -, -, -, -, h6⟩ := h
  cases res with
  | inl s => exact ⟨s, rfl, h6.2⟩
  | inr e => exact absurd h6.1 hz
theorem tkR_bad {i i' : Nat → Int → Int} {l l' : Nat → Int → BitVec 64} {res : cS ⊕ (Int × Int)} {z : Int} (h : tkR i l i' l' res z) (hz : z = 0) : ∃ e, res = .inr e ∧ i' 172 2 = e.1 ∧ i' 172 3 = e.2 := by
  obtain ⟨-, -, -, -, -, h6⟩ := h
  cases res with
  | inl s => exact absurd hz (by have := h6.1; omega)
  | inr e => exact ⟨e, rfl, h6.2⟩
theorem cRun_s {sg hi : Int} {f : Int → Int} {s0 s : cS} {x : Int} (h0 : 0 ≤ x) (h : cRun sg hi f s0 x.toNat = .inl s) : cRun sg hi f s0 (x + 1).toNat = cStep sg hi (f x) x s := by
  rw [show (x + 1).toNat = x.toNat + 1 by omega]
  show (match cRun sg hi f s0 x.toNat with | .inl s => cStep sg hi (f (x.toNat : Nat)) (x.toNat : Nat) s | .inr e => .inr e) = _
  rw [h, Int.toNat_of_nonneg h0]
theorem cRun_e {sg hi : Int} {f : Int → Int} {s0 : cS} {e : Int × Int} {n : Nat} (h : cRun sg hi f s0 n = .inr e) (k : Nat) : cRun sg hi f s0 (n + k) = .inr e := by
  induction k with
  | zero => exact h
  | succ k ih =>
    show (match cRun sg hi f s0 (n + k) with | .inl s => cStep sg hi (f (n + k : Nat)) (n + k : Nat) s | .inr e => .inr e) = _
    rw [ih]
theorem cRead_bad {sg hi : Int} {f : Int → Int} {s0 s : cS} {x n : Int} {e : Int × Int} (h0 : 0 ≤ x) (h : cRun sg hi f s0 x.toNat = .inl s) (he : cStep sg hi (f x) x s = .inr e) (hn : x < n) : cRead sg hi f s0 n = .inr e := by
  have h1 := cRun_s h0 h
  rw [he] at h1
  have h2 := cRun_e h1 (n - (x + 1)).toNat
  unfold cRead
  rw [show n.toNat = (x + 1).toNat + (n - (x + 1)).toNat by omega, h2]
theorem cRead_end {sg hi : Int} {f : Int → Int} {s0 s : cS} {n : Int} (h : cRun sg hi f s0 n.toNat = .inl s) : cRead sg hi f s0 n = cEnd hi n s := by
  unfold cRead
  rw [h]
theorem isC_r {c : Nat} (h : isC c) : c + 15 ≤ 169 := (by decide : ∀ c ∈ cL, c + 15 ≤ 169) c h
set_option maxRecDepth 20000 in
set_option maxHeartbeats 2000000 in
theorem c_read {i : Nat → Int → Int} {l : Nat → Int → BitVec 64} (hh : -1 ≤ i 172 4 ∧ i 172 4 ≤ 40) (hsg : 0 ≤ i 172 5 ∧ i 172 5 ≤ 1) (hn : 0 ≤ i 170 1 ∧ i 170 1 ≤ 60) (hc : ∀ k, 0 ≤ k → k < i 170 1 → 0 ≤ i 171 k ∧ i 171 k ≤ 127) : mCtr m_X3_read 4 0 0 [vR (some 172), vR (some 170)] (st i l) (qW (fun z i' l' => tkR (mU i 172 6 0) l i' l' (cRead (i 172 5) (i 172 4) (fun k => i 171 k) (rdS (mU i 172 6 0) l) (i 170 1)) z)) := by
  refine mCtr_of pl_X3 dc_X3_read (Nat.le_of_ble_eq_true rfl) rfl ?_
  show mX m_X3_read 4 _ 0 0 0 [some (vR (some 172)), some (vR (some 170)), none] [] (st i l)
  refine x_aload_n 0 rfl rfl ?_
  refine x_iconst 1 rfl ?_
  obtain ⟨i1, hi1⟩ : ∃ f, f = mU i 172 6 (0) := ⟨_, rfl⟩
  refine x_putI 2 rfl fl_X3_42 (n_lt rfl) k_172 rfl rfl (g' := st i1 l) (by subst hi1; rfl) ?_
  refine x_iconst 3 rfl ?_
  refine x_istore_n 4 (L' := [some (vR (some 172)), some (vR (some 170)), some (vI (0))]) rfl (by decide) rfl rfl ?_
  have loopL2 : ∀ (n : Nat) (ii : Nat → Int → Int) (ll : Nat → Int → BitVec 64) (x : Int), (0 ≤ x ∧ x ≤ i 170 1) → (∀ a b, a ≠ 172 → ii a b = i a b) → (∀ a b, a ≠ 172 → ll a b = l a b) → (ii 172 4 = i 172 4) → (ii 172 5 = i 172 5) → (ii 172 2 = i 172 2) → (ii 172 3 = i 172 3) → (cRun (i 172 5) (i 172 4) (fun k => i 171 k) (rdS (mU i 172 6 0) l) x.toNat = .inl (rdS ii ll)) → (okRd (i 172 4) (rdS ii ll)) → (i 170 1 - x) < (n : Int) → mX m_X3_read 4 (qW (fun z i' l' => tkR (mU i 172 6 0) l i' l' (cRead (i 172 5) (i 172 4) (fun k => i 171 k) (rdS (mU i 172 6 0) l) (i 170 1)) z)) 0 0 7 [some (vR (some 172)), some (vR (some 170)), some (vI (x))] [] (st ii ll) := by
    intro n
    induction n with
    | zero => intro ii ll x hx hf hg k_4 k_5 k_2 k_3 hr hd hz; exact absurd hz (by omega)
    | succ n ihL2 =>
      intro ii ll x hx hf hg k_4 k_5 k_2 k_3 hr hd hzL2
      have hlen : ii 170 1 = i 170 1 := hf 170 1 (by decide)
      refine x_iload_n 5 rfl rfl ?_
      refine x_aload_n 6 rfl rfl ?_
      refine x_getI 7 (z := ii 170 1) rfl fl_X3_45 (n_lt rfl) k_170 rfl rfl ?_
      refine x_icmp_ge 8 (tgt := 37) rfl (by decide) (by omega) (fun h3 => ?_) (fun h3 => ?_)
      · refine x_aload_n 21 rfl rfl ?_
        have hdw := hd
        rw [← k_4] at hdw
        refine x_aload_n 22 rfl rfl ?_
        refine x_getI 23 (z := ii 170 1) rfl fl_X3_45 (n_lt rfl) k_170 rfl rfl ?_
        refine x_callV 24 m_X3_end (c_end hdw (by omega) (by omega)) rfl ok_X3_end (n_lt rfl) k_172 rfl rfl ml_X3_58 im_X3_end se_X3_end rfl (by decide) rfl (Nat.le_of_ble_eq_true rfl) rfl rfl (fun v g q4 => ?_)
        obtain ⟨z6, i5, li5, rfl, rfl, hi5⟩ := q4
        show mX m_X3_read 4 _ 0 0 _ _ [vI (z6)] _
        have ht := hi5
        rw [k_4, hlen] at ht
        have hz01 := ht.1
        refine x_ret 25 (some (vI (z6))) rfl ⟨rfl, Or.inr ⟨rfl, by omega⟩⟩ ⟨_, i5, li5, rfl, rfl, ?_⟩
        have hxe : x = i 170 1 := by omega
        subst hxe
        rw [cRead_end hr]
        obtain ⟨t1, t2, t3, t4, t5, t6⟩ := ht
        refine ⟨t1, fun a b ha => by rw [t2 a b ha, hf a b ha]; simp [mU, ha], fun a b ha => by rw [t3 a b ha, hg a b ha], by rw [t4, k_4]; simp [mU], by rw [t5, k_5]; simp [mU], ?_⟩
        cases hce : cEnd (i 172 4) (i 170 1) (rdS ii ll) with
        | inl s => rw [hce] at t6; exact ⟨t6.1, t6.2.1, by rw [t6.2.2.1, k_2]; simp [mU], by rw [t6.2.2.2, k_3]; simp [mU]⟩
        | inr e => rw [hce] at t6; exact t6
      · refine x_aload_n 9 rfl rfl ?_
        refine x_aload_n 10 rfl rfl ?_
        refine x_getR 11 (z := 171) rfl fl_X3_50 (n_lt rfl) k_170 rfl r_170_0 ?_
        refine x_iload_n 12 rfl rfl ?_
        refine x_iald 13 (z := ii 171 x) rfl (n_lt rfl) k_171 (by omega) rfl ?_
        refine x_iload_n 14 rfl rfl ?_
        have hcode : ii 171 x = i 171 x := hf 171 x (by decide)
        have hcx := hc x hx.1 (by omega)
        refine x_callV 15 m_X3_take (c_take (by rw [k_4]; exact hd) (by omega) (by omega) (by omega)) rfl ok_X3_take (n_lt rfl) k_172 rfl rfl ml_X3_54 im_X3_take se_X3_take rfl (by decide) rfl (Nat.le_of_ble_eq_true rfl) rfl rfl (fun v g q7 => ?_)
        obtain ⟨z9, i8, li8, rfl, rfl, hi8⟩ := q7
        show mX m_X3_read 4 _ 0 0 _ _ [vI (z9)] _
        have ht := hi8
        rw [k_4, k_5, hcode] at ht
        have hz01 := ht.1
        refine x_if_ne 16 (tgt := 31) rfl (by decide) (by omega) (fun h10 => ?_) (fun h10 => ?_)
        · obtain ⟨s1, hcs, hrd, hk2, hk3⟩ := tkR_ok ht h10
          refine x_iinc 19 (L' := [some (vR (some 172)), some (vR (some 170)), some (vI (x + 1))]) rfl (by decide) rfl rfl rfl rfl ?_
          refine x_goto 20 (tgt := 7) rfl (by decide) ?_
          exact ihL2 i8 li8 (x + 1) (by omega) (fun a b ha => by rw [ht.2.1 a b ha, hf a b ha]) (fun a b ha => by rw [ht.2.2.1 a b ha, hg a b ha]) (by rw [ht.2.2.2.1, k_4]) (by rw [ht.2.2.2.2.1, k_5]) (by rw [hk2, k_2]) (by rw [hk3, k_3]) (by rw [cRun_s hx.1 hr, hcs, hrd]) (by rw [hrd]; exact okRd_step hd hcs) (by omega)
        · obtain ⟨e1, hcs, hk2, hk3⟩ := tkR_bad ht h10
          refine x_iconst 17 rfl ?_
          refine x_ret 18 (some (vI (0))) rfl ⟨rfl, Or.inr ⟨rfl, by omega⟩⟩ ⟨_, i8, li8, rfl, rfl, ?_⟩
          rw [cRead_bad hx.1 hr hcs (by omega)]
          exact ⟨Or.inl rfl, fun a b ha => by rw [ht.2.1 a b ha, hf a b ha]; simp [mU, ha], fun a b ha => by rw [ht.2.2.1 a b ha, hg a b ha], by rw [ht.2.2.2.1, k_4]; simp [mU], by rw [ht.2.2.2.2.1, k_5]; simp [mU], rfl, hk2, hk3⟩
  exact loopL2 ((i 170 1 - ((0))) + 1 : Int).toNat i1 l (0) (by omega) (fun a b ha => by subst_vars; simp [mU, ha]) (fun _ _ _ => rfl) (by subst_vars; simp [mU]) (by subst_vars; simp [mU]) (by subst_vars; simp [mU]) (by subst_vars; simp [mU]) (by subst_vars; rfl) (by subst_vars; simp [okRd, mU]) (by omega)
set_option maxRecDepth 20000 in
set_option maxHeartbeats 2000000 in
theorem c_readTests {i : Nat → Int → Int} {l : Nat → Int → BitVec 64} {q : Nat} (hq : isS q) (hn : 0 ≤ i 170 1 ∧ i 170 1 ≤ 60) (hc : ∀ k, 0 ≤ k → k < i 170 1 → 0 ≤ i 171 k ∧ i 171 k ≤ 127) : mCtr m_X3_readTests 5 0 0 [vR (some 172), vR (some 170), vR (some q)] (st i l) (qW (fun z i' l' => (z = 0 ∨ z = 1) ∧ (∀ a b, a ≠ 172 → i' a b = i a b) ∧ (∀ a b, a ≠ 172 → l' a b = l a b) ∧ match cRead 1 40 (fun k => i 171 k) (0, i 172 7, i 172 8, i 172 9, i 172 10, l q 2, l q 3) (i 170 1) with | .inl s => z = 1 ∧ l' 172 0 = s.2.2.2.2.2.1 ∧ l' 172 1 = s.2.2.2.2.2.2 ∧ i' 172 2 = i 172 2 ∧ i' 172 3 = i 172 3 | .inr e => z = 0 ∧ i' 172 2 = e.1 ∧ i' 172 3 = e.2)) := by
  refine mCtr_of pl_X3 dc_X3_readTests (Nat.le_of_ble_eq_true rfl) rfl ?_
  show mX m_X3_readTests 5 _ 0 0 0 [some (vR (some 172)), some (vR (some 170)), some (vR (some q))] [] (st i l)
  refine x_aload_n 0 rfl rfl ?_
  refine x_aload_n 1 rfl rfl ?_
  refine x_getL 2 (z := l q 2) rfl fl_X3_18 (isS_lt hq) (kS hq) rfl rfl ?_
  obtain ⟨l1, hl1⟩ : ∃ f, f = mU l 172 0 (l q 2) := ⟨_, rfl⟩
  refine x_putL 3 rfl fl_X3_24 (n_lt rfl) k_172 rfl rfl (g' := st i l1) (by subst hl1; rfl) ?_
  refine x_aload_n 4 rfl rfl ?_
  refine x_aload_n 5 rfl rfl ?_
  refine x_getL 6 (z := l1 q 3) rfl fl_X3_27 (isS_lt hq) (kS hq) rfl rfl ?_
  obtain ⟨l2, hl2⟩ : ∃ f, f = mU l1 172 1 (l1 q 3) := ⟨_, rfl⟩
  refine x_putL 7 rfl fl_X3_30 (n_lt rfl) k_172 rfl rfl (g' := st i l2) (by subst hl2; rfl) ?_
  refine x_aload_n 8 rfl rfl ?_
  refine x_bipush 9 rfl (by decide) ?_
  obtain ⟨i3, hi3⟩ : ∃ f, f = mU i 172 4 (40) := ⟨_, rfl⟩
  refine x_putI 10 rfl fl_X3_31 (n_lt rfl) k_172 rfl rfl (g' := st i3 l2) (by subst hi3; rfl) ?_
  refine x_aload_n 11 rfl rfl ?_
  refine x_iconst 12 rfl ?_
  obtain ⟨i4, hi4⟩ : ∃ f, f = mU i3 172 5 (1) := ⟨_, rfl⟩
  refine x_putZ 13 rfl fl_X3_34 (n_lt rfl) k_172 rfl (by omega) rfl (g' := st i4 l2) (by subst hi4; rfl) ?_
  have e170 : i4 170 1 = i 170 1 := by subst_vars; simp [mU]
  have e171 : ∀ k, i4 171 k = i 171 k := fun k => by subst_vars; simp [mU]
  have e1724 : i4 172 4 = 40 := by subst_vars; simp [mU]
  have e1725 : i4 172 5 = 1 := by subst_vars; simp [mU]
  have hq172 : q ≠ 172 := by obtain ⟨c, k, hc1, hk1, rfl⟩ := hq; have := isC_r hc1; omega
  have hcc : ∀ k, 0 ≤ k → k < i4 170 1 → 0 ≤ i4 171 k ∧ i4 171 k ≤ 127 := by intro k h0 h1; rw [e171]; rw [e170] at h1; exact hc k h0 h1
  refine x_aload_n 14 rfl rfl ?_
  refine x_aload_n 15 rfl rfl ?_
  refine x_callV 16 m_X3_read (c_read (by omega) (by omega) (by omega) hcc) rfl ok_X3_read (n_lt rfl) k_172 rfl rfl ml_X3_38 im_X3_read se_X3_read rfl (by decide) rfl (Nat.le_of_ble_eq_true rfl) rfl rfl (fun v g q5 => ?_)
  obtain ⟨z7, i6, li6, rfl, rfl, hi6⟩ := q5
  show mX m_X3_readTests 5 _ 0 0 _ _ [vI (z7)] _
  have ht := hi6
  have hz01 := ht.1
  refine x_ret 17 (some (vI (z7))) rfl ⟨rfl, Or.inr ⟨rfl, by omega⟩⟩ ⟨_, i6, li6, rfl, rfl, ?_⟩
  subst_vars
  obtain ⟨t1, t2, t3, t4, t5, t6⟩ := ht
  simp only [mU] at t6
  refine ⟨t1, fun a b ha => by rw [t2 a b ha]; simp [mU, ha], fun a b ha => by rw [t3 a b ha]; simp [mU, ha], ?_⟩
  split at t6
  · rename_i s hs
    simp [rdS, mU] at hs
    rw [hs]
    simp at t6
    exact ⟨t6.1, by rw [← t6.2.1], by rw [← t6.2.1], t6.2.2.1, t6.2.2.2⟩
  · rename_i e hs
    simp [rdS, mU] at hs
    rw [hs]
    exact t6
set_option maxRecDepth 20000 in
set_option maxHeartbeats 2000000 in
theorem c_readAbsent {i : Nat → Int → Int} {l : Nat → Int → BitVec 64} {n : Int} (h0 : 0 ≤ n ∧ n ≤ 10) (hn : 0 ≤ i 170 1 ∧ i 170 1 ≤ 60) (hc : ∀ k, 0 ≤ k → k < i 170 1 → 0 ≤ i 171 k ∧ i 171 k ≤ 127) : mCtr m_X3_readAbsent 5 0 0 [vR (some 172), vR (some 170), vI (n)] (st i l) (qW (fun z i' l' => (z = 0 ∨ z = 1) ∧ (∀ a b, a ≠ 172 → i' a b = i a b) ∧ (∀ a b, a ≠ 172 → l' a b = l a b) ∧ match cRead 0 (n - 1) (fun k => i 171 k) (0, i 172 7, i 172 8, i 172 9, i 172 10, 0#64, 0#64) (i 170 1) with | .inl s => z = 1 ∧ l' 172 0 = s.2.2.2.2.2.1 ∧ l' 172 1 = s.2.2.2.2.2.2 ∧ i' 172 2 = i 172 2 ∧ i' 172 3 = i 172 3 | .inr e => z = 0 ∧ i' 172 2 = e.1 ∧ i' 172 3 = e.2)) := by
  refine mCtr_of pl_X3 dc_X3_readAbsent (Nat.le_of_ble_eq_true rfl) rfl ?_
  show mX m_X3_readAbsent 5 _ 0 0 0 [some (vR (some 172)), some (vR (some 170)), some (vI (n))] [] (st i l)
  refine x_aload_n 0 rfl rfl ?_
  refine x_lconst 1 (v := 0#64) rfl rfl ?_
  obtain ⟨l1, hl1⟩ : ∃ f, f = mU l 172 0 (0#64) := ⟨_, rfl⟩
  refine x_putL 2 rfl fl_X3_24 (n_lt rfl) k_172 rfl rfl (g' := st i l1) (by subst hl1; rfl) ?_
  refine x_aload_n 3 rfl rfl ?_
  refine x_lconst 4 (v := 0#64) rfl rfl ?_
  obtain ⟨l2, hl2⟩ : ∃ f, f = mU l1 172 1 (0#64) := ⟨_, rfl⟩
  refine x_putL 5 rfl fl_X3_30 (n_lt rfl) k_172 rfl rfl (g' := st i l2) (by subst hl2; rfl) ?_
  refine x_aload_n 6 rfl rfl ?_
  refine x_iload_n 7 rfl rfl ?_
  refine x_iconst 8 rfl ?_
  refine x_isub 9 (r := n - 1) rfl rfl ?_
  obtain ⟨i3, hi3⟩ : ∃ f, f = mU i 172 4 (n - 1) := ⟨_, rfl⟩
  refine x_putI 10 rfl fl_X3_31 (n_lt rfl) k_172 rfl rfl (g' := st i3 l2) (by subst hi3; rfl) ?_
  refine x_aload_n 11 rfl rfl ?_
  refine x_iconst 12 rfl ?_
  obtain ⟨i4, hi4⟩ : ∃ f, f = mU i3 172 5 (0) := ⟨_, rfl⟩
  refine x_putZ 13 rfl fl_X3_34 (n_lt rfl) k_172 rfl (by omega) rfl (g' := st i4 l2) (by subst hi4; rfl) ?_
  have e170 : i4 170 1 = i 170 1 := by subst_vars; simp [mU]
  have e171 : ∀ k, i4 171 k = i 171 k := fun k => by subst_vars; simp [mU]
  have e1724 : i4 172 4 = n - 1 := by subst_vars; simp [mU]
  have e1725 : i4 172 5 = 0 := by subst_vars; simp [mU]
  have hcc : ∀ k, 0 ≤ k → k < i4 170 1 → 0 ≤ i4 171 k ∧ i4 171 k ≤ 127 := by intro k h0 h1; rw [e171]; rw [e170] at h1; exact hc k h0 h1
  refine x_aload_n 14 rfl rfl ?_
  refine x_aload_n 15 rfl rfl ?_
  refine x_callV 16 m_X3_read (c_read (by omega) (by omega) (by omega) hcc) rfl ok_X3_read (n_lt rfl) k_172 rfl rfl ml_X3_38 im_X3_read se_X3_read rfl (by decide) rfl (Nat.le_of_ble_eq_true rfl) rfl rfl (fun v g q5 => ?_)
  obtain ⟨z7, i6, li6, rfl, rfl, hi6⟩ := q5
  show mX m_X3_readAbsent 5 _ 0 0 _ _ [vI (z7)] _
  have ht := hi6
  have hz01 := ht.1
  refine x_ret 17 (some (vI (z7))) rfl ⟨rfl, Or.inr ⟨rfl, by omega⟩⟩ ⟨_, i6, li6, rfl, rfl, ?_⟩
  subst_vars
  obtain ⟨t1, t2, t3, t4, t5, t6⟩ := ht
  simp only [mU] at t6
  refine ⟨t1, fun a b ha => by rw [t2 a b ha]; simp [mU, ha], fun a b ha => by rw [t3 a b ha]; simp [mU, ha], ?_⟩
  split at t6
  · rename_i s hs
    simp [rdS, mU] at hs
    rw [hs]
    simp at t6
    exact ⟨t6.1, by rw [← t6.2.1], by rw [← t6.2.1], t6.2.2.1, t6.2.2.2⟩
  · rename_i e hs
    simp [rdS, mU] at hs
    rw [hs]
    exact t6
end
section
/-! the next rehearsal: stand-ins and solos, over what is known of singers -/
/-- singers, least strength that covers, then by singer: part, present, strength, solos, latest solo, whether a part fits, whether rested -/
abbrev dT : Type := Int × Int × (Int → Int) × (Int → Int) × (Int → Int) × (Int → Int) × (Int → Int) × (Int → Int → Bool) × (Int → Bool)
abbrev dN (D : dT) : Int := D.1
abbrev dC (D : dT) : Int := D.2.1
abbrev dP (D : dT) : Int → Int := D.2.2.1
abbrev dR (D : dT) : Int → Int := D.2.2.2.1
abbrev dG (D : dT) : Int → Int := D.2.2.2.2.1
abbrev dS (D : dT) : Int → Int := D.2.2.2.2.2.1
abbrev dL (D : dT) : Int → Int := D.2.2.2.2.2.2.1
abbrev dF (D : dT) : Int → Int → Bool := D.2.2.2.2.2.2.2.1
abbrev dZ (D : dT) : Int → Bool := D.2.2.2.2.2.2.2.2
abbrev sT : Type := (Int → Int) × (Int → Int)
def fU (f : Int → Int) (k x : Int) : Int → Int := fun j => if j = k then x else f j
abbrev siOk (D : dT) (p k : Int) (S : sT) : Prop := dR D k ≠ 0 ∧ (0 ≤ dP D k ∧ dP D k < 4) ∧ dP D k ≠ p ∧ S.1 k = -9 ∧ dF D k p = true ∧ dC D ≤ S.2 (dP D k) - dG D k
def siDo (D : dT) (p k : Int) (S : sT) : sT := (fU S.1 k p, fU (fU S.2 (dP D k) (S.2 (dP D k) - dG D k)) p (fU S.2 (dP D k) (S.2 (dP D k) - dG D k) p + dG D k))
def siN (D : dT) (p : Int) (S : sT) : Nat → sT
  | 0 => S
  | k + 1 => if (siN D p S k).2 p < dC D then (if siOk D p k (siN D p S k) then siDo D p k (siN D p S k) else siN D p S k) else siN D p S k
def siZ (D : dT) (p : Int) (S : sT) (x : Int) : sT := siN D p S x.toNat
theorem siZ_0 (D : dT) (p : Int) (S : sT) : siZ D p S 0 = S := rfl
theorem siZ_no (D : dT) (p : Int) (S : sT) {x : Int} (h : 0 ≤ x) (h1 : (siZ D p S x).2 p < dC D) (h2 : ¬ siOk D p x (siZ D p S x)) : siZ D p S (x + 1) = siZ D p S x := by
  unfold siZ at *
  rw [show (x + 1).toNat = x.toNat + 1 by omega]
  have e : ((x.toNat : Nat) : Int) = x := Int.toNat_of_nonneg h
  show (if (siN D p S x.toNat).2 p < dC D then (if siOk D p (x.toNat : Nat) (siN D p S x.toNat) then _ else _) else _) = _
  rw [if_pos h1, if_neg (by rw [e]; exact h2)]
theorem siZ_do (D : dT) (p : Int) (S : sT) {x : Int} (h : 0 ≤ x) (h1 : (siZ D p S x).2 p < dC D) (h2 : siOk D p x (siZ D p S x)) : siZ D p S (x + 1) = siDo D p x (siZ D p S x) := by
  unfold siZ at *
  rw [show (x + 1).toNat = x.toNat + 1 by omega]
  have e : ((x.toNat : Nat) : Int) = x := Int.toNat_of_nonneg h
  show (if (siN D p S x.toNat).2 p < dC D then (if siOk D p (x.toNat : Nat) (siN D p S x.toNat) then siDo D p (x.toNat : Nat) _ else _) else _) = _
  rw [if_pos h1, if_pos (by rw [e]; exact h2), e]
theorem siZ_stop (D : dT) (p : Int) (S : sT) {x y : Int} (h : 0 ≤ x) (h1 : dC D ≤ (siZ D p S x).2 p) (hy : x ≤ y) : siZ D p S y = siZ D p S x := by
  unfold siZ at *
  have key : ∀ k : Nat, siN D p S (x.toNat + k) = siN D p S x.toNat := by
    intro k
    induction k with
    | zero => rfl
    | succ k ih =>
      show (if (siN D p S (x.toNat + k)).2 p < dC D then _ else siN D p S (x.toNat + k)) = _
      rw [ih, if_neg (by omega)]
  have := key (y - x).toNat
  rwa [show x.toNat + (y - x).toNat = y.toNat by omega] at this
/-- all four parts -/
def siAll (D : dT) (S : sT) : Nat → sT
  | 0 => S
  | p + 1 => siZ D p (siAll D S p) (dN D)
def siAZ (D : dT) (S : sT) (p : Int) : sT := siAll D S p.toNat
theorem siAZ_s (D : dT) (S : sT) {p : Int} (h : 0 ≤ p) : siAZ D S (p + 1) = siZ D p (siAZ D S p) (dN D) := by
  unfold siAZ
  rw [show (p + 1).toNat = p.toNat + 1 by omega]
  show siZ D (p.toNat : Nat) _ _ = _
  rw [Int.toNat_of_nonneg h]
/-- no strength moves by more than 9 a step -/
theorem siZ_bd (D : dT) (p : Int) (S : sT) {x B : Int} (h : 0 ≤ x) (hg : ∀ k, 0 ≤ k → k < x → 0 ≤ dG D k ∧ dG D k ≤ 9) (hS : ∀ q, -B ≤ S.2 q ∧ S.2 q ≤ B) : ∀ q, -B - 9 * x ≤ (siZ D p S x).2 q ∧ (siZ D p S x).2 q ≤ B + 9 * x := by
  have key : ∀ n : Nat, (n : Int) ≤ x → ∀ q, -B - 9 * n ≤ (siN D p S n).2 q ∧ (siN D p S n).2 q ≤ B + 9 * n := by
    intro n
    induction n with
    | zero => intro _ q; have := hS q; show -B - 9 * 0 ≤ S.2 q ∧ S.2 q ≤ B + 9 * 0; omega
    | succ n ih =>
      intro hn q
      have i1 := ih (by omega)
      have g1 := hg n (by omega) (by omega)
      have i2 := i1 q
      show -B - 9 * ((n + 1 : Nat) : Int) ≤ (if (siN D p S n).2 p < dC D then (if siOk D p n (siN D p S n) then siDo D p n (siN D p S n) else siN D p S n) else siN D p S n).2 q ∧ (if (siN D p S n).2 p < dC D then (if siOk D p n (siN D p S n) then siDo D p n (siN D p S n) else siN D p S n) else siN D p S n).2 q ≤ _
      split
      · split
        · rename_i hok
          have i3 := i1 (dP D n)
          have hne := hok.2.2.1
          have i4 := i1 p
          simp only [siDo, fU]
          split
          · rename_i e; subst e
            rw [if_neg (fun e => hne e.symm)]
            omega
          · split
            · omega
            · omega
        · omega
      · omega
  intro q
  have := key x.toNat (by omega) q
  rw [Int.toNat_of_nonneg h] at this
  exact this
/-- who gets the solo of a part -/
abbrev soOk (D : dT) (f : Int → Int) (p k : Int) : Prop := dP D k = p ∧ dR D k ≠ 0 ∧ f k = -9 ∧ dZ D k = true
abbrev soBf (D : dT) (k b : Int) : Prop := dS D k < dS D b ∨ (dS D k = dS D b ∧ dL D k < dL D b)
def soN (D : dT) (f : Int → Int) (p : Int) : Nat → Int
  | 0 => -9
  | k + 1 => if soOk D f p k ∧ (soN D f p k = -9 ∨ soBf D k (soN D f p k)) then (k : Int) else soN D f p k
def soZ (D : dT) (f : Int → Int) (p x : Int) : Int := soN D f p x.toNat
theorem soZ_0 (D : dT) (f : Int → Int) (p : Int) : soZ D f p 0 = -9 := rfl
theorem soZ_y (D : dT) (f : Int → Int) (p : Int) {x : Int} (h : 0 ≤ x) (h1 : soOk D f p x) (h2 : soZ D f p x = -9 ∨ soBf D x (soZ D f p x)) : soZ D f p (x + 1) = x := by
  unfold soZ at *
  rw [show (x + 1).toNat = x.toNat + 1 by omega]
  have e : ((x.toNat : Nat) : Int) = x := Int.toNat_of_nonneg h
  show (if soOk D f p (x.toNat : Nat) ∧ (soN D f p x.toNat = -9 ∨ soBf D (x.toNat : Nat) (soN D f p x.toNat)) then ((x.toNat : Nat) : Int) else _) = _
  rw [e, if_pos ⟨h1, h2⟩]
theorem soZ_n (D : dT) (f : Int → Int) (p : Int) {x : Int} (h : 0 ≤ x) (h1 : ¬ (soOk D f p x ∧ (soZ D f p x = -9 ∨ soBf D x (soZ D f p x)))) : soZ D f p (x + 1) = soZ D f p x := by
  unfold soZ at *
  rw [show (x + 1).toNat = x.toNat + 1 by omega]
  have e : ((x.toNat : Nat) : Int) = x := Int.toNat_of_nonneg h
  show (if soOk D f p (x.toNat : Nat) ∧ (soN D f p x.toNat = -9 ∨ soBf D (x.toNat : Nat) (soN D f p x.toNat)) then ((x.toNat : Nat) : Int) else _) = _
  rw [e, if_neg h1]
theorem soZ_bd (D : dT) (f : Int → Int) (p : Int) {x : Int} (h : 0 ≤ x) : soZ D f p x = -9 ∨ (0 ≤ soZ D f p x ∧ soZ D f p x < x) := by
  have key : ∀ n : Nat, soN D f p n = -9 ∨ (0 ≤ soN D f p n ∧ soN D f p n < n) := by
    intro n
    induction n with
    | zero => left; rfl
    | succ n ih =>
      show (if soOk D f p n ∧ _ then (n : Int) else soN D f p n) = -9 ∨ (0 ≤ (if soOk D f p n ∧ _ then (n : Int) else soN D f p n) ∧ (if soOk D f p n ∧ _ then (n : Int) else soN D f p n) < ((n + 1 : Nat) : Int))
      split <;> omega
  have := key x.toNat
  rwa [Int.toNat_of_nonneg h] at this
/-- what a choir of the class knows of its singers -/
abbrev cQ (c : Nat) (k : Int) : Nat := c + 2 + min k.toNat 9
def cD (i : Nat → Int → Int) (c : Nat) : dT := (i c 4, i (c + 12) 1, fun k => i (cQ c k) 6, fun k => i (cQ c k) 7, fun k => i (cQ c k) 0, fun k => i (cQ c k) 8, fun k => i (cQ c k) 9, fun k p => decide (i (c + 12) 0 ≤ fIn i (cQ c k) p), fun k => decide (i (cQ c k) 9 = -9 ∨ i (c + 12) 2 < i c 5 - i (cQ c k) 9))
theorem cQ_at {c : Nat} {k : Int} (h : 0 ≤ k ∧ k < 10) : cQ c k = c + 2 + k.toNat := by unfold cQ; omega
theorem cD_congr {i i' : Nat → Int → Int} {c : Nat} (he : ∀ a b, c ≤ a → a < c + 15 → i' a b = i a b) : cD i' c = cD i c := by
  have e0 : ∀ b, i' c b = i c b := fun b => he c b (by omega) (by omega)
  have e12 : ∀ b, i' (c + 12) b = i (c + 12) b := fun b => he _ b (by omega) (by omega)
  have eq : ∀ k b, i' (cQ c k) b = i (cQ c k) b := fun k b => he _ b (by unfold cQ; omega) (by unfold cQ; omega)
  unfold cD fIn
  simp only [e0, e12, eq]
/-- the rehearsal's own rows -/
def SR (i : Nat → Int → Int) : sT := (fun k => if 0 ≤ k ∧ k < 10 then i 174 k else -9, fun q => if 0 ≤ q ∧ q < 4 then i 175 q else 0)
theorem siOk_cD {i : Nat → Int → Int} {c : Nat} {p x : Int} (hx : 0 ≤ x ∧ x < 10) : siOk (cD i c) p x (SR i) ↔ (i (c + 2 + x.toNat) 7 ≠ 0 ∧ (0 ≤ i (c + 2 + x.toNat) 6 ∧ i (c + 2 + x.toNat) 6 < 4) ∧ i (c + 2 + x.toNat) 6 ≠ p ∧ i 174 x = -9 ∧ i (c + 12) 0 ≤ fIn i (c + 2 + x.toNat) p ∧ i (c + 12) 1 ≤ i 175 (i (c + 2 + x.toNat) 6) - i (c + 2 + x.toNat) 0) := by
  unfold cD SR
  simp only [siOk, dN, dC, dP, dR, dG, dS, dL, dF, dZ, cQ_at hx, decide_eq_true_eq, if_pos hx]
  constructor
  · rintro ⟨h1, h2, h3, h4, h5, h6⟩
    rw [if_pos h2] at h6
    exact ⟨h1, h2, h3, h4, h5, h6⟩
  · rintro ⟨h1, h2, h3, h4, h5, h6⟩
    rw [if_pos h2]
    exact ⟨h1, h2, h3, h4, h5, h6⟩
theorem siDo_cD {i i' : Nat → Int → Int} {c : Nat} {p x : Int} (hx : 0 ≤ x ∧ x < 10) (hp : 0 ≤ p ∧ p < 4) (hP : 0 ≤ i (c + 2 + x.toNat) 6 ∧ i (c + 2 + x.toNat) 6 < 4)
    (hi : i' = mU (mU (mU i 175 (i (c + 2 + x.toNat) 6) (i 175 (i (c + 2 + x.toNat) 6) - i (c + 2 + x.toNat) 0)) 175 p (mU i 175 (i (c + 2 + x.toNat) 6) (i 175 (i (c + 2 + x.toNat) 6) - i (c + 2 + x.toNat) 0) 175 p + i (c + 2 + x.toNat) 0)) 174 x p) : SR i' = siDo (cD i c) p x (SR i) := by
  subst hi
  unfold SR siDo cD
  simp only [dN, dC, dP, dR, dG, dS, dL, dF, dZ, cQ_at hx]
  refine Prod.ext ?_ ?_
  · funext k
    simp only [fU, mU]
    grind
  · funext q
    simp only [fU, mU]
    grind
theorem siZ_sb (D : dT) (p : Int) (S : sT) {x : Int} (hp : 0 ≤ p ∧ p < 4) (hS : ∀ k, -9 ≤ S.1 k ∧ S.1 k ≤ 3) : ∀ k, -9 ≤ (siZ D p S x).1 k ∧ (siZ D p S x).1 k ≤ 3 := by
  unfold siZ
  induction x.toNat with
  | zero => exact hS
  | succ n ih =>
    intro k
    have := ih k
    show -9 ≤ (if (siN D p S n).2 p < dC D then (if siOk D p n (siN D p S n) then siDo D p n (siN D p S n) else siN D p S n) else siN D p S n).1 k ∧ (if (siN D p S n).2 p < dC D then (if siOk D p n (siN D p S n) then siDo D p n (siN D p S n) else siN D p S n) else siN D p S n).1 k ≤ 3
    split
    · split
      · simp only [siDo, fU]
        split <;> omega
      · omega
    · omega
theorem soOk_cD {i : Nat → Int → Int} {c : Nat} {p x : Int} (hx : 0 ≤ x ∧ x < 10) : soOk (cD i c) (SR i).1 p x ↔ (i (c + 2 + x.toNat) 6 = p ∧ i (c + 2 + x.toNat) 7 ≠ 0 ∧ i 174 x = -9 ∧ fRest i c (c + 2 + x.toNat)) := by
  unfold cD SR fRest
  simp only [soOk, dN, dC, dP, dR, dG, dS, dL, dF, dZ, cQ_at hx, decide_eq_true_eq, if_pos hx]
theorem soBf_cD {i : Nat → Int → Int} {c : Nat} {x y : Int} (hx : 0 ≤ x ∧ x < 10) (hy : 0 ≤ y ∧ y < 10) : soBf (cD i c) x y ↔ (i (c + 2 + x.toNat) 8 < i (c + 2 + y.toNat) 8 ∨ (i (c + 2 + x.toNat) 8 = i (c + 2 + y.toNat) 8 ∧ i (c + 2 + x.toNat) 9 < i (c + 2 + y.toNat) 9)) := by
  unfold cD
  simp only [soBf, dN, dC, dP, dR, dG, dS, dL, dF, dZ, cQ_at hx, cQ_at hy]
theorem fPres_congr {i i' : Nat → Int → Int} {c : Nat} {p : Int} (hn : 0 ≤ i c 4 ∧ i c 4 ≤ 10) (he : ∀ a b, c ≤ a → a < c + 15 → i' a b = i a b) : fPres i' c p = fPres i c p := by
  unfold fPres
  rw [he c 4 (by omega) (by omega)]
  refine sumZ_congr (fun k h0 h1 => ?_)
  simp only [he (c + 2 + k.toNat) _ (by omega) (by omega)]
/-- how the rehearsal's rows stand before anybody stands in -/
noncomputable def S0 (i : Nat → Int → Int) (c : Nat) : sT := (fun _ => -9, fun q => if 0 ≤ q ∧ q < 4 then fPres i c q else 0)
theorem SR_congr {i i' : Nat → Int → Int} (h1 : ∀ b, i' 174 b = i 174 b) (h2 : ∀ b, i' 175 b = i 175 b) : SR i' = SR i := by unfold SR; simp only [h1, h2]
theorem siAZ_sb (D : dT) (S : sT) {p : Int} (hp : 0 ≤ p ∧ p ≤ 4) (hS : ∀ k, -9 ≤ S.1 k ∧ S.1 k ≤ 3) : ∀ k, -9 ≤ (siAZ D S p).1 k ∧ (siAZ D S p).1 k ≤ 3 := by
  have key : ∀ n : Nat, n ≤ 4 → ∀ k, -9 ≤ (siAll D S n).1 k ∧ (siAll D S n).1 k ≤ 3 := by
    intro n
    induction n with
    | zero => intro _; exact hS
    | succ n ih => intro hn; exact siZ_sb D n _ (by omega) (ih (by omega))
  exact key _ (by omega)
theorem siAZ_bd (D : dT) (S : sT) {p : Int} (hp : 0 ≤ p ∧ p ≤ 4) (hn : 0 ≤ dN D ∧ dN D ≤ 10) (hg : ∀ k, 0 ≤ k → k < dN D → 0 ≤ dG D k ∧ dG D k ≤ 9) (hS : ∀ q, -100 ≤ S.2 q ∧ S.2 q ≤ 100) : ∀ q, -1500 ≤ (siAZ D S p).2 q ∧ (siAZ D S p).2 q ≤ 1500 := by
  have key : ∀ n : Nat, n ≤ 4 → ∀ q, -(100 + 90 * (n : Int)) ≤ (siAll D S n).2 q ∧ (siAll D S n).2 q ≤ 100 + 90 * (n : Int) := by
    intro n
    induction n with
    | zero => intro _ q; have := hS q; show -(100 + 90 * 0) ≤ S.2 q ∧ S.2 q ≤ 100 + 90 * 0; omega
    | succ n ih =>
      intro hn4 q
      have := siZ_bd D n (siAll D S n) (x := dN D) (B := 100 + 90 * (n : Int)) hn.1 hg (ih (by omega)) q
      show -(100 + 90 * ((n + 1 : Nat) : Int)) ≤ (siZ D n (siAll D S n) (dN D)).2 q ∧ (siZ D n (siAll D S n) (dN D)).2 q ≤ _
      omega
  intro q
  have := key p.toNat (by omega) q
  show -1500 ≤ (siAll D S p.toNat).2 q ∧ (siAll D S p.toNat).2 q ≤ 1500
  omega
theorem cD_g {i : Nat → Int → Int} {c : Nat} (hO : okC i c) : ∀ k, 0 ≤ k → k < dN (cD i c) → 0 ≤ dG (cD i c) k ∧ dG (cD i c) k ≤ 9 := by
  intro k h0 h1
  have h1' : k < i c 4 := h1
  have hn := hO.n
  have := hO.s h0 h1'
  show 0 ≤ i (cQ c k) 0 ∧ i (cQ c k) 0 ≤ 9
  rw [cQ_at (by omega)]
  omega
set_option maxRecDepth 20000 in
set_option maxHeartbeats 2000000 in
theorem c_canStandIn {i : Nat → Int → Int} {l : Nat → Int → BitVec 64} {c : Nat} (hc : isC c) (hO : okC i c) (hst : ∀ k, -9 ≤ (SR i).1 k ∧ (SR i).1 k ≤ 3) (hB : ∀ q, -2000 ≤ (SR i).2 q ∧ (SR i).2 q ≤ 2000) {x p : Int} (hx : 0 ≤ x ∧ x < i c 4) (hp : 0 ≤ p ∧ p < 4) : mCtr m_X4_canStandIn 4 0 0 [vR (some 173), vR (some c), vI (x), vI (p)] (st i l) (qB (siOk (cD i c) p x (SR i)) (st i l)) := by
  refine mCtr_of pl_X4 dc_X4_canStandIn (Nat.le_of_ble_eq_true rfl) rfl ?_
  show mX m_X4_canStandIn 4 _ 0 0 0 [some (vR (some 173)), some (vR (some c)), some (vI (x)), some (vI (p)), none] [] (st i l)
  have hN := hO.n
  have hsg := hO.s hx.1 hx.2
  have hs174 := hst x
  have hs174 : -9 ≤ i 174 x ∧ i 174 x ≤ 3 := by have := hst x; unfold SR at this; simp only at this; rw [if_pos (by omega)] at this; exact this
  rw [show (siOk (cD i c) p x (SR i)) = _ from propext (siOk_cD (by omega))]
  have h175 : ∀ q, 0 ≤ q → q < 4 → -2000 ≤ i 175 q ∧ i 175 q ≤ 2000 := fun q h0 h1 => by have := hB q; unfold SR at this; simp only at this; rw [if_pos (by omega)] at this; exact this
  refine x_aload_n 0 rfl rfl ?_
  refine x_getR 1 (z := (c + 1)) rfl fl_X4_47 (isC_0 hc) (kC hc) rfl (rC0 hc) ?_
  refine x_iload_n 2 rfl rfl ?_
  refine x_aald 3 (t := 3) (z := (c + 2 + (x).toNat)) rfl (isC_S hc) (kCS hc) (by omega) ⟨rfl, rfl⟩ (rCs hc (by omega)) ?_
  refine x_astore 4 (L' := [some (vR (some 173)), some (vR (some c)), some (vI (x)), some (vI (p)), some (vR (some (c + 2 + (x).toNat)))]) rfl (by decide) rfl rfl ?_
  refine x_aload 5 rfl rfl ?_
  refine x_getI 6 (z := i (c + 2 + (x).toNat) 7) rfl fl_X4_58 (isS_lt (isS.of hc (show (x).toNat < 10 by omega))) (kS (isS.of hc (show (x).toNat < 10 by omega))) rfl rfl ?_
  refine x_if_eq 7 (tgt := 83) rfl (by decide) (by omega) (fun h1 => ?_) (fun h1 => ?_)
  · refine x_iconst 40 rfl ?_
    refine x_ret 41 (some (vI (0))) rfl ⟨rfl, Or.inr ⟨rfl, by omega⟩⟩ ⟨rfl, Or.inr ⟨?_, rfl⟩⟩
    omega
  · refine x_aload 8 rfl rfl ?_
    refine x_getI 9 (z := i (c + 2 + (x).toNat) 6) rfl fl_X4_51 (isS_lt (isS.of hc (show (x).toNat < 10 by omega))) (kS (isS.of hc (show (x).toNat < 10 by omega))) rfl rfl ?_
    refine x_callSN 10 m_X8_isPart (c_isPart (by omega)) rfl ok_X8_isPart (by decide +kernel) st_X8_isPart rfl (by decide) rfl (Nat.le_of_ble_eq_true rfl) rfl rfl (fun v g q2 => ?_)
    rcases q2 with ⟨rfl, ⟨h3, rfl⟩ | ⟨h3, rfl⟩⟩
    · show mX m_X4_canStandIn 4 _ 0 0 _ _ [vI (1)] _
      refine x_if_eq 11 (tgt := 83) rfl (by decide) (by decide) (fun h4 => absurd h4 (by decide)) (fun h4 => ?_)
      refine x_aload 12 rfl rfl ?_
      refine x_getI 13 (z := i (c + 2 + (x).toNat) 6) rfl fl_X4_51 (isS_lt (isS.of hc (show (x).toNat < 10 by omega))) (kS (isS.of hc (show (x).toNat < 10 by omega))) rfl rfl ?_
      refine x_iload_n 14 rfl rfl ?_
      refine x_icmp_eq 15 (tgt := 83) rfl (by decide) (by omega) (fun h5 => ?_) (fun h5 => ?_)
      · refine x_iconst 40 rfl ?_
        refine x_ret 41 (some (vI (0))) rfl ⟨rfl, Or.inr ⟨rfl, by omega⟩⟩ ⟨rfl, Or.inr ⟨?_, rfl⟩⟩
        omega
      · refine x_aload_n 16 rfl rfl ?_
        refine x_getR 17 (z := 174) rfl fl_X4_9 (n_lt rfl) k_173 rfl r_173_0 ?_
        refine x_iload_n 18 rfl rfl ?_
        refine x_iald 19 (z := i 174 x) rfl (n_lt rfl) k_174 (by omega) rfl ?_
        refine x_bipush 20 rfl (by decide) ?_
        refine x_icmp_ne 21 (tgt := 83) rfl (by decide) (by omega) (fun h6 => ?_) (fun h6 => ?_)
        · refine x_iconst 40 rfl ?_
          refine x_ret 41 (some (vI (0))) rfl ⟨rfl, Or.inr ⟨rfl, by omega⟩⟩ ⟨rfl, Or.inr ⟨?_, rfl⟩⟩
          omega
        · refine x_aload_n 22 rfl rfl ?_
          refine x_iload_n 23 rfl rfl ?_
          refine x_iload_n 24 rfl rfl ?_
          refine x_callV 25 m_X0_fits (c_fits hc hO (by omega) (by omega)) rfl ok_X0_fits (isC_0 hc) (kC hc) rfl rfl ml_X4_65 im_X0_fits se_X0_fits rfl (by decide) rfl (Nat.le_of_ble_eq_true rfl) rfl rfl (fun v g q7 => ?_)
          rcases q7 with ⟨rfl, ⟨h8, rfl⟩ | ⟨h8, rfl⟩⟩
          · show mX m_X4_canStandIn 4 _ 0 0 _ _ [vI (1)] _
            refine x_if_eq 26 (tgt := 83) rfl (by decide) (by decide) (fun h9 => absurd h9 (by decide)) (fun h9 => ?_)
            refine x_aload_n 27 rfl rfl ?_
            refine x_aload_n 28 rfl rfl ?_
            refine x_getR 29 (z := 175) rfl fl_X4_15 (n_lt rfl) k_173 rfl r_173_1 ?_
            refine x_aload 30 rfl rfl ?_
            refine x_getI 31 (z := i (c + 2 + (x).toNat) 6) rfl fl_X4_51 (isS_lt (isS.of hc (show (x).toNat < 10 by omega))) (kS (isS.of hc (show (x).toNat < 10 by omega))) rfl rfl ?_
            have h175q := h175 (i (c + 2 + x.toNat) 6) (by omega) (by omega)
            refine x_iald 32 (z := i 175 (i (c + 2 + (x).toNat) 6)) rfl (n_lt rfl) k_175 (by omega) rfl ?_
            refine x_aload 33 rfl rfl ?_
            refine x_getI 34 (z := i (c + 2 + (x).toNat) 0) rfl fl_X4_56 (isS_lt (isS.of hc (show (x).toNat < 10 by omega))) (kS (isS.of hc (show (x).toNat < 10 by omega))) rfl rfl ?_
            refine x_isub 35 (r := (i 175 (i (c + 2 + (x).toNat) 6)) - (i (c + 2 + (x).toNat) 0)) rfl rfl ?_
            refine x_callV 36 m_X0_covers (c_covers hc (by omega) (by omega)) rfl ok_X0_covers (isC_0 hc) (kC hc) rfl rfl ml_X4_39 im_X0_covers se_X0_covers rfl (by decide) rfl (Nat.le_of_ble_eq_true rfl) rfl rfl (fun v g q10 => ?_)
            rcases q10 with ⟨rfl, ⟨h11, rfl⟩ | ⟨h11, rfl⟩⟩
            · show mX m_X4_canStandIn 4 _ 0 0 _ _ [vI (1)] _
              refine x_if_eq 37 (tgt := 83) rfl (by decide) (by decide) (fun h12 => absurd h12 (by decide)) (fun h12 => ?_)
              refine x_iconst 38 rfl ?_
              refine x_goto 39 (tgt := 84) rfl (by decide) ?_
              refine x_ret 41 (some (vI (1))) rfl ⟨rfl, Or.inr ⟨rfl, by omega⟩⟩ ⟨rfl, Or.inl ⟨?_, rfl⟩⟩
              omega
            · show mX m_X4_canStandIn 4 _ 0 0 _ _ [vI (0)] _
              refine x_if_eq 37 (tgt := 83) rfl (by decide) (by decide) (fun h13 => ?_) (fun h13 => absurd h13 (by decide))
              refine x_iconst 40 rfl ?_
              refine x_ret 41 (some (vI (0))) rfl ⟨rfl, Or.inr ⟨rfl, by omega⟩⟩ ⟨rfl, Or.inr ⟨?_, rfl⟩⟩
              omega
          · show mX m_X4_canStandIn 4 _ 0 0 _ _ [vI (0)] _
            refine x_if_eq 26 (tgt := 83) rfl (by decide) (by decide) (fun h14 => ?_) (fun h14 => absurd h14 (by decide))
            refine x_iconst 40 rfl ?_
            refine x_ret 41 (some (vI (0))) rfl ⟨rfl, Or.inr ⟨rfl, by omega⟩⟩ ⟨rfl, Or.inr ⟨?_, rfl⟩⟩
            omega
    · show mX m_X4_canStandIn 4 _ 0 0 _ _ [vI (0)] _
      refine x_if_eq 11 (tgt := 83) rfl (by decide) (by decide) (fun h15 => ?_) (fun h15 => absurd h15 (by decide))
      refine x_iconst 40 rfl ?_
      refine x_ret 41 (some (vI (0))) rfl ⟨rfl, Or.inr ⟨rfl, by omega⟩⟩ ⟨rfl, Or.inr ⟨?_, rfl⟩⟩
      omega
set_option maxRecDepth 20000 in
set_option maxHeartbeats 2000000 in
theorem c_findStandIns {i : Nat → Int → Int} {l : Nat → Int → BitVec 64} {c : Nat} (hc : isC c) (hO : okC i c) (hst : ∀ k, -9 ≤ (SR i).1 k ∧ (SR i).1 k ≤ 3) (hB : ∀ q, -1500 ≤ (SR i).2 q ∧ (SR i).2 q ≤ 1500) {p : Int} (hp : 0 ≤ p ∧ p < 4) : mCtr m_X4_findStandIns 5 0 0 [vR (some 173), vR (some c), vI (p)] (st i l) (qV (fun i' l' => l' = l ∧ (∀ a b, a ≠ 174 → a ≠ 175 → i' a b = i a b) ∧ SR i' = siZ (cD i c) p (SR i) (i c 4))) := by
  refine mCtr_of pl_X4 dc_X4_findStandIns (Nat.le_of_ble_eq_true rfl) rfl ?_
  show mX m_X4_findStandIns 5 _ 0 0 0 [some (vR (some 173)), some (vR (some c)), some (vI (p)), none, none] [] (st i l)
  have hN := hO.n
  have hr := isC_r hc
  refine x_iconst 0 rfl ?_
  refine x_istore_n 1 (L' := [some (vR (some 173)), some (vR (some c)), some (vI (p)), some (vI (0)), none]) rfl (by decide) rfl rfl ?_
  have loopL1 : ∀ (n : Nat) (ii : Nat → Int → Int) (x : Int), (0 ≤ x ∧ x ≤ i c 4) → (∀ a b, a ≠ 174 → a ≠ 175 → ii a b = i a b) → (SR ii = siZ (cD i c) p (SR i) x) → (i c 4 - x) < (n : Int) → mX m_X4_findStandIns 5 (qV (fun i' l' => l' = l ∧ (∀ a b, a ≠ 174 → a ≠ 175 → i' a b = i a b) ∧ SR i' = siZ (cD i c) p (SR i) (i c 4))) 0 0 2 [some (vR (some 173)), some (vR (some c)), some (vI (p)), some (vI (x)), none] [] (st ii l) := by
    intro n
    induction n with
    | zero => intro ii x hx hf hs hz; exact absurd hz (by omega)
    | succ n ihL1 =>
      intro ii x hx hf hs hzL1
      have hbl : ∀ a b, c ≤ a → a < c + 15 → ii a b = i a b := fun a b h1 h2 => hf a b (by omega) (by omega)
      have hcd := cD_congr hbl
      have hOw := hO.congr hbl
      have hNw := hOw.n
      have e4 := hbl c 4 (by omega) (by omega)
      refine x_iload_n 2 rfl rfl ?_
      refine x_aload_n 3 rfl rfl ?_
      refine x_getI 4 (z := ii c 4) rfl fl_X4_35 (isC_0 hc) (kC hc) rfl rfl ?_
      refine x_icmp_ge 5 (tgt := 86) rfl (by decide) (by omega) (fun h2 => ?_) (fun h2 => ?_)
      · refine x_ret 50 none rfl ⟨rfl, rfl⟩ ⟨rfl, ii, l, rfl, ?_⟩
        refine ⟨rfl, hf, ?_⟩
        rw [hs]
        first
          | (rw [show x = i c 4 by omega]; done)
          | (refine (siZ_stop _ _ _ hx.1 ?_ hx.2).symm; rw [← hs]; show i (c + 12) 1 ≤ _; rw [← e175, ← hbl (c + 12) 1 (by omega) (by omega)]; omega)
      · have hstw : ∀ k, -9 ≤ (SR ii).1 k ∧ (SR ii).1 k ≤ 3 := by rw [hs]; exact siZ_sb _ _ _ hp hst
        have hBw : ∀ q, -2000 ≤ (SR ii).2 q ∧ (SR ii).2 q ≤ 2000 := by
          intro q; rw [hs]; have := siZ_bd (cD i c) p (SR i) (x := x) (B := 1500) hx.1 (fun k h0 h1 => by have := hO.s h0 (show k < i c 4 by omega); show 0 ≤ i (cQ c k) 0 ∧ i (cQ c k) 0 ≤ 9; rw [cQ_at (by omega)]; omega) hB q; omega
        have e175 : ii 175 p = (SR ii).2 p := by unfold SR; simp only; rw [if_pos (by omega)]
        have hBp := hBw p
        refine x_aload_n 6 rfl rfl ?_
        refine x_aload_n 7 rfl rfl ?_
        refine x_getR 8 (z := 175) rfl fl_X4_15 (n_lt rfl) k_173 rfl r_173_1 ?_
        refine x_iload_n 9 rfl rfl ?_
        refine x_iald 10 (z := ii 175 p) rfl (n_lt rfl) k_175 (by omega) rfl ?_
        refine x_callV 11 m_X0_covers (c_covers hc (by omega) (by omega)) rfl ok_X0_covers (isC_0 hc) (kC hc) rfl rfl ml_X4_39 im_X0_covers se_X0_covers rfl (by decide) rfl (Nat.le_of_ble_eq_true rfl) rfl rfl (fun v g q3 => ?_)
        rcases q3 with ⟨rfl, ⟨h4, rfl⟩ | ⟨h4, rfl⟩⟩
        · show mX m_X4_findStandIns 5 _ 0 0 _ _ [vI (1)] _
          refine x_if_ne 12 (tgt := 86) rfl (by decide) (by decide) (fun h5 => ?_) (fun h5 => absurd h5 (by decide))
          refine x_ret 50 none rfl ⟨rfl, rfl⟩ ⟨rfl, ii, l, rfl, ?_⟩
          refine ⟨rfl, hf, ?_⟩
          rw [hs]
          first
            | (rw [show x = i c 4 by omega]; done)
            | (refine (siZ_stop _ _ _ hx.1 ?_ hx.2).symm; rw [← hs]; show i (c + 12) 1 ≤ _; rw [← e175, ← hbl (c + 12) 1 (by omega) (by omega)]; omega)
        · show mX m_X4_findStandIns 5 _ 0 0 _ _ [vI (0)] _
          have hnc : (SR ii).2 p < dC (cD i c) := by show _ < i (c + 12) 1; rw [← e175, ← hbl (c + 12) 1 (by omega) (by omega)]; omega
          refine x_if_ne 12 (tgt := 86) rfl (by decide) (by decide) (fun h6 => absurd h6 (by decide)) (fun h6 => ?_)
          refine x_aload_n 13 rfl rfl ?_
          refine x_aload_n 14 rfl rfl ?_
          refine x_iload_n 15 rfl rfl ?_
          refine x_iload_n 16 rfl rfl ?_
          refine x_callV 17 m_X4_canStandIn (c_canStandIn hc hOw hstw hBw (by omega) (by omega)) rfl ok_X4_canStandIn (n_lt rfl) k_173 rfl rfl ml_X4_43 im_X4_canStandIn se_X4_canStandIn rfl (by decide) rfl (Nat.le_of_ble_eq_true rfl) rfl rfl (fun v g q7 => ?_)
          rcases q7 with ⟨rfl, ⟨h8, rfl⟩ | ⟨h8, rfl⟩⟩
          · show mX m_X4_findStandIns 5 _ 0 0 _ _ [vI (1)] _
            have hok : siOk (cD i c) p x (SR ii) := by rw [← hcd]; exact h8
            have hex := (siOk_cD (show 0 ≤ x ∧ x < 10 by omega)).mp h8
            have hq175 : c + 2 + x.toNat ≠ 175 := by omega
            refine x_if_eq 18 (tgt := 80) rfl (by decide) (by decide) (fun h9 => absurd h9 (by decide)) (fun h9 => ?_)
            refine x_aload_n 19 rfl rfl ?_
            refine x_getR 20 (z := (c + 1)) rfl fl_X4_47 (isC_0 hc) (kC hc) rfl (rC0 hc) ?_
            refine x_iload_n 21 rfl rfl ?_
            refine x_aald 22 (t := 3) (z := (c + 2 + (x).toNat)) rfl (isC_S hc) (kCS hc) (by omega) ⟨rfl, rfl⟩ (rCs hc (by omega)) ?_
            refine x_astore 23 (L' := [some (vR (some 173)), some (vR (some c)), some (vI (p)), some (vI (x)), some (vR (some (c + 2 + (x).toNat)))]) rfl (by decide) rfl rfl ?_
            refine x_aload_n 24 rfl rfl ?_
            refine x_getR 25 (z := 175) rfl fl_X4_15 (n_lt rfl) k_173 rfl r_173_1 ?_
            refine x_aload 26 rfl rfl ?_
            refine x_getI 27 (z := ii (c + 2 + (x).toNat) 6) rfl fl_X4_51 (isS_lt (isS.of hc (show (x).toNat < 10 by omega))) (kS (isS.of hc (show (x).toNat < 10 by omega))) rfl rfl ?_
            refine x_dup2 28 rfl rfl rfl ?_
            refine x_iald 29 (z := ii 175 (ii (c + 2 + (x).toNat) 6)) rfl (n_lt rfl) k_175 (by omega) rfl ?_
            refine x_aload 30 rfl rfl ?_
            refine x_getI 31 (z := ii (c + 2 + (x).toNat) 0) rfl fl_X4_56 (isS_lt (isS.of hc (show (x).toNat < 10 by omega))) (kS (isS.of hc (show (x).toNat < 10 by omega))) rfl rfl ?_
            refine x_isub 32 (r := (ii 175 (ii (c + 2 + (x).toNat) 6)) - (ii (c + 2 + (x).toNat) 0)) rfl rfl ?_
            obtain ⟨i10, hi10⟩ : ∃ f, f = mU ii 175 (ii (c + 2 + (x).toNat) 6) ((ii 175 (ii (c + 2 + (x).toNat) 6)) - (ii (c + 2 + (x).toNat) 0)) := ⟨_, rfl⟩
            refine x_iast 33 rfl (n_lt rfl) k_175 (by omega) (g' := st i10 l) (by subst hi10; rfl) ?_
            refine x_aload_n 34 rfl rfl ?_
            refine x_getR 35 (z := 175) rfl fl_X4_15 (n_lt rfl) k_173 rfl r_173_1 ?_
            refine x_iload_n 36 rfl rfl ?_
            refine x_dup2 37 rfl rfl rfl ?_
            refine x_iald 38 (z := i10 175 p) rfl (n_lt rfl) k_175 (by omega) rfl ?_
            refine x_aload 39 rfl rfl ?_
            refine x_getI 40 (z := i10 (c + 2 + (x).toNat) 0) rfl fl_X4_56 (isS_lt (isS.of hc (show (x).toNat < 10 by omega))) (kS (isS.of hc (show (x).toNat < 10 by omega))) rfl rfl ?_
            refine x_iadd 41 (r := (i10 175 p) + (i10 (c + 2 + (x).toNat) 0)) rfl rfl ?_
            obtain ⟨i11, hi11⟩ : ∃ f, f = mU i10 175 (p) ((i10 175 p) + (i10 (c + 2 + (x).toNat) 0)) := ⟨_, rfl⟩
            refine x_iast 42 rfl (n_lt rfl) k_175 (by omega) (g' := st i11 l) (by subst hi11; rfl) ?_
            refine x_aload_n 43 rfl rfl ?_
            refine x_getR 44 (z := 174) rfl fl_X4_9 (n_lt rfl) k_173 rfl r_173_0 ?_
            refine x_iload_n 45 rfl rfl ?_
            refine x_iload_n 46 rfl rfl ?_
            obtain ⟨i12, hi12⟩ : ∃ f, f = mU i11 174 (x) (p) := ⟨_, rfl⟩
            refine x_iast 47 rfl (n_lt rfl) k_174 (by omega) (g' := st i12 l) (by subst hi12; rfl) ?_
            refine x_iinc 48 (L' := [some (vR (some 173)), some (vR (some c)), some (vI (p)), some (vI (x + 1)), some (vR (some (c + 2 + (x).toNat)))]) rfl (by decide) rfl rfl rfl rfl ?_
            refine x_goto 49 (tgt := 2) rfl (by decide) ?_
            refine x_dropL (L' := [some (vR (some 173)), some (vR (some c)), some (vI (p)), some (vI (x + 1)), none]) ⟨rfl, ⟨rfl, ⟨rfl, ⟨rfl, True.intro⟩⟩⟩⟩ ?_
            exact ihL1 i12 (x + 1) (by omega) (by intro a b h1 h2; rw [← hf a b h1 h2]; try (subst_vars; simp [mU, h1, h2])) (by first | exact (by rw [siZ_do _ _ _ hx.1 (by rw [← hs]; exact hnc) (by rw [← hs]; exact hok), ← hs, ← hcd]; exact siDo_cD (i := ii) (by omega) hp hex.2.1 (by subst_vars; rw [mUne _ _ _ _ _ hq175])) | (rw [siZ_no _ _ _ hx.1 (by rw [← hs]; exact hnc) (by rw [← hs]; exact hnok)]; exact hs)) (by omega)
          · show mX m_X4_findStandIns 5 _ 0 0 _ _ [vI (0)] _
            have hnok : ¬ siOk (cD i c) p x (SR ii) := by rw [← hcd]; exact h8
            refine x_if_eq 18 (tgt := 80) rfl (by decide) (by decide) (fun h13 => ?_) (fun h13 => absurd h13 (by decide))
            refine x_iinc 48 (L' := [some (vR (some 173)), some (vR (some c)), some (vI (p)), some (vI (x + 1)), none]) rfl (by decide) rfl rfl rfl rfl ?_
            refine x_goto 49 (tgt := 2) rfl (by decide) ?_
            exact ihL1 ii (x + 1) (by omega) (by intro a b h1 h2; rw [← hf a b h1 h2]; try (subst_vars; simp [mU, h1, h2])) (by first | exact (by rw [siZ_do _ _ _ hx.1 (by rw [← hs]; exact hnc) (by rw [← hs]; exact hok), ← hs, ← hcd]; exact siDo_cD (i := ii) (by omega) hp hex.2.1 (by subst_vars; rw [mUne _ _ _ _ _ hq175])) | (rw [siZ_no _ _ _ hx.1 (by rw [← hs]; exact hnc) (by rw [← hs]; exact hnok)]; exact hs)) (by omega)
  exact loopL1 ((i c 4 - ((0))) + 1 : Int).toNat i (0) (by omega) (fun _ _ _ _ => rfl) (rfl) (by omega)
set_option maxRecDepth 20000 in
set_option maxHeartbeats 2000000 in
theorem c_findSoloist {i : Nat → Int → Int} {l : Nat → Int → BitVec 64} {c : Nat} (hc : isC c) (hO : okC i c) (hst : ∀ k, -9 ≤ (SR i).1 k ∧ (SR i).1 k ≤ 3) {p : Int} (hp : 0 ≤ p ∧ p < 4) : mCtr m_X4_findSoloist 2 0 0 [vR (some 173), vR (some c), vI (p)] (st i l) (qI (soZ (cD i c) (SR i).1 p (i c 4)) (st i l)) := by
  refine mCtr_of pl_X4 dc_X4_findSoloist (Nat.le_of_ble_eq_true rfl) rfl ?_
  show mX m_X4_findSoloist 2 _ 0 0 0 [some (vR (some 173)), some (vR (some c)), some (vI (p)), none, none, none, none] [] (st i l)
  have hN := hO.n
  refine x_bipush 0 rfl (by decide) ?_
  refine x_istore_n 1 (L' := [some (vR (some 173)), some (vR (some c)), some (vI (p)), some (vI ((-9))), none, none, none]) rfl (by decide) rfl rfl ?_
  refine x_iconst 2 rfl ?_
  refine x_istore 3 (L' := [some (vR (some 173)), some (vR (some c)), some (vI (p)), some (vI ((-9))), some (vI (0)), none, none]) rfl (by decide) rfl rfl ?_
  have loopL1 : ∀ (n : Nat) (x : Int) (b : Int), (0 ≤ x ∧ x ≤ i c 4) → (b = soZ (cD i c) (SR i).1 p x) → (i c 4 - x) < (n : Int) → mX m_X4_findSoloist 2 (qI (soZ (cD i c) (SR i).1 p (i c 4)) (st i l)) 0 0 6 [some (vR (some 173)), some (vR (some c)), some (vI (p)), some (vI (b)), some (vI (x)), none, none] [] (st i l) := by
    intro n
    induction n with
    | zero => intro x b hx hb hz; exact absurd hz (by omega)
    | succ n ihL1 =>
      intro x b hx hb hzL1
      refine x_iload 4 rfl rfl ?_
      refine x_aload_n 5 rfl rfl ?_
      refine x_getI 6 (z := i c 4) rfl fl_X4_35 (isC_0 hc) (kC hc) rfl rfl ?_
      refine x_icmp_ge 7 (tgt := 103) rfl (by decide) (by omega) (fun h2 => ?_) (fun h2 => ?_)
      · refine x_iload_n 50 rfl rfl ?_
        refine x_ret 51 (some (vI (b))) rfl ⟨rfl, Or.inl rfl⟩ ⟨congrArg (fun z => some (vI z)) ?_, rfl⟩
        rw [hb, show x = i c 4 by omega]
      · have hsg := hO.s hx.1 (show x < i c 4 by omega)
        have hbd := soZ_bd (cD i c) (SR i).1 p hx.1
        rw [← hb] at hbd
        have hs174 := hst x
        have hs174 : -9 ≤ i 174 x ∧ i 174 x ≤ 3 := by have := hst x; unfold SR at this; simp only at this; rw [if_pos (by omega)] at this; exact this
        refine x_aload_n 8 rfl rfl ?_
        refine x_getR 9 (z := (c + 1)) rfl fl_X4_47 (isC_0 hc) (kC hc) rfl (rC0 hc) ?_
        refine x_iload 10 rfl rfl ?_
        refine x_aald 11 (t := 3) (z := (c + 2 + (x).toNat)) rfl (isC_S hc) (kCS hc) (by omega) ⟨rfl, rfl⟩ (rCs hc (by omega)) ?_
        refine x_astore 12 (L' := [some (vR (some 173)), some (vR (some c)), some (vI (p)), some (vI (b)), some (vI (x)), some (vR (some (c + 2 + (x).toNat))), none]) rfl (by decide) rfl rfl ?_
        refine x_aload 13 rfl rfl ?_
        refine x_getI 14 (z := i (c + 2 + (x).toNat) 6) rfl fl_X4_51 (isS_lt (isS.of hc (show (x).toNat < 10 by omega))) (kS (isS.of hc (show (x).toNat < 10 by omega))) rfl rfl ?_
        refine x_iload_n 15 rfl rfl ?_
        refine x_icmp_ne 16 (tgt := 66) rfl (by decide) (by omega) (fun h3 => ?_) (fun h3 => ?_)
        · refine x_iconst 32 rfl ?_
          refine x_istore 33 (L' := [some (vR (some 173)), some (vR (some c)), some (vI (p)), some (vI (b)), some (vI (x)), some (vR (some (c + 2 + (x).toNat))), some (vI (0))]) rfl (by decide) rfl rfl ?_
          refine x_iload 34 rfl rfl ?_
          refine x_if_eq 35 (tgt := 97) rfl (by decide) (by decide) (fun h4 => ?_) (fun h4 => absurd h4 (by decide))
          refine x_iinc 48 (L' := [some (vR (some 173)), some (vR (some c)), some (vI (p)), some (vI (b)), some (vI (x + 1)), some (vR (some (c + 2 + (x).toNat))), some (vI (0))]) rfl (by decide) rfl rfl rfl rfl ?_
          refine x_goto 49 (tgt := 6) rfl (by decide) ?_
          refine x_dropL (L' := [some (vR (some 173)), some (vR (some c)), some (vI (p)), some (vI (b)), some (vI (x + 1)), none, none]) ⟨rfl, ⟨rfl, ⟨rfl, ⟨rfl, ⟨rfl, True.intro⟩⟩⟩⟩⟩ ?_
          exact ihL1 (x + 1) (b) (by omega) (by first | (rw [soZ_y _ _ _ hx.1 ((soOk_cD (by omega)).mpr ⟨by omega, by omega, by omega, by assumption⟩) (by rw [← hb]; first | (left; omega) | (right; exact (soBf_cD (by omega) (by omega)).mpr (by omega)))]) | (rw [soZ_n _ _ _ hx.1 (by rw [← hb]; intro hh; rw [soOk_cD (by omega)] at hh; first | omega | (exact absurd hh.1.2.2.2 (by assumption)) | (rcases hh.2 with h9 | h9 <;> first | omega | (have := (soBf_cD (by omega) (by omega)).mp h9; omega)))]; exact hb)) (by omega)
        · refine x_aload 17 rfl rfl ?_
          refine x_getI 18 (z := i (c + 2 + (x).toNat) 7) rfl fl_X4_58 (isS_lt (isS.of hc (show (x).toNat < 10 by omega))) (kS (isS.of hc (show (x).toNat < 10 by omega))) rfl rfl ?_
          refine x_if_eq 19 (tgt := 66) rfl (by decide) (by omega) (fun h5 => ?_) (fun h5 => ?_)
          · refine x_iconst 32 rfl ?_
            refine x_istore 33 (L' := [some (vR (some 173)), some (vR (some c)), some (vI (p)), some (vI (b)), some (vI (x)), some (vR (some (c + 2 + (x).toNat))), some (vI (0))]) rfl (by decide) rfl rfl ?_
            refine x_iload 34 rfl rfl ?_
            refine x_if_eq 35 (tgt := 97) rfl (by decide) (by decide) (fun h6 => ?_) (fun h6 => absurd h6 (by decide))
            refine x_iinc 48 (L' := [some (vR (some 173)), some (vR (some c)), some (vI (p)), some (vI (b)), some (vI (x + 1)), some (vR (some (c + 2 + (x).toNat))), some (vI (0))]) rfl (by decide) rfl rfl rfl rfl ?_
            refine x_goto 49 (tgt := 6) rfl (by decide) ?_
            refine x_dropL (L' := [some (vR (some 173)), some (vR (some c)), some (vI (p)), some (vI (b)), some (vI (x + 1)), none, none]) ⟨rfl, ⟨rfl, ⟨rfl, ⟨rfl, ⟨rfl, True.intro⟩⟩⟩⟩⟩ ?_
            exact ihL1 (x + 1) (b) (by omega) (by first | (rw [soZ_y _ _ _ hx.1 ((soOk_cD (by omega)).mpr ⟨by omega, by omega, by omega, by assumption⟩) (by rw [← hb]; first | (left; omega) | (right; exact (soBf_cD (by omega) (by omega)).mpr (by omega)))]) | (rw [soZ_n _ _ _ hx.1 (by rw [← hb]; intro hh; rw [soOk_cD (by omega)] at hh; first | omega | (exact absurd hh.1.2.2.2 (by assumption)) | (rcases hh.2 with h9 | h9 <;> first | omega | (have := (soBf_cD (by omega) (by omega)).mp h9; omega)))]; exact hb)) (by omega)
          · refine x_aload_n 20 rfl rfl ?_
            refine x_getR 21 (z := 174) rfl fl_X4_9 (n_lt rfl) k_173 rfl r_173_0 ?_
            refine x_iload 22 rfl rfl ?_
            refine x_iald 23 (z := i 174 x) rfl (n_lt rfl) k_174 (by omega) rfl ?_
            refine x_bipush 24 rfl (by decide) ?_
            refine x_icmp_ne 25 (tgt := 66) rfl (by decide) (by omega) (fun h7 => ?_) (fun h7 => ?_)
            · refine x_iconst 32 rfl ?_
              refine x_istore 33 (L' := [some (vR (some 173)), some (vR (some c)), some (vI (p)), some (vI (b)), some (vI (x)), some (vR (some (c + 2 + (x).toNat))), some (vI (0))]) rfl (by decide) rfl rfl ?_
              refine x_iload 34 rfl rfl ?_
              refine x_if_eq 35 (tgt := 97) rfl (by decide) (by decide) (fun h8 => ?_) (fun h8 => absurd h8 (by decide))
              refine x_iinc 48 (L' := [some (vR (some 173)), some (vR (some c)), some (vI (p)), some (vI (b)), some (vI (x + 1)), some (vR (some (c + 2 + (x).toNat))), some (vI (0))]) rfl (by decide) rfl rfl rfl rfl ?_
              refine x_goto 49 (tgt := 6) rfl (by decide) ?_
              refine x_dropL (L' := [some (vR (some 173)), some (vR (some c)), some (vI (p)), some (vI (b)), some (vI (x + 1)), none, none]) ⟨rfl, ⟨rfl, ⟨rfl, ⟨rfl, ⟨rfl, True.intro⟩⟩⟩⟩⟩ ?_
              exact ihL1 (x + 1) (b) (by omega) (by first | (rw [soZ_y _ _ _ hx.1 ((soOk_cD (by omega)).mpr ⟨by omega, by omega, by omega, by assumption⟩) (by rw [← hb]; first | (left; omega) | (right; exact (soBf_cD (by omega) (by omega)).mpr (by omega)))]) | (rw [soZ_n _ _ _ hx.1 (by rw [← hb]; intro hh; rw [soOk_cD (by omega)] at hh; first | omega | (exact absurd hh.1.2.2.2 (by assumption)) | (rcases hh.2 with h9 | h9 <;> first | omega | (have := (soBf_cD (by omega) (by omega)).mp h9; omega)))]; exact hb)) (by omega)
            · refine x_aload_n 26 rfl rfl ?_
              refine x_aload 27 rfl rfl ?_
              refine x_callV 28 m_X0_rested (c_rested hc hO (isS.of hc (show (x).toNat < 10 by omega)) (by omega)) rfl ok_X0_rested (isC_0 hc) (kC hc) rfl rfl ml_X4_69 im_X0_rested se_X0_rested rfl (by decide) rfl (Nat.le_of_ble_eq_true rfl) rfl rfl (fun v g q9 => ?_)
              rcases q9 with ⟨rfl, ⟨h10, rfl⟩ | ⟨h10, rfl⟩⟩
              · show mX m_X4_findSoloist 2 _ 0 0 _ _ [vI (1)] _
                refine x_if_eq 29 (tgt := 66) rfl (by decide) (by decide) (fun h11 => absurd h11 (by decide)) (fun h11 => ?_)
                refine x_iconst 30 rfl ?_
                refine x_goto 31 (tgt := 67) rfl (by decide) ?_
                refine x_istore 33 (L' := [some (vR (some 173)), some (vR (some c)), some (vI (p)), some (vI (b)), some (vI (x)), some (vR (some (c + 2 + (x).toNat))), some (vI (1))]) rfl (by decide) rfl rfl ?_
                refine x_iload 34 rfl rfl ?_
                refine x_if_eq 35 (tgt := 97) rfl (by decide) (by decide) (fun h12 => absurd h12 (by decide)) (fun h12 => ?_)
                refine x_iload_n 36 rfl rfl ?_
                refine x_bipush 37 rfl (by decide) ?_
                refine x_icmp_eq 38 (tgt := 94) rfl (by decide) (by omega) (fun h13 => ?_) (fun h13 => ?_)
                · refine x_iload 46 rfl rfl ?_
                  refine x_istore_n 47 (L' := [some (vR (some 173)), some (vR (some c)), some (vI (p)), some (vI (x)), some (vI (x)), some (vR (some (c + 2 + (x).toNat))), some (vI (1))]) rfl (by decide) rfl rfl ?_
                  refine x_iinc 48 (L' := [some (vR (some 173)), some (vR (some c)), some (vI (p)), some (vI (x)), some (vI (x + 1)), some (vR (some (c + 2 + (x).toNat))), some (vI (1))]) rfl (by decide) rfl rfl rfl rfl ?_
                  refine x_goto 49 (tgt := 6) rfl (by decide) ?_
                  refine x_dropL (L' := [some (vR (some 173)), some (vR (some c)), some (vI (p)), some (vI (x)), some (vI (x + 1)), none, none]) ⟨rfl, ⟨rfl, ⟨rfl, ⟨rfl, ⟨rfl, True.intro⟩⟩⟩⟩⟩ ?_
                  exact ihL1 (x + 1) (x) (by omega) (by first | (rw [soZ_y _ _ _ hx.1 ((soOk_cD (by omega)).mpr ⟨by omega, by omega, by omega, by assumption⟩) (by rw [← hb]; first | (left; omega) | (right; exact (soBf_cD (by omega) (by omega)).mpr (by omega)))]) | (rw [soZ_n _ _ _ hx.1 (by rw [← hb]; intro hh; rw [soOk_cD (by omega)] at hh; first | omega | (exact absurd hh.1.2.2.2 (by assumption)) | (rcases hh.2 with h9 | h9 <;> first | omega | (have := (soBf_cD (by omega) (by omega)).mp h9; omega)))]; exact hb)) (by omega)
                · refine x_aload 39 rfl rfl ?_
                  refine x_aload_n 40 rfl rfl ?_
                  have hsb := hO.s (x := b) (by omega) (by omega)
                  refine x_getR 41 (z := (c + 1)) rfl fl_X4_47 (isC_0 hc) (kC hc) rfl (rC0 hc) ?_
                  refine x_iload_n 42 rfl rfl ?_
                  refine x_aald 43 (t := 3) (z := (c + 2 + (b).toNat)) rfl (isC_S hc) (kCS hc) (by omega) ⟨rfl, rfl⟩ (rCs hc (by omega)) ?_
                  refine x_callV 44 m_X5_singsBefore (c_singsBefore (isS.of hc (show (x).toNat < 10 by omega)) (isS.of hc (show (b).toNat < 10 by omega)) (by omega) (by omega)) rfl ok_X5_singsBefore (isS_lt (isS.of hc (show (x).toNat < 10 by omega))) (kS (isS.of hc (show (x).toNat < 10 by omega))) rfl rfl ml_X4_73 im_X5_singsBefore se_X5_singsBefore rfl (by decide) rfl (Nat.le_of_ble_eq_true rfl) rfl rfl (fun v g q14 => ?_)
                  rcases q14 with ⟨rfl, ⟨h15, rfl⟩ | ⟨h15, rfl⟩⟩
                  · show mX m_X4_findSoloist 2 _ 0 0 _ _ [vI (1)] _
                    refine x_if_eq 45 (tgt := 97) rfl (by decide) (by decide) (fun h16 => absurd h16 (by decide)) (fun h16 => ?_)
                    refine x_iload 46 rfl rfl ?_
                    refine x_istore_n 47 (L' := [some (vR (some 173)), some (vR (some c)), some (vI (p)), some (vI (x)), some (vI (x)), some (vR (some (c + 2 + (x).toNat))), some (vI (1))]) rfl (by decide) rfl rfl ?_
                    refine x_iinc 48 (L' := [some (vR (some 173)), some (vR (some c)), some (vI (p)), some (vI (x)), some (vI (x + 1)), some (vR (some (c + 2 + (x).toNat))), some (vI (1))]) rfl (by decide) rfl rfl rfl rfl ?_
                    refine x_goto 49 (tgt := 6) rfl (by decide) ?_
                    refine x_dropL (L' := [some (vR (some 173)), some (vR (some c)), some (vI (p)), some (vI (x)), some (vI (x + 1)), none, none]) ⟨rfl, ⟨rfl, ⟨rfl, ⟨rfl, ⟨rfl, True.intro⟩⟩⟩⟩⟩ ?_
                    exact ihL1 (x + 1) (x) (by omega) (by first | (rw [soZ_y _ _ _ hx.1 ((soOk_cD (by omega)).mpr ⟨by omega, by omega, by omega, by assumption⟩) (by rw [← hb]; first | (left; omega) | (right; exact (soBf_cD (by omega) (by omega)).mpr (by omega)))]) | (rw [soZ_n _ _ _ hx.1 (by rw [← hb]; intro hh; rw [soOk_cD (by omega)] at hh; first | omega | (exact absurd hh.1.2.2.2 (by assumption)) | (rcases hh.2 with h9 | h9 <;> first | omega | (have := (soBf_cD (by omega) (by omega)).mp h9; omega)))]; exact hb)) (by omega)
                  · show mX m_X4_findSoloist 2 _ 0 0 _ _ [vI (0)] _
                    refine x_if_eq 45 (tgt := 97) rfl (by decide) (by decide) (fun h17 => ?_) (fun h17 => absurd h17 (by decide))
                    refine x_iinc 48 (L' := [some (vR (some 173)), some (vR (some c)), some (vI (p)), some (vI (b)), some (vI (x + 1)), some (vR (some (c + 2 + (x).toNat))), some (vI (1))]) rfl (by decide) rfl rfl rfl rfl ?_
                    refine x_goto 49 (tgt := 6) rfl (by decide) ?_
                    refine x_dropL (L' := [some (vR (some 173)), some (vR (some c)), some (vI (p)), some (vI (b)), some (vI (x + 1)), none, none]) ⟨rfl, ⟨rfl, ⟨rfl, ⟨rfl, ⟨rfl, True.intro⟩⟩⟩⟩⟩ ?_
                    exact ihL1 (x + 1) (b) (by omega) (by first | (rw [soZ_y _ _ _ hx.1 ((soOk_cD (by omega)).mpr ⟨by omega, by omega, by omega, by assumption⟩) (by rw [← hb]; first | (left; omega) | (right; exact (soBf_cD (by omega) (by omega)).mpr (by omega)))]) | (rw [soZ_n _ _ _ hx.1 (by rw [← hb]; intro hh; rw [soOk_cD (by omega)] at hh; first | omega | (exact absurd hh.1.2.2.2 (by assumption)) | (rcases hh.2 with h9 | h9 <;> first | omega | (have := (soBf_cD (by omega) (by omega)).mp h9; omega)))]; exact hb)) (by omega)
              · show mX m_X4_findSoloist 2 _ 0 0 _ _ [vI (0)] _
                refine x_if_eq 29 (tgt := 66) rfl (by decide) (by decide) (fun h18 => ?_) (fun h18 => absurd h18 (by decide))
                refine x_iconst 32 rfl ?_
                refine x_istore 33 (L' := [some (vR (some 173)), some (vR (some c)), some (vI (p)), some (vI (b)), some (vI (x)), some (vR (some (c + 2 + (x).toNat))), some (vI (0))]) rfl (by decide) rfl rfl ?_
                refine x_iload 34 rfl rfl ?_
                refine x_if_eq 35 (tgt := 97) rfl (by decide) (by decide) (fun h19 => ?_) (fun h19 => absurd h19 (by decide))
                refine x_iinc 48 (L' := [some (vR (some 173)), some (vR (some c)), some (vI (p)), some (vI (b)), some (vI (x + 1)), some (vR (some (c + 2 + (x).toNat))), some (vI (0))]) rfl (by decide) rfl rfl rfl rfl ?_
                refine x_goto 49 (tgt := 6) rfl (by decide) ?_
                refine x_dropL (L' := [some (vR (some 173)), some (vR (some c)), some (vI (p)), some (vI (b)), some (vI (x + 1)), none, none]) ⟨rfl, ⟨rfl, ⟨rfl, ⟨rfl, ⟨rfl, True.intro⟩⟩⟩⟩⟩ ?_
                exact ihL1 (x + 1) (b) (by omega) (by first | (rw [soZ_y _ _ _ hx.1 ((soOk_cD (by omega)).mpr ⟨by omega, by omega, by omega, by assumption⟩) (by rw [← hb]; first | (left; omega) | (right; exact (soBf_cD (by omega) (by omega)).mpr (by omega)))]) | (rw [soZ_n _ _ _ hx.1 (by rw [← hb]; intro hh; rw [soOk_cD (by omega)] at hh; first | omega | (exact absurd hh.1.2.2.2 (by assumption)) | (rcases hh.2 with h9 | h9 <;> first | omega | (have := (soBf_cD (by omega) (by omega)).mp h9; omega)))]; exact hb)) (by omega)
  exact loopL1 ((i c 4 - ((0))) + 1 : Int).toNat (0) ((-9)) (by omega) (rfl) (by omega)
set_option maxRecDepth 20000 in
set_option maxHeartbeats 2000000 in
theorem c_plan {i : Nat → Int → Int} {l : Nat → Int → BitVec 64} {c : Nat} (hc : isC c) (hO : okC i c) : mCtr m_X4_plan 6 0 0 [vR (some 173), vR (some c)] (st i l) (qV (fun i' l' => l' = l ∧ (∀ a b, a ≠ 174 → a ≠ 175 → a ≠ 176 → i' a b = i a b) ∧ SR i' = siAZ (cD i c) (S0 i c) 4 ∧ ∀ p, 0 ≤ p → p < 4 → i' 176 p = soZ (cD i c) (siAZ (cD i c) (S0 i c) 4).1 p (i c 4))) := by
  refine mCtr_of pl_X4 dc_X4_plan (Nat.le_of_ble_eq_true rfl) rfl ?_
  show mX m_X4_plan 6 _ 0 0 0 [some (vR (some 173)), some (vR (some c)), none] [] (st i l)
  have hN := hO.n
  have hr := isC_r hc
  have hS01 : ∀ k, -9 ≤ (S0 i c).1 k ∧ (S0 i c).1 k ≤ 3 := fun k => by show -9 ≤ (-9 : Int) ∧ (-9 : Int) ≤ 3; omega
  have hS02 : ∀ q, -100 ≤ (S0 i c).2 q ∧ (S0 i c).2 q ≤ 100 := fun q => by have := fPres_bd (p := q) hO; show -100 ≤ (if 0 ≤ q ∧ q < 4 then fPres i c q else 0) ∧ (if 0 ≤ q ∧ q < 4 then fPres i c q else 0) ≤ 100; split <;> omega
  refine x_iconst 0 rfl ?_
  refine x_istore_n 1 (L' := [some (vR (some 173)), some (vR (some c)), some (vI (0))]) rfl (by decide) rfl rfl ?_
  have loopL1 : ∀ (n : Nat) (ii : Nat → Int → Int) (x : Int), (0 ≤ x ∧ x ≤ 10) → (∀ a b, ii a b = if a = 174 ∧ 0 ≤ b ∧ b < x then -9 else i a b) → (10 - x) < (n : Int) → mX m_X4_plan 6 (qV (fun i' l' => l' = l ∧ (∀ a b, a ≠ 174 → a ≠ 175 → a ≠ 176 → i' a b = i a b) ∧ SR i' = siAZ (cD i c) (S0 i c) 4 ∧ ∀ p, 0 ≤ p → p < 4 → i' 176 p = soZ (cD i c) (siAZ (cD i c) (S0 i c) 4).1 p (i c 4))) 0 0 2 [some (vR (some 173)), some (vR (some c)), some (vI (x))] [] (st ii l) := by
    intro n
    induction n with
    | zero => intro ii x hx hA hz; exact absurd hz (by omega)
    | succ n ihL1 =>
      intro ii x hx hA hzL1
      refine x_iload_n 2 rfl rfl ?_
      refine x_bipush 3 rfl (by decide) ?_
      refine x_icmp_ge 4 (tgt := 22) rfl (by decide) (by omega) (fun h2 => ?_) (fun h2 => ?_)
      · refine x_iconst 12 rfl ?_
        refine x_istore_n 13 (L' := [some (vR (some 173)), some (vR (some c)), some (vI (0))]) rfl (by decide) rfl rfl ?_
        have loopL3 : ∀ (n : Nat) (jj : Nat → Int → Int) (x2 : Int), (0 ≤ x2 ∧ x2 ≤ 4) → (∀ a b, jj a b = if a = 174 ∧ 0 ≤ b ∧ b < 10 then -9 else if a = 175 ∧ 0 ≤ b ∧ b < x2 then fPres i c b else i a b) → (4 - x2) < (n : Int) → mX m_X4_plan 6 (qV (fun i' l' => l' = l ∧ (∀ a b, a ≠ 174 → a ≠ 175 → a ≠ 176 → i' a b = i a b) ∧ SR i' = siAZ (cD i c) (S0 i c) 4 ∧ ∀ p, 0 ≤ p → p < 4 → i' 176 p = soZ (cD i c) (siAZ (cD i c) (S0 i c) 4).1 p (i c 4))) 0 0 24 [some (vR (some 173)), some (vR (some c)), some (vI (x2))] [] (st jj l) := by
          intro n
          induction n with
          | zero => intro jj x2 hx2 hA2 hz; exact absurd hz (by omega)
          | succ n ihL3 =>
            intro jj x2 hx2 hA2 hzL3
            have hbl : ∀ a b, c ≤ a → a < c + 15 → jj a b = i a b := fun a b h1 h2 => by rw [hA2, if_neg (by omega), if_neg (by omega)]
            have hOw := hO.congr hbl
            have ef := fPres_congr (p := x2) hN.1 hbl
            refine x_iload_n 14 rfl rfl ?_
            refine x_iconst 15 rfl ?_
            refine x_icmp_ge 16 (tgt := 46) rfl (by decide) (by omega) (fun h4 => ?_) (fun h4 => ?_)
            · refine x_iconst 26 rfl ?_
              refine x_istore_n 27 (L' := [some (vR (some 173)), some (vR (some c)), some (vI (0))]) rfl (by decide) rfl rfl ?_
              have loopL5 : ∀ (n : Nat) (kk : Nat → Int → Int) (x3 : Int), (0 ≤ x3 ∧ x3 ≤ 4) → (∀ a b, a ≠ 174 → a ≠ 175 → kk a b = i a b) → (SR kk = siAZ (cD i c) (S0 i c) x3) → (4 - x3) < (n : Int) → mX m_X4_plan 6 (qV (fun i' l' => l' = l ∧ (∀ a b, a ≠ 174 → a ≠ 175 → a ≠ 176 → i' a b = i a b) ∧ SR i' = siAZ (cD i c) (S0 i c) 4 ∧ ∀ p, 0 ≤ p → p < 4 → i' 176 p = soZ (cD i c) (siAZ (cD i c) (S0 i c) 4).1 p (i c 4))) 0 0 48 [some (vR (some 173)), some (vR (some c)), some (vI (x3))] [] (st kk l) := by
                intro n
                induction n with
                | zero => intro kk x3 hx3 hf3 hs3 hz; exact absurd hz (by omega)
                | succ n ihL5 =>
                  intro kk x3 hx3 hf3 hs3 hzL5
                  refine x_iload_n 28 rfl rfl ?_
                  refine x_iconst 29 rfl ?_
                  refine x_icmp_ge 30 (tgt := 65) rfl (by decide) (by omega) (fun h6 => ?_) (fun h6 => ?_)
                  · refine x_iconst 37 rfl ?_
                    refine x_istore_n 38 (L' := [some (vR (some 173)), some (vR (some c)), some (vI (0))]) rfl (by decide) rfl rfl ?_
                    have loopL7 : ∀ (n : Nat) (mm : Nat → Int → Int) (x4 : Int), (0 ≤ x4 ∧ x4 ≤ 4) → (∀ a b, a ≠ 176 → mm a b = kk a b) → (∀ b, 0 ≤ b → b < x4 → mm 176 b = soZ (cD i c) (SR kk).1 b (i c 4)) → (4 - x4) < (n : Int) → mX m_X4_plan 6 (qV (fun i' l' => l' = l ∧ (∀ a b, a ≠ 174 → a ≠ 175 → a ≠ 176 → i' a b = i a b) ∧ SR i' = siAZ (cD i c) (S0 i c) 4 ∧ ∀ p, 0 ≤ p → p < 4 → i' 176 p = soZ (cD i c) (siAZ (cD i c) (S0 i c) 4).1 p (i c 4))) 0 0 67 [some (vR (some 173)), some (vR (some c)), some (vI (x4))] [] (st mm l) := by
                      intro n
                      induction n with
                      | zero => intro mm x4 hx4 hf4 h176 hz; exact absurd hz (by omega)
                      | succ n ihL7 =>
                        intro mm x4 hx4 hf4 h176 hzL7
                        refine x_iload_n 39 rfl rfl ?_
                        refine x_iconst 40 rfl ?_
                        refine x_icmp_ge 41 (tgt := 90) rfl (by decide) (by omega) (fun h8 => ?_) (fun h8 => ?_)
                        · refine x_ret 52 none rfl ⟨rfl, rfl⟩ ⟨rfl, mm, l, rfl, ?_⟩
                          have hSRm : SR mm = SR kk := SR_congr (fun b => hf4 174 b (by decide)) (fun b => hf4 175 b (by decide))
                          rw [show x3 = 4 by omega] at hs3
                          rw [show x4 = 4 by omega] at h176
                          rw [hs3] at h176 hSRm
                          exact ⟨rfl, fun a b h1 h2 h3 => by rw [hf4 a b h3, hf3 a b h1 h2], hSRm, h176⟩
                        · have hbl : ∀ a b, c ≤ a → a < c + 15 → mm a b = i a b := fun a b h1 h2 => by rw [hf4 a b (by omega), hf3 a b (by omega) (by omega)]
                          have hOw := hO.congr hbl
                          have hcd := cD_congr hbl
                          have e4 := hbl c 4 (by omega) (by omega)
                          have hSRm : SR mm = SR kk := SR_congr (fun b => hf4 174 b (by decide)) (fun b => hf4 175 b (by decide))
                          have hstw : ∀ k, -9 ≤ (SR mm).1 k ∧ (SR mm).1 k ≤ 3 := by rw [hSRm, hs3]; exact siAZ_sb _ _ (by omega) hS01
                          refine x_aload_n 42 rfl rfl ?_
                          refine x_getR 43 (z := 176) rfl fl_X4_18 (n_lt rfl) k_173 rfl r_173_2 ?_
                          refine x_iload_n 44 rfl rfl ?_
                          refine x_aload_n 45 rfl rfl ?_
                          refine x_aload_n 46 rfl rfl ?_
                          refine x_iload_n 47 rfl rfl ?_
                          refine x_callV 48 m_X4_findSoloist (c_findSoloist hc hOw hstw (by omega)) rfl ok_X4_findSoloist (n_lt rfl) k_173 rfl rfl ml_X4_31 im_X4_findSoloist se_X4_findSoloist rfl (by decide) rfl (Nat.le_of_ble_eq_true rfl) rfl rfl (fun v g q9 => ?_)
                          obtain ⟨rfl, rfl⟩ := q9
                          show mX m_X4_plan 6 _ 0 0 _ _ [vI (soZ (cD mm c) (SR mm).1 x4 (mm c 4)), vI (x4), vR (some 176)] _
                          obtain ⟨i10, hi10⟩ : ∃ f, f = mU mm 176 (x4) (soZ (cD mm c) (SR mm).1 x4 (mm c 4)) := ⟨_, rfl⟩
                          refine x_iast 49 rfl (n_lt rfl) k_176 (by omega) (g' := st i10 l) (by subst hi10; rfl) ?_
                          refine x_iinc 50 (L' := [some (vR (some 173)), some (vR (some c)), some (vI (x4 + 1))]) rfl (by decide) rfl rfl rfl rfl ?_
                          refine x_goto 51 (tgt := 67) rfl (by decide) ?_
                          exact ihL7 i10 (x4 + 1) (by omega) (by intro a b h1; rw [← hf4 a b h1]; subst_vars; simp [mU, h1]) (by intro b h1 h2; subst_vars; simp only [mU]; by_cases hbx : b = x4; (subst hbx; rw [if_pos ⟨trivial, rfl⟩, hcd, e4, hSRm]); (rw [if_neg (fun q => hbx q.2)]; exact h176 b h1 (by omega))) (by omega)
                    exact loopL7 ((4 - ((0))) + 1 : Int).toNat kk (0) (by omega) (fun _ _ _ => rfl) (fun b h1 h2 => by omega) (by omega)
                  · have hbl : ∀ a b, c ≤ a → a < c + 15 → kk a b = i a b := fun a b h1 h2 => hf3 a b (by omega) (by omega)
                    have hOw := hO.congr hbl
                    have hcd := cD_congr hbl
                    have e4 := hbl c 4 (by omega) (by omega)
                    have hstw : ∀ k, -9 ≤ (SR kk).1 k ∧ (SR kk).1 k ≤ 3 := by rw [hs3]; exact siAZ_sb _ _ (by omega) hS01
                    have hBw : ∀ q, -1500 ≤ (SR kk).2 q ∧ (SR kk).2 q ≤ 1500 := by rw [hs3]; exact siAZ_bd _ _ (by omega) hN.1 (cD_g hO) hS02
                    refine x_aload_n 31 rfl rfl ?_
                    refine x_aload_n 32 rfl rfl ?_
                    refine x_iload_n 33 rfl rfl ?_
                    refine x_callV 34 m_X4_findStandIns (c_findStandIns hc hOw hstw hBw (by omega)) rfl ok_X4_findStandIns (n_lt rfl) k_173 rfl rfl ml_X4_27 im_X4_findStandIns se_X4_findStandIns rfl (by decide) rfl (Nat.le_of_ble_eq_true rfl) rfl rfl (fun v g q11 => ?_)
                    obtain ⟨rfl, i12, li12, rfl, hi12⟩ := q11
                    show mX m_X4_plan 6 _ 0 0 _ _ [] _
                    obtain ⟨rfl, hfm, hsm⟩ := hi12
                    refine x_iinc 35 (L' := [some (vR (some 173)), some (vR (some c)), some (vI (x3 + 1))]) rfl (by decide) rfl rfl rfl rfl ?_
                    refine x_goto 36 (tgt := 48) rfl (by decide) ?_
                    exact ihL5 i12 (x3 + 1) (by omega) (by intro a b h1 h2; rw [hfm a b h1 h2, hf3 a b h1 h2]) (by rw [siAZ_s _ _ hx3.1, hsm, hs3, hcd, e4]; rfl) (by omega)
              exact loopL5 ((4 - ((0))) + 1 : Int).toNat jj (0) (by omega) (by intro a b h1 h2; rw [hA2, if_neg (by omega), if_neg (by omega)]) (by show SR jj = S0 i c; rw [show x2 = 4 by omega] at hA2; unfold SR S0; simp only [hA2]; refine Prod.ext ?_ ?_ <;> funext k <;> grind) (by omega)
            · refine x_aload_n 17 rfl rfl ?_
              refine x_getR 18 (z := 175) rfl fl_X4_15 (n_lt rfl) k_173 rfl r_173_1 ?_
              refine x_iload_n 19 rfl rfl ?_
              refine x_aload_n 20 rfl rfl ?_
              refine x_iload_n 21 rfl rfl ?_
              refine x_callV 22 m_X0_strengthPresent (c_strengthPresent hc hOw (by omega)) rfl ok_X0_strengthPresent (isC_0 hc) (kC hc) rfl rfl ml_X4_21 im_X0_strengthPresent se_X0_strengthPresent rfl (by decide) rfl (Nat.le_of_ble_eq_true rfl) rfl rfl (fun v g q13 => ?_)
              obtain ⟨rfl, rfl⟩ := q13
              show mX m_X4_plan 6 _ 0 0 _ _ [vI (fPres jj c x2), vI (x2), vR (some 175)] _
              obtain ⟨i14, hi14⟩ : ∃ f, f = mU jj 175 (x2) (fPres jj c x2) := ⟨_, rfl⟩
              refine x_iast 23 rfl (n_lt rfl) k_175 (by omega) (g' := st i14 l) (by subst hi14; rfl) ?_
              refine x_iinc 24 (L' := [some (vR (some 173)), some (vR (some c)), some (vI (x2 + 1))]) rfl (by decide) rfl rfl rfl rfl ?_
              refine x_goto 25 (tgt := 24) rfl (by decide) ?_
              exact ihL3 i14 (x2 + 1) (by omega) (by intro a b; subst_vars; simp only [mU, hA2, ef]; grind) (by omega)
        exact loopL3 ((4 - ((0))) + 1 : Int).toNat ii (0) (by omega) (by intro a b; rw [hA, show x = 10 by omega]; grind) (by omega)
      · refine x_aload_n 5 rfl rfl ?_
        refine x_getR 6 (z := 174) rfl fl_X4_9 (n_lt rfl) k_173 rfl r_173_0 ?_
        refine x_iload_n 7 rfl rfl ?_
        refine x_bipush 8 rfl (by decide) ?_
        obtain ⟨i15, hi15⟩ : ∃ f, f = mU ii 174 (x) ((-9)) := ⟨_, rfl⟩
        refine x_iast 9 rfl (n_lt rfl) k_174 (by omega) (g' := st i15 l) (by subst hi15; rfl) ?_
        refine x_iinc 10 (L' := [some (vR (some 173)), some (vR (some c)), some (vI (x + 1))]) rfl (by decide) rfl rfl rfl rfl ?_
        refine x_goto 11 (tgt := 2) rfl (by decide) ?_
        exact ihL1 i15 (x + 1) (by omega) (by intro a b; subst_vars; simp only [mU, hA]; grind) (by omega)
  exact loopL1 ((10 - ((0))) + 1 : Int).toNat i (0) (by omega) (by intro a b; rw [if_neg (by omega)]) (by omega)
end
section
/-! splits: for every set of voices the strengths that one of two parts can get -/
def isP (q : Nat) : Prop := q = 178 ∨ q = 181
theorem isP_178 : isP 178 := Or.inl rfl
theorem isP_181 : isP 181 := Or.inr rfl
theorem isP_0 {q : Nat} (h : isP q) : q < 204 := by unfold isP at h; omega
theorem isP_1 {q : Nat} (h : isP q) : q + 1 < 204 := by unfold isP at h; omega
theorem isP_2 {q : Nat} (h : isP q) : q + 2 < 204 := by unfold isP at h; omega
theorem kP {q : Nat} (h : isP q) : K0 q = .inl 6 := by rcases h with rfl | rfl <;> first | exact k_178 | exact k_181
theorem kPl {q : Nat} (h : isP q) : K0 (q + 1) = .inr (1, 1024) := by rcases h with rfl | rfl <;> first | exact k_179 | exact k_182
theorem kPh {q : Nat} (h : isP q) : K0 (q + 2) = .inr (1, 1024) := by rcases h with rfl | rfl <;> first | exact k_180 | exact k_183
theorem rP0 {q : Nat} (h : isP q) : R0 q 0 = some (q + 1) := by rcases h with rfl | rfl <;> first | exact r_178_0 | exact r_181_0
theorem rP1 {q : Nat} (h : isP q) : R0 q 1 = some (q + 2) := by rcases h with rfl | rfl <;> first | exact r_178_1 | exact r_181_1
/-- whether the one part can get t of the set x -/
def spB (l : Nat → Int → BitVec 64) (q : Nat) (x t : Int) : Prop := if t < 64 then (l (q + 1) x).getLsbD t.toNat = true else (l (q + 2) x).getLsbD (t - 64).toNat = true
def avL (f o s : Int) (L : BitVec 64) : BitVec 64 := if f ≠ 0 then (if o ≠ 0 then L else 0#64) ||| L <<< s.toNat else (if o ≠ 0 then L else 0#64)
def avH (f o s : Int) (L H : BitVec 64) : BitVec 64 := if f ≠ 0 then (if o ≠ 0 then H else 0#64) ||| (H <<< s.toNat ||| L >>> (64 - s).toNat) else (if o ≠ 0 then H else 0#64)
def avA (l ll : Nat → Int → BitVec 64) (q : Nat) (P f o s x : Int) : Prop := ∀ a b, ll a b = if a = q + 1 ∧ P ≤ b ∧ b < P + x then avL f o s (l (q + 1) (b - P)) else if a = q + 2 ∧ P ≤ b ∧ b < P + x then avH f o s (l (q + 1) (b - P)) (l (q + 2) (b - P)) else l a b
theorem av_step {l ll l' : Nat → Int → BitVec 64} {q : Nat} {P f o s x : Int} (h0 : 0 ≤ x) (hA : avA l ll q P f o s x) (hl : l' = mU (mU ll (q + 1) (P + x) (avL f o s (l (q + 1) x))) (q + 2) (P + x) (avH f o s (l (q + 1) x) (l (q + 2) x))) : avA l l' q P f o s (x + 1) := by
  intro a b
  subst hl
  simp only [mU]
  by_cases hb : b = P + x
  · subst hb
    rw [show P + x - P = x by omega]
    by_cases h1 : a = q + 1
    · subst h1
      rw [if_neg (by omega), if_pos ⟨rfl, rfl⟩, if_pos ⟨rfl, by omega, by omega⟩]
    · by_cases h2 : a = q + 2
      · subst h2
        rw [if_pos ⟨rfl, rfl⟩, if_neg (by omega), if_pos ⟨rfl, by omega, by omega⟩]
      · rw [if_neg (fun e => h2 e.1), if_neg (fun e => h1 e.1), hA, if_neg (fun e => h1 e.1), if_neg (fun e => h2 e.1), if_neg (fun e => h1 e.1), if_neg (fun e => h2 e.1)]
  · rw [if_neg (fun e => hb e.2), if_neg (fun e => hb e.2), hA]
    have e1 : (a = q + 1 ∧ P ≤ b ∧ b < P + x) ↔ (a = q + 1 ∧ P ≤ b ∧ b < P + (x + 1)) := by omega
    have e2 : (a = q + 2 ∧ P ≤ b ∧ b < P + x) ↔ (a = q + 2 ∧ P ≤ b ∧ b < P + (x + 1)) := by omega
    simp only [e1, e2]
theorem two_or {n x : Int} (hn : 0 ≤ n) (h0 : 0 ≤ x) (h1 : x < 2 ^ n.toNat) : (((1 * 2 ^ n.toNat : Int).toNat ||| x.toNat : Nat) : Int) = 2 ^ n.toNat + x := by
  rw [mOne]
  have hx : x.toNat < 2 ^ n.toNat := by
    have e : ((2 ^ n.toNat : Nat) : Int) = 2 ^ n.toNat := by simp
    omega
  have hor := Nat.two_pow_add_eq_or_of_lt hx 1
  rw [Nat.mul_one] at hor
  rw [← hor]
  have e : ((2 ^ n.toNat : Nat) : Int) = 2 ^ n.toNat := by simp
  rw [Int.natCast_add, e, Int.toNat_of_nonneg h0]
theorem pow9 {n : Int} (h : 0 ≤ n ∧ n ≤ 9) : (1 : Int) ≤ 2 ^ n.toNat ∧ (2 : Int) ^ n.toNat ≤ 512 := by
  rcases (show n = 0 ∨ n = 1 ∨ n = 2 ∨ n = 3 ∨ n = 4 ∨ n = 5 ∨ n = 6 ∨ n = 7 ∨ n = 8 ∨ n = 9 by omega) with rfl | rfl | rfl | rfl | rfl | rfl | rfl | rfl | rfl | rfl <;> decide
noncomputable def evN (f : Int → Prop) : Nat → Int := by
  classical exact
  fun n => Nat.rec (-1 : Int) (fun k b => if f (k : Int) then (k : Int) else b) n
/-- the greatest number from 0 to m of which f holds, -1 if there is none -/
noncomputable def evZ (f : Int → Prop) (m : Int) : Int := evN f (m + 1).toNat
theorem evZ_hit {f : Int → Prop} {m w : Int} (h0 : 0 ≤ w) (h1 : w ≤ m) (hf : f w) (hn : ∀ t, w < t → t ≤ m → ¬ f t) : evZ f m = w := by
  classical
  unfold evZ
  have key : ∀ k : Nat, (w.toNat + 1 + k : Nat) ≤ (m + 1).toNat → evN f (w.toNat + 1 + k) = w := by
    intro k
    induction k with
    | zero =>
      intro _
      show (if f ((w.toNat : Nat) : Int) then ((w.toNat : Nat) : Int) else _) = w
      rw [Int.toNat_of_nonneg h0, if_pos hf]
    | succ k ih =>
      intro hk
      show (if f ((w.toNat + 1 + k : Nat) : Int) then _ else evN f (w.toNat + 1 + k)) = w
      rw [if_neg (hn _ (by omega) (by omega)), ih (by omega)]
  have := key ((m + 1).toNat - (w.toNat + 1)) (by omega)
  rwa [show w.toNat + 1 + ((m + 1).toNat - (w.toNat + 1)) = (m + 1).toNat by omega] at this
theorem evZ_none {f : Int → Prop} {m : Int} (hn : ∀ t, 0 ≤ t → t ≤ m → ¬ f t) : evZ f m = -1 := by
  classical
  unfold evZ
  have key : ∀ k : Nat, k ≤ (m + 1).toNat → evN f k = -1 := by
    intro k
    induction k with
    | zero => intro _; rfl
    | succ k ih =>
      intro hk
      show (if f ((k : Nat) : Int) then _ else evN f k) = -1
      rw [if_neg (hn _ (by omega) (by omega)), ih (by omega)]
  exact key _ (Nat.le_refl _)
def bitsE (a b : Int) : BitVec 64 := if (if b < 63 then b else 63) < (if 0 < a then a else 0) then 0#64 else ((-1 : BitVec 64) >>> (63 - ((if b < 63 then b else 63) - (if 0 < a then a else 0))).toNat) <<< (if 0 < a then a else 0).toNat
theorem bitsE_get (a b : Int) (k : Nat) (hk : k < 64) : (bitsE a b).getLsbD k = decide (a ≤ k ∧ (k : Int) ≤ b) := by
  unfold bitsE
  generalize hB : (if b < 63 then b else 63) = B
  generalize hA : (if 0 < a then a else 0) = A
  have hB' : (b < 63 ∧ B = b) ∨ (63 ≤ b ∧ B = 63) := by
    by_cases h : b < 63
    · rw [if_pos h] at hB; omega
    · rw [if_neg h] at hB; omega
  have hA' : (0 < a ∧ A = a) ∨ (a ≤ 0 ∧ A = 0) := by
    by_cases h : 0 < a
    · rw [if_pos h] at hA; omega
    · rw [if_neg h] at hA; omega
  have hm : ∀ j, (-1 : BitVec 64).getLsbD j = decide (j < 64) := by
    intro j
    rw [show (-1 : BitVec 64) = BitVec.allOnes 64 from rfl, BitVec.getLsbD_allOnes]
  by_cases h : B < A
  · rw [if_pos h]
    have : ¬ (a ≤ k ∧ (k : Int) ≤ b) := by omega
    simp [this]
  · rw [if_neg h, BitVec.getLsbD_shiftLeft, BitVec.getLsbD_ushiftRight, hm]
    by_cases hr : a ≤ k ∧ (k : Int) ≤ b
    · rw [decide_eq_true hr, decide_eq_true (show (63 - (B - A)).toNat + (k - A.toNat) < 64 by omega), decide_eq_true hk, decide_eq_false (show ¬ k < A.toNat by omega)]
      rfl
    · rw [decide_eq_false hr]
      by_cases hl : k < A.toNat
      · simp [hl]
      · rw [decide_eq_false (show ¬ (63 - (B - A)).toNat + (k - A.toNat) < 64 by omega)]
        simp
theorem land_ne {x y : BitVec 64} : (x &&& y ≠ 0#64) ↔ ∃ k, k < 64 ∧ x.getLsbD k = true ∧ y.getLsbD k = true := by
  constructor
  · intro h
    apply Classical.byContradiction
    intro hn
    apply h
    apply BitVec.eq_of_getLsbD_eq
    intro k hk
    rw [BitVec.getLsbD_and]
    have := fun (e : x.getLsbD k = true ∧ y.getLsbD k = true) => hn ⟨k, hk, e.1, e.2⟩
    cases hx : x.getLsbD k <;> cases hy : y.getLsbD k <;> simp_all
  · rintro ⟨k, hk, h1, h2⟩ h
    have := congrArg (fun z => z.getLsbD k) h
    simp [BitVec.getLsbD_and, h1, h2] at this
theorem sp_iff {l : Nat → Int → BitVec 64} {q : Nat} {x a b : Int} : (∃ t : Int, 0 ≤ t ∧ t < 128 ∧ a ≤ t ∧ t ≤ b ∧ spB l q x t) ↔ (l (q + 1) x &&& bitsE a b ≠ 0#64) ∨ (l (q + 2) x &&& bitsE (a - 64) (b - 64) ≠ 0#64) := by
  rw [land_ne, land_ne]
  constructor
  · rintro ⟨t, h0, h1, h2, h3, h4⟩
    unfold spB at h4
    split at h4
    · left
      refine ⟨t.toNat, by omega, h4, ?_⟩
      rw [bitsE_get _ _ _ (by omega)]
      simp only [decide_eq_true_eq]
      omega
    · right
      refine ⟨(t - 64).toNat, by omega, h4, ?_⟩
      rw [bitsE_get _ _ _ (by omega)]
      simp only [decide_eq_true_eq]
      omega
  · rintro (⟨k, h0, h1, h2⟩ | ⟨k, h0, h1, h2⟩)
    · rw [bitsE_get _ _ _ h0, decide_eq_true_eq] at h2
      refine ⟨k, by omega, by omega, h2.1, h2.2, ?_⟩
      unfold spB
      rw [if_pos (by omega), Int.toNat_natCast]
      exact h1
    · rw [bitsE_get _ _ _ h0, decide_eq_true_eq] at h2
      refine ⟨k + 64, by omega, by omega, by omega, by omega, ?_⟩
      unfold spB
      rw [if_neg (by omega), show ((k : Int) + 64 - 64).toNat = k by omega]
      exact h1
set_option maxRecDepth 20000 in
set_option maxHeartbeats 2000000 in
theorem c_sp_addVoice {i : Nat → Int → Int} {l : Nat → Int → BitVec 64} {q : Nat} (hq : isP q) {n s f o : Int} (hn : 0 ≤ n ∧ n ≤ 9) (hs : 1 ≤ s ∧ s ≤ 9) (hf : f = 0 ∨ f = 1) (ho : o = 0 ∨ o = 1) : mCtr m_X6_addVoice 1 0 0 [vR (some q), vI (n), vI (s), vI (f), vI (o)] (st i l) (qV (fun i' l' => i' = i ∧ avA l l' q (2 ^ n.toNat) f o s (2 ^ n.toNat))) := by
  refine mCtr_of pl_X6 dc_X6_addVoice (Nat.le_of_ble_eq_true rfl) rfl ?_
  show mX m_X6_addVoice 1 _ 0 0 0 [some (vR (some q)), some (vI (n)), some (vI (s)), some (vI (f)), some (vI (o)), none, none, none, none, none, none] [] (st i l)
  have hp := pow9 hn
  have h1p : (1 : Int) * 2 ^ n.toNat = 2 ^ n.toNat := Int.one_mul _
  refine x_iconst 0 rfl ?_
  refine x_iload_n 1 rfl rfl ?_
  refine x_ishl 2 (r := 1 * 2 ^ (n).toNat) rfl (by omega) rfl ?_
  refine x_istore 3 (L' := [some (vR (some q)), some (vI (n)), some (vI (s)), some (vI (f)), some (vI (o)), some (vI (1 * 2 ^ (n).toNat)), none, none, none, none, none]) rfl (by decide) rfl rfl ?_
  refine x_iconst 4 rfl ?_
  refine x_istore 5 (L' := [some (vR (some q)), some (vI (n)), some (vI (s)), some (vI (f)), some (vI (o)), some (vI (1 * 2 ^ (n).toNat)), some (vI (0)), none, none, none, none]) rfl (by decide) rfl rfl ?_
  have loopL1 : ∀ (nz : Nat) (ll : Nat → Int → BitVec 64) (x : Int), (0 ≤ x ∧ x ≤ 2 ^ n.toNat) → (avA l ll q (2 ^ n.toNat) f o s x) → (2 ^ n.toNat - x) < (nz : Int) → mX m_X6_addVoice 1 (qV (fun i' l' => i' = i ∧ avA l l' q (2 ^ n.toNat) f o s (2 ^ n.toNat))) 0 0 8 [some (vR (some q)), some (vI (n)), some (vI (s)), some (vI (f)), some (vI (o)), some (vI (1 * 2 ^ (n).toNat)), some (vI (x)), none, none, none, none] [] (st i ll) := by
    intro nz
    induction nz with
    | zero => intro ll x hx hA hz; exact absurd hz (by omega)
    | succ nz ihL1 =>
      intro ll x hx hA hzL1
      refine x_iload 6 rfl rfl ?_
      refine x_iload 7 rfl rfl ?_
      refine x_icmp_ge 8 (tgt := 126) rfl (by decide) (by omega) (fun h2 => ?_) (fun h2 => ?_)
      · refine x_ret 72 none rfl ⟨rfl, rfl⟩ ⟨rfl, i, ll, rfl, ?_⟩
        refine ⟨rfl, ?_⟩
        rw [show x = 2 ^ n.toNat by omega] at hA
        exact hA
      · have e1 : ll (q + 1) x = l (q + 1) x := by rw [hA, if_neg (by omega), if_neg (by omega)]
        have e2 : ll (q + 2) x = l (q + 2) x := by rw [hA, if_neg (by omega), if_neg (by omega)]
        have hor := two_or hn.1 hx.1 (show x < 2 ^ n.toNat by omega)
        have hor2 := hor
        rw [Int.one_mul] at hor2
        refine x_iload 9 rfl rfl ?_
        refine x_if_eq 10 (tgt := 30) rfl (by decide) (by omega) (fun h3 => ?_) (fun h3 => ?_)
        · refine x_lconst 16 (v := 0#64) rfl rfl ?_
          refine x_lstore 17 (L' := [some (vR (some q)), some (vI (n)), some (vI (s)), some (vI (f)), some (vI (o)), some (vI (1 * 2 ^ (n).toNat)), some (vI (x)), some (vL (0#64)), none, none, none]) rfl (by decide) rfl rfl ?_
          refine x_iload 18 rfl rfl ?_
          refine x_if_eq 19 (tgt := 48) rfl (by decide) (by omega) (fun h4 => ?_) (fun h4 => absurd h4 (by omega))
          refine x_lconst 25 (v := 0#64) rfl rfl ?_
          refine x_lstore 26 (L' := [some (vR (some q)), some (vI (n)), some (vI (s)), some (vI (f)), some (vI (o)), some (vI (1 * 2 ^ (n).toNat)), some (vI (x)), some (vL (0#64)), none, some (vL (0#64)), none]) rfl (by decide) rfl rfl ?_
          refine x_iload_n 27 rfl rfl ?_
          refine x_if_eq 28 (tgt := 96) rfl (by decide) (by omega) (fun h5 => ?_) (fun h5 => ?_)
          · refine x_aload_n 56 rfl rfl ?_
            refine x_getR 57 (z := (q + 1)) rfl fl_X6_9 (isP_0 hq) (kP hq) rfl (rP0 hq) ?_
            refine x_iload 58 rfl rfl ?_
            refine x_iload 59 rfl rfl ?_
            refine x_ior 60 (r := (1 * 2 ^ (n).toNat : Int).toNat ||| (x : Int).toNat) rfl (by omega) rfl ?_
            refine x_lload 61 rfl rfl ?_
            obtain ⟨l6, hl6⟩ : ∃ f, f = mU ll (q + 1) ((((1 * 2 ^ (n).toNat : Int).toNat ||| (x : Int).toNat : Nat) : Int)) (0#64) := ⟨_, rfl⟩
            refine x_last 62 rfl (isP_1 hq) (kPl hq) (by omega) (g' := st i l6) (by subst hl6; rfl) ?_
            refine x_aload_n 63 rfl rfl ?_
            refine x_getR 64 (z := (q + 2)) rfl fl_X6_15 (isP_0 hq) (kP hq) rfl (rP1 hq) ?_
            refine x_iload 65 rfl rfl ?_
            refine x_iload 66 rfl rfl ?_
            refine x_ior 67 (r := (1 * 2 ^ (n).toNat : Int).toNat ||| (x : Int).toNat) rfl (by omega) rfl ?_
            refine x_lload 68 rfl rfl ?_
            obtain ⟨l7, hl7⟩ : ∃ f, f = mU l6 (q + 2) ((((1 * 2 ^ (n).toNat : Int).toNat ||| (x : Int).toNat : Nat) : Int)) (0#64) := ⟨_, rfl⟩
            refine x_last 69 rfl (isP_2 hq) (kPh hq) (by omega) (g' := st i l7) (by subst hl7; rfl) ?_
            refine x_iinc 70 (L' := [some (vR (some q)), some (vI (n)), some (vI (s)), some (vI (f)), some (vI (o)), some (vI (1 * 2 ^ (n).toNat)), some (vI (x + 1)), some (vL (0#64)), none, some (vL (0#64)), none]) rfl (by decide) rfl rfl rfl rfl ?_
            refine x_goto 71 (tgt := 8) rfl (by decide) ?_
            refine x_dropL (L' := [some (vR (some q)), some (vI (n)), some (vI (s)), some (vI (f)), some (vI (o)), some (vI (1 * 2 ^ (n).toNat)), some (vI (x + 1)), none, none, none, none]) ⟨rfl, ⟨rfl, ⟨rfl, ⟨rfl, ⟨rfl, ⟨rfl, ⟨rfl, True.intro⟩⟩⟩⟩⟩⟩⟩ ?_
            exact ihL1 l7 (x + 1) (by omega) (av_step hx.1 hA (by subst_vars; simp [avL, avH, e1, e2, hor2, mUne, *])) (by omega)
          · refine x_lload 29 rfl rfl ?_
            refine x_aload_n 30 rfl rfl ?_
            refine x_getR 31 (z := (q + 1)) rfl fl_X6_9 (isP_0 hq) (kP hq) rfl (rP0 hq) ?_
            refine x_iload 32 rfl rfl ?_
            refine x_lald 33 (z := ll (q + 1) x) rfl (isP_1 hq) (kPl hq) (by omega) rfl ?_
            refine x_iload_n 34 rfl rfl ?_
            refine x_lshl 35 (r := (ll (q + 1) x) <<< (s : Int).toNat) rfl (by omega) rfl ?_
            refine x_lor 36 (r := (0#64) ||| ((ll (q + 1) x) <<< (s : Int).toNat)) rfl rfl ?_
            refine x_lstore 37 (L' := [some (vR (some q)), some (vI (n)), some (vI (s)), some (vI (f)), some (vI (o)), some (vI (1 * 2 ^ (n).toNat)), some (vI (x)), some (vL ((0#64) ||| ((ll (q + 1) x) <<< (s : Int).toNat))), none, some (vL (0#64)), none]) rfl (by decide) rfl rfl ?_
            refine x_lload 38 rfl rfl ?_
            refine x_aload_n 39 rfl rfl ?_
            refine x_getR 40 (z := (q + 2)) rfl fl_X6_15 (isP_0 hq) (kP hq) rfl (rP1 hq) ?_
            refine x_iload 41 rfl rfl ?_
            refine x_lald 42 (z := ll (q + 2) x) rfl (isP_2 hq) (kPh hq) (by omega) rfl ?_
            refine x_iload_n 43 rfl rfl ?_
            refine x_lshl 44 (r := (ll (q + 2) x) <<< (s : Int).toNat) rfl (by omega) rfl ?_
            refine x_aload_n 45 rfl rfl ?_
            refine x_getR 46 (z := (q + 1)) rfl fl_X6_9 (isP_0 hq) (kP hq) rfl (rP0 hq) ?_
            refine x_iload 47 rfl rfl ?_
            refine x_lald 48 (z := ll (q + 1) x) rfl (isP_1 hq) (kPl hq) (by omega) rfl ?_
            refine x_bipush 49 rfl (by decide) ?_
            refine x_iload_n 50 rfl rfl ?_
            refine x_isub 51 (r := 64 - s) rfl rfl ?_
            refine x_lushr 52 (r := (ll (q + 1) x) >>> (64 - s : Int).toNat) rfl (by omega) rfl ?_
            refine x_lor 53 (r := ((ll (q + 2) x) <<< (s : Int).toNat) ||| ((ll (q + 1) x) >>> (64 - s : Int).toNat)) rfl rfl ?_
            refine x_lor 54 (r := (0#64) ||| (((ll (q + 2) x) <<< (s : Int).toNat) ||| ((ll (q + 1) x) >>> (64 - s : Int).toNat))) rfl rfl ?_
            refine x_lstore 55 (L' := [some (vR (some q)), some (vI (n)), some (vI (s)), some (vI (f)), some (vI (o)), some (vI (1 * 2 ^ (n).toNat)), some (vI (x)), some (vL ((0#64) ||| ((ll (q + 1) x) <<< (s : Int).toNat))), none, some (vL ((0#64) ||| (((ll (q + 2) x) <<< (s : Int).toNat) ||| ((ll (q + 1) x) >>> (64 - s : Int).toNat)))), none]) rfl (by decide) rfl rfl ?_
            refine x_aload_n 56 rfl rfl ?_
            refine x_getR 57 (z := (q + 1)) rfl fl_X6_9 (isP_0 hq) (kP hq) rfl (rP0 hq) ?_
            refine x_iload 58 rfl rfl ?_
            refine x_iload 59 rfl rfl ?_
            refine x_ior 60 (r := (1 * 2 ^ (n).toNat : Int).toNat ||| (x : Int).toNat) rfl (by omega) rfl ?_
            refine x_lload 61 rfl rfl ?_
            obtain ⟨l8, hl8⟩ : ∃ f, f = mU ll (q + 1) ((((1 * 2 ^ (n).toNat : Int).toNat ||| (x : Int).toNat : Nat) : Int)) ((0#64) ||| ((ll (q + 1) x) <<< (s : Int).toNat)) := ⟨_, rfl⟩
            refine x_last 62 rfl (isP_1 hq) (kPl hq) (by omega) (g' := st i l8) (by subst hl8; rfl) ?_
            refine x_aload_n 63 rfl rfl ?_
            refine x_getR 64 (z := (q + 2)) rfl fl_X6_15 (isP_0 hq) (kP hq) rfl (rP1 hq) ?_
            refine x_iload 65 rfl rfl ?_
            refine x_iload 66 rfl rfl ?_
            refine x_ior 67 (r := (1 * 2 ^ (n).toNat : Int).toNat ||| (x : Int).toNat) rfl (by omega) rfl ?_
            refine x_lload 68 rfl rfl ?_
            obtain ⟨l9, hl9⟩ : ∃ f, f = mU l8 (q + 2) ((((1 * 2 ^ (n).toNat : Int).toNat ||| (x : Int).toNat : Nat) : Int)) ((0#64) ||| (((ll (q + 2) x) <<< (s : Int).toNat) ||| ((ll (q + 1) x) >>> (64 - s : Int).toNat))) := ⟨_, rfl⟩
            refine x_last 69 rfl (isP_2 hq) (kPh hq) (by omega) (g' := st i l9) (by subst hl9; rfl) ?_
            refine x_iinc 70 (L' := [some (vR (some q)), some (vI (n)), some (vI (s)), some (vI (f)), some (vI (o)), some (vI (1 * 2 ^ (n).toNat)), some (vI (x + 1)), some (vL ((0#64) ||| ((ll (q + 1) x) <<< (s : Int).toNat))), none, some (vL ((0#64) ||| (((ll (q + 2) x) <<< (s : Int).toNat) ||| ((ll (q + 1) x) >>> (64 - s : Int).toNat)))), none]) rfl (by decide) rfl rfl rfl rfl ?_
            refine x_goto 71 (tgt := 8) rfl (by decide) ?_
            refine x_dropL (L' := [some (vR (some q)), some (vI (n)), some (vI (s)), some (vI (f)), some (vI (o)), some (vI (1 * 2 ^ (n).toNat)), some (vI (x + 1)), none, none, none, none]) ⟨rfl, ⟨rfl, ⟨rfl, ⟨rfl, ⟨rfl, ⟨rfl, ⟨rfl, True.intro⟩⟩⟩⟩⟩⟩⟩ ?_
            exact ihL1 l9 (x + 1) (by omega) (av_step hx.1 hA (by subst_vars; simp [avL, avH, e1, e2, hor2, mUne, *])) (by omega)
        · refine x_aload_n 11 rfl rfl ?_
          refine x_getR 12 (z := (q + 1)) rfl fl_X6_9 (isP_0 hq) (kP hq) rfl (rP0 hq) ?_
          refine x_iload 13 rfl rfl ?_
          refine x_lald 14 (z := ll (q + 1) x) rfl (isP_1 hq) (kPl hq) (by omega) rfl ?_
          refine x_goto 15 (tgt := 31) rfl (by decide) ?_
          refine x_lstore 17 (L' := [some (vR (some q)), some (vI (n)), some (vI (s)), some (vI (f)), some (vI (o)), some (vI (1 * 2 ^ (n).toNat)), some (vI (x)), some (vL (ll (q + 1) x)), none, none, none]) rfl (by decide) rfl rfl ?_
          refine x_iload 18 rfl rfl ?_
          refine x_if_eq 19 (tgt := 48) rfl (by decide) (by omega) (fun h10 => absurd h10 (by omega)) (fun h10 => ?_)
          refine x_aload_n 20 rfl rfl ?_
          refine x_getR 21 (z := (q + 2)) rfl fl_X6_15 (isP_0 hq) (kP hq) rfl (rP1 hq) ?_
          refine x_iload 22 rfl rfl ?_
          refine x_lald 23 (z := ll (q + 2) x) rfl (isP_2 hq) (kPh hq) (by omega) rfl ?_
          refine x_goto 24 (tgt := 49) rfl (by decide) ?_
          refine x_lstore 26 (L' := [some (vR (some q)), some (vI (n)), some (vI (s)), some (vI (f)), some (vI (o)), some (vI (1 * 2 ^ (n).toNat)), some (vI (x)), some (vL (ll (q + 1) x)), none, some (vL (ll (q + 2) x)), none]) rfl (by decide) rfl rfl ?_
          refine x_iload_n 27 rfl rfl ?_
          refine x_if_eq 28 (tgt := 96) rfl (by decide) (by omega) (fun h11 => ?_) (fun h11 => ?_)
          · refine x_aload_n 56 rfl rfl ?_
            refine x_getR 57 (z := (q + 1)) rfl fl_X6_9 (isP_0 hq) (kP hq) rfl (rP0 hq) ?_
            refine x_iload 58 rfl rfl ?_
            refine x_iload 59 rfl rfl ?_
            refine x_ior 60 (r := (1 * 2 ^ (n).toNat : Int).toNat ||| (x : Int).toNat) rfl (by omega) rfl ?_
            refine x_lload 61 rfl rfl ?_
            obtain ⟨l12, hl12⟩ : ∃ f, f = mU ll (q + 1) ((((1 * 2 ^ (n).toNat : Int).toNat ||| (x : Int).toNat : Nat) : Int)) (ll (q + 1) x) := ⟨_, rfl⟩
            refine x_last 62 rfl (isP_1 hq) (kPl hq) (by omega) (g' := st i l12) (by subst hl12; rfl) ?_
            refine x_aload_n 63 rfl rfl ?_
            refine x_getR 64 (z := (q + 2)) rfl fl_X6_15 (isP_0 hq) (kP hq) rfl (rP1 hq) ?_
            refine x_iload 65 rfl rfl ?_
            refine x_iload 66 rfl rfl ?_
            refine x_ior 67 (r := (1 * 2 ^ (n).toNat : Int).toNat ||| (x : Int).toNat) rfl (by omega) rfl ?_
            refine x_lload 68 rfl rfl ?_
            obtain ⟨l13, hl13⟩ : ∃ f, f = mU l12 (q + 2) ((((1 * 2 ^ (n).toNat : Int).toNat ||| (x : Int).toNat : Nat) : Int)) (ll (q + 2) x) := ⟨_, rfl⟩
            refine x_last 69 rfl (isP_2 hq) (kPh hq) (by omega) (g' := st i l13) (by subst hl13; rfl) ?_
            refine x_iinc 70 (L' := [some (vR (some q)), some (vI (n)), some (vI (s)), some (vI (f)), some (vI (o)), some (vI (1 * 2 ^ (n).toNat)), some (vI (x + 1)), some (vL (ll (q + 1) x)), none, some (vL (ll (q + 2) x)), none]) rfl (by decide) rfl rfl rfl rfl ?_
            refine x_goto 71 (tgt := 8) rfl (by decide) ?_
            refine x_dropL (L' := [some (vR (some q)), some (vI (n)), some (vI (s)), some (vI (f)), some (vI (o)), some (vI (1 * 2 ^ (n).toNat)), some (vI (x + 1)), none, none, none, none]) ⟨rfl, ⟨rfl, ⟨rfl, ⟨rfl, ⟨rfl, ⟨rfl, ⟨rfl, True.intro⟩⟩⟩⟩⟩⟩⟩ ?_
            exact ihL1 l13 (x + 1) (by omega) (av_step hx.1 hA (by subst_vars; simp [avL, avH, e1, e2, hor2, mUne, *])) (by omega)
          · refine x_lload 29 rfl rfl ?_
            refine x_aload_n 30 rfl rfl ?_
            refine x_getR 31 (z := (q + 1)) rfl fl_X6_9 (isP_0 hq) (kP hq) rfl (rP0 hq) ?_
            refine x_iload 32 rfl rfl ?_
            refine x_lald 33 (z := ll (q + 1) x) rfl (isP_1 hq) (kPl hq) (by omega) rfl ?_
            refine x_iload_n 34 rfl rfl ?_
            refine x_lshl 35 (r := (ll (q + 1) x) <<< (s : Int).toNat) rfl (by omega) rfl ?_
            refine x_lor 36 (r := (ll (q + 1) x) ||| ((ll (q + 1) x) <<< (s : Int).toNat)) rfl rfl ?_
            refine x_lstore 37 (L' := [some (vR (some q)), some (vI (n)), some (vI (s)), some (vI (f)), some (vI (o)), some (vI (1 * 2 ^ (n).toNat)), some (vI (x)), some (vL ((ll (q + 1) x) ||| ((ll (q + 1) x) <<< (s : Int).toNat))), none, some (vL (ll (q + 2) x)), none]) rfl (by decide) rfl rfl ?_
            refine x_lload 38 rfl rfl ?_
            refine x_aload_n 39 rfl rfl ?_
            refine x_getR 40 (z := (q + 2)) rfl fl_X6_15 (isP_0 hq) (kP hq) rfl (rP1 hq) ?_
            refine x_iload 41 rfl rfl ?_
            refine x_lald 42 (z := ll (q + 2) x) rfl (isP_2 hq) (kPh hq) (by omega) rfl ?_
            refine x_iload_n 43 rfl rfl ?_
            refine x_lshl 44 (r := (ll (q + 2) x) <<< (s : Int).toNat) rfl (by omega) rfl ?_
            refine x_aload_n 45 rfl rfl ?_
            refine x_getR 46 (z := (q + 1)) rfl fl_X6_9 (isP_0 hq) (kP hq) rfl (rP0 hq) ?_
            refine x_iload 47 rfl rfl ?_
            refine x_lald 48 (z := ll (q + 1) x) rfl (isP_1 hq) (kPl hq) (by omega) rfl ?_
            refine x_bipush 49 rfl (by decide) ?_
            refine x_iload_n 50 rfl rfl ?_
            refine x_isub 51 (r := 64 - s) rfl rfl ?_
            refine x_lushr 52 (r := (ll (q + 1) x) >>> (64 - s : Int).toNat) rfl (by omega) rfl ?_
            refine x_lor 53 (r := ((ll (q + 2) x) <<< (s : Int).toNat) ||| ((ll (q + 1) x) >>> (64 - s : Int).toNat)) rfl rfl ?_
            refine x_lor 54 (r := (ll (q + 2) x) ||| (((ll (q + 2) x) <<< (s : Int).toNat) ||| ((ll (q + 1) x) >>> (64 - s : Int).toNat))) rfl rfl ?_
            refine x_lstore 55 (L' := [some (vR (some q)), some (vI (n)), some (vI (s)), some (vI (f)), some (vI (o)), some (vI (1 * 2 ^ (n).toNat)), some (vI (x)), some (vL ((ll (q + 1) x) ||| ((ll (q + 1) x) <<< (s : Int).toNat))), none, some (vL ((ll (q + 2) x) ||| (((ll (q + 2) x) <<< (s : Int).toNat) ||| ((ll (q + 1) x) >>> (64 - s : Int).toNat)))), none]) rfl (by decide) rfl rfl ?_
            refine x_aload_n 56 rfl rfl ?_
            refine x_getR 57 (z := (q + 1)) rfl fl_X6_9 (isP_0 hq) (kP hq) rfl (rP0 hq) ?_
            refine x_iload 58 rfl rfl ?_
            refine x_iload 59 rfl rfl ?_
            refine x_ior 60 (r := (1 * 2 ^ (n).toNat : Int).toNat ||| (x : Int).toNat) rfl (by omega) rfl ?_
            refine x_lload 61 rfl rfl ?_
            obtain ⟨l14, hl14⟩ : ∃ f, f = mU ll (q + 1) ((((1 * 2 ^ (n).toNat : Int).toNat ||| (x : Int).toNat : Nat) : Int)) ((ll (q + 1) x) ||| ((ll (q + 1) x) <<< (s : Int).toNat)) := ⟨_, rfl⟩
            refine x_last 62 rfl (isP_1 hq) (kPl hq) (by omega) (g' := st i l14) (by subst hl14; rfl) ?_
            refine x_aload_n 63 rfl rfl ?_
            refine x_getR 64 (z := (q + 2)) rfl fl_X6_15 (isP_0 hq) (kP hq) rfl (rP1 hq) ?_
            refine x_iload 65 rfl rfl ?_
            refine x_iload 66 rfl rfl ?_
            refine x_ior 67 (r := (1 * 2 ^ (n).toNat : Int).toNat ||| (x : Int).toNat) rfl (by omega) rfl ?_
            refine x_lload 68 rfl rfl ?_
            obtain ⟨l15, hl15⟩ : ∃ f, f = mU l14 (q + 2) ((((1 * 2 ^ (n).toNat : Int).toNat ||| (x : Int).toNat : Nat) : Int)) ((ll (q + 2) x) ||| (((ll (q + 2) x) <<< (s : Int).toNat) ||| ((ll (q + 1) x) >>> (64 - s : Int).toNat))) := ⟨_, rfl⟩
            refine x_last 69 rfl (isP_2 hq) (kPh hq) (by omega) (g' := st i l15) (by subst hl15; rfl) ?_
            refine x_iinc 70 (L' := [some (vR (some q)), some (vI (n)), some (vI (s)), some (vI (f)), some (vI (o)), some (vI (1 * 2 ^ (n).toNat)), some (vI (x + 1)), some (vL ((ll (q + 1) x) ||| ((ll (q + 1) x) <<< (s : Int).toNat))), none, some (vL ((ll (q + 2) x) ||| (((ll (q + 2) x) <<< (s : Int).toNat) ||| ((ll (q + 1) x) >>> (64 - s : Int).toNat)))), none]) rfl (by decide) rfl rfl rfl rfl ?_
            refine x_goto 71 (tgt := 8) rfl (by decide) ?_
            refine x_dropL (L' := [some (vR (some q)), some (vI (n)), some (vI (s)), some (vI (f)), some (vI (o)), some (vI (1 * 2 ^ (n).toNat)), some (vI (x + 1)), none, none, none, none]) ⟨rfl, ⟨rfl, ⟨rfl, ⟨rfl, ⟨rfl, ⟨rfl, ⟨rfl, True.intro⟩⟩⟩⟩⟩⟩⟩ ?_
            exact ihL1 l15 (x + 1) (by omega) (av_step hx.1 hA (by subst_vars; simp [avL, avH, e1, e2, hor2, mUne, *])) (by omega)
  exact loopL1 ((2 ^ n.toNat - ((0))) + 1 : Int).toNat l (0) (by omega) (by intro a b; rw [if_neg (by omega), if_neg (by omega)]) (by omega)
set_option maxRecDepth 20000 in
set_option maxHeartbeats 2000000 in
theorem c_gives {i : Nat → Int → Int} {l : Nat → Int → BitVec 64} {q : Nat} (hq : isP q) {x t : Int} (hx : 0 ≤ x ∧ x < 1024) (ht : 0 ≤ t ∧ t < 128) : mCtr m_X6_gives 2 0 0 [vR (some q), vI (x), vI (t)] (st i l) (qB (spB l q x t) (st i l)) := by
  refine mCtr_of pl_X6 dc_X6_gives (Nat.le_of_ble_eq_true rfl) rfl ?_
  show mX m_X6_gives 2 _ 0 0 0 [some (vR (some q)), some (vI (x)), some (vI (t))] [] (st i l)
  refine x_iload_n 0 rfl rfl ?_
  refine x_bipush 1 rfl (by decide) ?_
  refine x_icmp_ge 2 (tgt := 19) rfl (by decide) (by omega) (fun h1 => ?_) (fun h1 => ?_)
  · refine x_aload_n 10 rfl rfl ?_
    refine x_getR 11 (z := (q + 2)) rfl fl_X6_15 (isP_0 hq) (kP hq) rfl (rP1 hq) ?_
    refine x_iload_n 12 rfl rfl ?_
    refine x_lald 13 (z := l (q + 2) x) rfl (isP_2 hq) (kPh hq) (by omega) rfl ?_
    refine x_iload_n 14 rfl rfl ?_
    refine x_bipush 15 rfl (by decide) ?_
    refine x_isub 16 (r := t - 64) rfl rfl ?_
    refine x_callSN 17 m_X8_contains (c_contains (by omega)) rfl ok_X8_contains (by decide +kernel) st_X8_contains rfl (by decide) rfl (Nat.le_of_ble_eq_true rfl) rfl rfl (fun v g q2 => ?_)
    rcases q2 with ⟨rfl, ⟨h3, rfl⟩ | ⟨h3, rfl⟩⟩
    · show mX m_X6_gives 2 _ 0 0 _ _ [vI (1)] _
      refine x_ret 18 (some (vI (1))) rfl ⟨rfl, Or.inr ⟨rfl, by omega⟩⟩ ⟨rfl, Or.inl ⟨?_, rfl⟩⟩
      unfold spB; first | (rw [if_pos (by omega)]; assumption) | (rw [if_neg (by omega)]; assumption)
    · show mX m_X6_gives 2 _ 0 0 _ _ [vI (0)] _
      refine x_ret 18 (some (vI (0))) rfl ⟨rfl, Or.inr ⟨rfl, by omega⟩⟩ ⟨rfl, Or.inr ⟨?_, rfl⟩⟩
      unfold spB; first | (rw [if_pos (by omega)]; assumption) | (rw [if_neg (by omega)]; assumption)
  · refine x_aload_n 3 rfl rfl ?_
    refine x_getR 4 (z := (q + 1)) rfl fl_X6_9 (isP_0 hq) (kP hq) rfl (rP0 hq) ?_
    refine x_iload_n 5 rfl rfl ?_
    refine x_lald 6 (z := l (q + 1) x) rfl (isP_1 hq) (kPl hq) (by omega) rfl ?_
    refine x_iload_n 7 rfl rfl ?_
    refine x_callSN 8 m_X8_contains (c_contains (by omega)) rfl ok_X8_contains (by decide +kernel) st_X8_contains rfl (by decide) rfl (Nat.le_of_ble_eq_true rfl) rfl rfl (fun v g q4 => ?_)
    rcases q4 with ⟨rfl, ⟨h5, rfl⟩ | ⟨h5, rfl⟩⟩
    · show mX m_X6_gives 2 _ 0 0 _ _ [vI (1)] _
      refine x_goto 9 (tgt := 32) rfl (by decide) ?_
      refine x_ret 18 (some (vI (1))) rfl ⟨rfl, Or.inr ⟨rfl, by omega⟩⟩ ⟨rfl, Or.inl ⟨?_, rfl⟩⟩
      unfold spB; first | (rw [if_pos (by omega)]; assumption) | (rw [if_neg (by omega)]; assumption)
    · show mX m_X6_gives 2 _ 0 0 _ _ [vI (0)] _
      refine x_goto 9 (tgt := 32) rfl (by decide) ?_
      refine x_ret 18 (some (vI (0))) rfl ⟨rfl, Or.inr ⟨rfl, by omega⟩⟩ ⟨rfl, Or.inr ⟨?_, rfl⟩⟩
      unfold spB; first | (rw [if_pos (by omega)]; assumption) | (rw [if_neg (by omega)]; assumption)
set_option maxRecDepth 20000 in
set_option maxHeartbeats 2000000 in
theorem c_evenest {i : Nat → Int → Int} {l : Nat → Int → BitVec 64} {q : Nat} (hq : isP q) {x sum : Int} (hx : 0 ≤ x ∧ x < 1024) (hs : 0 ≤ sum ∧ sum ≤ 90) : mCtr m_X6_evenest 3 0 0 [vR (some q), vI (x), vI (sum)] (st i l) (qI (evZ (fun t => spB l q x t ∨ spB l q x (sum - t)) (sum / 2)) (st i l)) := by
  refine mCtr_of pl_X6 dc_X6_evenest (Nat.le_of_ble_eq_true rfl) rfl ?_
  show mX m_X6_evenest 3 _ 0 0 0 [some (vR (some q)), some (vI (x)), some (vI (sum)), none] [] (st i l)
  refine x_aload_n 0 rfl rfl ?_
  refine x_getR 1 (z := (q + 1)) rfl fl_X6_9 (isP_0 hq) (kP hq) rfl (rP0 hq) ?_
  refine x_iload_n 2 rfl rfl ?_
  refine x_lald 3 (z := l (q + 1) x) rfl (isP_1 hq) (kPl hq) (by omega) rfl ?_
  refine x_aload_n 4 rfl rfl ?_
  refine x_getR 5 (z := (q + 2)) rfl fl_X6_15 (isP_0 hq) (kP hq) rfl (rP1 hq) ?_
  refine x_iload_n 6 rfl rfl ?_
  refine x_lald 7 (z := l (q + 2) x) rfl (isP_2 hq) (kPh hq) (by omega) rfl ?_
  refine x_lor 8 (r := (l (q + 1) x) ||| (l (q + 2) x)) rfl rfl ?_
  refine x_lconst 9 (v := 0#64) rfl rfl ?_
  refine x_lcmp 10 rfl (fun z1 hz1 gz1 fz1 => ?_)
  refine x_if_ne 11 (tgt := 20) rfl (by decide) (by omega) (fun h2 => ?_) (fun h2 => ?_)
  · refine x_iload_n 14 rfl rfl ?_
    refine x_iconst 15 rfl ?_
    refine x_idiv 16 (r := sum / 2) rfl (by omega) rfl ?_
    refine x_istore_n 17 (L' := [some (vR (some q)), some (vI (x)), some (vI (sum)), some (vI (sum / 2))]) rfl (by decide) rfl rfl ?_
    have loopL3 : ∀ (nz : Nat) (w : Int), (-1 ≤ w ∧ w ≤ sum / 2) → (∀ t, w < t → t ≤ sum / 2 → ¬ (spB l q x t ∨ spB l q x (sum - t))) → (w + 1) < (nz : Int) → mX m_X6_evenest 3 (qI (evZ (fun t => spB l q x t ∨ spB l q x (sum - t)) (sum / 2)) (st i l)) 0 0 24 [some (vR (some q)), some (vI (x)), some (vI (sum)), some (vI (w))] [] (st i l) := by
      intro nz
      induction nz with
      | zero => intro w hw hN hz; exact absurd hz (by omega)
      | succ nz ihL3 =>
        intro w hw hN hzL3
        refine x_iload_n 18 rfl rfl ?_
        refine x_if_lt 19 (tgt := 56) rfl (by decide) (by omega) (fun h4 => ?_) (fun h4 => ?_)
        · refine x_iconst 36 rfl ?_
          refine x_ret 37 (some (vI ((-1)))) rfl ⟨rfl, Or.inl rfl⟩ ⟨congrArg (fun z => some (vI z)) ?_, rfl⟩
          exact (evZ_none (fun t h1 h2 => hN t (by omega) h2)).symm
        · refine x_aload_n 20 rfl rfl ?_
          refine x_iload_n 21 rfl rfl ?_
          refine x_iload_n 22 rfl rfl ?_
          refine x_callV 23 m_X6_gives (c_gives hq (by omega) (by omega)) rfl ok_X6_gives (isP_0 hq) (kP hq) rfl rfl ml_X6_18 im_X6_gives se_X6_gives rfl (by decide) rfl (Nat.le_of_ble_eq_true rfl) rfl rfl (fun v g q5 => ?_)
          rcases q5 with ⟨rfl, ⟨h6, rfl⟩ | ⟨h6, rfl⟩⟩
          · show mX m_X6_evenest 3 _ 0 0 _ _ [vI (1)] _
            refine x_if_ne 24 (tgt := 48) rfl (by decide) (by decide) (fun h7 => ?_) (fun h7 => absurd h7 (by decide))
            refine x_iload_n 32 rfl rfl ?_
            refine x_ret 33 (some (vI (w))) rfl ⟨rfl, Or.inl rfl⟩ ⟨congrArg (fun z => some (vI z)) ?_, rfl⟩
            exact (evZ_hit (by omega) (by omega) (by first | (left; assumption) | (right; assumption)) hN).symm
          · show mX m_X6_evenest 3 _ 0 0 _ _ [vI (0)] _
            refine x_if_ne 24 (tgt := 48) rfl (by decide) (by decide) (fun h8 => absurd h8 (by decide)) (fun h8 => ?_)
            refine x_aload_n 25 rfl rfl ?_
            refine x_iload_n 26 rfl rfl ?_
            refine x_iload_n 27 rfl rfl ?_
            refine x_iload_n 28 rfl rfl ?_
            refine x_isub 29 (r := sum - w) rfl rfl ?_
            refine x_callV 30 m_X6_gives (c_gives hq (by omega) (by omega)) rfl ok_X6_gives (isP_0 hq) (kP hq) rfl rfl ml_X6_18 im_X6_gives se_X6_gives rfl (by decide) rfl (Nat.le_of_ble_eq_true rfl) rfl rfl (fun v g q9 => ?_)
            rcases q9 with ⟨rfl, ⟨h10, rfl⟩ | ⟨h10, rfl⟩⟩
            · show mX m_X6_evenest 3 _ 0 0 _ _ [vI (1)] _
              refine x_if_eq 31 (tgt := 50) rfl (by decide) (by decide) (fun h11 => absurd h11 (by decide)) (fun h11 => ?_)
              refine x_iload_n 32 rfl rfl ?_
              refine x_ret 33 (some (vI (w))) rfl ⟨rfl, Or.inl rfl⟩ ⟨congrArg (fun z => some (vI z)) ?_, rfl⟩
              exact (evZ_hit (by omega) (by omega) (by first | (left; assumption) | (right; assumption)) hN).symm
            · show mX m_X6_evenest 3 _ 0 0 _ _ [vI (0)] _
              refine x_if_eq 31 (tgt := 50) rfl (by decide) (by decide) (fun h12 => ?_) (fun h12 => absurd h12 (by decide))
              refine x_iinc 34 (L' := [some (vR (some q)), some (vI (x)), some (vI (sum)), some (vI (w + (-1)))]) rfl (by decide) rfl rfl rfl rfl ?_
              refine x_goto 35 (tgt := 24) rfl (by decide) ?_
              exact ihL3 (w + (-1)) (by omega) (by intro t h1 h2; by_cases e : t = w; (subst e; rintro (h | h) <;> contradiction); (exact hN t (by omega) h2)) (by omega)
    exact loopL3 ((((sum / 2)) + 1) + 1 : Int).toNat (sum / 2) (by omega) (fun t h1 h2 => by omega) (by omega)
  · refine x_iconst 12 rfl ?_
    refine x_ret 13 (some (vI ((-1)))) rfl ⟨rfl, Or.inl rfl⟩ ⟨congrArg (fun z => some (vI z)) ?_, rfl⟩
    refine (evZ_none (fun t h1 h2 => ?_)).symm
    have hz := hz1.mp (by omega)
    have hl0 : l (q + 1) x = 0#64 := by have := hz; apply BitVec.eq_of_getLsbD_eq; intro k hk; have := congrArg (fun z => z.getLsbD k) this; simp [BitVec.getLsbD_or] at this ⊢; exact this.1
    have hl1 : l (q + 2) x = 0#64 := by have := hz; apply BitVec.eq_of_getLsbD_eq; intro k hk; have := congrArg (fun z => z.getLsbD k) this; simp [BitVec.getLsbD_or] at this ⊢; exact this.2
    unfold spB; rw [hl0, hl1]; simp
set_option maxRecDepth 20000 in
set_option maxHeartbeats 2000000 in
theorem c_bits {i : Nat → Int → Int} {l : Nat → Int → BitVec 64} {a b : Int} (ha : -1000 ≤ a ∧ a ≤ 1000) (hb : -1000 ≤ b ∧ b ≤ 1000) : mCtr m_X6_bits 1 0 0 [vI (a), vI (b)] (st i l) (qL (bitsE a b) (st i l)) := by
  refine mCtr_of pl_X6 dc_X6_bits (Nat.le_of_ble_eq_true rfl) rfl ?_
  show mX m_X6_bits 1 _ 0 0 0 [some (vI (a)), some (vI (b)), none, none] [] (st i l)
  refine x_iload_n 0 rfl rfl ?_
  refine x_if_le 1 (tgt := 8) rfl (by decide) (by omega) (fun h1 => ?_) (fun h1 => ?_)
  · refine x_iconst 4 rfl ?_
    refine x_istore_n 5 (L' := [some (vI (a)), some (vI (b)), some (vI (0)), none]) rfl (by decide) rfl rfl ?_
    refine x_iload_n 6 rfl rfl ?_
    refine x_bipush 7 rfl (by decide) ?_
    refine x_icmp_ge 8 (tgt := 20) rfl (by decide) (by omega) (fun h2 => ?_) (fun h2 => ?_)
    · refine x_bipush 11 rfl (by decide) ?_
      refine x_istore_n 12 (L' := [some (vI (a)), some (vI (b)), some (vI (0)), some (vI (63))]) rfl (by decide) rfl rfl ?_
      refine x_iload_n 13 rfl rfl ?_
      refine x_iload_n 14 rfl rfl ?_
      refine x_icmp_le 15 (tgt := 32) rfl (by decide) (by decide) (fun h3 => ?_) (fun h3 => absurd h3 (by decide))
      refine x_ldc2 18 (r := (-1 : BitVec 64)) rfl ck_X6_30 rfl ?_
      refine x_bipush 19 rfl (by decide) ?_
      refine x_iload_n 20 rfl rfl ?_
      refine x_iload_n 21 rfl rfl ?_
      refine x_isub 22 (r := 63 - 0) rfl rfl ?_
      refine x_isub 23 (r := 63 - (63 - 0)) rfl rfl ?_
      refine x_lushr 24 (r := (-1 : BitVec 64) >>> (63 - (63 - 0) : Int).toNat) rfl (by omega) rfl ?_
      refine x_iload_n 25 rfl rfl ?_
      refine x_lshl 26 (r := ((-1 : BitVec 64) >>> (63 - (63 - 0) : Int).toNat) <<< (0 : Int).toNat) rfl (by omega) rfl ?_
      refine x_ret 27 (some (vL (((-1 : BitVec 64) >>> (63 - (63 - 0) : Int).toNat) <<< (0 : Int).toNat))) rfl ⟨rfl, rfl⟩ ⟨congrArg (fun z => some (vL z)) ?_, rfl⟩
      unfold bitsE
      first | (rw [show (if 0 < a then a else 0) = a from if_pos (by omega)]) | (rw [show (if 0 < a then a else 0) = 0 from if_neg (by omega)])
      first | (rw [show (if b < 63 then b else 63) = b from if_pos (by omega)]) | (rw [show (if b < 63 then b else 63) = 63 from if_neg (by omega)])
      first | (rw [if_pos (by omega)]) | (rw [if_neg (by omega)])
    · refine x_iload_n 9 rfl rfl ?_
      refine x_goto 10 (tgt := 22) rfl (by decide) ?_
      refine x_istore_n 12 (L' := [some (vI (a)), some (vI (b)), some (vI (0)), some (vI (b))]) rfl (by decide) rfl rfl ?_
      refine x_iload_n 13 rfl rfl ?_
      refine x_iload_n 14 rfl rfl ?_
      refine x_icmp_le 15 (tgt := 32) rfl (by decide) (by omega) (fun h4 => ?_) (fun h4 => ?_)
      · refine x_ldc2 18 (r := (-1 : BitVec 64)) rfl ck_X6_30 rfl ?_
        refine x_bipush 19 rfl (by decide) ?_
        refine x_iload_n 20 rfl rfl ?_
        refine x_iload_n 21 rfl rfl ?_
        refine x_isub 22 (r := b - 0) rfl rfl ?_
        refine x_isub 23 (r := 63 - (b - 0)) rfl rfl ?_
        refine x_lushr 24 (r := (-1 : BitVec 64) >>> (63 - (b - 0) : Int).toNat) rfl (by omega) rfl ?_
        refine x_iload_n 25 rfl rfl ?_
        refine x_lshl 26 (r := ((-1 : BitVec 64) >>> (63 - (b - 0) : Int).toNat) <<< (0 : Int).toNat) rfl (by omega) rfl ?_
        refine x_ret 27 (some (vL (((-1 : BitVec 64) >>> (63 - (b - 0) : Int).toNat) <<< (0 : Int).toNat))) rfl ⟨rfl, rfl⟩ ⟨congrArg (fun z => some (vL z)) ?_, rfl⟩
        unfold bitsE
        first | (rw [show (if 0 < a then a else 0) = a from if_pos (by omega)]) | (rw [show (if 0 < a then a else 0) = 0 from if_neg (by omega)])
        first | (rw [show (if b < 63 then b else 63) = b from if_pos (by omega)]) | (rw [show (if b < 63 then b else 63) = 63 from if_neg (by omega)])
        first | (rw [if_pos (by omega)]) | (rw [if_neg (by omega)])
      · refine x_lconst 16 (v := 0#64) rfl rfl ?_
        refine x_goto 17 (tgt := 44) rfl (by decide) ?_
        refine x_ret 27 (some (vL (0#64))) rfl ⟨rfl, rfl⟩ ⟨congrArg (fun z => some (vL z)) ?_, rfl⟩
        unfold bitsE
        first | (rw [show (if 0 < a then a else 0) = a from if_pos (by omega)]) | (rw [show (if 0 < a then a else 0) = 0 from if_neg (by omega)])
        first | (rw [show (if b < 63 then b else 63) = b from if_pos (by omega)]) | (rw [show (if b < 63 then b else 63) = 63 from if_neg (by omega)])
        first | (rw [if_pos (by omega)]) | (rw [if_neg (by omega)])
  · refine x_iload_n 2 rfl rfl ?_
    refine x_goto 3 (tgt := 9) rfl (by decide) ?_
    refine x_istore_n 5 (L' := [some (vI (a)), some (vI (b)), some (vI (a)), none]) rfl (by decide) rfl rfl ?_
    refine x_iload_n 6 rfl rfl ?_
    refine x_bipush 7 rfl (by decide) ?_
    refine x_icmp_ge 8 (tgt := 20) rfl (by decide) (by omega) (fun h5 => ?_) (fun h5 => ?_)
    · refine x_bipush 11 rfl (by decide) ?_
      refine x_istore_n 12 (L' := [some (vI (a)), some (vI (b)), some (vI (a)), some (vI (63))]) rfl (by decide) rfl rfl ?_
      refine x_iload_n 13 rfl rfl ?_
      refine x_iload_n 14 rfl rfl ?_
      refine x_icmp_le 15 (tgt := 32) rfl (by decide) (by omega) (fun h6 => ?_) (fun h6 => ?_)
      · refine x_ldc2 18 (r := (-1 : BitVec 64)) rfl ck_X6_30 rfl ?_
        refine x_bipush 19 rfl (by decide) ?_
        refine x_iload_n 20 rfl rfl ?_
        refine x_iload_n 21 rfl rfl ?_
        refine x_isub 22 (r := 63 - a) rfl rfl ?_
        refine x_isub 23 (r := 63 - (63 - a)) rfl rfl ?_
        refine x_lushr 24 (r := (-1 : BitVec 64) >>> (63 - (63 - a) : Int).toNat) rfl (by omega) rfl ?_
        refine x_iload_n 25 rfl rfl ?_
        refine x_lshl 26 (r := ((-1 : BitVec 64) >>> (63 - (63 - a) : Int).toNat) <<< (a : Int).toNat) rfl (by omega) rfl ?_
        refine x_ret 27 (some (vL (((-1 : BitVec 64) >>> (63 - (63 - a) : Int).toNat) <<< (a : Int).toNat))) rfl ⟨rfl, rfl⟩ ⟨congrArg (fun z => some (vL z)) ?_, rfl⟩
        unfold bitsE
        first | (rw [show (if 0 < a then a else 0) = a from if_pos (by omega)]) | (rw [show (if 0 < a then a else 0) = 0 from if_neg (by omega)])
        first | (rw [show (if b < 63 then b else 63) = b from if_pos (by omega)]) | (rw [show (if b < 63 then b else 63) = 63 from if_neg (by omega)])
        first | (rw [if_pos (by omega)]) | (rw [if_neg (by omega)])
      · refine x_lconst 16 (v := 0#64) rfl rfl ?_
        refine x_goto 17 (tgt := 44) rfl (by decide) ?_
        refine x_ret 27 (some (vL (0#64))) rfl ⟨rfl, rfl⟩ ⟨congrArg (fun z => some (vL z)) ?_, rfl⟩
        unfold bitsE
        first | (rw [show (if 0 < a then a else 0) = a from if_pos (by omega)]) | (rw [show (if 0 < a then a else 0) = 0 from if_neg (by omega)])
        first | (rw [show (if b < 63 then b else 63) = b from if_pos (by omega)]) | (rw [show (if b < 63 then b else 63) = 63 from if_neg (by omega)])
        first | (rw [if_pos (by omega)]) | (rw [if_neg (by omega)])
    · refine x_iload_n 9 rfl rfl ?_
      refine x_goto 10 (tgt := 22) rfl (by decide) ?_
      refine x_istore_n 12 (L' := [some (vI (a)), some (vI (b)), some (vI (a)), some (vI (b))]) rfl (by decide) rfl rfl ?_
      refine x_iload_n 13 rfl rfl ?_
      refine x_iload_n 14 rfl rfl ?_
      refine x_icmp_le 15 (tgt := 32) rfl (by decide) (by omega) (fun h7 => ?_) (fun h7 => ?_)
      · refine x_ldc2 18 (r := (-1 : BitVec 64)) rfl ck_X6_30 rfl ?_
        refine x_bipush 19 rfl (by decide) ?_
        refine x_iload_n 20 rfl rfl ?_
        refine x_iload_n 21 rfl rfl ?_
        refine x_isub 22 (r := b - a) rfl rfl ?_
        refine x_isub 23 (r := 63 - (b - a)) rfl rfl ?_
        refine x_lushr 24 (r := (-1 : BitVec 64) >>> (63 - (b - a) : Int).toNat) rfl (by omega) rfl ?_
        refine x_iload_n 25 rfl rfl ?_
        refine x_lshl 26 (r := ((-1 : BitVec 64) >>> (63 - (b - a) : Int).toNat) <<< (a : Int).toNat) rfl (by omega) rfl ?_
        refine x_ret 27 (some (vL (((-1 : BitVec 64) >>> (63 - (b - a) : Int).toNat) <<< (a : Int).toNat))) rfl ⟨rfl, rfl⟩ ⟨congrArg (fun z => some (vL z)) ?_, rfl⟩
        unfold bitsE
        first | (rw [show (if 0 < a then a else 0) = a from if_pos (by omega)]) | (rw [show (if 0 < a then a else 0) = 0 from if_neg (by omega)])
        first | (rw [show (if b < 63 then b else 63) = b from if_pos (by omega)]) | (rw [show (if b < 63 then b else 63) = 63 from if_neg (by omega)])
        first | (rw [if_pos (by omega)]) | (rw [if_neg (by omega)])
      · refine x_lconst 16 (v := 0#64) rfl rfl ?_
        refine x_goto 17 (tgt := 44) rfl (by decide) ?_
        refine x_ret 27 (some (vL (0#64))) rfl ⟨rfl, rfl⟩ ⟨congrArg (fun z => some (vL z)) ?_, rfl⟩
        unfold bitsE
        first | (rw [show (if 0 < a then a else 0) = a from if_pos (by omega)]) | (rw [show (if 0 < a then a else 0) = 0 from if_neg (by omega)])
        first | (rw [show (if b < 63 then b else 63) = b from if_pos (by omega)]) | (rw [show (if b < 63 then b else 63) = 63 from if_neg (by omega)])
        first | (rw [if_pos (by omega)]) | (rw [if_neg (by omega)])
set_option maxRecDepth 20000 in
set_option maxHeartbeats 2000000 in
theorem c_reaches {i : Nat → Int → Int} {l : Nat → Int → BitVec 64} {q : Nat} (hq : isP q) {x a b : Int} (hx : 0 ≤ x ∧ x < 1024) (ha : -900 ≤ a ∧ a ≤ 900) (hb : -900 ≤ b ∧ b ≤ 900) : mCtr m_X6_reaches 2 0 0 [vR (some q), vI (x), vI (a), vI (b)] (st i l) (qB (∃ t : Int, 0 ≤ t ∧ t < 128 ∧ a ≤ t ∧ t ≤ b ∧ spB l q x t) (st i l)) := by
  refine mCtr_of pl_X6 dc_X6_reaches (Nat.le_of_ble_eq_true rfl) rfl ?_
  show mX m_X6_reaches 2 _ 0 0 0 [some (vR (some q)), some (vI (x)), some (vI (a)), some (vI (b))] [] (st i l)
  refine x_aload_n 0 rfl rfl ?_
  refine x_getR 1 (z := (q + 1)) rfl fl_X6_9 (isP_0 hq) (kP hq) rfl (rP0 hq) ?_
  refine x_iload_n 2 rfl rfl ?_
  refine x_lald 3 (z := l (q + 1) x) rfl (isP_1 hq) (kPl hq) (by omega) rfl ?_
  refine x_iload_n 4 rfl rfl ?_
  refine x_iload_n 5 rfl rfl ?_
  refine x_callS 6 m_X6_bits (c_bits (by omega) (by omega)) rfl ok_X6_bits ml_X6_26 st_X6_bits rfl (by decide) rfl (Nat.le_of_ble_eq_true rfl) rfl rfl (fun v g q1 => ?_)
  obtain ⟨rfl, rfl⟩ := q1
  show mX m_X6_reaches 2 _ 0 0 _ _ [vL (bitsE a b), vL (l (q + 1) x)] _
  refine x_land 7 (r := (l (q + 1) x) &&& (bitsE a b)) rfl rfl ?_
  refine x_lconst 8 (v := 0#64) rfl rfl ?_
  refine x_lcmp 9 rfl (fun z2 hz2 gz2 fz2 => ?_)
  refine x_if_ne 10 (tgt := 40) rfl (by decide) (by omega) (fun h3 => ?_) (fun h3 => ?_)
  · refine x_iconst 26 rfl ?_
    refine x_goto 27 (tgt := 45) rfl (by decide) ?_
    refine x_ret 29 (some (vI (1))) rfl ⟨rfl, Or.inr ⟨rfl, by omega⟩⟩ ⟨rfl, Or.inl ⟨?_, rfl⟩⟩
    exact sp_iff.mpr (Or.inl (fun e => h3 (hz2.mpr e)))
  · refine x_aload_n 11 rfl rfl ?_
    refine x_getR 12 (z := (q + 2)) rfl fl_X6_15 (isP_0 hq) (kP hq) rfl (rP1 hq) ?_
    refine x_iload_n 13 rfl rfl ?_
    refine x_lald 14 (z := l (q + 2) x) rfl (isP_2 hq) (kPh hq) (by omega) rfl ?_
    refine x_iload_n 15 rfl rfl ?_
    refine x_bipush 16 rfl (by decide) ?_
    refine x_isub 17 (r := a - 64) rfl rfl ?_
    refine x_iload_n 18 rfl rfl ?_
    refine x_bipush 19 rfl (by decide) ?_
    refine x_isub 20 (r := b - 64) rfl rfl ?_
    refine x_callS 21 m_X6_bits (c_bits (by omega) (by omega)) rfl ok_X6_bits ml_X6_26 st_X6_bits rfl (by decide) rfl (Nat.le_of_ble_eq_true rfl) rfl rfl (fun v g q4 => ?_)
    obtain ⟨rfl, rfl⟩ := q4
    show mX m_X6_reaches 2 _ 0 0 _ _ [vL (bitsE (a - 64) (b - 64)), vL (l (q + 2) x)] _
    refine x_land 22 (r := (l (q + 2) x) &&& (bitsE (a - 64) (b - 64))) rfl rfl ?_
    refine x_lconst 23 (v := 0#64) rfl rfl ?_
    refine x_lcmp 24 rfl (fun z5 hz5 gz5 fz5 => ?_)
    refine x_if_eq 25 (tgt := 44) rfl (by decide) (by omega) (fun h6 => ?_) (fun h6 => ?_)
    · refine x_iconst 28 rfl ?_
      refine x_ret 29 (some (vI (0))) rfl ⟨rfl, Or.inr ⟨rfl, by omega⟩⟩ ⟨rfl, Or.inr ⟨?_, rfl⟩⟩
      exact fun hh => (sp_iff.mp hh).elim (fun e => e (hz2.mp h3)) (fun e => e (hz5.mp h6))
    · refine x_iconst 26 rfl ?_
      refine x_goto 27 (tgt := 45) rfl (by decide) ?_
      refine x_ret 29 (some (vI (1))) rfl ⟨rfl, Or.inr ⟨rfl, by omega⟩⟩ ⟨rfl, Or.inl ⟨?_, rfl⟩⟩
      exact sp_iff.mpr (Or.inr (fun e => h6 (hz5.mpr e)))
end
section
/-! placing: the voices, and what the rows know of them -/
/-- a voice: singer, strength, parts that fit; a list has the latest voice first -/
abbrev vO : Type := Int × Int × Int
def vB (m : Int) (p : Nat) : Prop := (BitVec.ofInt 64 m).getLsbD p = true
def vZ (m : Int) (p : Nat) : Int := if (BitVec.ofInt 64 m).getLsbD p = true then 1 else 0
theorem vZ_01 (m : Int) (p : Nat) : vZ m p = 0 ∨ vZ m p = 1 := by unfold vZ; split <;> omega
theorem vZ_ne (m : Int) (p : Nat) : vZ m p ≠ 0 ↔ vB m p := by unfold vZ vB; split <;> simp [*]
def sumS : List vO → Int → Int
  | [], _ => 0
  | v :: r, s => if s < 2 ^ r.length then sumS r s else v.2.1 + sumS r (s - 2 ^ r.length)
/-- whether the one part (of the parts pa, pb) can get t of the set s -/
def rch (pa pb : Nat) : List vO → Int → Int → Prop
  | [], _, t => t = 0
  | v :: r, s, t => if s < 2 ^ r.length then rch pa pb r s t else (vB v.2.2 pb ∧ rch pa pb r (s - 2 ^ r.length) t) ∨ (vB v.2.2 pa ∧ v.2.1 ≤ t ∧ rch pa pb r (s - 2 ^ r.length) (t - v.2.1))
def vAt (r : List vO) (k : Int) : vO := r.getD (r.length - 1 - k.toNat) (0, 0, 0)
def PL (i : Nat → Int → Int) (l : Nat → Int → BitVec 64) (r : List vO) : Prop :=
  i 177 7 = r.length ∧ r.length ≤ 10 ∧ (∀ v ∈ r, 1 ≤ v.2.1 ∧ v.2.1 ≤ 9) ∧ (∀ k : Int, 0 ≤ k → k < r.length → i 186 k = (vAt r k).1 ∧ i 187 k = (vAt r k).2.1 ∧ i 188 k = (vAt r k).2.2) ∧ (∀ s : Int, 0 ≤ s → s < 2 ^ r.length → i 184 s = sumS r s) ∧
  ∀ s t : Int, 0 ≤ s → s < 2 ^ r.length → 0 ≤ t → t < 128 → (spB l 178 s t ↔ rch 0 1 r s t) ∧ (spB l 181 s t ↔ rch 2 3 r s t)
theorem vAt_old {v : vO} {r : List vO} {k : Int} (h0 : 0 ≤ k) (h : k < r.length) : vAt (v :: r) k = vAt r k := by
  unfold vAt
  rw [List.length_cons, show r.length + 1 - 1 - k.toNat = (r.length - 1 - k.toNat) + 1 by omega, List.getD_cons_succ]
theorem vAt_new (v : vO) (r : List vO) : vAt (v :: r) r.length = v := by
  unfold vAt
  rw [List.length_cons, show r.length + 1 - 1 - (r.length : Int).toNat = 0 by omega, List.getD_cons_zero]
theorem sumS_bd {r : List vO} (h : ∀ v ∈ r, 1 ≤ v.2.1 ∧ v.2.1 ≤ 9) (s : Int) : 0 ≤ sumS r s ∧ sumS r s ≤ 9 * r.length := by
  induction r generalizing s with
  | nil => simp [sumS]
  | cons v r ih =>
    have h1 := h v List.mem_cons_self
    have ih' := fun s => ih (fun w hw => h w (List.mem_cons_of_mem _ hw)) s
    unfold sumS
    rw [List.length_cons]
    split
    · have := ih' s; omega
    · have := ih' (s - 2 ^ r.length); omega
/-- what the one part gets is no more than all -/
theorem rch_bd {pa pb : Nat} {r : List vO} (h : ∀ v ∈ r, 1 ≤ v.2.1 ∧ v.2.1 ≤ 9) {s t : Int} (hr : rch pa pb r s t) : 0 ≤ t ∧ t ≤ sumS r s := by
  induction r generalizing s t with
  | nil => simp [rch] at hr; subst hr; simp [sumS]
  | cons v r ih =>
    have h1 := h v List.mem_cons_self
    have ih' := @ih (fun w hw => h w (List.mem_cons_of_mem _ hw))
    unfold rch at hr
    unfold sumS
    split at hr
    · rename_i hs
      rw [if_pos hs]
      exact ih' hr
    · rename_i hs
      rw [if_neg hs]
      rcases hr with ⟨-, hr⟩ | ⟨-, -, hr⟩
      · have := ih' hr; omega
      · have := ih' hr; omega
theorem bv_shl (A : BitVec 64) (m k : Nat) (hk : k < 64) : (A <<< m).getLsbD k = true ↔ m ≤ k ∧ A.getLsbD (k - m) = true := by
  rw [BitVec.getLsbD_shiftLeft]
  by_cases h : k < m
  · simp [h]; omega
  · rw [decide_eq_true hk, decide_eq_false h]
    simp only [Bool.not_false, Bool.true_and, Bool.and_true]
    constructor
    · intro h1; exact ⟨by omega, h1⟩
    · intro h1; exact h1.2
theorem avB {l l' : Nat → Int → BitVec 64} {q : Nat} {P f o s x t : Int} (hA : avA l l' q P f o s P) (hx : P ≤ x ∧ x < P + P) (hs : 1 ≤ s ∧ s ≤ 9) (ht : 0 ≤ t ∧ t < 128) : spB l' q x t ↔ (o ≠ 0 ∧ spB l q (x - P) t) ∨ (f ≠ 0 ∧ s ≤ t ∧ spB l q (x - P) (t - s)) := by
  have e1 : l' (q + 1) x = avL f o s (l (q + 1) (x - P)) := by rw [hA, if_pos ⟨rfl, hx⟩]
  have e2 : l' (q + 2) x = avH f o s (l (q + 1) (x - P)) (l (q + 2) (x - P)) := by rw [hA, if_neg (by omega), if_pos ⟨rfl, hx⟩]
  unfold spB
  rw [e1, e2]
  generalize l (q + 1) (x - P) = A
  generalize l (q + 2) (x - P) = B
  have z0 : ∀ k, (0#64).getLsbD k = false := fun k => by simp
  by_cases h64 : t < 64
  · simp only [if_pos h64, if_pos (show t - s < 64 by omega)]
    have sh := bv_shl A s.toNat t.toNat (by omega)
    rw [show t.toNat - s.toNat = (t - s).toNat by omega, show (s.toNat ≤ t.toNat) = (s ≤ t) from propext (by omega)] at sh
    unfold avL
    split <;> split <;> (try simp only [BitVec.getLsbD_or, Bool.or_eq_true, z0, sh]) <;> grind
  · simp only [if_neg h64]
    by_cases h64s : t - s < 64
    · simp only [if_pos h64s]
      have sh := bv_shl B s.toNat (t - 64).toNat (by omega)
      have su : (A >>> (64 - s).toNat).getLsbD (t - 64).toNat = A.getLsbD (t - s).toNat := by rw [BitVec.getLsbD_ushiftRight]; congr 1; omega
      have hno : ¬ s.toNat ≤ (t - 64).toNat := by omega
      have hst : s ≤ t := by omega
      have shB : (B <<< s.toNat).getLsbD (t - 64).toNat = false := by
        rw [Bool.eq_false_iff]; intro h; exact hno (sh.mp h).1
      unfold avH
      by_cases hf : f = 0 <;> by_cases ho : o = 0 <;> simp only [hf, ho, ne_eq, not_true_eq_false, not_false_eq_true, if_true, if_false, BitVec.getLsbD_or, Bool.or_eq_true, z0, shB, su, hst, true_and, false_and, false_or, or_false, Bool.false_eq_true]
    · simp only [if_neg h64s]
      have sh := bv_shl B s.toNat (t - 64).toNat (by omega)
      rw [show (t - 64).toNat - s.toNat = (t - s - 64).toNat by omega] at sh
      have su : (A >>> (64 - s).toNat).getLsbD (t - 64).toNat = false := by
        rw [BitVec.getLsbD_ushiftRight]
        exact BitVec.getLsbD_of_ge _ _ (by omega)
      have hst : s ≤ t := by omega
      have shB : (B <<< s.toNat).getLsbD (t - 64).toNat = B.getLsbD (t - s - 64).toNat := by
        rw [Bool.eq_iff_iff, sh]
        exact ⟨fun h => h.2, fun h => ⟨by omega, h⟩⟩
      unfold avH
      by_cases hf : f = 0 <;> by_cases ho : o = 0 <;> simp only [hf, ho, ne_eq, not_true_eq_false, not_false_eq_true, if_true, if_false, BitVec.getLsbD_or, Bool.or_eq_true, z0, shB, su, hst, true_and, false_and, false_or, or_false, Bool.false_eq_true]
theorem avB_old {l l' : Nat → Int → BitVec 64} {q : Nat} {P f o s x t : Int} (hA : avA l l' q P f o s P) (hx : x < P) : spB l' q x t ↔ spB l q x t := by
  have e1 : l' (q + 1) x = l (q + 1) x := by rw [hA, if_neg (by omega), if_neg (by omega)]
  have e2 : l' (q + 2) x = l (q + 2) x := by rw [hA, if_neg (by omega), if_neg (by omega)]
  unfold spB
  rw [e1, e2]
theorem avB_else {l l' : Nat → Int → BitVec 64} {q q2 : Nat} {P f o s x t y : Int} (hA : avA l l' q P f o s y) (h1 : q2 + 1 ≠ q + 1 ∧ q2 + 1 ≠ q + 2 ∧ q2 + 2 ≠ q + 1 ∧ q2 + 2 ≠ q + 2) : spB l' q2 x t ↔ spB l q2 x t := by
  have e1 : l' (q2 + 1) x = l (q2 + 1) x := by rw [hA, if_neg (by omega), if_neg (by omega)]
  have e2 : l' (q2 + 2) x = l (q2 + 2) x := by rw [hA, if_neg (by omega), if_neg (by omega)]
  unfold spB
  rw [e1, e2]
/-- what a voice that comes adds -/
def adI (i i' : Nat → Int → Int) (k g m : Int) : Prop := ∀ a b, i' a b = if a = 177 ∧ b = 7 then i 177 7 + 1 else if a = 184 ∧ 2 ^ (i 177 7).toNat ≤ b ∧ b < 2 ^ (i 177 7).toNat + 2 ^ (i 177 7).toNat then i 184 (b - 2 ^ (i 177 7).toNat) + g else if a = 186 ∧ b = i 177 7 then k else if a = 187 ∧ b = i 177 7 then g else if a = 188 ∧ b = i 177 7 then m else i a b
def adL (l l' : Nat → Int → BitVec 64) (V g m : Int) : Prop := ∃ l1, avA l l1 178 (2 ^ V.toNat) (vZ m 0) (vZ m 1) g (2 ^ V.toNat) ∧ avA l1 l' 181 (2 ^ V.toNat) (vZ m 2) (vZ m 3) g (2 ^ V.toNat)
theorem PL_add {i i' : Nat → Int → Int} {l l' : Nat → Int → BitVec 64} {r : List vO} {k g m : Int} (h : PL i l r) (hr : r.length ≤ 9) (hg : 1 ≤ g ∧ g ≤ 9) (hi : adI i i' k g m) (hl : adL l l' (i 177 7) g m) : PL i' l' ((k, g, m) :: r) := by
  obtain ⟨h1, h2, h3, h4, h5, h6⟩ := h
  obtain ⟨l1, hA, hB⟩ := hl
  have hV : (i 177 7).toNat = r.length := by omega
  rw [hV] at hA hB
  have hi' := hi
  unfold adI at hi'
  rw [hV, h1] at hi'
  have h2p : (2 : Int) ^ (r.length + 1) = 2 ^ r.length + 2 ^ r.length := by rw [Int.pow_succ]; omega
  refine ⟨by rw [hi', if_pos ⟨rfl, rfl⟩]; simp, by simp; omega, fun v hv => ?_, fun kk hk0 hk1 => ?_, fun s hs0 hs1 => ?_, fun s t hs0 hs1 ht0 ht1 => ?_⟩
  · rcases List.mem_cons.mp hv with rfl | hv
    · exact hg
    · exact h3 v hv
  · rw [List.length_cons] at hk1
    simp only [hi']
    by_cases hkl : kk = r.length
    · subst hkl
      rw [vAt_new]
      simp
    · have hkl' : kk < r.length := by omega
      rw [vAt_old hk0 hkl']
      have := h4 kk hk0 hkl'
      simp [hkl, this]
  · rw [List.length_cons, h2p] at hs1
    rw [hi']
    unfold sumS
    by_cases hs : s < 2 ^ r.length
    · rw [if_pos hs, if_neg (by omega), if_neg (by omega), if_neg (by omega), if_neg (by omega), if_neg (by omega)]
      exact h5 s hs0 hs
    · rw [if_neg hs, if_neg (by omega), if_pos ⟨rfl, by omega, by omega⟩, h5 _ (by omega) (by omega)]
      simp only
      omega
  · rw [List.length_cons, h2p] at hs1
    unfold rch
    by_cases hs : s < 2 ^ r.length
    · rw [if_pos hs, if_pos hs]
      have := h6 s t hs0 hs ht0 ht1
      rw [avB_else hB (by decide), avB_old hA hs, avB_old hB hs, avB_else hA (by decide)]
      exact this
    · rw [if_neg hs, if_neg hs]
      have hx : (2 : Int) ^ r.length ≤ s ∧ s < 2 ^ r.length + 2 ^ r.length := by omega
      rw [avB_else hB (by decide), avB hA hx hg ⟨ht0, ht1⟩, avB hB hx hg ⟨ht0, ht1⟩]
      have e1 : ∀ t, spB l1 181 (s - 2 ^ r.length) t ↔ spB l 181 (s - 2 ^ r.length) t := fun t => avB_else hA (by decide)
      rw [e1, e1, vZ_ne, vZ_ne, vZ_ne, vZ_ne]
      have i1 := h6 (s - 2 ^ r.length) t (by omega) (by omega) ht0 ht1
      constructor
      · rw [i1.1]
        refine or_congr Iff.rfl ?_
        by_cases hgt : g ≤ t
        · rw [(h6 (s - 2 ^ r.length) (t - g) (by omega) (by omega) (by omega) (by omega)).1]
        · simp [hgt]
      · rw [i1.2]
        refine or_congr Iff.rfl ?_
        by_cases hgt : g ≤ t
        · rw [(h6 (s - 2 ^ r.length) (t - g) (by omega) (by omega) (by omega) (by omega)).2]
        · simp [hgt]
end
section
/-! placing: its methods -/
theorem x_eqS {M : mM} {d cb sb pc : Nat} {Qa : Option mV → mS → Prop} {L : List (Option mV)} {S S' : List mV} {g : mS} (h : S = S') (k : mX M d Qa cb sb pc L S' g) : mX M d Qa cb sb pc L S g := h ▸ k
theorem ad_step {i ii i' : Nat → Int → Int} {k g m x P : Int} (h0 : 0 ≤ x) (hA : ∀ a b, ii a b = if a = 184 ∧ P ≤ b ∧ b < P + x then i 184 (b - P) + g else if a = 186 ∧ b = i 177 7 then k else if a = 187 ∧ b = i 177 7 then g else if a = 188 ∧ b = i 177 7 then m else i a b)
    (hi : i' = mU ii 184 (P + x) (i 184 x + g)) : ∀ a b, i' a b = if a = 184 ∧ P ≤ b ∧ b < P + (x + 1) then i 184 (b - P) + g else if a = 186 ∧ b = i 177 7 then k else if a = 187 ∧ b = i 177 7 then g else if a = 188 ∧ b = i 177 7 then m else i a b := by
  intro a b
  subst hi
  simp only [mU]
  by_cases h1 : a = 184 ∧ b = P + x
  · obtain ⟨rfl, rfl⟩ := h1
    rw [if_pos ⟨rfl, rfl⟩, if_pos ⟨rfl, by omega, by omega⟩, show P + x - P = x by omega]
  · rw [if_neg h1, hA]
    have e1 : (a = 184 ∧ P ≤ b ∧ b < P + x) ↔ (a = 184 ∧ P ≤ b ∧ b < P + (x + 1)) := by
      constructor
      · rintro ⟨q1, q2, q3⟩; exact ⟨q1, q2, by omega⟩
      · rintro ⟨q1, q2, q3⟩; exact ⟨q1, q2, by have := fun e => h1 ⟨q1, e⟩; omega⟩
    simp only [e1]
theorem pow10 {n : Nat} (h : n ≤ 10) : (1 : Int) ≤ 2 ^ n ∧ (2 : Int) ^ n ≤ 1024 := by
  have h1 : 2 ^ n ≤ 2 ^ 10 := Nat.pow_le_pow_right (by decide) h
  have h2 : 0 < 2 ^ n := Nat.two_pow_pos n
  have e : ((2 ^ n : Nat) : Int) = 2 ^ n := by simp
  omega
noncomputable def evP (pa pb : Nat) (r : List vO) (x : Int) : Int := evZ (fun t => rch pa pb r x t ∨ rch pa pb r x (sumS r x - t)) (sumS r x / 2)
theorem evZ_congr {f f' : Int → Prop} {m : Int} (h : ∀ t, 0 ≤ t → t ≤ m → (f t ↔ f' t)) : evZ f m = evZ f' m := by
  classical
  unfold evZ
  have key : ∀ k : Nat, k ≤ (m + 1).toNat → evN f k = evN f' k := by
    intro k
    induction k with
    | zero => intro _; rfl
    | succ k ih =>
      intro hk
      show (if f ((k : Nat) : Int) then ((k : Nat) : Int) else evN f k) = (if f' ((k : Nat) : Int) then ((k : Nat) : Int) else evN f' k)
      rw [ih (by omega), show f ((k : Nat) : Int) = f' ((k : Nat) : Int) from propext (h _ (by omega) (by omega))]
  exact key _ (Nat.le_refl _)
theorem evZ_bd (f : Int → Prop) {m : Int} : evZ f m = -1 ∨ (0 ≤ evZ f m ∧ evZ f m ≤ m) := by
  classical
  unfold evZ
  have key : ∀ k : Nat, k ≤ (m + 1).toNat → evN f k = -1 ∨ (0 ≤ evN f k ∧ evN f k ≤ m) := by
    intro k
    induction k with
    | zero => intro _; left; rfl
    | succ k ih =>
      intro hk
      have := ih (by omega)
      show (if f ((k : Nat) : Int) then ((k : Nat) : Int) else evN f k) = -1 ∨ (0 ≤ (if f ((k : Nat) : Int) then ((k : Nat) : Int) else evN f k) ∧ (if f ((k : Nat) : Int) then ((k : Nat) : Int) else evN f k) ≤ m)
      split <;> omega
  exact key _ (Nat.le_refl _)
theorem evP_bd {pa pb : Nat} {r : List vO} (h : ∀ v ∈ r, 1 ≤ v.2.1 ∧ v.2.1 ≤ 9) (x : Int) : evP pa pb r x = -1 ∨ (0 ≤ evP pa pb r x ∧ evP pa pb r x ≤ sumS r x / 2) := evZ_bd _
theorem PL_sum {i : Nat → Int → Int} {l : Nat → Int → BitVec 64} {r : List vO} (h : PL i l r) {x : Int} (hx : 0 ≤ x ∧ x < 2 ^ r.length) : i 184 x = sumS r x ∧ 0 ≤ sumS r x ∧ sumS r x ≤ 90 := by
  have h1 := h.2.2.2.2.1 x hx.1 hx.2
  have h2 := sumS_bd h.2.2.1 x
  have h3 := h.2.1
  exact ⟨h1, by omega, by omega⟩
theorem PL_evU {i : Nat → Int → Int} {l : Nat → Int → BitVec 64} {r : List vO} (h : PL i l r) {x : Int} (hx : 0 ≤ x ∧ x < 2 ^ r.length) : evZ (fun t => spB l 178 x t ∨ spB l 178 x (sumS r x - t)) (sumS r x / 2) = evP 0 1 r x := by
  have hs := PL_sum h hx
  refine evZ_congr (fun t h0 h1 => ?_)
  exact or_congr (h.2.2.2.2.2 x t hx.1 hx.2 h0 (by omega)).1 (h.2.2.2.2.2 x _ hx.1 hx.2 (by omega) (by omega)).1
theorem PL_evL {i : Nat → Int → Int} {l : Nat → Int → BitVec 64} {r : List vO} (h : PL i l r) {x : Int} (hx : 0 ≤ x ∧ x < 2 ^ r.length) : evZ (fun t => spB l 181 x t ∨ spB l 181 x (sumS r x - t)) (sumS r x / 2) = evP 2 3 r x := by
  have hs := PL_sum h hx
  refine evZ_congr (fun t h0 h1 => ?_)
  exact or_congr (h.2.2.2.2.2 x t hx.1 hx.2 h0 (by omega)).2 (h.2.2.2.2.2 x _ hx.1 hx.2 (by omega) (by omega)).2
/-- the better of what is known and of the sets x above, y below -/
noncomputable def wpS (r : List vO) (x y : Int) (g : Int × Int) : Int × Int :=
  if evP 0 1 r x < 0 ∨ evP 2 3 r y < 0 then g
  else if g.1 < min (evP 0 1 r x) (evP 2 3 r y) ∨ (min (evP 0 1 r x) (evP 2 3 r y) = g.1 ∧ max (sumS r x - evP 0 1 r x) (sumS r y - evP 2 3 r y) < g.2) then (min (evP 0 1 r x) (evP 2 3 r y), max (sumS r x - evP 0 1 r x) (sumS r y - evP 2 3 r y)) else g
set_option maxRecDepth 20000 in
set_option maxHeartbeats 2000000 in
theorem c_containsI {i : Nat → Int → Int} {l : Nat → Int → BitVec 64} {b : BitVec 64} {x : Int} (hx : 0 ≤ x ∧ x < 64) : mCtr m_X8_contains 1 0 0 [vL (b), vI (x)] (st i l) (qI (if b.getLsbD x.toNat = true then 1 else 0) (st i l)) := by
  refine mCtr_of pl_X8 dc_X8_contains (Nat.le_of_ble_eq_true rfl) rfl ?_
  show mX m_X8_contains 1 _ 0 0 0 [some (vL (b)), none, some (vI (x))] [] (st i l)
  refine x_lload_n 0 rfl rfl ?_
  refine x_iload_n 1 rfl rfl ?_
  refine x_lushr 2 (r := b >>> (x : Int).toNat) rfl (by omega) rfl ?_
  refine x_lconst 3 (v := 1#64) rfl rfl ?_
  refine x_land 4 (r := (b >>> (x : Int).toNat) &&& (1#64)) rfl rfl ?_
  refine x_lconst 5 (v := 0#64) rfl rfl ?_
  refine x_lcmp 6 rfl (fun z1 hz1 gz1 fz1 => ?_)
  refine x_if_eq 7 (tgt := 14) rfl (by decide) (by omega) (fun h2 => ?_) (fun h2 => ?_)
  · refine x_iconst 10 rfl ?_
    refine x_ret 11 (some (vI (0))) rfl ⟨rfl, Or.inr ⟨rfl, by omega⟩⟩ ⟨congrArg (fun z => some (vI z)) ?_, rfl⟩
    have e2 : z1 = 0 ↔ b.getLsbD x.toNat = false := Iff.trans hz1 (mBit b x.toNat)
    cases hb : b.getLsbD x.toNat <;> simp_all
  · refine x_iconst 8 rfl ?_
    refine x_goto 9 (tgt := 15) rfl (by decide) ?_
    refine x_ret 11 (some (vI (1))) rfl ⟨rfl, Or.inr ⟨rfl, by omega⟩⟩ ⟨congrArg (fun z => some (vI z)) ?_, rfl⟩
    have e2 : z1 = 0 ↔ b.getLsbD x.toNat = false := Iff.trans hz1 (mBit b x.toNat)
    cases hb : b.getLsbD x.toNat <;> simp_all
set_option maxRecDepth 20000 in
set_option maxHeartbeats 2000000 in
theorem c_pl_addVoice {i : Nat → Int → Int} {l : Nat → Int → BitVec 64} {k g m : Int} (hV : 0 ≤ i 177 7 ∧ i 177 7 ≤ 9) (hg : 1 ≤ g ∧ g ≤ 9) (hm : 0 ≤ m ∧ m ≤ 15) (hsm : ∀ s, 0 ≤ s → s < 2 ^ (i 177 7).toNat → 0 ≤ i 184 s ∧ i 184 s ≤ 100) : mCtr m_X2_addVoice 2 0 0 [vR (some 177), vI (k), vI (g), vI (m)] (st i l) (qV (fun i' l' => adI i i' k g m ∧ adL l l' (i 177 7) g m)) := by
  refine mCtr_of pl_X2 dc_X2_addVoice (Nat.le_of_ble_eq_true rfl) rfl ?_
  show mX m_X2_addVoice 2 _ 0 0 0 [some (vR (some 177)), some (vI (k)), some (vI (g)), some (vI (m)), none, none] [] (st i l)
  have hp := pow9 hV
  refine x_aload_n 0 rfl rfl ?_
  refine x_getR 1 (z := 186) rfl fl_X2_28 (n_lt rfl) k_177 rfl r_177_4 ?_
  refine x_aload_n 2 rfl rfl ?_
  refine x_getI 3 (z := i 177 7) rfl fl_X2_37 (n_lt rfl) k_177 rfl rfl ?_
  refine x_eqS (S' := [vI (i 177 7), vR (some 186)]) (by rw [show i 177 7 = i 177 7 by subst_vars; simp [mU]]) ?_
  refine x_iload_n 4 rfl rfl ?_
  obtain ⟨i1, hi1⟩ : ∃ f, f = mU i 186 (i 177 7) (k) := ⟨_, rfl⟩
  refine x_iast 5 rfl (n_lt rfl) k_186 (by omega) (g' := st i1 l) (by subst hi1; rfl) ?_
  refine x_aload_n 6 rfl rfl ?_
  refine x_getR 7 (z := 187) rfl fl_X2_31 (n_lt rfl) k_177 rfl r_177_5 ?_
  refine x_aload_n 8 rfl rfl ?_
  refine x_getI 9 (z := i1 177 7) rfl fl_X2_37 (n_lt rfl) k_177 rfl rfl ?_
  refine x_eqS (S' := [vI (i 177 7), vR (some 187)]) (by rw [show i1 177 7 = i 177 7 by subst_vars; simp [mU]]) ?_
  refine x_iload_n 10 rfl rfl ?_
  obtain ⟨i2, hi2⟩ : ∃ f, f = mU i1 187 (i 177 7) (g) := ⟨_, rfl⟩
  refine x_iast 11 rfl (n_lt rfl) k_187 (by omega) (g' := st i2 l) (by subst hi2; rfl) ?_
  refine x_aload_n 12 rfl rfl ?_
  refine x_getR 13 (z := 188) rfl fl_X2_34 (n_lt rfl) k_177 rfl r_177_6 ?_
  refine x_aload_n 14 rfl rfl ?_
  refine x_getI 15 (z := i2 177 7) rfl fl_X2_37 (n_lt rfl) k_177 rfl rfl ?_
  refine x_eqS (S' := [vI (i 177 7), vR (some 188)]) (by rw [show i2 177 7 = i 177 7 by subst_vars; simp [mU]]) ?_
  refine x_iload_n 16 rfl rfl ?_
  obtain ⟨i3, hi3⟩ : ∃ f, f = mU i2 188 (i 177 7) (m) := ⟨_, rfl⟩
  refine x_iast 17 rfl (n_lt rfl) k_188 (by omega) (g' := st i3 l) (by subst hi3; rfl) ?_
  refine x_iconst 18 rfl ?_
  refine x_aload_n 19 rfl rfl ?_
  refine x_getI 20 (z := i3 177 7) rfl fl_X2_37 (n_lt rfl) k_177 rfl rfl ?_
  refine x_eqS (S' := [vI (i 177 7), vI (1)]) (by rw [show i3 177 7 = i 177 7 by subst_vars; simp [mU]]) ?_
  refine x_ishl 21 (r := 1 * 2 ^ (i 177 7).toNat) rfl (by omega) rfl ?_
  refine x_istore 22 (L' := [some (vR (some 177)), some (vI (k)), some (vI (g)), some (vI (m)), some (vI (1 * 2 ^ (i 177 7).toNat)), none]) rfl (by decide) rfl rfl ?_
  refine x_iconst 23 rfl ?_
  refine x_istore 24 (L' := [some (vR (some 177)), some (vI (k)), some (vI (g)), some (vI (m)), some (vI (1 * 2 ^ (i 177 7).toNat)), some (vI (0))]) rfl (by decide) rfl rfl ?_
  have loopL4 : ∀ (nz : Nat) (ii : Nat → Int → Int) (x : Int), (0 ≤ x ∧ x ≤ 2 ^ (i 177 7).toNat) → (∀ a b, ii a b = if a = 184 ∧ 2 ^ (i 177 7).toNat ≤ b ∧ b < 2 ^ (i 177 7).toNat + x then i 184 (b - 2 ^ (i 177 7).toNat) + g else if a = 186 ∧ b = i 177 7 then k else if a = 187 ∧ b = i 177 7 then g else if a = 188 ∧ b = i 177 7 then m else i a b) → (2 ^ (i 177 7).toNat - x) < (nz : Int) → mX m_X2_addVoice 2 (qV (fun i' l' => adI i i' k g m ∧ adL l l' (i 177 7) g m)) 0 0 41 [some (vR (some 177)), some (vI (k)), some (vI (g)), some (vI (m)), some (vI (1 * 2 ^ (i 177 7).toNat)), some (vI (x))] [] (st ii l) := by
    intro nz
    induction nz with
    | zero => intro ii x hx hA hz; exact absurd hz (by omega)
    | succ nz ihL4 =>
      intro ii x hx hA hzL4
      refine x_iload 25 rfl rfl ?_
      refine x_iload 26 rfl rfl ?_
      refine x_icmp_ge 27 (tgt := 73) rfl (by decide) (by omega) (fun h5 => ?_) (fun h5 => ?_)
      · have hxe : x = 2 ^ (i 177 7).toNat := by omega
        refine x_aload_n 42 rfl rfl ?_
        refine x_getR 43 (z := 178) rfl fl_X2_12 (n_lt rfl) k_177 rfl r_177_0 ?_
        refine x_aload_n 44 rfl rfl ?_
        refine x_getI 45 (z := ii 177 7) rfl fl_X2_37 (n_lt rfl) k_177 rfl rfl ?_
        refine x_eqS (S' := [vI (i 177 7), vR (some 178)]) (by rw [show ii 177 7 = i 177 7 by rw [hA, if_neg (by omega), if_neg (by omega), if_neg (by omega), if_neg (by omega)]]) ?_
        refine x_iload_n 46 rfl rfl ?_
        refine x_iload_n 47 rfl rfl ?_
        refine x_i2l 48 (r := BitVec.ofInt 64 m) rfl (by omega) rfl ?_
        refine x_iconst 49 rfl ?_
        refine x_callSN 50 m_X8_contains (c_containsI (by omega)) rfl ok_X8_contains (by decide +kernel) st_X8_contains rfl (by decide) rfl (Nat.le_of_ble_eq_true rfl) rfl rfl (fun v g q6 => ?_)
        obtain ⟨rfl, rfl⟩ := q6
        show mX m_X2_addVoice 2 _ 0 0 _ _ [vI (vZ m 0), vI (g), vI (i 177 7), vR (some 178)] _
        have h03 := vZ_01 m 0
        refine x_iload_n 51 rfl rfl ?_
        refine x_i2l 52 (r := BitVec.ofInt 64 m) rfl (by omega) rfl ?_
        refine x_iconst 53 rfl ?_
        refine x_callSN 54 m_X8_contains (c_containsI (by omega)) rfl ok_X8_contains (by decide +kernel) st_X8_contains rfl (by decide) rfl (Nat.le_of_ble_eq_true rfl) rfl rfl (fun v g q7 => ?_)
        obtain ⟨rfl, rfl⟩ := q7
        show mX m_X2_addVoice 2 _ 0 0 _ _ [vI (vZ m 1), vI (vZ m 0), vI (g), vI (i 177 7), vR (some 178)] _
        have h04 := vZ_01 m 1
        refine x_callV 55 m_X6_addVoice (c_sp_addVoice isP_178 (by omega) (by omega) (by omega) (by omega)) rfl ok_X6_addVoice (isP_0 isP_178) (kP isP_178) rfl rfl ml_X2_76 im_X6_addVoice se_X6_addVoice rfl (by decide) rfl (Nat.le_of_ble_eq_true rfl) rfl rfl (fun v g q8 => ?_)
        obtain ⟨rfl, i9, li9, rfl, hi9⟩ := q8
        obtain ⟨hEi9, hi9⟩ := hi9
        have hEi9 := hEi9.symm
        subst hEi9
        show mX m_X2_addVoice 2 _ 0 0 _ _ [] _
        have hv1 := hi9
        have h01 := vZ_01 m 2
        have h02 := vZ_01 m 3
        refine x_aload_n 56 rfl rfl ?_
        refine x_getR 57 (z := 181) rfl fl_X2_18 (n_lt rfl) k_177 rfl r_177_1 ?_
        refine x_aload_n 58 rfl rfl ?_
        refine x_getI 59 (z := ii 177 7) rfl fl_X2_37 (n_lt rfl) k_177 rfl rfl ?_
        refine x_eqS (S' := [vI (i 177 7), vR (some 181)]) (by rw [show ii 177 7 = i 177 7 by rw [hA, if_neg (by omega), if_neg (by omega), if_neg (by omega), if_neg (by omega)]]) ?_
        refine x_iload_n 60 rfl rfl ?_
        refine x_iload_n 61 rfl rfl ?_
        refine x_i2l 62 (r := BitVec.ofInt 64 m) rfl (by omega) rfl ?_
        refine x_iconst 63 rfl ?_
        refine x_callSN 64 m_X8_contains (c_containsI (by omega)) rfl ok_X8_contains (by decide +kernel) st_X8_contains rfl (by decide) rfl (Nat.le_of_ble_eq_true rfl) rfl rfl (fun v g q10 => ?_)
        obtain ⟨rfl, rfl⟩ := q10
        show mX m_X2_addVoice 2 _ 0 0 _ _ [vI (vZ m 2), vI (g), vI (i 177 7), vR (some 181)] _
        refine x_iload_n 65 rfl rfl ?_
        refine x_i2l 66 (r := BitVec.ofInt 64 m) rfl (by omega) rfl ?_
        refine x_iconst 67 rfl ?_
        refine x_callSN 68 m_X8_contains (c_containsI (by omega)) rfl ok_X8_contains (by decide +kernel) st_X8_contains rfl (by decide) rfl (Nat.le_of_ble_eq_true rfl) rfl rfl (fun v g q11 => ?_)
        obtain ⟨rfl, rfl⟩ := q11
        show mX m_X2_addVoice 2 _ 0 0 _ _ [vI (vZ m 3), vI (vZ m 2), vI (g), vI (i 177 7), vR (some 181)] _
        refine x_callV 69 m_X6_addVoice (c_sp_addVoice isP_181 (by omega) (by omega) (by omega) (by omega)) rfl ok_X6_addVoice (isP_0 isP_181) (kP isP_181) rfl rfl ml_X2_76 im_X6_addVoice se_X6_addVoice rfl (by decide) rfl (Nat.le_of_ble_eq_true rfl) rfl rfl (fun v g q12 => ?_)
        obtain ⟨rfl, i13, li13, rfl, hi13⟩ := q12
        obtain ⟨hEi13, hi13⟩ := hi13
        have hEi13 := hEi13.symm
        subst hEi13
        show mX m_X2_addVoice 2 _ 0 0 _ _ [] _
        have hv2 := hi13
        refine x_aload_n 70 rfl rfl ?_
        refine x_dup 71 rfl rfl ?_
        refine x_getI 72 (z := ii 177 7) rfl fl_X2_37 (n_lt rfl) k_177 rfl rfl ?_
        refine x_eqS (S' := [vI (i 177 7), vR (some 177)]) (by rw [show ii 177 7 = i 177 7 by rw [hA, if_neg (by omega), if_neg (by omega), if_neg (by omega), if_neg (by omega)]]) ?_
        refine x_iconst 73 rfl ?_
        refine x_iadd 74 (r := (i 177 7) + 1) rfl rfl ?_
        obtain ⟨i14, hi14⟩ : ∃ f, f = mU ii 177 7 ((i 177 7) + 1) := ⟨_, rfl⟩
        refine x_putI 75 rfl fl_X2_37 (n_lt rfl) k_177 rfl rfl (g' := st i14 li13) (by subst hi14; rfl) ?_
        refine x_ret 76 none rfl ⟨rfl, rfl⟩ ⟨rfl, i14, li13, rfl, ?_⟩
        subst hxe
        refine ⟨?_, _, hv1, hv2⟩
        intro a b
        subst_vars
        simp only [mU, hA]
      · have hor2 := two_or hV.1 hx.1 (show x < 2 ^ (i 177 7).toNat by omega)
        have hor3 := hor2
        rw [Int.one_mul] at hor3
        have e84 : ii 184 x = i 184 x := by rw [hA, if_neg (by omega), if_neg (by omega), if_neg (by omega), if_neg (by omega)]
        refine x_aload_n 28 rfl rfl ?_
        refine x_getR 29 (z := 184) rfl fl_X2_21 (n_lt rfl) k_177 rfl r_177_2 ?_
        refine x_iload 30 rfl rfl ?_
        refine x_iload 31 rfl rfl ?_
        refine x_ior 32 (r := (1 * 2 ^ (i 177 7).toNat : Int).toNat ||| (x : Int).toNat) rfl (by omega) rfl ?_
        refine x_aload_n 33 rfl rfl ?_
        refine x_getR 34 (z := 184) rfl fl_X2_21 (n_lt rfl) k_177 rfl r_177_2 ?_
        refine x_iload 35 rfl rfl ?_
        refine x_iald 36 (z := ii 184 x) rfl (n_lt rfl) k_184 (by omega) rfl ?_
        refine x_iload_n 37 rfl rfl ?_
        refine x_iadd 38 (r := (ii 184 x) + g) rfl rfl ?_
        obtain ⟨i15, hi15⟩ : ∃ f, f = mU ii 184 ((((1 * 2 ^ (i 177 7).toNat : Int).toNat ||| (x : Int).toNat : Nat) : Int)) ((ii 184 x) + g) := ⟨_, rfl⟩
        refine x_iast 39 rfl (n_lt rfl) k_184 (by omega) (g' := st i15 l) (by subst hi15; rfl) ?_
        refine x_iinc 40 (L' := [some (vR (some 177)), some (vI (k)), some (vI (g)), some (vI (m)), some (vI (1 * 2 ^ (i 177 7).toNat)), some (vI (x + 1))]) rfl (by decide) rfl rfl rfl rfl ?_
        refine x_goto 41 (tgt := 41) rfl (by decide) ?_
        exact ihL4 i15 (x + 1) (by omega) (ad_step hx.1 hA (by subst_vars; rw [hor2, e84])) (by omega)
  exact loopL4 ((2 ^ (i 177 7).toNat - ((0))) + 1 : Int).toNat i3 (0) (by omega) (by intro a b; subst_vars; simp only [mU]; grind) (by omega)
set_option maxRecDepth 20000 in
set_option maxHeartbeats 2000000 in
theorem c_weighPairs {i : Nat → Int → Int} {l : Nat → Int → BitVec 64} {r : List vO} (hP : PL i l r) {x y : Int} (hx : 0 ≤ x ∧ x < 2 ^ r.length) (hy : 0 ≤ y ∧ y < 2 ^ r.length) (hL : -1 ≤ i 177 8 ∧ i 177 8 ≤ 100 ∧ 0 ≤ i 177 9 ∧ i 177 9 ≤ 100) : mCtr m_X2_weighPairs 4 0 0 [vR (some 177), vI (x), vI (y)] (st i l) (qV (fun i' l' => l' = l ∧ ∀ a b, i' a b = if a = 177 ∧ b = 8 then (wpS r x y (i 177 8, i 177 9)).1 else if a = 177 ∧ b = 9 then (wpS r x y (i 177 8, i 177 9)).2 else i a b)) := by
  refine mCtr_of pl_X2 dc_X2_weighPairs (Nat.le_of_ble_eq_true rfl) rfl ?_
  show mX m_X2_weighPairs 4 _ 0 0 0 [some (vR (some 177)), some (vI (x)), some (vI (y)), none, none, none, none] [] (st i l)
  have hpw := pow10 hP.2.1
  have hsx := PL_sum hP hx
  have hsy := PL_sum hP hy
  have ex := PL_evU hP hx
  have ey := PL_evL hP hy
  have bx := evP_bd (pa := 0) (pb := 1) hP.2.2.1 x
  have by_ := evP_bd (pa := 2) (pb := 3) hP.2.2.1 y
  refine x_aload_n 0 rfl rfl ?_
  refine x_getR 1 (z := 178) rfl fl_X2_12 (n_lt rfl) k_177 rfl r_177_0 ?_
  refine x_iload_n 2 rfl rfl ?_
  refine x_aload_n 3 rfl rfl ?_
  refine x_getR 4 (z := 184) rfl fl_X2_21 (n_lt rfl) k_177 rfl r_177_2 ?_
  refine x_iload_n 5 rfl rfl ?_
  refine x_iald 6 (z := i 184 x) rfl (n_lt rfl) k_184 (by omega) rfl ?_
  refine x_eqS (S' := [vI (sumS r x), vI (x), vR (some 178)]) (by rw [← hsx.1]) ?_
  refine x_callV 7 m_X6_evenest (c_evenest isP_178 (by omega) (by omega)) rfl ok_X6_evenest (isP_0 isP_178) (kP isP_178) rfl rfl ml_X2_79 im_X6_evenest se_X6_evenest rfl (by decide) rfl (Nat.le_of_ble_eq_true rfl) rfl rfl (fun v g q1 => ?_)
  obtain ⟨rfl, rfl⟩ := q1
  show mX m_X2_weighPairs 4 _ 0 0 _ _ [vI (evZ (fun t => spB l 178 x t ∨ spB l 178 x ((sumS r x) - t)) ((sumS r x) / 2))] _
  refine x_istore_n 8 (L' := [some (vR (some 177)), some (vI (x)), some (vI (y)), some (vI (evZ (fun t => spB l 178 x t ∨ spB l 178 x ((sumS r x) - t)) ((sumS r x) / 2))), none, none, none]) rfl (by decide) rfl rfl ?_
  refine x_aload_n 9 rfl rfl ?_
  refine x_getR 10 (z := 181) rfl fl_X2_18 (n_lt rfl) k_177 rfl r_177_1 ?_
  refine x_iload_n 11 rfl rfl ?_
  refine x_aload_n 12 rfl rfl ?_
  refine x_getR 13 (z := 184) rfl fl_X2_21 (n_lt rfl) k_177 rfl r_177_2 ?_
  refine x_iload_n 14 rfl rfl ?_
  refine x_iald 15 (z := i 184 y) rfl (n_lt rfl) k_184 (by omega) rfl ?_
  refine x_eqS (S' := [vI (sumS r y), vI (y), vR (some 181)]) (by rw [← hsy.1]) ?_
  refine x_callV 16 m_X6_evenest (c_evenest isP_181 (by omega) (by omega)) rfl ok_X6_evenest (isP_0 isP_181) (kP isP_181) rfl rfl ml_X2_79 im_X6_evenest se_X6_evenest rfl (by decide) rfl (Nat.le_of_ble_eq_true rfl) rfl rfl (fun v g q2 => ?_)
  obtain ⟨rfl, rfl⟩ := q2
  show mX m_X2_weighPairs 4 _ 0 0 _ _ [vI (evZ (fun t => spB l 181 y t ∨ spB l 181 y ((sumS r y) - t)) ((sumS r y) / 2))] _
  refine x_istore 17 (L' := [some (vR (some 177)), some (vI (x)), some (vI (y)), some (vI (evZ (fun t => spB l 178 x t ∨ spB l 178 x ((sumS r x) - t)) ((sumS r x) / 2))), some (vI (evZ (fun t => spB l 181 y t ∨ spB l 181 y ((sumS r y) - t)) ((sumS r y) / 2))), none, none]) rfl (by decide) rfl rfl ?_
  refine x_iload_n 18 rfl rfl ?_
  refine x_if_lt 19 (tgt := 40) rfl (by decide) (by omega) (fun h3 => ?_) (fun h3 => ?_)
  · refine x_ret 22 none rfl ⟨rfl, rfl⟩ ⟨rfl, i, l, rfl, ?_⟩
    refine ⟨rfl, fun a b => ?_⟩
    rw [show wpS r x y (i 177 8, i 177 9) = (i 177 8, i 177 9) by unfold wpS; rw [if_pos (by omega)]]
    grind
  · refine x_iload 20 rfl rfl ?_
    refine x_if_ge 21 (tgt := 41) rfl (by decide) (by omega) (fun h4 => ?_) (fun h4 => ?_)
    · refine x_iload_n 23 rfl rfl ?_
      refine x_iload 24 rfl rfl ?_
      refine x_mmin 25 (r := min (evZ (fun t => spB l 178 x t ∨ spB l 178 x ((sumS r x) - t)) ((sumS r x) / 2)) (evZ (fun t => spB l 181 y t ∨ spB l 181 y ((sumS r y) - t)) ((sumS r y) / 2))) rfl ml_X2_83 (by omega) rfl (by decide) (Nat.le_of_ble_eq_true rfl) ?_
      refine x_istore 26 (L' := [some (vR (some 177)), some (vI (x)), some (vI (y)), some (vI (evZ (fun t => spB l 178 x t ∨ spB l 178 x ((sumS r x) - t)) ((sumS r x) / 2))), some (vI (evZ (fun t => spB l 181 y t ∨ spB l 181 y ((sumS r y) - t)) ((sumS r y) / 2))), some (vI (min (evZ (fun t => spB l 178 x t ∨ spB l 178 x ((sumS r x) - t)) ((sumS r x) / 2)) (evZ (fun t => spB l 181 y t ∨ spB l 181 y ((sumS r y) - t)) ((sumS r y) / 2)))), none]) rfl (by decide) rfl rfl ?_
      refine x_aload_n 27 rfl rfl ?_
      refine x_getR 28 (z := 184) rfl fl_X2_21 (n_lt rfl) k_177 rfl r_177_2 ?_
      refine x_iload_n 29 rfl rfl ?_
      refine x_iald 30 (z := i 184 x) rfl (n_lt rfl) k_184 (by omega) rfl ?_
      refine x_eqS (S' := [vI (sumS r x)]) (by rw [← hsx.1]) ?_
      refine x_iload_n 31 rfl rfl ?_
      refine x_isub 32 (r := (sumS r x) - (evZ (fun t => spB l 178 x t ∨ spB l 178 x ((sumS r x) - t)) ((sumS r x) / 2))) rfl rfl ?_
      refine x_aload_n 33 rfl rfl ?_
      refine x_getR 34 (z := 184) rfl fl_X2_21 (n_lt rfl) k_177 rfl r_177_2 ?_
      refine x_iload_n 35 rfl rfl ?_
      refine x_iald 36 (z := i 184 y) rfl (n_lt rfl) k_184 (by omega) rfl ?_
      refine x_eqS (S' := [vI (sumS r y), vI ((sumS r x) - (evZ (fun t => spB l 178 x t ∨ spB l 178 x ((sumS r x) - t)) ((sumS r x) / 2)))]) (by rw [← hsy.1]) ?_
      refine x_iload 37 rfl rfl ?_
      refine x_isub 38 (r := (sumS r y) - (evZ (fun t => spB l 181 y t ∨ spB l 181 y ((sumS r y) - t)) ((sumS r y) / 2))) rfl rfl ?_
      refine x_mmax 39 (r := max ((sumS r x) - (evZ (fun t => spB l 178 x t ∨ spB l 178 x ((sumS r x) - t)) ((sumS r x) / 2))) ((sumS r y) - (evZ (fun t => spB l 181 y t ∨ spB l 181 y ((sumS r y) - t)) ((sumS r y) / 2)))) rfl ml_X2_88 (by omega) rfl (by decide) (Nat.le_of_ble_eq_true rfl) ?_
      refine x_istore 40 (L' := [some (vR (some 177)), some (vI (x)), some (vI (y)), some (vI (evZ (fun t => spB l 178 x t ∨ spB l 178 x ((sumS r x) - t)) ((sumS r x) / 2))), some (vI (evZ (fun t => spB l 181 y t ∨ spB l 181 y ((sumS r y) - t)) ((sumS r y) / 2))), some (vI (min (evZ (fun t => spB l 178 x t ∨ spB l 178 x ((sumS r x) - t)) ((sumS r x) / 2)) (evZ (fun t => spB l 181 y t ∨ spB l 181 y ((sumS r y) - t)) ((sumS r y) / 2)))), some (vI (max ((sumS r x) - (evZ (fun t => spB l 178 x t ∨ spB l 178 x ((sumS r x) - t)) ((sumS r x) / 2))) ((sumS r y) - (evZ (fun t => spB l 181 y t ∨ spB l 181 y ((sumS r y) - t)) ((sumS r y) / 2)))))]) rfl (by decide) rfl rfl ?_
      refine x_iload 41 rfl rfl ?_
      refine x_aload_n 42 rfl rfl ?_
      refine x_getI 43 (z := i 177 8) rfl fl_X2_62 (n_lt rfl) k_177 rfl rfl ?_
      refine x_icmp_gt 44 (tgt := 98) rfl (by decide) (by omega) (fun h5 => ?_) (fun h5 => ?_)
      · refine x_aload_n 53 rfl rfl ?_
        refine x_iload 54 rfl rfl ?_
        obtain ⟨i6, hi6⟩ : ∃ f, f = mU i 177 8 (min (evZ (fun t => spB l 178 x t ∨ spB l 178 x ((sumS r x) - t)) ((sumS r x) / 2)) (evZ (fun t => spB l 181 y t ∨ spB l 181 y ((sumS r y) - t)) ((sumS r y) / 2))) := ⟨_, rfl⟩
        refine x_putI 55 rfl fl_X2_62 (n_lt rfl) k_177 rfl rfl (g' := st i6 l) (by subst hi6; rfl) ?_
        refine x_aload_n 56 rfl rfl ?_
        refine x_iload 57 rfl rfl ?_
        obtain ⟨i7, hi7⟩ : ∃ f, f = mU i6 177 9 (max ((sumS r x) - (evZ (fun t => spB l 178 x t ∨ spB l 178 x ((sumS r x) - t)) ((sumS r x) / 2))) ((sumS r y) - (evZ (fun t => spB l 181 y t ∨ spB l 181 y ((sumS r y) - t)) ((sumS r y) / 2)))) := ⟨_, rfl⟩
        refine x_putI 58 rfl fl_X2_65 (n_lt rfl) k_177 rfl rfl (g' := st i7 l) (by subst hi7; rfl) ?_
        refine x_ret 59 none rfl ⟨rfl, rfl⟩ ⟨rfl, i7, l, rfl, ?_⟩
        refine ⟨rfl, fun a b => ?_⟩
        subst_vars
        try simp only [mU]
        first
          | (rw [show wpS r x y (i 177 8, i 177 9) = (i 177 8, i 177 9) by unfold wpS; rw [if_neg (by omega), if_neg (by simp only; omega)]]; grind)
          | (rw [show wpS r x y (i 177 8, i 177 9) = (min (evP 0 1 r x) (evP 2 3 r y), max (sumS r x - evP 0 1 r x) (sumS r y - evP 2 3 r y)) by unfold wpS; rw [if_neg (by omega), if_pos (by simp only; omega)]]; grind)
      · refine x_iload 45 rfl rfl ?_
        refine x_aload_n 46 rfl rfl ?_
        refine x_getI 47 (z := i 177 8) rfl fl_X2_62 (n_lt rfl) k_177 rfl rfl ?_
        refine x_icmp_ne 48 (tgt := 110) rfl (by decide) (by omega) (fun h8 => ?_) (fun h8 => ?_)
        · refine x_ret 59 none rfl ⟨rfl, rfl⟩ ⟨rfl, i, l, rfl, ?_⟩
          refine ⟨rfl, fun a b => ?_⟩
          subst_vars
          try simp only [mU]
          first
            | (rw [show wpS r x y (i 177 8, i 177 9) = (i 177 8, i 177 9) by unfold wpS; rw [if_neg (by omega), if_neg (by simp only; omega)]]; grind)
            | (rw [show wpS r x y (i 177 8, i 177 9) = (min (evP 0 1 r x) (evP 2 3 r y), max (sumS r x - evP 0 1 r x) (sumS r y - evP 2 3 r y)) by unfold wpS; rw [if_neg (by omega), if_pos (by simp only; omega)]]; grind)
        · refine x_iload 49 rfl rfl ?_
          refine x_aload_n 50 rfl rfl ?_
          refine x_getI 51 (z := i 177 9) rfl fl_X2_65 (n_lt rfl) k_177 rfl rfl ?_
          refine x_icmp_ge 52 (tgt := 110) rfl (by decide) (by omega) (fun h9 => ?_) (fun h9 => ?_)
          · refine x_ret 59 none rfl ⟨rfl, rfl⟩ ⟨rfl, i, l, rfl, ?_⟩
            refine ⟨rfl, fun a b => ?_⟩
            subst_vars
            try simp only [mU]
            first
              | (rw [show wpS r x y (i 177 8, i 177 9) = (i 177 8, i 177 9) by unfold wpS; rw [if_neg (by omega), if_neg (by simp only; omega)]]; grind)
              | (rw [show wpS r x y (i 177 8, i 177 9) = (min (evP 0 1 r x) (evP 2 3 r y), max (sumS r x - evP 0 1 r x) (sumS r y - evP 2 3 r y)) by unfold wpS; rw [if_neg (by omega), if_pos (by simp only; omega)]]; grind)
          · refine x_aload_n 53 rfl rfl ?_
            refine x_iload 54 rfl rfl ?_
            obtain ⟨i10, hi10⟩ : ∃ f, f = mU i 177 8 (min (evZ (fun t => spB l 178 x t ∨ spB l 178 x ((sumS r x) - t)) ((sumS r x) / 2)) (evZ (fun t => spB l 181 y t ∨ spB l 181 y ((sumS r y) - t)) ((sumS r y) / 2))) := ⟨_, rfl⟩
            refine x_putI 55 rfl fl_X2_62 (n_lt rfl) k_177 rfl rfl (g' := st i10 l) (by subst hi10; rfl) ?_
            refine x_aload_n 56 rfl rfl ?_
            refine x_iload 57 rfl rfl ?_
            obtain ⟨i11, hi11⟩ : ∃ f, f = mU i10 177 9 (max ((sumS r x) - (evZ (fun t => spB l 178 x t ∨ spB l 178 x ((sumS r x) - t)) ((sumS r x) / 2))) ((sumS r y) - (evZ (fun t => spB l 181 y t ∨ spB l 181 y ((sumS r y) - t)) ((sumS r y) / 2)))) := ⟨_, rfl⟩
            refine x_putI 58 rfl fl_X2_65 (n_lt rfl) k_177 rfl rfl (g' := st i11 l) (by subst hi11; rfl) ?_
            refine x_ret 59 none rfl ⟨rfl, rfl⟩ ⟨rfl, i11, l, rfl, ?_⟩
            refine ⟨rfl, fun a b => ?_⟩
            subst_vars
            try simp only [mU]
            first
              | (rw [show wpS r x y (i 177 8, i 177 9) = (i 177 8, i 177 9) by unfold wpS; rw [if_neg (by omega), if_neg (by simp only; omega)]]; grind)
              | (rw [show wpS r x y (i 177 8, i 177 9) = (min (evP 0 1 r x) (evP 2 3 r y), max (sumS r x - evP 0 1 r x) (sumS r y - evP 2 3 r y)) by unfold wpS; rw [if_neg (by omega), if_pos (by simp only; omega)]]; grind)
    · refine x_ret 22 none rfl ⟨rfl, rfl⟩ ⟨rfl, i, l, rfl, ?_⟩
      refine ⟨rfl, fun a b => ?_⟩
      rw [show wpS r x y (i 177 8, i 177 9) = (i 177 8, i 177 9) by unfold wpS; rw [if_pos (by omega)]]
      grind
end
section
/-! placing: weighing -/
def vsN (i : Nat → Int → Int) (c : Nat) (y : Int) : Nat → List vO
  | 0 => []
  | n + 1 => if (n : Int) ≠ y ∧ fFits i c n ≠ 0 then ((n : Int), i (c + 2 + n) 0, fFits i c n) :: vsN i c y n else vsN i c y n
/-- the voices: the singers whom a part fits, without y, the last one first -/
def vsZ (i : Nat → Int → Int) (c : Nat) (y x : Int) : List vO := vsN i c y x.toNat
theorem vsZ_0 (i : Nat → Int → Int) (c : Nat) (y : Int) : vsZ i c y 0 = [] := rfl
theorem vsZ_y {i : Nat → Int → Int} {c : Nat} {y x : Int} (h : 0 ≤ x) (h1 : x ≠ y) (h2 : fFits i c x ≠ 0) : vsZ i c y (x + 1) = (x, i (c + 2 + x.toNat) 0, fFits i c x) :: vsZ i c y x := by
  unfold vsZ
  rw [show (x + 1).toNat = x.toNat + 1 by omega]
  have e : ((x.toNat : Nat) : Int) = x := Int.toNat_of_nonneg h
  show (if ((x.toNat : Nat) : Int) ≠ y ∧ fFits i c ((x.toNat : Nat) : Int) ≠ 0 then (((x.toNat : Nat) : Int), i (c + 2 + x.toNat) 0, fFits i c ((x.toNat : Nat) : Int)) :: _ else _) = _
  rw [e, if_pos ⟨h1, h2⟩]
theorem vsZ_n {i : Nat → Int → Int} {c : Nat} {y x : Int} (h : 0 ≤ x) (h1 : x = y ∨ fFits i c x = 0) : vsZ i c y (x + 1) = vsZ i c y x := by
  unfold vsZ
  rw [show (x + 1).toNat = x.toNat + 1 by omega]
  have e : ((x.toNat : Nat) : Int) = x := Int.toNat_of_nonneg h
  show (if ((x.toNat : Nat) : Int) ≠ y ∧ fFits i c ((x.toNat : Nat) : Int) ≠ 0 then _ else _) = _
  rw [e, if_neg (by rintro ⟨a, b⟩; rcases h1 with h1 | h1 <;> contradiction)]
theorem vsZ_len (i : Nat → Int → Int) (c : Nat) (y : Int) {x : Int} (h : 0 ≤ x) : ((vsZ i c y x).length : Int) ≤ x := by
  have key : ∀ n : Nat, (vsN i c y n).length ≤ n := by
    intro n
    induction n with
    | zero => exact Nat.le_refl _
    | succ n ih =>
      unfold vsN
      split
      · rw [List.length_cons]; omega
      · omega
  have := key x.toNat
  unfold vsZ
  omega
theorem fFits_bd (i : Nat → Int → Int) (c : Nat) (x : Int) : 0 ≤ fFits i c x ∧ fFits i c x ≤ 15 := by
  unfold fFits orZ
  have := orN_lt (fun p => decide (i (c + 12) 0 ≤ fIn i (c + 2 + x.toNat) p)) 4
  have e : (4 : Int).toNat = 4 := rfl
  rw [e]
  omega
theorem fFits_congr {i i' : Nat → Int → Int} {c : Nat} {x : Int} (hx : 0 ≤ x ∧ x < 10) (he : ∀ a b, c ≤ a → a < c + 15 → i' a b = i a b) : fFits i' c x = fFits i c x := by
  unfold fFits fIn
  simp only [he (c + 2 + x.toNat) _ (by omega) (by omega), he (c + 12) _ (by omega) (by omega)]
/-- how the placing's rows begin, and stay -/
def PZ (i : Nat → Int → Int) (l : Nat → Int → BitVec 64) : Prop := i 184 0 = 0 ∧ l 179 0 = 1#64 ∧ l 180 0 = 0#64 ∧ l 182 0 = 1#64 ∧ l 183 0 = 0#64
theorem PL_nil {i : Nat → Int → Int} {l : Nat → Int → BitVec 64} (h : PZ i l) (h7 : i 177 7 = 0) : PL i l [] := by
  obtain ⟨h1, h2, h3, h4, h5⟩ := h
  have hs : ∀ s : Int, 0 ≤ s → s < 2 ^ ([] : List vO).length → s = 0 := by intro s h0 h1; simp at h1; omega
  have hone : ∀ k : Nat, (1#64).getLsbD k = decide (k = 0) := by
    intro k
    have : (1#64 : BitVec 64) = BitVec.ofNat 64 1 := rfl
    rw [BitVec.getLsbD_ofNat]
    by_cases hk : k = 0
    · subst hk; decide
    · have : Nat.testBit 1 k = false := Bool.eq_false_iff.mpr (fun h => hk (Nat.testBit_one_eq_true_iff_self_eq_zero.mp h))
      simp [this, hk]
  refine ⟨by simp [h7], by decide, by simp, fun k h0 hk => absurd hk (by simp; omega), fun s h0 hs1 => ?_, fun s t h0 hs1 ht0 ht1 => ?_⟩
  · rw [hs s h0 hs1, h1]; rfl
  · rw [hs s h0 hs1]
    unfold spB rch
    by_cases ht : t < 64
    · simp only [if_pos ht, h2, h4, hone, decide_eq_true_eq]
      constructor <;> constructor <;> intro <;> omega
    · simp only [if_neg ht, h3, h5]
      simp
      omega
theorem PZ_add {i i' : Nat → Int → Int} {l l' : Nat → Int → BitVec 64} {k g m : Int} (h : PZ i l) (h7 : 0 ≤ i 177 7 ∧ i 177 7 ≤ 9) (hi : adI i i' k g m) (hl : adL l l' (i 177 7) g m) : PZ i' l' := by
  obtain ⟨h1, h2, h3, h4, h5⟩ := h
  obtain ⟨l1, hA, hB⟩ := hl
  have hp := pow9 h7
  refine ⟨?_, ?_, ?_, ?_, ?_⟩
  · rw [hi, if_neg (by omega), if_neg (by omega), if_neg (by omega), if_neg (by omega), if_neg (by omega)]; exact h1
  · rw [hB, if_neg (by omega), if_neg (by omega), hA, if_neg (by omega), if_neg (by omega)]; exact h2
  · rw [hB, if_neg (by omega), if_neg (by omega), hA, if_neg (by omega), if_neg (by omega)]; exact h3
  · rw [hB, if_neg (by omega), if_neg (by omega), hA, if_neg (by omega), if_neg (by omega)]; exact h4
  · rw [hB, if_neg (by omega), if_neg (by omega), hA, if_neg (by omega), if_neg (by omega)]; exact h5
theorem adL_else {l l' : Nat → Int → BitVec 64} {V g m : Int} (h : adL l l' V g m) : ∀ a b, a ≠ 179 → a ≠ 180 → a ≠ 182 → a ≠ 183 → l' a b = l a b := by
  intro a b h1 h2 h3 h4
  obtain ⟨l1, hA, hB⟩ := h
  rw [hB, if_neg (by omega), if_neg (by omega), hA, if_neg (by omega), if_neg (by omega)]
theorem PL_w8 {i i' : Nat → Int → Int} {l : Nat → Int → BitVec 64} {r : List vO} (h : PL i l r) (he : ∀ a b, ¬ (a = 177 ∧ (b = 8 ∨ b = 9)) → i' a b = i a b) : PL i' l r := by
  obtain ⟨h1, h2, h3, h4, h5, h6⟩ := h
  refine ⟨by rw [he _ _ (by omega)]; exact h1, h2, h3, fun k h0 hk => ?_, fun s h0 hs => ?_, h6⟩
  · rw [he _ _ (by omega), he _ _ (by omega), he _ _ (by omega)]; exact h4 k h0 hk
  · rw [he _ _ (by omega)]; exact h5 s h0 hs
noncomputable def wpN (r : List vO) : Nat → Int × Int
  | 0 => (-1, 0)
  | k + 1 => wpS r k (2 ^ r.length - 1 - k) (wpN r k)
/-- the best of the first x sets above -/
noncomputable def wpZ (r : List vO) (x : Int) : Int × Int := wpN r x.toNat
theorem wpZ_s (r : List vO) {x : Int} (h : 0 ≤ x) : wpZ r (x + 1) = wpS r x (2 ^ r.length - 1 - x) (wpZ r x) := by
  unfold wpZ
  rw [show (x + 1).toNat = x.toNat + 1 by omega]
  show wpS r (x.toNat : Nat) (2 ^ r.length - 1 - (x.toNat : Nat)) _ = _
  rw [Int.toNat_of_nonneg h]
theorem wpZ_bd {r : List vO} (h : ∀ v ∈ r, 1 ≤ v.2.1 ∧ v.2.1 ≤ 9) (hl : r.length ≤ 10) (x : Int) : -1 ≤ (wpZ r x).1 ∧ (wpZ r x).1 ≤ 100 ∧ 0 ≤ (wpZ r x).2 ∧ (wpZ r x).2 ≤ 100 := by
  have key : ∀ n : Nat, -1 ≤ (wpN r n).1 ∧ (wpN r n).1 ≤ 100 ∧ 0 ≤ (wpN r n).2 ∧ (wpN r n).2 ≤ 100 := by
    intro n
    induction n with
    | zero => show -1 ≤ (-1 : Int) ∧ (-1 : Int) ≤ 100 ∧ 0 ≤ (0 : Int) ∧ (0 : Int) ≤ 100; omega
    | succ n ih =>
      show -1 ≤ (wpS r n (2 ^ r.length - 1 - n) (wpN r n)).1 ∧ (wpS r n (2 ^ r.length - 1 - n) (wpN r n)).1 ≤ 100 ∧ 0 ≤ (wpS r n (2 ^ r.length - 1 - n) (wpN r n)).2 ∧ (wpS r n (2 ^ r.length - 1 - n) (wpN r n)).2 ≤ 100
      have b1 := sumS_bd h n
      have b2 := sumS_bd h (2 ^ r.length - 1 - n)
      have b3 := evP_bd (pa := 0) (pb := 1) h n
      have b4 := evP_bd (pa := 2) (pb := 3) h (2 ^ r.length - 1 - n)
      unfold wpS
      split
      · exact ih
      · split
        · simp only; omega
        · exact ih
  exact key _
theorem xor_all {n : Nat} {s : Int} (h0 : 0 ≤ s) (h1 : s ≤ 2 ^ n - 1) : (((2 ^ n - 1 : Int).toNat ^^^ s.toNat : Nat) : Int) = 2 ^ n - 1 - s := by
  have e : (2 : Int) ^ n = ((2 ^ n : Nat) : Int) := by simp
  have hp := Nat.two_pow_pos n
  have hs : s.toNat < 2 ^ n := by rw [e] at h1; omega
  rw [e, show (((2 ^ n : Nat) : Int) - 1).toNat = 2 ^ n - 1 by omega]
  have key : (2 ^ n - 1) ^^^ s.toNat = 2 ^ n - 1 - s.toNat := by
    apply Nat.eq_of_testBit_eq
    intro j
    rw [Nat.testBit_xor, show 2 ^ n - 1 - s.toNat = 2 ^ n - (s.toNat + 1) by omega, Nat.testBit_two_pow_sub_succ hs, Nat.testBit_two_pow_sub_one]
    by_cases hj : j < n
    · simp [hj]
    · have : s.toNat.testBit j = false := Nat.testBit_lt_two_pow (Nat.lt_of_lt_of_le hs (Nat.pow_le_pow_right (by decide) (by omega)))
      simp [hj, this]
  rw [key]
  omega
set_option maxRecDepth 20000 in
set_option maxHeartbeats 2000000 in
theorem c_weigh {i : Nat → Int → Int} {l : Nat → Int → BitVec 64} {c : Nat} (hc : isC c) (hO : okC i c) (hZ : PZ i l) {y : Int} (hy : -2147483648 ≤ y ∧ y < 2147483648) : mCtr m_X2_weigh 5 0 0 [vR (some 177), vR (some c), vI (y)] (st i l) (qV (fun i' l' => PL i' l' (vsZ i c y (i c 4)) ∧ PZ i' l' ∧ (i' 177 8, i' 177 9) = wpZ (vsZ i c y (i c 4)) (2 ^ (vsZ i c y (i c 4)).length) ∧ (∀ a b, a ≠ 177 → a ≠ 184 → a ≠ 186 → a ≠ 187 → a ≠ 188 → i' a b = i a b) ∧ (∀ a b, a ≠ 179 → a ≠ 180 → a ≠ 182 → a ≠ 183 → l' a b = l a b))) := by
  refine mCtr_of pl_X2 dc_X2_weigh (Nat.le_of_ble_eq_true rfl) rfl ?_
  show mX m_X2_weigh 5 _ 0 0 0 [some (vR (some 177)), some (vR (some c)), some (vI (y)), none, none] [] (st i l)
  have hN := hO.n
  have hr := isC_r hc
  refine x_aload_n 0 rfl rfl ?_
  refine x_iconst 1 rfl ?_
  obtain ⟨i1, hi1⟩ : ∃ f, f = mU i 177 7 (0) := ⟨_, rfl⟩
  refine x_putI 2 rfl fl_X2_37 (n_lt rfl) k_177 rfl rfl (g' := st i1 l) (by subst hi1; rfl) ?_
  refine x_iconst 3 rfl ?_
  refine x_istore_n 4 (L' := [some (vR (some 177)), some (vR (some c)), some (vI (y)), some (vI (0)), none]) rfl (by decide) rfl rfl ?_
  have loopL2 : ∀ (nz : Nat) (ii : Nat → Int → Int) (ll : Nat → Int → BitVec 64) (x : Int), (0 ≤ x ∧ x ≤ i c 4) → (PL ii ll (vsZ i c y x)) → (PZ ii ll) → (∀ a b, a ≠ 177 → a ≠ 184 → a ≠ 186 → a ≠ 187 → a ≠ 188 → ii a b = i a b) → (∀ a b, a ≠ 179 → a ≠ 180 → a ≠ 182 → a ≠ 183 → ll a b = l a b) → (i c 4 - x) < (nz : Int) → mX m_X2_weigh 5 (qV (fun i' l' => PL i' l' (vsZ i c y (i c 4)) ∧ PZ i' l' ∧ (i' 177 8, i' 177 9) = wpZ (vsZ i c y (i c 4)) (2 ^ (vsZ i c y (i c 4)).length) ∧ (∀ a b, a ≠ 177 → a ≠ 184 → a ≠ 186 → a ≠ 187 → a ≠ 188 → i' a b = i a b) ∧ (∀ a b, a ≠ 179 → a ≠ 180 → a ≠ 182 → a ≠ 183 → l' a b = l a b))) 0 0 7 [some (vR (some 177)), some (vR (some c)), some (vI (y)), some (vI (x)), none] [] (st ii ll) := by
    intro nz
    induction nz with
    | zero => intro ii ll x hx hP hZi hf hg hz; exact absurd hz (by omega)
    | succ nz ihL2 =>
      intro ii ll x hx hP hZi hf hg hzL2
      have hbl : ∀ a b, c ≤ a → a < c + 15 → ii a b = i a b := fun a b h1 h2 => hf a b (by omega) (by omega) (by omega) (by omega) (by omega)
      have hOw := hO.congr hbl
      have hNw := hOw.n
      have e4 := hbl c 4 (by omega) (by omega)
      refine x_iload_n 5 rfl rfl ?_
      refine x_aload_n 6 rfl rfl ?_
      refine x_getI 7 (z := ii c 4) rfl fl_X2_41 (isC_0 hc) (kC hc) rfl rfl ?_
      refine x_icmp_ge 8 (tgt := 54) rfl (by decide) (by omega) (fun h3 => ?_) (fun h3 => ?_)
      · obtain ⟨r, hr_⟩ : ∃ r, r = vsZ i c y (i c 4) := ⟨_, rfl⟩
        rw [show x = i c 4 by omega, ← hr_] at hP
        have hl10 := hP.2.1
        have hpw := pow10 hP.2.1
        have h177 := hP.1
        have he7 : 1 * 2 ^ (ii 177 7).toNat = (2 : Int) ^ r.length := by rw [h177, Int.one_mul]; simp
        refine x_iconst 29 rfl ?_
        refine x_aload_n 30 rfl rfl ?_
        refine x_getI 31 (z := ii 177 7) rfl fl_X2_37 (n_lt rfl) k_177 rfl rfl ?_
        refine x_ishl 32 (r := 1 * 2 ^ (ii 177 7).toNat) rfl (by omega) rfl ?_
        refine x_iconst 33 rfl ?_
        refine x_isub 34 (r := (1 * 2 ^ (ii 177 7).toNat) - 1) rfl rfl ?_
        refine x_eqS (S' := [vI (2 ^ r.length - 1)]) (by rw [he7]) ?_
        refine x_istore_n 35 (L' := [some (vR (some 177)), some (vR (some c)), some (vI (y)), some (vI (2 ^ r.length - 1)), none]) rfl (by decide) rfl rfl ?_
        refine x_aload_n 36 rfl rfl ?_
        refine x_iconst 37 rfl ?_
        obtain ⟨i4, hi4⟩ : ∃ f, f = mU ii 177 8 ((-1)) := ⟨_, rfl⟩
        refine x_putI 38 rfl fl_X2_62 (n_lt rfl) k_177 rfl rfl (g' := st i4 ll) (by subst hi4; rfl) ?_
        refine x_aload_n 39 rfl rfl ?_
        refine x_iconst 40 rfl ?_
        obtain ⟨i5, hi5⟩ : ∃ f, f = mU i4 177 9 (0) := ⟨_, rfl⟩
        refine x_putI 41 rfl fl_X2_65 (n_lt rfl) k_177 rfl rfl (g' := st i5 ll) (by subst hi5; rfl) ?_
        refine x_iconst 42 rfl ?_
        refine x_istore 43 (L' := [some (vR (some 177)), some (vR (some c)), some (vI (y)), some (vI (2 ^ r.length - 1)), some (vI (0))]) rfl (by decide) rfl rfl ?_
        have loopL6 : ∀ (nz : Nat) (kk : Nat → Int → Int) (s : Int), (0 ≤ s ∧ s ≤ 2 ^ r.length) → ((kk 177 8, kk 177 9) = wpZ r s) → (∀ a b, ¬ (a = 177 ∧ (b = 8 ∨ b = 9)) → kk a b = ii a b) → (2 ^ r.length - s) < (nz : Int) → mX m_X2_weigh 5 (qV (fun i' l' => PL i' l' (vsZ i c y (i c 4)) ∧ PZ i' l' ∧ (i' 177 8, i' 177 9) = wpZ (vsZ i c y (i c 4)) (2 ^ (vsZ i c y (i c 4)).length) ∧ (∀ a b, a ≠ 177 → a ≠ 184 → a ≠ 186 → a ≠ 187 → a ≠ 188 → i' a b = i a b) ∧ (∀ a b, a ≠ 179 → a ≠ 180 → a ≠ 182 → a ≠ 183 → l' a b = l a b))) 0 0 76 [some (vR (some 177)), some (vR (some c)), some (vI (y)), some (vI (2 ^ r.length - 1)), some (vI (s))] [] (st kk ll) := by
          intro nz
          induction nz with
          | zero => intro kk s hs hW hk hz; exact absurd hz (by omega)
          | succ nz ihL6 =>
            intro kk s hs hW hk hzL6
            refine x_iload 44 rfl rfl ?_
            refine x_iload_n 45 rfl rfl ?_
            refine x_icmp_gt 46 (tgt := 98) rfl (by decide) (by omega) (fun h7 => ?_) (fun h7 => ?_)
            · refine x_ret 55 none rfl ⟨rfl, rfl⟩ ⟨rfl, kk, ll, rfl, ?_⟩
              rw [show s = 2 ^ r.length by omega] at hW
              subst hr_
              refine ⟨PL_w8 hP hk, ?_, hW, ?_, hg⟩
              · unfold PZ at hZi ⊢; rw [hk _ _ (by omega)]; exact hZi
              · intro a b h1 h2 h3 h4 h5; rw [hk _ _ (by omega)]; exact hf a b h1 h2 h3 h4 h5
            · have hPk : PL kk ll r := PL_w8 hP hk
              have hWb := wpZ_bd hP.2.2.1 hP.2.1 s
              rw [← hW] at hWb
              simp only at hWb
              refine x_aload_n 47 rfl rfl ?_
              refine x_iload 48 rfl rfl ?_
              refine x_iload_n 49 rfl rfl ?_
              refine x_iload 50 rfl rfl ?_
              refine x_ixor 51 (r := (2 ^ r.length - 1 : Int).toNat ^^^ (s : Int).toNat) rfl (by omega) rfl ?_
              refine x_eqS (S' := [vI (2 ^ r.length - 1 - s), vI (s), vR (some 177)]) (by rw [xor_all hs.1 (by omega)]) ?_
              refine x_callV 52 m_X2_weighPairs (c_weighPairs hPk (by omega) (by omega) (by omega)) rfl ok_X2_weighPairs (n_lt rfl) k_177 rfl rfl ml_X2_68 im_X2_weighPairs se_X2_weighPairs rfl (by decide) rfl (Nat.le_of_ble_eq_true rfl) rfl rfl (fun v g q8 => ?_)
              obtain ⟨rfl, i9, li9, rfl, hi9⟩ := q8
              obtain ⟨hEi9, hi9⟩ := hi9
              have hEi9 := hEi9.symm
              subst hEi9
              show mX m_X2_weigh 5 _ 0 0 _ _ [] _
              have hmw := hi9
              have hm8 : i9 177 8 = (wpS r s (2 ^ r.length - 1 - s) (kk 177 8, kk 177 9)).1 := by rw [hmw, if_pos ⟨rfl, rfl⟩]
              have hm9 : i9 177 9 = (wpS r s (2 ^ r.length - 1 - s) (kk 177 8, kk 177 9)).2 := by rw [hmw, if_neg (by omega), if_pos ⟨rfl, rfl⟩]
              refine x_iinc 53 (L' := [some (vR (some 177)), some (vR (some c)), some (vI (y)), some (vI (2 ^ r.length - 1)), some (vI (s + 1))]) rfl (by decide) rfl rfl rfl rfl ?_
              refine x_goto 54 (tgt := 76) rfl (by decide) ?_
              exact ihL6 i9 (s + 1) (by omega) (by rw [wpZ_s _ hs.1, ← hW, hm8, hm9]) (by intro a b hab; rw [hmw, if_neg (by omega), if_neg (by omega)]; exact hk a b hab) (by omega)
        exact loopL6 ((2 ^ r.length - ((0))) + 1 : Int).toNat i5 (0) (by omega) (by subst_vars; simp only [mU]; rfl) (by intro a b hab; subst_vars; simp only [mU]; grind) (by omega)
      · refine x_aload_n 9 rfl rfl ?_
        refine x_iload_n 10 rfl rfl ?_
        refine x_callV 11 m_X0_fittingParts (c_fittingParts hc hOw (by omega)) rfl ok_X0_fittingParts (isC_0 hc) (kC hc) rfl rfl ml_X2_46 im_X0_fittingParts se_X0_fittingParts rfl (by decide) rfl (Nat.le_of_ble_eq_true rfl) rfl rfl (fun v g q10 => ?_)
        obtain ⟨rfl, rfl⟩ := q10
        show mX m_X2_weigh 5 _ 0 0 _ _ [vI (fFits ii c x)] _
        refine x_istore 12 (L' := [some (vR (some 177)), some (vR (some c)), some (vI (y)), some (vI (x)), some (vI (fFits ii c x))]) rfl (by decide) rfl rfl ?_
        have efi : fFits ii c x = fFits i c x := fFits_congr (by omega) hbl
        have hfb := fFits_bd ii c x
        have hsg := hOw.s hx.1 (show x < ii c 4 by omega)
        have hln := vsZ_len i c y hx.1
        have h177 := hP.1
        have hsm : ∀ s, 0 ≤ s → s < 2 ^ (ii 177 7).toNat → 0 ≤ ii 184 s ∧ ii 184 s ≤ 100 := by intro s h0 h1; have := PL_sum hP (x := s) ⟨h0, by rw [h177] at h1; simpa using h1⟩; omega
        refine x_iload_n 13 rfl rfl ?_
        refine x_iload_n 14 rfl rfl ?_
        refine x_icmp_eq 15 (tgt := 48) rfl (by decide) (by omega) (fun h11 => ?_) (fun h11 => ?_)
        · refine x_iinc 27 (L' := [some (vR (some 177)), some (vR (some c)), some (vI (y)), some (vI (x + 1)), some (vI (fFits ii c x))]) rfl (by decide) rfl rfl rfl rfl ?_
          refine x_goto 28 (tgt := 7) rfl (by decide) ?_
          refine x_dropL (L' := [some (vR (some 177)), some (vR (some c)), some (vI (y)), some (vI (x + 1)), none]) ⟨rfl, ⟨rfl, ⟨rfl, ⟨rfl, True.intro⟩⟩⟩⟩ ?_
          exact ihL2 ii ll (x + 1) (by omega) (by first | (rw [vsZ_n hx.1 (by omega)]; exact hP) | exact hPa) (by first | exact hZa | exact hZi) (by first | exact hfa | exact hf) (by first | exact hga | exact hg) (by omega)
        · refine x_iload 16 rfl rfl ?_
          refine x_if_eq 17 (tgt := 48) rfl (by decide) (by omega) (fun h12 => ?_) (fun h12 => ?_)
          · refine x_iinc 27 (L' := [some (vR (some 177)), some (vR (some c)), some (vI (y)), some (vI (x + 1)), some (vI (fFits ii c x))]) rfl (by decide) rfl rfl rfl rfl ?_
            refine x_goto 28 (tgt := 7) rfl (by decide) ?_
            refine x_dropL (L' := [some (vR (some 177)), some (vR (some c)), some (vI (y)), some (vI (x + 1)), none]) ⟨rfl, ⟨rfl, ⟨rfl, ⟨rfl, True.intro⟩⟩⟩⟩ ?_
            exact ihL2 ii ll (x + 1) (by omega) (by first | (rw [vsZ_n hx.1 (by omega)]; exact hP) | exact hPa) (by first | exact hZa | exact hZi) (by first | exact hfa | exact hf) (by first | exact hga | exact hg) (by omega)
          · refine x_aload_n 18 rfl rfl ?_
            refine x_iload_n 19 rfl rfl ?_
            refine x_aload_n 20 rfl rfl ?_
            refine x_getR 21 (z := (c + 1)) rfl fl_X2_50 (isC_0 hc) (kC hc) rfl (rC0 hc) ?_
            refine x_iload_n 22 rfl rfl ?_
            refine x_aald 23 (t := 3) (z := (c + 2 + (x).toNat)) rfl (isC_S hc) (kCS hc) (by omega) ⟨rfl, rfl⟩ (rCs hc (by omega)) ?_
            refine x_getI 24 (z := ii (c + 2 + (x).toNat) 0) rfl fl_X2_54 (isS_lt (isS.of hc (show (x).toNat < 10 by omega))) (kS (isS.of hc (show (x).toNat < 10 by omega))) rfl rfl ?_
            refine x_iload 25 rfl rfl ?_
            refine x_callV 26 m_X2_addVoice (c_pl_addVoice (by omega) (by omega) (by omega) hsm) rfl ok_X2_addVoice (n_lt rfl) k_177 rfl rfl ml_X2_58 im_X2_addVoice se_X2_addVoice rfl (by decide) rfl (Nat.le_of_ble_eq_true rfl) rfl rfl (fun v g q13 => ?_)
            obtain ⟨rfl, i14, li14, rfl, hi14⟩ := q13
            show mX m_X2_weigh 5 _ 0 0 _ _ [] _
            obtain ⟨hadI, hadL⟩ := hi14
            have hPa : PL i14 li14 (vsZ i c y (x + 1)) := by rw [vsZ_y hx.1 (by omega) (by omega), ← efi, ← hbl (c + 2 + x.toNat) 0 (by omega) (by omega)]; exact PL_add hP (by omega) (by omega) hadI hadL
            have hZa : PZ i14 li14 := PZ_add hZi (by omega) hadI hadL
            have hfa : ∀ a b, a ≠ 177 → a ≠ 184 → a ≠ 186 → a ≠ 187 → a ≠ 188 → i14 a b = i a b := by intro a b h1 h2 h3 h4 h5; rw [hadI, if_neg (by omega), if_neg (by omega), if_neg (by omega), if_neg (by omega), if_neg (by omega)]; exact hf a b h1 h2 h3 h4 h5
            have hga : ∀ a b, a ≠ 179 → a ≠ 180 → a ≠ 182 → a ≠ 183 → li14 a b = l a b := by intro a b h1 h2 h3 h4; rw [adL_else hadL a b h1 h2 h3 h4]; exact hg a b h1 h2 h3 h4
            refine x_iinc 27 (L' := [some (vR (some 177)), some (vR (some c)), some (vI (y)), some (vI (x + 1)), some (vI (fFits ii c x))]) rfl (by decide) rfl rfl rfl rfl ?_
            refine x_goto 28 (tgt := 7) rfl (by decide) ?_
            refine x_dropL (L' := [some (vR (some 177)), some (vR (some c)), some (vI (y)), some (vI (x + 1)), none]) ⟨rfl, ⟨rfl, ⟨rfl, ⟨rfl, True.intro⟩⟩⟩⟩ ?_
            exact ihL2 i14 li14 (x + 1) (by omega) (by first | (rw [vsZ_n hx.1 (by omega)]; exact hP) | exact hPa) (by first | exact hZa | exact hZi) (by first | exact hfa | exact hf) (by first | exact hga | exact hg) (by omega)
  exact loopL2 ((i c 4 - ((0))) + 1 : Int).toNat i1 l (0) (by omega) (by rw [vsZ_0]; exact PL_nil (by subst_vars; unfold PZ at *; simp only [mU]; simpa using hZ) (by subst_vars; simp [mU])) (by subst_vars; unfold PZ at *; simp only [mU]; simpa using hZ) (by intro a b h1 h2 h3 h4 h5; subst_vars; simp [mU, h1]) (fun _ _ _ _ _ _ => rfl) (by omega)
end
section
/-! placing: choosing -/
def pcr (pa pb : Nat) (r : List vO) (x L G g0 g1 : Int) : Prop := ∃ t : Int, (L ≤ g0 + t ∧ g0 + t ≤ G) ∧ (L ≤ g1 + (sumS r x - t) ∧ g1 + (sumS r x - t) ≤ G) ∧ rch pa pb r x t
theorem pcr_U {i : Nat → Int → Int} {l : Nat → Int → BitVec 64} {r : List vO} (hP : PL i l r) {x L G g0 g1 : Int} (hx : 0 ≤ x ∧ x < 2 ^ r.length) : (∃ t : Int, 0 ≤ t ∧ t < 128 ∧ max (L - g0) (g1 + sumS r x - G) ≤ t ∧ t ≤ min (G - g0) (g1 + sumS r x - L) ∧ spB l 178 x t) ↔ pcr 0 1 r x L G g0 g1 := by
  have hb := PL_sum hP hx
  constructor
  · rintro ⟨t, h1, h2, h3, h4, h5⟩
    exact ⟨t, by omega, by omega, (hP.2.2.2.2.2 x t hx.1 hx.2 h1 h2).1.mp h5⟩
  · rintro ⟨t, h1, h2, h3⟩
    have h4 := rch_bd hP.2.2.1 h3
    exact ⟨t, by omega, by omega, by omega, by omega, (hP.2.2.2.2.2 x t hx.1 hx.2 (by omega) (by omega)).1.mpr h3⟩
theorem pcr_L {i : Nat → Int → Int} {l : Nat → Int → BitVec 64} {r : List vO} (hP : PL i l r) {x L G g0 g1 : Int} (hx : 0 ≤ x ∧ x < 2 ^ r.length) : (∃ t : Int, 0 ≤ t ∧ t < 128 ∧ max (L - g0) (g1 + sumS r x - G) ≤ t ∧ t ≤ min (G - g0) (g1 + sumS r x - L) ∧ spB l 181 x t) ↔ pcr 2 3 r x L G g0 g1 := by
  have hb := PL_sum hP hx
  constructor
  · rintro ⟨t, h1, h2, h3, h4, h5⟩
    exact ⟨t, by omega, by omega, (hP.2.2.2.2.2 x t hx.1 hx.2 h1 h2).2.mp h5⟩
  · rintro ⟨t, h1, h2, h3⟩
    have h4 := rch_bd hP.2.2.1 h3
    exact ⟨t, by omega, by omega, by omega, by omega, (hP.2.2.2.2.2 x t hx.1 hx.2 (by omega) (by omega)).2.mpr h3⟩
/-- whether the voices from f on can be placed so that all four parts come between L and G -/
def cfA (r : List vO) (f L G : Int) (g : Int → Int) (s : Int) : Prop := pcr 0 1 r (s * 2 ^ f.toNat) L G (g 0) (g 1) ∧ pcr 2 3 r ((2 ^ (r.length - f.toNat) - 1 - s) * 2 ^ f.toNat) L G (g 2) (g 3)
def cfP (r : List vO) (f L G : Int) (g : Int → Int) : Prop := ∃ s : Int, (0 ≤ s ∧ s < 2 ^ (r.length - f.toNat)) ∧ cfA r f L G g s
theorem shl_bd {n f : Nat} {s : Int} (hf : f ≤ n) (h0 : 0 ≤ s) (h1 : s ≤ 2 ^ (n - f) - 1) : 0 ≤ s * 2 ^ f ∧ s * 2 ^ f < 2 ^ n := by
  have hp : (0 : Int) < 2 ^ f := Int.pow_pos (by decide)
  have he : (2 : Int) ^ n = 2 ^ (n - f) * 2 ^ f := by rw [← Int.pow_add, show n - f + f = n by omega]
  refine ⟨Int.mul_nonneg h0 (by omega), ?_⟩
  have := Int.mul_le_mul_of_nonneg_right h1 (show (0 : Int) ≤ 2 ^ f by omega)
  rw [Int.sub_mul, ← he, Int.one_mul] at this
  omega
theorem PL_185 {i i' : Nat → Int → Int} {l : Nat → Int → BitVec 64} {r : List vO} (h : PL i l r) (he : ∀ a b, a = 177 ∨ a = 184 ∨ a = 186 ∨ a = 187 ∨ a = 188 → i' a b = i a b) : PL i' l r := by
  obtain ⟨h1, h2, h3, h4, h5, h6⟩ := h
  refine ⟨by rw [he _ _ (by omega)]; exact h1, h2, h3, fun k h0 hk => ?_, fun s h0 hs => ?_, h6⟩
  · rw [he _ _ (by omega), he _ _ (by omega), he _ _ (by omega)]; exact h4 k h0 hk
  · rw [he _ _ (by omega)]; exact h5 s h0 hs
/-- with the voice k in the part p more -/
def gAd (g : Int → Int) (p x : Int) : Int → Int := fun b => if b = p then g b + x else g b
def fgO (r : List vO) (k L G : Int) (g : Int → Int) (p : Int) : Prop := vB (vAt r k).2.2 p.toNat ∧ cfP r (k + 1) L G (gAd g p (vAt r k).2.1)
noncomputable def fgZ (r : List vO) (k L G : Int) (g : Int → Int) : Int := by classical exact if fgO r k L G g 0 then 0 else if fgO r k L G g 1 then 1 else if fgO r k L G g 2 then 2 else if fgO r k L G g 3 then 3 else -9
theorem fgZ_hit {r : List vO} {k L G : Int} {g : Int → Int} {p : Int} (hp : 0 ≤ p ∧ p < 4) (h : fgO r k L G g p) (hn : ∀ q, 0 ≤ q → q < p → ¬ fgO r k L G g q) : fgZ r k L G g = p := by
  unfold fgZ
  rcases (show p = 0 ∨ p = 1 ∨ p = 2 ∨ p = 3 by omega) with rfl | rfl | rfl | rfl
  · rw [if_pos h]
  · rw [if_neg (hn 0 (by omega) (by omega)), if_pos h]
  · rw [if_neg (hn 0 (by omega) (by omega)), if_neg (hn 1 (by omega) (by omega)), if_pos h]
  · rw [if_neg (hn 0 (by omega) (by omega)), if_neg (hn 1 (by omega) (by omega)), if_neg (hn 2 (by omega) (by omega)), if_pos h]
theorem fgZ_none {r : List vO} {k L G : Int} {g : Int → Int} (hn : ∀ q, 0 ≤ q → q < 4 → ¬ fgO r k L G g q) : fgZ r k L G g = -9 := by
  unfold fgZ
  rw [if_neg (hn 0 (by omega) (by omega)), if_neg (hn 1 (by omega) (by omega)), if_neg (hn 2 (by omega) (by omega)), if_neg (hn 3 (by omega) (by omega))]
theorem fgZ_bd (r : List vO) (k L G : Int) (g : Int → Int) : fgZ r k L G g = -9 ∨ (0 ≤ fgZ r k L G g ∧ fgZ r k L G g < 4) := by
  unfold fgZ
  split
  · omega
  · split
    · omega
    · split
      · omega
      · split <;> omega
theorem cfP_congr {r : List vO} {f L G : Int} {g g' : Int → Int} (h : ∀ b, 0 ≤ b → b < 4 → g b = g' b) : cfP r f L G g ↔ cfP r f L G g' := by
  unfold cfP cfA
  rw [h 0 (by omega) (by omega), h 1 (by omega) (by omega), h 2 (by omega) (by omega), h 3 (by omega) (by omega)]
theorem fgO_congr {r : List vO} {k L G : Int} {g g' : Int → Int} {p : Int} (h : ∀ b, 0 ≤ b → b < 4 → g b = g' b) : fgO r k L G g p ↔ fgO r k L G g' p := by
  unfold fgO
  refine and_congr Iff.rfl (cfP_congr (fun b h0 h1 => ?_))
  unfold gAd
  rw [h b h0 h1]
theorem fgZ_congr {r : List vO} {k L G : Int} {g g' : Int → Int} (h : ∀ b, 0 ≤ b → b < 4 → g b = g' b) : fgZ r k L G g = fgZ r k L G g' := by
  have e : ∀ p, fgO r k L G g p = fgO r k L G g' p := fun p => propext (fgO_congr h)
  unfold fgZ
  rw [e 0, e 1, e 2, e 3]
/-- strengths, and parts by singer, behind the first x voices -/
noncomputable def chN (r : List vO) (L G : Int) : Nat → (Int → Int) × (Int → Int)
  | 0 => (fun _ => 0, fun _ => -9)
  | k + 1 => (fun b => if b = fgZ r k L G (chN r L G k).1 ∧ 0 ≤ b then (chN r L G k).1 b + (vAt r k).2.1 else (chN r L G k).1 b, fU (chN r L G k).2 (vAt r k).1 (fgZ r k L G (chN r L G k).1))
noncomputable def chZ (r : List vO) (L G x : Int) : (Int → Int) × (Int → Int) := chN r L G x.toNat
theorem chZ_s (r : List vO) (L G : Int) {x : Int} (h : 0 ≤ x) : chZ r L G (x + 1) = (fun b => if b = fgZ r x L G (chZ r L G x).1 ∧ 0 ≤ b then (chZ r L G x).1 b + (vAt r x).2.1 else (chZ r L G x).1 b, fU (chZ r L G x).2 (vAt r x).1 (fgZ r x L G (chZ r L G x).1)) := by
  unfold chZ
  rw [show (x + 1).toNat = x.toNat + 1 by omega]
  have e : ((x.toNat : Nat) : Int) = x := Int.toNat_of_nonneg h
  show (_, _) = _
  rw [e]
theorem vAt_mem {r : List vO} {k : Int} (h0 : 0 ≤ k) (h : k < r.length) : vAt r k ∈ r := by
  unfold vAt
  rw [List.getD_eq_getElem?_getD, List.getElem?_eq_getElem (by omega), Option.getD_some]
  exact List.getElem_mem _
theorem chZ_bd {r : List vO} (L G : Int) (hr : ∀ v ∈ r, 1 ≤ v.2.1 ∧ v.2.1 ≤ 9) {x : Int} (h : 0 ≤ x ∧ x ≤ r.length) : ∀ b, 0 ≤ (chZ r L G x).1 b ∧ (chZ r L G x).1 b ≤ 9 * x := by
  have key : ∀ n : Nat, n ≤ r.length → ∀ b, 0 ≤ (chN r L G n).1 b ∧ (chN r L G n).1 b ≤ 9 * n := by
    intro n
    induction n with
    | zero => intro _ b; show 0 ≤ (0 : Int) ∧ (0 : Int) ≤ 9 * 0; omega
    | succ n ih =>
      intro hn b
      have i1 := ih (by omega) b
      have g1 := hr _ (vAt_mem (r := r) (k := n) (by omega) (by omega))
      show 0 ≤ (if b = fgZ r n L G (chN r L G n).1 ∧ 0 ≤ b then (chN r L G n).1 b + (vAt r n).2.1 else (chN r L G n).1 b) ∧ (if b = fgZ r n L G (chN r L G n).1 ∧ 0 ≤ b then (chN r L G n).1 b + (vAt r n).2.1 else (chN r L G n).1 b) ≤ _
      split <;> omega
  intro b
  have := key x.toNat (by omega) b
  rw [Int.toNat_of_nonneg h.1] at this
  exact this
theorem ch_step {i kk i3 i4 : Nat → Int → Int} {c : Nat} {n v z s : Int} {g P : Int → Int} (hrr : c + 15 ≤ 169) (hn : n ≤ 10) (hv : 0 ≤ v ∧ v < n) (hA3 : ∀ a b, kk a b = if b = 6 ∧ c + 2 ≤ a ∧ (a : Int) < c + 2 + n then P (a - c - 2) else if a = 185 ∧ 0 ≤ b ∧ b < 4 then g b else i a b) (h3 : ∀ a b, i3 a b = if a = 185 ∧ b = z ∧ 0 ≤ b then kk a b + s else kk a b) (hz : z = -9 ∨ (0 ≤ z ∧ z < 4)) (h4 : i4 = mU i3 (c + 2 + v.toNat) 6 z) : ∀ a b, i4 a b = if b = 6 ∧ c + 2 ≤ a ∧ (a : Int) < c + 2 + n then fU P v z (a - c - 2) else if a = 185 ∧ 0 ≤ b ∧ b < 4 then (if b = z ∧ 0 ≤ b then g b + s else g b) else i a b := by
  intro a b
  subst h4
  simp only [mU, fU, h3, hA3]
  by_cases h1 : b = 6 ∧ c + 2 ≤ a ∧ (a : Int) < c + 2 + n
  · rw [if_pos h1, if_neg (show ¬ (a = 185 ∧ b = z ∧ 0 ≤ b) by omega), if_pos h1]
    by_cases h2 : a = c + 2 + v.toNat
    · rw [if_pos ⟨h2, h1.1⟩, if_pos (by omega)]
    · rw [if_neg (fun q => h2 q.1), if_neg (by omega)]
  · rw [if_neg h1, if_neg (show ¬ (a = c + 2 + v.toNat ∧ b = 6) by omega), if_neg h1]
    by_cases h2 : a = 185 ∧ 0 ≤ b ∧ b < 4
    · rw [if_pos h2, if_pos h2]
      by_cases h3 : b = z
      · rw [if_pos ⟨h2.1, h3, h2.2.1⟩, if_pos ⟨h3, h2.2.1⟩]
      · rw [if_neg (fun q => h3 q.2.1), if_neg (fun q => h3 q.1)]
    · rw [if_neg h2, if_neg h2, if_neg (by omega)]
set_option maxRecDepth 20000 in
set_option maxHeartbeats 2000000 in
theorem c_pairU {i : Nat → Int → Int} {l : Nat → Int → BitVec 64} {r : List vO} (hP : PL i l r) (hL : -1 ≤ i 177 8 ∧ i 177 8 ≤ 100 ∧ 0 ≤ i 177 9 ∧ i 177 9 ≤ 100) (hgot : ∀ k, 0 ≤ k → k < 4 → 0 ≤ i 185 k ∧ i 185 k ≤ 200) {x : Int} (hx : 0 ≤ x ∧ x < 2 ^ r.length) : mCtr m_X2_pairCanReach 3 0 0 [vR (some 177), vR (some 178), vI (x), vI (0)] (st i l) (qB (pcr 0 1 r x (i 177 8) (i 177 9) (i 185 0) (i 185 1)) (st i l)) := by
  refine mCtr_of pl_X2 dc_X2_pairCanReach (Nat.le_of_ble_eq_true rfl) rfl ?_
  show mX m_X2_pairCanReach 3 _ 0 0 0 [some (vR (some 177)), some (vR (some 178)), some (vI (x)), some (vI (0)), none, none] [] (st i l)
  have hpw := pow10 hP.2.1
  have hsx := PL_sum hP hx
  have hg0 := hgot 0 (by decide) (by decide)
  have hg1 := hgot (0 + 1) (by decide) (by decide)
  refine x_aload_n 0 rfl rfl ?_
  refine x_getI 1 (z := i 177 9) rfl fl_X2_65 (n_lt rfl) k_177 rfl rfl ?_
  refine x_aload_n 2 rfl rfl ?_
  refine x_getR 3 (z := 185) rfl fl_X2_25 (n_lt rfl) k_177 rfl r_177_3 ?_
  refine x_iload_n 4 rfl rfl ?_
  refine x_iald 5 (z := i 185 0) rfl (n_lt rfl) k_185 (by omega) rfl ?_
  refine x_isub 6 (r := (i 177 9) - (i 185 0)) rfl rfl ?_
  refine x_aload_n 7 rfl rfl ?_
  refine x_getR 8 (z := 185) rfl fl_X2_25 (n_lt rfl) k_177 rfl r_177_3 ?_
  refine x_iload_n 9 rfl rfl ?_
  refine x_iconst 10 rfl ?_
  refine x_iadd 11 (r := 0 + 1) rfl rfl ?_
  refine x_iald 12 (z := i 185 (0 + 1)) rfl (n_lt rfl) k_185 (by omega) rfl ?_
  refine x_aload_n 13 rfl rfl ?_
  refine x_getR 14 (z := 184) rfl fl_X2_21 (n_lt rfl) k_177 rfl r_177_2 ?_
  refine x_iload_n 15 rfl rfl ?_
  refine x_iald 16 (z := i 184 x) rfl (n_lt rfl) k_184 (by omega) rfl ?_
  refine x_iadd 17 (r := (i 185 (0 + 1)) + (i 184 x)) rfl rfl ?_
  refine x_aload_n 18 rfl rfl ?_
  refine x_getI 19 (z := i 177 8) rfl fl_X2_62 (n_lt rfl) k_177 rfl rfl ?_
  refine x_isub 20 (r := ((i 185 (0 + 1)) + (i 184 x)) - (i 177 8)) rfl rfl ?_
  refine x_mmin 21 (r := min ((i 177 9) - (i 185 0)) (((i 185 (0 + 1)) + (i 184 x)) - (i 177 8))) rfl ml_X2_83 (by omega) rfl (by decide) (Nat.le_of_ble_eq_true rfl) ?_
  refine x_istore 22 (L' := [some (vR (some 177)), some (vR (some 178)), some (vI (x)), some (vI (0)), some (vI (min ((i 177 9) - (i 185 0)) (((i 185 (0 + 1)) + (i 184 x)) - (i 177 8)))), none]) rfl (by decide) rfl rfl ?_
  refine x_aload_n 23 rfl rfl ?_
  refine x_getI 24 (z := i 177 8) rfl fl_X2_62 (n_lt rfl) k_177 rfl rfl ?_
  refine x_aload_n 25 rfl rfl ?_
  refine x_getR 26 (z := 185) rfl fl_X2_25 (n_lt rfl) k_177 rfl r_177_3 ?_
  refine x_iload_n 27 rfl rfl ?_
  refine x_iald 28 (z := i 185 0) rfl (n_lt rfl) k_185 (by omega) rfl ?_
  refine x_isub 29 (r := (i 177 8) - (i 185 0)) rfl rfl ?_
  refine x_aload_n 30 rfl rfl ?_
  refine x_getR 31 (z := 185) rfl fl_X2_25 (n_lt rfl) k_177 rfl r_177_3 ?_
  refine x_iload_n 32 rfl rfl ?_
  refine x_iconst 33 rfl ?_
  refine x_iadd 34 (r := 0 + 1) rfl rfl ?_
  refine x_iald 35 (z := i 185 (0 + 1)) rfl (n_lt rfl) k_185 (by omega) rfl ?_
  refine x_aload_n 36 rfl rfl ?_
  refine x_getR 37 (z := 184) rfl fl_X2_21 (n_lt rfl) k_177 rfl r_177_2 ?_
  refine x_iload_n 38 rfl rfl ?_
  refine x_iald 39 (z := i 184 x) rfl (n_lt rfl) k_184 (by omega) rfl ?_
  refine x_iadd 40 (r := (i 185 (0 + 1)) + (i 184 x)) rfl rfl ?_
  refine x_aload_n 41 rfl rfl ?_
  refine x_getI 42 (z := i 177 9) rfl fl_X2_65 (n_lt rfl) k_177 rfl rfl ?_
  refine x_isub 43 (r := ((i 185 (0 + 1)) + (i 184 x)) - (i 177 9)) rfl rfl ?_
  refine x_mmax 44 (r := max ((i 177 8) - (i 185 0)) (((i 185 (0 + 1)) + (i 184 x)) - (i 177 9))) rfl ml_X2_88 (by omega) rfl (by decide) (Nat.le_of_ble_eq_true rfl) ?_
  refine x_istore 45 (L' := [some (vR (some 177)), some (vR (some 178)), some (vI (x)), some (vI (0)), some (vI (min ((i 177 9) - (i 185 0)) (((i 185 (0 + 1)) + (i 184 x)) - (i 177 8)))), some (vI (max ((i 177 8) - (i 185 0)) (((i 185 (0 + 1)) + (i 184 x)) - (i 177 9))))]) rfl (by decide) rfl rfl ?_
  refine x_aload_n 46 rfl rfl ?_
  refine x_iload_n 47 rfl rfl ?_
  refine x_iload 48 rfl rfl ?_
  refine x_iload 49 rfl rfl ?_
  refine x_callV 50 m_X6_reaches (c_reaches isP_178 (by omega) (by omega) (by omega)) rfl ok_X6_reaches (isP_0 isP_178) (kP isP_178) rfl rfl ml_X2_105 im_X6_reaches se_X6_reaches rfl (by decide) rfl (Nat.le_of_ble_eq_true rfl) rfl rfl (fun v g q1 => ?_)
  rcases q1 with ⟨rfl, ⟨h2, rfl⟩ | ⟨h2, rfl⟩⟩
  · show mX m_X2_pairCanReach 3 _ 0 0 _ _ [vI (1)] _
    have hres := h2
    refine x_ret 51 (some (vI (1))) rfl ⟨rfl, Or.inr ⟨rfl, by omega⟩⟩ ⟨rfl, Or.inl ⟨?_, rfl⟩⟩
    rw [hsx.1, show ((0 : Int) + 1) = 1 from rfl] at hres
    rw [← pcr_U hP hx]
    exact hres
  · show mX m_X2_pairCanReach 3 _ 0 0 _ _ [vI (0)] _
    have hres := h2
    refine x_ret 51 (some (vI (0))) rfl ⟨rfl, Or.inr ⟨rfl, by omega⟩⟩ ⟨rfl, Or.inr ⟨?_, rfl⟩⟩
    rw [hsx.1, show ((0 : Int) + 1) = 1 from rfl] at hres
    rw [← pcr_U hP hx]
    exact hres
set_option maxRecDepth 20000 in
set_option maxHeartbeats 2000000 in
theorem c_pairL {i : Nat → Int → Int} {l : Nat → Int → BitVec 64} {r : List vO} (hP : PL i l r) (hL : -1 ≤ i 177 8 ∧ i 177 8 ≤ 100 ∧ 0 ≤ i 177 9 ∧ i 177 9 ≤ 100) (hgot : ∀ k, 0 ≤ k → k < 4 → 0 ≤ i 185 k ∧ i 185 k ≤ 200) {x : Int} (hx : 0 ≤ x ∧ x < 2 ^ r.length) : mCtr m_X2_pairCanReach 3 0 0 [vR (some 177), vR (some 181), vI (x), vI (2)] (st i l) (qB (pcr 2 3 r x (i 177 8) (i 177 9) (i 185 2) (i 185 3)) (st i l)) := by
  refine mCtr_of pl_X2 dc_X2_pairCanReach (Nat.le_of_ble_eq_true rfl) rfl ?_
  show mX m_X2_pairCanReach 3 _ 0 0 0 [some (vR (some 177)), some (vR (some 181)), some (vI (x)), some (vI (2)), none, none] [] (st i l)
  have hpw := pow10 hP.2.1
  have hsx := PL_sum hP hx
  have hg0 := hgot 2 (by decide) (by decide)
  have hg1 := hgot (2 + 1) (by decide) (by decide)
  refine x_aload_n 0 rfl rfl ?_
  refine x_getI 1 (z := i 177 9) rfl fl_X2_65 (n_lt rfl) k_177 rfl rfl ?_
  refine x_aload_n 2 rfl rfl ?_
  refine x_getR 3 (z := 185) rfl fl_X2_25 (n_lt rfl) k_177 rfl r_177_3 ?_
  refine x_iload_n 4 rfl rfl ?_
  refine x_iald 5 (z := i 185 2) rfl (n_lt rfl) k_185 (by omega) rfl ?_
  refine x_isub 6 (r := (i 177 9) - (i 185 2)) rfl rfl ?_
  refine x_aload_n 7 rfl rfl ?_
  refine x_getR 8 (z := 185) rfl fl_X2_25 (n_lt rfl) k_177 rfl r_177_3 ?_
  refine x_iload_n 9 rfl rfl ?_
  refine x_iconst 10 rfl ?_
  refine x_iadd 11 (r := 2 + 1) rfl rfl ?_
  refine x_iald 12 (z := i 185 (2 + 1)) rfl (n_lt rfl) k_185 (by omega) rfl ?_
  refine x_aload_n 13 rfl rfl ?_
  refine x_getR 14 (z := 184) rfl fl_X2_21 (n_lt rfl) k_177 rfl r_177_2 ?_
  refine x_iload_n 15 rfl rfl ?_
  refine x_iald 16 (z := i 184 x) rfl (n_lt rfl) k_184 (by omega) rfl ?_
  refine x_iadd 17 (r := (i 185 (2 + 1)) + (i 184 x)) rfl rfl ?_
  refine x_aload_n 18 rfl rfl ?_
  refine x_getI 19 (z := i 177 8) rfl fl_X2_62 (n_lt rfl) k_177 rfl rfl ?_
  refine x_isub 20 (r := ((i 185 (2 + 1)) + (i 184 x)) - (i 177 8)) rfl rfl ?_
  refine x_mmin 21 (r := min ((i 177 9) - (i 185 2)) (((i 185 (2 + 1)) + (i 184 x)) - (i 177 8))) rfl ml_X2_83 (by omega) rfl (by decide) (Nat.le_of_ble_eq_true rfl) ?_
  refine x_istore 22 (L' := [some (vR (some 177)), some (vR (some 181)), some (vI (x)), some (vI (2)), some (vI (min ((i 177 9) - (i 185 2)) (((i 185 (2 + 1)) + (i 184 x)) - (i 177 8)))), none]) rfl (by decide) rfl rfl ?_
  refine x_aload_n 23 rfl rfl ?_
  refine x_getI 24 (z := i 177 8) rfl fl_X2_62 (n_lt rfl) k_177 rfl rfl ?_
  refine x_aload_n 25 rfl rfl ?_
  refine x_getR 26 (z := 185) rfl fl_X2_25 (n_lt rfl) k_177 rfl r_177_3 ?_
  refine x_iload_n 27 rfl rfl ?_
  refine x_iald 28 (z := i 185 2) rfl (n_lt rfl) k_185 (by omega) rfl ?_
  refine x_isub 29 (r := (i 177 8) - (i 185 2)) rfl rfl ?_
  refine x_aload_n 30 rfl rfl ?_
  refine x_getR 31 (z := 185) rfl fl_X2_25 (n_lt rfl) k_177 rfl r_177_3 ?_
  refine x_iload_n 32 rfl rfl ?_
  refine x_iconst 33 rfl ?_
  refine x_iadd 34 (r := 2 + 1) rfl rfl ?_
  refine x_iald 35 (z := i 185 (2 + 1)) rfl (n_lt rfl) k_185 (by omega) rfl ?_
  refine x_aload_n 36 rfl rfl ?_
  refine x_getR 37 (z := 184) rfl fl_X2_21 (n_lt rfl) k_177 rfl r_177_2 ?_
  refine x_iload_n 38 rfl rfl ?_
  refine x_iald 39 (z := i 184 x) rfl (n_lt rfl) k_184 (by omega) rfl ?_
  refine x_iadd 40 (r := (i 185 (2 + 1)) + (i 184 x)) rfl rfl ?_
  refine x_aload_n 41 rfl rfl ?_
  refine x_getI 42 (z := i 177 9) rfl fl_X2_65 (n_lt rfl) k_177 rfl rfl ?_
  refine x_isub 43 (r := ((i 185 (2 + 1)) + (i 184 x)) - (i 177 9)) rfl rfl ?_
  refine x_mmax 44 (r := max ((i 177 8) - (i 185 2)) (((i 185 (2 + 1)) + (i 184 x)) - (i 177 9))) rfl ml_X2_88 (by omega) rfl (by decide) (Nat.le_of_ble_eq_true rfl) ?_
  refine x_istore 45 (L' := [some (vR (some 177)), some (vR (some 181)), some (vI (x)), some (vI (2)), some (vI (min ((i 177 9) - (i 185 2)) (((i 185 (2 + 1)) + (i 184 x)) - (i 177 8)))), some (vI (max ((i 177 8) - (i 185 2)) (((i 185 (2 + 1)) + (i 184 x)) - (i 177 9))))]) rfl (by decide) rfl rfl ?_
  refine x_aload_n 46 rfl rfl ?_
  refine x_iload_n 47 rfl rfl ?_
  refine x_iload 48 rfl rfl ?_
  refine x_iload 49 rfl rfl ?_
  refine x_callV 50 m_X6_reaches (c_reaches isP_181 (by omega) (by omega) (by omega)) rfl ok_X6_reaches (isP_0 isP_181) (kP isP_181) rfl rfl ml_X2_105 im_X6_reaches se_X6_reaches rfl (by decide) rfl (Nat.le_of_ble_eq_true rfl) rfl rfl (fun v g q1 => ?_)
  rcases q1 with ⟨rfl, ⟨h2, rfl⟩ | ⟨h2, rfl⟩⟩
  · show mX m_X2_pairCanReach 3 _ 0 0 _ _ [vI (1)] _
    have hres := h2
    refine x_ret 51 (some (vI (1))) rfl ⟨rfl, Or.inr ⟨rfl, by omega⟩⟩ ⟨rfl, Or.inl ⟨?_, rfl⟩⟩
    rw [hsx.1, show ((2 : Int) + 1) = 3 from rfl] at hres
    rw [← pcr_L hP hx]
    exact hres
  · show mX m_X2_pairCanReach 3 _ 0 0 _ _ [vI (0)] _
    have hres := h2
    refine x_ret 51 (some (vI (0))) rfl ⟨rfl, Or.inr ⟨rfl, by omega⟩⟩ ⟨rfl, Or.inr ⟨?_, rfl⟩⟩
    rw [hsx.1, show ((2 : Int) + 1) = 3 from rfl] at hres
    rw [← pcr_L hP hx]
    exact hres
set_option maxRecDepth 20000 in
set_option maxHeartbeats 2000000 in
theorem c_canFinish {i : Nat → Int → Int} {l : Nat → Int → BitVec 64} {r : List vO} (hP : PL i l r) (hL : -1 ≤ i 177 8 ∧ i 177 8 ≤ 100 ∧ 0 ≤ i 177 9 ∧ i 177 9 ≤ 100) (hgot : ∀ k, 0 ≤ k → k < 4 → 0 ≤ i 185 k ∧ i 185 k ≤ 200) {f : Int} (hf : 0 ≤ f ∧ f ≤ r.length) : mCtr m_X2_canFinish 4 0 0 [vR (some 177), vI (f)] (st i l) (qB (cfP r f (i 177 8) (i 177 9) (i 185)) (st i l)) := by
  refine mCtr_of pl_X2 dc_X2_canFinish (Nat.le_of_ble_eq_true rfl) rfl ?_
  show mX m_X2_canFinish 4 _ 0 0 0 [some (vR (some 177)), some (vI (f)), none, none, none, none] [] (st i l)
  have hl10 := hP.2.1
  have h177 := hP.1
  have hpw := pow10 (show r.length - f.toNat ≤ 10 by omega)
  have he7 : 1 * 2 ^ (i 177 7 - f).toNat = (2 : Int) ^ (r.length - f.toNat) := by rw [h177, Int.one_mul]; congr 1; omega
  have hpn := pow10 hP.2.1
  refine x_iconst 0 rfl ?_
  refine x_aload_n 1 rfl rfl ?_
  refine x_getI 2 (z := i 177 7) rfl fl_X2_37 (n_lt rfl) k_177 rfl rfl ?_
  refine x_iload_n 3 rfl rfl ?_
  refine x_isub 4 (r := (i 177 7) - f) rfl rfl ?_
  refine x_ishl 5 (r := 1 * 2 ^ ((i 177 7) - f).toNat) rfl (by omega) rfl ?_
  refine x_iconst 6 rfl ?_
  refine x_isub 7 (r := (1 * 2 ^ ((i 177 7) - f).toNat) - 1) rfl rfl ?_
  refine x_eqS (S' := [vI (2 ^ (r.length - f.toNat) - 1)]) (by rw [he7]) ?_
  refine x_istore_n 8 (L' := [some (vR (some 177)), some (vI (f)), some (vI (2 ^ (r.length - f.toNat) - 1)), none, none, none]) rfl (by decide) rfl rfl ?_
  refine x_iconst 9 rfl ?_
  refine x_istore_n 10 (L' := [some (vR (some 177)), some (vI (f)), some (vI (2 ^ (r.length - f.toNat) - 1)), some (vI (0)), none, none]) rfl (by decide) rfl rfl ?_
  have loopL1 : ∀ (nz : Nat) (s : Int), (0 ≤ s ∧ s ≤ 2 ^ (r.length - f.toNat)) → (∀ t, 0 ≤ t → t < s → ¬ cfA r f (i 177 8) (i 177 9) (i 185) t) → (2 ^ (r.length - f.toNat) - s) < (nz : Int) → mX m_X2_canFinish 4 (qB (cfP r f (i 177 8) (i 177 9) (i 185)) (st i l)) 0 0 13 [some (vR (some 177)), some (vI (f)), some (vI (2 ^ (r.length - f.toNat) - 1)), some (vI (s)), none, none] [] (st i l) := by
    intro nz
    induction nz with
    | zero => intro s hs hN hz; exact absurd hz (by omega)
    | succ nz ihL1 =>
      intro s hs hN hzL1
      refine x_iload_n 11 rfl rfl ?_
      refine x_iload_n 12 rfl rfl ?_
      refine x_icmp_gt 13 (tgt := 66) rfl (by decide) (by omega) (fun h2 => ?_) (fun h2 => ?_)
      · refine x_iconst 42 rfl ?_
        refine x_ret 43 (some (vI (0))) rfl ⟨rfl, Or.inr ⟨rfl, by omega⟩⟩ ⟨rfl, Or.inr ⟨?_, rfl⟩⟩
        rintro ⟨t, ⟨h0, h1⟩, hA⟩
        exact hN t h0 (by omega) hA
      · have hb1 := shl_bd (n := r.length) (f := f.toNat) (s := s) (by omega) hs.1 (by omega)
        have hb2 := shl_bd (n := r.length) (f := f.toNat) (s := 2 ^ (r.length - f.toNat) - 1 - s) (by omega) (by omega) (by omega)
        refine x_iload_n 14 rfl rfl ?_
        refine x_iload_n 15 rfl rfl ?_
        refine x_ishl 16 (r := s * 2 ^ (f).toNat) rfl (by omega) rfl ?_
        refine x_istore 17 (L' := [some (vR (some 177)), some (vI (f)), some (vI (2 ^ (r.length - f.toNat) - 1)), some (vI (s)), some (vI (s * 2 ^ (f).toNat)), none]) rfl (by decide) rfl rfl ?_
        refine x_iload_n 18 rfl rfl ?_
        refine x_iload_n 19 rfl rfl ?_
        refine x_ixor 20 (r := (2 ^ (r.length - f.toNat) - 1 : Int).toNat ^^^ (s : Int).toNat) rfl (by omega) rfl ?_
        refine x_eqS (S' := [vI (2 ^ (r.length - f.toNat) - 1 - s)]) (by rw [xor_all hs.1 (by omega)]) ?_
        refine x_iload_n 21 rfl rfl ?_
        refine x_ishl 22 (r := (2 ^ (r.length - f.toNat) - 1 - s) * 2 ^ (f).toNat) rfl (by omega) rfl ?_
        refine x_istore 23 (L' := [some (vR (some 177)), some (vI (f)), some (vI (2 ^ (r.length - f.toNat) - 1)), some (vI (s)), some (vI (s * 2 ^ (f).toNat)), some (vI ((2 ^ (r.length - f.toNat) - 1 - s) * 2 ^ (f).toNat))]) rfl (by decide) rfl rfl ?_
        refine x_aload_n 24 rfl rfl ?_
        refine x_aload_n 25 rfl rfl ?_
        refine x_getR 26 (z := 178) rfl fl_X2_12 (n_lt rfl) k_177 rfl r_177_0 ?_
        refine x_iload 27 rfl rfl ?_
        refine x_iconst 28 rfl ?_
        refine x_callV 29 m_X2_pairCanReach (c_pairU hP hL hgot (by omega)) rfl ok_X2_pairCanReach (n_lt rfl) k_177 rfl rfl ml_X2_101 im_X2_pairCanReach se_X2_pairCanReach rfl (by decide) rfl (Nat.le_of_ble_eq_true rfl) rfl rfl (fun v g q3 => ?_)
        rcases q3 with ⟨rfl, ⟨h4, rfl⟩ | ⟨h4, rfl⟩⟩
        · show mX m_X2_canFinish 4 _ 0 0 _ _ [vI (1)] _
          have hy1 := h4
          refine x_if_eq 30 (tgt := 60) rfl (by decide) (by decide) (fun h5 => absurd h5 (by decide)) (fun h5 => ?_)
          refine x_aload_n 31 rfl rfl ?_
          refine x_aload_n 32 rfl rfl ?_
          refine x_getR 33 (z := 181) rfl fl_X2_18 (n_lt rfl) k_177 rfl r_177_1 ?_
          refine x_iload 34 rfl rfl ?_
          refine x_iconst 35 rfl ?_
          refine x_callV 36 m_X2_pairCanReach (c_pairL hP hL hgot (by omega)) rfl ok_X2_pairCanReach (n_lt rfl) k_177 rfl rfl ml_X2_101 im_X2_pairCanReach se_X2_pairCanReach rfl (by decide) rfl (Nat.le_of_ble_eq_true rfl) rfl rfl (fun v g q6 => ?_)
          rcases q6 with ⟨rfl, ⟨h7, rfl⟩ | ⟨h7, rfl⟩⟩
          · show mX m_X2_canFinish 4 _ 0 0 _ _ [vI (1)] _
            have hy2 := h7
            refine x_if_eq 37 (tgt := 60) rfl (by decide) (by decide) (fun h8 => absurd h8 (by decide)) (fun h8 => ?_)
            refine x_iconst 38 rfl ?_
            refine x_ret 39 (some (vI (1))) rfl ⟨rfl, Or.inr ⟨rfl, by omega⟩⟩ ⟨rfl, Or.inl ⟨?_, rfl⟩⟩
            exact ⟨s, ⟨hs.1, by omega⟩, hy1, hy2⟩
          · show mX m_X2_canFinish 4 _ 0 0 _ _ [vI (0)] _
            have hno := h7
            refine x_if_eq 37 (tgt := 60) rfl (by decide) (by decide) (fun h9 => ?_) (fun h9 => absurd h9 (by decide))
            refine x_iinc 40 (L' := [some (vR (some 177)), some (vI (f)), some (vI (2 ^ (r.length - f.toNat) - 1)), some (vI (s + 1)), some (vI (s * 2 ^ (f).toNat)), some (vI ((2 ^ (r.length - f.toNat) - 1 - s) * 2 ^ (f).toNat))]) rfl (by decide) rfl rfl rfl rfl ?_
            refine x_goto 41 (tgt := 13) rfl (by decide) ?_
            refine x_dropL (L' := [some (vR (some 177)), some (vI (f)), some (vI (2 ^ (r.length - f.toNat) - 1)), some (vI (s + 1)), none, none]) ⟨rfl, ⟨rfl, ⟨rfl, ⟨rfl, True.intro⟩⟩⟩⟩ ?_
            exact ihL1 (s + 1) (by omega) (by intro t h0 h1; by_cases e : t = s; (subst e; unfold cfA; intro hh; first | exact hno hh.1 | exact hno hh.2); (exact hN t h0 (by omega))) (by omega)
        · show mX m_X2_canFinish 4 _ 0 0 _ _ [vI (0)] _
          have hno := h4
          refine x_if_eq 30 (tgt := 60) rfl (by decide) (by decide) (fun h10 => ?_) (fun h10 => absurd h10 (by decide))
          refine x_iinc 40 (L' := [some (vR (some 177)), some (vI (f)), some (vI (2 ^ (r.length - f.toNat) - 1)), some (vI (s + 1)), some (vI (s * 2 ^ (f).toNat)), some (vI ((2 ^ (r.length - f.toNat) - 1 - s) * 2 ^ (f).toNat))]) rfl (by decide) rfl rfl rfl rfl ?_
          refine x_goto 41 (tgt := 13) rfl (by decide) ?_
          refine x_dropL (L' := [some (vR (some 177)), some (vI (f)), some (vI (2 ^ (r.length - f.toNat) - 1)), some (vI (s + 1)), none, none]) ⟨rfl, ⟨rfl, ⟨rfl, ⟨rfl, True.intro⟩⟩⟩⟩ ?_
          exact ihL1 (s + 1) (by omega) (by intro t h0 h1; by_cases e : t = s; (subst e; unfold cfA; intro hh; first | exact hno hh.1 | exact hno hh.2); (exact hN t h0 (by omega))) (by omega)
  exact loopL1 ((2 ^ (r.length - f.toNat) - ((0))) + 1 : Int).toNat (0) (by omega) (fun t h0 h1 => by omega) (by omega)
set_option maxRecDepth 20000 in
set_option maxHeartbeats 2000000 in
theorem c_firstGoodPart {i : Nat → Int → Int} {l : Nat → Int → BitVec 64} {r : List vO} (hP : PL i l r) (hL : -1 ≤ i 177 8 ∧ i 177 8 ≤ 100 ∧ 0 ≤ i 177 9 ∧ i 177 9 ≤ 100) (hgot : ∀ k, 0 ≤ k → k < 4 → 0 ≤ i 185 k ∧ i 185 k ≤ 150) {k : Int} (hk : 0 ≤ k ∧ k < r.length) (hm : 0 ≤ (vAt r k).2.2 ∧ (vAt r k).2.2 ≤ 15) : mCtr m_X2_firstGoodPart 5 0 0 [vR (some 177), vI (k)] (st i l) (qW (fun z i' l' => z = fgZ r k (i 177 8) (i 177 9) (i 185) ∧ l' = l ∧ ∀ a b, i' a b = if a = 185 ∧ b = fgZ r k (i 177 8) (i 177 9) (i 185) ∧ 0 ≤ b then i a b + (vAt r k).2.1 else i a b)) := by
  refine mCtr_of pl_X2 dc_X2_firstGoodPart (Nat.le_of_ble_eq_true rfl) rfl ?_
  show mX m_X2_firstGoodPart 5 _ 0 0 0 [some (vR (some 177)), some (vI (k)), none] [] (st i l)
  have hl10 := hP.2.1
  have h177 := hP.1
  have hv := hP.2.2.2.1 k hk.1 hk.2
  have hvm := hP.2.2.1 _ (vAt_mem hk.1 hk.2)
  obtain ⟨L, hLe⟩ : ∃ L, L = i 177 8 := ⟨_, rfl⟩
  obtain ⟨G, hGe⟩ : ∃ G, G = i 177 9 := ⟨_, rfl⟩
  refine x_iconst 0 rfl ?_
  refine x_istore_n 1 (L' := [some (vR (some 177)), some (vI (k)), some (vI (0))]) rfl (by decide) rfl rfl ?_
  have loopL1 : ∀ (nz : Nat) (ii : Nat → Int → Int) (p : Int), (0 ≤ p ∧ p ≤ 4) → (∀ a b, ii a b = i a b) → (∀ q, 0 ≤ q → q < p → ¬ fgO r k (i 177 8) (i 177 9) (i 185) q) → (4 - p) < (nz : Int) → mX m_X2_firstGoodPart 5 (qW (fun z i' l' => z = fgZ r k (i 177 8) (i 177 9) (i 185) ∧ l' = l ∧ ∀ a b, i' a b = if a = 185 ∧ b = fgZ r k (i 177 8) (i 177 9) (i 185) ∧ 0 ≤ b then i a b + (vAt r k).2.1 else i a b)) 0 0 2 [some (vR (some 177)), some (vI (k)), some (vI (p))] [] (st ii l) := by
    intro nz
    induction nz with
    | zero => intro ii p hp he hN hz; exact absurd hz (by omega)
    | succ nz ihL1 =>
      intro ii p hp he hN hzL1
      refine x_iload_n 2 rfl rfl ?_
      refine x_iconst 3 rfl ?_
      refine x_icmp_ge 4 (tgt := 69) rfl (by decide) (by omega) (fun h2 => ?_) (fun h2 => ?_)
      · refine x_bipush 45 rfl (by decide) ?_
        refine x_ret 46 (some (vI ((-9)))) rfl ⟨rfl, Or.inl rfl⟩ ⟨_, ii, l, rfl, rfl, ?_⟩
        have hfz := fgZ_none (r := r) (k := k) (L := i 177 8) (G := i 177 9) (g := i 185) (fun q h0 h1 => hN q h0 (by omega))
        refine ⟨hfz.symm, rfl, fun a b => ?_⟩
        rw [hfz, he, if_neg (by omega)]
      · have ek8 := he 188 k
        have ek7 := he 187 k
        have e5p := he 185 p
        have hgp := hgot p (by omega) (by omega)
        refine x_aload_n 5 rfl rfl ?_
        refine x_getR 6 (z := 188) rfl fl_X2_34 (n_lt rfl) k_177 rfl r_177_6 ?_
        refine x_iload_n 7 rfl rfl ?_
        refine x_iald 8 (z := ii 188 k) rfl (n_lt rfl) k_188 (by omega) rfl ?_
        refine x_i2l 9 (r := BitVec.ofInt 64 (ii 188 k)) rfl (by omega) rfl ?_
        refine x_iload_n 10 rfl rfl ?_
        refine x_callSN 11 m_X8_contains (c_contains (by omega)) rfl ok_X8_contains (by decide +kernel) st_X8_contains rfl (by decide) rfl (Nat.le_of_ble_eq_true rfl) rfl rfl (fun v g q3 => ?_)
        rcases q3 with ⟨rfl, ⟨h4, rfl⟩ | ⟨h4, rfl⟩⟩
        · show mX m_X2_firstGoodPart 5 _ 0 0 _ _ [vI (1)] _
          have hyb : vB (vAt r k).2.2 p.toNat := by unfold vB; rw [← hv.2.2, ← he]; exact h4
          refine x_if_eq 12 (tgt := 63) rfl (by decide) (by decide) (fun h5 => absurd h5 (by decide)) (fun h5 => ?_)
          refine x_aload_n 13 rfl rfl ?_
          refine x_getR 14 (z := 185) rfl fl_X2_25 (n_lt rfl) k_177 rfl r_177_3 ?_
          refine x_iload_n 15 rfl rfl ?_
          refine x_dup2 16 rfl rfl rfl ?_
          refine x_iald 17 (z := ii 185 p) rfl (n_lt rfl) k_185 (by omega) rfl ?_
          refine x_aload_n 18 rfl rfl ?_
          refine x_getR 19 (z := 187) rfl fl_X2_31 (n_lt rfl) k_177 rfl r_177_5 ?_
          refine x_iload_n 20 rfl rfl ?_
          refine x_iald 21 (z := ii 187 k) rfl (n_lt rfl) k_187 (by omega) rfl ?_
          refine x_iadd 22 (r := (ii 185 p) + (ii 187 k)) rfl rfl ?_
          obtain ⟨i6, hi6⟩ : ∃ f, f = mU ii 185 (p) ((ii 185 p) + (ii 187 k)) := ⟨_, rfl⟩
          refine x_iast 23 rfl (n_lt rfl) k_185 (by omega) (g' := st i6 l) (by subst hi6; rfl) ?_
          have hPn : PL i6 l r := PL_185 hP (fun a b hab => by rw [hi6]; simp only [mU]; rw [if_neg (by omega)]; exact he a b)
          have hq8 : i6 177 8 = i 177 8 := by rw [hi6]; simp only [mU]; rw [if_neg (by omega)]; exact he _ _
          have hq9 : i6 177 9 = i 177 9 := by rw [hi6]; simp only [mU]; rw [if_neg (by omega)]; exact he _ _
          have hgAd : ∀ b, 0 ≤ b → b < 4 → i6 185 b = gAd (i 185) p (vAt r k).2.1 b := by intro b h0 h1; rw [hi6]; unfold gAd; simp only [mU, true_and, he, hv.2.1]; by_cases e : b = p <;> simp [e]
          have hgn : ∀ b, 0 ≤ b → b < 4 → 0 ≤ i6 185 b ∧ i6 185 b ≤ 200 := by intro b h0 h1; rw [hgAd b h0 h1]; unfold gAd; have := hgot b h0 h1; split <;> omega
          refine x_aload_n 24 rfl rfl ?_
          refine x_iload_n 25 rfl rfl ?_
          refine x_iconst 26 rfl ?_
          refine x_iadd 27 (r := k + 1) rfl rfl ?_
          refine x_callV 28 m_X2_canFinish (c_canFinish hPn (by omega) hgn (by omega)) rfl ok_X2_canFinish (n_lt rfl) k_177 rfl rfl ml_X2_97 im_X2_canFinish se_X2_canFinish rfl (by decide) rfl (Nat.le_of_ble_eq_true rfl) rfl rfl (fun v g q7 => ?_)
          rcases q7 with ⟨rfl, ⟨h8, rfl⟩ | ⟨h8, rfl⟩⟩
          · show mX m_X2_firstGoodPart 5 _ 0 0 _ _ [vI (1)] _
            have hyc : cfP r (k + 1) (i 177 8) (i 177 9) (gAd (i 185) p (vAt r k).2.1) := by rw [← cfP_congr hgAd, ← hq8, ← hq9]; exact h8
            refine x_if_eq 29 (tgt := 48) rfl (by decide) (by decide) (fun h9 => absurd h9 (by decide)) (fun h9 => ?_)
            refine x_iload_n 30 rfl rfl ?_
            refine x_ret 31 (some (vI (p))) rfl ⟨rfl, Or.inl rfl⟩ ⟨_, i6, l, rfl, rfl, ?_⟩
            have hfz := fgZ_hit (by omega) (show fgO r k (i 177 8) (i 177 9) (i 185) p from ⟨hyb, hyc⟩) hN
            refine ⟨hfz.symm, rfl, fun a b => ?_⟩
            rw [hfz]
            subst_vars
            simp only [mU, he, hv.2.1]
            grind
          · show mX m_X2_firstGoodPart 5 _ 0 0 _ _ [vI (0)] _
            have hno2 : ¬ cfP r (k + 1) (i 177 8) (i 177 9) (gAd (i 185) p (vAt r k).2.1) := by rw [← cfP_congr hgAd, ← hq8, ← hq9]; exact h8
            refine x_if_eq 29 (tgt := 48) rfl (by decide) (by decide) (fun h10 => ?_) (fun h10 => absurd h10 (by decide))
            refine x_aload_n 32 rfl rfl ?_
            refine x_getR 33 (z := 185) rfl fl_X2_25 (n_lt rfl) k_177 rfl r_177_3 ?_
            refine x_iload_n 34 rfl rfl ?_
            refine x_dup2 35 rfl rfl rfl ?_
            refine x_iald 36 (z := i6 185 p) rfl (n_lt rfl) k_185 (by omega) rfl ?_
            refine x_aload_n 37 rfl rfl ?_
            refine x_getR 38 (z := 187) rfl fl_X2_31 (n_lt rfl) k_177 rfl r_177_5 ?_
            refine x_iload_n 39 rfl rfl ?_
            refine x_iald 40 (z := i6 187 k) rfl (n_lt rfl) k_187 (by omega) rfl ?_
            refine x_isub 41 (r := (i6 185 p) - (i6 187 k)) rfl rfl ?_
            obtain ⟨i11, hi11⟩ : ∃ f, f = mU i6 185 (p) ((i6 185 p) - (i6 187 k)) := ⟨_, rfl⟩
            refine x_iast 42 rfl (n_lt rfl) k_185 (by omega) (g' := st i11 l) (by subst hi11; rfl) ?_
            refine x_iinc 43 (L' := [some (vR (some 177)), some (vI (k)), some (vI (p + 1))]) rfl (by decide) rfl rfl rfl rfl ?_
            refine x_goto 44 (tgt := 2) rfl (by decide) ?_
            exact ihL1 i11 (p + 1) (by omega) (by first | exact he | (intro a b; subst_vars; simp only [mU]; grind)) (by intro q h0 h1; by_cases e : q = p; (subst e; intro hh; first | exact hno1 hh.1 | exact hno2 hh.2); (exact hN q h0 (by omega))) (by omega)
        · show mX m_X2_firstGoodPart 5 _ 0 0 _ _ [vI (0)] _
          have hno1 : ¬ vB (vAt r k).2.2 p.toNat := by unfold vB; rw [← hv.2.2, ← he]; exact h4
          refine x_if_eq 12 (tgt := 63) rfl (by decide) (by decide) (fun h12 => ?_) (fun h12 => absurd h12 (by decide))
          refine x_iinc 43 (L' := [some (vR (some 177)), some (vI (k)), some (vI (p + 1))]) rfl (by decide) rfl rfl rfl rfl ?_
          refine x_goto 44 (tgt := 2) rfl (by decide) ?_
          exact ihL1 ii (p + 1) (by omega) (by first | exact he | (intro a b; subst_vars; simp only [mU]; grind)) (by intro q h0 h1; by_cases e : q = p; (subst e; intro hh; first | exact hno1 hh.1 | exact hno2 hh.2); (exact hN q h0 (by omega))) (by omega)
  exact loopL1 ((4 - ((0))) + 1 : Int).toNat i (0) (by omega) (fun _ _ => rfl) (fun q h0 h1 => by omega) (by omega)
set_option maxRecDepth 20000 in
set_option maxHeartbeats 2000000 in
theorem c_choose {i : Nat → Int → Int} {l : Nat → Int → BitVec 64} {c : Nat} (hc : isC c) (hn : 0 ≤ i c 4 ∧ i c 4 ≤ 10) {r : List vO} (hP : PL i l r) (hL : -1 ≤ i 177 8 ∧ i 177 8 ≤ 100 ∧ 0 ≤ i 177 9 ∧ i 177 9 ≤ 100) (hr : ∀ v ∈ r, (0 ≤ v.1 ∧ v.1 < i c 4) ∧ 0 ≤ v.2.2 ∧ v.2.2 ≤ 15) : mCtr m_X2_choose 6 0 0 [vR (some 177), vR (some c)] (st i l) (qV (fun i' l' => l' = l ∧ ∀ a b, i' a b = if b = 6 ∧ c + 2 ≤ a ∧ (a : Int) < c + 2 + i c 4 then (chZ r (i 177 8) (i 177 9) r.length).2 (a - c - 2) else if a = 185 ∧ 0 ≤ b ∧ b < 4 then (chZ r (i 177 8) (i 177 9) r.length).1 b else i a b)) := by
  refine mCtr_of pl_X2 dc_X2_choose (Nat.le_of_ble_eq_true rfl) rfl ?_
  show mX m_X2_choose 6 _ 0 0 0 [some (vR (some 177)), some (vR (some c)), none] [] (st i l)
  have hrr := isC_r hc
  have hl10 := hP.2.1
  have h177 := hP.1
  refine x_iconst 0 rfl ?_
  refine x_istore_n 1 (L' := [some (vR (some 177)), some (vR (some c)), some (vI (0))]) rfl (by decide) rfl rfl ?_
  have loopL1 : ∀ (nz : Nat) (ii : Nat → Int → Int) (x : Int), (0 ≤ x ∧ x ≤ i c 4) → (∀ a b, ii a b = if b = 6 ∧ c + 2 ≤ a ∧ (a : Int) < c + 2 + x then -9 else i a b) → (i c 4 - x) < (nz : Int) → mX m_X2_choose 6 (qV (fun i' l' => l' = l ∧ ∀ a b, i' a b = if b = 6 ∧ c + 2 ≤ a ∧ (a : Int) < c + 2 + i c 4 then (chZ r (i 177 8) (i 177 9) r.length).2 (a - c - 2) else if a = 185 ∧ 0 ≤ b ∧ b < 4 then (chZ r (i 177 8) (i 177 9) r.length).1 b else i a b)) 0 0 2 [some (vR (some 177)), some (vR (some c)), some (vI (x))] [] (st ii l) := by
    intro nz
    induction nz with
    | zero => intro ii x hx hA hz; exact absurd hz (by omega)
    | succ nz ihL1 =>
      intro ii x hx hA hzL1
      have e4 : ii c 4 = i c 4 := by rw [hA, if_neg (by omega)]
      refine x_iload_n 2 rfl rfl ?_
      refine x_aload_n 3 rfl rfl ?_
      refine x_getI 4 (z := ii c 4) rfl fl_X2_41 (isC_0 hc) (kC hc) rfl rfl ?_
      refine x_icmp_ge 5 (tgt := 27) rfl (by decide) (by omega) (fun h2 => ?_) (fun h2 => ?_)
      · refine x_iconst 14 rfl ?_
        refine x_istore_n 15 (L' := [some (vR (some 177)), some (vR (some c)), some (vI (0))]) rfl (by decide) rfl rfl ?_
        have loopL3 : ∀ (nz : Nat) (jj : Nat → Int → Int) (x2 : Int), (0 ≤ x2 ∧ x2 ≤ 4) → (∀ a b, jj a b = if a = 185 ∧ 0 ≤ b ∧ b < x2 then 0 else ii a b) → (4 - x2) < (nz : Int) → mX m_X2_choose 6 (qV (fun i' l' => l' = l ∧ ∀ a b, i' a b = if b = 6 ∧ c + 2 ≤ a ∧ (a : Int) < c + 2 + i c 4 then (chZ r (i 177 8) (i 177 9) r.length).2 (a - c - 2) else if a = 185 ∧ 0 ≤ b ∧ b < 4 then (chZ r (i 177 8) (i 177 9) r.length).1 b else i a b)) 0 0 29 [some (vR (some 177)), some (vR (some c)), some (vI (x2))] [] (st jj l) := by
          intro nz
          induction nz with
          | zero => intro jj x2 hx2 hA2 hz; exact absurd hz (by omega)
          | succ nz ihL3 =>
            intro jj x2 hx2 hA2 hzL3
            refine x_iload_n 16 rfl rfl ?_
            refine x_iconst 17 rfl ?_
            refine x_icmp_ge 18 (tgt := 47) rfl (by decide) (by omega) (fun h4 => ?_) (fun h4 => ?_)
            · refine x_iconst 26 rfl ?_
              refine x_istore_n 27 (L' := [some (vR (some 177)), some (vR (some c)), some (vI (0))]) rfl (by decide) rfl rfl ?_
              have loopL5 : ∀ (nz : Nat) (kk : Nat → Int → Int) (x3 : Int), (0 ≤ x3 ∧ x3 ≤ r.length) → (∀ a b, kk a b = if b = 6 ∧ c + 2 ≤ a ∧ (a : Int) < c + 2 + i c 4 then (chZ r (i 177 8) (i 177 9) x3).2 (a - c - 2) else if a = 185 ∧ 0 ≤ b ∧ b < 4 then (chZ r (i 177 8) (i 177 9) x3).1 b else i a b) → (r.length - x3) < (nz : Int) → mX m_X2_choose 6 (qV (fun i' l' => l' = l ∧ ∀ a b, i' a b = if b = 6 ∧ c + 2 ≤ a ∧ (a : Int) < c + 2 + i c 4 then (chZ r (i 177 8) (i 177 9) r.length).2 (a - c - 2) else if a = 185 ∧ 0 ≤ b ∧ b < 4 then (chZ r (i 177 8) (i 177 9) r.length).1 b else i a b)) 0 0 49 [some (vR (some 177)), some (vR (some c)), some (vI (x3))] [] (st kk l) := by
                intro nz
                induction nz with
                | zero => intro kk x3 hx3 hA3 hz; exact absurd hz (by omega)
                | succ nz ihL5 =>
                  intro kk x3 hx3 hA3 hzL5
                  have e7 : kk 177 7 = i 177 7 := by rw [hA3, if_neg (by omega), if_neg (by omega)]
                  refine x_iload_n 28 rfl rfl ?_
                  refine x_aload_n 29 rfl rfl ?_
                  refine x_getI 30 (z := kk 177 7) rfl fl_X2_37 (n_lt rfl) k_177 rfl rfl ?_
                  refine x_icmp_ge 31 (tgt := 82) rfl (by decide) (by omega) (fun h6 => ?_) (fun h6 => ?_)
                  · refine x_ret 45 none rfl ⟨rfl, rfl⟩ ⟨rfl, kk, l, rfl, ?_⟩
                    refine ⟨rfl, ?_⟩
                    rw [show x3 = r.length by omega] at hA3
                    exact hA3
                  · have hPk : PL kk l r := PL_185 hP (fun a b hab => by rw [hA3, if_neg (by omega), if_neg (by omega)])
                    have hv := hPk.2.2.2.1 x3 hx3.1 (by omega)
                    have hvr := hr _ (vAt_mem hx3.1 (show x3 < r.length by omega))
                    have ek8 : kk 177 8 = i 177 8 := by rw [hA3, if_neg (by omega), if_neg (by omega)]
                    have ek9 : kk 177 9 = i 177 9 := by rw [hA3, if_neg (by omega), if_neg (by omega)]
                    have hv1 := hv.1
                    have hgk : ∀ b, 0 ≤ b → b < 4 → kk 185 b = (chZ r (i 177 8) (i 177 9) x3).1 b := by intro b h0 h1; rw [hA3, if_neg (by omega), if_pos ⟨rfl, h0, h1⟩]
                    have hgot : ∀ b, 0 ≤ b → b < 4 → 0 ≤ kk 185 b ∧ kk 185 b ≤ 150 := by intro b h0 h1; rw [hgk b h0 h1]; have := chZ_bd (i 177 8) (i 177 9) hP.2.2.1 hx3 b; omega
                    refine x_aload_n 32 rfl rfl ?_
                    refine x_getR 33 (z := (c + 1)) rfl fl_X2_50 (isC_0 hc) (kC hc) rfl (rC0 hc) ?_
                    refine x_aload_n 34 rfl rfl ?_
                    refine x_getR 35 (z := 186) rfl fl_X2_28 (n_lt rfl) k_177 rfl r_177_4 ?_
                    refine x_iload_n 36 rfl rfl ?_
                    refine x_iald 37 (z := kk 186 x3) rfl (n_lt rfl) k_186 (by omega) rfl ?_
                    refine x_aald 38 (t := 3) (z := (c + 2 + (kk 186 x3).toNat)) rfl (isC_S hc) (kCS hc) (by omega) ⟨rfl, rfl⟩ (rCs hc (by omega)) ?_
                    refine x_aload_n 39 rfl rfl ?_
                    refine x_iload_n 40 rfl rfl ?_
                    refine x_callV 41 m_X2_firstGoodPart (c_firstGoodPart hPk (by omega) hgot (by omega) (by omega)) rfl ok_X2_firstGoodPart (n_lt rfl) k_177 rfl rfl ml_X2_94 im_X2_firstGoodPart se_X2_firstGoodPart rfl (by decide) rfl (Nat.le_of_ble_eq_true rfl) rfl rfl (fun v g q7 => ?_)
                    obtain ⟨z9, i8, li8, rfl, rfl, hi8⟩ := q7
                    show mX m_X2_choose 6 _ 0 0 _ _ [vI (z9), vR (some (c + 2 + (kk 186 x3).toNat))] _
                    obtain ⟨hmz, rfl, hmI⟩ := hi8
                    have hfz : fgZ r x3 (kk 177 8) (kk 177 9) (kk 185) = fgZ r x3 (i 177 8) (i 177 9) (chZ r (i 177 8) (i 177 9) x3).1 := by rw [ek8, ek9]; exact fgZ_congr hgk
                    rw [hfz] at hmI
                    obtain ⟨i10, hi10⟩ : ∃ f, f = mU i8 (c + 2 + (kk 186 x3).toNat) 6 (z9) := ⟨_, rfl⟩
                    refine x_putI 42 rfl fl_X2_91 (isS_lt (isS.of hc (show (kk 186 x3).toNat < 10 by omega))) (kS (isS.of hc (show (kk 186 x3).toNat < 10 by omega))) rfl rfl (g' := st i10 li8) (by subst hi10; rfl) ?_
                    have hi_ := hi10
                    rw [hmz, hfz, hv1] at hi_
                    refine x_iinc 43 (L' := [some (vR (some 177)), some (vR (some c)), some (vI (x3 + 1))]) rfl (by decide) rfl rfl rfl rfl ?_
                    refine x_goto 44 (tgt := 49) rfl (by decide) ?_
                    exact ihL5 i10 (x3 + 1) (by omega) (by intro a b; rw [chZ_s _ _ _ hx3.1]; exact ch_step hrr hn.2 hvr.1 hA3 hmI (fgZ_bd _ _ _ _ _) hi_ a b) (by omega)
              exact loopL5 ((r.length - ((0))) + 1 : Int).toNat jj (0) (by omega) (by intro a b; rw [hA2, hA, show x = i c 4 by omega, show x2 = 4 by omega]; show _ = if _ then -9 else if _ then 0 else _; grind) (by omega)
            · refine x_aload_n 19 rfl rfl ?_
              refine x_getR 20 (z := 185) rfl fl_X2_25 (n_lt rfl) k_177 rfl r_177_3 ?_
              refine x_iload_n 21 rfl rfl ?_
              refine x_iconst 22 rfl ?_
              obtain ⟨i11, hi11⟩ : ∃ f, f = mU jj 185 (x2) (0) := ⟨_, rfl⟩
              refine x_iast 23 rfl (n_lt rfl) k_185 (by omega) (g' := st i11 l) (by subst hi11; rfl) ?_
              refine x_iinc 24 (L' := [some (vR (some 177)), some (vR (some c)), some (vI (x2 + 1))]) rfl (by decide) rfl rfl rfl rfl ?_
              refine x_goto 25 (tgt := 29) rfl (by decide) ?_
              exact ihL3 i11 (x2 + 1) (by omega) (by intro a b; subst_vars; simp only [mU, hA2]; grind) (by omega)
        exact loopL3 ((4 - ((0))) + 1 : Int).toNat ii (0) (by omega) (by intro a b; rw [if_neg (by omega)]) (by omega)
      · refine x_aload_n 6 rfl rfl ?_
        refine x_getR 7 (z := (c + 1)) rfl fl_X2_50 (isC_0 hc) (kC hc) rfl (rC0 hc) ?_
        refine x_iload_n 8 rfl rfl ?_
        refine x_aald 9 (t := 3) (z := (c + 2 + (x).toNat)) rfl (isC_S hc) (kCS hc) (by omega) ⟨rfl, rfl⟩ (rCs hc (by omega)) ?_
        refine x_bipush 10 rfl (by decide) ?_
        obtain ⟨i12, hi12⟩ : ∃ f, f = mU ii (c + 2 + (x).toNat) 6 ((-9)) := ⟨_, rfl⟩
        refine x_putI 11 rfl fl_X2_91 (isS_lt (isS.of hc (show (x).toNat < 10 by omega))) (kS (isS.of hc (show (x).toNat < 10 by omega))) rfl rfl (g' := st i12 l) (by subst hi12; rfl) ?_
        refine x_iinc 12 (L' := [some (vR (some 177)), some (vR (some c)), some (vI (x + 1))]) rfl (by decide) rfl rfl rfl rfl ?_
        refine x_goto 13 (tgt := 2) rfl (by decide) ?_
        exact ihL1 i12 (x + 1) (by omega) (by intro a b; subst_vars; simp only [mU]; rw [hA]; split <;> split <;> first | rfl | omega | (split <;> first | rfl | omega)) (by omega)
  exact loopL1 ((i c 4 - ((0))) + 1 : Int).toNat i (0) (by omega) (by intro a b; rw [if_neg (by omega)]) (by omega)
end
section
/-! a rehearsal that happens -/
def hsZ (i : Nat → Int → Int) (k x : Int) : Int := sumZ (fun p => if i 176 p = k then 1 else 0) x
theorem hsZ_s (i : Nat → Int → Int) (k : Int) {x : Int} (h : 0 ≤ x) : hsZ i k (x + 1) = hsZ i k x + if i 176 x = k then 1 else 0 := sumZ_s _ h
theorem hsZ_nn (i : Nat → Int → Int) (k : Int) {x : Int} (h : 0 ≤ x) : 0 ≤ hsZ i k x := by
  have := (sumZ_bd (f := fun p => if i 176 p = k then 1 else 0) (x := x) (a := 0) (b := 1) h (fun k _ _ => by split <;> omega)).1
  unfold hsZ
  omega
def hpA (i ii : Nat → Int → Int) (c : Nat) (x : Int) : Prop := ∀ a b, ii a b = if a = c + 14 ∧ 0 ≤ b ∧ b < x then i a b + (if i 175 b < i (c + 12) 1 then 1 else 0) else if a = c + 13 ∧ i c 5 * 4 ≤ b ∧ b < i c 5 * 4 + x then i 176 (b - i c 5 * 4) else if c + 2 ≤ a ∧ (a : Int) < c + 2 + i c 4 ∧ b = 8 then i a b + hsZ i (a - c - 2) x else if c + 2 ≤ a ∧ (a : Int) < c + 2 + i c 4 ∧ b = 9 ∧ 0 < hsZ i (a - c - 2) x then i c 5 else i a b
theorem hpA_0 (i : Nat → Int → Int) (c : Nat) : hpA i i c 0 := by
  intro a b
  have : hsZ i (a - c - 2) 0 = 0 := rfl
  rw [if_neg (by omega), if_neg (by omega), this]
  split
  · omega
  · rw [if_neg (by omega)]
theorem hp_step {i ii i' : Nat → Int → Int} {c : Nat} {x : Int} (hx : 0 ≤ x ∧ x < 4) (hn : 0 ≤ i c 4 ∧ i c 4 ≤ 10) (hso : i 176 x = -9 ∨ (0 ≤ i 176 x ∧ i 176 x < i c 4)) (hA : hpA i ii c x)
    (hi : ∀ a b, i' a b = if a = c + 14 ∧ b = x ∧ i 175 x < i (c + 12) 1 then i a b + 1 else if a = c + 13 ∧ b = i c 5 * 4 + x then i 176 x else if i 176 x ≠ -9 ∧ a = c + 2 + (i 176 x).toNat ∧ b = 9 then i c 5 else if i 176 x ≠ -9 ∧ a = c + 2 + (i 176 x).toNat ∧ b = 8 then ii a b + 1 else ii a b) : hpA i i' c (x + 1) := by
  intro a b
  have hnn := hsZ_nn i (a - c - 2) hx.1
  rw [hi, hsZ_s _ _ hx.1]
  have hA' := hA a b
  by_cases h14 : a = c + 14
  · rw [hA', if_neg (show ¬ (a = c + 13 ∧ b = i c 5 * 4 + x) by omega), if_neg (show ¬ (i 176 x ≠ -9 ∧ a = c + 2 + (i 176 x).toNat ∧ b = 9) by omega), if_neg (show ¬ (i 176 x ≠ -9 ∧ a = c + 2 + (i 176 x).toNat ∧ b = 8) by omega)]
    by_cases hb : b = x
    · subst hb
      rw [if_pos (show a = c + 14 ∧ 0 ≤ b ∧ b < b + 1 by omega), if_neg (show ¬ (a = c + 14 ∧ 0 ≤ b ∧ b < b) by omega), if_neg (show ¬ (a = c + 13 ∧ _) by omega), if_neg (show ¬ (c + 2 ≤ a ∧ (a : Int) < c + 2 + i c 4 ∧ b = 8) by omega), if_neg (show ¬ (c + 2 ≤ a ∧ (a : Int) < c + 2 + i c 4 ∧ b = 9 ∧ _) by omega)]
      by_cases hcov : i 175 b < i (c + 12) 1
      · rw [if_pos ⟨h14, rfl, hcov⟩, if_pos hcov]
      · rw [if_neg (fun q => hcov q.2.2), if_neg hcov]; omega
    · rw [if_neg (show ¬ (a = c + 14 ∧ b = x ∧ _) by omega)]
      by_cases hb2 : 0 ≤ b ∧ b < x
      · rw [if_pos ⟨h14, hb2⟩, if_pos (show a = c + 14 ∧ 0 ≤ b ∧ b < x + 1 by omega)]
      · rw [if_neg (show ¬ (a = c + 14 ∧ 0 ≤ b ∧ b < x) by omega), if_neg (show ¬ (a = c + 14 ∧ 0 ≤ b ∧ b < x + 1) by omega), if_neg (show ¬ (a = c + 13 ∧ _) by omega), if_neg (show ¬ (a = c + 13 ∧ _) by omega), if_neg (show ¬ (c + 2 ≤ a ∧ (a : Int) < c + 2 + i c 4 ∧ b = 8) by omega), if_neg (show ¬ (c + 2 ≤ a ∧ (a : Int) < c + 2 + i c 4 ∧ b = 9 ∧ _) by omega), if_neg (show ¬ (c + 2 ≤ a ∧ (a : Int) < c + 2 + i c 4 ∧ b = 8) by omega), if_neg (show ¬ (c + 2 ≤ a ∧ (a : Int) < c + 2 + i c 4 ∧ b = 9 ∧ _) by omega)]
  · rw [hA', if_neg (show ¬ (a = c + 14 ∧ b = x ∧ _) by omega), if_neg (show ¬ (a = c + 14 ∧ 0 ≤ b ∧ b < x) by omega), if_neg (show ¬ (a = c + 14 ∧ 0 ≤ b ∧ b < x + 1) by omega)]
    by_cases h13 : a = c + 13
    · rw [if_neg (show ¬ (i 176 x ≠ -9 ∧ a = c + 2 + (i 176 x).toNat ∧ b = 9) by omega), if_neg (show ¬ (i 176 x ≠ -9 ∧ a = c + 2 + (i 176 x).toNat ∧ b = 8) by omega)]
      by_cases hb : b = i c 5 * 4 + x
      · rw [if_pos ⟨h13, hb⟩, if_pos (by omega)]
        congr 1
        omega
      · rw [if_neg (fun q => hb q.2)]
        by_cases hb2 : i c 5 * 4 ≤ b ∧ b < i c 5 * 4 + x
        · rw [if_pos ⟨h13, hb2⟩, if_pos (by omega)]
        · rw [if_neg (fun q => hb2 q.2), if_neg (show ¬ (a = c + 13 ∧ i c 5 * 4 ≤ b ∧ b < i c 5 * 4 + (x + 1)) by omega), if_neg (show ¬ (c + 2 ≤ a ∧ (a : Int) < c + 2 + i c 4 ∧ b = 8) by omega), if_neg (show ¬ (c + 2 ≤ a ∧ (a : Int) < c + 2 + i c 4 ∧ b = 9 ∧ _) by omega), if_neg (show ¬ (c + 2 ≤ a ∧ (a : Int) < c + 2 + i c 4 ∧ b = 8) by omega), if_neg (show ¬ (c + 2 ≤ a ∧ (a : Int) < c + 2 + i c 4 ∧ b = 9 ∧ _) by omega)]
    · rw [if_neg (show ¬ (a = c + 13 ∧ b = i c 5 * 4 + x) by omega), if_neg (show ¬ (a = c + 13 ∧ i c 5 * 4 ≤ b ∧ b < i c 5 * 4 + x) by omega), if_neg (show ¬ (a = c + 13 ∧ i c 5 * 4 ≤ b ∧ b < i c 5 * 4 + (x + 1)) by omega)]
      by_cases hs : i 176 x ≠ -9 ∧ a = c + 2 + (i 176 x).toNat
      · have e : i 176 x = a - c - 2 := by omega
        rw [if_pos e]
        by_cases h9 : b = 9
        · rw [if_pos ⟨hs.1, hs.2, h9⟩, if_neg (show ¬ (c + 2 ≤ a ∧ (a : Int) < c + 2 + i c 4 ∧ b = 8) by omega), if_pos (by omega)]
        · rw [if_neg (fun q => h9 q.2.2)]
          by_cases h8 : b = 8
          · rw [if_pos ⟨hs.1, hs.2, h8⟩, if_pos (show c + 2 ≤ a ∧ (a : Int) < c + 2 + i c 4 ∧ b = 8 by omega), if_pos (show c + 2 ≤ a ∧ (a : Int) < c + 2 + i c 4 ∧ b = 8 by omega)]
            omega
          · rw [if_neg (fun q => h8 q.2.2), if_neg (fun q => h8 q.2.2), if_neg (fun q => h9 q.2.2.1), if_neg (fun q => h8 q.2.2), if_neg (fun q => h9 q.2.2.1)]
      · rw [if_neg (fun q => hs ⟨q.1, q.2.1⟩), if_neg (fun q => hs ⟨q.1, q.2.1⟩)]
        by_cases hr : c + 2 ≤ a ∧ (a : Int) < c + 2 + i c 4
        · rw [if_neg (show ¬ (i 176 x = a - c - 2) by omega), show hsZ i (a - c - 2) x + 0 = hsZ i (a - c - 2) x by omega]
        · rw [if_neg (fun q => hr ⟨q.1, q.2.1⟩), if_neg (fun q => hr ⟨q.1, q.2.1⟩), if_neg (fun q => hr ⟨q.1, q.2.1⟩), if_neg (fun q => hr ⟨q.1, q.2.1⟩)]
def siC (i : Nat → Int → Int) (x : Int) : Int := sumZ (fun k => if i 174 k = -9 then 0 else 1) x
theorem siC_s (i : Nat → Int → Int) {x : Int} (h : 0 ≤ x) : siC i (x + 1) = siC i x + if i 174 x = -9 then 0 else 1 := sumZ_s _ h
def sgC (i : Nat → Int → Int) (x : Int) : Int := sumZ (fun p => if i 176 p = -9 then 0 else 1) x
theorem sgC_s (i : Nat → Int → Int) {x : Int} (h : 0 ≤ x) : sgC i (x + 1) = sgC i x + if i 176 x = -9 then 0 else 1 := sumZ_s _ h
def hpB (i kk jj : Nat → Int → Int) (c : Nat) (x : Int) : Prop := ∀ a b, jj a b = if a = c ∧ b = 7 then kk c 7 + siC i x else if c + 2 ≤ a ∧ (a : Int) < c + 2 + x ∧ b = 10 then kk a b + (if i 174 (a - c - 2) = -9 then 0 else 1) else if c + 2 ≤ a ∧ (a : Int) < c + 2 + x ∧ b = 7 then 1 else kk a b
theorem hpB_step {i kk jj i' : Nat → Int → Int} {c : Nat} {x : Int} (hx : 0 ≤ x ∧ x < 10) (hA : hpB i kk jj c x)
    (hi : ∀ a b, i' a b = if a = c + 2 + x.toNat ∧ b = 7 then 1 else if i 174 x ≠ -9 ∧ a = c ∧ b = 7 then jj c 7 + 1 else if i 174 x ≠ -9 ∧ a = c + 2 + x.toNat ∧ b = 10 then jj a b + 1 else jj a b) : hpB i kk i' c (x + 1) := by
  intro a b
  rw [hi, siC_s _ hx.1, hA a b, hA c 7, if_pos (show c = c ∧ (7 : Int) = 7 from ⟨rfl, rfl⟩)]
  by_cases ha : a = c + 2 + x.toNat
  · have e : (a : Int) - c - 2 = x := by omega
    rw [e]
    by_cases hb : b = 7
    · rw [if_pos ⟨ha, hb⟩, if_neg (show ¬ (a = c ∧ b = 7) by omega), if_neg (show ¬ (c + 2 ≤ a ∧ (a : Int) < c + 2 + (x + 1) ∧ b = 10) by omega), if_pos (by omega)]
    · rw [if_neg (fun q => hb q.2), if_neg (fun q => hb q.2.2), if_neg (show ¬ (a = c ∧ b = 7) from fun q => hb q.2), if_neg (show ¬ (c + 2 ≤ a ∧ (a : Int) < c + 2 + x ∧ b = 10) by omega), if_neg (show ¬ (c + 2 ≤ a ∧ (a : Int) < c + 2 + x ∧ b = 7) by omega), if_neg (show ¬ (a = c ∧ b = 7) from fun q => hb q.2), if_neg (show ¬ (c + 2 ≤ a ∧ (a : Int) < c + 2 + (x + 1) ∧ b = 7) from fun q => hb q.2.2)]
      by_cases h10 : b = 10
      · rw [if_pos (show c + 2 ≤ a ∧ (a : Int) < c + 2 + (x + 1) ∧ b = 10 by omega)]
        by_cases h174 : i 174 x = -9
        · rw [if_neg (fun q => q.1 h174), if_pos h174]; omega
        · rw [if_pos ⟨h174, ha, h10⟩, if_neg h174]
      · rw [if_neg (fun q => h10 q.2.2), if_neg (fun q => h10 q.2.2)]
  · rw [if_neg (fun q => ha q.1), if_neg (show ¬ (i 174 x ≠ -9 ∧ a = c + 2 + x.toNat ∧ b = 10) from fun q => ha q.2.1)]
    by_cases h7 : a = c ∧ b = 7
    · rw [if_pos h7, if_pos h7]
      by_cases h174 : i 174 x = -9
      · rw [if_neg (fun q => q.1 h174), if_pos h174]; omega
      · rw [if_pos ⟨h174, h7⟩, if_neg h174]; omega
    · rw [if_neg (fun q => h7 q.2), if_neg h7, if_neg h7]
      have e1 : (c + 2 ≤ a ∧ (a : Int) < c + 2 + x) ↔ (c + 2 ≤ a ∧ (a : Int) < c + 2 + (x + 1)) := by omega
      by_cases hr : c + 2 ≤ a ∧ (a : Int) < c + 2 + x
      · have hr2 := e1.mp hr
        simp only [hr, hr2, true_and]
      · have hr2 := fun q => hr (e1.mpr q)
        rw [if_neg (fun q => hr ⟨q.1, q.2.1⟩), if_neg (fun q => hr ⟨q.1, q.2.1⟩), if_neg (fun q => hr2 ⟨q.1, q.2.1⟩), if_neg (fun q => hr2 ⟨q.1, q.2.1⟩)]
theorem hp_put {ii i0 i1 i' : Nat → Int → Int} {c : Nat} {C : Prop} [Decidable C] {x h s : Int} {w : Nat → Int → Int} {Q : Nat} (hQ : Q ≠ c + 14 ∧ Q ≠ c + 13) (h1 : i1 = mU i0 (c + 13) (h * 4 + x) s) (h0 : ∀ a b, i0 a b = if a = c + 14 ∧ b = x ∧ C then w a b else ii a b)
    (hi : (s = -9 ∧ i' = i1) ∨ (s ≠ -9 ∧ i' = mU (mU i1 Q 8 (i1 Q 8 + 1)) Q 9 h)) : ∀ a b, i' a b = if a = c + 14 ∧ b = x ∧ C then w a b else if a = c + 13 ∧ b = h * 4 + x then s else if s ≠ -9 ∧ a = Q ∧ b = 9 then h else if s ≠ -9 ∧ a = Q ∧ b = 8 then ii a b + 1 else ii a b := by
  intro a b
  have e1 : ∀ a b, i1 a b = if a = c + 14 ∧ b = x ∧ C then w a b else if a = c + 13 ∧ b = h * 4 + x then s else ii a b := by
    intro a b
    rw [h1]
    simp only [mU]
    by_cases q : a = c + 13 ∧ b = h * 4 + x
    · rw [if_pos q, if_neg (by omega), if_pos q]
    · rw [if_neg q, if_neg q, h0]
  rcases hi with ⟨hs, rfl⟩ | ⟨hs, rfl⟩
  · rw [e1, if_neg (show ¬ (s ≠ -9 ∧ a = Q ∧ b = 9) from fun q => q.1 hs), if_neg (show ¬ (s ≠ -9 ∧ a = Q ∧ b = 8) from fun q => q.1 hs)]
  · simp only [mU]
    by_cases q9 : a = Q ∧ b = 9
    · rw [if_pos q9, if_neg (by omega), if_neg (by omega), if_pos ⟨hs, q9⟩]
    · rw [if_neg q9, if_neg (show ¬ (s ≠ -9 ∧ a = Q ∧ b = 9) from fun q => q9 q.2)]
      by_cases q8 : a = Q ∧ b = 8
      · rw [if_pos q8, if_neg (show ¬ (a = c + 14 ∧ b = x ∧ C) by omega), if_neg (by omega), if_pos ⟨hs, q8⟩, e1, if_neg (by omega), if_neg (by omega), q8.1, q8.2]
      · rw [if_neg q8, if_neg (show ¬ (s ≠ -9 ∧ a = Q ∧ b = 8) from fun q => q8 q.2), e1]
set_option maxRecDepth 20000 in
set_option maxHeartbeats 2000000 in
theorem c_happen {i : Nat → Int → Int} {l : Nat → Int → BitVec 64} {c : Nat} (hc : isC c) (hO : okC i c) (hh : i c 5 ≤ 39) (h175 : ∀ p, 0 ≤ p → p < 4 → -2000 ≤ i 175 p ∧ i 175 p ≤ 2000) (h174 : ∀ k, 0 ≤ k → k < 10 → -9 ≤ i 174 k ∧ i 174 k ≤ 3) (hso : ∀ p, 0 ≤ p → p < 4 → i 176 p = -9 ∨ (0 ≤ i 176 p ∧ i 176 p < i c 4)) : mCtr m_X4_happen 2 0 0 [vR (some 173), vR (some c)] (st i l) (qW (fun z i' l' => z = sgC i 4 ∧ l' = l ∧ ∃ ii kk jj, hpA i ii c 4 ∧ kk = mU ii c 6 (i c 6 + sgC i 4) ∧ hpB i kk jj c (i c 4) ∧ i' = mU jj c 5 (i c 5 + 1))) := by
  refine mCtr_of pl_X4 dc_X4_happen (Nat.le_of_ble_eq_true rfl) rfl ?_
  show mX m_X4_happen 2 _ 0 0 0 [some (vR (some 173)), some (vR (some c)), none, none] [] (st i l)
  have hN := hO.n
  have hr := isC_r hc
  refine x_iconst 0 rfl ?_
  refine x_istore_n 1 (L' := [some (vR (some 173)), some (vR (some c)), some (vI (0)), none]) rfl (by decide) rfl rfl ?_
  refine x_iconst 2 rfl ?_
  refine x_istore_n 3 (L' := [some (vR (some 173)), some (vR (some c)), some (vI (0)), some (vI (0))]) rfl (by decide) rfl rfl ?_
  have loopL1 : ∀ (nz : Nat) (ii : Nat → Int → Int) (x : Int) (g : Int), (0 ≤ x ∧ x ≤ 4) → (g = sgC i x) → (hpA i ii c x) → (4 - x) < (nz : Int) → mX m_X4_happen 2 (qW (fun z i' l' => z = sgC i 4 ∧ l' = l ∧ ∃ ii kk jj, hpA i ii c 4 ∧ kk = mU ii c 6 (i c 6 + sgC i 4) ∧ hpB i kk jj c (i c 4) ∧ i' = mU jj c 5 (i c 5 + 1))) 0 0 4 [some (vR (some 173)), some (vR (some c)), some (vI (g)), some (vI (x))] [] (st ii l) := by
    intro nz
    induction nz with
    | zero => intro ii x g hx hg hA hz; exact absurd hz (by omega)
    | succ nz ihL1 =>
      intro ii x g hx hg hA hzL1
      refine x_iload_n 4 rfl rfl ?_
      refine x_iconst 5 rfl ?_
      refine x_icmp_ge 6 (tgt := 109) rfl (by decide) (by omega) (fun h2 => ?_) (fun h2 => ?_)
      · have f4 : ii c 4 = i c 4 := by rw [hA, if_neg (by omega), if_neg (by omega), if_neg (by omega), if_neg (by omega)]
        have f5 : ii c 5 = i c 5 := by rw [hA, if_neg (by omega), if_neg (by omega), if_neg (by omega), if_neg (by omega)]
        have e6 : ii c 6 = i c 6 := by rw [hA, if_neg (by omega), if_neg (by omega), if_neg (by omega), if_neg (by omega)]
        have f174 : ∀ k, ii 174 k = i 174 k := by intro k; rw [hA, if_neg (by omega), if_neg (by omega), if_neg (by omega), if_neg (by omega)]
        refine x_aload_n 66 rfl rfl ?_
        refine x_dup 67 rfl rfl ?_
        refine x_getI 68 (z := ii c 6) rfl fl_X4_91 (isC_0 hc) (kC hc) rfl rfl ?_
        refine x_iload_n 69 rfl rfl ?_
        refine x_iadd 70 (r := (ii c 6) + g) rfl rfl ?_
        obtain ⟨i3, hi3⟩ : ∃ f, f = mU ii c 6 ((ii c 6) + g) := ⟨_, rfl⟩
        refine x_putI 71 rfl fl_X4_91 (isC_0 hc) (kC hc) rfl rfl (g' := st i3 l) (by subst hi3; rfl) ?_
        refine x_iconst 72 rfl ?_
        refine x_istore_n 73 (L' := [some (vR (some 173)), some (vR (some c)), some (vI (g)), some (vI (0))]) rfl (by decide) rfl rfl ?_
        obtain ⟨kk, hkk⟩ : ∃ f, f = i3 := ⟨_, rfl⟩
        have hkk2 : kk = mU ii c 6 (i c 6 + g) := by rw [hkk, hi3, e6]
        have k4 : kk c 4 = i c 4 := by rw [hkk2]; simp only [mU]; rw [if_neg (by omega)]; exact f4
        have k5 : kk c 5 = i c 5 := by rw [hkk2]; simp only [mU]; rw [if_neg (by omega)]; exact f5
        have k174 : ∀ k, kk 174 k = i 174 k := by intro k; rw [hkk2]; simp only [mU]; rw [if_neg (by omega)]; exact f174 k
        have loopL4 : ∀ (nz : Nat) (jj : Nat → Int → Int) (x2 : Int), (0 ≤ x2 ∧ x2 ≤ i c 4) → (hpB i kk jj c x2) → (i c 4 - x2) < (nz : Int) → mX m_X4_happen 2 (qW (fun z i' l' => z = sgC i 4 ∧ l' = l ∧ ∃ ii kk jj, hpA i ii c 4 ∧ kk = mU ii c 6 (i c 6 + sgC i 4) ∧ hpB i kk jj c (i c 4) ∧ i' = mU jj c 5 (i c 5 + 1))) 0 0 121 [some (vR (some 173)), some (vR (some c)), some (vI (g)), some (vI (x2))] [] (st jj l) := by
          intro nz
          induction nz with
          | zero => intro jj x2 hx2 hB hz; exact absurd hz (by omega)
          | succ nz ihL4 =>
            intro jj x2 hx2 hB hzL4
            have j4 : jj c 4 = i c 4 := by rw [hB, if_neg (by omega), if_neg (by omega), if_neg (by omega)]; exact k4
            have j5 : jj c 5 = i c 5 := by rw [hB, if_neg (by omega), if_neg (by omega), if_neg (by omega)]; exact k5
            have j174 : jj 174 x2 = i 174 x2 := by rw [hB, if_neg (by omega), if_neg (by omega), if_neg (by omega)]; exact k174 x2
            refine x_iload_n 74 rfl rfl ?_
            refine x_aload_n 75 rfl rfl ?_
            refine x_getI 76 (z := jj c 4) rfl fl_X4_35 (isC_0 hc) (kC hc) rfl rfl ?_
            refine x_icmp_ge 77 (tgt := 181) rfl (by decide) (by omega) (fun h5 => ?_) (fun h5 => ?_)
            · refine x_aload_n 107 rfl rfl ?_
              refine x_dup 108 rfl rfl ?_
              refine x_getI 109 (z := jj c 5) rfl fl_X4_82 (isC_0 hc) (kC hc) rfl rfl ?_
              refine x_iconst 110 rfl ?_
              refine x_iadd 111 (r := (jj c 5) + 1) rfl rfl ?_
              obtain ⟨i6, hi6⟩ : ∃ f, f = mU jj c 5 ((jj c 5) + 1) := ⟨_, rfl⟩
              refine x_putI 112 rfl fl_X4_82 (isC_0 hc) (kC hc) rfl rfl (g' := st i6 l) (by subst hi6; rfl) ?_
              refine x_iload_n 113 rfl rfl ?_
              refine x_ret 114 (some (vI (g))) rfl ⟨rfl, Or.inl rfl⟩ ⟨_, i6, l, rfl, rfl, ?_⟩
              rw [show x = 4 by omega] at hA hg
              rw [show x2 = i c 4 by omega] at hB
              refine ⟨hg, rfl, ii, kk, jj, hA, ?_, hB, ?_⟩
              · rw [hkk2, hg]
              · rw [hi6, j5]
            · have hx174 := h174 x2 hx2.1 (by omega)
              refine x_aload_n 78 rfl rfl ?_
              refine x_getR 79 (z := 174) rfl fl_X4_9 (n_lt rfl) k_173 rfl r_173_0 ?_
              refine x_iload_n 80 rfl rfl ?_
              refine x_iald 81 (z := jj 174 x2) rfl (n_lt rfl) k_174 (by omega) rfl ?_
              refine x_bipush 82 rfl (by decide) ?_
              refine x_icmp_eq 83 (tgt := 165) rfl (by decide) (by omega) (fun h7 => ?_) (fun h7 => ?_)
              · refine x_aload_n 99 rfl rfl ?_
                refine x_getR 100 (z := (c + 1)) rfl fl_X4_47 (isC_0 hc) (kC hc) rfl (rC0 hc) ?_
                refine x_iload_n 101 rfl rfl ?_
                refine x_aald 102 (t := 3) (z := (c + 2 + (x2).toNat)) rfl (isC_S hc) (kCS hc) (by omega) ⟨rfl, rfl⟩ (rCs hc (by omega)) ?_
                refine x_iconst 103 rfl ?_
                obtain ⟨i8, hi8⟩ : ∃ f, f = mU jj (c + 2 + (x2).toNat) 7 (1) := ⟨_, rfl⟩
                refine x_putZ 104 rfl fl_X4_58 (isS_lt (isS.of hc (show (x2).toNat < 10 by omega))) (kS (isS.of hc (show (x2).toNat < 10 by omega))) rfl (by omega) rfl (g' := st i8 l) (by subst hi8; rfl) ?_
                refine x_iinc 105 (L' := [some (vR (some 173)), some (vR (some c)), some (vI (g)), some (vI (x2 + 1))]) rfl (by decide) rfl rfl rfl rfl ?_
                refine x_goto 106 (tgt := 121) rfl (by decide) ?_
                exact ihL4 i8 (x2 + 1) (by omega) (hpB_step (by omega) hB (by intro a b; subst_vars; simp only [mU]; grind)) (by omega)
              · refine x_aload_n 84 rfl rfl ?_
                refine x_getR 85 (z := (c + 1)) rfl fl_X4_47 (isC_0 hc) (kC hc) rfl (rC0 hc) ?_
                refine x_iload_n 86 rfl rfl ?_
                refine x_aald 87 (t := 3) (z := (c + 2 + (x2).toNat)) rfl (isC_S hc) (kCS hc) (by omega) ⟨rfl, rfl⟩ (rCs hc (by omega)) ?_
                refine x_dup 88 rfl rfl ?_
                refine x_getI 89 (z := jj (c + 2 + (x2).toNat) 10) rfl fl_X4_92 (isS_lt (isS.of hc (show (x2).toNat < 10 by omega))) (kS (isS.of hc (show (x2).toNat < 10 by omega))) rfl rfl ?_
                refine x_iconst 90 rfl ?_
                refine x_iadd 91 (r := (jj (c + 2 + (x2).toNat) 10) + 1) rfl rfl ?_
                obtain ⟨i9, hi9⟩ : ∃ f, f = mU jj (c + 2 + (x2).toNat) 10 ((jj (c + 2 + (x2).toNat) 10) + 1) := ⟨_, rfl⟩
                refine x_putI 92 rfl fl_X4_92 (isS_lt (isS.of hc (show (x2).toNat < 10 by omega))) (kS (isS.of hc (show (x2).toNat < 10 by omega))) rfl rfl (g' := st i9 l) (by subst hi9; rfl) ?_
                refine x_aload_n 93 rfl rfl ?_
                refine x_dup 94 rfl rfl ?_
                refine x_getI 95 (z := i9 c 7) rfl fl_X4_95 (isC_0 hc) (kC hc) rfl rfl ?_
                refine x_iconst 96 rfl ?_
                refine x_iadd 97 (r := (i9 c 7) + 1) rfl rfl ?_
                obtain ⟨i10, hi10⟩ : ∃ f, f = mU i9 c 7 ((i9 c 7) + 1) := ⟨_, rfl⟩
                refine x_putI 98 rfl fl_X4_95 (isC_0 hc) (kC hc) rfl rfl (g' := st i10 l) (by subst hi10; rfl) ?_
                refine x_aload_n 99 rfl rfl ?_
                refine x_getR 100 (z := (c + 1)) rfl fl_X4_47 (isC_0 hc) (kC hc) rfl (rC0 hc) ?_
                refine x_iload_n 101 rfl rfl ?_
                refine x_aald 102 (t := 3) (z := (c + 2 + (x2).toNat)) rfl (isC_S hc) (kCS hc) (by omega) ⟨rfl, rfl⟩ (rCs hc (by omega)) ?_
                refine x_iconst 103 rfl ?_
                obtain ⟨i11, hi11⟩ : ∃ f, f = mU i10 (c + 2 + (x2).toNat) 7 (1) := ⟨_, rfl⟩
                refine x_putZ 104 rfl fl_X4_58 (isS_lt (isS.of hc (show (x2).toNat < 10 by omega))) (kS (isS.of hc (show (x2).toNat < 10 by omega))) rfl (by omega) rfl (g' := st i11 l) (by subst hi11; rfl) ?_
                refine x_iinc 105 (L' := [some (vR (some 173)), some (vR (some c)), some (vI (g)), some (vI (x2 + 1))]) rfl (by decide) rfl rfl rfl rfl ?_
                refine x_goto 106 (tgt := 121) rfl (by decide) ?_
                exact ihL4 i11 (x2 + 1) (by omega) (hpB_step (by omega) hB (by intro a b; subst_vars; simp only [mU]; grind)) (by omega)
        exact loopL4 ((i c 4 - ((0))) + 1 : Int).toNat i3 (0) (by omega) (by intro a b; rw [if_neg (show ¬ (c + 2 ≤ a ∧ (a : Int) < c + 2 + 0 ∧ b = 10) by omega), if_neg (show ¬ (c + 2 ≤ a ∧ (a : Int) < c + 2 + 0 ∧ b = 7) by omega), hkk]; show _ = if a = c ∧ b = 7 then _ + 0 else _; by_cases q : a = c ∧ b = 7; (rw [if_pos q, q.1, q.2]; omega); (rw [if_neg q])) (by omega)
      · have e175 : ii 175 x = i 175 x := by rw [hA, if_neg (by omega), if_neg (by omega), if_neg (by omega), if_neg (by omega)]
        have e176 : ii 176 x = i 176 x := by rw [hA, if_neg (by omega), if_neg (by omega), if_neg (by omega), if_neg (by omega)]
        have e121 : ii (c + 12) 1 = i (c + 12) 1 := by rw [hA, if_neg (by omega), if_neg (by omega), if_neg (by omega), if_neg (by omega)]
        have e5 : ii c 5 = i c 5 := by rw [hA, if_neg (by omega), if_neg (by omega), if_neg (by omega), if_neg (by omega)]
        have h175x := h175 x hx.1 (by omega)
        have hsx := hso x hx.1 (by omega)
        have ew : ii (c + 14) x = i (c + 14) x := by rw [hA, if_neg (by omega), if_neg (by omega), if_neg (by omega), if_neg (by omega)]
        refine x_aload_n 7 rfl rfl ?_
        refine x_aload_n 8 rfl rfl ?_
        refine x_getR 9 (z := 175) rfl fl_X4_15 (n_lt rfl) k_173 rfl r_173_1 ?_
        refine x_iload_n 10 rfl rfl ?_
        refine x_iald 11 (z := ii 175 x) rfl (n_lt rfl) k_175 (by omega) rfl ?_
        refine x_callV 12 m_X0_covers (c_covers hc (by omega) (by omega)) rfl ok_X0_covers (isC_0 hc) (kC hc) rfl rfl ml_X4_39 im_X0_covers se_X0_covers rfl (by decide) rfl (Nat.le_of_ble_eq_true rfl) rfl rfl (fun v g q12 => ?_)
        rcases q12 with ⟨rfl, ⟨h13, rfl⟩ | ⟨h13, rfl⟩⟩
        · show mX m_X4_happen 2 _ 0 0 _ _ [vI (1)] _
          refine x_if_ne 13 (tgt := 32) rfl (by decide) (by decide) (fun h14 => ?_) (fun h14 => absurd h14 (by decide))
          obtain ⟨hI0, hI0d⟩ : ∃ f, f = ii := ⟨_, rfl⟩
          have e5q : ii c 5 = i c 5 := by assumption
          have e176q : ii 176 x = i 176 x := by assumption
          have hI0e : ∀ a b, hI0 a b = if a = c + 14 ∧ b = x ∧ i 175 x < i (c + 12) 1 then i a b + 1 else ii a b := by intro a b; rw [hI0d]; first | rw [if_neg (by omega)] | (rw [hii]; simp only [mU, ew]; by_cases q : a = c + 14 ∧ b = x; (rw [if_pos q, if_pos ⟨q.1, q.2, by omega⟩, q.1, q.2]); (rw [if_neg q, if_neg (fun z => q ⟨z.1, z.2.1⟩)]))
          refine x_aload_n 22 rfl rfl ?_
          refine x_getR 23 (z := (c + 13)) rfl fl_X4_79 (isC_0 hc) (kC hc) rfl (rC2 hc) ?_
          refine x_aload_n 24 rfl rfl ?_
          refine x_getI 25 (z := ii c 5) rfl fl_X4_82 (isC_0 hc) (kC hc) rfl rfl ?_
          refine x_iconst 26 rfl ?_
          refine x_imul 27 (r := (ii c 5) * 4) rfl rfl ?_
          refine x_iload_n 28 rfl rfl ?_
          refine x_iadd 29 (r := ((ii c 5) * 4) + x) rfl rfl ?_
          refine x_aload_n 30 rfl rfl ?_
          refine x_getR 31 (z := 176) rfl fl_X4_18 (n_lt rfl) k_173 rfl r_173_2 ?_
          refine x_iload_n 32 rfl rfl ?_
          refine x_iald 33 (z := ii 176 x) rfl (n_lt rfl) k_176 (by omega) rfl ?_
          obtain ⟨i15, hi15⟩ : ∃ f, f = mU ii (c + 13) (((ii c 5) * 4) + x) (ii 176 x) := ⟨_, rfl⟩
          refine x_iast 34 rfl (isC_O hc) (kCO hc) (by omega) (g' := st i15 l) (by subst hi15; rfl) ?_
          have e5i15 : i15 c 5 = i c 5 := by rw [hi15]; simp only [mU]; rw [if_neg (by omega)]; assumption
          have e176i15 : i15 176 x = i 176 x := by rw [hi15]; simp only [mU]; rw [if_neg (by omega)]; assumption
          obtain ⟨hI1, hI1d⟩ : ∃ f, f = i15 := ⟨_, rfl⟩
          have hI1e : hI1 = mU hI0 (c + 13) (i c 5 * 4 + x) (i 176 x) := by rw [hI1d, hi15, e5q, e176q, hI0d]
          have e176r := e176i15
          refine x_aload_n 35 rfl rfl ?_
          refine x_getR 36 (z := 176) rfl fl_X4_18 (n_lt rfl) k_173 rfl r_173_2 ?_
          refine x_iload_n 37 rfl rfl ?_
          refine x_iald 38 (z := i15 176 x) rfl (n_lt rfl) k_176 (by omega) rfl ?_
          refine x_bipush 39 rfl (by decide) ?_
          refine x_icmp_eq 40 (tgt := 103) rfl (by decide) (by omega) (fun h16 => ?_) (fun h16 => ?_)
          · refine x_iinc 64 (L' := [some (vR (some 173)), some (vR (some c)), some (vI (g)), some (vI (x + 1))]) rfl (by decide) rfl rfl rfl rfl ?_
            refine x_goto 65 (tgt := 4) rfl (by decide) ?_
            exact ihL1 i15 (x + 1) (g) (by omega) (by rw [sgC_s _ hx.1]; split <;> omega) (hp_step (by omega) hN.1 hsx hA (hp_put (w := fun a b => i a b + 1) (Q := c + 2 + (i 176 x).toNat) (i0 := hI0) (i1 := hI1) (ii := ii) (C := i 175 x < i (c + 12) 1) (by omega) hI1e hI0e (by first | exact Or.inl ⟨by omega, hI1d.symm⟩ | exact Or.inr ⟨by omega, hfin⟩))) (by omega)
          · refine x_aload_n 41 rfl rfl ?_
            refine x_getR 42 (z := (c + 1)) rfl fl_X4_47 (isC_0 hc) (kC hc) rfl (rC0 hc) ?_
            refine x_aload_n 43 rfl rfl ?_
            refine x_getR 44 (z := 176) rfl fl_X4_18 (n_lt rfl) k_173 rfl r_173_2 ?_
            refine x_iload_n 45 rfl rfl ?_
            refine x_iald 46 (z := i15 176 x) rfl (n_lt rfl) k_176 (by omega) rfl ?_
            refine x_aald 47 (t := 3) (z := (c + 2 + (i15 176 x).toNat)) rfl (isC_S hc) (kCS hc) (by omega) ⟨rfl, rfl⟩ (rCs hc (by omega)) ?_
            refine x_dup 48 rfl rfl ?_
            refine x_getI 49 (z := i15 (c + 2 + (i15 176 x).toNat) 8) rfl fl_X4_85 (isS_lt (isS.of hc (show (i15 176 x).toNat < 10 by omega))) (kS (isS.of hc (show (i15 176 x).toNat < 10 by omega))) rfl rfl ?_
            refine x_iconst 50 rfl ?_
            refine x_iadd 51 (r := (i15 (c + 2 + (i15 176 x).toNat) 8) + 1) rfl rfl ?_
            obtain ⟨i17, hi17⟩ : ∃ f, f = mU i15 (c + 2 + (i15 176 x).toNat) 8 ((i15 (c + 2 + (i15 176 x).toNat) 8) + 1) := ⟨_, rfl⟩
            refine x_putI 52 rfl fl_X4_85 (isS_lt (isS.of hc (show (i15 176 x).toNat < 10 by omega))) (kS (isS.of hc (show (i15 176 x).toNat < 10 by omega))) rfl rfl (g' := st i17 l) (by subst hi17; rfl) ?_
            have e5i17 : i17 c 5 = i c 5 := by rw [hi17]; simp only [mU]; rw [if_neg (by omega)]; assumption
            have e176i17 : i17 176 x = i 176 x := by rw [hi17]; simp only [mU]; rw [if_neg (by omega)]; assumption
            have hs79 := hi17
            rw [e176r] at hs79
            have e176s := e176i17
            have e5s := e5i17
            refine x_aload_n 53 rfl rfl ?_
            refine x_getR 54 (z := (c + 1)) rfl fl_X4_47 (isC_0 hc) (kC hc) rfl (rC0 hc) ?_
            refine x_aload_n 55 rfl rfl ?_
            refine x_getR 56 (z := 176) rfl fl_X4_18 (n_lt rfl) k_173 rfl r_173_2 ?_
            refine x_iload_n 57 rfl rfl ?_
            refine x_iald 58 (z := i17 176 x) rfl (n_lt rfl) k_176 (by omega) rfl ?_
            refine x_aald 59 (t := 3) (z := (c + 2 + (i17 176 x).toNat)) rfl (isC_S hc) (kCS hc) (by omega) ⟨rfl, rfl⟩ (rCs hc (by omega)) ?_
            refine x_aload_n 60 rfl rfl ?_
            refine x_getI 61 (z := i17 c 5) rfl fl_X4_82 (isC_0 hc) (kC hc) rfl rfl ?_
            obtain ⟨i18, hi18⟩ : ∃ f, f = mU i17 (c + 2 + (i17 176 x).toNat) 9 (i17 c 5) := ⟨_, rfl⟩
            refine x_putI 62 rfl fl_X4_88 (isS_lt (isS.of hc (show (i17 176 x).toNat < 10 by omega))) (kS (isS.of hc (show (i17 176 x).toNat < 10 by omega))) rfl rfl (g' := st i18 l) (by subst hi18; rfl) ?_
            have hs97 := hi18
            rw [e176s, e5s] at hs97
            have hfin : i18 = mU (mU hI1 (c + 2 + (i 176 x).toNat) 8 (hI1 (c + 2 + (i 176 x).toNat) 8 + 1)) (c + 2 + (i 176 x).toNat) 9 (i c 5) := by rw [hs97, hs79, hI1d]
            refine x_iinc 63 (L' := [some (vR (some 173)), some (vR (some c)), some (vI (g + 1)), some (vI (x))]) rfl (by decide) rfl rfl rfl rfl ?_
            refine x_iinc 64 (L' := [some (vR (some 173)), some (vR (some c)), some (vI (g + 1)), some (vI (x + 1))]) rfl (by decide) rfl rfl rfl rfl ?_
            refine x_goto 65 (tgt := 4) rfl (by decide) ?_
            exact ihL1 i18 (x + 1) (g + 1) (by omega) (by rw [sgC_s _ hx.1]; split <;> omega) (hp_step (by omega) hN.1 hsx hA (hp_put (w := fun a b => i a b + 1) (Q := c + 2 + (i 176 x).toNat) (i0 := hI0) (i1 := hI1) (ii := ii) (C := i 175 x < i (c + 12) 1) (by omega) hI1e hI0e (by first | exact Or.inl ⟨by omega, hI1d.symm⟩ | exact Or.inr ⟨by omega, hfin⟩))) (by omega)
        · show mX m_X4_happen 2 _ 0 0 _ _ [vI (0)] _
          refine x_if_ne 13 (tgt := 32) rfl (by decide) (by decide) (fun h19 => absurd h19 (by decide)) (fun h19 => ?_)
          refine x_aload_n 14 rfl rfl ?_
          refine x_getR 15 (z := (c + 14)) rfl fl_X4_76 (isC_0 hc) (kC hc) rfl (rC3 hc) ?_
          refine x_iload_n 16 rfl rfl ?_
          refine x_dup2 17 rfl rfl rfl ?_
          refine x_iald 18 (z := ii (c + 14) x) rfl (isC_W hc) (kCW hc) (by omega) rfl ?_
          refine x_iconst 19 rfl ?_
          refine x_iadd 20 (r := (ii (c + 14) x) + 1) rfl rfl ?_
          obtain ⟨i20, hi20⟩ : ∃ f, f = mU ii (c + 14) (x) ((ii (c + 14) x) + 1) := ⟨_, rfl⟩
          refine x_iast 21 rfl (isC_W hc) (kCW hc) (by omega) (g' := st i20 l) (by subst hi20; rfl) ?_
          have e5i20 : i20 c 5 = i c 5 := by rw [hi20]; simp only [mU]; rw [if_neg (by omega)]; assumption
          have e176i20 : i20 176 x = i 176 x := by rw [hi20]; simp only [mU]; rw [if_neg (by omega)]; assumption
          obtain ⟨hI0, hI0d⟩ : ∃ f, f = i20 := ⟨_, rfl⟩
          have e5q : i20 c 5 = i c 5 := by assumption
          have e176q : i20 176 x = i 176 x := by assumption
          have hI0e : ∀ a b, hI0 a b = if a = c + 14 ∧ b = x ∧ i 175 x < i (c + 12) 1 then i a b + 1 else ii a b := by intro a b; rw [hI0d]; first | rw [if_neg (by omega)] | (rw [hi20]; simp only [mU, ew]; by_cases q : a = c + 14 ∧ b = x; (rw [if_pos q, if_pos ⟨q.1, q.2, by omega⟩, q.1, q.2]); (rw [if_neg q, if_neg (fun z => q ⟨z.1, z.2.1⟩)]))
          refine x_aload_n 22 rfl rfl ?_
          refine x_getR 23 (z := (c + 13)) rfl fl_X4_79 (isC_0 hc) (kC hc) rfl (rC2 hc) ?_
          refine x_aload_n 24 rfl rfl ?_
          refine x_getI 25 (z := i20 c 5) rfl fl_X4_82 (isC_0 hc) (kC hc) rfl rfl ?_
          refine x_iconst 26 rfl ?_
          refine x_imul 27 (r := (i20 c 5) * 4) rfl rfl ?_
          refine x_iload_n 28 rfl rfl ?_
          refine x_iadd 29 (r := ((i20 c 5) * 4) + x) rfl rfl ?_
          refine x_aload_n 30 rfl rfl ?_
          refine x_getR 31 (z := 176) rfl fl_X4_18 (n_lt rfl) k_173 rfl r_173_2 ?_
          refine x_iload_n 32 rfl rfl ?_
          refine x_iald 33 (z := i20 176 x) rfl (n_lt rfl) k_176 (by omega) rfl ?_
          obtain ⟨i21, hi21⟩ : ∃ f, f = mU i20 (c + 13) (((i20 c 5) * 4) + x) (i20 176 x) := ⟨_, rfl⟩
          refine x_iast 34 rfl (isC_O hc) (kCO hc) (by omega) (g' := st i21 l) (by subst hi21; rfl) ?_
          have e5i21 : i21 c 5 = i c 5 := by rw [hi21]; simp only [mU]; rw [if_neg (by omega)]; assumption
          have e176i21 : i21 176 x = i 176 x := by rw [hi21]; simp only [mU]; rw [if_neg (by omega)]; assumption
          obtain ⟨hI1, hI1d⟩ : ∃ f, f = i21 := ⟨_, rfl⟩
          have hI1e : hI1 = mU hI0 (c + 13) (i c 5 * 4 + x) (i 176 x) := by rw [hI1d, hi21, e5q, e176q, hI0d]
          have e176r := e176i21
          refine x_aload_n 35 rfl rfl ?_
          refine x_getR 36 (z := 176) rfl fl_X4_18 (n_lt rfl) k_173 rfl r_173_2 ?_
          refine x_iload_n 37 rfl rfl ?_
          refine x_iald 38 (z := i21 176 x) rfl (n_lt rfl) k_176 (by omega) rfl ?_
          refine x_bipush 39 rfl (by decide) ?_
          refine x_icmp_eq 40 (tgt := 103) rfl (by decide) (by omega) (fun h22 => ?_) (fun h22 => ?_)
          · refine x_iinc 64 (L' := [some (vR (some 173)), some (vR (some c)), some (vI (g)), some (vI (x + 1))]) rfl (by decide) rfl rfl rfl rfl ?_
            refine x_goto 65 (tgt := 4) rfl (by decide) ?_
            exact ihL1 i21 (x + 1) (g) (by omega) (by rw [sgC_s _ hx.1]; split <;> omega) (hp_step (by omega) hN.1 hsx hA (hp_put (w := fun a b => i a b + 1) (Q := c + 2 + (i 176 x).toNat) (i0 := hI0) (i1 := hI1) (ii := ii) (C := i 175 x < i (c + 12) 1) (by omega) hI1e hI0e (by first | exact Or.inl ⟨by omega, hI1d.symm⟩ | exact Or.inr ⟨by omega, hfin⟩))) (by omega)
          · refine x_aload_n 41 rfl rfl ?_
            refine x_getR 42 (z := (c + 1)) rfl fl_X4_47 (isC_0 hc) (kC hc) rfl (rC0 hc) ?_
            refine x_aload_n 43 rfl rfl ?_
            refine x_getR 44 (z := 176) rfl fl_X4_18 (n_lt rfl) k_173 rfl r_173_2 ?_
            refine x_iload_n 45 rfl rfl ?_
            refine x_iald 46 (z := i21 176 x) rfl (n_lt rfl) k_176 (by omega) rfl ?_
            refine x_aald 47 (t := 3) (z := (c + 2 + (i21 176 x).toNat)) rfl (isC_S hc) (kCS hc) (by omega) ⟨rfl, rfl⟩ (rCs hc (by omega)) ?_
            refine x_dup 48 rfl rfl ?_
            refine x_getI 49 (z := i21 (c + 2 + (i21 176 x).toNat) 8) rfl fl_X4_85 (isS_lt (isS.of hc (show (i21 176 x).toNat < 10 by omega))) (kS (isS.of hc (show (i21 176 x).toNat < 10 by omega))) rfl rfl ?_
            refine x_iconst 50 rfl ?_
            refine x_iadd 51 (r := (i21 (c + 2 + (i21 176 x).toNat) 8) + 1) rfl rfl ?_
            obtain ⟨i23, hi23⟩ : ∃ f, f = mU i21 (c + 2 + (i21 176 x).toNat) 8 ((i21 (c + 2 + (i21 176 x).toNat) 8) + 1) := ⟨_, rfl⟩
            refine x_putI 52 rfl fl_X4_85 (isS_lt (isS.of hc (show (i21 176 x).toNat < 10 by omega))) (kS (isS.of hc (show (i21 176 x).toNat < 10 by omega))) rfl rfl (g' := st i23 l) (by subst hi23; rfl) ?_
            have e5i23 : i23 c 5 = i c 5 := by rw [hi23]; simp only [mU]; rw [if_neg (by omega)]; assumption
            have e176i23 : i23 176 x = i 176 x := by rw [hi23]; simp only [mU]; rw [if_neg (by omega)]; assumption
            have hs79 := hi23
            rw [e176r] at hs79
            have e176s := e176i23
            have e5s := e5i23
            refine x_aload_n 53 rfl rfl ?_
            refine x_getR 54 (z := (c + 1)) rfl fl_X4_47 (isC_0 hc) (kC hc) rfl (rC0 hc) ?_
            refine x_aload_n 55 rfl rfl ?_
            refine x_getR 56 (z := 176) rfl fl_X4_18 (n_lt rfl) k_173 rfl r_173_2 ?_
            refine x_iload_n 57 rfl rfl ?_
            refine x_iald 58 (z := i23 176 x) rfl (n_lt rfl) k_176 (by omega) rfl ?_
            refine x_aald 59 (t := 3) (z := (c + 2 + (i23 176 x).toNat)) rfl (isC_S hc) (kCS hc) (by omega) ⟨rfl, rfl⟩ (rCs hc (by omega)) ?_
            refine x_aload_n 60 rfl rfl ?_
            refine x_getI 61 (z := i23 c 5) rfl fl_X4_82 (isC_0 hc) (kC hc) rfl rfl ?_
            obtain ⟨i24, hi24⟩ : ∃ f, f = mU i23 (c + 2 + (i23 176 x).toNat) 9 (i23 c 5) := ⟨_, rfl⟩
            refine x_putI 62 rfl fl_X4_88 (isS_lt (isS.of hc (show (i23 176 x).toNat < 10 by omega))) (kS (isS.of hc (show (i23 176 x).toNat < 10 by omega))) rfl rfl (g' := st i24 l) (by subst hi24; rfl) ?_
            have hs97 := hi24
            rw [e176s, e5s] at hs97
            have hfin : i24 = mU (mU hI1 (c + 2 + (i 176 x).toNat) 8 (hI1 (c + 2 + (i 176 x).toNat) 8 + 1)) (c + 2 + (i 176 x).toNat) 9 (i c 5) := by rw [hs97, hs79, hI1d]
            refine x_iinc 63 (L' := [some (vR (some 173)), some (vR (some c)), some (vI (g + 1)), some (vI (x))]) rfl (by decide) rfl rfl rfl rfl ?_
            refine x_iinc 64 (L' := [some (vR (some 173)), some (vR (some c)), some (vI (g + 1)), some (vI (x + 1))]) rfl (by decide) rfl rfl rfl rfl ?_
            refine x_goto 65 (tgt := 4) rfl (by decide) ?_
            exact ihL1 i24 (x + 1) (g + 1) (by omega) (by rw [sgC_s _ hx.1]; split <;> omega) (hp_step (by omega) hN.1 hsx hA (hp_put (w := fun a b => i a b + 1) (Q := c + 2 + (i 176 x).toNat) (i0 := hI0) (i1 := hI1) (ii := ii) (C := i 175 x < i (c + 12) 1) (by omega) hI1e hI0e (by first | exact Or.inl ⟨by omega, hI1d.symm⟩ | exact Or.inr ⟨by omega, hfin⟩))) (by omega)
  exact loopL1 ((4 - ((0))) + 1 : Int).toNat i (0) (0) (by omega) (rfl) (hpA_0 i c) (by omega)
end
section
/-! what the book holds, in the words of a row W of 652 ints; and when the class's objects say so -/
theorem congrS {α : Type} {f : Int → α} {x y : Int} (h : x = y) : f x = f y := h ▸ rfl
def rgZ (V : Int → Int) : Int × Int × Int := rwZ (fun k => decide (V (7 + k) = 1)) 41
def sV (W : Int → Int) (s : Int) : Int → Int := fun k => W (12 + 48 * s + k)
def okV (V : Int → Int) : Prop := (1 ≤ V 0 ∧ V 0 ≤ 9) ∧ (100 ≤ V 1 ∧ V 1 ≤ 220) ∧ (V 2 = -9 ∨ (0 ≤ V 2 ∧ V 2 < 4)) ∧ (V 3 = 0 ∨ V 3 = 1) ∧ (0 ≤ V 4 ∧ V 4 ≤ 40) ∧ (V 5 = -9 ∨ (0 ≤ V 5 ∧ V 5 ≤ 39)) ∧ (0 ≤ V 6 ∧ V 6 ≤ 40) ∧ ∀ n, 0 ≤ n → n < 41 → V (7 + n) = -9 ∨ V (7 + n) = 0 ∨ V (7 + n) = 1
def okW (W : Int → Int) : Prop := ((0 ≤ W 11 ∧ W 11 ≤ 10) ∧ (0 ≤ W 4 ∧ W 4 ≤ 40) ∧ (0 ≤ W 9 ∧ W 9 ≤ 4 * W 4) ∧ (0 ≤ W 10 ∧ W 10 ≤ 10 * W 4) ∧ (1 ≤ W 0 ∧ W 0 ≤ 15) ∧ (1 ≤ W 1 ∧ W 1 ≤ 50) ∧ (0 ≤ W 2 ∧ W 2 ≤ 10) ∧ (1 ≤ W 3 ∧ W 3 ≤ 6)) ∧ (∀ p, 0 ≤ p → p < 4 → 0 ≤ W (5 + p) ∧ W (5 + p) ≤ W 4) ∧ (∀ x, 0 ≤ x → x < 4 * W 4 → -9 ≤ W (492 + x) ∧ W (492 + x) ≤ 9) ∧ (∀ s, 0 ≤ s → s < W 11 → okV (sV W s)) ∧ ∀ s, 0 ≤ s → s < W 11 → sV W s 4 ≤ W 4 ∧ sV W s 6 ≤ W 4 ∧ sV W s 5 < W 4
def relS (i : Nat → Int → Int) (l : Nat → Int → BitVec 64) (q : Nat) (V : Int → Int) : Prop := (i q 0 = V 0 ∧ i q 1 = V 1 ∧ i q 6 = V 2 ∧ i q 7 = V 3 ∧ i q 8 = V 4 ∧ i q 9 = V 5 ∧ i q 10 = V 6) ∧ (∀ n, 0 ≤ n → n < 41 → ((l q 2).getLsbD n.toNat = true ↔ V (7 + n) ≠ -9) ∧ ((l q 3).getLsbD n.toNat = true ↔ V (7 + n) = 1)) ∧ i q 4 = (rgZ V).2.2 ∧ i q 5 = (rgZ V).2.1
def relC (i : Nat → Int → Int) (l : Nat → Int → BitVec 64) (c : Nat) (W : Int → Int) : Prop := (i c 4 = W 11 ∧ i c 5 = W 4 ∧ i c 6 = W 9 ∧ i c 7 = W 10) ∧ (i (c + 12) 0 = W 0 ∧ i (c + 12) 1 = W 1 ∧ i (c + 12) 2 = W 2 ∧ i (c + 12) 3 = W 3) ∧ (∀ p, 0 ≤ p → p < 4 → i (c + 14) p = W (5 + p)) ∧ (∀ x, 0 ≤ x → x < 4 * W 4 → i (c + 13) x = W (492 + x)) ∧ ∀ s, 0 ≤ s → s < W 11 → relS i l (c + 2 + s.toNat) (sV W s)
theorem relS.congr {i i' : Nat → Int → Int} {l l' : Nat → Int → BitVec 64} {q q' : Nat} {V : Int → Int} (h : relS i l q V) (he : ∀ b, (b = 0 ∨ b = 1 ∨ (4 ≤ b ∧ b ≤ 10)) → i' q' b = i q b) (hl : ∀ b, (b = 2 ∨ b = 3) → l' q' b = l q b) : relS i' l' q' V := by
  obtain ⟨h1, h2, h3⟩ := h
  unfold relS
  rw [he 0 (by omega), he 1 (by omega), he 6 (by omega), he 7 (by omega), he 8 (by omega), he 9 (by omega), he 10 (by omega), he 4 (by omega), he 5 (by omega), hl 2 (by omega), hl 3 (by omega)]
  exact ⟨h1, h2, h3⟩
theorem relC.congr {i i' : Nat → Int → Int} {l l' : Nat → Int → BitVec 64} {c : Nat} {W : Int → Int} (h : relC i l c W) (hn : W 11 ≤ 10) (he : ∀ a b, c ≤ a → a < c + 15 → i' a b = i a b) (hl : ∀ a b, c ≤ a → a < c + 15 → l' a b = l a b) : relC i' l' c W := by
  obtain ⟨h1, h2, h3, h4, h5⟩ := h
  refine ⟨?_, ?_, fun p h0 hp => ?_, fun x h0 hx => ?_, fun s h0 hs => ?_⟩
  · simp only [he c _ (Nat.le_refl _) (by omega)]; exact h1
  · simp only [he (c + 12) _ (by omega) (by omega)]; exact h2
  · rw [he _ _ (by omega) (by omega)]; exact h3 p h0 hp
  · rw [he _ _ (by omega) (by omega)]; exact h4 x h0 hx
  · exact (h5 s h0 hs).congr (fun b _ => he _ _ (by omega) (by omega)) (fun b _ => hl _ _ (by omega) (by omega))
theorem okW.n {W : Int → Int} (h : okW W) : (0 ≤ W 11 ∧ W 11 ≤ 10) ∧ (0 ≤ W 4 ∧ W 4 ≤ 40) ∧ (0 ≤ W 9 ∧ W 9 ≤ 4 * W 4) ∧ (0 ≤ W 10 ∧ W 10 ≤ 10 * W 4) ∧ (1 ≤ W 0 ∧ W 0 ≤ 15) ∧ (1 ≤ W 1 ∧ W 1 ≤ 50) ∧ (0 ≤ W 2 ∧ W 2 ≤ 10) ∧ (1 ≤ W 3 ∧ W 3 ≤ 6) := h.1
theorem relC_cp {i i' : Nat → Int → Int} {l l' : Nat → Int → BitVec 64} {c c2 : Nat} {W : Int → Int} (hcp : cpC i l i' l' c c2) (h : relC i l c2 W) (hW : okW W) : relC i' l' c W := by
  obtain ⟨hA, hB⟩ := hcp
  obtain ⟨⟨h11, h12, h13, h14⟩, ⟨h21, h22, h23, h24⟩, h3, h4, h5⟩ := h
  have hn := hW.n
  refine ⟨⟨?_, ?_, ?_, ?_⟩, ⟨?_, ?_, ?_, ?_⟩, fun p h0 hp => ?_, fun x h0 hx => ?_, fun s h0 hs => ?_⟩
  · rw [hA, if_neg (by omega), if_neg (by omega), if_neg (by omega), if_pos ⟨rfl, rfl⟩]; exact h11
  · rw [hA, if_neg (by omega), if_neg (by omega), if_pos ⟨rfl, rfl⟩]; exact h12
  · rw [hA, if_neg (by omega), if_pos ⟨rfl, rfl⟩]; exact h13
  · rw [hA, if_pos ⟨rfl, rfl⟩]; exact h14
  · rw [hA, if_neg (by omega), if_neg (by omega), if_neg (by omega), if_neg (by omega), if_neg (by omega), if_neg (by omega), if_pos (by omega)]; exact h21
  · rw [hA, if_neg (by omega), if_neg (by omega), if_neg (by omega), if_neg (by omega), if_neg (by omega), if_neg (by omega), if_pos (by omega)]; exact h22
  · rw [hA, if_neg (by omega), if_neg (by omega), if_neg (by omega), if_neg (by omega), if_neg (by omega), if_neg (by omega), if_pos (by omega)]; exact h23
  · rw [hA, if_neg (by omega), if_neg (by omega), if_neg (by omega), if_neg (by omega), if_neg (by omega), if_neg (by omega), if_pos (by omega)]; exact h24
  · rw [hA, if_neg (by omega), if_neg (by omega), if_neg (by omega), if_neg (by omega), if_pos (by omega)]; exact h3 p h0 hp
  · rw [hA, if_neg (by omega), if_neg (by omega), if_neg (by omega), if_neg (by omega), if_neg (by omega), if_pos (by omega)]; exact h4 x h0 hx
  · have e : c + 2 + s.toNat - c + c2 = c2 + 2 + s.toNat := by omega
    refine (h5 s h0 hs).congr (fun b hb => ?_) (fun b hb => ?_)
    · rw [hA, if_neg (by omega), if_neg (by omega), if_neg (by omega), if_neg (by omega), if_neg (by omega), if_neg (by omega), if_neg (by omega), if_pos ⟨by omega, by omega, hb⟩, e]
    · rw [hB, if_pos ⟨by omega, by omega, hb⟩, e]
/-- a copy changes the objects of its choir alone -/
theorem cp_elseI {i i' : Nat → Int → Int} {l l' : Nat → Int → BitVec 64} {c c2 : Nat} (hcp : cpC i l i' l' c c2) (h4 : i c2 4 ≤ 10) {a : Nat} (ha : a < c ∨ c + 15 ≤ a) (b : Int) : i' a b = i a b := by
  rw [hcp.1, if_neg (by omega), if_neg (by omega), if_neg (by omega), if_neg (by omega), if_neg (by omega), if_neg (by omega), if_neg (by omega), if_neg (by omega)]
theorem cp_elseL {i i' : Nat → Int → Int} {l l' : Nat → Int → BitVec 64} {c c2 : Nat} (hcp : cpC i l i' l' c c2) (h4 : i c2 4 ≤ 10) {a : Nat} (ha : a < c ∨ c + 15 ≤ a) (b : Int) : l' a b = l a b := by
  rw [hcp.2, if_neg (by omega)]
theorem rgZ_bd (V : Int → Int) : 0 ≤ (rgZ V).2.1 ∧ 0 ≤ (rgZ V).2.2 ∧ (rgZ V).2.2 + (rgZ V).2.1 ≤ 41 := by
  have := rwZ_bd (fun k => decide (V (7 + k) = 1)) (x := 41) (by omega)
  unfold rgZ
  omega
theorem okS_of {i : Nat → Int → Int} {l : Nat → Int → BitVec 64} {q : Nat} {V : Int → Int} (h : relS i l q V) (hV : okV V) : okS i q := by
  obtain ⟨⟨h0, h1, h2, h3, h4, h5, h6⟩, _, h7, h8⟩ := h
  obtain ⟨v0, v1, v2, v3, v4, v5, v6, _⟩ := hV
  have hb := rgZ_bd V
  unfold okS
  rw [h0, h1, h2, h3, h4, h5, h6, h7, h8]
  omega
theorem okC_of {i : Nat → Int → Int} {l : Nat → Int → BitVec 64} {c : Nat} {W : Int → Int} (h : relC i l c W) (hW : okW W) : okC i c := by
  obtain ⟨⟨h11, h12, h13, h14⟩, ⟨h21, h22, h23, h24⟩, h3, h4, h5⟩ := h
  have hn := hW.n
  refine ⟨by rw [h11, h12, h13, h14, h21, h22, h23, h24]; exact hn, fun p h0 hp => ?_, fun x h0 hx => ?_, fun s h0 hs => ?_⟩
  · rw [h3 p h0 hp]; have := hW.2.1 p h0 hp; omega
  · rw [h12] at hx; rw [h4 x h0 hx]; exact hW.2.2.1 x h0 hx
  · rw [h11] at hs; exact okS_of (h5 s h0 hs) (hW.2.2.2.1 s h0 hs)
/-! the same words, of W -/
def gIn (V : Int → Int) (p : Int) : Int := max 0 (min ((rgZ V).2.2 + (rgZ V).2.1) (22 - 6 * p + 15) - max (rgZ V).2.2 (22 - 6 * p))
def gFits (W : Int → Int) (s : Int) : Int := orZ (fun p => decide (W 0 ≤ gIn (sV W s) p)) 4
def gMem (W : Int → Int) (p : Int) : Int := sumZ (fun k => if sV W k 2 = p then 1 else 0) (W 11)
def gStr (W : Int → Int) (p : Int) : Int := sumZ (fun k => if sV W k 2 = p then sV W k 0 else 0) (W 11)
def gPres (W : Int → Int) (p : Int) : Int := sumZ (fun k => if sV W k 2 = p ∧ sV W k 3 ≠ 0 then sV W k 0 else 0) (W 11)
def gAbs (W : Int → Int) : Int := sumZ (fun k => if sV W k 3 = 0 then 1 else 0) (W 11)
def gCov (W : Int → Int) : Int := orZ (fun p => decide (W 1 ≤ gPres W p)) 4
def gRows (W : Int → Int) (p : Int) : Int := (gMem W p + W 3 - 1) / W 3
def gRest (W : Int → Int) (s : Int) : Prop := sV W s 5 = -9 ∨ W 2 < W 4 - sV W s 5
def gSeat (W : Int → Int) (x : Int) : Int := sumZ (fun k => if sV W k 2 = sV W x 2 ∧ (sV W k 1 < sV W x 1 ∨ (sV W k 1 = sV W x 1 ∧ k < x)) then 1 else 0) (W 11)
theorem fIn_rel {i : Nat → Int → Int} {l : Nat → Int → BitVec 64} {q : Nat} {V : Int → Int} (h : relS i l q V) (p : Int) : fIn i q p = gIn V p := by
  unfold fIn gIn
  rw [h.2.2.1, h.2.2.2]
theorem relC.s {i : Nat → Int → Int} {l : Nat → Int → BitVec 64} {c : Nat} {W : Int → Int} (h : relC i l c W) {s : Int} (h0 : 0 ≤ s) (hs : s < W 11) : relS i l (c + 2 + s.toNat) (sV W s) := h.2.2.2.2 s h0 hs
theorem fFits_rel {i : Nat → Int → Int} {l : Nat → Int → BitVec 64} {c : Nat} {W : Int → Int} (h : relC i l c W) {s : Int} (h0 : 0 ≤ s) (hs : s < W 11) : fFits i c s = gFits W s := by
  unfold fFits gFits
  simp only [fIn_rel (h.s h0 hs), h.2.1.1]
theorem fMem_rel {i : Nat → Int → Int} {l : Nat → Int → BitVec 64} {c : Nat} {W : Int → Int} (h : relC i l c W) (p : Int) : fMem i c p = gMem W p := by
  unfold fMem gMem
  rw [h.1.1]
  exact sumZ_congr (fun k h0 h1 => by rw [(h.s h0 h1).1.2.2.1])
theorem fStr_rel {i : Nat → Int → Int} {l : Nat → Int → BitVec 64} {c : Nat} {W : Int → Int} (h : relC i l c W) (p : Int) : fStr i c p = gStr W p := by
  unfold fStr gStr
  rw [h.1.1]
  exact sumZ_congr (fun k h0 h1 => by rw [(h.s h0 h1).1.2.2.1, (h.s h0 h1).1.1])
theorem fPres_rel {i : Nat → Int → Int} {l : Nat → Int → BitVec 64} {c : Nat} {W : Int → Int} (h : relC i l c W) (p : Int) : fPres i c p = gPres W p := by
  unfold fPres gPres
  rw [h.1.1]
  exact sumZ_congr (fun k h0 h1 => by rw [(h.s h0 h1).1.2.2.1, (h.s h0 h1).1.1, (h.s h0 h1).1.2.2.2.1])
theorem fAbs_rel {i : Nat → Int → Int} {l : Nat → Int → BitVec 64} {c : Nat} {W : Int → Int} (h : relC i l c W) : fAbs i c = gAbs W := by
  unfold fAbs gAbs
  rw [h.1.1]
  exact sumZ_congr (fun k h0 h1 => by rw [(h.s h0 h1).1.2.2.2.1])
theorem fCov_rel {i : Nat → Int → Int} {l : Nat → Int → BitVec 64} {c : Nat} {W : Int → Int} (h : relC i l c W) : fCov i c = gCov W := by
  unfold fCov gCov
  simp only [fPres_rel h, h.2.1.2.1]
theorem fRows_rel {i : Nat → Int → Int} {l : Nat → Int → BitVec 64} {c : Nat} {W : Int → Int} (h : relC i l c W) (p : Int) : fRows i c p = gRows W p := by
  unfold fRows gRows
  rw [fMem_rel h, h.2.1.2.2.2]
theorem fRest_rel {i : Nat → Int → Int} {l : Nat → Int → BitVec 64} {c : Nat} {W : Int → Int} (h : relC i l c W) {s : Int} (h0 : 0 ≤ s) (hs : s < W 11) : fRest i c (c + 2 + s.toNat) ↔ gRest W s := by
  unfold fRest gRest
  rw [(h.s h0 hs).1.2.2.2.2.2.1, h.2.1.2.2.1, h.1.2.1]
theorem fSeat_rel {i : Nat → Int → Int} {l : Nat → Int → BitVec 64} {c : Nat} {W : Int → Int} (h : relC i l c W) {s : Int} (h0 : 0 ≤ s) (hs : s < W 11) : fSeat i c s = gSeat W s := by
  unfold fSeat gSeat
  rw [h.1.1]
  exact sumZ_congr (fun k g0 g1 => by rw [(h.s g0 g1).1.2.2.1, (h.s g0 g1).1.2.1, (h.s h0 hs).1.2.2.1, (h.s h0 hs).1.2.1])
/-! what is held, all of it -/
def hC (i : Nat → Int → Int) (j : Int) : Nat := 18 + 15 * ((i 16 1 + j) % 8).toNat
def RelB (i : Nat → Int → Int) (l : Nat → Int → BitVec 64) (W : Int → Int) (PN : Int) (P M : Int → Int → Int) (K : Int → Bool) (T : Int → Int) (TN FK FP : Int) : Prop :=
  relC i l 1 W ∧ (0 ≤ i 16 1 ∧ i 16 1 < 8 ∧ i 16 2 = PN) ∧ (∀ j, 0 ≤ j → j < PN → relC i l (hC i j) (P j)) ∧ (∀ m, 0 ≤ m → m < 2 → (i 169 m = if K m = true then 1 else 0) ∧ (K m = true → relC i l (139 + 15 * m.toNat) (M m))) ∧ (i 170 1 = TN ∧ ∀ k, 0 ≤ k → k < TN → i 171 k = T k) ∧ (i 172 2 = FK ∧ i 172 3 = FP) ∧ PZ i l
def okB (W : Int → Int) (PN : Int) (P M : Int → Int → Int) (K : Int → Bool) (T : Int → Int) (TN : Int) : Prop :=
  okW W ∧ (0 ≤ PN ∧ PN ≤ 8) ∧ (∀ j, 0 ≤ j → j < PN → okW (P j)) ∧ (∀ m, 0 ≤ m → m < 2 → K m = true → okW (M m)) ∧ (0 ≤ TN ∧ TN ≤ 60) ∧ ∀ k, 0 ≤ k → k < TN → 32 ≤ T k ∧ T k ≤ 126
def rmN (PN : Int) : Int := if PN < 8 then PN + 1 else PN
def rmP (W : Int → Int) (PN : Int) (P : Int → Int → Int) : Int → Int → Int := fun j => if PN < 8 then (if j = PN then W else P j) else (if j = 7 then W else P (j + 1))
theorem okB_rm {W : Int → Int} {PN : Int} {P M : Int → Int → Int} {K : Int → Bool} {T : Int → Int} {TN : Int} (h : okB W PN P M K T TN) {W' : Int → Int} (hW' : okW W') : okB W' (rmN PN) (rmP W PN P) M K T TN := by
  obtain ⟨h1, h2, h3, h4, h5⟩ := h
  refine ⟨hW', by unfold rmN; split <;> omega, fun j h0 hj => ?_, h4, h5⟩
  unfold rmN at hj
  unfold rmP
  by_cases hp : PN < 8
  · rw [if_pos hp] at hj ⊢
    split
    · exact h1
    · exact h3 j h0 (by omega)
  · rw [if_neg hp] at hj ⊢
    split
    · exact h1
    · exact h3 (j + 1) (by omega) (by omega)
theorem hC_lt (i : Nat → Int → Int) (j : Int) : 18 ≤ hC i j ∧ hC i j + 15 ≤ 138 := by unfold hC; omega
/-- all but choir 1 stays as it was -/
theorem RelB_ch {i i' : Nat → Int → Int} {l l' : Nat → Int → BitVec 64} {W W' : Int → Int} {PN : Int} {P M : Int → Int → Int} {K : Int → Bool} {T : Int → Int} {TN FK FP : Int} (h : RelB i l W PN P M K T TN FK FP) (hB : okB W PN P M K T TN)
    (he : ∀ a b, 16 ≤ a → a < 172 → i' a b = i a b) (hl : ∀ a b, 16 ≤ a → a < 172 → l' a b = l a b) (h2 : i' 172 2 = i 172 2) (h3 : i' 172 3 = i 172 3) (hz : PZ i' l') (hW : relC i' l' 1 W') : RelB i' l' W' PN P M K T TN FK FP := by
  obtain ⟨r1, r2, r3, r4, r5, r6, r7⟩ := h
  refine ⟨hW, by rw [he 16 1 (by omega) (by omega), he 16 2 (by omega) (by omega)]; exact r2, fun j h0 hj => ?_, fun m h0 hm => ⟨?_, fun hk => ?_⟩, ⟨?_, fun k h0 hk => ?_⟩, ⟨by rw [h2]; exact r6.1, by rw [h3]; exact r6.2⟩, hz⟩
  · have hh := hC_lt i j
    rw [show hC i' j = hC i j by unfold hC; rw [he 16 1 (by omega) (by omega)]]
    exact (r3 j h0 hj).congr ((hB.2.2.1 j h0 hj).n.1.2) (fun a b _ _ => he a b (by omega) (by omega)) (fun a b _ _ => hl a b (by omega) (by omega))
  · rw [he 169 m (by omega) (by omega)]; exact (r4 m h0 hm).1
  · exact ((r4 m h0 hm).2 hk).congr ((hB.2.2.2.1 m h0 hm hk).n.1.2) (fun a b _ _ => he a b (by omega) (by omega)) (fun a b _ _ => hl a b (by omega) (by omega))
  · rw [he 170 1 (by omega) (by omega)]; exact r5.1
  · rw [he 171 k (by omega) (by omega)]; exact r5.2 k h0 hk
theorem RelB_same {i i' : Nat → Int → Int} {l l' : Nat → Int → BitVec 64} {W : Int → Int} {PN : Int} {P M : Int → Int → Int} {K : Int → Bool} {T : Int → Int} {TN FK FP : Int} (h : RelB i l W PN P M K T TN FK FP) (hB : okB W PN P M K T TN)
    (he : ∀ a b, a < 172 → i' a b = i a b) (hl : ∀ a b, a < 172 → l' a b = l a b) (h2 : i' 172 2 = i 172 2) (h3 : i' 172 3 = i 172 3) (hz : PZ i' l') : RelB i' l' W PN P M K T TN FK FP :=
  RelB_ch h hB (fun a b _ h1 => he a b h1) (fun a b _ h1 => hl a b h1) h2 h3 hz (h.1.congr hB.1.n.1.2 (fun a b _ _ => he a b (by omega)) (fun a b _ _ => hl a b (by omega)))
theorem RelB_record {i i' : Nat → Int → Int} {l l' : Nat → Int → BitVec 64} {W : Int → Int} {PN : Int} {P M : Int → Int → Int} {K : Int → Bool} {T : Int → Int} {TN FK FP : Int} (h : RelB i l W PN P M K T TN FK FP) (hB : okB W PN P M K T TN)
    (hr : ∃ i1, cpC i l i1 l' (18 + 15 * ((i 16 1 + i 16 2) % 8).toNat) 1 ∧ ∀ a b, i' a b = if a = 16 ∧ b = 2 then (if i 16 2 < 8 then i 16 2 + 1 else i 16 2) else if a = 16 ∧ b = 1 then (if i 16 2 < 8 then i 16 1 else (i 16 1 + 1) % 8) else i1 a b) : RelB i' l' W (rmN PN) (rmP W PN P) M K T TN FK FP := by
  obtain ⟨i1, hcp, hi⟩ := hr
  obtain ⟨r1, r2, r3, r4, r5, r6, r7⟩ := h
  have hN := hB.1.n
  have h14 : i 1 4 ≤ 10 := by rw [r1.1.1]; exact hN.1.2
  have hPN := hB.2.1
  obtain ⟨o, ho⟩ : ∃ o, o = i 16 1 := ⟨_, rfl⟩
  rw [r2.2.2, ← ho] at hcp
  rw [← ho, r2.2.2] at hi
  rw [← ho] at r2
  have hT : 18 ≤ 18 + 15 * ((o + PN) % 8).toNat ∧ 18 + 15 * ((o + PN) % 8).toNat + 15 ≤ 138 := by omega
  have eI : ∀ a b, (a < 18 + 15 * ((o + PN) % 8).toNat ∨ 18 + 15 * ((o + PN) % 8).toNat + 15 ≤ a) → a ≠ 16 → i' a b = i a b := fun a b h1 h2 => by rw [hi, if_neg (by omega), if_neg (by omega)]; exact cp_elseI hcp h14 h1 b
  have eL : ∀ a b, (a < 18 + 15 * ((o + PN) % 8).toNat ∨ 18 + 15 * ((o + PN) % 8).toNat + 15 ≤ a) → l' a b = l a b := fun a b h1 => cp_elseL hcp h14 h1 b
  have e161 : i' 16 1 = if PN < 8 then o else (o + 1) % 8 := by rw [hi, if_neg (by omega), if_pos ⟨rfl, rfl⟩]
  have e162 : i' 16 2 = if PN < 8 then PN + 1 else PN := by rw [hi, if_pos ⟨rfl, rfl⟩]
  have hnew : relC i' l' (18 + 15 * ((o + PN) % 8).toNat) W := (relC_cp hcp r1 hB.1).congr hN.1.2 (fun a b h1 h2 => by rw [hi, if_neg (by omega), if_neg (by omega)]) (fun a b _ _ => rfl)
  have hold : ∀ j, 0 ≤ j → j < PN → (o + j) % 8 ≠ (o + PN) % 8 → relC i' l' (18 + 15 * ((o + j) % 8).toNat) (P j) := by
    intro j h0 hj hne
    have := r3 j h0 hj
    unfold hC at this
    rw [← ho] at this
    exact this.congr ((hB.2.2.1 j h0 hj).n.1.2) (fun a b _ _ => eI a b (by omega) (by omega)) (fun a b _ _ => eL a b (by omega))
  refine ⟨?_, ?_, fun j h0 hj => ?_, fun m h0 hm => ⟨?_, fun hk => ?_⟩, ⟨?_, fun k h0 hk => ?_⟩, ⟨?_, ?_⟩, ?_⟩
  · exact r1.congr hN.1.2 (fun a b _ _ => eI a b (by omega) (by omega)) (fun a b _ _ => eL a b (by omega))
  · unfold rmN
    rw [e161, e162]
    refine ⟨?_, ?_, rfl⟩ <;> split <;> omega
  · unfold rmN at hj
    unfold hC rmP
    rw [e161]
    by_cases hp : PN < 8
    · rw [if_pos hp] at hj
      rw [if_pos hp, if_pos hp]
      by_cases e : j = PN
      · rw [if_pos e, e]; exact hnew
      · rw [if_neg e]; exact hold j h0 (by omega) (by omega)
    · rw [if_neg hp] at hj
      rw [if_neg hp, if_neg hp]
      by_cases e : j = 7
      · rw [if_pos e, e, show ((o + 1) % 8 + 7) % 8 = (o + PN) % 8 by omega]; exact hnew
      · rw [if_neg e, show ((o + 1) % 8 + j) % 8 = (o + (j + 1)) % 8 by omega]; exact hold (j + 1) (by omega) (by omega) (by omega)
  · rw [eI 169 m (by omega) (by omega)]; exact (r4 m h0 hm).1
  · exact ((r4 m h0 hm).2 hk).congr ((hB.2.2.2.1 m h0 hm hk).n.1.2) (fun a b _ _ => eI a b (by omega) (by omega)) (fun a b _ _ => eL a b (by omega))
  · rw [eI 170 1 (by omega) (by omega)]; exact r5.1
  · rw [eI 171 k (by omega) (by omega)]; exact r5.2 k h0 hk
  · rw [eI 172 2 (by omega) (by omega)]; exact r6.1
  · rw [eI 172 3 (by omega) (by omega)]; exact r6.2
  · unfold PZ at r7 ⊢
    rw [eI 184 0 (by omega) (by omega), eL 179 0 (by omega), eL 180 0 (by omega), eL 182 0 (by omega), eL 183 0 (by omega)]
    exact r7
theorem rec_else {i i' : Nat → Int → Int} {l l' : Nat → Int → BitVec 64} (h14 : i 1 4 ≤ 10) (h16 : 0 ≤ i 16 1 ∧ 0 ≤ i 16 2)
    (hr : ∃ i1, cpC i l i1 l' (18 + 15 * ((i 16 1 + i 16 2) % 8).toNat) 1 ∧ ∀ a b, i' a b = if a = 16 ∧ b = 2 then (if i 16 2 < 8 then i 16 2 + 1 else i 16 2) else if a = 16 ∧ b = 1 then (if i 16 2 < 8 then i 16 1 else (i 16 1 + 1) % 8) else i1 a b) : (∀ a b, (a < 16 ∨ 138 ≤ a) → i' a b = i a b) ∧ ∀ a b, (a < 16 ∨ 138 ≤ a) → l' a b = l a b := by
  obtain ⟨i1, hcp, hi⟩ := hr
  exact ⟨fun a b h1 => by rw [hi, if_neg (by omega), if_neg (by omega)]; exact cp_elseI hcp h14 (by omega) b, fun a b h1 => cp_elseL hcp h14 (by omega) b⟩
end
section
/-! what each call is to do, in the words of the rows -/
abbrev bT : Type := (Int → Int) × Int × (Int → Int → Int) × (Int → Int → Int) × (Int → Bool) × (Int → Int) × Int × Int × Int
def addW (W : Int → Int) (s h : Int) : Int → Int := fun k => if k = 11 then W 11 + 1 else if 12 + 48 * W 11 ≤ k ∧ k < 60 + 48 * W 11 then (if k = 12 + 48 * W 11 then s else if k = 13 + 48 * W 11 then h else if k = 15 + 48 * W 11 then 1 else if k = 16 + 48 * W 11 ∨ k = 18 + 48 * W 11 then 0 else -9) else W k
def remW (W : Int → Int) (y : Int) : Int → Int := fun k => if k = 11 then W 11 - 1 else if 12 + 48 * y ≤ k ∧ k < 12 + 48 * (W 11 - 1) then W (k + 48) else W k
theorem rgZ_cv {V V' : Int → Int} (h : ∀ k, 0 ≤ k → k < 48 → V' k = V k) : rgZ V' = rgZ V := by
  unfold rgZ
  exact rwZ_congr (fun k h0 h1 => by rw [h (7 + k) (by omega) (by omega)])
theorem okV.cv {V V' : Int → Int} (hV : okV V) (h : ∀ k, 0 ≤ k → k < 48 → V' k = V k) : okV V' := by
  obtain ⟨v0, v1, v2, v3, v4, v5, v6, v7⟩ := hV
  unfold okV
  rw [h 0 (by omega) (by omega), h 1 (by omega) (by omega), h 2 (by omega) (by omega), h 3 (by omega) (by omega), h 4 (by omega) (by omega), h 5 (by omega) (by omega), h 6 (by omega) (by omega)]
  exact ⟨v0, v1, v2, v3, v4, v5, v6, fun n h0 h1 => by rw [h (7 + n) (by omega) (by omega)]; exact v7 n h0 h1⟩
theorem relS.cv {i : Nat → Int → Int} {l : Nat → Int → BitVec 64} {q : Nat} {V V' : Int → Int} (hV : relS i l q V) (h : ∀ k, 0 ≤ k → k < 48 → V' k = V k) : relS i l q V' := by
  obtain ⟨v0, v1, v2⟩ := hV
  unfold relS
  rw [rgZ_cv h, h 0 (by omega) (by omega), h 1 (by omega) (by omega), h 2 (by omega) (by omega), h 3 (by omega) (by omega), h 4 (by omega) (by omega), h 5 (by omega) (by omega), h 6 (by omega) (by omega)]
  exact ⟨v0, fun n h0 h1 => by rw [h (7 + n) (by omega) (by omega)]; exact v1 n h0 h1, v2⟩
theorem sVe {W : Int → Int} {s k : Int} : sV W s k = W (12 + 48 * s + k) := rfl
theorem rgZ_no {V : Int → Int} (h : ∀ k, 0 ≤ k → k < 41 → V (7 + k) ≠ 1) : rgZ V = (0, 0, 0) := by
  unfold rgZ
  rw [rwZ_congr (f' := fun _ => false) (fun k h0 h1 => decide_eq_false (h k h0 h1)), rwZ_no]
/-- in a row of a choir, what lies in no singer's place -/
theorem okW.mk {W W' : Int → Int} (h : okW W) (h4 : W' 4 = W 4) (h9 : W' 9 = W 9) (h10 : W' 10 = W 10) (h5 : ∀ p, 0 ≤ p → p < 4 → W' (5 + p) = W (5 + p)) (hs : ∀ x, 0 ≤ x → x < 160 → W' (492 + x) = W (492 + x))
    (h0 : (0 ≤ W' 11 ∧ W' 11 ≤ 10) ∧ (1 ≤ W' 0 ∧ W' 0 ≤ 15) ∧ (1 ≤ W' 1 ∧ W' 1 ≤ 50) ∧ (0 ≤ W' 2 ∧ W' 2 ≤ 10) ∧ (1 ≤ W' 3 ∧ W' 3 ≤ 6)) (hv : ∀ s, 0 ≤ s → s < W' 11 → okV (sV W' s) ∧ sV W' s 4 ≤ W 4 ∧ sV W' s 6 ≤ W 4 ∧ sV W' s 5 < W 4) : okW W' := by
  obtain ⟨g1, g2, g3, g4, g5⟩ := h
  refine ⟨by rw [h4, h9, h10]; omega, fun p a b => by rw [h5 p a b, h4]; exact g2 p a b, fun x a b => ?_, fun s a b => (hv s a b).1, fun s a b => by rw [h4]; exact (hv s a b).2⟩
  rw [h4] at b
  rw [hs x a (by omega)]
  exact g3 x a b
theorem okW_add {W : Int → Int} {s h : Int} (hW : okW W) (hn : W 11 < 10) (hs : 1 ≤ s ∧ s ≤ 9) (hh : 100 ≤ h ∧ h ≤ 220) : okW (addW W s h) := by
  have hN := hW.n
  have e : ∀ k, k < 11 ∨ 492 ≤ k → addW W s h k = W k := by
    intro k hk
    unfold addW
    rw [if_neg (by omega), if_neg (by omega)]
  have e11 : addW W s h 11 = W 11 + 1 := by unfold addW; rw [if_pos rfl]
  refine hW.mk (e _ (by omega)) (e _ (by omega)) (e _ (by omega)) (fun p _ _ => e _ (by omega)) (fun x _ _ => e _ (by omega)) ?_ (fun k h0 hk => ?_)
  · rw [e11, e 0 (by omega), e 1 (by omega), e 2 (by omega), e 3 (by omega)]; omega
  · rw [e11] at hk
    by_cases hkn : k = W 11
    · have eq : ∀ j, 0 ≤ j → j < 48 → sV (addW W s h) k j = (if j = 0 then s else if j = 1 then h else if j = 3 then 1 else if j = 4 ∨ j = 6 then 0 else -9) := by
        intro j h0 h1
        unfold sV addW
        rw [if_neg (by omega), if_pos (by omega)]
        have a0 : (12 + 48 * k + j = 12 + 48 * W 11) ↔ j = 0 := by omega
        have a1 : (12 + 48 * k + j = 13 + 48 * W 11) ↔ j = 1 := by omega
        have a2 : (12 + 48 * k + j = 15 + 48 * W 11) ↔ j = 3 := by omega
        have a3 : (12 + 48 * k + j = 16 + 48 * W 11) ↔ j = 4 := by omega
        have a4 : (12 + 48 * k + j = 18 + 48 * W 11) ↔ j = 6 := by omega
        simp only [a0, a1, a2, a3, a4]
      have q0 := eq 0 (by omega) (by omega)
      have q1 := eq 1 (by omega) (by omega)
      have q2 := eq 2 (by omega) (by omega)
      have q3 := eq 3 (by omega) (by omega)
      have q4 := eq 4 (by omega) (by omega)
      have q5 := eq 5 (by omega) (by omega)
      have q6 := eq 6 (by omega) (by omega)
      simp at q0 q1 q2 q3 q4 q5 q6
      unfold okV
      rw [q0, q1, q2, q3, q4, q5, q6]
      refine ⟨⟨by omega, by omega, by omega, by omega, by omega, by omega, by omega, fun n h0 h1 => ?_⟩, by omega, by omega, by omega⟩
      rw [eq (7 + n) (by omega) (by omega), if_neg (by omega), if_neg (by omega), if_neg (by omega), if_neg (by omega)]
      omega
    · have eq : ∀ j, 0 ≤ j → j < 48 → sV (addW W s h) k j = sV W k j := by
        intro j h0 h1
        unfold sV addW
        rw [if_neg (by omega), if_neg (by omega)]
      rw [eq 4 (by omega) (by omega), eq 5 (by omega) (by omega), eq 6 (by omega) (by omega)]
      exact ⟨(hW.2.2.2.1 k h0 (by omega)).cv eq, hW.2.2.2.2 k h0 (by omega)⟩
theorem relC_add {i i' : Nat → Int → Int} {l l' : Nat → Int → BitVec 64} {c : Nat} {W : Int → Int} {s h : Int} (hr : relC i l c W) (hW : okW W) (hn : W 11 < 10)
    (hi : ∀ a b, i' a b = if a = c ∧ b = 4 then i c 4 + 1 else if a = c + 2 + (i c 4).toNat then (if b = 0 then s else if b = 1 then h else if b = 4 ∨ b = 5 ∨ b = 8 ∨ b = 10 then 0 else if b = 6 ∨ b = 9 then -9 else if b = 7 then 1 else i a b) else i a b)
    (hl : ∀ a b, l' a b = if a = c + 2 + (i c 4).toNat ∧ (b = 2 ∨ b = 3) then 0#64 else l a b) : relC i' l' c (addW W s h) := by
  have hN := hW.n
  obtain ⟨⟨h11, h12, h13, h14⟩, ⟨h21, h22, h23, h24⟩, h3, h4, h5⟩ := hr
  have e : ∀ k, k < 11 ∨ 492 ≤ k → addW W s h k = W k := by
    intro k hk
    unfold addW
    rw [if_neg (by omega), if_neg (by omega)]
  have e11 : addW W s h 11 = W 11 + 1 := by unfold addW; rw [if_pos rfl]
  rw [h11] at hi hl
  refine ⟨?_, ?_, fun p h0 hp => ?_, fun x h0 hx => ?_, fun k h0 hk => ?_⟩
  · rw [e11, e 4 (by omega), e 9 (by omega), e 10 (by omega), hi, if_pos ⟨rfl, rfl⟩, hi, if_neg (by omega), if_neg (by omega), hi, if_neg (by omega), if_neg (by omega), hi, if_neg (by omega), if_neg (by omega)]
    exact ⟨rfl, h12, h13, h14⟩
  · rw [e 0 (by omega), e 1 (by omega), e 2 (by omega), e 3 (by omega), hi, if_neg (by omega), if_neg (by omega), hi, if_neg (by omega), if_neg (by omega), hi, if_neg (by omega), if_neg (by omega), hi, if_neg (by omega), if_neg (by omega)]
    exact ⟨h21, h22, h23, h24⟩
  · rw [e _ (by omega), hi, if_neg (by omega), if_neg (by omega)]; exact h3 p h0 hp
  · rw [e 4 (by omega)] at hx
    rw [e _ (by omega), hi, if_neg (by omega), if_neg (by omega)]; exact h4 x h0 hx
  · rw [e11] at hk
    by_cases hkn : k = W 11
    · have eq : ∀ j, 0 ≤ j → j < 48 → sV (addW W s h) k j = (if j = 0 then s else if j = 1 then h else if j = 3 then 1 else if j = 4 ∨ j = 6 then 0 else -9) := by
        intro j h0 h1
        unfold sV addW
        rw [if_neg (by omega), if_pos (by omega)]
        have a0 : (12 + 48 * k + j = 12 + 48 * W 11) ↔ j = 0 := by omega
        have a1 : (12 + 48 * k + j = 13 + 48 * W 11) ↔ j = 1 := by omega
        have a2 : (12 + 48 * k + j = 15 + 48 * W 11) ↔ j = 3 := by omega
        have a3 : (12 + 48 * k + j = 16 + 48 * W 11) ↔ j = 4 := by omega
        have a4 : (12 + 48 * k + j = 18 + 48 * W 11) ↔ j = 6 := by omega
        simp only [a0, a1, a2, a3, a4]
      have q0 := eq 0 (by omega) (by omega)
      have q1 := eq 1 (by omega) (by omega)
      have q2 := eq 2 (by omega) (by omega)
      have q3 := eq 3 (by omega) (by omega)
      have q4 := eq 4 (by omega) (by omega)
      have q5 := eq 5 (by omega) (by omega)
      have q6 := eq 6 (by omega) (by omega)
      simp at q0 q1 q2 q3 q4 q5 q6
      have hno : ∀ n, 0 ≤ n → n < 41 → sV (addW W s h) k (7 + n) = -9 := fun n h0 h1 => by
        rw [eq (7 + n) (by omega) (by omega), if_neg (by omega), if_neg (by omega), if_neg (by omega), if_neg (by omega)]
      have hQ : c + 2 + k.toNat = c + 2 + (W 11).toNat := by rw [hkn]
      have ev : ∀ b, i' (c + 2 + k.toNat) b = (if b = 0 then s else if b = 1 then h else if b = 4 ∨ b = 5 ∨ b = 8 ∨ b = 10 then 0 else if b = 6 ∨ b = 9 then -9 else if b = 7 then 1 else i (c + 2 + k.toNat) b) := by
        intro b
        rw [hi, if_neg (by omega), if_pos hQ]
      have rg : rgZ (sV (addW W s h) k) = (0, 0, 0) := rgZ_no (fun n h0 h1 => by rw [hno n h0 h1]; decide)
      unfold relS
      rw [q0, q1, q2, q3, q4, q5, q6, rg]
      refine ⟨⟨?_, ?_, ?_, ?_, ?_, ?_, ?_⟩, fun n h0 h1 => ?_, ?_, ?_⟩
      · rw [ev]; simp
      · rw [ev]; simp
      · rw [ev]; simp
      · rw [ev]; simp
      · rw [ev]; simp
      · rw [ev]; simp
      · rw [ev]; simp
      · rw [hno n h0 h1, hl, hl, if_pos ⟨hQ, Or.inl rfl⟩, if_pos ⟨hQ, Or.inr rfl⟩]; simp
      · rw [ev]; simp
      · rw [ev]; simp
    · have eq : ∀ j, 0 ≤ j → j < 48 → sV (addW W s h) k j = sV W k j := by
        intro j h0 h1
        unfold sV addW
        rw [if_neg (by omega), if_neg (by omega)]
      refine ((h5 k h0 (by omega)).congr (fun b _ => ?_) (fun b _ => ?_)).cv eq
      · rw [hi, if_neg (by omega), if_neg (by omega)]
      · rw [hl, if_neg (by omega)]
theorem okW_rem {W : Int → Int} {y : Int} (hW : okW W) (hy : 0 ≤ y ∧ y < W 11) : okW (remW W y) := by
  have hN := hW.n
  have e : ∀ k, k < 11 ∨ 492 ≤ k → remW W y k = W k := by
    intro k hk
    unfold remW
    rw [if_neg (by omega), if_neg (by omega)]
  have e11 : remW W y 11 = W 11 - 1 := by unfold remW; rw [if_pos rfl]
  refine hW.mk (e _ (by omega)) (e _ (by omega)) (e _ (by omega)) (fun p _ _ => e _ (by omega)) (fun x _ _ => e _ (by omega)) ?_ (fun k h0 hk => ?_)
  · rw [e11, e 0 (by omega), e 1 (by omega), e 2 (by omega), e 3 (by omega)]; omega
  · rw [e11] at hk
    by_cases hky : k < y
    · have eq : ∀ j, 0 ≤ j → j < 48 → sV (remW W y) k j = sV W k j := by
        intro j h0 h1
        unfold sV remW
        rw [if_neg (by omega), if_neg (by omega)]
      rw [eq 4 (by omega) (by omega), eq 5 (by omega) (by omega), eq 6 (by omega) (by omega)]
      exact ⟨(hW.2.2.2.1 k h0 (by omega)).cv eq, hW.2.2.2.2 k h0 (by omega)⟩
    · have eq : ∀ j, 0 ≤ j → j < 48 → sV (remW W y) k j = sV W (k + 1) j := by
        intro j h0 h1
        unfold sV remW
        rw [if_neg (by omega), if_pos (by omega)]
        exact congrS (by omega)
      rw [eq 4 (by omega) (by omega), eq 5 (by omega) (by omega), eq 6 (by omega) (by omega)]
      exact ⟨(hW.2.2.2.1 (k + 1) (by omega) (by omega)).cv eq, hW.2.2.2.2 (k + 1) (by omega) (by omega)⟩
theorem relC_rem {i i' : Nat → Int → Int} {l l' : Nat → Int → BitVec 64} {c : Nat} {W : Int → Int} {y : Int} (hr : relC i l c W) (hW : okW W) (hy : 0 ≤ y ∧ y < W 11)
    (hi : ∀ a b, i' a b = if a = c ∧ b = 4 then i c 4 - 1 else if c + 2 + y ≤ (a : Int) ∧ (a : Int) < c + 2 + (i c 4 - 1) ∧ (b = 0 ∨ b = 1 ∨ (4 ≤ b ∧ b ≤ 10)) then i (a + 1) b else i a b)
    (hl : ∀ a b, l' a b = if c + 2 + y ≤ (a : Int) ∧ (a : Int) < c + 2 + (i c 4 - 1) ∧ (b = 2 ∨ b = 3) then l (a + 1) b else l a b) : relC i' l' c (remW W y) := by
  have hN := hW.n
  obtain ⟨⟨h11, h12, h13, h14⟩, ⟨h21, h22, h23, h24⟩, h3, h4, h5⟩ := hr
  have e : ∀ k, k < 11 ∨ 492 ≤ k → remW W y k = W k := by
    intro k hk
    unfold remW
    rw [if_neg (by omega), if_neg (by omega)]
  have e11 : remW W y 11 = W 11 - 1 := by unfold remW; rw [if_pos rfl]
  rw [h11] at hi hl
  refine ⟨?_, ?_, fun p h0 hp => ?_, fun x h0 hx => ?_, fun k h0 hk => ?_⟩
  · rw [e11, e 4 (by omega), e 9 (by omega), e 10 (by omega), hi, if_pos ⟨rfl, rfl⟩, hi, if_neg (by omega), if_neg (by omega), hi, if_neg (by omega), if_neg (by omega), hi, if_neg (by omega), if_neg (by omega)]
    exact ⟨rfl, h12, h13, h14⟩
  · rw [e 0 (by omega), e 1 (by omega), e 2 (by omega), e 3 (by omega), hi, if_neg (by omega), if_neg (by omega), hi, if_neg (by omega), if_neg (by omega), hi, if_neg (by omega), if_neg (by omega), hi, if_neg (by omega), if_neg (by omega)]
    exact ⟨h21, h22, h23, h24⟩
  · rw [e _ (by omega), hi, if_neg (by omega), if_neg (by omega)]; exact h3 p h0 hp
  · rw [e 4 (by omega)] at hx
    rw [e _ (by omega), hi, if_neg (by omega), if_neg (by omega)]; exact h4 x h0 hx
  · rw [e11] at hk
    by_cases hky : k < y
    · have eq : ∀ j, 0 ≤ j → j < 48 → sV (remW W y) k j = sV W k j := by
        intro j h0 h1
        unfold sV remW
        rw [if_neg (by omega), if_neg (by omega)]
      refine ((h5 k h0 (by omega)).congr (fun b _ => ?_) (fun b _ => ?_)).cv eq
      · rw [hi, if_neg (by omega), if_neg (by omega)]
      · rw [hl, if_neg (by omega)]
    · have eq : ∀ j, 0 ≤ j → j < 48 → sV (remW W y) k j = sV W (k + 1) j := by
        intro j h0 h1
        unfold sV remW
        rw [if_neg (by omega), if_pos (by omega)]
        exact congrS (by omega)
      have hQ : c + 2 + k.toNat + 1 = c + 2 + (k + 1).toNat := by omega
      refine ((h5 (k + 1) (by omega) (by omega)).congr (fun b hb => ?_) (fun b hb => ?_)).cv eq
      · rw [hi, if_neg (by omega), if_pos ⟨by omega, by omega, hb⟩, hQ]
      · rw [hl, if_pos ⟨by omega, by omega, hb⟩, hQ]
/-- a setting -/
def setW (W : Int → Int) (x v : Int) : Int → Int := fun k => if k = x then v else W k
theorem okW_set {W : Int → Int} {x v : Int} (hW : okW W) (hx : (x = 0 ∧ 1 ≤ v ∧ v ≤ 15) ∨ (x = 1 ∧ 1 ≤ v ∧ v ≤ 50) ∨ (x = 2 ∧ 0 ≤ v ∧ v ≤ 10) ∨ (x = 3 ∧ 1 ≤ v ∧ v ≤ 6)) : okW (setW W x v) := by
  have hN := hW.n
  have e : ∀ k, 4 ≤ k → (setW W x v) k = W k := fun k hk => by unfold setW; exact if_neg (by omega)
  have eq : ∀ s, 0 ≤ s → ∀ j, 0 ≤ j → j < 48 → sV (setW W x v) s j = sV W s j := fun s hs j h0 h1 => e _ (by omega)
  refine hW.mk (e _ (by omega)) (e _ (by omega)) (e _ (by omega)) (fun p _ _ => e _ (by omega)) (fun x _ _ => e _ (by omega)) ?_ (fun k h0 hk => ?_)
  · rw [e 11 (by omega)]
    unfold setW
    rcases hx with ⟨rfl, hx⟩ | ⟨rfl, hx⟩ | ⟨rfl, hx⟩ | ⟨rfl, hx⟩ <;> simp <;> omega
  · rw [e 11 (by omega)] at hk
    rw [eq k h0 4 (by omega) (by omega), eq k h0 5 (by omega) (by omega), eq k h0 6 (by omega) (by omega)]
    exact ⟨(hW.2.2.2.1 k h0 hk).cv (eq k h0), hW.2.2.2.2 k h0 hk⟩
theorem relC_set {i i' : Nat → Int → Int} {l : Nat → Int → BitVec 64} {c : Nat} {W : Int → Int} {x v : Int} (hr : relC i l c W) (hW : okW W) (hx : 0 ≤ x ∧ x < 4) (hi : i' = mU i (c + 12) x v) : relC i' l c (setW W x v) := by
  have hN := hW.n
  obtain ⟨⟨h11, h12, h13, h14⟩, ⟨h21, h22, h23, h24⟩, h3, h4, h5⟩ := hr
  have e : ∀ k, 4 ≤ k → (setW W x v) k = W k := fun k hk => by unfold setW; exact if_neg (by omega)
  have ei : ∀ a b, a ≠ c + 12 → i' a b = i a b := fun a b ha => by rw [hi, mUne _ _ _ _ _ ha]
  have e12 : ∀ k, i' (c + 12) k = if k = x then v else i (c + 12) k := fun k => by rw [hi]; simp only [mU, true_and]
  refine ⟨?_, ?_, fun p h0 hp => ?_, fun y h0 hx => ?_, fun k h0 hk => ?_⟩
  · rw [e 11 (by omega), e 4 (by omega), e 9 (by omega), e 10 (by omega), ei c 4 (by omega), ei c 5 (by omega), ei c 6 (by omega), ei c 7 (by omega)]
    exact ⟨h11, h12, h13, h14⟩
  · rw [e12, e12, e12, e12, h21, h22, h23, h24]; exact ⟨rfl, rfl, rfl, rfl⟩
  · rw [e _ (by omega), ei _ _ (by omega)]; exact h3 p h0 hp
  · rw [e 4 (by omega)] at hx
    rw [e _ (by omega), ei _ _ (by omega)]; exact h4 y h0 hx
  · rw [e 11 (by omega)] at hk
    exact ((h5 k h0 hk).congr (fun b _ => ei _ _ (by omega)) (fun b _ => rfl)).cv (fun j h0 h1 => e _ (by omega))
/-- one singer is another now -/
theorem okW_one {W W' : Int → Int} {y : Int} (hW : okW W) (hy : 0 ≤ y ∧ y < W 11) (he : ∀ k, k < 12 + 48 * y ∨ 60 + 48 * y ≤ k → W' k = W k) (hv : okV (sV W' y) ∧ sV W' y 4 ≤ W 4 ∧ sV W' y 6 ≤ W 4 ∧ sV W' y 5 < W 4) : okW W' := by
  have hN := hW.n
  refine hW.mk (he _ (by omega)) (he _ (by omega)) (he _ (by omega)) (fun p _ _ => he _ (by omega)) (fun x _ _ => he _ (by omega)) ?_ (fun k h0 hk => ?_)
  · rw [he 11 (by omega), he 0 (by omega), he 1 (by omega), he 2 (by omega), he 3 (by omega)]; omega
  · rw [he 11 (by omega)] at hk
    by_cases hky : k = y
    · rw [hky]; exact hv
    · have eq : ∀ j, 0 ≤ j → j < 48 → sV W' k j = sV W k j := fun j h0 h1 => he _ (by omega)
      rw [eq 4 (by omega) (by omega), eq 5 (by omega) (by omega), eq 6 (by omega) (by omega)]
      exact ⟨(hW.2.2.2.1 k h0 hk).cv eq, hW.2.2.2.2 k h0 hk⟩
theorem relC_one {i i' : Nat → Int → Int} {l l' : Nat → Int → BitVec 64} {c : Nat} {W W' : Int → Int} {y : Int} (hr : relC i l c W) (hW : okW W) (hy : 0 ≤ y ∧ y < W 11) (he : ∀ k, k < 12 + 48 * y ∨ 60 + 48 * y ≤ k → W' k = W k)
    (hi : ∀ a b, a ≠ c + 2 + y.toNat → i' a b = i a b) (hl : ∀ a b, a ≠ c + 2 + y.toNat → l' a b = l a b) (hv : relS i' l' (c + 2 + y.toNat) (sV W' y)) : relC i' l' c W' := by
  have hN := hW.n
  obtain ⟨⟨h11, h12, h13, h14⟩, ⟨h21, h22, h23, h24⟩, h3, h4, h5⟩ := hr
  refine ⟨?_, ?_, fun p h0 hp => ?_, fun x h0 hx => ?_, fun k h0 hk => ?_⟩
  · rw [he 11 (by omega), he 4 (by omega), he 9 (by omega), he 10 (by omega), hi _ _ (by omega), hi _ _ (by omega), hi _ _ (by omega), hi _ _ (by omega)]
    exact ⟨h11, h12, h13, h14⟩
  · rw [he 0 (by omega), he 1 (by omega), he 2 (by omega), he 3 (by omega), hi _ _ (by omega), hi _ _ (by omega), hi _ _ (by omega), hi _ _ (by omega)]
    exact ⟨h21, h22, h23, h24⟩
  · rw [he _ (by omega), hi _ _ (by omega)]; exact h3 p h0 hp
  · rw [he 4 (by omega)] at hx
    rw [he _ (by omega), hi _ _ (by omega)]; exact h4 x h0 hx
  · rw [he 11 (by omega)] at hk
    by_cases hky : k = y
    · rw [hky]; exact hv
    · exact ((h5 k h0 hk).congr (fun b _ => hi _ _ (by omega)) (fun b _ => hl _ _ (by omega))).cv (fun j h0 h1 => he _ (by omega))
end

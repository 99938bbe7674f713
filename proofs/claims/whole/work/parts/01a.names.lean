-- ===== PART A: goes FIRST, ahead of the names: the tables' words, and 'selects' of the private methods out of them =====
/-- a private method of a class that the tables say can be made, by its rows of tables_1 -/
def lw_okq (q : MethodName × Nat) : Prop := (q.1.cls ≠ "java/lang/invoke/MethodHandle" ∧ q.1.cls ≠ "java/lang/invoke/VarHandle") ∧ Cond.instantiable q.1.cls q.2 ∈ tables_1 ∧ Cond.privateMethod q.1 ∈ tables_1 ∧ Cond.instanceMethod q.1 ∈ tables_1
theorem lw_p0 : lw_okq (⟨"RunWatch$Machine", "build", "()V"⟩, 11) := ⟨⟨by decide +kernel, by decide +kernel⟩, List.mem_of_getElem? (i := 226) (by decide +kernel), List.mem_of_getElem? (i := 234) (by decide +kernel), List.mem_of_getElem? (i := 235) (by decide +kernel)⟩
theorem lw_p1 : lw_okq (⟨"RunWatch$Machine", "lead", "()V"⟩, 11) := ⟨⟨by decide +kernel, by decide +kernel⟩, List.mem_of_getElem? (i := 226) (by decide +kernel), List.mem_of_getElem? (i := 245) (by decide +kernel), List.mem_of_getElem? (i := 246) (by decide +kernel)⟩
theorem lw_p2 : lw_okq (⟨"RunWatch$Machine", "split", "()I"⟩, 11) := ⟨⟨by decide +kernel, by decide +kernel⟩, List.mem_of_getElem? (i := 226) (by decide +kernel), List.mem_of_getElem? (i := 262) (by decide +kernel), List.mem_of_getElem? (i := 263) (by decide +kernel)⟩
theorem lw_p3 : lw_okq (⟨"RunWatch$Machine", "keyOf", "(I)I"⟩, 11) := ⟨⟨by decide +kernel, by decide +kernel⟩, List.mem_of_getElem? (i := 226) (by decide +kernel), List.mem_of_getElem? (i := 266) (by decide +kernel), List.mem_of_getElem? (i := 267) (by decide +kernel)⟩
theorem lw_p4 : lw_okq (⟨"RunWatch$Machine", "numberStates", "()V"⟩, 11) := ⟨⟨by decide +kernel, by decide +kernel⟩, List.mem_of_getElem? (i := 226) (by decide +kernel), List.mem_of_getElem? (i := 274) (by decide +kernel), List.mem_of_getElem? (i := 275) (by decide +kernel)⟩
theorem lw_p5 : lw_okq (⟨"RunWatch$Machine", "stateOf", "(I)I"⟩, 11) := ⟨⟨by decide +kernel, by decide +kernel⟩, List.mem_of_getElem? (i := 226) (by decide +kernel), List.mem_of_getElem? (i := 278) (by decide +kernel), List.mem_of_getElem? (i := 279) (by decide +kernel)⟩
theorem lw_p6 : lw_okq (⟨"RunWatch$Machine", "measure", "()V"⟩, 11) := ⟨⟨by decide +kernel, by decide +kernel⟩, List.mem_of_getElem? (i := 226) (by decide +kernel), List.mem_of_getElem? (i := 282) (by decide +kernel), List.mem_of_getElem? (i := 283) (by decide +kernel)⟩
theorem lw_p7 : lw_okq (⟨"RunWatch$Machine", "signTo", "(II)I"⟩, 11) := ⟨⟨by decide +kernel, by decide +kernel⟩, List.mem_of_getElem? (i := 226) (by decide +kernel), List.mem_of_getElem? (i := 286) (by decide +kernel), List.mem_of_getElem? (i := 287) (by decide +kernel)⟩
theorem lw_p8 : lw_okq (⟨"RunWatch$Text", "letterAt", "(I)I"⟩, 7) := ⟨⟨by decide +kernel, by decide +kernel⟩, List.mem_of_getElem? (i := 37) (by decide +kernel), List.mem_of_getElem? (i := 468) (by decide +kernel), List.mem_of_getElem? (i := 469) (by decide +kernel)⟩
theorem lw_p9 : lw_okq (⟨"RunWatch$Text", "cutToken", "(I)V"⟩, 7) := ⟨⟨by decide +kernel, by decide +kernel⟩, List.mem_of_getElem? (i := 37) (by decide +kernel), List.mem_of_getElem? (i := 472) (by decide +kernel), List.mem_of_getElem? (i := 473) (by decide +kernel)⟩
theorem lw_p10 : lw_okq (⟨"RunWatch$Text", "passWord", "()I"⟩, 7) := ⟨⟨by decide +kernel, by decide +kernel⟩, List.mem_of_getElem? (i := 37) (by decide +kernel), List.mem_of_getElem? (i := 479) (by decide +kernel), List.mem_of_getElem? (i := 480) (by decide +kernel)⟩
theorem lw_p11 : lw_okq (⟨"RunWatch$Text", "isWord", "(ILjava/lang/String;)Z"⟩, 7) := ⟨⟨by decide +kernel, by decide +kernel⟩, List.mem_of_getElem? (i := 37) (by decide +kernel), List.mem_of_getElem? (i := 484) (by decide +kernel), List.mem_of_getElem? (i := 485) (by decide +kernel)⟩
theorem lw_p12 : lw_okq (⟨"RunWatch$Text", "passNumber", "()I"⟩, 7) := ⟨⟨by decide +kernel, by decide +kernel⟩, List.mem_of_getElem? (i := 37) (by decide +kernel), List.mem_of_getElem? (i := 541) (by decide +kernel), List.mem_of_getElem? (i := 542) (by decide +kernel)⟩
theorem lw_p13 : lw_okq (⟨"RunWatch$Reader", "nextKind", "()I"⟩, 5) := ⟨⟨by decide +kernel, by decide +kernel⟩, List.mem_of_getElem? (i := 31) (by decide +kernel), List.mem_of_getElem? (i := 547) (by decide +kernel), List.mem_of_getElem? (i := 548) (by decide +kernel)⟩
theorem lw_p14 : lw_okq (⟨"RunWatch$Text", "isToken", "(I)Z"⟩, 7) := ⟨⟨by decide +kernel, by decide +kernel⟩, List.mem_of_getElem? (i := 37) (by decide +kernel), List.mem_of_getElem? (i := 555) (by decide +kernel), List.mem_of_getElem? (i := 556) (by decide +kernel)⟩
theorem lw_p15 : lw_okq (⟨"RunWatch$Reader", "isItem", "(I)Z"⟩, 5) := ⟨⟨by decide +kernel, by decide +kernel⟩, List.mem_of_getElem? (i := 31) (by decide +kernel), List.mem_of_getElem? (i := 559) (by decide +kernel), List.mem_of_getElem? (i := 560) (by decide +kernel)⟩
def lw_privs_1 : List (MethodName × Nat) := [(⟨"RunWatch$Machine", "build", "()V"⟩, 11), (⟨"RunWatch$Machine", "lead", "()V"⟩, 11), (⟨"RunWatch$Machine", "split", "()I"⟩, 11), (⟨"RunWatch$Machine", "keyOf", "(I)I"⟩, 11), (⟨"RunWatch$Machine", "numberStates", "()V"⟩, 11), (⟨"RunWatch$Machine", "stateOf", "(I)I"⟩, 11), (⟨"RunWatch$Machine", "measure", "()V"⟩, 11), (⟨"RunWatch$Machine", "signTo", "(II)I"⟩, 11), (⟨"RunWatch$Text", "letterAt", "(I)I"⟩, 7), (⟨"RunWatch$Text", "cutToken", "(I)V"⟩, 7), (⟨"RunWatch$Text", "passWord", "()I"⟩, 7), (⟨"RunWatch$Text", "isWord", "(ILjava/lang/String;)Z"⟩, 7), (⟨"RunWatch$Text", "passNumber", "()I"⟩, 7), (⟨"RunWatch$Reader", "nextKind", "()I"⟩, 5), (⟨"RunWatch$Text", "isToken", "(I)Z"⟩, 7), (⟨"RunWatch$Reader", "isItem", "(I)Z"⟩, 5)]
theorem lw_r1 : ∀ q ∈ lw_privs_1, lw_okq q := List.forall_mem_cons.mpr ⟨lw_p0, List.forall_mem_cons.mpr ⟨lw_p1, List.forall_mem_cons.mpr ⟨lw_p2, List.forall_mem_cons.mpr ⟨lw_p3, List.forall_mem_cons.mpr ⟨lw_p4, List.forall_mem_cons.mpr ⟨lw_p5, List.forall_mem_cons.mpr ⟨lw_p6, List.forall_mem_cons.mpr ⟨lw_p7, List.forall_mem_cons.mpr ⟨lw_p8, List.forall_mem_cons.mpr ⟨lw_p9, List.forall_mem_cons.mpr ⟨lw_p10, List.forall_mem_cons.mpr ⟨lw_p11, List.forall_mem_cons.mpr ⟨lw_p12, List.forall_mem_cons.mpr ⟨lw_p13, List.forall_mem_cons.mpr ⟨lw_p14, List.forall_mem_cons.mpr ⟨lw_p15, fun _ h => absurd h List.not_mem_nil⟩⟩⟩⟩⟩⟩⟩⟩⟩⟩⟩⟩⟩⟩⟩⟩
theorem lw_p16 : lw_okq (⟨"RunWatch$Reader", "isRule", "()Z"⟩, 5) := ⟨⟨by decide +kernel, by decide +kernel⟩, List.mem_of_getElem? (i := 31) (by decide +kernel), List.mem_of_getElem? (i := 563) (by decide +kernel), List.mem_of_getElem? (i := 564) (by decide +kernel)⟩
theorem lw_p17 : lw_okq (⟨"RunWatch$Reader", "isNumber", "(II)Z"⟩, 5) := ⟨⟨by decide +kernel, by decide +kernel⟩, List.mem_of_getElem? (i := 31) (by decide +kernel), List.mem_of_getElem? (i := 567) (by decide +kernel), List.mem_of_getElem? (i := 568) (by decide +kernel)⟩
theorem lw_p18 : lw_okq (⟨"RunWatch$Reader", "areChances", "()Z"⟩, 5) := ⟨⟨by decide +kernel, by decide +kernel⟩, List.mem_of_getElem? (i := 31) (by decide +kernel), List.mem_of_getElem? (i := 581) (by decide +kernel), List.mem_of_getElem? (i := 582) (by decide +kernel)⟩
theorem lw_p19 : lw_okq (⟨"RunWatch$Reader", "areSums", "()Z"⟩, 5) := ⟨⟨by decide +kernel, by decide +kernel⟩, List.mem_of_getElem? (i := 31) (by decide +kernel), List.mem_of_getElem? (i := 585) (by decide +kernel), List.mem_of_getElem? (i := 586) (by decide +kernel)⟩
theorem lw_p20 : lw_okq (⟨"RunWatch", "goThrough", "()V"⟩, 11) := ⟨⟨by decide +kernel, by decide +kernel⟩, List.mem_of_getElem? (i := 23) (by decide +kernel), List.mem_of_getElem? (i := 615) (by decide +kernel), List.mem_of_getElem? (i := 616) (by decide +kernel)⟩
theorem lw_p21 : lw_okq (⟨"RunWatch$Walk", "ruleByRule", "(LRunWatch$Plan;LRunWatch$Rows;)V"⟩, 5) := ⟨⟨by decide +kernel, by decide +kernel⟩, List.mem_of_getElem? (i := 198) (by decide +kernel), List.mem_of_getElem? (i := 623) (by decide +kernel), List.mem_of_getElem? (i := 624) (by decide +kernel)⟩
theorem lw_p22 : lw_okq (⟨"RunWatch$Walk", "sumBySum", "(LRunWatch$Plan;LRunWatch$Rows;)V"⟩, 5) := ⟨⟨by decide +kernel, by decide +kernel⟩, List.mem_of_getElem? (i := 198) (by decide +kernel), List.mem_of_getElem? (i := 628) (by decide +kernel), List.mem_of_getElem? (i := 629) (by decide +kernel)⟩
theorem lw_p23 : lw_okq (⟨"RunWatch", "isRow", "(I)Z"⟩, 11) := ⟨⟨by decide +kernel, by decide +kernel⟩, List.mem_of_getElem? (i := 23) (by decide +kernel), List.mem_of_getElem? (i := 647) (by decide +kernel), List.mem_of_getElem? (i := 648) (by decide +kernel)⟩
theorem lw_p24 : lw_okq (⟨"RunWatch", "fitted", "()LRunWatch$Machine;"⟩, 11) := ⟨⟨by decide +kernel, by decide +kernel⟩, List.mem_of_getElem? (i := 23) (by decide +kernel), List.mem_of_getElem? (i := 687) (by decide +kernel), List.mem_of_getElem? (i := 688) (by decide +kernel)⟩
theorem lw_p25 : lw_okq (⟨"RunWatch", "timeOfMark", "([II)I"⟩, 11) := ⟨⟨by decide +kernel, by decide +kernel⟩, List.mem_of_getElem? (i := 23) (by decide +kernel), List.mem_of_getElem? (i := 709) (by decide +kernel), List.mem_of_getElem? (i := 710) (by decide +kernel)⟩
theorem lw_p26 : lw_okq (⟨"RunWatch", "stateNow", "()I"⟩, 11) := ⟨⟨by decide +kernel, by decide +kernel⟩, List.mem_of_getElem? (i := 23) (by decide +kernel), List.mem_of_getElem? (i := 725) (by decide +kernel), List.mem_of_getElem? (i := 726) (by decide +kernel)⟩
theorem lw_p27 : lw_okq (⟨"RunWatch$Outlook", "spread", "(LRunWatch$Machine;[I)I"⟩, 4) := ⟨⟨by decide +kernel, by decide +kernel⟩, List.mem_of_getElem? (i := 330) (by decide +kernel), List.mem_of_getElem? (i := 749) (by decide +kernel), List.mem_of_getElem? (i := 750) (by decide +kernel)⟩
theorem lw_p28 : lw_okq (⟨"RunWatch$Means", "setUp", "(LRunWatch$Machine;)V"⟩, 7) := ⟨⟨by decide +kernel, by decide +kernel⟩, List.mem_of_getElem? (i := 351) (by decide +kernel), List.mem_of_getElem? (i := 770) (by decide +kernel), List.mem_of_getElem? (i := 771) (by decide +kernel)⟩
theorem lw_p29 : lw_okq (⟨"RunWatch$Means", "eliminate", "()Z"⟩, 7) := ⟨⟨by decide +kernel, by decide +kernel⟩, List.mem_of_getElem? (i := 351) (by decide +kernel), List.mem_of_getElem? (i := 779) (by decide +kernel), List.mem_of_getElem? (i := 780) (by decide +kernel)⟩
theorem lw_p30 : lw_okq (⟨"RunWatch$Means", "bringUp", "(I)Z"⟩, 7) := ⟨⟨by decide +kernel, by decide +kernel⟩, List.mem_of_getElem? (i := 351) (by decide +kernel), List.mem_of_getElem? (i := 783) (by decide +kernel), List.mem_of_getElem? (i := 784) (by decide +kernel)⟩
theorem lw_p31 : lw_okq (⟨"RunWatch$Means", "makeOne", "(I)I"⟩, 7) := ⟨⟨by decide +kernel, by decide +kernel⟩, List.mem_of_getElem? (i := 351) (by decide +kernel), List.mem_of_getElem? (i := 787) (by decide +kernel), List.mem_of_getElem? (i := 788) (by decide +kernel)⟩
def lw_privs_2 : List (MethodName × Nat) := [(⟨"RunWatch$Reader", "isRule", "()Z"⟩, 5), (⟨"RunWatch$Reader", "isNumber", "(II)Z"⟩, 5), (⟨"RunWatch$Reader", "areChances", "()Z"⟩, 5), (⟨"RunWatch$Reader", "areSums", "()Z"⟩, 5), (⟨"RunWatch", "goThrough", "()V"⟩, 11), (⟨"RunWatch$Walk", "ruleByRule", "(LRunWatch$Plan;LRunWatch$Rows;)V"⟩, 5), (⟨"RunWatch$Walk", "sumBySum", "(LRunWatch$Plan;LRunWatch$Rows;)V"⟩, 5), (⟨"RunWatch", "isRow", "(I)Z"⟩, 11), (⟨"RunWatch", "fitted", "()LRunWatch$Machine;"⟩, 11), (⟨"RunWatch", "timeOfMark", "([II)I"⟩, 11), (⟨"RunWatch", "stateNow", "()I"⟩, 11), (⟨"RunWatch$Outlook", "spread", "(LRunWatch$Machine;[I)I"⟩, 4), (⟨"RunWatch$Means", "setUp", "(LRunWatch$Machine;)V"⟩, 7), (⟨"RunWatch$Means", "eliminate", "()Z"⟩, 7), (⟨"RunWatch$Means", "bringUp", "(I)Z"⟩, 7), (⟨"RunWatch$Means", "makeOne", "(I)I"⟩, 7)]
theorem lw_r2 : ∀ q ∈ lw_privs_2, lw_okq q := List.forall_mem_cons.mpr ⟨lw_p16, List.forall_mem_cons.mpr ⟨lw_p17, List.forall_mem_cons.mpr ⟨lw_p18, List.forall_mem_cons.mpr ⟨lw_p19, List.forall_mem_cons.mpr ⟨lw_p20, List.forall_mem_cons.mpr ⟨lw_p21, List.forall_mem_cons.mpr ⟨lw_p22, List.forall_mem_cons.mpr ⟨lw_p23, List.forall_mem_cons.mpr ⟨lw_p24, List.forall_mem_cons.mpr ⟨lw_p25, List.forall_mem_cons.mpr ⟨lw_p26, List.forall_mem_cons.mpr ⟨lw_p27, List.forall_mem_cons.mpr ⟨lw_p28, List.forall_mem_cons.mpr ⟨lw_p29, List.forall_mem_cons.mpr ⟨lw_p30, List.forall_mem_cons.mpr ⟨lw_p31, fun _ h => absurd h List.not_mem_nil⟩⟩⟩⟩⟩⟩⟩⟩⟩⟩⟩⟩⟩⟩⟩⟩
theorem lw_p32 : lw_okq (⟨"RunWatch$Means", "takeAway", "(III)V"⟩, 7) := ⟨⟨by decide +kernel, by decide +kernel⟩, List.mem_of_getElem? (i := 351) (by decide +kernel), List.mem_of_getElem? (i := 796) (by decide +kernel), List.mem_of_getElem? (i := 797) (by decide +kernel)⟩
theorem lw_p33 : lw_okq (⟨"RunWatch$Means", "fillIn", "()V"⟩, 7) := ⟨⟨by decide +kernel, by decide +kernel⟩, List.mem_of_getElem? (i := 351) (by decide +kernel), List.mem_of_getElem? (i := 800) (by decide +kernel), List.mem_of_getElem? (i := 801) (by decide +kernel)⟩
theorem lw_p34 : lw_okq (⟨"RunWatch$Singles", "weigh", "(LRunWatch$Rows;[III)V"⟩, 5) := ⟨⟨by decide +kernel, by decide +kernel⟩, List.mem_of_getElem? (i := 385) (by decide +kernel), List.mem_of_getElem? (i := 813) (by decide +kernel), List.mem_of_getElem? (i := 814) (by decide +kernel)⟩
theorem lw_p35 : lw_okq (⟨"RunWatchModel", "begin", "()V"⟩, 35) := ⟨⟨by decide +kernel, by decide +kernel⟩, List.mem_of_getElem? (i := 837) (by decide +kernel), List.mem_of_getElem? (i := 843) (by decide +kernel), List.mem_of_getElem? (i := 844) (by decide +kernel)⟩
theorem lw_p36 : lw_okq (⟨"RunWatchModel", "takeRead", "()V"⟩, 35) := ⟨⟨by decide +kernel, by decide +kernel⟩, List.mem_of_getElem? (i := 837) (by decide +kernel), List.mem_of_getElem? (i := 847) (by decide +kernel), List.mem_of_getElem? (i := 848) (by decide +kernel)⟩
theorem lw_p37 : lw_okq (⟨"RunWatchModel", "readText", "()I"⟩, 35) := ⟨⟨by decide +kernel, by decide +kernel⟩, List.mem_of_getElem? (i := 837) (by decide +kernel), List.mem_of_getElem? (i := 973) (by decide +kernel), List.mem_of_getElem? (i := 974) (by decide +kernel)⟩
theorem lw_p38 : lw_okq (⟨"RunWatchModel", "scan", "()V"⟩, 35) := ⟨⟨by decide +kernel, by decide +kernel⟩, List.mem_of_getElem? (i := 837) (by decide +kernel), List.mem_of_getElem? (i := 977) (by decide +kernel), List.mem_of_getElem? (i := 978) (by decide +kernel)⟩
theorem lw_p39 : lw_okq (⟨"RunWatchModel", "wordOf", "(I)I"⟩, 35) := ⟨⟨by decide +kernel, by decide +kernel⟩, List.mem_of_getElem? (i := 837) (by decide +kernel), List.mem_of_getElem? (i := 987) (by decide +kernel), List.mem_of_getElem? (i := 988) (by decide +kernel)⟩
theorem lw_p40 : lw_okq (⟨"RunWatchModel", "isWord", "(IIII)Z"⟩, 35) := ⟨⟨by decide +kernel, by decide +kernel⟩, List.mem_of_getElem? (i := 837) (by decide +kernel), List.mem_of_getElem? (i := 991) (by decide +kernel), List.mem_of_getElem? (i := 992) (by decide +kernel)⟩
theorem lw_p41 : lw_okq (⟨"RunWatchModel", "readItem", "()Z"⟩, 35) := ⟨⟨by decide +kernel, by decide +kernel⟩, List.mem_of_getElem? (i := 837) (by decide +kernel), List.mem_of_getElem? (i := 995) (by decide +kernel), List.mem_of_getElem? (i := 996) (by decide +kernel)⟩
theorem lw_p42 : lw_okq (⟨"RunWatchModel", "readRule", "()Z"⟩, 35) := ⟨⟨by decide +kernel, by decide +kernel⟩, List.mem_of_getElem? (i := 837) (by decide +kernel), List.mem_of_getElem? (i := 999) (by decide +kernel), List.mem_of_getElem? (i := 1000) (by decide +kernel)⟩
theorem lw_p43 : lw_okq (⟨"RunWatchModel", "scanNumber", "(II)Z"⟩, 35) := ⟨⟨by decide +kernel, by decide +kernel⟩, List.mem_of_getElem? (i := 837) (by decide +kernel), List.mem_of_getElem? (i := 1003) (by decide +kernel), List.mem_of_getElem? (i := 1004) (by decide +kernel)⟩
theorem lw_p44 : lw_okq (⟨"RunWatchModel", "width", "()I"⟩, 35) := ⟨⟨by decide +kernel, by decide +kernel⟩, List.mem_of_getElem? (i := 837) (by decide +kernel), List.mem_of_getElem? (i := 1007) (by decide +kernel), List.mem_of_getElem? (i := 1008) (by decide +kernel)⟩
theorem lw_p45 : lw_okq (⟨"RunWatchModel", "readChance", "()Z"⟩, 35) := ⟨⟨by decide +kernel, by decide +kernel⟩, List.mem_of_getElem? (i := 837) (by decide +kernel), List.mem_of_getElem? (i := 1011) (by decide +kernel), List.mem_of_getElem? (i := 1012) (by decide +kernel)⟩
theorem lw_p46 : lw_okq (⟨"RunWatchModel", "readSums", "()Z"⟩, 35) := ⟨⟨by decide +kernel, by decide +kernel⟩, List.mem_of_getElem? (i := 837) (by decide +kernel), List.mem_of_getElem? (i := 1015) (by decide +kernel), List.mem_of_getElem? (i := 1016) (by decide +kernel)⟩
theorem lw_p47 : lw_okq (⟨"RunWatchModel", "note", "()V"⟩, 35) := ⟨⟨by decide +kernel, by decide +kernel⟩, List.mem_of_getElem? (i := 837) (by decide +kernel), List.mem_of_getElem? (i := 1019) (by decide +kernel), List.mem_of_getElem? (i := 1020) (by decide +kernel)⟩
def lw_privs_3 : List (MethodName × Nat) := [(⟨"RunWatch$Means", "takeAway", "(III)V"⟩, 7), (⟨"RunWatch$Means", "fillIn", "()V"⟩, 7), (⟨"RunWatch$Singles", "weigh", "(LRunWatch$Rows;[III)V"⟩, 5), (⟨"RunWatchModel", "begin", "()V"⟩, 35), (⟨"RunWatchModel", "takeRead", "()V"⟩, 35), (⟨"RunWatchModel", "readText", "()I"⟩, 35), (⟨"RunWatchModel", "scan", "()V"⟩, 35), (⟨"RunWatchModel", "wordOf", "(I)I"⟩, 35), (⟨"RunWatchModel", "isWord", "(IIII)Z"⟩, 35), (⟨"RunWatchModel", "readItem", "()Z"⟩, 35), (⟨"RunWatchModel", "readRule", "()Z"⟩, 35), (⟨"RunWatchModel", "scanNumber", "(II)Z"⟩, 35), (⟨"RunWatchModel", "width", "()I"⟩, 35), (⟨"RunWatchModel", "readChance", "()Z"⟩, 35), (⟨"RunWatchModel", "readSums", "()Z"⟩, 35), (⟨"RunWatchModel", "note", "()V"⟩, 35)]
theorem lw_r3 : ∀ q ∈ lw_privs_3, lw_okq q := List.forall_mem_cons.mpr ⟨lw_p32, List.forall_mem_cons.mpr ⟨lw_p33, List.forall_mem_cons.mpr ⟨lw_p34, List.forall_mem_cons.mpr ⟨lw_p35, List.forall_mem_cons.mpr ⟨lw_p36, List.forall_mem_cons.mpr ⟨lw_p37, List.forall_mem_cons.mpr ⟨lw_p38, List.forall_mem_cons.mpr ⟨lw_p39, List.forall_mem_cons.mpr ⟨lw_p40, List.forall_mem_cons.mpr ⟨lw_p41, List.forall_mem_cons.mpr ⟨lw_p42, List.forall_mem_cons.mpr ⟨lw_p43, List.forall_mem_cons.mpr ⟨lw_p44, List.forall_mem_cons.mpr ⟨lw_p45, List.forall_mem_cons.mpr ⟨lw_p46, List.forall_mem_cons.mpr ⟨lw_p47, fun _ h => absurd h List.not_mem_nil⟩⟩⟩⟩⟩⟩⟩⟩⟩⟩⟩⟩⟩⟩⟩⟩
theorem lw_p48 : lw_okq (⟨"RunWatchModel", "isRow", "(I)Z"⟩, 35) := ⟨⟨by decide +kernel, by decide +kernel⟩, List.mem_of_getElem? (i := 837) (by decide +kernel), List.mem_of_getElem? (i := 1041) (by decide +kernel), List.mem_of_getElem? (i := 1042) (by decide +kernel)⟩
theorem lw_p49 : lw_okq (⟨"RunWatchModel", "goThrough", "()V"⟩, 35) := ⟨⟨by decide +kernel, by decide +kernel⟩, List.mem_of_getElem? (i := 837) (by decide +kernel), List.mem_of_getElem? (i := 1061) (by decide +kernel), List.mem_of_getElem? (i := 1062) (by decide +kernel)⟩
theorem lw_p50 : lw_okq (⟨"RunWatchModel", "metBy", "(II)I"⟩, 35) := ⟨⟨by decide +kernel, by decide +kernel⟩, List.mem_of_getElem? (i := 837) (by decide +kernel), List.mem_of_getElem? (i := 1065) (by decide +kernel), List.mem_of_getElem? (i := 1066) (by decide +kernel)⟩
theorem lw_p51 : lw_okq (⟨"RunWatchModel", "nextBy", "(II)I"⟩, 35) := ⟨⟨by decide +kernel, by decide +kernel⟩, List.mem_of_getElem? (i := 837) (by decide +kernel), List.mem_of_getElem? (i := 1072) (by decide +kernel), List.mem_of_getElem? (i := 1073) (by decide +kernel)⟩
theorem lw_p52 : lw_okq (⟨"RunWatchModel", "build", "()V"⟩, 35) := ⟨⟨by decide +kernel, by decide +kernel⟩, List.mem_of_getElem? (i := 837) (by decide +kernel), List.mem_of_getElem? (i := 1076) (by decide +kernel), List.mem_of_getElem? (i := 1077) (by decide +kernel)⟩
theorem lw_p53 : lw_okq (⟨"RunWatchModel", "findMemories", "()V"⟩, 35) := ⟨⟨by decide +kernel, by decide +kernel⟩, List.mem_of_getElem? (i := 837) (by decide +kernel), List.mem_of_getElem? (i := 1080) (by decide +kernel), List.mem_of_getElem? (i := 1081) (by decide +kernel)⟩
theorem lw_p54 : lw_okq (⟨"RunWatchModel", "placeFor", "(I)I"⟩, 35) := ⟨⟨by decide +kernel, by decide +kernel⟩, List.mem_of_getElem? (i := 837) (by decide +kernel), List.mem_of_getElem? (i := 1084) (by decide +kernel), List.mem_of_getElem? (i := 1085) (by decide +kernel)⟩
theorem lw_p55 : lw_okq (⟨"RunWatchModel", "findKinds", "()V"⟩, 35) := ⟨⟨by decide +kernel, by decide +kernel⟩, List.mem_of_getElem? (i := 837) (by decide +kernel), List.mem_of_getElem? (i := 1088) (by decide +kernel), List.mem_of_getElem? (i := 1089) (by decide +kernel)⟩
theorem lw_p56 : lw_okq (⟨"RunWatchModel", "areLike", "(II)Z"⟩, 35) := ⟨⟨by decide +kernel, by decide +kernel⟩, List.mem_of_getElem? (i := 837) (by decide +kernel), List.mem_of_getElem? (i := 1092) (by decide +kernel), List.mem_of_getElem? (i := 1093) (by decide +kernel)⟩
theorem lw_p57 : lw_okq (⟨"RunWatchModel", "kindBehind", "(II)I"⟩, 35) := ⟨⟨by decide +kernel, by decide +kernel⟩, List.mem_of_getElem? (i := 837) (by decide +kernel), List.mem_of_getElem? (i := 1096) (by decide +kernel), List.mem_of_getElem? (i := 1097) (by decide +kernel)⟩
theorem lw_p58 : lw_okq (⟨"RunWatchModel", "stateFor", "(I)I"⟩, 35) := ⟨⟨by decide +kernel, by decide +kernel⟩, List.mem_of_getElem? (i := 837) (by decide +kernel), List.mem_of_getElem? (i := 1100) (by decide +kernel), List.mem_of_getElem? (i := 1101) (by decide +kernel)⟩
theorem lw_p59 : lw_okq (⟨"RunWatchModel", "stateOf", "(I)I"⟩, 35) := ⟨⟨by decide +kernel, by decide +kernel⟩, List.mem_of_getElem? (i := 837) (by decide +kernel), List.mem_of_getElem? (i := 1104) (by decide +kernel), List.mem_of_getElem? (i := 1105) (by decide +kernel)⟩
theorem lw_p60 : lw_okq (⟨"RunWatchModel", "stateNow", "()I"⟩, 35) := ⟨⟨by decide +kernel, by decide +kernel⟩, List.mem_of_getElem? (i := 837) (by decide +kernel), List.mem_of_getElem? (i := 1124) (by decide +kernel), List.mem_of_getElem? (i := 1125) (by decide +kernel)⟩
theorem lw_p61 : lw_okq (⟨"RunWatchModel", "findFar", "()V"⟩, 35) := ⟨⟨by decide +kernel, by decide +kernel⟩, List.mem_of_getElem? (i := 837) (by decide +kernel), List.mem_of_getElem? (i := 1128) (by decide +kernel), List.mem_of_getElem? (i := 1129) (by decide +kernel)⟩
theorem lw_p62 : lw_okq (⟨"RunWatchModel", "farBehind", "(II)I"⟩, 35) := ⟨⟨by decide +kernel, by decide +kernel⟩, List.mem_of_getElem? (i := 837) (by decide +kernel), List.mem_of_getElem? (i := 1132) (by decide +kernel), List.mem_of_getElem? (i := 1133) (by decide +kernel)⟩
theorem lw_p63 : lw_okq (⟨"RunWatchModel", "layTable", "()V"⟩, 35) := ⟨⟨by decide +kernel, by decide +kernel⟩, List.mem_of_getElem? (i := 837) (by decide +kernel), List.mem_of_getElem? (i := 1148) (by decide +kernel), List.mem_of_getElem? (i := 1149) (by decide +kernel)⟩
def lw_privs_4 : List (MethodName × Nat) := [(⟨"RunWatchModel", "isRow", "(I)Z"⟩, 35), (⟨"RunWatchModel", "goThrough", "()V"⟩, 35), (⟨"RunWatchModel", "metBy", "(II)I"⟩, 35), (⟨"RunWatchModel", "nextBy", "(II)I"⟩, 35), (⟨"RunWatchModel", "build", "()V"⟩, 35), (⟨"RunWatchModel", "findMemories", "()V"⟩, 35), (⟨"RunWatchModel", "placeFor", "(I)I"⟩, 35), (⟨"RunWatchModel", "findKinds", "()V"⟩, 35), (⟨"RunWatchModel", "areLike", "(II)Z"⟩, 35), (⟨"RunWatchModel", "kindBehind", "(II)I"⟩, 35), (⟨"RunWatchModel", "stateFor", "(I)I"⟩, 35), (⟨"RunWatchModel", "stateOf", "(I)I"⟩, 35), (⟨"RunWatchModel", "stateNow", "()I"⟩, 35), (⟨"RunWatchModel", "findFar", "()V"⟩, 35), (⟨"RunWatchModel", "farBehind", "(II)I"⟩, 35), (⟨"RunWatchModel", "layTable", "()V"⟩, 35)]
theorem lw_r4 : ∀ q ∈ lw_privs_4, lw_okq q := List.forall_mem_cons.mpr ⟨lw_p48, List.forall_mem_cons.mpr ⟨lw_p49, List.forall_mem_cons.mpr ⟨lw_p50, List.forall_mem_cons.mpr ⟨lw_p51, List.forall_mem_cons.mpr ⟨lw_p52, List.forall_mem_cons.mpr ⟨lw_p53, List.forall_mem_cons.mpr ⟨lw_p54, List.forall_mem_cons.mpr ⟨lw_p55, List.forall_mem_cons.mpr ⟨lw_p56, List.forall_mem_cons.mpr ⟨lw_p57, List.forall_mem_cons.mpr ⟨lw_p58, List.forall_mem_cons.mpr ⟨lw_p59, List.forall_mem_cons.mpr ⟨lw_p60, List.forall_mem_cons.mpr ⟨lw_p61, List.forall_mem_cons.mpr ⟨lw_p62, List.forall_mem_cons.mpr ⟨lw_p63, fun _ h => absurd h List.not_mem_nil⟩⟩⟩⟩⟩⟩⟩⟩⟩⟩⟩⟩⟩⟩⟩⟩
theorem lw_p64 : lw_okq (⟨"RunWatchModel", "solve", "()Z"⟩, 35) := ⟨⟨by decide +kernel, by decide +kernel⟩, List.mem_of_getElem? (i := 837) (by decide +kernel), List.mem_of_getElem? (i := 1153) (by decide +kernel), List.mem_of_getElem? (i := 1154) (by decide +kernel)⟩
theorem lw_p65 : lw_okq (⟨"RunWatchModel", "change", "(II)V"⟩, 35) := ⟨⟨by decide +kernel, by decide +kernel⟩, List.mem_of_getElem? (i := 837) (by decide +kernel), List.mem_of_getElem? (i := 1157) (by decide +kernel), List.mem_of_getElem? (i := 1158) (by decide +kernel)⟩
theorem lw_p66 : lw_okq (⟨"RunWatchModel", "isSame", "(III)Z"⟩, 35) := ⟨⟨by decide +kernel, by decide +kernel⟩, List.mem_of_getElem? (i := 837) (by decide +kernel), List.mem_of_getElem? (i := 1169) (by decide +kernel), List.mem_of_getElem? (i := 1170) (by decide +kernel)⟩
def lw_privs_5 : List (MethodName × Nat) := [(⟨"RunWatchModel", "solve", "()Z"⟩, 35), (⟨"RunWatchModel", "change", "(II)V"⟩, 35), (⟨"RunWatchModel", "isSame", "(III)Z"⟩, 35)]
theorem lw_r5 : ∀ q ∈ lw_privs_5, lw_okq q := List.forall_mem_cons.mpr ⟨lw_p64, List.forall_mem_cons.mpr ⟨lw_p65, List.forall_mem_cons.mpr ⟨lw_p66, fun _ h => absurd h List.not_mem_nil⟩⟩⟩
def lw_privs : List (MethodName × Nat) := lw_privs_1 ++ (lw_privs_2 ++ (lw_privs_3 ++ (lw_privs_4 ++ (lw_privs_5))))
def lw_tbl : List Cond := k2_sels lw_privs ++ tables_1
theorem lw_privs_ok : ∀ q ∈ lw_privs, lw_okq q := by
  show ∀ q ∈ lw_privs_1 ++ (lw_privs_2 ++ (lw_privs_3 ++ (lw_privs_4 ++ (lw_privs_5)))), lw_okq q
  exact List.forall_mem_append.mpr ⟨lw_r1, List.forall_mem_append.mpr ⟨lw_r2, List.forall_mem_append.mpr ⟨lw_r3, List.forall_mem_append.mpr ⟨lw_r4, lw_r5⟩⟩⟩⟩
-- ===== end of PART A; then your names; then what follows =====
/-! ===== BEGIN words of one list among another's, by their places ===== -/
theorem goodIn_r {big : List Cond} (ws : List Cond) (ps : List Nat) (hp : ws = ps.filterMap (fun i => big[i]?)) (h : ws.all goodWord = true) : GoodIn big ws := by
  intro w hw
  have h1 := List.all_eq_true.mp h w hw
  rw [hp] at hw
  obtain ⟨i, -, hi⟩ := List.mem_filterMap.mp hw
  have hm : w ∈ big := by first | exact List.mem_of_getElem? hi | exact List.getElem?_mem hi
  exact ⟨hm, good_of_word h1⟩
theorem goodIn_app {big a b : List Cond} (ha : GoodIn big a) (hb : GoodIn big b) : GoodIn big (a ++ b) := fun w h => (List.mem_append.mp h).elim (ha w) (hb w)
theorem goodIn_ca {big a b : List Cond} {c : Cond} (ha : GoodIn big (c :: a)) (hb : GoodIn big b) : GoodIn big (c :: (a ++ b)) := fun w h => (List.mem_cons.mp h).elim (fun e => ha w (List.mem_cons.mpr (Or.inl e))) (fun h => (List.mem_append.mp h).elim (fun h => ha w (List.mem_cons.mpr (Or.inr h))) (hb w))
theorem goodIn_sub {big ws : List Cond} (hm : ∀ w ∈ ws, w ∈ big) (h : ws.all goodWord = true) : GoodIn big ws := fun w hw => ⟨hm w hw, good_of_word (List.all_eq_true.mp h w hw)⟩
/-! ===== END ===== -/

/-! ===== BEGIN printed: names, fields, word lists, decode rows ===== -/
def RX0 : String := "RunWatch$History"
def TX0 : u_T := fun k => match k with
  | 0 => ("RunWatch$History", "sheets", "[LRunWatch$Sheet;", true)
  | 1 => ("RunWatch$History", "next", "I", false)
  | _ => ("RunWatch$History", "size", "I", false)
def tyX0 : Nat → FieldType := fun k => match k with
  | 0 => .array (.object "RunWatch$Sheet")
  | 1 => .int
  | _ => .int
abbrev wsX00 : List Cond := u_ws RX0 TX0 3
theorem nmX0 : ∀ a, a < 3 → ∀ b, b < 3 → a ≠ b → (TX0 a).2.1 ≠ (TX0 b).2.1 := by decide +kernel
theorem tyX0_ok : ∀ k, k < 3 → parseFieldDescriptor (TX0 k).2.2.1 = some (tyX0 k) := by decide +kernel
abbrev cX0_init : ByteArray := prog_2_method_1_code
def yX0_init : MethodName := ⟨RX0, "<init>", "()V"⟩
abbrev cX0_note : ByteArray := prog_2_method_2_code
def yX0_note : MethodName := ⟨RX0, "note", "(LRunWatch$Sheet;)V"⟩
abbrev cX0_giveLatest : ByteArray := prog_2_method_3_code
def yX0_giveLatest : MethodName := ⟨RX0, "giveLatest", "(LRunWatch$Sheet;)V"⟩
abbrev cX0_forget : ByteArray := prog_2_method_4_code
def yX0_forget : MethodName := ⟨RX0, "forget", "()V"⟩
def RX1 : String := "RunWatch$Machine"
def TX1 : u_T := fun k => match k with
  | 0 => ("RunWatch$Machine", "plan", "LRunWatch$Plan;", true)
  | 1 => ("RunWatch$Machine", "pasts", "I", false)
  | 2 => ("RunWatch$Machine", "leads", "[I", true)
  | 3 => ("RunWatch$Machine", "part", "[I", true)
  | 4 => ("RunWatch$Machine", "finer", "[I", true)
  | 5 => ("RunWatch$Machine", "keys", "[I", true)
  | 6 => ("RunWatch$Machine", "stateOfPart", "[I", true)
  | 7 => ("RunWatch$Machine", "pastOfState", "[I", true)
  | 8 => ("RunWatch$Machine", "states", "I", false)
  | 9 => ("RunWatch$Machine", "steps", "[I", true)
  | _ => ("RunWatch$Machine", "away", "[I", true)
def tyX1 : Nat → FieldType := fun k => match k with
  | 0 => .object "RunWatch$Plan"
  | 1 => .int
  | 2 => .array .int
  | 3 => .array .int
  | 4 => .array .int
  | 5 => .array .int
  | 6 => .array .int
  | 7 => .array .int
  | 8 => .int
  | 9 => .array .int
  | _ => .array .int
abbrev wsX10 : List Cond := u_ws RX1 TX1 11
theorem nmX1 : ∀ a, a < 11 → ∀ b, b < 11 → a ≠ b → (TX1 a).2.1 ≠ (TX1 b).2.1 := by decide +kernel
theorem tyX1_ok : ∀ k, k < 11 → parseFieldDescriptor (TX1 k).2.2.1 = some (tyX1 k) := by decide +kernel
abbrev cX1_init : ByteArray := prog_3_method_1_code
def yX1_init : MethodName := ⟨RX1, "<init>", "()V"⟩
abbrev cX1_fit : ByteArray := prog_3_method_2_code
def yX1_fit : MethodName := ⟨RX1, "fit", "(LRunWatch$Plan;)V"⟩
abbrev cX1_stateBehind : ByteArray := prog_3_method_3_code
def yX1_stateBehind : MethodName := ⟨RX1, "stateBehind", "(I)I"⟩
abbrev cX1_awayFrom : ByteArray := prog_3_method_4_code
def yX1_awayFrom : MethodName := ⟨RX1, "awayFrom", "(I)I"⟩
abbrev cX1_build : ByteArray := prog_3_method_5_code
def yX1_build : MethodName := ⟨RX1, "build", "()V"⟩
abbrev cX1_lead : ByteArray := prog_3_method_6_code
def yX1_lead : MethodName := ⟨RX1, "lead", "()V"⟩
abbrev cX1_split : ByteArray := prog_3_method_7_code
def yX1_split : MethodName := ⟨RX1, "split", "()I"⟩
abbrev cX1_keyOf : ByteArray := prog_3_method_8_code
def yX1_keyOf : MethodName := ⟨RX1, "keyOf", "(I)I"⟩
abbrev cX1_numberStates : ByteArray := prog_3_method_9_code
def yX1_numberStates : MethodName := ⟨RX1, "numberStates", "()V"⟩
abbrev cX1_stateOf : ByteArray := prog_3_method_10_code
def yX1_stateOf : MethodName := ⟨RX1, "stateOf", "(I)I"⟩
abbrev cX1_measure : ByteArray := prog_3_method_11_code
def yX1_measure : MethodName := ⟨RX1, "measure", "()V"⟩
abbrev cX1_signTo : ByteArray := prog_3_method_12_code
def yX1_signTo : MethodName := ⟨RX1, "signTo", "(II)I"⟩
abbrev cX1_signTowardsAlarm : ByteArray := prog_3_method_13_code
def yX1_signTowardsAlarm : MethodName := ⟨RX1, "signTowardsAlarm", "(II)I"⟩
def RX2 : String := "RunWatch$Means"
def TX2 : u_T := fun k => match k with
  | 0 => ("RunWatch$Means", "plan", "LRunWatch$Plan;", true)
  | 1 => ("RunWatch$Means", "solved", "Z", false)
  | 2 => ("RunWatch$Means", "size", "I", false)
  | 3 => ("RunWatch$Means", "lines", "[[I", true)
  | 4 => ("RunWatch$Means", "columns", "[I", true)
  | 5 => ("RunWatch$Means", "numbers", "[I", true)
  | _ => ("RunWatch$Means", "known", "Z", false)
def tyX2 : Nat → FieldType := fun k => match k with
  | 0 => .object "RunWatch$Plan"
  | 1 => .boolean
  | 2 => .int
  | 3 => .array (.array .int)
  | 4 => .array .int
  | 5 => .array .int
  | _ => .boolean
abbrev wsX20 : List Cond := u_ws RX2 TX2 7
theorem nmX2 : ∀ a, a < 7 → ∀ b, b < 7 → a ≠ b → (TX2 a).2.1 ≠ (TX2 b).2.1 := by decide +kernel
theorem tyX2_ok : ∀ k, k < 7 → parseFieldDescriptor (TX2 k).2.2.1 = some (tyX2 k) := by decide +kernel
abbrev cX2_init : ByteArray := prog_4_method_1_code
def yX2_init : MethodName := ⟨RX2, "<init>", "()V"⟩
abbrev cX2_fit : ByteArray := prog_4_method_2_code
def yX2_fit : MethodName := ⟨RX2, "fit", "(LRunWatch$Machine;LRunWatch$Plan;)V"⟩
abbrev cX2_setUp : ByteArray := prog_4_method_3_code
def yX2_setUp : MethodName := ⟨RX2, "setUp", "(LRunWatch$Machine;)V"⟩
abbrev cX2_eliminate : ByteArray := prog_4_method_4_code
def yX2_eliminate : MethodName := ⟨RX2, "eliminate", "()Z"⟩
abbrev cX2_bringUp : ByteArray := prog_4_method_5_code
def yX2_bringUp : MethodName := ⟨RX2, "bringUp", "(I)Z"⟩
abbrev cX2_makeOne : ByteArray := prog_4_method_6_code
def yX2_makeOne : MethodName := ⟨RX2, "makeOne", "(I)I"⟩
abbrev cX2_takeAway : ByteArray := prog_4_method_7_code
def yX2_takeAway : MethodName := ⟨RX2, "takeAway", "(III)V"⟩
abbrev cX2_fillIn : ByteArray := prog_4_method_8_code
def yX2_fillIn : MethodName := ⟨RX2, "fillIn", "()V"⟩
abbrev cX2_inverseOf : ByteArray := prog_4_method_9_code
def yX2_inverseOf : MethodName := ⟨RX2, "inverseOf", "(I)J"⟩
def RX3 : String := "RunWatch$Outlook"
def TX3 : u_T := fun k => match k with
  | 0 => ("RunWatch$Outlook", "weights", "[I", false)
  | 1 => ("RunWatch$Outlook", "next", "[I", false)
  | 2 => ("RunWatch$Outlook", "upper", "I", false)
  | _ => ("RunWatch$Outlook", "lower", "I", false)
def tyX3 : Nat → FieldType := fun k => match k with
  | 0 => .array .int
  | 1 => .array .int
  | 2 => .int
  | _ => .int
abbrev wsX30 : List Cond := u_ws RX3 TX3 4
theorem nmX3 : ∀ a, a < 4 → ∀ b, b < 4 → a ≠ b → (TX3 a).2.1 ≠ (TX3 b).2.1 := by decide +kernel
theorem tyX3_ok : ∀ k, k < 4 → parseFieldDescriptor (TX3 k).2.2.1 = some (tyX3 k) := by decide +kernel
abbrev cX3_init : ByteArray := prog_5_method_1_code
def yX3_init : MethodName := ⟨RX3, "<init>", "()V"⟩
abbrev cX3_reckon : ByteArray := prog_5_method_2_code
def yX3_reckon : MethodName := ⟨RX3, "reckon", "(LRunWatch$Machine;I[II)V"⟩
abbrev cX3_spread : ByteArray := prog_5_method_3_code
def yX3_spread : MethodName := ⟨RX3, "spread", "(LRunWatch$Machine;[I)I"⟩
abbrev cX3_commonDivisor : ByteArray := prog_5_method_4_code
def yX3_commonDivisor : MethodName := ⟨RX3, "commonDivisor", "(II)I"⟩
def RX4 : String := "RunWatch$Plan"
def TX4 : u_T := fun k => match k with
  | 0 => ("RunWatch$Plan", "rules", "I", false)
  | 1 => ("RunWatch$Plan", "least", "[I", true)
  | 2 => ("RunWatch$Plan", "of", "[I", true)
  | 3 => ("RunWatch$Plan", "set", "[I", true)
  | 4 => ("RunWatch$Plan", "chances", "[I", true)
  | 5 => ("RunWatch$Plan", "slack", "I", false)
  | _ => ("RunWatch$Plan", "limit", "I", false)
def tyX4 : Nat → FieldType := fun k => match k with
  | 0 => .int
  | 1 => .array .int
  | 2 => .array .int
  | 3 => .array .int
  | 4 => .array .int
  | 5 => .int
  | _ => .int
abbrev wsX40 : List Cond := u_ws RX4 TX4 7
theorem nmX4 : ∀ a, a < 7 → ∀ b, b < 7 → a ≠ b → (TX4 a).2.1 ≠ (TX4 b).2.1 := by decide +kernel
theorem tyX4_ok : ∀ k, k < 7 → parseFieldDescriptor (TX4 k).2.2.1 = some (tyX4 k) := by decide +kernel
abbrev cX4_init : ByteArray := prog_6_method_1_code
def yX4_init : MethodName := ⟨RX4, "<init>", "()V"⟩
abbrev cX4_becomeFirst : ByteArray := prog_6_method_2_code
def yX4_becomeFirst : MethodName := ⟨RX4, "becomeFirst", "()V"⟩
abbrev cX4_take : ByteArray := prog_6_method_3_code
def yX4_take : MethodName := ⟨RX4, "take", "(LRunWatch$Plan;)V"⟩
abbrev cX4_hasRulesOf : ByteArray := prog_6_method_4_code
def yX4_hasRulesOf : MethodName := ⟨RX4, "hasRulesOf", "(LRunWatch$Plan;)Z"⟩
abbrev cX4_hasChancesOf : ByteArray := prog_6_method_5_code
def yX4_hasChancesOf : MethodName := ⟨RX4, "hasChancesOf", "(LRunWatch$Plan;)Z"⟩
abbrev cX4_pastWidth : ByteArray := prog_6_method_6_code
def yX4_pastWidth : MethodName := ⟨RX4, "pastWidth", "()I"⟩
abbrev cX4_addRule : ByteArray := prog_6_method_7_code
def yX4_addRule : MethodName := ⟨RX4, "addRule", "(III)V"⟩
abbrev cX4_pass : ByteArray := prog_6_method_8_code
def yX4_pass : MethodName := ⟨RX4, "pass", "(II)I"⟩
def RX5 : String := "RunWatch$Reader"
def TX5 : u_T := fun k => match k with
  | 0 => ("RunWatch$Reader", "text", "LRunWatch$Text;", true)
  | 1 => ("RunWatch$Reader", "plan", "LRunWatch$Plan;", true)
  | 2 => ("RunWatch$Reader", "token", "I", false)
  | 3 => ("RunWatch$Reader", "chanceTold", "Z", false)
  | _ => ("RunWatch$Reader", "sumsTold", "Z", false)
def tyX5 : Nat → FieldType := fun k => match k with
  | 0 => .object "RunWatch$Text"
  | 1 => .object "RunWatch$Plan"
  | 2 => .int
  | 3 => .boolean
  | _ => .boolean
abbrev wsX50 : List Cond := u_ws RX5 TX5 5
theorem nmX5 : ∀ a, a < 5 → ∀ b, b < 5 → a ≠ b → (TX5 a).2.1 ≠ (TX5 b).2.1 := by decide +kernel
theorem tyX5_ok : ∀ k, k < 5 → parseFieldDescriptor (TX5 k).2.2.1 = some (tyX5 k) := by decide +kernel
abbrev cX5_init : ByteArray := prog_7_method_1_code
def yX5_init : MethodName := ⟨RX5, "<init>", "()V"⟩
abbrev cX5_read : ByteArray := prog_7_method_2_code
def yX5_read : MethodName := ⟨RX5, "read", "()I"⟩
abbrev cX5_isItem : ByteArray := prog_7_method_3_code
def yX5_isItem : MethodName := ⟨RX5, "isItem", "(I)Z"⟩
abbrev cX5_isRule : ByteArray := prog_7_method_4_code
def yX5_isRule : MethodName := ⟨RX5, "isRule", "()Z"⟩
abbrev cX5_areChances : ByteArray := prog_7_method_5_code
def yX5_areChances : MethodName := ⟨RX5, "areChances", "()Z"⟩
abbrev cX5_areSums : ByteArray := prog_7_method_6_code
def yX5_areSums : MethodName := ⟨RX5, "areSums", "()Z"⟩
abbrev cX5_isNumber : ByteArray := prog_7_method_7_code
def yX5_isNumber : MethodName := ⟨RX5, "isNumber", "(II)Z"⟩
abbrev cX5_nextKind : ByteArray := prog_7_method_8_code
def yX5_nextKind : MethodName := ⟨RX5, "nextKind", "()I"⟩
def RX6 : String := "RunWatch$Rows"
def TX6 : u_T := fun k => match k with
  | 0 => ("RunWatch$Rows", "size", "I", false)
  | 1 => ("RunWatch$Rows", "times", "[I", true)
  | _ => ("RunWatch$Rows", "signs", "[I", true)
def tyX6 : Nat → FieldType := fun k => match k with
  | 0 => .int
  | 1 => .array .int
  | _ => .array .int
abbrev wsX60 : List Cond := u_ws RX6 TX6 3
theorem nmX6 : ∀ a, a < 3 → ∀ b, b < 3 → a ≠ b → (TX6 a).2.1 ≠ (TX6 b).2.1 := by decide +kernel
theorem tyX6_ok : ∀ k, k < 3 → parseFieldDescriptor (TX6 k).2.2.1 = some (tyX6 k) := by decide +kernel
abbrev cX6_init : ByteArray := prog_8_method_1_code
def yX6_init : MethodName := ⟨RX6, "<init>", "()V"⟩
abbrev cX6_placeOf : ByteArray := prog_8_method_2_code
def yX6_placeOf : MethodName := ⟨RX6, "placeOf", "(I)I"⟩
abbrev cX6_putIn : ByteArray := prog_8_method_3_code
def yX6_putIn : MethodName := ⟨RX6, "putIn", "(III)V"⟩
abbrev cX6_takeOut : ByteArray := prog_8_method_4_code
def yX6_takeOut : MethodName := ⟨RX6, "takeOut", "(I)V"⟩
abbrev cX6_take : ByteArray := prog_8_method_5_code
def yX6_take : MethodName := ⟨RX6, "take", "(LRunWatch$Rows;)V"⟩
def RX7 : String := "RunWatch$Sheet"
def TX7 : u_T := fun k => match k with
  | 0 => ("RunWatch$Sheet", "plan", "LRunWatch$Plan;", true)
  | _ => ("RunWatch$Sheet", "rows", "LRunWatch$Rows;", true)
def tyX7 : Nat → FieldType := fun k => match k with
  | 0 => .object "RunWatch$Plan"
  | _ => .object "RunWatch$Rows"
abbrev wsX70 : List Cond := u_ws RX7 TX7 2
theorem nmX7 : ∀ a, a < 2 → ∀ b, b < 2 → a ≠ b → (TX7 a).2.1 ≠ (TX7 b).2.1 := by decide +kernel
theorem tyX7_ok : ∀ k, k < 2 → parseFieldDescriptor (TX7 k).2.2.1 = some (tyX7 k) := by decide +kernel
abbrev cX7_init : ByteArray := prog_9_method_1_code
def yX7_init : MethodName := ⟨RX7, "<init>", "()V"⟩
abbrev cX7_take : ByteArray := prog_9_method_2_code
def yX7_take : MethodName := ⟨RX7, "take", "(LRunWatch$Sheet;)V"⟩
def RX8 : String := "RunWatch$Singles"
def TX8 : u_T := fun k => match k with
  | 0 => ("RunWatch$Singles", "known", "Z", false)
  | 1 => ("RunWatch$Singles", "size", "I", false)
  | 2 => ("RunWatch$Singles", "first", "I", false)
  | 3 => ("RunWatch$Singles", "most", "I", false)
  | _ => ("RunWatch$Singles", "fewest", "I", false)
def tyX8 : Nat → FieldType := fun k => match k with
  | 0 => .boolean
  | 1 => .int
  | 2 => .int
  | 3 => .int
  | _ => .int
abbrev wsX80 : List Cond := u_ws RX8 TX8 5
theorem nmX8 : ∀ a, a < 5 → ∀ b, b < 5 → a ≠ b → (TX8 a).2.1 ≠ (TX8 b).2.1 := by decide +kernel
theorem tyX8_ok : ∀ k, k < 5 → parseFieldDescriptor (TX8 k).2.2.1 = some (tyX8 k) := by decide +kernel
abbrev cX8_init : ByteArray := prog_10_method_1_code
def yX8_init : MethodName := ⟨RX8, "<init>", "()V"⟩
abbrev cX8_search : ByteArray := prog_10_method_2_code
def yX8_search : MethodName := ⟨RX8, "search", "(LRunWatch$Rows;[I)V"⟩
abbrev cX8_weigh : ByteArray := prog_10_method_3_code
def yX8_weigh : MethodName := ⟨RX8, "weigh", "(LRunWatch$Rows;[III)V"⟩
def RX9 : String := "RunWatch$Text"
def TX9 : u_T := fun k => match k with
  | 0 => ("RunWatch$Text", "letters", "[I", true)
  | 1 => ("RunWatch$Text", "size", "I", false)
  | 2 => ("RunWatch$Text", "place", "I", false)
  | 3 => ("RunWatch$Text", "tokens", "I", false)
  | 4 => ("RunWatch$Text", "kinds", "[I", true)
  | 5 => ("RunWatch$Text", "starts", "[I", true)
  | _ => ("RunWatch$Text", "values", "[I", true)
def tyX9 : Nat → FieldType := fun k => match k with
  | 0 => .array .int
  | 1 => .int
  | 2 => .int
  | 3 => .int
  | 4 => .array .int
  | 5 => .array .int
  | _ => .array .int
abbrev wsX90 : List Cond := u_ws RX9 TX9 7
theorem nmX9 : ∀ a, a < 7 → ∀ b, b < 7 → a ≠ b → (TX9 a).2.1 ≠ (TX9 b).2.1 := by decide +kernel
theorem tyX9_ok : ∀ k, k < 7 → parseFieldDescriptor (TX9 k).2.2.1 = some (tyX9 k) := by decide +kernel
abbrev cX9_init : ByteArray := prog_11_method_1_code
def yX9_init : MethodName := ⟨RX9, "<init>", "()V"⟩
abbrev cX9_add : ByteArray := prog_11_method_2_code
def yX9_add : MethodName := ⟨RX9, "add", "(I)V"⟩
abbrev cX9_kindOf : ByteArray := prog_11_method_3_code
def yX9_kindOf : MethodName := ⟨RX9, "kindOf", "(I)I"⟩
abbrev cX9_valueOf : ByteArray := prog_11_method_4_code
def yX9_valueOf : MethodName := ⟨RX9, "valueOf", "(I)I"⟩
abbrev cX9_startOf : ByteArray := prog_11_method_5_code
def yX9_startOf : MethodName := ⟨RX9, "startOf", "(I)I"⟩
abbrev cX9_cut : ByteArray := prog_11_method_6_code
def yX9_cut : MethodName := ⟨RX9, "cut", "()V"⟩
abbrev cX9_cutToken : ByteArray := prog_11_method_7_code
def yX9_cutToken : MethodName := ⟨RX9, "cutToken", "(I)V"⟩
abbrev cX9_passWord : ByteArray := prog_11_method_8_code
def yX9_passWord : MethodName := ⟨RX9, "passWord", "()I"⟩
abbrev cX9_isWord : ByteArray := prog_11_method_9_code
def yX9_isWord : MethodName := ⟨RX9, "isWord", "(ILjava/lang/String;)Z"⟩
abbrev cX9_passNumber : ByteArray := prog_11_method_10_code
def yX9_passNumber : MethodName := ⟨RX9, "passNumber", "()I"⟩
abbrev cX9_isToken : ByteArray := prog_11_method_11_code
def yX9_isToken : MethodName := ⟨RX9, "isToken", "(I)Z"⟩
abbrev cX9_letterAt : ByteArray := prog_11_method_12_code
def yX9_letterAt : MethodName := ⟨RX9, "letterAt", "(I)I"⟩
abbrev cX9_isSmall : ByteArray := prog_11_method_13_code
def yX9_isSmall : MethodName := ⟨RX9, "isSmall", "(I)Z"⟩
abbrev cX9_isFigure : ByteArray := prog_11_method_14_code
def yX9_isFigure : MethodName := ⟨RX9, "isFigure", "(I)Z"⟩
def RX10 : String := "RunWatch$Walk"
def TX10 : u_T := fun k => match k with
  | 0 => ("RunWatch$Walk", "met", "[I", true)
  | 1 => ("RunWatch$Walk", "past", "[I", true)
  | 2 => ("RunWatch$Walk", "up", "[I", true)
  | 3 => ("RunWatch$Walk", "down", "[I", true)
  | _ => ("RunWatch$Walk", "signals", "[I", true)
def tyX10 : Nat → FieldType := fun k => match k with
  | 0 => .array .int
  | 1 => .array .int
  | 2 => .array .int
  | 3 => .array .int
  | _ => .array .int
abbrev wsX100 : List Cond := u_ws RX10 TX10 5
theorem nmX10 : ∀ a, a < 5 → ∀ b, b < 5 → a ≠ b → (TX10 a).2.1 ≠ (TX10 b).2.1 := by decide +kernel
theorem tyX10_ok : ∀ k, k < 5 → parseFieldDescriptor (TX10 k).2.2.1 = some (tyX10 k) := by decide +kernel
abbrev cX10_init : ByteArray := prog_12_method_1_code
def yX10_init : MethodName := ⟨RX10, "<init>", "()V"⟩
abbrev cX10_through : ByteArray := prog_12_method_2_code
def yX10_through : MethodName := ⟨RX10, "through", "(LRunWatch$Sheet;)V"⟩
abbrev cX10_ruleByRule : ByteArray := prog_12_method_3_code
def yX10_ruleByRule : MethodName := ⟨RX10, "ruleByRule", "(LRunWatch$Plan;LRunWatch$Rows;)V"⟩
abbrev cX10_sumBySum : ByteArray := prog_12_method_4_code
def yX10_sumBySum : MethodName := ⟨RX10, "sumBySum", "(LRunWatch$Plan;LRunWatch$Rows;)V"⟩
def RX11 : String := "RunWatch"
def TX11 : u_T := fun k => match k with
  | 0 => ("RunWatch", "text", "LRunWatch$Text;", true)
  | 1 => ("RunWatch", "reader", "LRunWatch$Reader;", true)
  | 2 => ("RunWatch", "sheet", "LRunWatch$Sheet;", true)
  | 3 => ("RunWatch", "history", "LRunWatch$History;", true)
  | 4 => ("RunWatch", "images", "[LRunWatch$Sheet;", true)
  | 5 => ("RunWatch", "kept", "[Z", true)
  | 6 => ("RunWatch", "walk", "LRunWatch$Walk;", true)
  | 7 => ("RunWatch", "machine", "LRunWatch$Machine;", true)
  | 8 => ("RunWatch", "outlook", "LRunWatch$Outlook;", true)
  | 9 => ("RunWatch", "means", "LRunWatch$Means;", true)
  | _ => ("RunWatch", "singles", "LRunWatch$Singles;", true)
def tyX11 : Nat → FieldType := fun k => match k with
  | 0 => .object "RunWatch$Text"
  | 1 => .object "RunWatch$Reader"
  | 2 => .object "RunWatch$Sheet"
  | 3 => .object "RunWatch$History"
  | 4 => .array (.object "RunWatch$Sheet")
  | 5 => .array .boolean
  | 6 => .object "RunWatch$Walk"
  | 7 => .object "RunWatch$Machine"
  | 8 => .object "RunWatch$Outlook"
  | 9 => .object "RunWatch$Means"
  | _ => .object "RunWatch$Singles"
abbrev wsX110 : List Cond := u_ws RX11 TX11 11
theorem nmX11 : ∀ a, a < 11 → ∀ b, b < 11 → a ≠ b → (TX11 a).2.1 ≠ (TX11 b).2.1 := by decide +kernel
theorem tyX11_ok : ∀ k, k < 11 → parseFieldDescriptor (TX11 k).2.2.1 = some (tyX11 k) := by decide +kernel
abbrev cX11_init : ByteArray := prog_1_method_1_code
def yX11_init : MethodName := ⟨RX11, "<init>", "()V"⟩
abbrev cX11_type : ByteArray := prog_1_method_2_code
def yX11_type : MethodName := ⟨RX11, "type", "(I)I"⟩
abbrev cX11_clear : ByteArray := prog_1_method_3_code
def yX11_clear : MethodName := ⟨RX11, "clear", "()I"⟩
abbrev cX11_tells : ByteArray := prog_1_method_4_code
def yX11_tells : MethodName := ⟨RX11, "tells", "()I"⟩
abbrev cX11_comes : ByteArray := prog_1_method_5_code
def yX11_comes : MethodName := ⟨RX11, "comes", "(II)I"⟩
abbrev cX11_goes : ByteArray := prog_1_method_6_code
def yX11_goes : MethodName := ⟨RX11, "goes", "(I)I"⟩
abbrev cX11_becomes : ByteArray := prog_1_method_7_code
def yX11_becomes : MethodName := ⟨RX11, "becomes", "(II)I"⟩
abbrev cX11_undo : ByteArray := prog_1_method_8_code
def yX11_undo : MethodName := ⟨RX11, "undo", "()I"⟩
abbrev cX11_rule : ByteArray := prog_1_method_9_code
def yX11_rule : MethodName := ⟨RX11, "rule", "(II)I"⟩
abbrev cX11_chance : ByteArray := prog_1_method_10_code
def yX11_chance : MethodName := ⟨RX11, "chance", "(I)I"⟩
abbrev cX11_row : ByteArray := prog_1_method_11_code
def yX11_row : MethodName := ⟨RX11, "row", "(II)I"⟩
abbrev cX11_alarm : ByteArray := prog_1_method_12_code
def yX11_alarm : MethodName := ⟨RX11, "alarm", "(I)I"⟩
abbrev cX11_signal : ByteArray := prog_1_method_13_code
def yX11_signal : MethodName := ⟨RX11, "signal", "(I)I"⟩
abbrev cX11_step : ByteArray := prog_1_method_14_code
def yX11_step : MethodName := ⟨RX11, "step", "(II)I"⟩
abbrev cX11_soonest : ByteArray := prog_1_method_15_code
def yX11_soonest : MethodName := ⟨RX11, "soonest", "(I)I"⟩
abbrev cX11_odds : ByteArray := prog_1_method_16_code
def yX11_odds : MethodName := ⟨RX11, "odds", "(II)I"⟩
abbrev cX11_mean : ByteArray := prog_1_method_17_code
def yX11_mean : MethodName := ⟨RX11, "mean", "()I"⟩
abbrev cX11_same : ByteArray := prog_1_method_18_code
def yX11_same : MethodName := ⟨RX11, "same", "(I)I"⟩
abbrev cX11_keep : ByteArray := prog_1_method_19_code
def yX11_keep : MethodName := ⟨RX11, "keep", "(I)I"⟩
abbrev cX11_back : ByteArray := prog_1_method_20_code
def yX11_back : MethodName := ⟨RX11, "back", "(I)I"⟩
abbrev cX11_count : ByteArray := prog_1_method_21_code
def yX11_count : MethodName := ⟨RX11, "count", "(I)I"⟩
abbrev cX11_isSign : ByteArray := prog_1_method_22_code
def yX11_isSign : MethodName := ⟨RX11, "isSign", "(I)Z"⟩
abbrev cX11_isPast : ByteArray := prog_1_method_23_code
def yX11_isPast : MethodName := ⟨RX11, "isPast", "(I)Z"⟩
abbrev cX11_isRow : ByteArray := prog_1_method_24_code
def yX11_isRow : MethodName := ⟨RX11, "isRow", "(I)Z"⟩
abbrev cX11_goThrough : ByteArray := prog_1_method_25_code
def yX11_goThrough : MethodName := ⟨RX11, "goThrough", "()V"⟩
abbrev cX11_fitted : ByteArray := prog_1_method_26_code
def yX11_fitted : MethodName := ⟨RX11, "fitted", "()LRunWatch$Machine;"⟩
abbrev cX11_stateNow : ByteArray := prog_1_method_27_code
def yX11_stateNow : MethodName := ⟨RX11, "stateNow", "()I"⟩
abbrev cX11_timeOfMark : ByteArray := prog_1_method_28_code
def yX11_timeOfMark : MethodName := ⟨RX11, "timeOfMark", "([II)I"⟩
def RX12 : String := "RunWatchModel"
def TX12 : u_T := fun k => match k with
  | 0 => ("RunWatchModel", "now", "[I", true)
  | 1 => ("RunWatchModel", "read", "[I", true)
  | 2 => ("RunWatchModel", "past", "[I", true)
  | 3 => ("RunWatchModel", "deeds", "I", false)
  | 4 => ("RunWatchModel", "images", "[I", true)
  | 5 => ("RunWatchModel", "isKept", "[Z", true)
  | 6 => ("RunWatchModel", "text", "[I", true)
  | 7 => ("RunWatchModel", "letters", "I", false)
  | 8 => ("RunWatchModel", "at", "I", false)
  | 9 => ("RunWatchModel", "tokenAt", "I", false)
  | 10 => ("RunWatchModel", "tokenSort", "I", false)
  | 11 => ("RunWatchModel", "tokenValue", "I", false)
  | 12 => ("RunWatchModel", "items", "I", false)
  | 13 => ("RunWatchModel", "isChanceTold", "Z", false)
  | 14 => ("RunWatchModel", "areSumsTold", "Z", false)
  | 15 => ("RunWatchModel", "metAt", "[I", true)
  | 16 => ("RunWatchModel", "memoryAt", "[I", true)
  | 17 => ("RunWatchModel", "upAt", "[I", true)
  | 18 => ("RunWatchModel", "downAt", "[I", true)
  | 19 => ("RunWatchModel", "isSignal", "[Z", true)
  | 20 => ("RunWatchModel", "memories", "[I", true)
  | 21 => ("RunWatchModel", "placeOf", "[I", true)
  | 22 => ("RunWatchModel", "nextPlace", "[I", true)
  | 23 => ("RunWatchModel", "places", "I", false)
  | 24 => ("RunWatchModel", "kindOf", "[I", true)
  | 25 => ("RunWatchModel", "newKind", "[I", true)
  | 26 => ("RunWatchModel", "kinds", "I", false)
  | 27 => ("RunWatchModel", "stateOfKind", "[I", true)
  | 28 => ("RunWatchModel", "stateAt", "[I", true)
  | 29 => ("RunWatchModel", "stepTo", "[I", true)
  | 30 => ("RunWatchModel", "states", "I", false)
  | 31 => ("RunWatchModel", "far", "[I", true)
  | 32 => ("RunWatchModel", "ways", "[J", true)
  | 33 => ("RunWatchModel", "nextWays", "[J", true)
  | _ => ("RunWatchModel", "table", "[J", true)
def tyX12 : Nat → FieldType := fun k => match k with
  | 0 => .array .int
  | 1 => .array .int
  | 2 => .array .int
  | 3 => .int
  | 4 => .array .int
  | 5 => .array .boolean
  | 6 => .array .int
  | 7 => .int
  | 8 => .int
  | 9 => .int
  | 10 => .int
  | 11 => .int
  | 12 => .int
  | 13 => .boolean
  | 14 => .boolean
  | 15 => .array .int
  | 16 => .array .int
  | 17 => .array .int
  | 18 => .array .int
  | 19 => .array .boolean
  | 20 => .array .int
  | 21 => .array .int
  | 22 => .array .int
  | 23 => .int
  | 24 => .array .int
  | 25 => .array .int
  | 26 => .int
  | 27 => .array .int
  | 28 => .array .int
  | 29 => .array .int
  | 30 => .int
  | 31 => .array .int
  | 32 => .array .long
  | 33 => .array .long
  | _ => .array .long
abbrev wsX120 : List Cond := u_ws RX12 TX12 35
theorem nmX12 : ∀ a, a < 35 → ∀ b, b < 35 → a ≠ b → (TX12 a).2.1 ≠ (TX12 b).2.1 := by decide +kernel
theorem tyX12_ok : ∀ k, k < 35 → parseFieldDescriptor (TX12 k).2.2.1 = some (tyX12 k) := by decide +kernel
abbrev cX12_init : ByteArray := prog_14_method_1_code
def yX12_init : MethodName := ⟨RX12, "<init>", "()V"⟩
abbrev cX12_in : ByteArray := prog_14_method_2_code
def yX12_in : MethodName := ⟨RX12, "in", "(III)Z"⟩
abbrev cX12_begin : ByteArray := prog_14_method_3_code
def yX12_begin : MethodName := ⟨RX12, "begin", "()V"⟩
abbrev cX12_takeRead : ByteArray := prog_14_method_4_code
def yX12_takeRead : MethodName := ⟨RX12, "takeRead", "()V"⟩
abbrev cX12_isLetter : ByteArray := prog_14_method_5_code
def yX12_isLetter : MethodName := ⟨RX12, "isLetter", "(I)Z"⟩
abbrev cX12_isFigure : ByteArray := prog_14_method_6_code
def yX12_isFigure : MethodName := ⟨RX12, "isFigure", "(I)Z"⟩
abbrev cX12_isWord : ByteArray := prog_14_method_7_code
def yX12_isWord : MethodName := ⟨RX12, "isWord", "(IIII)Z"⟩
abbrev cX12_wordOf : ByteArray := prog_14_method_8_code
def yX12_wordOf : MethodName := ⟨RX12, "wordOf", "(I)I"⟩
abbrev cX12_scan : ByteArray := prog_14_method_9_code
def yX12_scan : MethodName := ⟨RX12, "scan", "()V"⟩
abbrev cX12_scanNumber : ByteArray := prog_14_method_10_code
def yX12_scanNumber : MethodName := ⟨RX12, "scanNumber", "(II)Z"⟩
abbrev cX12_width : ByteArray := prog_14_method_11_code
def yX12_width : MethodName := ⟨RX12, "width", "()I"⟩
abbrev cX12_readRule : ByteArray := prog_14_method_12_code
def yX12_readRule : MethodName := ⟨RX12, "readRule", "()Z"⟩
abbrev cX12_readChance : ByteArray := prog_14_method_13_code
def yX12_readChance : MethodName := ⟨RX12, "readChance", "()Z"⟩
abbrev cX12_readSums : ByteArray := prog_14_method_14_code
def yX12_readSums : MethodName := ⟨RX12, "readSums", "()Z"⟩
abbrev cX12_readItem : ByteArray := prog_14_method_15_code
def yX12_readItem : MethodName := ⟨RX12, "readItem", "()Z"⟩
abbrev cX12_readText : ByteArray := prog_14_method_16_code
def yX12_readText : MethodName := ⟨RX12, "readText", "()I"⟩
abbrev cX12_type : ByteArray := prog_14_method_17_code
def yX12_type : MethodName := ⟨RX12, "type", "(I)I"⟩
abbrev cX12_clear : ByteArray := prog_14_method_18_code
def yX12_clear : MethodName := ⟨RX12, "clear", "()I"⟩
abbrev cX12_tells : ByteArray := prog_14_method_19_code
def yX12_tells : MethodName := ⟨RX12, "tells", "()I"⟩
abbrev cX12_bring : ByteArray := prog_14_method_20_code
def yX12_bring : MethodName := ⟨RX12, "bring", "([II[II)V"⟩
abbrev cX12_note : ByteArray := prog_14_method_21_code
def yX12_note : MethodName := ⟨RX12, "note", "()V"⟩
abbrev cX12_undo : ByteArray := prog_14_method_22_code
def yX12_undo : MethodName := ⟨RX12, "undo", "()I"⟩
abbrev cX12_isRow : ByteArray := prog_14_method_23_code
def yX12_isRow : MethodName := ⟨RX12, "isRow", "(I)Z"⟩
abbrev cX12_isSign : ByteArray := prog_14_method_24_code
def yX12_isSign : MethodName := ⟨RX12, "isSign", "(I)Z"⟩
abbrev cX12_comes : ByteArray := prog_14_method_25_code
def yX12_comes : MethodName := ⟨RX12, "comes", "(II)I"⟩
abbrev cX12_goes : ByteArray := prog_14_method_26_code
def yX12_goes : MethodName := ⟨RX12, "goes", "(I)I"⟩
abbrev cX12_becomes : ByteArray := prog_14_method_27_code
def yX12_becomes : MethodName := ⟨RX12, "becomes", "(II)I"⟩
abbrev cX12_ones : ByteArray := prog_14_method_28_code
def yX12_ones : MethodName := ⟨RX12, "ones", "(I)I"⟩
abbrev cX12_metBy : ByteArray := prog_14_method_29_code
def yX12_metBy : MethodName := ⟨RX12, "metBy", "(II)I"⟩
abbrev cX12_nextBy : ByteArray := prog_14_method_30_code
def yX12_nextBy : MethodName := ⟨RX12, "nextBy", "(II)I"⟩
abbrev cX12_goThrough : ByteArray := prog_14_method_31_code
def yX12_goThrough : MethodName := ⟨RX12, "goThrough", "()V"⟩
abbrev cX12_placeFor : ByteArray := prog_14_method_32_code
def yX12_placeFor : MethodName := ⟨RX12, "placeFor", "(I)I"⟩
abbrev cX12_findMemories : ByteArray := prog_14_method_33_code
def yX12_findMemories : MethodName := ⟨RX12, "findMemories", "()V"⟩
abbrev cX12_kindBehind : ByteArray := prog_14_method_34_code
def yX12_kindBehind : MethodName := ⟨RX12, "kindBehind", "(II)I"⟩
abbrev cX12_areLike : ByteArray := prog_14_method_35_code
def yX12_areLike : MethodName := ⟨RX12, "areLike", "(II)Z"⟩
abbrev cX12_findKinds : ByteArray := prog_14_method_36_code
def yX12_findKinds : MethodName := ⟨RX12, "findKinds", "()V"⟩
abbrev cX12_stateFor : ByteArray := prog_14_method_37_code
def yX12_stateFor : MethodName := ⟨RX12, "stateFor", "(I)I"⟩
abbrev cX12_build : ByteArray := prog_14_method_38_code
def yX12_build : MethodName := ⟨RX12, "build", "()V"⟩
abbrev cX12_stateOf : ByteArray := prog_14_method_39_code
def yX12_stateOf : MethodName := ⟨RX12, "stateOf", "(I)I"⟩
abbrev cX12_stateNow : ByteArray := prog_14_method_40_code
def yX12_stateNow : MethodName := ⟨RX12, "stateNow", "()I"⟩
abbrev cX12_rule : ByteArray := prog_14_method_41_code
def yX12_rule : MethodName := ⟨RX12, "rule", "(II)I"⟩
abbrev cX12_chance : ByteArray := prog_14_method_42_code
def yX12_chance : MethodName := ⟨RX12, "chance", "(I)I"⟩
abbrev cX12_row : ByteArray := prog_14_method_43_code
def yX12_row : MethodName := ⟨RX12, "row", "(II)I"⟩
abbrev cX12_alarm : ByteArray := prog_14_method_44_code
def yX12_alarm : MethodName := ⟨RX12, "alarm", "(I)I"⟩
abbrev cX12_signal : ByteArray := prog_14_method_45_code
def yX12_signal : MethodName := ⟨RX12, "signal", "(I)I"⟩
abbrev cX12_step : ByteArray := prog_14_method_46_code
def yX12_step : MethodName := ⟨RX12, "step", "(II)I"⟩
abbrev cX12_farBehind : ByteArray := prog_14_method_47_code
def yX12_farBehind : MethodName := ⟨RX12, "farBehind", "(II)I"⟩
abbrev cX12_findFar : ByteArray := prog_14_method_48_code
def yX12_findFar : MethodName := ⟨RX12, "findFar", "()V"⟩
abbrev cX12_soonest : ByteArray := prog_14_method_49_code
def yX12_soonest : MethodName := ⟨RX12, "soonest", "(I)I"⟩
abbrev cX12_common : ByteArray := prog_14_method_50_code
def yX12_common : MethodName := ⟨RX12, "common", "(JJ)J"⟩
abbrev cX12_odds : ByteArray := prog_14_method_51_code
def yX12_odds : MethodName := ⟨RX12, "odds", "(II)I"⟩
abbrev cX12_inverse : ByteArray := prog_14_method_52_code
def yX12_inverse : MethodName := ⟨RX12, "inverse", "(J)J"⟩
abbrev cX12_layTable : ByteArray := prog_14_method_53_code
def yX12_layTable : MethodName := ⟨RX12, "layTable", "()V"⟩
abbrev cX12_change : ByteArray := prog_14_method_54_code
def yX12_change : MethodName := ⟨RX12, "change", "(II)V"⟩
abbrev cX12_solve : ByteArray := prog_14_method_55_code
def yX12_solve : MethodName := ⟨RX12, "solve", "()Z"⟩
abbrev cX12_mean : ByteArray := prog_14_method_56_code
def yX12_mean : MethodName := ⟨RX12, "mean", "()I"⟩
abbrev cX12_isSame : ByteArray := prog_14_method_57_code
def yX12_isSame : MethodName := ⟨RX12, "isSame", "(III)Z"⟩
abbrev cX12_same : ByteArray := prog_14_method_58_code
def yX12_same : MethodName := ⟨RX12, "same", "(I)I"⟩
abbrev cX12_keep : ByteArray := prog_14_method_59_code
def yX12_keep : MethodName := ⟨RX12, "keep", "(I)I"⟩
abbrev cX12_back : ByteArray := prog_14_method_60_code
def yX12_back : MethodName := ⟨RX12, "back", "(I)I"⟩
abbrev cX12_count : ByteArray := prog_14_method_61_code
def yX12_count : MethodName := ⟨RX12, "count", "(I)I"⟩
def RJx145de : String := "java/io/Serializable"
def TJx145de : u_T := fun k => match k with
  | _ => ("", "", "", false)
def tyJx145de : Nat → FieldType := fun k => match k with
  | _ => .int
abbrev wsJx145de0 : List Cond := u_ws RJx145de TJx145de 0
theorem nmJx145de : ∀ a, a < 0 → ∀ b, b < 0 → a ≠ b → (TJx145de a).2.1 ≠ (TJx145de b).2.1 := by decide +kernel
theorem tyJx145de_ok : ∀ k, k < 0 → parseFieldDescriptor (TJx145de k).2.2.1 = some (tyJx145de k) := by decide +kernel
def RJx9f9b0 : String := "java/lang/CharSequence"
def TJx9f9b0 : u_T := fun k => match k with
  | _ => ("", "", "", false)
def tyJx9f9b0 : Nat → FieldType := fun k => match k with
  | _ => .int
abbrev wsJx9f9b00 : List Cond := u_ws RJx9f9b0 TJx9f9b0 0
theorem nmJx9f9b0 : ∀ a, a < 0 → ∀ b, b < 0 → a ≠ b → (TJx9f9b0 a).2.1 ≠ (TJx9f9b0 b).2.1 := by decide +kernel
theorem tyJx9f9b0_ok : ∀ k, k < 0 → parseFieldDescriptor (TJx9f9b0 k).2.2.1 = some (tyJx9f9b0 k) := by decide +kernel
def RJxb160c : String := "java/lang/Comparable"
def TJxb160c : u_T := fun k => match k with
  | _ => ("", "", "", false)
def tyJxb160c : Nat → FieldType := fun k => match k with
  | _ => .int
abbrev wsJxb160c0 : List Cond := u_ws RJxb160c TJxb160c 0
theorem nmJxb160c : ∀ a, a < 0 → ∀ b, b < 0 → a ≠ b → (TJxb160c a).2.1 ≠ (TJxb160c b).2.1 := by decide +kernel
theorem tyJxb160c_ok : ∀ k, k < 0 → parseFieldDescriptor (TJxb160c k).2.2.1 = some (tyJxb160c k) := by decide +kernel
def RJ6 : String := "java/lang/Integer"
def TJ6 : u_T := fun k => match k with
  | _ => ("", "", "", false)
def tyJ6 : Nat → FieldType := fun k => match k with
  | _ => .int
abbrev wsJ60 : List Cond := u_ws RJ6 TJ6 0
theorem nmJ6 : ∀ a, a < 0 → ∀ b, b < 0 → a ≠ b → (TJ6 a).2.1 ≠ (TJ6 b).2.1 := by decide +kernel
theorem tyJ6_ok : ∀ k, k < 0 → parseFieldDescriptor (TJ6 k).2.2.1 = some (tyJ6 k) := by decide +kernel
abbrev cJ6_bitCount_0f7a4 : ByteArray := prog_15_method_49_code
def yJ6_bitCount_0f7a4 : MethodName := ⟨RJ6, "bitCount", "(I)I"⟩
def RJ9 : String := "java/lang/Math"
def TJ9 : u_T := fun k => match k with
  | _ => ("", "", "", false)
def tyJ9 : Nat → FieldType := fun k => match k with
  | _ => .int
abbrev wsJ90 : List Cond := u_ws RJ9 TJ9 0
theorem nmJ9 : ∀ a, a < 0 → ∀ b, b < 0 → a ≠ b → (TJ9 a).2.1 ≠ (TJ9 b).2.1 := by decide +kernel
theorem tyJ9_ok : ∀ k, k < 0 → parseFieldDescriptor (TJ9 k).2.2.1 = some (tyJ9 k) := by decide +kernel
abbrev cJ9_floorMod_7cf53 : ByteArray := prog_16_method_50_code
def yJ9_floorMod_7cf53 : MethodName := ⟨RJ9, "floorMod", "(II)I"⟩
abbrev cJ9_max_7cf53 : ByteArray := prog_16_method_65_code
def yJ9_max_7cf53 : MethodName := ⟨RJ9, "max", "(II)I"⟩
abbrev cJ9_min_7cf53 : ByteArray := prog_16_method_69_code
def yJ9_min_7cf53 : MethodName := ⟨RJ9, "min", "(II)I"⟩
def RJ0 : String := "java/lang/String"
def TJ0 : u_T := fun k => match k with
  | _ => ("", "", "", false)
def tyJ0 : Nat → FieldType := fun k => match k with
  | _ => .int
abbrev wsJ00 : List Cond := u_ws RJ0 TJ0 0
theorem nmJ0 : ∀ a, a < 0 → ∀ b, b < 0 → a ≠ b → (TJ0 a).2.1 ≠ (TJ0 b).2.1 := by decide +kernel
theorem tyJ0_ok : ∀ k, k < 0 → parseFieldDescriptor (TJ0 k).2.2.1 = some (tyJ0 k) := by decide +kernel
abbrev cJ0_length_8abf5 : ByteArray := prog_17_method_54_code
def yJ0_length_8abf5 : MethodName := ⟨RJ0, "length", "()I"⟩
abbrev cJ0_charAt_5068e : ByteArray := prog_17_method_56_code
def yJ0_charAt_5068e : MethodName := ⟨RJ0, "charAt", "(I)C"⟩
abbrev cJ0_coder_7d493 : ByteArray := prog_17_method_152_code
def yJ0_coder_7d493 : MethodName := ⟨RJ0, "coder", "()B"⟩
abbrev cJ0_isLatin1_aae02 : ByteArray := prog_17_method_154_code
def yJ0_isLatin1_aae02 : MethodName := ⟨RJ0, "isLatin1", "()Z"⟩
abbrev cJ0_checkIndex_df160 : ByteArray := prog_17_method_155_code
def yJ0_checkIndex_df160 : MethodName := ⟨RJ0, "checkIndex", "(II)V"⟩
def RJ1 : String := "java/lang/StringLatin1"
def TJ1 : u_T := fun k => match k with
  | _ => ("", "", "", false)
def tyJ1 : Nat → FieldType := fun k => match k with
  | _ => .int
abbrev wsJ10 : List Cond := u_ws RJ1 TJ1 0
theorem nmJ1 : ∀ a, a < 0 → ∀ b, b < 0 → a ≠ b → (TJ1 a).2.1 ≠ (TJ1 b).2.1 := by decide +kernel
theorem tyJ1_ok : ∀ k, k < 0 → parseFieldDescriptor (TJ1 k).2.2.1 = some (tyJ1 k) := by decide +kernel
abbrev cJ1_charAt_3b067 : ByteArray := prog_18_method_2_code
def yJ1_charAt_3b067 : MethodName := ⟨RJ1, "charAt", "([BI)C"⟩
def RJ2 : String := "java/lang/StringUTF16"
def TJ2 : u_T := fun k => match k with
  | _ => ("", "", "", false)
def tyJ2 : Nat → FieldType := fun k => match k with
  | _ => .int
abbrev wsJ20 : List Cond := u_ws RJ2 TJ2 0
theorem nmJ2 : ∀ a, a < 0 → ∀ b, b < 0 → a ≠ b → (TJ2 a).2.1 ≠ (TJ2 b).2.1 := by decide +kernel
theorem tyJ2_ok : ∀ k, k < 0 → parseFieldDescriptor (TJ2 k).2.2.1 = some (tyJ2 k) := by decide +kernel
abbrev cJ2_getChar_3b067 : ByteArray := prog_19_method_5_code
def yJ2_getChar_3b067 : MethodName := ⟨RJ2, "getChar", "([BI)C"⟩
abbrev cJ2_length_9d52b : ByteArray := prog_19_method_6_code
def yJ2_length_9d52b : MethodName := ⟨RJ2, "length", "([B)I"⟩
abbrev cJ2_charAt_3b067 : ByteArray := prog_19_method_83_code
def yJ2_charAt_3b067 : MethodName := ⟨RJ2, "charAt", "([BI)C"⟩
abbrev cJ2_checkIndex_2214a : ByteArray := prog_19_method_91_code
def yJ2_checkIndex_2214a : MethodName := ⟨RJ2, "checkIndex", "(I[B)V"⟩
def RJ10 : String := "java/lang/System"
def TJ10 : u_T := fun k => match k with
  | _ => ("", "", "", false)
def tyJ10 : Nat → FieldType := fun k => match k with
  | _ => .int
abbrev wsJ100 : List Cond := u_ws RJ10 TJ10 0
theorem nmJ10 : ∀ a, a < 0 → ∀ b, b < 0 → a ≠ b → (TJ10 a).2.1 ≠ (TJ10 b).2.1 := by decide +kernel
theorem tyJ10_ok : ∀ k, k < 0 → parseFieldDescriptor (TJ10 k).2.2.1 = some (tyJ10 k) := by decide +kernel
def RJxfd54e : String := "java/lang/constant/Constable"
def TJxfd54e : u_T := fun k => match k with
  | _ => ("", "", "", false)
def tyJxfd54e : Nat → FieldType := fun k => match k with
  | _ => .int
abbrev wsJxfd54e0 : List Cond := u_ws RJxfd54e TJxfd54e 0
theorem nmJxfd54e : ∀ a, a < 0 → ∀ b, b < 0 → a ≠ b → (TJxfd54e a).2.1 ≠ (TJxfd54e b).2.1 := by decide +kernel
theorem tyJxfd54e_ok : ∀ k, k < 0 → parseFieldDescriptor (TJxfd54e k).2.2.1 = some (tyJxfd54e k) := by decide +kernel
def RJx3cf43 : String := "java/lang/constant/ConstantDesc"
def TJx3cf43 : u_T := fun k => match k with
  | _ => ("", "", "", false)
def tyJx3cf43 : Nat → FieldType := fun k => match k with
  | _ => .int
abbrev wsJx3cf430 : List Cond := u_ws RJx3cf43 TJx3cf43 0
theorem nmJx3cf43 : ∀ a, a < 0 → ∀ b, b < 0 → a ≠ b → (TJx3cf43 a).2.1 ≠ (TJx3cf43 b).2.1 := by decide +kernel
theorem tyJx3cf43_ok : ∀ k, k < 0 → parseFieldDescriptor (TJx3cf43 k).2.2.1 = some (tyJx3cf43 k) := by decide +kernel
def RJ7 : String := "java/util/Arrays"
def TJ7 : u_T := fun k => match k with
  | _ => ("", "", "", false)
def tyJ7 : Nat → FieldType := fun k => match k with
  | _ => .int
abbrev wsJ70 : List Cond := u_ws RJ7 TJ7 0
theorem nmJ7 : ∀ a, a < 0 → ∀ b, b < 0 → a ≠ b → (TJ7 a).2.1 ≠ (TJ7 b).2.1 := by decide +kernel
theorem tyJ7_ok : ∀ k, k < 0 → parseFieldDescriptor (TJ7 k).2.2.1 = some (tyJ7 k) := by decide +kernel
abbrev cJ7_fill_53178 : ByteArray := prog_21_method_103_code
def yJ7_fill_53178 : MethodName := ⟨RJ7, "fill", "([II)V"⟩
def RJ3 : String := "jdk/internal/util/Preconditions"
def TJ3 : u_T := fun k => match k with
  | _ => ("", "", "", false)
def tyJ3 : Nat → FieldType := fun k => match k with
  | _ => .int
abbrev wsJ30 : List Cond := u_ws RJ3 TJ3 0
theorem nmJ3 : ∀ a, a < 0 → ∀ b, b < 0 → a ≠ b → (TJ3 a).2.1 ≠ (TJ3 b).2.1 := by decide +kernel
theorem tyJ3_ok : ∀ k, k < 0 → parseFieldDescriptor (TJ3 k).2.2.1 = some (tyJ3 k) := by decide +kernel
abbrev cJ3_checkIndex_8e157 : ByteArray := prog_22_method_11_code
def yJ3_checkIndex_8e157 : MethodName := ⟨RJ3, "checkIndex", "(IILjava/util/function/BiFunction;)I"⟩
def RL : String := "RunWatchLaw"
abbrev cL_law : ByteArray := code
def yL_law : MethodName := ⟨RL, "law", "([I)Z"⟩
abbrev vwCl : List vw_C := [(RX0, TX0, 3), (RX1, TX1, 11), (RX2, TX2, 7), (RX3, TX3, 4), (RX4, TX4, 7), (RX5, TX5, 5), (RX6, TX6, 3), (RX7, TX7, 2), (RX8, TX8, 5), (RX9, TX9, 7), (RX10, TX10, 5), (RX11, TX11, 11), (RX12, TX12, 35)]

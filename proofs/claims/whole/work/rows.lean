section
-- ===== PART A: goes FIRST, ahead of the names: the tables' words, and 'selects' of the private methods out of them =====
/-- a private method of a class that the tables say can be made, by its rows of tables_1 -/
def lw_okq (q : MethodName × Nat) : Prop := (q.1.cls ≠ "java/lang/invoke/MethodHandle" ∧ q.1.cls ≠ "java/lang/invoke/VarHandle") ∧ Cond.instantiable q.1.cls q.2 ∈ tables_1 ∧ Cond.privateMethod q.1 ∈ tables_1 ∧ Cond.instanceMethod q.1 ∈ tables_1
theorem lw_p0 : lw_okq (⟨"ClosuresThatBounce", "refuse", "(I)I"⟩, 9) := ⟨⟨by decide +kernel, by decide +kernel⟩, List.mem_of_getElem? (i := 20) (by decide +kernel), List.mem_of_getElem? (i := 331) (by decide +kernel), List.mem_of_getElem? (i := 332) (by decide +kernel)⟩
theorem lw_p1 : lw_okq (⟨"ClosuresThatBounce$Letters", "await", "(II)V"⟩, 8) := ⟨⟨by decide +kernel, by decide +kernel⟩, List.mem_of_getElem? (i := 267) (by decide +kernel), List.mem_of_getElem? (i := 358) (by decide +kernel), List.mem_of_getElem? (i := 359) (by decide +kernel)⟩
theorem lw_p2 : lw_okq (⟨"ClosuresThatBounce$Letters", "fits", "(I)Z"⟩, 8) := ⟨⟨by decide +kernel, by decide +kernel⟩, List.mem_of_getElem? (i := 267) (by decide +kernel), List.mem_of_getElem? (i := 362) (by decide +kernel), List.mem_of_getElem? (i := 363) (by decide +kernel)⟩
theorem lw_p3 : lw_okq (⟨"ClosuresThatBounce$Letters", "placeBeyondLimits", "()I"⟩, 8) := ⟨⟨by decide +kernel, by decide +kernel⟩, List.mem_of_getElem? (i := 267) (by decide +kernel), List.mem_of_getElem? (i := 438) (by decide +kernel), List.mem_of_getElem? (i := 439) (by decide +kernel)⟩
theorem lw_p4 : lw_okq (⟨"ClosuresThatBounce$Program", "comesToEnd", "(II)Z"⟩, 8) := ⟨⟨by decide +kernel, by decide +kernel⟩, List.mem_of_getElem? (i := 34) (by decide +kernel), List.mem_of_getElem? (i := 462) (by decide +kernel), List.mem_of_getElem? (i := 463) (by decide +kernel)⟩
theorem lw_p5 : lw_okq (⟨"ClosuresThatBounce", "refuseNumber", "(I)I"⟩, 9) := ⟨⟨by decide +kernel, by decide +kernel⟩, List.mem_of_getElem? (i := 20) (by decide +kernel), List.mem_of_getElem? (i := 497) (by decide +kernel), List.mem_of_getElem? (i := 498) (by decide +kernel)⟩
theorem lw_p6 : lw_okq (⟨"ClosuresThatBounce", "thinkOf", "()LClosuresThatBounce$Ending;"⟩, 9) := ⟨⟨by decide +kernel, by decide +kernel⟩, List.mem_of_getElem? (i := 20) (by decide +kernel), List.mem_of_getElem? (i := 513) (by decide +kernel), List.mem_of_getElem? (i := 514) (by decide +kernel)⟩
theorem lw_p7 : lw_okq (⟨"ClosuresThatBounce$Machine", "start", "()V"⟩, 13) := ⟨⟨by decide +kernel, by decide +kernel⟩, List.mem_of_getElem? (i := 151) (by decide +kernel), List.mem_of_getElem? (i := 539) (by decide +kernel), List.mem_of_getElem? (i := 540) (by decide +kernel)⟩
theorem lw_p8 : lw_okq (⟨"ClosuresThatBounce$Machine", "forgetFault", "()V"⟩, 13) := ⟨⟨by decide +kernel, by decide +kernel⟩, List.mem_of_getElem? (i := 151) (by decide +kernel), List.mem_of_getElem? (i := 555) (by decide +kernel), List.mem_of_getElem? (i := 556) (by decide +kernel)⟩
theorem lw_p9 : lw_okq (⟨"ClosuresThatBounce$Machine", "begin", "(II)V"⟩, 13) := ⟨⟨by decide +kernel, by decide +kernel⟩, List.mem_of_getElem? (i := 151) (by decide +kernel), List.mem_of_getElem? (i := 559) (by decide +kernel), List.mem_of_getElem? (i := 560) (by decide +kernel)⟩
theorem lw_p10 : lw_okq (⟨"ClosuresThatBounce$Machine", "beginExpression", "()V"⟩, 13) := ⟨⟨by decide +kernel, by decide +kernel⟩, List.mem_of_getElem? (i := 151) (by decide +kernel), List.mem_of_getElem? (i := 564) (by decide +kernel), List.mem_of_getElem? (i := 565) (by decide +kernel)⟩
theorem lw_p11 : lw_okq (⟨"ClosuresThatBounce$Machine", "fail", "(I)V"⟩, 13) := ⟨⟨by decide +kernel, by decide +kernel⟩, List.mem_of_getElem? (i := 151) (by decide +kernel), List.mem_of_getElem? (i := 568) (by decide +kernel), List.mem_of_getElem? (i := 569) (by decide +kernel)⟩
theorem lw_p12 : lw_okq (⟨"ClosuresThatBounce$Machine", "give", "(I)V"⟩, 13) := ⟨⟨by decide +kernel, by decide +kernel⟩, List.mem_of_getElem? (i := 151) (by decide +kernel), List.mem_of_getElem? (i := 574) (by decide +kernel), List.mem_of_getElem? (i := 575) (by decide +kernel)⟩
theorem lw_p13 : lw_okq (⟨"ClosuresThatBounce$Machine", "valueOfVariable", "(II)I"⟩, 13) := ⟨⟨by decide +kernel, by decide +kernel⟩, List.mem_of_getElem? (i := 151) (by decide +kernel), List.mem_of_getElem? (i := 583) (by decide +kernel), List.mem_of_getElem? (i := 584) (by decide +kernel)⟩
theorem lw_p14 : lw_okq (⟨"ClosuresThatBounce$Machine", "useValue", "()V"⟩, 13) := ⟨⟨by decide +kernel, by decide +kernel⟩, List.mem_of_getElem? (i := 151) (by decide +kernel), List.mem_of_getElem? (i := 611) (by decide +kernel), List.mem_of_getElem? (i := 612) (by decide +kernel)⟩
theorem lw_p15 : lw_okq (⟨"ClosuresThatBounce$Machine", "useOneOfTwo", "(III)V"⟩, 13) := ⟨⟨by decide +kernel, by decide +kernel⟩, List.mem_of_getElem? (i := 151) (by decide +kernel), List.mem_of_getElem? (i := 632) (by decide +kernel), List.mem_of_getElem? (i := 633) (by decide +kernel)⟩
def lw_privs_1 : List (MethodName × Nat) := [(⟨"ClosuresThatBounce", "refuse", "(I)I"⟩, 9), (⟨"ClosuresThatBounce$Letters", "await", "(II)V"⟩, 8), (⟨"ClosuresThatBounce$Letters", "fits", "(I)Z"⟩, 8), (⟨"ClosuresThatBounce$Letters", "placeBeyondLimits", "()I"⟩, 8), (⟨"ClosuresThatBounce$Program", "comesToEnd", "(II)Z"⟩, 8), (⟨"ClosuresThatBounce", "refuseNumber", "(I)I"⟩, 9), (⟨"ClosuresThatBounce", "thinkOf", "()LClosuresThatBounce$Ending;"⟩, 9), (⟨"ClosuresThatBounce$Machine", "start", "()V"⟩, 13), (⟨"ClosuresThatBounce$Machine", "forgetFault", "()V"⟩, 13), (⟨"ClosuresThatBounce$Machine", "begin", "(II)V"⟩, 13), (⟨"ClosuresThatBounce$Machine", "beginExpression", "()V"⟩, 13), (⟨"ClosuresThatBounce$Machine", "fail", "(I)V"⟩, 13), (⟨"ClosuresThatBounce$Machine", "give", "(I)V"⟩, 13), (⟨"ClosuresThatBounce$Machine", "valueOfVariable", "(II)I"⟩, 13), (⟨"ClosuresThatBounce$Machine", "useValue", "()V"⟩, 13), (⟨"ClosuresThatBounce$Machine", "useOneOfTwo", "(III)V"⟩, 13)]
theorem lw_r1 : ∀ q ∈ lw_privs_1, lw_okq q := List.forall_mem_cons.mpr ⟨lw_p0, List.forall_mem_cons.mpr ⟨lw_p1, List.forall_mem_cons.mpr ⟨lw_p2, List.forall_mem_cons.mpr ⟨lw_p3, List.forall_mem_cons.mpr ⟨lw_p4, List.forall_mem_cons.mpr ⟨lw_p5, List.forall_mem_cons.mpr ⟨lw_p6, List.forall_mem_cons.mpr ⟨lw_p7, List.forall_mem_cons.mpr ⟨lw_p8, List.forall_mem_cons.mpr ⟨lw_p9, List.forall_mem_cons.mpr ⟨lw_p10, List.forall_mem_cons.mpr ⟨lw_p11, List.forall_mem_cons.mpr ⟨lw_p12, List.forall_mem_cons.mpr ⟨lw_p13, List.forall_mem_cons.mpr ⟨lw_p14, List.forall_mem_cons.mpr ⟨lw_p15, fun _ h => absurd h List.not_mem_nil⟩⟩⟩⟩⟩⟩⟩⟩⟩⟩⟩⟩⟩⟩⟩⟩
theorem lw_p16 : lw_okq (⟨"ClosuresThatBounce$Machine", "reckon", "(III)V"⟩, 13) := ⟨⟨by decide +kernel, by decide +kernel⟩, List.mem_of_getElem? (i := 151) (by decide +kernel), List.mem_of_getElem? (i := 648) (by decide +kernel), List.mem_of_getElem? (i := 649) (by decide +kernel)⟩
theorem lw_p17 : lw_okq (⟨"ClosuresThatBounce$Machine", "call", "(III)V"⟩, 13) := ⟨⟨by decide +kernel, by decide +kernel⟩, List.mem_of_getElem? (i := 151) (by decide +kernel), List.mem_of_getElem? (i := 655) (by decide +kernel), List.mem_of_getElem? (i := 656) (by decide +kernel)⟩
theorem lw_p18 : lw_okq (⟨"ClosuresThatBounce$Machine", "useForCall", "(II)V"⟩, 13) := ⟨⟨by decide +kernel, by decide +kernel⟩, List.mem_of_getElem? (i := 151) (by decide +kernel), List.mem_of_getElem? (i := 677) (by decide +kernel), List.mem_of_getElem? (i := 678) (by decide +kernel)⟩
theorem lw_p19 : lw_okq (⟨"ClosuresThatBounce$Machine", "choose", "(II)V"⟩, 13) := ⟨⟨by decide +kernel, by decide +kernel⟩, List.mem_of_getElem? (i := 151) (by decide +kernel), List.mem_of_getElem? (i := 689) (by decide +kernel), List.mem_of_getElem? (i := 690) (by decide +kernel)⟩
theorem lw_p20 : lw_okq (⟨"ClosuresThatBounce$Machine", "beginSecondWithCell", "(III)V"⟩, 13) := ⟨⟨by decide +kernel, by decide +kernel⟩, List.mem_of_getElem? (i := 151) (by decide +kernel), List.mem_of_getElem? (i := 697) (by decide +kernel), List.mem_of_getElem? (i := 698) (by decide +kernel)⟩
theorem lw_p21 : lw_okq (⟨"ClosuresThatBounce$Machine", "store", "(II)V"⟩, 13) := ⟨⟨by decide +kernel, by decide +kernel⟩, List.mem_of_getElem? (i := 151) (by decide +kernel), List.mem_of_getElem? (i := 701) (by decide +kernel), List.mem_of_getElem? (i := 702) (by decide +kernel)⟩
theorem lw_p22 : lw_okq (⟨"ClosuresThatBounce$Machine", "findField", "(II)V"⟩, 13) := ⟨⟨by decide +kernel, by decide +kernel⟩, List.mem_of_getElem? (i := 151) (by decide +kernel), List.mem_of_getElem? (i := 710) (by decide +kernel), List.mem_of_getElem? (i := 711) (by decide +kernel)⟩
theorem lw_p23 : lw_okq (⟨"ClosuresThatBounce$Machine", "failAsTold", "()V"⟩, 13) := ⟨⟨by decide +kernel, by decide +kernel⟩, List.mem_of_getElem? (i := 151) (by decide +kernel), List.mem_of_getElem? (i := 738) (by decide +kernel), List.mem_of_getElem? (i := 739) (by decide +kernel)⟩
theorem lw_p24 : lw_okq (⟨"ClosuresThatBounce$Machine", "passFaultOn", "()V"⟩, 13) := ⟨⟨by decide +kernel, by decide +kernel⟩, List.mem_of_getElem? (i := 151) (by decide +kernel), List.mem_of_getElem? (i := 742) (by decide +kernel), List.mem_of_getElem? (i := 743) (by decide +kernel)⟩
theorem lw_p25 : lw_okq (⟨"ClosuresThatBounce$Machine", "tellEnding", "()V"⟩, 13) := ⟨⟨by decide +kernel, by decide +kernel⟩, List.mem_of_getElem? (i := 151) (by decide +kernel), List.mem_of_getElem? (i := 753) (by decide +kernel), List.mem_of_getElem? (i := 754) (by decide +kernel)⟩
theorem lw_p26 : lw_okq (⟨"ClosuresThatBounce", "thinkWith", "(II)LClosuresThatBounce$Ending;"⟩, 9) := ⟨⟨by decide +kernel, by decide +kernel⟩, List.mem_of_getElem? (i := 20) (by decide +kernel), List.mem_of_getElem? (i := 805) (by decide +kernel), List.mem_of_getElem? (i := 806) (by decide +kernel)⟩
theorem lw_p27 : lw_okq (⟨"ClosuresThatBounce", "refuseLong", "(I)J"⟩, 9) := ⟨⟨by decide +kernel, by decide +kernel⟩, List.mem_of_getElem? (i := 20) (by decide +kernel), List.mem_of_getElem? (i := 845) (by decide +kernel), List.mem_of_getElem? (i := 846) (by decide +kernel)⟩
theorem lw_p28 : lw_okq (⟨"ClosuresThatBounce", "rowTellsEndsFrom", "(I)Z"⟩, 9) := ⟨⟨by decide +kernel, by decide +kernel⟩, List.mem_of_getElem? (i := 20) (by decide +kernel), List.mem_of_getElem? (i := 865) (by decide +kernel), List.mem_of_getElem? (i := 866) (by decide +kernel)⟩
theorem lw_p29 : lw_okq (⟨"ClosuresThatBounceModel", "builds", "()V"⟩, 75) := ⟨⟨by decide +kernel, by decide +kernel⟩, List.mem_of_getElem? (i := 926) (by decide +kernel), List.mem_of_getElem? (i := 932) (by decide +kernel), List.mem_of_getElem? (i := 933) (by decide +kernel)⟩
theorem lw_p30 : lw_okq (⟨"ClosuresThatBounceModel", "buildsOne", "(II)V"⟩, 75) := ⟨⟨by decide +kernel, by decide +kernel⟩, List.mem_of_getElem? (i := 926) (by decide +kernel), List.mem_of_getElem? (i := 936) (by decide +kernel), List.mem_of_getElem? (i := 937) (by decide +kernel)⟩
theorem lw_p31 : lw_okq (⟨"ClosuresThatBounceModel", "pops", "()I"⟩, 75) := ⟨⟨by decide +kernel, by decide +kernel⟩, List.mem_of_getElem? (i := 926) (by decide +kernel), List.mem_of_getElem? (i := 940) (by decide +kernel), List.mem_of_getElem? (i := 941) (by decide +kernel)⟩
def lw_privs_2 : List (MethodName × Nat) := [(⟨"ClosuresThatBounce$Machine", "reckon", "(III)V"⟩, 13), (⟨"ClosuresThatBounce$Machine", "call", "(III)V"⟩, 13), (⟨"ClosuresThatBounce$Machine", "useForCall", "(II)V"⟩, 13), (⟨"ClosuresThatBounce$Machine", "choose", "(II)V"⟩, 13), (⟨"ClosuresThatBounce$Machine", "beginSecondWithCell", "(III)V"⟩, 13), (⟨"ClosuresThatBounce$Machine", "store", "(II)V"⟩, 13), (⟨"ClosuresThatBounce$Machine", "findField", "(II)V"⟩, 13), (⟨"ClosuresThatBounce$Machine", "failAsTold", "()V"⟩, 13), (⟨"ClosuresThatBounce$Machine", "passFaultOn", "()V"⟩, 13), (⟨"ClosuresThatBounce$Machine", "tellEnding", "()V"⟩, 13), (⟨"ClosuresThatBounce", "thinkWith", "(II)LClosuresThatBounce$Ending;"⟩, 9), (⟨"ClosuresThatBounce", "refuseLong", "(I)J"⟩, 9), (⟨"ClosuresThatBounce", "rowTellsEndsFrom", "(I)Z"⟩, 9), (⟨"ClosuresThatBounceModel", "builds", "()V"⟩, 75), (⟨"ClosuresThatBounceModel", "buildsOne", "(II)V"⟩, 75), (⟨"ClosuresThatBounceModel", "pops", "()I"⟩, 75)]
theorem lw_r2 : ∀ q ∈ lw_privs_2, lw_okq q := List.forall_mem_cons.mpr ⟨lw_p16, List.forall_mem_cons.mpr ⟨lw_p17, List.forall_mem_cons.mpr ⟨lw_p18, List.forall_mem_cons.mpr ⟨lw_p19, List.forall_mem_cons.mpr ⟨lw_p20, List.forall_mem_cons.mpr ⟨lw_p21, List.forall_mem_cons.mpr ⟨lw_p22, List.forall_mem_cons.mpr ⟨lw_p23, List.forall_mem_cons.mpr ⟨lw_p24, List.forall_mem_cons.mpr ⟨lw_p25, List.forall_mem_cons.mpr ⟨lw_p26, List.forall_mem_cons.mpr ⟨lw_p27, List.forall_mem_cons.mpr ⟨lw_p28, List.forall_mem_cons.mpr ⟨lw_p29, List.forall_mem_cons.mpr ⟨lw_p30, List.forall_mem_cons.mpr ⟨lw_p31, fun _ h => absurd h List.not_mem_nil⟩⟩⟩⟩⟩⟩⟩⟩⟩⟩⟩⟩⟩⟩⟩⟩
theorem lw_p32 : lw_okq (⟨"ClosuresThatBounceModel", "no", "(I)I"⟩, 75) := ⟨⟨by decide +kernel, by decide +kernel⟩, List.mem_of_getElem? (i := 926) (by decide +kernel), List.mem_of_getElem? (i := 1186) (by decide +kernel), List.mem_of_getElem? (i := 1187) (by decide +kernel)⟩
theorem lw_p33 : lw_okq (⟨"ClosuresThatBounceModel", "reads", "()Z"⟩, 75) := ⟨⟨by decide +kernel, by decide +kernel⟩, List.mem_of_getElem? (i := 926) (by decide +kernel), List.mem_of_getElem? (i := 1194) (by decide +kernel), List.mem_of_getElem? (i := 1195) (by decide +kernel)⟩
theorem lw_p34 : lw_okq (⟨"ClosuresThatBounceModel", "awaits", "(I)V"⟩, 75) := ⟨⟨by decide +kernel, by decide +kernel⟩, List.mem_of_getElem? (i := 926) (by decide +kernel), List.mem_of_getElem? (i := 1198) (by decide +kernel), List.mem_of_getElem? (i := 1199) (by decide +kernel)⟩
theorem lw_p35 : lw_okq (⟨"ClosuresThatBounceModel", "readsOne", "(II)Z"⟩, 75) := ⟨⟨by decide +kernel, by decide +kernel⟩, List.mem_of_getElem? (i := 926) (by decide +kernel), List.mem_of_getElem? (i := 1202) (by decide +kernel), List.mem_of_getElem? (i := 1203) (by decide +kernel)⟩
theorem lw_p36 : lw_okq (⟨"ClosuresThatBounceModel", "awaitsParts", "(I)Z"⟩, 75) := ⟨⟨by decide +kernel, by decide +kernel⟩, List.mem_of_getElem? (i := 926) (by decide +kernel), List.mem_of_getElem? (i := 1206) (by decide +kernel), List.mem_of_getElem? (i := 1207) (by decide +kernel)⟩
theorem lw_p37 : lw_okq (⟨"ClosuresThatBounceModel", "goes", "()V"⟩, 75) := ⟨⟨by decide +kernel, by decide +kernel⟩, List.mem_of_getElem? (i := 926) (by decide +kernel), List.mem_of_getElem? (i := 1214) (by decide +kernel), List.mem_of_getElem? (i := 1215) (by decide +kernel)⟩
theorem lw_p38 : lw_okq (⟨"ClosuresThatBounceModel", "makes", "(III)V"⟩, 75) := ⟨⟨by decide +kernel, by decide +kernel⟩, List.mem_of_getElem? (i := 926) (by decide +kernel), List.mem_of_getElem? (i := 1218) (by decide +kernel), List.mem_of_getElem? (i := 1219) (by decide +kernel)⟩
theorem lw_p39 : lw_okq (⟨"ClosuresThatBounceModel", "begins", "()V"⟩, 75) := ⟨⟨by decide +kernel, by decide +kernel⟩, List.mem_of_getElem? (i := 926) (by decide +kernel), List.mem_of_getElem? (i := 1222) (by decide +kernel), List.mem_of_getElem? (i := 1223) (by decide +kernel)⟩
theorem lw_p40 : lw_okq (⟨"ClosuresThatBounceModel", "fails", "(I)V"⟩, 75) := ⟨⟨by decide +kernel, by decide +kernel⟩, List.mem_of_getElem? (i := 926) (by decide +kernel), List.mem_of_getElem? (i := 1226) (by decide +kernel), List.mem_of_getElem? (i := 1227) (by decide +kernel)⟩
theorem lw_p41 : lw_okq (⟨"ClosuresThatBounceModel", "faultOf", "(II)I"⟩, 75) := ⟨⟨by decide +kernel, by decide +kernel⟩, List.mem_of_getElem? (i := 926) (by decide +kernel), List.mem_of_getElem? (i := 1230) (by decide +kernel), List.mem_of_getElem? (i := 1231) (by decide +kernel)⟩
theorem lw_p42 : lw_okq (⟨"ClosuresThatBounceModel", "valueOf", "(IIII)I"⟩, 75) := ⟨⟨by decide +kernel, by decide +kernel⟩, List.mem_of_getElem? (i := 926) (by decide +kernel), List.mem_of_getElem? (i := 1234) (by decide +kernel), List.mem_of_getElem? (i := 1235) (by decide +kernel)⟩
theorem lw_p43 : lw_okq (⟨"ClosuresThatBounceModel", "has", "(I)V"⟩, 75) := ⟨⟨by decide +kernel, by decide +kernel⟩, List.mem_of_getElem? (i := 926) (by decide +kernel), List.mem_of_getElem? (i := 1238) (by decide +kernel), List.mem_of_getElem? (i := 1239) (by decide +kernel)⟩
theorem lw_p44 : lw_okq (⟨"ClosuresThatBounceModel", "looksUp", "(I)V"⟩, 75) := ⟨⟨by decide +kernel, by decide +kernel⟩, List.mem_of_getElem? (i := 926) (by decide +kernel), List.mem_of_getElem? (i := 1242) (by decide +kernel), List.mem_of_getElem? (i := 1243) (by decide +kernel)⟩
theorem lw_p45 : lw_okq (⟨"ClosuresThatBounceModel", "cellOf", "(II)I"⟩, 75) := ⟨⟨by decide +kernel, by decide +kernel⟩, List.mem_of_getElem? (i := 926) (by decide +kernel), List.mem_of_getElem? (i := 1246) (by decide +kernel), List.mem_of_getElem? (i := 1247) (by decide +kernel)⟩
theorem lw_p46 : lw_okq (⟨"ClosuresThatBounceModel", "waitsFor", "(I)V"⟩, 75) := ⟨⟨by decide +kernel, by decide +kernel⟩, List.mem_of_getElem? (i := 926) (by decide +kernel), List.mem_of_getElem? (i := 1250) (by decide +kernel), List.mem_of_getElem? (i := 1251) (by decide +kernel)⟩
theorem lw_p47 : lw_okq (⟨"ClosuresThatBounceModel", "goesOn", "()V"⟩, 75) := ⟨⟨by decide +kernel, by decide +kernel⟩, List.mem_of_getElem? (i := 926) (by decide +kernel), List.mem_of_getElem? (i := 1254) (by decide +kernel), List.mem_of_getElem? (i := 1255) (by decide +kernel)⟩
def lw_privs_3 : List (MethodName × Nat) := [(⟨"ClosuresThatBounceModel", "no", "(I)I"⟩, 75), (⟨"ClosuresThatBounceModel", "reads", "()Z"⟩, 75), (⟨"ClosuresThatBounceModel", "awaits", "(I)V"⟩, 75), (⟨"ClosuresThatBounceModel", "readsOne", "(II)Z"⟩, 75), (⟨"ClosuresThatBounceModel", "awaitsParts", "(I)Z"⟩, 75), (⟨"ClosuresThatBounceModel", "goes", "()V"⟩, 75), (⟨"ClosuresThatBounceModel", "makes", "(III)V"⟩, 75), (⟨"ClosuresThatBounceModel", "begins", "()V"⟩, 75), (⟨"ClosuresThatBounceModel", "fails", "(I)V"⟩, 75), (⟨"ClosuresThatBounceModel", "faultOf", "(II)I"⟩, 75), (⟨"ClosuresThatBounceModel", "valueOf", "(IIII)I"⟩, 75), (⟨"ClosuresThatBounceModel", "has", "(I)V"⟩, 75), (⟨"ClosuresThatBounceModel", "looksUp", "(I)V"⟩, 75), (⟨"ClosuresThatBounceModel", "cellOf", "(II)I"⟩, 75), (⟨"ClosuresThatBounceModel", "waitsFor", "(I)V"⟩, 75), (⟨"ClosuresThatBounceModel", "goesOn", "()V"⟩, 75)]
theorem lw_r3 : ∀ q ∈ lw_privs_3, lw_okq q := List.forall_mem_cons.mpr ⟨lw_p32, List.forall_mem_cons.mpr ⟨lw_p33, List.forall_mem_cons.mpr ⟨lw_p34, List.forall_mem_cons.mpr ⟨lw_p35, List.forall_mem_cons.mpr ⟨lw_p36, List.forall_mem_cons.mpr ⟨lw_p37, List.forall_mem_cons.mpr ⟨lw_p38, List.forall_mem_cons.mpr ⟨lw_p39, List.forall_mem_cons.mpr ⟨lw_p40, List.forall_mem_cons.mpr ⟨lw_p41, List.forall_mem_cons.mpr ⟨lw_p42, List.forall_mem_cons.mpr ⟨lw_p43, List.forall_mem_cons.mpr ⟨lw_p44, List.forall_mem_cons.mpr ⟨lw_p45, List.forall_mem_cons.mpr ⟨lw_p46, List.forall_mem_cons.mpr ⟨lw_p47, fun _ h => absurd h List.not_mem_nil⟩⟩⟩⟩⟩⟩⟩⟩⟩⟩⟩⟩⟩⟩⟩⟩
theorem lw_p48 : lw_okq (⟨"ClosuresThatBounceModel", "isFirstOfTwo", "(II)Z"⟩, 75) := ⟨⟨by decide +kernel, by decide +kernel⟩, List.mem_of_getElem? (i := 926) (by decide +kernel), List.mem_of_getElem? (i := 1258) (by decide +kernel), List.mem_of_getElem? (i := 1259) (by decide +kernel)⟩
theorem lw_p49 : lw_okq (⟨"ClosuresThatBounceModel", "keepsFirst", "(II)V"⟩, 75) := ⟨⟨by decide +kernel, by decide +kernel⟩, List.mem_of_getElem? (i := 926) (by decide +kernel), List.mem_of_getElem? (i := 1262) (by decide +kernel), List.mem_of_getElem? (i := 1263) (by decide +kernel)⟩
theorem lw_p50 : lw_okq (⟨"ClosuresThatBounceModel", "goesOnOf", "(II)V"⟩, 75) := ⟨⟨by decide +kernel, by decide +kernel⟩, List.mem_of_getElem? (i := 926) (by decide +kernel), List.mem_of_getElem? (i := 1266) (by decide +kernel), List.mem_of_getElem? (i := 1267) (by decide +kernel)⟩
theorem lw_p51 : lw_okq (⟨"ClosuresThatBounceModel", "reckons", "(III)V"⟩, 75) := ⟨⟨by decide +kernel, by decide +kernel⟩, List.mem_of_getElem? (i := 926) (by decide +kernel), List.mem_of_getElem? (i := 1270) (by decide +kernel), List.mem_of_getElem? (i := 1271) (by decide +kernel)⟩
theorem lw_p52 : lw_okq (⟨"ClosuresThatBounceModel", "chooses", "(II)V"⟩, 75) := ⟨⟨by decide +kernel, by decide +kernel⟩, List.mem_of_getElem? (i := 926) (by decide +kernel), List.mem_of_getElem? (i := 1274) (by decide +kernel), List.mem_of_getElem? (i := 1275) (by decide +kernel)⟩
theorem lw_p53 : lw_okq (⟨"ClosuresThatBounceModel", "frameWith", "(III)I"⟩, 75) := ⟨⟨by decide +kernel, by decide +kernel⟩, List.mem_of_getElem? (i := 926) (by decide +kernel), List.mem_of_getElem? (i := 1278) (by decide +kernel), List.mem_of_getElem? (i := 1279) (by decide +kernel)⟩
theorem lw_p54 : lw_okq (⟨"ClosuresThatBounceModel", "puts", "(II)V"⟩, 75) := ⟨⟨by decide +kernel, by decide +kernel⟩, List.mem_of_getElem? (i := 926) (by decide +kernel), List.mem_of_getElem? (i := 1282) (by decide +kernel), List.mem_of_getElem? (i := 1283) (by decide +kernel)⟩
theorem lw_p55 : lw_okq (⟨"ClosuresThatBounceModel", "calls", "(III)V"⟩, 75) := ⟨⟨by decide +kernel, by decide +kernel⟩, List.mem_of_getElem? (i := 926) (by decide +kernel), List.mem_of_getElem? (i := 1286) (by decide +kernel), List.mem_of_getElem? (i := 1287) (by decide +kernel)⟩
theorem lw_p56 : lw_okq (⟨"ClosuresThatBounceModel", "findsField", "(I)V"⟩, 75) := ⟨⟨by decide +kernel, by decide +kernel⟩, List.mem_of_getElem? (i := 926) (by decide +kernel), List.mem_of_getElem? (i := 1290) (by decide +kernel), List.mem_of_getElem? (i := 1291) (by decide +kernel)⟩
theorem lw_p57 : lw_okq (⟨"ClosuresThatBounceModel", "passesCache", "(II)V"⟩, 75) := ⟨⟨by decide +kernel, by decide +kernel⟩, List.mem_of_getElem? (i := 926) (by decide +kernel), List.mem_of_getElem? (i := 1297) (by decide +kernel), List.mem_of_getElem? (i := 1298) (by decide +kernel)⟩
theorem lw_p58 : lw_okq (⟨"ClosuresThatBounceModel", "throwsNow", "()V"⟩, 75) := ⟨⟨by decide +kernel, by decide +kernel⟩, List.mem_of_getElem? (i := 926) (by decide +kernel), List.mem_of_getElem? (i := 1304) (by decide +kernel), List.mem_of_getElem? (i := 1305) (by decide +kernel)⟩
theorem lw_p59 : lw_okq (⟨"ClosuresThatBounceModel", "falls", "()V"⟩, 75) := ⟨⟨by decide +kernel, by decide +kernel⟩, List.mem_of_getElem? (i := 926) (by decide +kernel), List.mem_of_getElem? (i := 1308) (by decide +kernel), List.mem_of_getElem? (i := 1309) (by decide +kernel)⟩
theorem lw_p60 : lw_okq (⟨"ClosuresThatBounceModel", "tellsLast", "()V"⟩, 75) := ⟨⟨by decide +kernel, by decide +kernel⟩, List.mem_of_getElem? (i := 926) (by decide +kernel), List.mem_of_getElem? (i := 1312) (by decide +kernel), List.mem_of_getElem? (i := 1313) (by decide +kernel)⟩
theorem lw_p61 : lw_okq (⟨"ClosuresThatBounceModel", "howNow", "()I"⟩, 75) := ⟨⟨by decide +kernel, by decide +kernel⟩, List.mem_of_getElem? (i := 926) (by decide +kernel), List.mem_of_getElem? (i := 1316) (by decide +kernel), List.mem_of_getElem? (i := 1317) (by decide +kernel)⟩
theorem lw_p62 : lw_okq (⟨"ClosuresThatBounceModel", "numberNow", "()I"⟩, 75) := ⟨⟨by decide +kernel, by decide +kernel⟩, List.mem_of_getElem? (i := 926) (by decide +kernel), List.mem_of_getElem? (i := 1320) (by decide +kernel), List.mem_of_getElem? (i := 1321) (by decide +kernel)⟩
theorem lw_p63 : lw_okq (⟨"ClosuresThatBounceModel", "causesNow", "()I"⟩, 75) := ⟨⟨by decide +kernel, by decide +kernel⟩, List.mem_of_getElem? (i := 926) (by decide +kernel), List.mem_of_getElem? (i := 1324) (by decide +kernel), List.mem_of_getElem? (i := 1325) (by decide +kernel)⟩
def lw_privs_4 : List (MethodName × Nat) := [(⟨"ClosuresThatBounceModel", "isFirstOfTwo", "(II)Z"⟩, 75), (⟨"ClosuresThatBounceModel", "keepsFirst", "(II)V"⟩, 75), (⟨"ClosuresThatBounceModel", "goesOnOf", "(II)V"⟩, 75), (⟨"ClosuresThatBounceModel", "reckons", "(III)V"⟩, 75), (⟨"ClosuresThatBounceModel", "chooses", "(II)V"⟩, 75), (⟨"ClosuresThatBounceModel", "frameWith", "(III)I"⟩, 75), (⟨"ClosuresThatBounceModel", "puts", "(II)V"⟩, 75), (⟨"ClosuresThatBounceModel", "calls", "(III)V"⟩, 75), (⟨"ClosuresThatBounceModel", "findsField", "(I)V"⟩, 75), (⟨"ClosuresThatBounceModel", "passesCache", "(II)V"⟩, 75), (⟨"ClosuresThatBounceModel", "throwsNow", "()V"⟩, 75), (⟨"ClosuresThatBounceModel", "falls", "()V"⟩, 75), (⟨"ClosuresThatBounceModel", "tellsLast", "()V"⟩, 75), (⟨"ClosuresThatBounceModel", "howNow", "()I"⟩, 75), (⟨"ClosuresThatBounceModel", "numberNow", "()I"⟩, 75), (⟨"ClosuresThatBounceModel", "causesNow", "()I"⟩, 75)]
theorem lw_r4 : ∀ q ∈ lw_privs_4, lw_okq q := List.forall_mem_cons.mpr ⟨lw_p48, List.forall_mem_cons.mpr ⟨lw_p49, List.forall_mem_cons.mpr ⟨lw_p50, List.forall_mem_cons.mpr ⟨lw_p51, List.forall_mem_cons.mpr ⟨lw_p52, List.forall_mem_cons.mpr ⟨lw_p53, List.forall_mem_cons.mpr ⟨lw_p54, List.forall_mem_cons.mpr ⟨lw_p55, List.forall_mem_cons.mpr ⟨lw_p56, List.forall_mem_cons.mpr ⟨lw_p57, List.forall_mem_cons.mpr ⟨lw_p58, List.forall_mem_cons.mpr ⟨lw_p59, List.forall_mem_cons.mpr ⟨lw_p60, List.forall_mem_cons.mpr ⟨lw_p61, List.forall_mem_cons.mpr ⟨lw_p62, List.forall_mem_cons.mpr ⟨lw_p63, fun _ h => absurd h List.not_mem_nil⟩⟩⟩⟩⟩⟩⟩⟩⟩⟩⟩⟩⟩⟩⟩⟩
theorem lw_p64 : lw_okq (⟨"ClosuresThatBounceModel", "lower", "(I)I"⟩, 75) := ⟨⟨by decide +kernel, by decide +kernel⟩, List.mem_of_getElem? (i := 926) (by decide +kernel), List.mem_of_getElem? (i := 1332) (by decide +kernel), List.mem_of_getElem? (i := 1333) (by decide +kernel)⟩
theorem lw_p65 : lw_okq (⟨"ClosuresThatBounceModel", "stateOf", "(I)I"⟩, 75) := ⟨⟨by decide +kernel, by decide +kernel⟩, List.mem_of_getElem? (i := 926) (by decide +kernel), List.mem_of_getElem? (i := 1356) (by decide +kernel), List.mem_of_getElem? (i := 1357) (by decide +kernel)⟩
theorem lw_p66 : lw_okq (⟨"ClosuresThatBounceModel", "goesWith", "(II)V"⟩, 75) := ⟨⟨by decide +kernel, by decide +kernel⟩, List.mem_of_getElem? (i := 926) (by decide +kernel), List.mem_of_getElem? (i := 1364) (by decide +kernel), List.mem_of_getElem? (i := 1365) (by decide +kernel)⟩
theorem lw_p67 : lw_okq (⟨"ClosuresThatBounceModel", "minds", "()V"⟩, 75) := ⟨⟨by decide +kernel, by decide +kernel⟩, List.mem_of_getElem? (i := 926) (by decide +kernel), List.mem_of_getElem? (i := 1368) (by decide +kernel), List.mem_of_getElem? (i := 1369) (by decide +kernel)⟩
theorem lw_p68 : lw_okq (⟨"ClosuresThatBounceModel", "forgets", "()V"⟩, 75) := ⟨⟨by decide +kernel, by decide +kernel⟩, List.mem_of_getElem? (i := 926) (by decide +kernel), List.mem_of_getElem? (i := 1372) (by decide +kernel), List.mem_of_getElem? (i := 1373) (by decide +kernel)⟩
theorem lw_p69 : lw_okq (⟨"ClosuresThatBounceModel", "endedNow", "(I)I"⟩, 75) := ⟨⟨by decide +kernel, by decide +kernel⟩, List.mem_of_getElem? (i := 926) (by decide +kernel), List.mem_of_getElem? (i := 1376) (by decide +kernel), List.mem_of_getElem? (i := 1377) (by decide +kernel)⟩
theorem lw_p70 : lw_okq (⟨"ClosuresThatBounceModel", "lowestOf", "(I)J"⟩, 75) := ⟨⟨by decide +kernel, by decide +kernel⟩, List.mem_of_getElem? (i := 926) (by decide +kernel), List.mem_of_getElem? (i := 1409) (by decide +kernel), List.mem_of_getElem? (i := 1410) (by decide +kernel)⟩
theorem lw_p71 : lw_okq (⟨"ClosuresThatBounceModel", "endsSo", "(II)Z"⟩, 75) := ⟨⟨by decide +kernel, by decide +kernel⟩, List.mem_of_getElem? (i := 926) (by decide +kernel), List.mem_of_getElem? (i := 1429) (by decide +kernel), List.mem_of_getElem? (i := 1430) (by decide +kernel)⟩
theorem lw_p72 : lw_okq (⟨"ClosuresThatBounceModel", "draw", "(I)I"⟩, 75) := ⟨⟨by decide +kernel, by decide +kernel⟩, List.mem_of_getElem? (i := 926) (by decide +kernel), List.mem_of_getElem? (i := 1449) (by decide +kernel), List.mem_of_getElem? (i := 1450) (by decide +kernel)⟩
theorem lw_p73 : lw_okq (⟨"ClosuresThatBounceModel", "passesAll", "(Z)V"⟩, 75) := ⟨⟨by decide +kernel, by decide +kernel⟩, List.mem_of_getElem? (i := 926) (by decide +kernel), List.mem_of_getElem? (i := 1460) (by decide +kernel), List.mem_of_getElem? (i := 1461) (by decide +kernel)⟩
theorem lw_p74 : lw_okq (⟨"ClosuresThatBounceModel", "passes", "([I)V"⟩, 75) := ⟨⟨by decide +kernel, by decide +kernel⟩, List.mem_of_getElem? (i := 926) (by decide +kernel), List.mem_of_getElem? (i := 1464) (by decide +kernel), List.mem_of_getElem? (i := 1465) (by decide +kernel)⟩
theorem lw_p75 : lw_okq (⟨"ClosuresThatBounceModel", "passOne", "(I)I"⟩, 75) := ⟨⟨by decide +kernel, by decide +kernel⟩, List.mem_of_getElem? (i := 926) (by decide +kernel), List.mem_of_getElem? (i := 1468) (by decide +kernel), List.mem_of_getElem? (i := 1469) (by decide +kernel)⟩
def lw_privs_5 : List (MethodName × Nat) := [(⟨"ClosuresThatBounceModel", "lower", "(I)I"⟩, 75), (⟨"ClosuresThatBounceModel", "stateOf", "(I)I"⟩, 75), (⟨"ClosuresThatBounceModel", "goesWith", "(II)V"⟩, 75), (⟨"ClosuresThatBounceModel", "minds", "()V"⟩, 75), (⟨"ClosuresThatBounceModel", "forgets", "()V"⟩, 75), (⟨"ClosuresThatBounceModel", "endedNow", "(I)I"⟩, 75), (⟨"ClosuresThatBounceModel", "lowestOf", "(I)J"⟩, 75), (⟨"ClosuresThatBounceModel", "endsSo", "(II)Z"⟩, 75), (⟨"ClosuresThatBounceModel", "draw", "(I)I"⟩, 75), (⟨"ClosuresThatBounceModel", "passesAll", "(Z)V"⟩, 75), (⟨"ClosuresThatBounceModel", "passes", "([I)V"⟩, 75), (⟨"ClosuresThatBounceModel", "passOne", "(I)I"⟩, 75)]
theorem lw_r5 : ∀ q ∈ lw_privs_5, lw_okq q := List.forall_mem_cons.mpr ⟨lw_p64, List.forall_mem_cons.mpr ⟨lw_p65, List.forall_mem_cons.mpr ⟨lw_p66, List.forall_mem_cons.mpr ⟨lw_p67, List.forall_mem_cons.mpr ⟨lw_p68, List.forall_mem_cons.mpr ⟨lw_p69, List.forall_mem_cons.mpr ⟨lw_p70, List.forall_mem_cons.mpr ⟨lw_p71, List.forall_mem_cons.mpr ⟨lw_p72, List.forall_mem_cons.mpr ⟨lw_p73, List.forall_mem_cons.mpr ⟨lw_p74, List.forall_mem_cons.mpr ⟨lw_p75, fun _ h => absurd h List.not_mem_nil⟩⟩⟩⟩⟩⟩⟩⟩⟩⟩⟩⟩
def lw_privs : List (MethodName × Nat) := lw_privs_1 ++ (lw_privs_2 ++ (lw_privs_3 ++ (lw_privs_4 ++ (lw_privs_5))))
def lw_tbl : List Cond := k2_sels lw_privs ++ tables_1
theorem lw_privs_ok : ∀ q ∈ lw_privs, lw_okq q := by
  show ∀ q ∈ lw_privs_1 ++ (lw_privs_2 ++ (lw_privs_3 ++ (lw_privs_4 ++ (lw_privs_5)))), lw_okq q
  exact List.forall_mem_append.mpr ⟨lw_r1, List.forall_mem_append.mpr ⟨lw_r2, List.forall_mem_append.mpr ⟨lw_r3, List.forall_mem_append.mpr ⟨lw_r4, lw_r5⟩⟩⟩⟩
end
section
/-! names: classes, fields, methods (printed by TURN) -/
def RX0 : String := "ClosuresThatBounce$Caches"
def TX0 : u_T := fun k => match k with
  | 0 => ("ClosuresThatBounce$Caches", "shapes", "[I", true)
  | 1 => ("ClosuresThatBounce$Caches", "hits", "[I", true)
  | _ => ("ClosuresThatBounce$Caches", "misses", "[I", true)
def tyX0 : Nat → FieldType := fun k => match k with
  | 0 => .array .int
  | 1 => .array .int
  | _ => .array .int
abbrev wsX00 : List Cond := u_ws RX0 TX0 3
theorem nmX0 : ∀ a, a < 3 → ∀ b, b < 3 → a ≠ b → (TX0 a).2.1 ≠ (TX0 b).2.1 := by decide +kernel
theorem tyX0_ok : ∀ k, k < 3 → parseFieldDescriptor (TX0 k).2.2.1 = some (tyX0 k) := by decide +kernel
abbrev cX0_init : ByteArray := prog_2_method_1_code
def yX0_init : MethodName := ⟨RX0, "<init>", "()V"⟩
abbrev cX0_see : ByteArray := prog_2_method_2_code
def yX0_see : MethodName := ⟨RX0, "see", "(II)V"⟩
abbrev cX0_stateOf : ByteArray := prog_2_method_3_code
def yX0_stateOf : MethodName := ⟨RX0, "stateOf", "(I)I"⟩
abbrev cX0_tell : ByteArray := prog_2_method_4_code
def yX0_tell : MethodName := ⟨RX0, "tell", "(II)I"⟩
abbrev cX0_allHits : ByteArray := prog_2_method_5_code
def yX0_allHits : MethodName := ⟨RX0, "allHits", "()I"⟩
abbrev cX0_allMisses : ByteArray := prog_2_method_6_code
def yX0_allMisses : MethodName := ⟨RX0, "allMisses", "()I"⟩
abbrev cX0_sumOf : ByteArray := prog_2_method_7_code
def yX0_sumOf : MethodName := ⟨RX0, "sumOf", "([I)I"⟩
abbrev cX0_forget : ByteArray := prog_2_method_8_code
def yX0_forget : MethodName := ⟨RX0, "forget", "()V"⟩
abbrev cX0_copyFrom : ByteArray := prog_2_method_9_code
def yX0_copyFrom : MethodName := ⟨RX0, "copyFrom", "(LClosuresThatBounce$Caches;)V"⟩
def RX1 : String := "ClosuresThatBounce$Cells"
def TX1 : u_T := fun k => match k with
  | 0 => ("ClosuresThatBounce$Cells", "variables", "[I", true)
  | 1 => ("ClosuresThatBounce$Cells", "values", "[I", true)
  | 2 => ("ClosuresThatBounce$Cells", "outer", "[I", true)
  | _ => ("ClosuresThatBounce$Cells", "made", "I", false)
def tyX1 : Nat → FieldType := fun k => match k with
  | 0 => .array .int
  | 1 => .array .int
  | 2 => .array .int
  | _ => .int
abbrev wsX10 : List Cond := u_ws RX1 TX1 4
theorem nmX1 : ∀ a, a < 4 → ∀ b, b < 4 → a ≠ b → (TX1 a).2.1 ≠ (TX1 b).2.1 := by decide +kernel
theorem tyX1_ok : ∀ k, k < 4 → parseFieldDescriptor (TX1 k).2.2.1 = some (tyX1 k) := by decide +kernel
abbrev cX1_init : ByteArray := prog_3_method_1_code
def yX1_init : MethodName := ⟨RX1, "<init>", "()V"⟩
abbrev cX1_forget : ByteArray := prog_3_method_2_code
def yX1_forget : MethodName := ⟨RX1, "forget", "()V"⟩
abbrev cX1_add : ByteArray := prog_3_method_3_code
def yX1_add : MethodName := ⟨RX1, "add", "(III)I"⟩
abbrev cX1_innermost : ByteArray := prog_3_method_4_code
def yX1_innermost : MethodName := ⟨RX1, "innermost", "(II)I"⟩
abbrev cX1_valueIn : ByteArray := prog_3_method_5_code
def yX1_valueIn : MethodName := ⟨RX1, "valueIn", "(I)I"⟩
abbrev cX1_change : ByteArray := prog_3_method_6_code
def yX1_change : MethodName := ⟨RX1, "change", "(II)V"⟩
def RX2 : String := "ClosuresThatBounce$Ending"
def TX2 : u_T := fun k => match k with
  | 0 => ("ClosuresThatBounce$Ending", "how", "I", false)
  | 1 => ("ClosuresThatBounce$Ending", "told", "I", false)
  | 2 => ("ClosuresThatBounce$Ending", "steps", "I", false)
  | 3 => ("ClosuresThatBounce$Ending", "greatestDepth", "I", false)
  | 4 => ("ClosuresThatBounce$Ending", "bounces", "I", false)
  | 5 => ("ClosuresThatBounce$Ending", "causes", "I", false)
  | _ => ("ClosuresThatBounce$Ending", "lastCode", "I", false)
def tyX2 : Nat → FieldType := fun k => match k with
  | 0 => .int
  | 1 => .int
  | 2 => .int
  | 3 => .int
  | 4 => .int
  | 5 => .int
  | _ => .int
abbrev wsX20 : List Cond := u_ws RX2 TX2 7
theorem nmX2 : ∀ a, a < 7 → ∀ b, b < 7 → a ≠ b → (TX2 a).2.1 ≠ (TX2 b).2.1 := by decide +kernel
theorem tyX2_ok : ∀ k, k < 7 → parseFieldDescriptor (TX2 k).2.2.1 = some (tyX2 k) := by decide +kernel
abbrev cX2_init : ByteArray := prog_4_method_1_code
def yX2_init : MethodName := ⟨RX2, "<init>", "()V"⟩
abbrev cX2_tell : ByteArray := prog_4_method_2_code
def yX2_tell : MethodName := ⟨RX2, "tell", "(I)I"⟩
abbrev cX2_codeAt : ByteArray := prog_4_method_3_code
def yX2_codeAt : MethodName := ⟨RX2, "codeAt", "(I)I"⟩
abbrev cX2_isNumber : ByteArray := prog_4_method_4_code
def yX2_isNumber : MethodName := ⟨RX2, "isNumber", "(I)Z"⟩
abbrev cX2_copyFrom : ByteArray := prog_4_method_5_code
def yX2_copyFrom : MethodName := ⟨RX2, "copyFrom", "(LClosuresThatBounce$Ending;)V"⟩
def RX3 : String := "ClosuresThatBounce$Letters"
def TX3 : u_T := fun k => match k with
  | 0 => ("ClosuresThatBounce$Letters", "told", "[I", true)
  | 1 => ("ClosuresThatBounce$Letters", "owners", "[I", true)
  | 2 => ("ClosuresThatBounce$Letters", "slots", "[I", true)
  | 3 => ("ClosuresThatBounce$Letters", "comingOwners", "[I", true)
  | 4 => ("ClosuresThatBounce$Letters", "comingSlots", "[I", true)
  | 5 => ("ClosuresThatBounce$Letters", "coming", "I", false)
  | 6 => ("ClosuresThatBounce$Letters", "expressions", "I", false)
  | _ => ("ClosuresThatBounce$Letters", "length", "I", false)
def tyX3 : Nat → FieldType := fun k => match k with
  | 0 => .array .int
  | 1 => .array .int
  | 2 => .array .int
  | 3 => .array .int
  | 4 => .array .int
  | 5 => .int
  | 6 => .int
  | _ => .int
abbrev wsX30 : List Cond := u_ws RX3 TX3 8
theorem nmX3 : ∀ a, a < 8 → ∀ b, b < 8 → a ≠ b → (TX3 a).2.1 ≠ (TX3 b).2.1 := by decide +kernel
theorem tyX3_ok : ∀ k, k < 8 → parseFieldDescriptor (TX3 k).2.2.1 = some (tyX3 k) := by decide +kernel
abbrev cX3_init : ByteArray := prog_5_method_1_code
def yX3_init : MethodName := ⟨RX3, "<init>", "()V"⟩
abbrev cX3_isFull : ByteArray := prog_5_method_2_code
def yX3_isFull : MethodName := ⟨RX3, "isFull", "()Z"⟩
abbrev cX3_add : ByteArray := prog_5_method_3_code
def yX3_add : MethodName := ⟨RX3, "add", "(I)I"⟩
abbrev cX3_forget : ByteArray := prog_5_method_4_code
def yX3_forget : MethodName := ⟨RX3, "forget", "()V"⟩
abbrev cX3_findFault : ByteArray := prog_5_method_5_code
def yX3_findFault : MethodName := ⟨RX3, "findFault", "()I"⟩
abbrev cX3_writeInto : ByteArray := prog_5_method_6_code
def yX3_writeInto : MethodName := ⟨RX3, "writeInto", "(LClosuresThatBounce$Program;)V"⟩
abbrev cX3_fits : ByteArray := prog_5_method_7_code
def yX3_fits : MethodName := ⟨RX3, "fits", "(I)Z"⟩
abbrev cX3_await : ByteArray := prog_5_method_8_code
def yX3_await : MethodName := ⟨RX3, "await", "(II)V"⟩
abbrev cX3_placeBeyondLimits : ByteArray := prog_5_method_9_code
def yX3_placeBeyondLimits : MethodName := ⟨RX3, "placeBeyondLimits", "()I"⟩
abbrev cX3_isName : ByteArray := prog_5_method_10_code
def yX3_isName : MethodName := ⟨RX3, "isName", "(I)Z"⟩
abbrev cX3_isDigit : ByteArray := prog_5_method_11_code
def yX3_isDigit : MethodName := ⟨RX3, "isDigit", "(I)Z"⟩
abbrev cX3_isSite : ByteArray := prog_5_method_12_code
def yX3_isSite : MethodName := ⟨RX3, "isSite", "(I)Z"⟩
abbrev cX3_isSign : ByteArray := prog_5_method_13_code
def yX3_isSign : MethodName := ⟨RX3, "isSign", "(I)Z"⟩
abbrev cX3_partsOf : ByteArray := prog_5_method_14_code
def yX3_partsOf : MethodName := ⟨RX3, "partsOf", "(I)Ljava/lang/String;"⟩
def RX4 : String := "ClosuresThatBounce$Machine"
def TX4 : u_T := fun k => match k with
  | 0 => ("ClosuresThatBounce$Machine", "globals", "[I", true)
  | 1 => ("ClosuresThatBounce$Machine", "caches", "LClosuresThatBounce$Caches;", true)
  | 2 => ("ClosuresThatBounce$Machine", "ending", "LClosuresThatBounce$Ending;", true)
  | 3 => ("ClosuresThatBounce$Machine", "cells", "LClosuresThatBounce$Cells;", true)
  | 4 => ("ClosuresThatBounce$Machine", "things", "LClosuresThatBounce$Things;", true)
  | 5 => ("ClosuresThatBounce$Machine", "waiting", "LClosuresThatBounce$Waiting;", true)
  | 6 => ("ClosuresThatBounce$Machine", "program", "LClosuresThatBounce$Program;", false)
  | 7 => ("ClosuresThatBounce$Machine", "mode", "I", false)
  | 8 => ("ClosuresThatBounce$Machine", "expression", "I", false)
  | 9 => ("ClosuresThatBounce$Machine", "frame", "I", false)
  | 10 => ("ClosuresThatBounce$Machine", "value", "I", false)
  | 11 => ("ClosuresThatBounce$Machine", "depth", "I", false)
  | _ => ("ClosuresThatBounce$Machine", "failed", "Z", false)
def tyX4 : Nat → FieldType := fun k => match k with
  | 0 => .array .int
  | 1 => .object "ClosuresThatBounce$Caches"
  | 2 => .object "ClosuresThatBounce$Ending"
  | 3 => .object "ClosuresThatBounce$Cells"
  | 4 => .object "ClosuresThatBounce$Things"
  | 5 => .object "ClosuresThatBounce$Waiting"
  | 6 => .object "ClosuresThatBounce$Program"
  | 7 => .int
  | 8 => .int
  | 9 => .int
  | 10 => .int
  | 11 => .int
  | _ => .boolean
abbrev wsX40 : List Cond := u_ws RX4 TX4 13
theorem nmX4 : ∀ a, a < 13 → ∀ b, b < 13 → a ≠ b → (TX4 a).2.1 ≠ (TX4 b).2.1 := by decide +kernel
theorem tyX4_ok : ∀ k, k < 13 → parseFieldDescriptor (TX4 k).2.2.1 = some (tyX4 k) := by decide +kernel
abbrev cX4_init : ByteArray := prog_6_method_1_code
def yX4_init : MethodName := ⟨RX4, "<init>", "()V"⟩
abbrev cX4_takeUp : ByteArray := prog_6_method_2_code
def yX4_takeUp : MethodName := ⟨RX4, "takeUp", "(LClosuresThatBounce$Situation;)V"⟩
abbrev cX4_perform : ByteArray := prog_6_method_3_code
def yX4_perform : MethodName := ⟨RX4, "perform", "()LClosuresThatBounce$Ending;"⟩
abbrev cX4_start : ByteArray := prog_6_method_4_code
def yX4_start : MethodName := ⟨RX4, "start", "()V"⟩
abbrev cX4_tellEnding : ByteArray := prog_6_method_5_code
def yX4_tellEnding : MethodName := ⟨RX4, "tellEnding", "()V"⟩
abbrev cX4_begin : ByteArray := prog_6_method_6_code
def yX4_begin : MethodName := ⟨RX4, "begin", "(II)V"⟩
abbrev cX4_give : ByteArray := prog_6_method_7_code
def yX4_give : MethodName := ⟨RX4, "give", "(I)V"⟩
abbrev cX4_fail : ByteArray := prog_6_method_8_code
def yX4_fail : MethodName := ⟨RX4, "fail", "(I)V"⟩
abbrev cX4_beginExpression : ByteArray := prog_6_method_9_code
def yX4_beginExpression : MethodName := ⟨RX4, "beginExpression", "()V"⟩
abbrev cX4_useValue : ByteArray := prog_6_method_10_code
def yX4_useValue : MethodName := ⟨RX4, "useValue", "()V"⟩
abbrev cX4_passFaultOn : ByteArray := prog_6_method_11_code
def yX4_passFaultOn : MethodName := ⟨RX4, "passFaultOn", "()V"⟩
abbrev cX4_isCaught : ByteArray := prog_6_method_12_code
def yX4_isCaught : MethodName := ⟨RX4, "isCaught", "(I)Z"⟩
abbrev cX4_forgetFault : ByteArray := prog_6_method_13_code
def yX4_forgetFault : MethodName := ⟨RX4, "forgetFault", "()V"⟩
abbrev cX4_beginSecondWithCell : ByteArray := prog_6_method_14_code
def yX4_beginSecondWithCell : MethodName := ⟨RX4, "beginSecondWithCell", "(III)V"⟩
abbrev cX4_useOneOfTwo : ByteArray := prog_6_method_15_code
def yX4_useOneOfTwo : MethodName := ⟨RX4, "useOneOfTwo", "(III)V"⟩
abbrev cX4_reckon : ByteArray := prog_6_method_16_code
def yX4_reckon : MethodName := ⟨RX4, "reckon", "(III)V"⟩
abbrev cX4_choose : ByteArray := prog_6_method_17_code
def yX4_choose : MethodName := ⟨RX4, "choose", "(II)V"⟩
abbrev cX4_useForCall : ByteArray := prog_6_method_18_code
def yX4_useForCall : MethodName := ⟨RX4, "useForCall", "(II)V"⟩
abbrev cX4_call : ByteArray := prog_6_method_19_code
def yX4_call : MethodName := ⟨RX4, "call", "(III)V"⟩
abbrev cX4_valueOfVariable : ByteArray := prog_6_method_20_code
def yX4_valueOfVariable : MethodName := ⟨RX4, "valueOfVariable", "(II)I"⟩
abbrev cX4_store : ByteArray := prog_6_method_21_code
def yX4_store : MethodName := ⟨RX4, "store", "(II)V"⟩
abbrev cX4_findField : ByteArray := prog_6_method_22_code
def yX4_findField : MethodName := ⟨RX4, "findField", "(II)V"⟩
abbrev cX4_failAsTold : ByteArray := prog_6_method_23_code
def yX4_failAsTold : MethodName := ⟨RX4, "failAsTold", "()V"⟩
def RX5 : String := "ClosuresThatBounce$Program"
def TX5 : u_T := fun k => match k with
  | 0 => ("ClosuresThatBounce$Program", "signs", "[I", true)
  | 1 => ("ClosuresThatBounce$Program", "variables", "[I", true)
  | 2 => ("ClosuresThatBounce$Program", "seconds", "[I", true)
  | 3 => ("ClosuresThatBounce$Program", "thirds", "[I", true)
  | 4 => ("ClosuresThatBounce$Program", "sites", "[I", true)
  | 5 => ("ClosuresThatBounce$Program", "ends", "[I", true)
  | 6 => ("ClosuresThatBounce$Program", "size", "I", false)
  | _ => ("ClosuresThatBounce$Program", "siteCount", "I", false)
def tyX5 : Nat → FieldType := fun k => match k with
  | 0 => .array .int
  | 1 => .array .int
  | 2 => .array .int
  | 3 => .array .int
  | 4 => .array .int
  | 5 => .array .int
  | 6 => .int
  | _ => .int
abbrev wsX50 : List Cond := u_ws RX5 TX5 8
theorem nmX5 : ∀ a, a < 8 → ∀ b, b < 8 → a ≠ b → (TX5 a).2.1 ≠ (TX5 b).2.1 := by decide +kernel
theorem tyX5_ok : ∀ k, k < 8 → parseFieldDescriptor (TX5 k).2.2.1 = some (tyX5 k) := by decide +kernel
abbrev cX5_init : ByteArray := prog_7_method_1_code
def yX5_init : MethodName := ⟨RX5, "<init>", "()V"⟩
abbrev cX5_signOf : ByteArray := prog_7_method_2_code
def yX5_signOf : MethodName := ⟨RX5, "signOf", "(I)I"⟩
abbrev cX5_variableOf : ByteArray := prog_7_method_3_code
def yX5_variableOf : MethodName := ⟨RX5, "variableOf", "(I)I"⟩
abbrev cX5_firstOf : ByteArray := prog_7_method_4_code
def yX5_firstOf : MethodName := ⟨RX5, "firstOf", "(I)I"⟩
abbrev cX5_secondOf : ByteArray := prog_7_method_5_code
def yX5_secondOf : MethodName := ⟨RX5, "secondOf", "(I)I"⟩
abbrev cX5_thirdOf : ByteArray := prog_7_method_6_code
def yX5_thirdOf : MethodName := ⟨RX5, "thirdOf", "(I)I"⟩
abbrev cX5_siteOf : ByteArray := prog_7_method_7_code
def yX5_siteOf : MethodName := ⟨RX5, "siteOf", "(I)I"⟩
abbrev cX5_isAtEnd : ByteArray := prog_7_method_8_code
def yX5_isAtEnd : MethodName := ⟨RX5, "isAtEnd", "(I)Z"⟩
abbrev cX5_empty : ByteArray := prog_7_method_9_code
def yX5_empty : MethodName := ⟨RX5, "empty", "()V"⟩
abbrev cX5_add : ByteArray := prog_7_method_10_code
def yX5_add : MethodName := ⟨RX5, "add", "(III)V"⟩
abbrev cX5_nameVariable : ByteArray := prog_7_method_11_code
def yX5_nameVariable : MethodName := ⟨RX5, "nameVariable", "(II)V"⟩
abbrev cX5_comesToEnd : ByteArray := prog_7_method_12_code
def yX5_comesToEnd : MethodName := ⟨RX5, "comesToEnd", "(II)Z"⟩
abbrev cX5_copyFrom : ByteArray := prog_7_method_13_code
def yX5_copyFrom : MethodName := ⟨RX5, "copyFrom", "(LClosuresThatBounce$Program;)V"⟩
def RX6 : String := "ClosuresThatBounce$Situation"
def TX6 : u_T := fun k => match k with
  | 0 => ("ClosuresThatBounce$Situation", "program", "LClosuresThatBounce$Program;", true)
  | 1 => ("ClosuresThatBounce$Situation", "globals", "[I", true)
  | 2 => ("ClosuresThatBounce$Situation", "caches", "LClosuresThatBounce$Caches;", true)
  | 3 => ("ClosuresThatBounce$Situation", "latest", "LClosuresThatBounce$Ending;", true)
  | 4 => ("ClosuresThatBounce$Situation", "hasRun", "Z", false)
  | _ => ("ClosuresThatBounce$Situation", "runs", "I", false)
def tyX6 : Nat → FieldType := fun k => match k with
  | 0 => .object "ClosuresThatBounce$Program"
  | 1 => .array .int
  | 2 => .object "ClosuresThatBounce$Caches"
  | 3 => .object "ClosuresThatBounce$Ending"
  | 4 => .boolean
  | _ => .int
abbrev wsX60 : List Cond := u_ws RX6 TX6 6
theorem nmX6 : ∀ a, a < 6 → ∀ b, b < 6 → a ≠ b → (TX6 a).2.1 ≠ (TX6 b).2.1 := by decide +kernel
theorem tyX6_ok : ∀ k, k < 6 → parseFieldDescriptor (TX6 k).2.2.1 = some (tyX6 k) := by decide +kernel
abbrev cX6_init : ByteArray := prog_8_method_1_code
def yX6_init : MethodName := ⟨RX6, "<init>", "()V"⟩
abbrev cX6_startAnew : ByteArray := prog_8_method_2_code
def yX6_startAnew : MethodName := ⟨RX6, "startAnew", "()V"⟩
abbrev cX6_keepRun : ByteArray := prog_8_method_3_code
def yX6_keepRun : MethodName := ⟨RX6, "keepRun", "(LClosuresThatBounce$Machine;LClosuresThatBounce$Ending;)V"⟩
abbrev cX6_copyFrom : ByteArray := prog_8_method_4_code
def yX6_copyFrom : MethodName := ⟨RX6, "copyFrom", "(LClosuresThatBounce$Situation;)V"⟩
def RX7 : String := "ClosuresThatBounce$Things"
def TX7 : u_T := fun k => match k with
  | 0 => ("ClosuresThatBounce$Things", "kinds", "[I", true)
  | 1 => ("ClosuresThatBounce$Things", "ones", "[I", true)
  | 2 => ("ClosuresThatBounce$Things", "twos", "[I", true)
  | _ => ("ClosuresThatBounce$Things", "made", "I", false)
def tyX7 : Nat → FieldType := fun k => match k with
  | 0 => .array .int
  | 1 => .array .int
  | 2 => .array .int
  | _ => .int
abbrev wsX70 : List Cond := u_ws RX7 TX7 4
theorem nmX7 : ∀ a, a < 4 → ∀ b, b < 4 → a ≠ b → (TX7 a).2.1 ≠ (TX7 b).2.1 := by decide +kernel
theorem tyX7_ok : ∀ k, k < 4 → parseFieldDescriptor (TX7 k).2.2.1 = some (tyX7 k) := by decide +kernel
abbrev cX7_init : ByteArray := prog_9_method_1_code
def yX7_init : MethodName := ⟨RX7, "<init>", "()V"⟩
abbrev cX7_forget : ByteArray := prog_9_method_2_code
def yX7_forget : MethodName := ⟨RX7, "forget", "()V"⟩
abbrev cX7_add : ByteArray := prog_9_method_3_code
def yX7_add : MethodName := ⟨RX7, "add", "(III)I"⟩
abbrev cX7_isNumber : ByteArray := prog_9_method_4_code
def yX7_isNumber : MethodName := ⟨RX7, "isNumber", "(I)Z"⟩
abbrev cX7_isFunction : ByteArray := prog_9_method_5_code
def yX7_isFunction : MethodName := ⟨RX7, "isFunction", "(I)Z"⟩
abbrev cX7_hasField : ByteArray := prog_9_method_6_code
def yX7_hasField : MethodName := ⟨RX7, "hasField", "(II)Z"⟩
abbrev cX7_kindOf : ByteArray := prog_9_method_7_code
def yX7_kindOf : MethodName := ⟨RX7, "kindOf", "(I)I"⟩
abbrev cX7_fieldOf : ByteArray := prog_9_method_8_code
def yX7_fieldOf : MethodName := ⟨RX7, "fieldOf", "(II)I"⟩
abbrev cX7_expressionOf : ByteArray := prog_9_method_9_code
def yX7_expressionOf : MethodName := ⟨RX7, "expressionOf", "(I)I"⟩
abbrev cX7_frameOf : ByteArray := prog_9_method_10_code
def yX7_frameOf : MethodName := ⟨RX7, "frameOf", "(I)I"⟩
def RX8 : String := "ClosuresThatBounce$Waiting"
def TX8 : u_T := fun k => match k with
  | 0 => ("ClosuresThatBounce$Waiting", "expressions", "[I", true)
  | 1 => ("ClosuresThatBounce$Waiting", "frames", "[I", true)
  | 2 => ("ClosuresThatBounce$Waiting", "stages", "[I", true)
  | 3 => ("ClosuresThatBounce$Waiting", "firsts", "[I", true)
  | _ => ("ClosuresThatBounce$Waiting", "height", "I", false)
def tyX8 : Nat → FieldType := fun k => match k with
  | 0 => .array .int
  | 1 => .array .int
  | 2 => .array .int
  | 3 => .array .int
  | _ => .int
abbrev wsX80 : List Cond := u_ws RX8 TX8 5
theorem nmX8 : ∀ a, a < 5 → ∀ b, b < 5 → a ≠ b → (TX8 a).2.1 ≠ (TX8 b).2.1 := by decide +kernel
theorem tyX8_ok : ∀ k, k < 5 → parseFieldDescriptor (TX8 k).2.2.1 = some (tyX8 k) := by decide +kernel
abbrev cX8_init : ByteArray := prog_10_method_1_code
def yX8_init : MethodName := ⟨RX8, "<init>", "()V"⟩
abbrev cX8_forget : ByteArray := prog_10_method_2_code
def yX8_forget : MethodName := ⟨RX8, "forget", "()V"⟩
abbrev cX8_isEmpty : ByteArray := prog_10_method_3_code
def yX8_isEmpty : MethodName := ⟨RX8, "isEmpty", "()Z"⟩
abbrev cX8_push : ByteArray := prog_10_method_4_code
def yX8_push : MethodName := ⟨RX8, "push", "(IIII)V"⟩
abbrev cX8_pop : ByteArray := prog_10_method_5_code
def yX8_pop : MethodName := ⟨RX8, "pop", "()V"⟩
abbrev cX8_expression : ByteArray := prog_10_method_6_code
def yX8_expression : MethodName := ⟨RX8, "expression", "()I"⟩
abbrev cX8_frame : ByteArray := prog_10_method_7_code
def yX8_frame : MethodName := ⟨RX8, "frame", "()I"⟩
abbrev cX8_stage : ByteArray := prog_10_method_8_code
def yX8_stage : MethodName := ⟨RX8, "stage", "()I"⟩
abbrev cX8_first : ByteArray := prog_10_method_9_code
def yX8_first : MethodName := ⟨RX8, "first", "()I"⟩
def RX9 : String := "ClosuresThatBounce"
def TX9 : u_T := fun k => match k with
  | 0 => ("ClosuresThatBounce", "now", "LClosuresThatBounce$Situation;", true)
  | 1 => ("ClosuresThatBounce", "kept", "LClosuresThatBounce$Situation;", true)
  | 2 => ("ClosuresThatBounce", "machine", "LClosuresThatBounce$Machine;", true)
  | 3 => ("ClosuresThatBounce", "letters", "LClosuresThatBounce$Letters;", true)
  | 4 => ("ClosuresThatBounce", "rowNumbers", "[I", true)
  | 5 => ("ClosuresThatBounce", "refusals", "[I", true)
  | 6 => ("ClosuresThatBounce", "endsOfTries", "[I", true)
  | 7 => ("ClosuresThatBounce", "rowLength", "I", false)
  | _ => ("ClosuresThatBounce", "imageTaken", "Z", false)
def tyX9 : Nat → FieldType := fun k => match k with
  | 0 => .object "ClosuresThatBounce$Situation"
  | 1 => .object "ClosuresThatBounce$Situation"
  | 2 => .object "ClosuresThatBounce$Machine"
  | 3 => .object "ClosuresThatBounce$Letters"
  | 4 => .array .int
  | 5 => .array .int
  | 6 => .array .int
  | 7 => .int
  | _ => .boolean
abbrev wsX90 : List Cond := u_ws RX9 TX9 9
theorem nmX9 : ∀ a, a < 9 → ∀ b, b < 9 → a ≠ b → (TX9 a).2.1 ≠ (TX9 b).2.1 := by decide +kernel
theorem tyX9_ok : ∀ k, k < 9 → parseFieldDescriptor (TX9 k).2.2.1 = some (tyX9 k) := by decide +kernel
abbrev cX9_init : ByteArray := prog_1_method_1_code
def yX9_init : MethodName := ⟨RX9, "<init>", "()V"⟩
abbrev cX9_letter : ByteArray := prog_1_method_2_code
def yX9_letter : MethodName := ⟨RX9, "letter", "(I)I"⟩
abbrev cX9_program : ByteArray := prog_1_method_3_code
def yX9_program : MethodName := ⟨RX9, "program", "()I"⟩
abbrev cX9_global : ByteArray := prog_1_method_4_code
def yX9_global : MethodName := ⟨RX9, "global", "(I)I"⟩
abbrev cX9_sets : ByteArray := prog_1_method_5_code
def yX9_sets : MethodName := ⟨RX9, "sets", "(II)I"⟩
abbrev cX9_run : ByteArray := prog_1_method_6_code
def yX9_run : MethodName := ⟨RX9, "run", "()I"⟩
abbrev cX9_ended : ByteArray := prog_1_method_7_code
def yX9_ended : MethodName := ⟨RX9, "ended", "(I)I"⟩
abbrev cX9_code : ByteArray := prog_1_method_8_code
def yX9_code : MethodName := ⟨RX9, "code", "(I)I"⟩
abbrev cX9_cache : ByteArray := prog_1_method_9_code
def yX9_cache : MethodName := ⟨RX9, "cache", "(II)I"⟩
abbrev cX9_thinks : ByteArray := prog_1_method_10_code
def yX9_thinks : MethodName := ⟨RX9, "thinks", "(I)I"⟩
abbrev cX9_with : ByteArray := prog_1_method_11_code
def yX9_with : MethodName := ⟨RX9, "with", "(III)I"⟩
abbrev cX9_solve : ByteArray := prog_1_method_12_code
def yX9_solve : MethodName := ⟨RX9, "solve", "(II)I"⟩
abbrev cX9_fewest : ByteArray := prog_1_method_13_code
def yX9_fewest : MethodName := ⟨RX9, "fewest", "(II)I"⟩
abbrev cX9_pure : ByteArray := prog_1_method_14_code
def yX9_pure : MethodName := ⟨RX9, "pure", "()I"⟩
abbrev cX9_changes : ByteArray := prog_1_method_15_code
def yX9_changes : MethodName := ⟨RX9, "changes", "()I"⟩
abbrev cX9_again : ByteArray := prog_1_method_16_code
def yX9_again : MethodName := ⟨RX9, "again", "(II)I"⟩
abbrev cX9_likely : ByteArray := prog_1_method_17_code
def yX9_likely : MethodName := ⟨RX9, "likely", "(II)J"⟩
abbrev cX9_mean : ByteArray := prog_1_method_18_code
def yX9_mean : MethodName := ⟨RX9, "mean", "(II)J"⟩
abbrev cX9_whatIs : ByteArray := prog_1_method_19_code
def yX9_whatIs : MethodName := ⟨RX9, "whatIs", "(I)I"⟩
abbrev cX9_row : ByteArray := prog_1_method_20_code
def yX9_row : MethodName := ⟨RX9, "row", "(I)I"⟩
abbrev cX9_judge : ByteArray := prog_1_method_21_code
def yX9_judge : MethodName := ⟨RX9, "judge", "()I"⟩
abbrev cX9_clear : ByteArray := prog_1_method_22_code
def yX9_clear : MethodName := ⟨RX9, "clear", "()I"⟩
abbrev cX9_lots : ByteArray := prog_1_method_23_code
def yX9_lots : MethodName := ⟨RX9, "lots", "(III)I"⟩
abbrev cX9_image : ByteArray := prog_1_method_24_code
def yX9_image : MethodName := ⟨RX9, "image", "()I"⟩
abbrev cX9_on : ByteArray := prog_1_method_25_code
def yX9_on : MethodName := ⟨RX9, "on", "()I"⟩
abbrev cX9_count : ByteArray := prog_1_method_26_code
def yX9_count : MethodName := ⟨RX9, "count", "(I)I"⟩
abbrev cX9_thinkOf : ByteArray := prog_1_method_27_code
def yX9_thinkOf : MethodName := ⟨RX9, "thinkOf", "()LClosuresThatBounce$Ending;"⟩
abbrev cX9_thinkWith : ByteArray := prog_1_method_28_code
def yX9_thinkWith : MethodName := ⟨RX9, "thinkWith", "(II)LClosuresThatBounce$Ending;"⟩
abbrev cX9_rowTellsEndsFrom : ByteArray := prog_1_method_29_code
def yX9_rowTellsEndsFrom : MethodName := ⟨RX9, "rowTellsEndsFrom", "(I)Z"⟩
abbrev cX9_refuse : ByteArray := prog_1_method_30_code
def yX9_refuse : MethodName := ⟨RX9, "refuse", "(I)I"⟩
abbrev cX9_refuseNumber : ByteArray := prog_1_method_31_code
def yX9_refuseNumber : MethodName := ⟨RX9, "refuseNumber", "(I)I"⟩
abbrev cX9_refuseLong : ByteArray := prog_1_method_32_code
def yX9_refuseLong : MethodName := ⟨RX9, "refuseLong", "(I)J"⟩
abbrev cX9_refusalOfGlobal : ByteArray := prog_1_method_33_code
def yX9_refusalOfGlobal : MethodName := ⟨RX9, "refusalOfGlobal", "(II)I"⟩
abbrev cX9_refusalOfMany : ByteArray := prog_1_method_34_code
def yX9_refusalOfMany : MethodName := ⟨RX9, "refusalOfMany", "(IIII)I"⟩
abbrev cX9_isVariable : ByteArray := prog_1_method_35_code
def yX9_isVariable : MethodName := ⟨RX9, "isVariable", "(I)Z"⟩
abbrev cX9_isOfEnding : ByteArray := prog_1_method_36_code
def yX9_isOfEnding : MethodName := ⟨RX9, "isOfEnding", "(I)Z"⟩
abbrev cX9_nextSeed : ByteArray := prog_1_method_37_code
def yX9_nextSeed : MethodName := ⟨RX9, "nextSeed", "(I)I"⟩
abbrev cX9_drawOf : ByteArray := prog_1_method_38_code
def yX9_drawOf : MethodName := ⟨RX9, "drawOf", "(I)I"⟩
abbrev cX9_partOfFraction : ByteArray := prog_1_method_39_code
def yX9_partOfFraction : MethodName := ⟨RX9, "partOfFraction", "(JJI)J"⟩
abbrev cX9_greatestDivisor : ByteArray := prog_1_method_40_code
def yX9_greatestDivisor : MethodName := ⟨RX9, "greatestDivisor", "(JJ)J"⟩
abbrev cX9_sameRows : ByteArray := prog_1_method_41_code
def yX9_sameRows : MethodName := ⟨RX9, "sameRows", "([I[I)Z"⟩
abbrev cX9_at : ByteArray := prog_1_method_42_code
def yX9_at : MethodName := ⟨RX9, "at", "([II)I"⟩
abbrev cX9_put : ByteArray := prog_1_method_43_code
def yX9_put : MethodName := ⟨RX9, "put", "([III)V"⟩
abbrev cX9_copyRow : ByteArray := prog_1_method_44_code
def yX9_copyRow : MethodName := ⟨RX9, "copyRow", "([I[I)V"⟩
def RX10 : String := "ClosuresThatBounceModel"
def TX10 : u_T := fun k => match k with
  | 0 => ("ClosuresThatBounceModel", "refused", "[I", true)
  | 1 => ("ClosuresThatBounceModel", "sign", "[I", true)
  | 2 => ("ClosuresThatBounceModel", "one", "[I", true)
  | 3 => ("ClosuresThatBounceModel", "two", "[I", true)
  | 4 => ("ClosuresThatBounceModel", "three", "[I", true)
  | 5 => ("ClosuresThatBounceModel", "own", "[I", true)
  | 6 => ("ClosuresThatBounceModel", "expressions", "I", false)
  | 7 => ("ClosuresThatBounceModel", "sites", "I", false)
  | 8 => ("ClosuresThatBounceModel", "theProgram", "I", false)
  | 9 => ("ClosuresThatBounceModel", "tape", "[I", true)
  | 10 => ("ClosuresThatBounceModel", "programText", "[I", true)
  | 11 => ("ClosuresThatBounceModel", "programBinder", "[I", true)
  | 12 => ("ClosuresThatBounceModel", "isBinder", "[I", true)
  | 13 => ("ClosuresThatBounceModel", "awaited", "[I", true)
  | 14 => ("ClosuresThatBounceModel", "pile", "[I", true)
  | 15 => ("ClosuresThatBounceModel", "taped", "I", false)
  | 16 => ("ClosuresThatBounceModel", "programMany", "I", false)
  | 17 => ("ClosuresThatBounceModel", "reading", "I", false)
  | 18 => ("ClosuresThatBounceModel", "badAt", "I", false)
  | 19 => ("ClosuresThatBounceModel", "waits", "I", false)
  | 20 => ("ClosuresThatBounceModel", "piled", "I", false)
  | 21 => ("ClosuresThatBounceModel", "siteNow", "I", false)
  | 22 => ("ClosuresThatBounceModel", "expressionsTold", "I", false)
  | 23 => ("ClosuresThatBounceModel", "sitesTold", "I", false)
  | 24 => ("ClosuresThatBounceModel", "globals", "[I", true)
  | 25 => ("ClosuresThatBounceModel", "seen", "[I", true)
  | 26 => ("ClosuresThatBounceModel", "hits", "[I", true)
  | 27 => ("ClosuresThatBounceModel", "misses", "[I", true)
  | 28 => ("ClosuresThatBounceModel", "lastCodes", "[I", true)
  | 29 => ("ClosuresThatBounceModel", "lastHow", "I", false)
  | 30 => ("ClosuresThatBounceModel", "lastNumber", "I", false)
  | 31 => ("ClosuresThatBounceModel", "lastSteps", "I", false)
  | 32 => ("ClosuresThatBounceModel", "lastDepth", "I", false)
  | 33 => ("ClosuresThatBounceModel", "lastBounces", "I", false)
  | 34 => ("ClosuresThatBounceModel", "lastCauses", "I", false)
  | 35 => ("ClosuresThatBounceModel", "runs", "I", false)
  | 36 => ("ClosuresThatBounceModel", "kind", "[I", true)
  | 37 => ("ClosuresThatBounceModel", "valueA", "[I", true)
  | 38 => ("ClosuresThatBounceModel", "valueB", "[I", true)
  | 39 => ("ClosuresThatBounceModel", "valueC", "[I", true)
  | 40 => ("ClosuresThatBounceModel", "cell", "[I", true)
  | 41 => ("ClosuresThatBounceModel", "frameOf", "[I", true)
  | 42 => ("ClosuresThatBounceModel", "frameCell", "[I", true)
  | 43 => ("ClosuresThatBounceModel", "frameBelow", "[I", true)
  | 44 => ("ClosuresThatBounceModel", "faultCode", "[I", true)
  | 45 => ("ClosuresThatBounceModel", "faultCause", "[I", true)
  | 46 => ("ClosuresThatBounceModel", "values", "I", false)
  | 47 => ("ClosuresThatBounceModel", "cells", "I", false)
  | 48 => ("ClosuresThatBounceModel", "frames", "I", false)
  | 49 => ("ClosuresThatBounceModel", "faults", "I", false)
  | 50 => ("ClosuresThatBounceModel", "madeOf", "[I", true)
  | 51 => ("ClosuresThatBounceModel", "madePhase", "[I", true)
  | 52 => ("ClosuresThatBounceModel", "madeFrame", "[I", true)
  | 53 => ("ClosuresThatBounceModel", "madeEnd", "[I", true)
  | 54 => ("ClosuresThatBounceModel", "madeFirst", "[I", true)
  | 55 => ("ClosuresThatBounceModel", "made", "I", false)
  | 56 => ("ClosuresThatBounceModel", "going", "I", false)
  | 57 => ("ClosuresThatBounceModel", "nowOf", "I", false)
  | 58 => ("ClosuresThatBounceModel", "nowFrame", "I", false)
  | 59 => ("ClosuresThatBounceModel", "nowEnd", "I", false)
  | 60 => ("ClosuresThatBounceModel", "nowValue", "I", false)
  | 61 => ("ClosuresThatBounceModel", "nowFault", "I", false)
  | 62 => ("ClosuresThatBounceModel", "steps", "I", false)
  | 63 => ("ClosuresThatBounceModel", "depth", "I", false)
  | 64 => ("ClosuresThatBounceModel", "deepest", "I", false)
  | 65 => ("ClosuresThatBounceModel", "bounces", "I", false)
  | 66 => ("ClosuresThatBounceModel", "lastOnes", "[I", true)
  | 67 => ("ClosuresThatBounceModel", "kept", "[I", true)
  | 68 => ("ClosuresThatBounceModel", "row", "[I", true)
  | 69 => ("ClosuresThatBounceModel", "rowMany", "I", false)
  | 70 => ("ClosuresThatBounceModel", "lots", "I", false)
  | 71 => ("ClosuresThatBounceModel", "image", "[I", true)
  | 72 => ("ClosuresThatBounceModel", "hasImage", "Z", false)
  | 73 => ("ClosuresThatBounceModel", "isKeeping", "Z", false)
  | _ => ("ClosuresThatBounceModel", "cursor", "I", false)
def tyX10 : Nat → FieldType := fun k => match k with
  | 0 => .array .int
  | 1 => .array .int
  | 2 => .array .int
  | 3 => .array .int
  | 4 => .array .int
  | 5 => .array .int
  | 6 => .int
  | 7 => .int
  | 8 => .int
  | 9 => .array .int
  | 10 => .array .int
  | 11 => .array .int
  | 12 => .array .int
  | 13 => .array .int
  | 14 => .array .int
  | 15 => .int
  | 16 => .int
  | 17 => .int
  | 18 => .int
  | 19 => .int
  | 20 => .int
  | 21 => .int
  | 22 => .int
  | 23 => .int
  | 24 => .array .int
  | 25 => .array .int
  | 26 => .array .int
  | 27 => .array .int
  | 28 => .array .int
  | 29 => .int
  | 30 => .int
  | 31 => .int
  | 32 => .int
  | 33 => .int
  | 34 => .int
  | 35 => .int
  | 36 => .array .int
  | 37 => .array .int
  | 38 => .array .int
  | 39 => .array .int
  | 40 => .array .int
  | 41 => .array .int
  | 42 => .array .int
  | 43 => .array .int
  | 44 => .array .int
  | 45 => .array .int
  | 46 => .int
  | 47 => .int
  | 48 => .int
  | 49 => .int
  | 50 => .array .int
  | 51 => .array .int
  | 52 => .array .int
  | 53 => .array .int
  | 54 => .array .int
  | 55 => .int
  | 56 => .int
  | 57 => .int
  | 58 => .int
  | 59 => .int
  | 60 => .int
  | 61 => .int
  | 62 => .int
  | 63 => .int
  | 64 => .int
  | 65 => .int
  | 66 => .array .int
  | 67 => .array .int
  | 68 => .array .int
  | 69 => .int
  | 70 => .int
  | 71 => .array .int
  | 72 => .boolean
  | 73 => .boolean
  | _ => .int
abbrev wsX100 : List Cond := u_ws RX10 TX10 75
theorem nmX10 : ∀ a, a < 75 → ∀ b, b < 75 → a ≠ b → (TX10 a).2.1 ≠ (TX10 b).2.1 := by decide +kernel
theorem tyX10_ok : ∀ k, k < 75 → parseFieldDescriptor (TX10 k).2.2.1 = some (tyX10 k) := by decide +kernel
abbrev cX10_init : ByteArray := prog_12_method_1_code
def yX10_init : MethodName := ⟨RX10, "<init>", "()V"⟩
abbrev cX10_no : ByteArray := prog_12_method_2_code
def yX10_no : MethodName := ⟨RX10, "no", "(I)I"⟩
abbrev cX10_lower : ByteArray := prog_12_method_3_code
def yX10_lower : MethodName := ⟨RX10, "lower", "(I)I"⟩
abbrev cX10_lowestOf : ByteArray := prog_12_method_4_code
def yX10_lowestOf : MethodName := ⟨RX10, "lowestOf", "(I)J"⟩
abbrev cX10_isIn : ByteArray := prog_12_method_5_code
def yX10_isIn : MethodName := ⟨RX10, "isIn", "(III)Z"⟩
abbrev cX10_bound : ByteArray := prog_12_method_6_code
def yX10_bound : MethodName := ⟨RX10, "bound", "(III)I"⟩
abbrev cX10_isVariable : ByteArray := prog_12_method_7_code
def yX10_isVariable : MethodName := ⟨RX10, "isVariable", "(I)Z"⟩
abbrev cX10_bits : ByteArray := prog_12_method_8_code
def yX10_bits : MethodName := ⟨RX10, "bits", "(I)I"⟩
abbrev cX10_letter : ByteArray := prog_12_method_9_code
def yX10_letter : MethodName := ⟨RX10, "letter", "(I)I"⟩
abbrev cX10_awaits : ByteArray := prog_12_method_10_code
def yX10_awaits : MethodName := ⟨RX10, "awaits", "(I)V"⟩
abbrev cX10_isSite : ByteArray := prog_12_method_11_code
def yX10_isSite : MethodName := ⟨RX10, "isSite", "(I)Z"⟩
abbrev cX10_manyOf : ByteArray := prog_12_method_12_code
def yX10_manyOf : MethodName := ⟨RX10, "manyOf", "(I)I"⟩
abbrev cX10_awaitsParts : ByteArray := prog_12_method_13_code
def yX10_awaitsParts : MethodName := ⟨RX10, "awaitsParts", "(I)Z"⟩
abbrev cX10_readsOne : ByteArray := prog_12_method_14_code
def yX10_readsOne : MethodName := ⟨RX10, "readsOne", "(II)Z"⟩
abbrev cX10_reads : ByteArray := prog_12_method_15_code
def yX10_reads : MethodName := ⟨RX10, "reads", "()Z"⟩
abbrev cX10_pops : ByteArray := prog_12_method_16_code
def yX10_pops : MethodName := ⟨RX10, "pops", "()I"⟩
abbrev cX10_buildsOne : ByteArray := prog_12_method_17_code
def yX10_buildsOne : MethodName := ⟨RX10, "buildsOne", "(II)V"⟩
abbrev cX10_builds : ByteArray := prog_12_method_18_code
def yX10_builds : MethodName := ⟨RX10, "builds", "()V"⟩
abbrev cX10_program : ByteArray := prog_12_method_19_code
def yX10_program : MethodName := ⟨RX10, "program", "()I"⟩
abbrev cX10_valueOf : ByteArray := prog_12_method_20_code
def yX10_valueOf : MethodName := ⟨RX10, "valueOf", "(IIII)I"⟩
abbrev cX10_frameWith : ByteArray := prog_12_method_21_code
def yX10_frameWith : MethodName := ⟨RX10, "frameWith", "(III)I"⟩
abbrev cX10_cellOf : ByteArray := prog_12_method_22_code
def yX10_cellOf : MethodName := ⟨RX10, "cellOf", "(II)I"⟩
abbrev cX10_faultOf : ByteArray := prog_12_method_23_code
def yX10_faultOf : MethodName := ⟨RX10, "faultOf", "(II)I"⟩
abbrev cX10_makes : ByteArray := prog_12_method_24_code
def yX10_makes : MethodName := ⟨RX10, "makes", "(III)V"⟩
abbrev cX10_has : ByteArray := prog_12_method_25_code
def yX10_has : MethodName := ⟨RX10, "has", "(I)V"⟩
abbrev cX10_fails : ByteArray := prog_12_method_26_code
def yX10_fails : MethodName := ⟨RX10, "fails", "(I)V"⟩
abbrev cX10_waitsFor : ByteArray := prog_12_method_27_code
def yX10_waitsFor : MethodName := ⟨RX10, "waitsFor", "(I)V"⟩
abbrev cX10_looksUp : ByteArray := prog_12_method_28_code
def yX10_looksUp : MethodName := ⟨RX10, "looksUp", "(I)V"⟩
abbrev cX10_begins : ByteArray := prog_12_method_29_code
def yX10_begins : MethodName := ⟨RX10, "begins", "()V"⟩
abbrev cX10_reckons : ByteArray := prog_12_method_30_code
def yX10_reckons : MethodName := ⟨RX10, "reckons", "(III)V"⟩
abbrev cX10_chooses : ByteArray := prog_12_method_31_code
def yX10_chooses : MethodName := ⟨RX10, "chooses", "(II)V"⟩
abbrev cX10_puts : ByteArray := prog_12_method_32_code
def yX10_puts : MethodName := ⟨RX10, "puts", "(II)V"⟩
abbrev cX10_calls : ByteArray := prog_12_method_33_code
def yX10_calls : MethodName := ⟨RX10, "calls", "(III)V"⟩
abbrev cX10_hasField : ByteArray := prog_12_method_34_code
def yX10_hasField : MethodName := ⟨RX10, "hasField", "(II)Z"⟩
abbrev cX10_passesCache : ByteArray := prog_12_method_35_code
def yX10_passesCache : MethodName := ⟨RX10, "passesCache", "(II)V"⟩
abbrev cX10_findsField : ByteArray := prog_12_method_36_code
def yX10_findsField : MethodName := ⟨RX10, "findsField", "(I)V"⟩
abbrev cX10_throwsNow : ByteArray := prog_12_method_37_code
def yX10_throwsNow : MethodName := ⟨RX10, "throwsNow", "()V"⟩
abbrev cX10_keepsFirst : ByteArray := prog_12_method_38_code
def yX10_keepsFirst : MethodName := ⟨RX10, "keepsFirst", "(II)V"⟩
abbrev cX10_isFirstOfTwo : ByteArray := prog_12_method_39_code
def yX10_isFirstOfTwo : MethodName := ⟨RX10, "isFirstOfTwo", "(II)Z"⟩
abbrev cX10_goesOnOf : ByteArray := prog_12_method_40_code
def yX10_goesOnOf : MethodName := ⟨RX10, "goesOnOf", "(II)V"⟩
abbrev cX10_goesOn : ByteArray := prog_12_method_41_code
def yX10_goesOn : MethodName := ⟨RX10, "goesOn", "()V"⟩
abbrev cX10_falls : ByteArray := prog_12_method_42_code
def yX10_falls : MethodName := ⟨RX10, "falls", "()V"⟩
abbrev cX10_goes : ByteArray := prog_12_method_43_code
def yX10_goes : MethodName := ⟨RX10, "goes", "()V"⟩
abbrev cX10_howNow : ByteArray := prog_12_method_44_code
def yX10_howNow : MethodName := ⟨RX10, "howNow", "()I"⟩
abbrev cX10_numberNow : ByteArray := prog_12_method_45_code
def yX10_numberNow : MethodName := ⟨RX10, "numberNow", "()I"⟩
abbrev cX10_causesNow : ByteArray := prog_12_method_46_code
def yX10_causesNow : MethodName := ⟨RX10, "causesNow", "()I"⟩
abbrev cX10_endedNow : ByteArray := prog_12_method_47_code
def yX10_endedNow : MethodName := ⟨RX10, "endedNow", "(I)I"⟩
abbrev cX10_tellsLast : ByteArray := prog_12_method_48_code
def yX10_tellsLast : MethodName := ⟨RX10, "tellsLast", "()V"⟩
abbrev cX10_run : ByteArray := prog_12_method_49_code
def yX10_run : MethodName := ⟨RX10, "run", "()I"⟩
abbrev cX10_ended : ByteArray := prog_12_method_50_code
def yX10_ended : MethodName := ⟨RX10, "ended", "(I)I"⟩
abbrev cX10_code : ByteArray := prog_12_method_51_code
def yX10_code : MethodName := ⟨RX10, "code", "(I)I"⟩
abbrev cX10_global : ByteArray := prog_12_method_52_code
def yX10_global : MethodName := ⟨RX10, "global", "(I)I"⟩
abbrev cX10_sets : ByteArray := prog_12_method_53_code
def yX10_sets : MethodName := ⟨RX10, "sets", "(II)I"⟩
abbrev cX10_stateOf : ByteArray := prog_12_method_54_code
def yX10_stateOf : MethodName := ⟨RX10, "stateOf", "(I)I"⟩
abbrev cX10_cache : ByteArray := prog_12_method_55_code
def yX10_cache : MethodName := ⟨RX10, "cache", "(II)I"⟩
abbrev cX10_minds : ByteArray := prog_12_method_56_code
def yX10_minds : MethodName := ⟨RX10, "minds", "()V"⟩
abbrev cX10_forgets : ByteArray := prog_12_method_57_code
def yX10_forgets : MethodName := ⟨RX10, "forgets", "()V"⟩
abbrev cX10_goesWith : ByteArray := prog_12_method_58_code
def yX10_goesWith : MethodName := ⟨RX10, "goesWith", "(II)V"⟩
abbrev cX10_thinks : ByteArray := prog_12_method_59_code
def yX10_thinks : MethodName := ⟨RX10, "thinks", "(I)I"⟩
abbrev cX10_with : ByteArray := prog_12_method_60_code
def yX10_with : MethodName := ⟨RX10, "with", "(III)I"⟩
abbrev cX10_solve : ByteArray := prog_12_method_61_code
def yX10_solve : MethodName := ⟨RX10, "solve", "(II)I"⟩
abbrev cX10_fewest : ByteArray := prog_12_method_62_code
def yX10_fewest : MethodName := ⟨RX10, "fewest", "(II)I"⟩
abbrev cX10_pure : ByteArray := prog_12_method_63_code
def yX10_pure : MethodName := ⟨RX10, "pure", "()I"⟩
abbrev cX10_changes : ByteArray := prog_12_method_64_code
def yX10_changes : MethodName := ⟨RX10, "changes", "()I"⟩
abbrev cX10_again : ByteArray := prog_12_method_65_code
def yX10_again : MethodName := ⟨RX10, "again", "(II)I"⟩
abbrev cX10_divisor : ByteArray := prog_12_method_66_code
def yX10_divisor : MethodName := ⟨RX10, "divisor", "(JJ)J"⟩
abbrev cX10_partOf : ByteArray := prog_12_method_67_code
def yX10_partOf : MethodName := ⟨RX10, "partOf", "(JJI)J"⟩
abbrev cX10_likely : ByteArray := prog_12_method_68_code
def yX10_likely : MethodName := ⟨RX10, "likely", "(II)J"⟩
abbrev cX10_mean : ByteArray := prog_12_method_69_code
def yX10_mean : MethodName := ⟨RX10, "mean", "(II)J"⟩
abbrev cX10_endsSo : ByteArray := prog_12_method_70_code
def yX10_endsSo : MethodName := ⟨RX10, "endsSo", "(II)Z"⟩
abbrev cX10_whatIs : ByteArray := prog_12_method_71_code
def yX10_whatIs : MethodName := ⟨RX10, "whatIs", "(I)I"⟩
abbrev cX10_row : ByteArray := prog_12_method_72_code
def yX10_row : MethodName := ⟨RX10, "row", "(I)I"⟩
abbrev cX10_judge : ByteArray := prog_12_method_73_code
def yX10_judge : MethodName := ⟨RX10, "judge", "()I"⟩
abbrev cX10_clear : ByteArray := prog_12_method_74_code
def yX10_clear : MethodName := ⟨RX10, "clear", "()I"⟩
abbrev cX10_draw : ByteArray := prog_12_method_75_code
def yX10_draw : MethodName := ⟨RX10, "draw", "(I)I"⟩
abbrev cX10_lots : ByteArray := prog_12_method_76_code
def yX10_lots : MethodName := ⟨RX10, "lots", "(III)I"⟩
abbrev cX10_passes : ByteArray := prog_12_method_77_code
def yX10_passes : MethodName := ⟨RX10, "passes", "([I)V"⟩
abbrev cX10_passOne : ByteArray := prog_12_method_78_code
def yX10_passOne : MethodName := ⟨RX10, "passOne", "(I)I"⟩
abbrev cX10_passesAll : ByteArray := prog_12_method_79_code
def yX10_passesAll : MethodName := ⟨RX10, "passesAll", "(Z)V"⟩
abbrev cX10_image : ByteArray := prog_12_method_80_code
def yX10_image : MethodName := ⟨RX10, "image", "()I"⟩
abbrev cX10_on : ByteArray := prog_12_method_81_code
def yX10_on : MethodName := ⟨RX10, "on", "()I"⟩
abbrev cX10_allOf : ByteArray := prog_12_method_82_code
def yX10_allOf : MethodName := ⟨RX10, "allOf", "([I)I"⟩
abbrev cX10_count : ByteArray := prog_12_method_83_code
def yX10_count : MethodName := ⟨RX10, "count", "(I)I"⟩
def RJ6 : String := "java/lang/Integer"
def TJ6 : u_T := fun k => match k with
  | _ => ("", "", "", false)
def tyJ6 : Nat → FieldType := fun k => match k with
  | _ => .int
abbrev wsJ60 : List Cond := u_ws RJ6 TJ6 0
theorem nmJ6 : ∀ a, a < 0 → ∀ b, b < 0 → a ≠ b → (TJ6 a).2.1 ≠ (TJ6 b).2.1 := by decide +kernel
theorem tyJ6_ok : ∀ k, k < 0 → parseFieldDescriptor (TJ6 k).2.2.1 = some (tyJ6 k) := by decide +kernel
abbrev cJ6_bitCount_0f7a4 : ByteArray := prog_13_method_49_code
def yJ6_bitCount_0f7a4 : MethodName := ⟨RJ6, "bitCount", "(I)I"⟩
def RJ9 : String := "java/lang/Math"
def TJ9 : u_T := fun k => match k with
  | _ => ("", "", "", false)
def tyJ9 : Nat → FieldType := fun k => match k with
  | _ => .int
abbrev wsJ90 : List Cond := u_ws RJ9 TJ9 0
theorem nmJ9 : ∀ a, a < 0 → ∀ b, b < 0 → a ≠ b → (TJ9 a).2.1 ≠ (TJ9 b).2.1 := by decide +kernel
theorem tyJ9_ok : ∀ k, k < 0 → parseFieldDescriptor (TJ9 k).2.2.1 = some (tyJ9 k) := by decide +kernel
abbrev cJ9_max_7cf53 : ByteArray := prog_14_method_65_code
def yJ9_max_7cf53 : MethodName := ⟨RJ9, "max", "(II)I"⟩
abbrev cJ9_min_7cf53 : ByteArray := prog_14_method_69_code
def yJ9_min_7cf53 : MethodName := ⟨RJ9, "min", "(II)I"⟩
def RJ0 : String := "java/lang/String"
def TJ0 : u_T := fun k => match k with
  | _ => ("", "", "", false)
def tyJ0 : Nat → FieldType := fun k => match k with
  | _ => .int
abbrev wsJ00 : List Cond := u_ws RJ0 TJ0 0
theorem nmJ0 : ∀ a, a < 0 → ∀ b, b < 0 → a ≠ b → (TJ0 a).2.1 ≠ (TJ0 b).2.1 := by decide +kernel
theorem tyJ0_ok : ∀ k, k < 0 → parseFieldDescriptor (TJ0 k).2.2.1 = some (tyJ0 k) := by decide +kernel
abbrev cJ0_length_8abf5 : ByteArray := prog_15_method_54_code
def yJ0_length_8abf5 : MethodName := ⟨RJ0, "length", "()I"⟩
abbrev cJ0_isEmpty_aae02 : ByteArray := prog_15_method_55_code
def yJ0_isEmpty_aae02 : MethodName := ⟨RJ0, "isEmpty", "()Z"⟩
abbrev cJ0_charAt_5068e : ByteArray := prog_15_method_56_code
def yJ0_charAt_5068e : MethodName := ⟨RJ0, "charAt", "(I)C"⟩
abbrev cJ0_coder_7d493 : ByteArray := prog_15_method_152_code
def yJ0_coder_7d493 : MethodName := ⟨RJ0, "coder", "()B"⟩
abbrev cJ0_isLatin1_aae02 : ByteArray := prog_15_method_154_code
def yJ0_isLatin1_aae02 : MethodName := ⟨RJ0, "isLatin1", "()Z"⟩
abbrev cJ0_checkIndex_df160 : ByteArray := prog_15_method_155_code
def yJ0_checkIndex_df160 : MethodName := ⟨RJ0, "checkIndex", "(II)V"⟩
def RJ1 : String := "java/lang/StringLatin1"
def TJ1 : u_T := fun k => match k with
  | _ => ("", "", "", false)
def tyJ1 : Nat → FieldType := fun k => match k with
  | _ => .int
abbrev wsJ10 : List Cond := u_ws RJ1 TJ1 0
theorem nmJ1 : ∀ a, a < 0 → ∀ b, b < 0 → a ≠ b → (TJ1 a).2.1 ≠ (TJ1 b).2.1 := by decide +kernel
theorem tyJ1_ok : ∀ k, k < 0 → parseFieldDescriptor (TJ1 k).2.2.1 = some (tyJ1 k) := by decide +kernel
abbrev cJ1_charAt_3b067 : ByteArray := prog_16_method_2_code
def yJ1_charAt_3b067 : MethodName := ⟨RJ1, "charAt", "([BI)C"⟩
def RJ2 : String := "java/lang/StringUTF16"
def TJ2 : u_T := fun k => match k with
  | _ => ("", "", "", false)
def tyJ2 : Nat → FieldType := fun k => match k with
  | _ => .int
abbrev wsJ20 : List Cond := u_ws RJ2 TJ2 0
theorem nmJ2 : ∀ a, a < 0 → ∀ b, b < 0 → a ≠ b → (TJ2 a).2.1 ≠ (TJ2 b).2.1 := by decide +kernel
theorem tyJ2_ok : ∀ k, k < 0 → parseFieldDescriptor (TJ2 k).2.2.1 = some (tyJ2 k) := by decide +kernel
abbrev cJ2_getChar_3b067 : ByteArray := prog_17_method_5_code
def yJ2_getChar_3b067 : MethodName := ⟨RJ2, "getChar", "([BI)C"⟩
abbrev cJ2_length_9d52b : ByteArray := prog_17_method_6_code
def yJ2_length_9d52b : MethodName := ⟨RJ2, "length", "([B)I"⟩
abbrev cJ2_charAt_3b067 : ByteArray := prog_17_method_83_code
def yJ2_charAt_3b067 : MethodName := ⟨RJ2, "charAt", "([BI)C"⟩
abbrev cJ2_checkIndex_2214a : ByteArray := prog_17_method_91_code
def yJ2_checkIndex_2214a : MethodName := ⟨RJ2, "checkIndex", "(I[B)V"⟩
def RJ10 : String := "java/lang/System"
def TJ10 : u_T := fun k => match k with
  | _ => ("", "", "", false)
def tyJ10 : Nat → FieldType := fun k => match k with
  | _ => .int
abbrev wsJ100 : List Cond := u_ws RJ10 TJ10 0
theorem nmJ10 : ∀ a, a < 0 → ∀ b, b < 0 → a ≠ b → (TJ10 a).2.1 ≠ (TJ10 b).2.1 := by decide +kernel
theorem tyJ10_ok : ∀ k, k < 0 → parseFieldDescriptor (TJ10 k).2.2.1 = some (tyJ10 k) := by decide +kernel
def RJ3 : String := "jdk/internal/util/Preconditions"
def TJ3 : u_T := fun k => match k with
  | _ => ("", "", "", false)
def tyJ3 : Nat → FieldType := fun k => match k with
  | _ => .int
abbrev wsJ30 : List Cond := u_ws RJ3 TJ3 0
theorem nmJ3 : ∀ a, a < 0 → ∀ b, b < 0 → a ≠ b → (TJ3 a).2.1 ≠ (TJ3 b).2.1 := by decide +kernel
theorem tyJ3_ok : ∀ k, k < 0 → parseFieldDescriptor (TJ3 k).2.2.1 = some (tyJ3 k) := by decide +kernel
abbrev cJ3_checkIndex_8e157 : ByteArray := prog_19_method_11_code
def yJ3_checkIndex_8e157 : MethodName := ⟨RJ3, "checkIndex", "(IILjava/util/function/BiFunction;)I"⟩
def RL : String := "ClosuresThatBounceLaw"
abbrev cL_law : ByteArray := code
def yL_law : MethodName := ⟨RL, "law", "([I)Z"⟩
abbrev vwC : List vw_C := [(RX0, TX0, 3), (RX1, TX1, 4), (RX2, TX2, 7), (RX3, TX3, 8), (RX4, TX4, 13), (RX5, TX5, 8), (RX6, TX6, 6), (RX7, TX7, 4), (RX8, TX8, 5), (RX9, TX9, 9), (RX10, TX10, 75)]
/-- the words that every contract carries -/
def lw_good : List Cond := lw_tbl.filter goodWord
/-- the links between nest mates -/
def lw_nest : List Cond := [Cond.methodLinkNest RX9 9 yX6_init "ClosuresThatBounce", Cond.methodLinkNest RX6 24 yX0_init "ClosuresThatBounce", Cond.methodLinkNest RX6 31 yX2_init "ClosuresThatBounce", Cond.methodLinkNest RX9 21 yX4_init "ClosuresThatBounce", Cond.methodLinkNest RX4 17 yX0_init "ClosuresThatBounce", Cond.methodLinkNest RX4 24 yX2_init "ClosuresThatBounce", Cond.methodLinkNest RX4 31 yX1_init "ClosuresThatBounce", Cond.methodLinkNest RX4 38 yX7_init "ClosuresThatBounce", Cond.methodLinkNest RX4 45 yX8_init "ClosuresThatBounce", Cond.methodLinkNest RX9 28 yX3_init "ClosuresThatBounce", Cond.methodLinkNest RX3 37 yX9_put "ClosuresThatBounce", Cond.methodLinkNest RX3 58 yX9_at "ClosuresThatBounce", Cond.methodLinkNest RX5 41 yX9_put "ClosuresThatBounce", Cond.methodLinkNest RX5 37 yX9_at "ClosuresThatBounce", Cond.methodLinkNest RX0 31 yX9_put "ClosuresThatBounce", Cond.methodLinkNest RX4 81 yX9_copyRow "ClosuresThatBounce", Cond.methodLinkNest RX0 48 yX9_copyRow "ClosuresThatBounce", Cond.methodLinkNest RX1 29 yX9_at "ClosuresThatBounce", Cond.methodLinkNest RX4 262 yX9_at "ClosuresThatBounce", Cond.methodLinkNest RX7 25 yX9_put "ClosuresThatBounce", Cond.methodLinkNest RX8 28 yX9_put "ClosuresThatBounce", Cond.methodLinkNest RX8 32 yX9_at "ClosuresThatBounce", Cond.methodLinkNest RX7 33 yX9_at "ClosuresThatBounce", Cond.methodLinkNest RX1 25 yX9_put "ClosuresThatBounce", Cond.methodLinkNest RX4 272 yX9_put "ClosuresThatBounce", Cond.methodLinkNest RX0 21 yX9_at "ClosuresThatBounce", Cond.methodLinkNest RX6 50 yX9_copyRow "ClosuresThatBounce", Cond.methodLinkNest RX5 62 yX9_copyRow "ClosuresThatBounce"]
theorem lw_tin {w : Cond} (h : w ∈ tables_1) (g : goodWord w = true) : w ∈ lw_good := List.mem_filter.mpr ⟨List.mem_append_right _ h, g⟩
theorem lw_t1 {w : Cond} {i : Nat} (e : tables_1_1[i]? = some w) (g : goodWord w = true) : w ∈ lw_good := lw_tin (have h := List.mem_of_getElem? e; by unfold tables_1; exact List.mem_append_left _ h) g
theorem lw_t2 {w : Cond} {i : Nat} (e : tables_1_2[i]? = some w) (g : goodWord w = true) : w ∈ lw_good := lw_tin (have h := List.mem_of_getElem? e; by unfold tables_1; exact List.mem_append_right _ (List.mem_append_left _ h)) g
theorem lw_t3 {w : Cond} {i : Nat} (e : tables_1_3[i]? = some w) (g : goodWord w = true) : w ∈ lw_good := lw_tin (have h := List.mem_of_getElem? e; by unfold tables_1; exact List.mem_append_right _ (List.mem_append_right _ (List.mem_append_left _ h))) g
theorem lw_t4 {w : Cond} {i : Nat} (e : tables_1_4[i]? = some w) (g : goodWord w = true) : w ∈ lw_good := lw_tin (have h := List.mem_of_getElem? e; by unfold tables_1; exact List.mem_append_right _ (List.mem_append_right _ (List.mem_append_right _ (List.mem_append_left _ h)))) g
theorem lw_t5 {w : Cond} {i : Nat} (e : tables_1_5[i]? = some w) (g : goodWord w = true) : w ∈ lw_good := lw_tin (have h := List.mem_of_getElem? e; by unfold tables_1; exact List.mem_append_right _ (List.mem_append_right _ (List.mem_append_right _ (List.mem_append_right _ (List.mem_append_left _ h))))) g
theorem lw_t6 {w : Cond} {i : Nat} (e : tables_1_6[i]? = some w) (g : goodWord w = true) : w ∈ lw_good := lw_tin (have h := List.mem_of_getElem? e; by unfold tables_1; exact List.mem_append_right _ (List.mem_append_right _ (List.mem_append_right _ (List.mem_append_right _ (List.mem_append_right _ (List.mem_append_left _ h)))))) g
theorem lw_t7 {w : Cond} {i : Nat} (e : tables_1_7[i]? = some w) (g : goodWord w = true) : w ∈ lw_good := lw_tin (have h := List.mem_of_getElem? e; by unfold tables_1; exact List.mem_append_right _ (List.mem_append_right _ (List.mem_append_right _ (List.mem_append_right _ (List.mem_append_right _ (List.mem_append_right _ (h))))))) g
theorem tw0 : Cond.initialized RL ∈ lw_good := lw_t1 (i := 0) (by decide +kernel) (by decide +kernel)
theorem tw1 : Cond.initialized RX9 ∈ lw_good := lw_t1 (i := 1) (by decide +kernel) (by decide +kernel)
theorem tw2 : Cond.initialized RX6 ∈ lw_good := lw_t1 (i := 2) (by decide +kernel) (by decide +kernel)
theorem tw3 : Cond.initialized RX5 ∈ lw_good := lw_t1 (i := 3) (by decide +kernel) (by decide +kernel)
theorem tw4 : Cond.initialized RX0 ∈ lw_good := lw_t1 (i := 4) (by decide +kernel) (by decide +kernel)
theorem tw5 : Cond.initialized RX2 ∈ lw_good := lw_t1 (i := 5) (by decide +kernel) (by decide +kernel)
theorem tw6 : Cond.initialized RX4 ∈ lw_good := lw_t1 (i := 6) (by decide +kernel) (by decide +kernel)
theorem tw7 : Cond.initialized RX1 ∈ lw_good := lw_t1 (i := 7) (by decide +kernel) (by decide +kernel)
theorem tw8 : Cond.initialized RX7 ∈ lw_good := lw_t1 (i := 8) (by decide +kernel) (by decide +kernel)
theorem tw9 : Cond.initialized RX8 ∈ lw_good := lw_t1 (i := 9) (by decide +kernel) (by decide +kernel)
theorem tw10 : Cond.initialized RX3 ∈ lw_good := lw_t1 (i := 10) (by decide +kernel) (by decide +kernel)
theorem tw11 : Cond.initialized RX10 ∈ lw_good := lw_t1 (i := 11) (by decide +kernel) (by decide +kernel)
theorem tw12 : Cond.initialized RJ0 ∈ lw_good := lw_t1 (i := 12) (by decide +kernel) (by decide +kernel)
theorem tw13 : Cond.initialized RJ1 ∈ lw_good := lw_t1 (i := 13) (by decide +kernel) (by decide +kernel)
theorem tw14 : Cond.initialized RJ3 ∈ lw_good := lw_t1 (i := 14) (by decide +kernel) (by decide +kernel)
theorem tw15 : Cond.initialized RJ2 ∈ lw_good := lw_t1 (i := 15) (by decide +kernel) (by decide +kernel)
theorem tw16 : Cond.initialized RJ9 ∈ lw_good := lw_t1 (i := 16) (by decide +kernel) (by decide +kernel)
theorem tw17 : Cond.initialized RJ10 ∈ lw_good := lw_t1 (i := 17) (by decide +kernel) (by decide +kernel)
theorem tw18 : Cond.initialized RJ6 ∈ lw_good := lw_t1 (i := 18) (by decide +kernel) (by decide +kernel)
theorem tw19 : Cond.classLink RL 7 "ClosuresThatBounce" ∈ lw_good := lw_t1 (i := 19) (by decide +kernel) (by decide +kernel)
theorem tw20 : Cond.instantiable RX9 9 ∈ lw_good := lw_t1 (i := 20) (by decide +kernel) (by decide +kernel)
theorem tw21 : Cond.methodLink RL 9 yX9_init ∈ lw_good := lw_t1 (i := 21) (by decide +kernel) (by decide +kernel)
theorem tw22 : Cond.instanceMethod yX9_init ∈ lw_good := lw_t1 (i := 22) (by decide +kernel) (by decide +kernel)
theorem tw23 : Cond.code yX9_init prog_1_method_1_code 1 none ∈ lw_good := lw_t1 (i := 23) (by decide +kernel) (by decide +kernel)
theorem tw24 : Cond.methodLink RX9 1 objectInit ∈ lw_good := lw_t1 (i := 24) (by decide +kernel) (by decide +kernel)
theorem tw25 : Cond.instanceMethod objectInit ∈ lw_good := lw_t1 (i := 25) (by decide +kernel) (by decide +kernel)
theorem tw26 : Cond.code objectInit object_method_1_code 1 none ∈ lw_good := lw_t1 (i := 26) (by decide +kernel) (by decide +kernel)
theorem tw27 : Cond.classLink RX9 7 "ClosuresThatBounce$Situation" ∈ lw_good := lw_t1 (i := 27) (by decide +kernel) (by decide +kernel)
theorem tw28 : Cond.instantiable RX6 6 ∈ lw_good := lw_t1 (i := 28) (by decide +kernel) (by decide +kernel)
theorem tw30 : Cond.instanceMethod yX6_init ∈ lw_good := lw_t1 (i := 30) (by decide +kernel) (by decide +kernel)
theorem tw31 : Cond.code yX6_init prog_8_method_1_code 1 none ∈ lw_good := lw_t1 (i := 31) (by decide +kernel) (by decide +kernel)
theorem tw32 : Cond.methodLink RX6 3 objectInit ∈ lw_good := lw_t1 (i := 32) (by decide +kernel) (by decide +kernel)
theorem tw33 : Cond.classLink RX6 9 "ClosuresThatBounce$Program" ∈ lw_good := lw_t1 (i := 33) (by decide +kernel) (by decide +kernel)
theorem tw34 : Cond.instantiable RX5 8 ∈ lw_good := lw_t1 (i := 34) (by decide +kernel) (by decide +kernel)
theorem tw35 : Cond.methodLink RX6 11 yX5_init ∈ lw_good := lw_t1 (i := 35) (by decide +kernel) (by decide +kernel)
theorem tw36 : Cond.instanceMethod yX5_init ∈ lw_good := lw_t1 (i := 36) (by decide +kernel) (by decide +kernel)
theorem tw37 : Cond.code yX5_init prog_7_method_1_code 1 none ∈ lw_good := lw_t1 (i := 37) (by decide +kernel) (by decide +kernel)
theorem tw38 : Cond.methodLink RX5 3 objectInit ∈ lw_good := lw_t1 (i := 38) (by decide +kernel) (by decide +kernel)
theorem tw39 : Cond.fieldLink RX5 9 "ClosuresThatBounce$Program" "signs" "[I" ∈ lw_good := lw_t1 (i := 39) (by decide +kernel) (by decide +kernel)
theorem tw40 : Cond.fieldLink RX5 15 "ClosuresThatBounce$Program" "variables" "[I" ∈ lw_good := lw_t1 (i := 40) (by decide +kernel) (by decide +kernel)
theorem tw41 : Cond.fieldLink RX5 18 "ClosuresThatBounce$Program" "seconds" "[I" ∈ lw_good := lw_t1 (i := 41) (by decide +kernel) (by decide +kernel)
theorem tw42 : Cond.fieldLink RX5 21 "ClosuresThatBounce$Program" "thirds" "[I" ∈ lw_good := lw_t1 (i := 42) (by decide +kernel) (by decide +kernel)
theorem tw43 : Cond.fieldLink RX5 24 "ClosuresThatBounce$Program" "sites" "[I" ∈ lw_good := lw_t1 (i := 43) (by decide +kernel) (by decide +kernel)
theorem tw44 : Cond.fieldLink RX5 27 "ClosuresThatBounce$Program" "ends" "[I" ∈ lw_good := lw_t1 (i := 44) (by decide +kernel) (by decide +kernel)
theorem tw45 : Cond.fieldLink RX5 30 "ClosuresThatBounce$Program" "size" "I" ∈ lw_good := lw_t1 (i := 45) (by decide +kernel) (by decide +kernel)
theorem tw46 : Cond.fieldLink RX9 80 "ClosuresThatBounce$Program" "size" "I" ∈ lw_good := lw_t1 (i := 46) (by decide +kernel) (by decide +kernel)
theorem tw47 : Cond.fieldLink RX5 34 "ClosuresThatBounce$Program" "siteCount" "I" ∈ lw_good := lw_t1 (i := 47) (by decide +kernel) (by decide +kernel)
theorem tw48 : Cond.fieldLink RX9 139 "ClosuresThatBounce$Program" "siteCount" "I" ∈ lw_good := lw_t1 (i := 48) (by decide +kernel) (by decide +kernel)
theorem tw49 : Cond.laysFinal "ClosuresThatBounce$Program" "ClosuresThatBounce$Program" "signs" "[I" ∈ lw_good := lw_t1 (i := 49) (by decide +kernel) (by decide +kernel)
theorem tw50 : Cond.soleField "ClosuresThatBounce$Program" "signs" ∈ lw_good := lw_t1 (i := 50) (by decide +kernel) (by decide +kernel)
theorem tw51 : Cond.laysFinal "ClosuresThatBounce$Program" "ClosuresThatBounce$Program" "variables" "[I" ∈ lw_good := lw_t1 (i := 51) (by decide +kernel) (by decide +kernel)
theorem tw52 : Cond.soleField "ClosuresThatBounce$Program" "variables" ∈ lw_good := lw_t1 (i := 52) (by decide +kernel) (by decide +kernel)
theorem tw53 : Cond.laysFinal "ClosuresThatBounce$Program" "ClosuresThatBounce$Program" "seconds" "[I" ∈ lw_good := lw_t1 (i := 53) (by decide +kernel) (by decide +kernel)
theorem tw54 : Cond.soleField "ClosuresThatBounce$Program" "seconds" ∈ lw_good := lw_t1 (i := 54) (by decide +kernel) (by decide +kernel)
theorem tw55 : Cond.laysFinal "ClosuresThatBounce$Program" "ClosuresThatBounce$Program" "thirds" "[I" ∈ lw_good := lw_t1 (i := 55) (by decide +kernel) (by decide +kernel)
theorem tw56 : Cond.soleField "ClosuresThatBounce$Program" "thirds" ∈ lw_good := lw_t1 (i := 56) (by decide +kernel) (by decide +kernel)
theorem tw57 : Cond.laysFinal "ClosuresThatBounce$Program" "ClosuresThatBounce$Program" "sites" "[I" ∈ lw_good := lw_t1 (i := 57) (by decide +kernel) (by decide +kernel)
theorem tw58 : Cond.soleField "ClosuresThatBounce$Program" "sites" ∈ lw_good := lw_t1 (i := 58) (by decide +kernel) (by decide +kernel)
theorem tw59 : Cond.laysFinal "ClosuresThatBounce$Program" "ClosuresThatBounce$Program" "ends" "[I" ∈ lw_good := lw_t1 (i := 59) (by decide +kernel) (by decide +kernel)
theorem tw60 : Cond.soleField "ClosuresThatBounce$Program" "ends" ∈ lw_good := lw_t1 (i := 60) (by decide +kernel) (by decide +kernel)
theorem tw61 : Cond.lays "ClosuresThatBounce$Program" "ClosuresThatBounce$Program" "size" "I" ∈ lw_good := lw_t1 (i := 61) (by decide +kernel) (by decide +kernel)
theorem tw62 : Cond.soleField "ClosuresThatBounce$Program" "size" ∈ lw_good := lw_t1 (i := 62) (by decide +kernel) (by decide +kernel)
theorem tw63 : Cond.lays "ClosuresThatBounce$Program" "ClosuresThatBounce$Program" "siteCount" "I" ∈ lw_good := lw_t1 (i := 63) (by decide +kernel) (by decide +kernel)
theorem tw64 : Cond.soleField "ClosuresThatBounce$Program" "siteCount" ∈ lw_good := lw_t1 (i := 64) (by decide +kernel) (by decide +kernel)
theorem tw67 : Cond.classLink RX6 22 "ClosuresThatBounce$Caches" ∈ lw_good := lw_t1 (i := 67) (by decide +kernel) (by decide +kernel)
theorem tw68 : Cond.instantiable RX0 3 ∈ lw_good := lw_t1 (i := 68) (by decide +kernel) (by decide +kernel)
theorem tw70 : Cond.instanceMethod yX0_init ∈ lw_good := lw_t1 (i := 70) (by decide +kernel) (by decide +kernel)
theorem tw71 : Cond.code yX0_init prog_2_method_1_code 1 none ∈ lw_good := lw_t1 (i := 71) (by decide +kernel) (by decide +kernel)
theorem tw72 : Cond.methodLink RX0 3 objectInit ∈ lw_good := lw_t1 (i := 72) (by decide +kernel) (by decide +kernel)
theorem tw73 : Cond.fieldLink RX0 9 "ClosuresThatBounce$Caches" "shapes" "[I" ∈ lw_good := lw_t1 (i := 73) (by decide +kernel) (by decide +kernel)
theorem tw74 : Cond.fieldLink RX0 15 "ClosuresThatBounce$Caches" "hits" "[I" ∈ lw_good := lw_t1 (i := 74) (by decide +kernel) (by decide +kernel)
theorem tw75 : Cond.fieldLink RX0 18 "ClosuresThatBounce$Caches" "misses" "[I" ∈ lw_good := lw_t1 (i := 75) (by decide +kernel) (by decide +kernel)
theorem tw76 : Cond.laysFinal "ClosuresThatBounce$Caches" "ClosuresThatBounce$Caches" "shapes" "[I" ∈ lw_good := lw_t1 (i := 76) (by decide +kernel) (by decide +kernel)
theorem tw77 : Cond.soleField "ClosuresThatBounce$Caches" "shapes" ∈ lw_good := lw_t1 (i := 77) (by decide +kernel) (by decide +kernel)
theorem tw78 : Cond.laysFinal "ClosuresThatBounce$Caches" "ClosuresThatBounce$Caches" "hits" "[I" ∈ lw_good := lw_t1 (i := 78) (by decide +kernel) (by decide +kernel)
theorem tw79 : Cond.soleField "ClosuresThatBounce$Caches" "hits" ∈ lw_good := lw_t1 (i := 79) (by decide +kernel) (by decide +kernel)
theorem tw80 : Cond.laysFinal "ClosuresThatBounce$Caches" "ClosuresThatBounce$Caches" "misses" "[I" ∈ lw_good := lw_t1 (i := 80) (by decide +kernel) (by decide +kernel)
theorem tw81 : Cond.soleField "ClosuresThatBounce$Caches" "misses" ∈ lw_good := lw_t1 (i := 81) (by decide +kernel) (by decide +kernel)
theorem tw83 : Cond.classLink RX6 29 "ClosuresThatBounce$Ending" ∈ lw_good := lw_t1 (i := 83) (by decide +kernel) (by decide +kernel)
theorem tw84 : Cond.instantiable RX2 7 ∈ lw_good := lw_t1 (i := 84) (by decide +kernel) (by decide +kernel)
theorem tw86 : Cond.instanceMethod yX2_init ∈ lw_good := lw_t1 (i := 86) (by decide +kernel) (by decide +kernel)
theorem tw87 : Cond.code yX2_init prog_4_method_1_code 1 none ∈ lw_good := lw_t1 (i := 87) (by decide +kernel) (by decide +kernel)
theorem tw88 : Cond.methodLink RX2 3 objectInit ∈ lw_good := lw_t1 (i := 88) (by decide +kernel) (by decide +kernel)
theorem tw89 : Cond.fieldLink RX2 9 "ClosuresThatBounce$Ending" "how" "I" ∈ lw_good := lw_t1 (i := 89) (by decide +kernel) (by decide +kernel)
theorem tw90 : Cond.fieldLink RX4 127 "ClosuresThatBounce$Ending" "how" "I" ∈ lw_good := lw_t1 (i := 90) (by decide +kernel) (by decide +kernel)
theorem tw91 : Cond.fieldLink RX9 119 "ClosuresThatBounce$Ending" "how" "I" ∈ lw_good := lw_t1 (i := 91) (by decide +kernel) (by decide +kernel)
theorem tw92 : Cond.fieldLink RX2 15 "ClosuresThatBounce$Ending" "told" "I" ∈ lw_good := lw_t1 (i := 92) (by decide +kernel) (by decide +kernel)
theorem tw93 : Cond.fieldLink RX4 134 "ClosuresThatBounce$Ending" "told" "I" ∈ lw_good := lw_t1 (i := 93) (by decide +kernel) (by decide +kernel)
theorem tw94 : Cond.fieldLink RX9 161 "ClosuresThatBounce$Ending" "told" "I" ∈ lw_good := lw_t1 (i := 94) (by decide +kernel) (by decide +kernel)
theorem tw95 : Cond.fieldLink RX2 18 "ClosuresThatBounce$Ending" "steps" "I" ∈ lw_good := lw_t1 (i := 95) (by decide +kernel) (by decide +kernel)
theorem tw96 : Cond.fieldLink RX4 114 "ClosuresThatBounce$Ending" "steps" "I" ∈ lw_good := lw_t1 (i := 96) (by decide +kernel) (by decide +kernel)
theorem tw97 : Cond.fieldLink RX9 158 "ClosuresThatBounce$Ending" "steps" "I" ∈ lw_good := lw_t1 (i := 97) (by decide +kernel) (by decide +kernel)
theorem tw98 : Cond.fieldLink RX2 21 "ClosuresThatBounce$Ending" "greatestDepth" "I" ∈ lw_good := lw_t1 (i := 98) (by decide +kernel) (by decide +kernel)
theorem tw99 : Cond.fieldLink RX4 117 "ClosuresThatBounce$Ending" "greatestDepth" "I" ∈ lw_good := lw_t1 (i := 99) (by decide +kernel) (by decide +kernel)
theorem tw100 : Cond.fieldLink RX2 24 "ClosuresThatBounce$Ending" "bounces" "I" ∈ lw_good := lw_t1 (i := 100) (by decide +kernel) (by decide +kernel)
theorem tw101 : Cond.fieldLink RX4 120 "ClosuresThatBounce$Ending" "bounces" "I" ∈ lw_good := lw_t1 (i := 101) (by decide +kernel) (by decide +kernel)
theorem tw102 : Cond.fieldLink RX2 27 "ClosuresThatBounce$Ending" "causes" "I" ∈ lw_good := lw_t1 (i := 102) (by decide +kernel) (by decide +kernel)
theorem tw103 : Cond.fieldLink RX4 153 "ClosuresThatBounce$Ending" "causes" "I" ∈ lw_good := lw_t1 (i := 103) (by decide +kernel) (by decide +kernel)
theorem tw104 : Cond.fieldLink RX9 133 "ClosuresThatBounce$Ending" "causes" "I" ∈ lw_good := lw_t1 (i := 104) (by decide +kernel) (by decide +kernel)
theorem tw105 : Cond.fieldLink RX2 30 "ClosuresThatBounce$Ending" "lastCode" "I" ∈ lw_good := lw_t1 (i := 105) (by decide +kernel) (by decide +kernel)
theorem tw106 : Cond.fieldLink RX4 156 "ClosuresThatBounce$Ending" "lastCode" "I" ∈ lw_good := lw_t1 (i := 106) (by decide +kernel) (by decide +kernel)
theorem tw107 : Cond.lays "ClosuresThatBounce$Ending" "ClosuresThatBounce$Ending" "how" "I" ∈ lw_good := lw_t1 (i := 107) (by decide +kernel) (by decide +kernel)
theorem tw108 : Cond.soleField "ClosuresThatBounce$Ending" "how" ∈ lw_good := lw_t1 (i := 108) (by decide +kernel) (by decide +kernel)
theorem tw109 : Cond.lays "ClosuresThatBounce$Ending" "ClosuresThatBounce$Ending" "told" "I" ∈ lw_good := lw_t1 (i := 109) (by decide +kernel) (by decide +kernel)
theorem tw110 : Cond.soleField "ClosuresThatBounce$Ending" "told" ∈ lw_good := lw_t1 (i := 110) (by decide +kernel) (by decide +kernel)
theorem tw111 : Cond.lays "ClosuresThatBounce$Ending" "ClosuresThatBounce$Ending" "steps" "I" ∈ lw_good := lw_t1 (i := 111) (by decide +kernel) (by decide +kernel)
theorem tw112 : Cond.soleField "ClosuresThatBounce$Ending" "steps" ∈ lw_good := lw_t1 (i := 112) (by decide +kernel) (by decide +kernel)
theorem tw113 : Cond.lays "ClosuresThatBounce$Ending" "ClosuresThatBounce$Ending" "greatestDepth" "I" ∈ lw_good := lw_t1 (i := 113) (by decide +kernel) (by decide +kernel)
theorem tw114 : Cond.soleField "ClosuresThatBounce$Ending" "greatestDepth" ∈ lw_good := lw_t1 (i := 114) (by decide +kernel) (by decide +kernel)
theorem tw115 : Cond.lays "ClosuresThatBounce$Ending" "ClosuresThatBounce$Ending" "bounces" "I" ∈ lw_good := lw_t1 (i := 115) (by decide +kernel) (by decide +kernel)
theorem tw116 : Cond.soleField "ClosuresThatBounce$Ending" "bounces" ∈ lw_good := lw_t1 (i := 116) (by decide +kernel) (by decide +kernel)
theorem tw117 : Cond.lays "ClosuresThatBounce$Ending" "ClosuresThatBounce$Ending" "causes" "I" ∈ lw_good := lw_t1 (i := 117) (by decide +kernel) (by decide +kernel)
theorem tw118 : Cond.soleField "ClosuresThatBounce$Ending" "causes" ∈ lw_good := lw_t1 (i := 118) (by decide +kernel) (by decide +kernel)
theorem tw119 : Cond.lays "ClosuresThatBounce$Ending" "ClosuresThatBounce$Ending" "lastCode" "I" ∈ lw_good := lw_t1 (i := 119) (by decide +kernel) (by decide +kernel)
theorem tw120 : Cond.soleField "ClosuresThatBounce$Ending" "lastCode" ∈ lw_good := lw_t1 (i := 120) (by decide +kernel) (by decide +kernel)
theorem tw122 : Cond.fieldLink RX6 12 "ClosuresThatBounce$Situation" "program" "LClosuresThatBounce$Program;" ∈ lw_good := lw_t1 (i := 122) (by decide +kernel) (by decide +kernel)
theorem tw123 : Cond.fieldLink RX4 77 "ClosuresThatBounce$Situation" "program" "LClosuresThatBounce$Program;" ∈ lw_good := lw_t1 (i := 123) (by decide +kernel) (by decide +kernel)
theorem tw124 : Cond.fieldLink RX9 66 "ClosuresThatBounce$Situation" "program" "LClosuresThatBounce$Program;" ∈ lw_good := lw_t1 (i := 124) (by decide +kernel) (by decide +kernel)
theorem tw125 : Cond.fieldLink RX6 18 "ClosuresThatBounce$Situation" "globals" "[I" ∈ lw_good := lw_t1 (i := 125) (by decide +kernel) (by decide +kernel)
theorem tw126 : Cond.fieldLink RX4 80 "ClosuresThatBounce$Situation" "globals" "[I" ∈ lw_good := lw_t1 (i := 126) (by decide +kernel) (by decide +kernel)
theorem tw127 : Cond.fieldLink RX9 92 "ClosuresThatBounce$Situation" "globals" "[I" ∈ lw_good := lw_t1 (i := 127) (by decide +kernel) (by decide +kernel)
theorem tw128 : Cond.fieldLink RX6 25 "ClosuresThatBounce$Situation" "caches" "LClosuresThatBounce$Caches;" ∈ lw_good := lw_t1 (i := 128) (by decide +kernel) (by decide +kernel)
theorem tw129 : Cond.fieldLink RX4 85 "ClosuresThatBounce$Situation" "caches" "LClosuresThatBounce$Caches;" ∈ lw_good := lw_t1 (i := 129) (by decide +kernel) (by decide +kernel)
theorem tw130 : Cond.fieldLink RX9 142 "ClosuresThatBounce$Situation" "caches" "LClosuresThatBounce$Caches;" ∈ lw_good := lw_t1 (i := 130) (by decide +kernel) (by decide +kernel)
theorem tw131 : Cond.fieldLink RX6 32 "ClosuresThatBounce$Situation" "latest" "LClosuresThatBounce$Ending;" ∈ lw_good := lw_t1 (i := 131) (by decide +kernel) (by decide +kernel)
theorem tw132 : Cond.fieldLink RX9 115 "ClosuresThatBounce$Situation" "latest" "LClosuresThatBounce$Ending;" ∈ lw_good := lw_t1 (i := 132) (by decide +kernel) (by decide +kernel)
theorem tw133 : Cond.fieldLink RX6 36 "ClosuresThatBounce$Situation" "hasRun" "Z" ∈ lw_good := lw_t1 (i := 133) (by decide +kernel) (by decide +kernel)
theorem tw134 : Cond.fieldLink RX9 127 "ClosuresThatBounce$Situation" "hasRun" "Z" ∈ lw_good := lw_t1 (i := 134) (by decide +kernel) (by decide +kernel)
theorem tw135 : Cond.fieldLink RX6 40 "ClosuresThatBounce$Situation" "runs" "I" ∈ lw_good := lw_t1 (i := 135) (by decide +kernel) (by decide +kernel)
theorem tw136 : Cond.fieldLink RX9 212 "ClosuresThatBounce$Situation" "runs" "I" ∈ lw_good := lw_t1 (i := 136) (by decide +kernel) (by decide +kernel)
theorem tw137 : Cond.laysFinal "ClosuresThatBounce$Situation" "ClosuresThatBounce$Situation" "program" "LClosuresThatBounce$Program;" ∈ lw_good := lw_t1 (i := 137) (by decide +kernel) (by decide +kernel)
theorem tw138 : Cond.soleField "ClosuresThatBounce$Situation" "program" ∈ lw_good := lw_t1 (i := 138) (by decide +kernel) (by decide +kernel)
theorem tw139 : Cond.laysFinal "ClosuresThatBounce$Situation" "ClosuresThatBounce$Situation" "globals" "[I" ∈ lw_good := lw_t1 (i := 139) (by decide +kernel) (by decide +kernel)
theorem tw140 : Cond.soleField "ClosuresThatBounce$Situation" "globals" ∈ lw_good := lw_t1 (i := 140) (by decide +kernel) (by decide +kernel)
theorem tw141 : Cond.laysFinal "ClosuresThatBounce$Situation" "ClosuresThatBounce$Situation" "caches" "LClosuresThatBounce$Caches;" ∈ lw_good := lw_t1 (i := 141) (by decide +kernel) (by decide +kernel)
theorem tw142 : Cond.soleField "ClosuresThatBounce$Situation" "caches" ∈ lw_good := lw_t1 (i := 142) (by decide +kernel) (by decide +kernel)
theorem tw143 : Cond.laysFinal "ClosuresThatBounce$Situation" "ClosuresThatBounce$Situation" "latest" "LClosuresThatBounce$Ending;" ∈ lw_good := lw_t1 (i := 143) (by decide +kernel) (by decide +kernel)
theorem tw144 : Cond.soleField "ClosuresThatBounce$Situation" "latest" ∈ lw_good := lw_t1 (i := 144) (by decide +kernel) (by decide +kernel)
theorem tw145 : Cond.lays "ClosuresThatBounce$Situation" "ClosuresThatBounce$Situation" "hasRun" "Z" ∈ lw_good := lw_t1 (i := 145) (by decide +kernel) (by decide +kernel)
theorem tw146 : Cond.soleField "ClosuresThatBounce$Situation" "hasRun" ∈ lw_good := lw_t1 (i := 146) (by decide +kernel) (by decide +kernel)
theorem tw147 : Cond.lays "ClosuresThatBounce$Situation" "ClosuresThatBounce$Situation" "runs" "I" ∈ lw_good := lw_t1 (i := 147) (by decide +kernel) (by decide +kernel)
theorem tw148 : Cond.soleField "ClosuresThatBounce$Situation" "runs" ∈ lw_good := lw_t1 (i := 148) (by decide +kernel) (by decide +kernel)
theorem tw150 : Cond.classLink RX9 19 "ClosuresThatBounce$Machine" ∈ lw_good := lw_t1 (i := 150) (by decide +kernel) (by decide +kernel)
theorem tw151 : Cond.instantiable RX4 13 ∈ lw_good := lw_t1 (i := 151) (by decide +kernel) (by decide +kernel)
theorem tw153 : Cond.instanceMethod yX4_init ∈ lw_good := lw_t1 (i := 153) (by decide +kernel) (by decide +kernel)
theorem tw154 : Cond.code yX4_init prog_6_method_1_code 1 none ∈ lw_good := lw_t1 (i := 154) (by decide +kernel) (by decide +kernel)
theorem tw155 : Cond.methodLink RX4 3 objectInit ∈ lw_good := lw_t1 (i := 155) (by decide +kernel) (by decide +kernel)
theorem tw156 : Cond.classLink RX4 15 "ClosuresThatBounce$Caches" ∈ lw_good := lw_t1 (i := 156) (by decide +kernel) (by decide +kernel)
theorem tw158 : Cond.classLink RX4 22 "ClosuresThatBounce$Ending" ∈ lw_good := lw_t1 (i := 158) (by decide +kernel) (by decide +kernel)
theorem tw160 : Cond.classLink RX4 29 "ClosuresThatBounce$Cells" ∈ lw_good := lw_t1 (i := 160) (by decide +kernel) (by decide +kernel)
theorem tw161 : Cond.instantiable RX1 4 ∈ lw_good := lw_t1 (i := 161) (by decide +kernel) (by decide +kernel)
theorem tw163 : Cond.instanceMethod yX1_init ∈ lw_good := lw_t1 (i := 163) (by decide +kernel) (by decide +kernel)
theorem tw164 : Cond.code yX1_init prog_3_method_1_code 1 none ∈ lw_good := lw_t1 (i := 164) (by decide +kernel) (by decide +kernel)
theorem tw165 : Cond.methodLink RX1 3 objectInit ∈ lw_good := lw_t1 (i := 165) (by decide +kernel) (by decide +kernel)
theorem tw166 : Cond.fieldLink RX1 9 "ClosuresThatBounce$Cells" "variables" "[I" ∈ lw_good := lw_t1 (i := 166) (by decide +kernel) (by decide +kernel)
theorem tw167 : Cond.fieldLink RX1 15 "ClosuresThatBounce$Cells" "values" "[I" ∈ lw_good := lw_t1 (i := 167) (by decide +kernel) (by decide +kernel)
theorem tw168 : Cond.fieldLink RX1 18 "ClosuresThatBounce$Cells" "outer" "[I" ∈ lw_good := lw_t1 (i := 168) (by decide +kernel) (by decide +kernel)
theorem tw169 : Cond.fieldLink RX1 21 "ClosuresThatBounce$Cells" "made" "I" ∈ lw_good := lw_t1 (i := 169) (by decide +kernel) (by decide +kernel)
theorem tw170 : Cond.laysFinal "ClosuresThatBounce$Cells" "ClosuresThatBounce$Cells" "variables" "[I" ∈ lw_good := lw_t1 (i := 170) (by decide +kernel) (by decide +kernel)
theorem tw171 : Cond.soleField "ClosuresThatBounce$Cells" "variables" ∈ lw_good := lw_t1 (i := 171) (by decide +kernel) (by decide +kernel)
theorem tw172 : Cond.laysFinal "ClosuresThatBounce$Cells" "ClosuresThatBounce$Cells" "values" "[I" ∈ lw_good := lw_t1 (i := 172) (by decide +kernel) (by decide +kernel)
theorem tw173 : Cond.soleField "ClosuresThatBounce$Cells" "values" ∈ lw_good := lw_t1 (i := 173) (by decide +kernel) (by decide +kernel)
theorem tw174 : Cond.laysFinal "ClosuresThatBounce$Cells" "ClosuresThatBounce$Cells" "outer" "[I" ∈ lw_good := lw_t1 (i := 174) (by decide +kernel) (by decide +kernel)
theorem tw175 : Cond.soleField "ClosuresThatBounce$Cells" "outer" ∈ lw_good := lw_t1 (i := 175) (by decide +kernel) (by decide +kernel)
theorem tw176 : Cond.lays "ClosuresThatBounce$Cells" "ClosuresThatBounce$Cells" "made" "I" ∈ lw_good := lw_t1 (i := 176) (by decide +kernel) (by decide +kernel)
theorem tw177 : Cond.soleField "ClosuresThatBounce$Cells" "made" ∈ lw_good := lw_t1 (i := 177) (by decide +kernel) (by decide +kernel)
theorem tw179 : Cond.classLink RX4 36 "ClosuresThatBounce$Things" ∈ lw_good := lw_t1 (i := 179) (by decide +kernel) (by decide +kernel)
theorem tw180 : Cond.instantiable RX7 4 ∈ lw_good := lw_t1 (i := 180) (by decide +kernel) (by decide +kernel)
theorem tw182 : Cond.instanceMethod yX7_init ∈ lw_good := lw_t1 (i := 182) (by decide +kernel) (by decide +kernel)
theorem tw183 : Cond.code yX7_init prog_9_method_1_code 1 none ∈ lw_good := lw_t1 (i := 183) (by decide +kernel) (by decide +kernel)
theorem tw184 : Cond.methodLink RX7 3 objectInit ∈ lw_good := lw_t1 (i := 184) (by decide +kernel) (by decide +kernel)
theorem tw185 : Cond.fieldLink RX7 9 "ClosuresThatBounce$Things" "kinds" "[I" ∈ lw_good := lw_t1 (i := 185) (by decide +kernel) (by decide +kernel)
theorem tw186 : Cond.fieldLink RX7 15 "ClosuresThatBounce$Things" "ones" "[I" ∈ lw_good := lw_t1 (i := 186) (by decide +kernel) (by decide +kernel)
theorem tw187 : Cond.fieldLink RX7 18 "ClosuresThatBounce$Things" "twos" "[I" ∈ lw_good := lw_t1 (i := 187) (by decide +kernel) (by decide +kernel)
theorem tw188 : Cond.fieldLink RX7 21 "ClosuresThatBounce$Things" "made" "I" ∈ lw_good := lw_t1 (i := 188) (by decide +kernel) (by decide +kernel)
theorem tw189 : Cond.laysFinal "ClosuresThatBounce$Things" "ClosuresThatBounce$Things" "kinds" "[I" ∈ lw_good := lw_t1 (i := 189) (by decide +kernel) (by decide +kernel)
theorem tw190 : Cond.soleField "ClosuresThatBounce$Things" "kinds" ∈ lw_good := lw_t1 (i := 190) (by decide +kernel) (by decide +kernel)
theorem tw191 : Cond.laysFinal "ClosuresThatBounce$Things" "ClosuresThatBounce$Things" "ones" "[I" ∈ lw_good := lw_t1 (i := 191) (by decide +kernel) (by decide +kernel)
theorem tw192 : Cond.soleField "ClosuresThatBounce$Things" "ones" ∈ lw_good := lw_t1 (i := 192) (by decide +kernel) (by decide +kernel)
theorem tw193 : Cond.laysFinal "ClosuresThatBounce$Things" "ClosuresThatBounce$Things" "twos" "[I" ∈ lw_good := lw_t1 (i := 193) (by decide +kernel) (by decide +kernel)
theorem tw194 : Cond.soleField "ClosuresThatBounce$Things" "twos" ∈ lw_good := lw_t1 (i := 194) (by decide +kernel) (by decide +kernel)
theorem tw195 : Cond.lays "ClosuresThatBounce$Things" "ClosuresThatBounce$Things" "made" "I" ∈ lw_good := lw_t1 (i := 195) (by decide +kernel) (by decide +kernel)
theorem tw196 : Cond.soleField "ClosuresThatBounce$Things" "made" ∈ lw_good := lw_t1 (i := 196) (by decide +kernel) (by decide +kernel)
theorem tw198 : Cond.classLink RX4 43 "ClosuresThatBounce$Waiting" ∈ lw_good := lw_t1 (i := 198) (by decide +kernel) (by decide +kernel)
theorem tw199 : Cond.instantiable RX8 5 ∈ lw_good := lw_t1 (i := 199) (by decide +kernel) (by decide +kernel)
theorem tw201 : Cond.instanceMethod yX8_init ∈ lw_good := lw_t1 (i := 201) (by decide +kernel) (by decide +kernel)
theorem tw202 : Cond.code yX8_init prog_10_method_1_code 1 none ∈ lw_good := lw_t1 (i := 202) (by decide +kernel) (by decide +kernel)
theorem tw203 : Cond.methodLink RX8 3 objectInit ∈ lw_good := lw_t1 (i := 203) (by decide +kernel) (by decide +kernel)
theorem tw204 : Cond.fieldLink RX8 9 "ClosuresThatBounce$Waiting" "expressions" "[I" ∈ lw_good := lw_t1 (i := 204) (by decide +kernel) (by decide +kernel)
theorem tw205 : Cond.fieldLink RX8 15 "ClosuresThatBounce$Waiting" "frames" "[I" ∈ lw_good := lw_t1 (i := 205) (by decide +kernel) (by decide +kernel)
theorem tw206 : Cond.fieldLink RX8 18 "ClosuresThatBounce$Waiting" "stages" "[I" ∈ lw_good := lw_t1 (i := 206) (by decide +kernel) (by decide +kernel)
theorem tw207 : Cond.fieldLink RX8 21 "ClosuresThatBounce$Waiting" "firsts" "[I" ∈ lw_good := lw_t1 (i := 207) (by decide +kernel) (by decide +kernel)
theorem tw208 : Cond.fieldLink RX8 24 "ClosuresThatBounce$Waiting" "height" "I" ∈ lw_good := lw_t1 (i := 208) (by decide +kernel) (by decide +kernel)
theorem tw209 : Cond.laysFinal "ClosuresThatBounce$Waiting" "ClosuresThatBounce$Waiting" "expressions" "[I" ∈ lw_good := lw_t1 (i := 209) (by decide +kernel) (by decide +kernel)
theorem tw210 : Cond.soleField "ClosuresThatBounce$Waiting" "expressions" ∈ lw_good := lw_t1 (i := 210) (by decide +kernel) (by decide +kernel)
theorem tw211 : Cond.laysFinal "ClosuresThatBounce$Waiting" "ClosuresThatBounce$Waiting" "frames" "[I" ∈ lw_good := lw_t1 (i := 211) (by decide +kernel) (by decide +kernel)
theorem tw212 : Cond.soleField "ClosuresThatBounce$Waiting" "frames" ∈ lw_good := lw_t1 (i := 212) (by decide +kernel) (by decide +kernel)
theorem tw213 : Cond.laysFinal "ClosuresThatBounce$Waiting" "ClosuresThatBounce$Waiting" "stages" "[I" ∈ lw_good := lw_t1 (i := 213) (by decide +kernel) (by decide +kernel)
theorem tw214 : Cond.soleField "ClosuresThatBounce$Waiting" "stages" ∈ lw_good := lw_t1 (i := 214) (by decide +kernel) (by decide +kernel)
theorem tw215 : Cond.laysFinal "ClosuresThatBounce$Waiting" "ClosuresThatBounce$Waiting" "firsts" "[I" ∈ lw_good := lw_t1 (i := 215) (by decide +kernel) (by decide +kernel)
theorem tw216 : Cond.soleField "ClosuresThatBounce$Waiting" "firsts" ∈ lw_good := lw_t1 (i := 216) (by decide +kernel) (by decide +kernel)
theorem tw217 : Cond.lays "ClosuresThatBounce$Waiting" "ClosuresThatBounce$Waiting" "height" "I" ∈ lw_good := lw_t1 (i := 217) (by decide +kernel) (by decide +kernel)
theorem tw218 : Cond.soleField "ClosuresThatBounce$Waiting" "height" ∈ lw_good := lw_t1 (i := 218) (by decide +kernel) (by decide +kernel)
theorem tw220 : Cond.classLink RX4 50 "ClosuresThatBounce$Program" ∈ lw_good := lw_t1 (i := 220) (by decide +kernel) (by decide +kernel)
theorem tw221 : Cond.methodLink RX4 52 yX5_init ∈ lw_good := lw_t1 (i := 221) (by decide +kernel) (by decide +kernel)
theorem tw222 : Cond.fieldLink RX4 9 "ClosuresThatBounce$Machine" "globals" "[I" ∈ lw_good := lw_t1 (i := 222) (by decide +kernel) (by decide +kernel)
theorem tw223 : Cond.fieldLink RX6 47 "ClosuresThatBounce$Machine" "globals" "[I" ∈ lw_good := lw_t1 (i := 223) (by decide +kernel) (by decide +kernel)
theorem tw224 : Cond.fieldLink RX9 167 "ClosuresThatBounce$Machine" "globals" "[I" ∈ lw_good := lw_t1 (i := 224) (by decide +kernel) (by decide +kernel)
theorem tw225 : Cond.fieldLink RX4 18 "ClosuresThatBounce$Machine" "caches" "LClosuresThatBounce$Caches;" ∈ lw_good := lw_t1 (i := 225) (by decide +kernel) (by decide +kernel)
theorem tw226 : Cond.fieldLink RX6 54 "ClosuresThatBounce$Machine" "caches" "LClosuresThatBounce$Caches;" ∈ lw_good := lw_t1 (i := 226) (by decide +kernel) (by decide +kernel)
theorem tw227 : Cond.fieldLink RX9 172 "ClosuresThatBounce$Machine" "caches" "LClosuresThatBounce$Caches;" ∈ lw_good := lw_t1 (i := 227) (by decide +kernel) (by decide +kernel)
theorem tw228 : Cond.fieldLink RX4 25 "ClosuresThatBounce$Machine" "ending" "LClosuresThatBounce$Ending;" ∈ lw_good := lw_t1 (i := 228) (by decide +kernel) (by decide +kernel)
theorem tw229 : Cond.fieldLink RX4 32 "ClosuresThatBounce$Machine" "cells" "LClosuresThatBounce$Cells;" ∈ lw_good := lw_t1 (i := 229) (by decide +kernel) (by decide +kernel)
theorem tw230 : Cond.fieldLink RX4 39 "ClosuresThatBounce$Machine" "things" "LClosuresThatBounce$Things;" ∈ lw_good := lw_t1 (i := 230) (by decide +kernel) (by decide +kernel)
theorem tw231 : Cond.fieldLink RX4 46 "ClosuresThatBounce$Machine" "waiting" "LClosuresThatBounce$Waiting;" ∈ lw_good := lw_t1 (i := 231) (by decide +kernel) (by decide +kernel)
theorem tw232 : Cond.fieldLink RX4 53 "ClosuresThatBounce$Machine" "program" "LClosuresThatBounce$Program;" ∈ lw_good := lw_t1 (i := 232) (by decide +kernel) (by decide +kernel)
theorem tw233 : Cond.fieldLink RX4 57 "ClosuresThatBounce$Machine" "mode" "I" ∈ lw_good := lw_t1 (i := 233) (by decide +kernel) (by decide +kernel)
theorem tw234 : Cond.fieldLink RX4 61 "ClosuresThatBounce$Machine" "expression" "I" ∈ lw_good := lw_t1 (i := 234) (by decide +kernel) (by decide +kernel)
theorem tw235 : Cond.fieldLink RX4 64 "ClosuresThatBounce$Machine" "frame" "I" ∈ lw_good := lw_t1 (i := 235) (by decide +kernel) (by decide +kernel)
theorem tw236 : Cond.fieldLink RX4 67 "ClosuresThatBounce$Machine" "value" "I" ∈ lw_good := lw_t1 (i := 236) (by decide +kernel) (by decide +kernel)
theorem tw237 : Cond.fieldLink RX4 70 "ClosuresThatBounce$Machine" "depth" "I" ∈ lw_good := lw_t1 (i := 237) (by decide +kernel) (by decide +kernel)
theorem tw238 : Cond.fieldLink RX4 73 "ClosuresThatBounce$Machine" "failed" "Z" ∈ lw_good := lw_t1 (i := 238) (by decide +kernel) (by decide +kernel)
theorem tw239 : Cond.laysFinal "ClosuresThatBounce$Machine" "ClosuresThatBounce$Machine" "globals" "[I" ∈ lw_good := lw_t1 (i := 239) (by decide +kernel) (by decide +kernel)
theorem tw240 : Cond.soleField "ClosuresThatBounce$Machine" "globals" ∈ lw_good := lw_t2 (i := 0) (by decide +kernel) (by decide +kernel)
theorem tw241 : Cond.laysFinal "ClosuresThatBounce$Machine" "ClosuresThatBounce$Machine" "caches" "LClosuresThatBounce$Caches;" ∈ lw_good := lw_t2 (i := 1) (by decide +kernel) (by decide +kernel)
theorem tw242 : Cond.soleField "ClosuresThatBounce$Machine" "caches" ∈ lw_good := lw_t2 (i := 2) (by decide +kernel) (by decide +kernel)
theorem tw243 : Cond.laysFinal "ClosuresThatBounce$Machine" "ClosuresThatBounce$Machine" "ending" "LClosuresThatBounce$Ending;" ∈ lw_good := lw_t2 (i := 3) (by decide +kernel) (by decide +kernel)
theorem tw244 : Cond.soleField "ClosuresThatBounce$Machine" "ending" ∈ lw_good := lw_t2 (i := 4) (by decide +kernel) (by decide +kernel)
theorem tw245 : Cond.laysFinal "ClosuresThatBounce$Machine" "ClosuresThatBounce$Machine" "cells" "LClosuresThatBounce$Cells;" ∈ lw_good := lw_t2 (i := 5) (by decide +kernel) (by decide +kernel)
theorem tw246 : Cond.soleField "ClosuresThatBounce$Machine" "cells" ∈ lw_good := lw_t2 (i := 6) (by decide +kernel) (by decide +kernel)
theorem tw247 : Cond.laysFinal "ClosuresThatBounce$Machine" "ClosuresThatBounce$Machine" "things" "LClosuresThatBounce$Things;" ∈ lw_good := lw_t2 (i := 7) (by decide +kernel) (by decide +kernel)
theorem tw248 : Cond.soleField "ClosuresThatBounce$Machine" "things" ∈ lw_good := lw_t2 (i := 8) (by decide +kernel) (by decide +kernel)
theorem tw249 : Cond.laysFinal "ClosuresThatBounce$Machine" "ClosuresThatBounce$Machine" "waiting" "LClosuresThatBounce$Waiting;" ∈ lw_good := lw_t2 (i := 9) (by decide +kernel) (by decide +kernel)
theorem tw250 : Cond.soleField "ClosuresThatBounce$Machine" "waiting" ∈ lw_good := lw_t2 (i := 10) (by decide +kernel) (by decide +kernel)
theorem tw251 : Cond.lays "ClosuresThatBounce$Machine" "ClosuresThatBounce$Machine" "program" "LClosuresThatBounce$Program;" ∈ lw_good := lw_t2 (i := 11) (by decide +kernel) (by decide +kernel)
theorem tw252 : Cond.soleField "ClosuresThatBounce$Machine" "program" ∈ lw_good := lw_t2 (i := 12) (by decide +kernel) (by decide +kernel)
theorem tw253 : Cond.lays "ClosuresThatBounce$Machine" "ClosuresThatBounce$Machine" "mode" "I" ∈ lw_good := lw_t2 (i := 13) (by decide +kernel) (by decide +kernel)
theorem tw254 : Cond.soleField "ClosuresThatBounce$Machine" "mode" ∈ lw_good := lw_t2 (i := 14) (by decide +kernel) (by decide +kernel)
theorem tw255 : Cond.lays "ClosuresThatBounce$Machine" "ClosuresThatBounce$Machine" "expression" "I" ∈ lw_good := lw_t2 (i := 15) (by decide +kernel) (by decide +kernel)
theorem tw256 : Cond.soleField "ClosuresThatBounce$Machine" "expression" ∈ lw_good := lw_t2 (i := 16) (by decide +kernel) (by decide +kernel)
theorem tw257 : Cond.lays "ClosuresThatBounce$Machine" "ClosuresThatBounce$Machine" "frame" "I" ∈ lw_good := lw_t2 (i := 17) (by decide +kernel) (by decide +kernel)
theorem tw258 : Cond.soleField "ClosuresThatBounce$Machine" "frame" ∈ lw_good := lw_t2 (i := 18) (by decide +kernel) (by decide +kernel)
theorem tw259 : Cond.lays "ClosuresThatBounce$Machine" "ClosuresThatBounce$Machine" "value" "I" ∈ lw_good := lw_t2 (i := 19) (by decide +kernel) (by decide +kernel)
theorem tw260 : Cond.soleField "ClosuresThatBounce$Machine" "value" ∈ lw_good := lw_t2 (i := 20) (by decide +kernel) (by decide +kernel)
theorem tw261 : Cond.lays "ClosuresThatBounce$Machine" "ClosuresThatBounce$Machine" "depth" "I" ∈ lw_good := lw_t2 (i := 21) (by decide +kernel) (by decide +kernel)
theorem tw262 : Cond.soleField "ClosuresThatBounce$Machine" "depth" ∈ lw_good := lw_t2 (i := 22) (by decide +kernel) (by decide +kernel)
theorem tw263 : Cond.lays "ClosuresThatBounce$Machine" "ClosuresThatBounce$Machine" "failed" "Z" ∈ lw_good := lw_t2 (i := 23) (by decide +kernel) (by decide +kernel)
theorem tw264 : Cond.soleField "ClosuresThatBounce$Machine" "failed" ∈ lw_good := lw_t2 (i := 24) (by decide +kernel) (by decide +kernel)
theorem tw266 : Cond.classLink RX9 26 "ClosuresThatBounce$Letters" ∈ lw_good := lw_t2 (i := 26) (by decide +kernel) (by decide +kernel)
theorem tw267 : Cond.instantiable RX3 8 ∈ lw_good := lw_t2 (i := 27) (by decide +kernel) (by decide +kernel)
theorem tw269 : Cond.instanceMethod yX3_init ∈ lw_good := lw_t2 (i := 29) (by decide +kernel) (by decide +kernel)
theorem tw270 : Cond.code yX3_init prog_5_method_1_code 1 none ∈ lw_good := lw_t2 (i := 30) (by decide +kernel) (by decide +kernel)
theorem tw271 : Cond.methodLink RX3 3 objectInit ∈ lw_good := lw_t2 (i := 31) (by decide +kernel) (by decide +kernel)
theorem tw272 : Cond.fieldLink RX3 9 "ClosuresThatBounce$Letters" "told" "[I" ∈ lw_good := lw_t2 (i := 32) (by decide +kernel) (by decide +kernel)
theorem tw273 : Cond.fieldLink RX3 15 "ClosuresThatBounce$Letters" "owners" "[I" ∈ lw_good := lw_t2 (i := 33) (by decide +kernel) (by decide +kernel)
theorem tw274 : Cond.fieldLink RX3 18 "ClosuresThatBounce$Letters" "slots" "[I" ∈ lw_good := lw_t2 (i := 34) (by decide +kernel) (by decide +kernel)
theorem tw275 : Cond.fieldLink RX3 21 "ClosuresThatBounce$Letters" "comingOwners" "[I" ∈ lw_good := lw_t2 (i := 35) (by decide +kernel) (by decide +kernel)
theorem tw276 : Cond.fieldLink RX3 24 "ClosuresThatBounce$Letters" "comingSlots" "[I" ∈ lw_good := lw_t2 (i := 36) (by decide +kernel) (by decide +kernel)
theorem tw277 : Cond.fieldLink RX3 27 "ClosuresThatBounce$Letters" "coming" "I" ∈ lw_good := lw_t2 (i := 37) (by decide +kernel) (by decide +kernel)
theorem tw278 : Cond.fieldLink RX3 31 "ClosuresThatBounce$Letters" "expressions" "I" ∈ lw_good := lw_t2 (i := 38) (by decide +kernel) (by decide +kernel)
theorem tw279 : Cond.fieldLink RX3 34 "ClosuresThatBounce$Letters" "length" "I" ∈ lw_good := lw_t2 (i := 39) (by decide +kernel) (by decide +kernel)
theorem tw280 : Cond.fieldLink RX9 215 "ClosuresThatBounce$Letters" "length" "I" ∈ lw_good := lw_t2 (i := 40) (by decide +kernel) (by decide +kernel)
theorem tw281 : Cond.laysFinal "ClosuresThatBounce$Letters" "ClosuresThatBounce$Letters" "told" "[I" ∈ lw_good := lw_t2 (i := 41) (by decide +kernel) (by decide +kernel)
theorem tw282 : Cond.soleField "ClosuresThatBounce$Letters" "told" ∈ lw_good := lw_t2 (i := 42) (by decide +kernel) (by decide +kernel)
theorem tw283 : Cond.laysFinal "ClosuresThatBounce$Letters" "ClosuresThatBounce$Letters" "owners" "[I" ∈ lw_good := lw_t2 (i := 43) (by decide +kernel) (by decide +kernel)
theorem tw284 : Cond.soleField "ClosuresThatBounce$Letters" "owners" ∈ lw_good := lw_t2 (i := 44) (by decide +kernel) (by decide +kernel)
theorem tw285 : Cond.laysFinal "ClosuresThatBounce$Letters" "ClosuresThatBounce$Letters" "slots" "[I" ∈ lw_good := lw_t2 (i := 45) (by decide +kernel) (by decide +kernel)
theorem tw286 : Cond.soleField "ClosuresThatBounce$Letters" "slots" ∈ lw_good := lw_t2 (i := 46) (by decide +kernel) (by decide +kernel)
theorem tw287 : Cond.laysFinal "ClosuresThatBounce$Letters" "ClosuresThatBounce$Letters" "comingOwners" "[I" ∈ lw_good := lw_t2 (i := 47) (by decide +kernel) (by decide +kernel)
theorem tw288 : Cond.soleField "ClosuresThatBounce$Letters" "comingOwners" ∈ lw_good := lw_t2 (i := 48) (by decide +kernel) (by decide +kernel)
theorem tw289 : Cond.laysFinal "ClosuresThatBounce$Letters" "ClosuresThatBounce$Letters" "comingSlots" "[I" ∈ lw_good := lw_t2 (i := 49) (by decide +kernel) (by decide +kernel)
theorem tw290 : Cond.soleField "ClosuresThatBounce$Letters" "comingSlots" ∈ lw_good := lw_t2 (i := 50) (by decide +kernel) (by decide +kernel)
theorem tw291 : Cond.lays "ClosuresThatBounce$Letters" "ClosuresThatBounce$Letters" "coming" "I" ∈ lw_good := lw_t2 (i := 51) (by decide +kernel) (by decide +kernel)
theorem tw292 : Cond.soleField "ClosuresThatBounce$Letters" "coming" ∈ lw_good := lw_t2 (i := 52) (by decide +kernel) (by decide +kernel)
theorem tw293 : Cond.lays "ClosuresThatBounce$Letters" "ClosuresThatBounce$Letters" "expressions" "I" ∈ lw_good := lw_t2 (i := 53) (by decide +kernel) (by decide +kernel)
theorem tw294 : Cond.soleField "ClosuresThatBounce$Letters" "expressions" ∈ lw_good := lw_t2 (i := 54) (by decide +kernel) (by decide +kernel)
theorem tw295 : Cond.lays "ClosuresThatBounce$Letters" "ClosuresThatBounce$Letters" "length" "I" ∈ lw_good := lw_t2 (i := 55) (by decide +kernel) (by decide +kernel)
theorem tw296 : Cond.soleField "ClosuresThatBounce$Letters" "length" ∈ lw_good := lw_t2 (i := 56) (by decide +kernel) (by decide +kernel)
theorem tw298 : Cond.fieldLink RX9 10 "ClosuresThatBounce" "now" "LClosuresThatBounce$Situation;" ∈ lw_good := lw_t2 (i := 58) (by decide +kernel) (by decide +kernel)
theorem tw299 : Cond.fieldLink RX9 16 "ClosuresThatBounce" "kept" "LClosuresThatBounce$Situation;" ∈ lw_good := lw_t2 (i := 59) (by decide +kernel) (by decide +kernel)
theorem tw300 : Cond.fieldLink RX9 22 "ClosuresThatBounce" "machine" "LClosuresThatBounce$Machine;" ∈ lw_good := lw_t2 (i := 60) (by decide +kernel) (by decide +kernel)
theorem tw301 : Cond.fieldLink RX9 29 "ClosuresThatBounce" "letters" "LClosuresThatBounce$Letters;" ∈ lw_good := lw_t2 (i := 61) (by decide +kernel) (by decide +kernel)
theorem tw302 : Cond.fieldLink RX9 33 "ClosuresThatBounce" "rowNumbers" "[I" ∈ lw_good := lw_t2 (i := 62) (by decide +kernel) (by decide +kernel)
theorem tw303 : Cond.fieldLink RX9 37 "ClosuresThatBounce" "refusals" "[I" ∈ lw_good := lw_t2 (i := 63) (by decide +kernel) (by decide +kernel)
theorem tw304 : Cond.fieldLink RX9 40 "ClosuresThatBounce" "endsOfTries" "[I" ∈ lw_good := lw_t2 (i := 64) (by decide +kernel) (by decide +kernel)
theorem tw305 : Cond.fieldLink RX9 43 "ClosuresThatBounce" "rowLength" "I" ∈ lw_good := lw_t2 (i := 65) (by decide +kernel) (by decide +kernel)
theorem tw306 : Cond.fieldLink RX9 47 "ClosuresThatBounce" "imageTaken" "Z" ∈ lw_good := lw_t2 (i := 66) (by decide +kernel) (by decide +kernel)
theorem tw307 : Cond.laysFinal "ClosuresThatBounce" "ClosuresThatBounce" "now" "LClosuresThatBounce$Situation;" ∈ lw_good := lw_t2 (i := 67) (by decide +kernel) (by decide +kernel)
theorem tw308 : Cond.soleField "ClosuresThatBounce" "now" ∈ lw_good := lw_t2 (i := 68) (by decide +kernel) (by decide +kernel)
theorem tw309 : Cond.laysFinal "ClosuresThatBounce" "ClosuresThatBounce" "kept" "LClosuresThatBounce$Situation;" ∈ lw_good := lw_t2 (i := 69) (by decide +kernel) (by decide +kernel)
theorem tw310 : Cond.soleField "ClosuresThatBounce" "kept" ∈ lw_good := lw_t2 (i := 70) (by decide +kernel) (by decide +kernel)
theorem tw311 : Cond.laysFinal "ClosuresThatBounce" "ClosuresThatBounce" "machine" "LClosuresThatBounce$Machine;" ∈ lw_good := lw_t2 (i := 71) (by decide +kernel) (by decide +kernel)
theorem tw312 : Cond.soleField "ClosuresThatBounce" "machine" ∈ lw_good := lw_t2 (i := 72) (by decide +kernel) (by decide +kernel)
theorem tw313 : Cond.laysFinal "ClosuresThatBounce" "ClosuresThatBounce" "letters" "LClosuresThatBounce$Letters;" ∈ lw_good := lw_t2 (i := 73) (by decide +kernel) (by decide +kernel)
theorem tw314 : Cond.soleField "ClosuresThatBounce" "letters" ∈ lw_good := lw_t2 (i := 74) (by decide +kernel) (by decide +kernel)
theorem tw315 : Cond.laysFinal "ClosuresThatBounce" "ClosuresThatBounce" "rowNumbers" "[I" ∈ lw_good := lw_t2 (i := 75) (by decide +kernel) (by decide +kernel)
theorem tw316 : Cond.soleField "ClosuresThatBounce" "rowNumbers" ∈ lw_good := lw_t2 (i := 76) (by decide +kernel) (by decide +kernel)
theorem tw317 : Cond.laysFinal "ClosuresThatBounce" "ClosuresThatBounce" "refusals" "[I" ∈ lw_good := lw_t2 (i := 77) (by decide +kernel) (by decide +kernel)
theorem tw318 : Cond.soleField "ClosuresThatBounce" "refusals" ∈ lw_good := lw_t2 (i := 78) (by decide +kernel) (by decide +kernel)
theorem tw319 : Cond.laysFinal "ClosuresThatBounce" "ClosuresThatBounce" "endsOfTries" "[I" ∈ lw_good := lw_t2 (i := 79) (by decide +kernel) (by decide +kernel)
theorem tw320 : Cond.soleField "ClosuresThatBounce" "endsOfTries" ∈ lw_good := lw_t2 (i := 80) (by decide +kernel) (by decide +kernel)
theorem tw321 : Cond.lays "ClosuresThatBounce" "ClosuresThatBounce" "rowLength" "I" ∈ lw_good := lw_t2 (i := 81) (by decide +kernel) (by decide +kernel)
theorem tw322 : Cond.soleField "ClosuresThatBounce" "rowLength" ∈ lw_good := lw_t2 (i := 82) (by decide +kernel) (by decide +kernel)
theorem tw323 : Cond.lays "ClosuresThatBounce" "ClosuresThatBounce" "imageTaken" "Z" ∈ lw_good := lw_t2 (i := 83) (by decide +kernel) (by decide +kernel)
theorem tw324 : Cond.soleField "ClosuresThatBounce" "imageTaken" ∈ lw_good := lw_t2 (i := 84) (by decide +kernel) (by decide +kernel)
theorem tw326 : Cond.methodLink RL 13 yX9_letter ∈ lw_good := lw_t2 (i := 86) (by decide +kernel) (by decide +kernel)
theorem tw327 : Cond.instanceMethod yX9_letter ∈ lw_good := lw_t2 (i := 87) (by decide +kernel) (by decide +kernel)
theorem tw328 : Cond.selects RX9 yX9_letter yX9_letter ∈ lw_good := lw_t2 (i := 88) (by decide +kernel) (by decide +kernel)
theorem tw329 : Cond.code yX9_letter prog_1_method_2_code 2 (some .int) ∈ lw_good := lw_t2 (i := 89) (by decide +kernel) (by decide +kernel)
theorem tw330 : Cond.methodLink RX9 51 yX9_refuse ∈ lw_good := lw_t2 (i := 90) (by decide +kernel) (by decide +kernel)
theorem tw332 : Cond.instanceMethod yX9_refuse ∈ lw_good := lw_t2 (i := 92) (by decide +kernel) (by decide +kernel)
theorem tw333 : Cond.code yX9_refuse prog_1_method_30_code 2 (some .int) ∈ lw_good := lw_t2 (i := 93) (by decide +kernel) (by decide +kernel)
theorem tw334 : Cond.methodLink RX9 95 yX9_at ∈ lw_good := lw_t2 (i := 94) (by decide +kernel) (by decide +kernel)
theorem tw335 : Cond.static yX9_at ∈ lw_good := lw_t2 (i := 95) (by decide +kernel) (by decide +kernel)
theorem tw336 : Cond.code yX9_at prog_1_method_42_code 2 (some .int) ∈ lw_good := lw_t2 (i := 96) (by decide +kernel) (by decide +kernel)
theorem tw337 : Cond.methodLink RX9 103 yX9_put ∈ lw_good := lw_t2 (i := 97) (by decide +kernel) (by decide +kernel)
theorem tw338 : Cond.static yX9_put ∈ lw_good := lw_t2 (i := 98) (by decide +kernel) (by decide +kernel)
theorem tw339 : Cond.code yX9_put prog_1_method_43_code 3 none ∈ lw_good := lw_t2 (i := 99) (by decide +kernel) (by decide +kernel)
theorem tw340 : Cond.methodLink RX9 55 yX3_isFull ∈ lw_good := lw_t2 (i := 100) (by decide +kernel) (by decide +kernel)
theorem tw341 : Cond.instanceMethod yX3_isFull ∈ lw_good := lw_t2 (i := 101) (by decide +kernel) (by decide +kernel)
theorem tw342 : Cond.selects RX3 yX3_isFull yX3_isFull ∈ lw_good := lw_t2 (i := 102) (by decide +kernel) (by decide +kernel)
theorem tw343 : Cond.code yX3_isFull prog_5_method_2_code 1 (some .boolean) ∈ lw_good := lw_t2 (i := 103) (by decide +kernel) (by decide +kernel)
theorem tw344 : Cond.methodLink RX9 59 yX3_add ∈ lw_good := lw_t2 (i := 104) (by decide +kernel) (by decide +kernel)
theorem tw345 : Cond.instanceMethod yX3_add ∈ lw_good := lw_t2 (i := 105) (by decide +kernel) (by decide +kernel)
theorem tw346 : Cond.selects RX3 yX3_add yX3_add ∈ lw_good := lw_t2 (i := 106) (by decide +kernel) (by decide +kernel)
theorem tw347 : Cond.code yX3_add prog_5_method_3_code 2 (some .int) ∈ lw_good := lw_t2 (i := 107) (by decide +kernel) (by decide +kernel)
theorem tw349 : Cond.methodLink RL 18 yX9_program ∈ lw_good := lw_t2 (i := 109) (by decide +kernel) (by decide +kernel)
theorem tw350 : Cond.instanceMethod yX9_program ∈ lw_good := lw_t2 (i := 110) (by decide +kernel) (by decide +kernel)
theorem tw351 : Cond.selects RX9 yX9_program yX9_program ∈ lw_good := lw_t2 (i := 111) (by decide +kernel) (by decide +kernel)
theorem tw352 : Cond.code yX9_program prog_1_method_3_code 2 (some .int) ∈ lw_good := lw_t2 (i := 112) (by decide +kernel) (by decide +kernel)
theorem tw353 : Cond.methodLink RX9 62 yX3_findFault ∈ lw_good := lw_t2 (i := 113) (by decide +kernel) (by decide +kernel)
theorem tw354 : Cond.instanceMethod yX3_findFault ∈ lw_good := lw_t2 (i := 114) (by decide +kernel) (by decide +kernel)
theorem tw355 : Cond.selects RX3 yX3_findFault yX3_findFault ∈ lw_good := lw_t2 (i := 115) (by decide +kernel) (by decide +kernel)
theorem tw356 : Cond.code yX3_findFault prog_5_method_5_code 2 (some .int) ∈ lw_good := lw_t2 (i := 116) (by decide +kernel) (by decide +kernel)
theorem tw357 : Cond.methodLink RX3 41 yX3_await ∈ lw_good := lw_t2 (i := 117) (by decide +kernel) (by decide +kernel)
theorem tw359 : Cond.instanceMethod yX3_await ∈ lw_good := lw_t2 (i := 119) (by decide +kernel) (by decide +kernel)
theorem tw360 : Cond.code yX3_await prog_5_method_8_code 3 none ∈ lw_good := lw_t2 (i := 120) (by decide +kernel) (by decide +kernel)
theorem tw361 : Cond.methodLink RX3 45 yX3_fits ∈ lw_good := lw_t2 (i := 121) (by decide +kernel) (by decide +kernel)
theorem tw363 : Cond.instanceMethod yX3_fits ∈ lw_good := lw_t2 (i := 123) (by decide +kernel) (by decide +kernel)
theorem tw364 : Cond.code yX3_fits prog_5_method_7_code 6 (some .boolean) ∈ lw_good := lw_t2 (i := 124) (by decide +kernel) (by decide +kernel)
theorem tw366 : Cond.methodLink RX3 69 yX3_isName ∈ lw_good := lw_t2 (i := 126) (by decide +kernel) (by decide +kernel)
theorem tw367 : Cond.static yX3_isName ∈ lw_good := lw_t2 (i := 127) (by decide +kernel) (by decide +kernel)
theorem tw368 : Cond.code yX3_isName prog_5_method_10_code 1 (some .boolean) ∈ lw_good := lw_t2 (i := 128) (by decide +kernel) (by decide +kernel)
theorem tw369 : Cond.methodLink RX3 72 yX3_isSign ∈ lw_good := lw_t2 (i := 129) (by decide +kernel) (by decide +kernel)
theorem tw370 : Cond.static yX3_isSign ∈ lw_good := lw_t2 (i := 130) (by decide +kernel) (by decide +kernel)
theorem tw371 : Cond.code yX3_isSign prog_5_method_13_code 1 (some .boolean) ∈ lw_good := lw_t2 (i := 131) (by decide +kernel) (by decide +kernel)
theorem tw372 : Cond.methodLink RX3 90 yX3_isDigit ∈ lw_good := lw_t2 (i := 132) (by decide +kernel) (by decide +kernel)
theorem tw373 : Cond.static yX3_isDigit ∈ lw_good := lw_t2 (i := 133) (by decide +kernel) (by decide +kernel)
theorem tw374 : Cond.code yX3_isDigit prog_5_method_11_code 1 (some .boolean) ∈ lw_good := lw_t2 (i := 134) (by decide +kernel) (by decide +kernel)
theorem tw375 : Cond.methodLink RX3 75 yX3_partsOf ∈ lw_good := lw_t2 (i := 135) (by decide +kernel) (by decide +kernel)
theorem tw376 : Cond.static yX3_partsOf ∈ lw_good := lw_t2 (i := 136) (by decide +kernel) (by decide +kernel)
theorem tw377 : Cond.code yX3_partsOf prog_5_method_14_code 1 (some (.object "java/lang/String")) ∈ lw_good := lw_t2 (i := 137) (by decide +kernel) (by decide +kernel)
theorem tw385 : Cond.methodLink RX3 93 yJ0_isEmpty_aae02 ∈ lw_good := lw_t2 (i := 145) (by decide +kernel) (by decide +kernel)
theorem tw386 : Cond.instanceMethod yJ0_isEmpty_aae02 ∈ lw_good := lw_t2 (i := 146) (by decide +kernel) (by decide +kernel)
theorem tw387 : Cond.selects RJ0 yJ0_isEmpty_aae02 yJ0_isEmpty_aae02 ∈ lw_good := lw_t2 (i := 147) (by decide +kernel) (by decide +kernel)
theorem tw388 : Cond.code yJ0_isEmpty_aae02 prog_15_method_55_code 1 (some .boolean) ∈ lw_good := lw_t2 (i := 148) (by decide +kernel) (by decide +kernel)
theorem tw389 : Cond.methodLink RX3 79 yJ0_length_8abf5 ∈ lw_good := lw_t2 (i := 149) (by decide +kernel) (by decide +kernel)
theorem tw390 : Cond.instanceMethod yJ0_length_8abf5 ∈ lw_good := lw_t2 (i := 150) (by decide +kernel) (by decide +kernel)
theorem tw391 : Cond.selects RJ0 yJ0_length_8abf5 yJ0_length_8abf5 ∈ lw_good := lw_t2 (i := 151) (by decide +kernel) (by decide +kernel)
theorem tw392 : Cond.code yJ0_length_8abf5 prog_15_method_54_code 1 (some .int) ∈ lw_good := lw_t2 (i := 152) (by decide +kernel) (by decide +kernel)
theorem tw393 : Cond.methodLink RJ0 335 yJ0_coder_7d493 ∈ lw_good := lw_t2 (i := 153) (by decide +kernel) (by decide +kernel)
theorem tw394 : Cond.instanceMethod yJ0_coder_7d493 ∈ lw_good := lw_t2 (i := 154) (by decide +kernel) (by decide +kernel)
theorem tw395 : Cond.selects RJ0 yJ0_coder_7d493 yJ0_coder_7d493 ∈ lw_good := lw_t2 (i := 155) (by decide +kernel) (by decide +kernel)
theorem tw396 : Cond.code yJ0_coder_7d493 prog_15_method_152_code 1 (some .byte) ∈ lw_good := lw_t2 (i := 156) (by decide +kernel) (by decide +kernel)
theorem tw397 : Cond.fieldLink RJ0 38 "java/lang/String" "COMPACT_STRINGS" "Z" ∈ lw_good := lw_t2 (i := 157) (by decide +kernel) (by decide +kernel)
theorem tw399 : Cond.methodLink RX3 83 yJ0_charAt_5068e ∈ lw_good := lw_t2 (i := 159) (by decide +kernel) (by decide +kernel)
theorem tw400 : Cond.instanceMethod yJ0_charAt_5068e ∈ lw_good := lw_t2 (i := 160) (by decide +kernel) (by decide +kernel)
theorem tw401 : Cond.selects RJ0 yJ0_charAt_5068e yJ0_charAt_5068e ∈ lw_good := lw_t2 (i := 161) (by decide +kernel) (by decide +kernel)
theorem tw402 : Cond.code yJ0_charAt_5068e prog_15_method_56_code 2 (some .char) ∈ lw_good := lw_t2 (i := 162) (by decide +kernel) (by decide +kernel)
theorem tw403 : Cond.methodLink RJ0 492 yJ0_isLatin1_aae02 ∈ lw_good := lw_t2 (i := 163) (by decide +kernel) (by decide +kernel)
theorem tw404 : Cond.instanceMethod yJ0_isLatin1_aae02 ∈ lw_good := lw_t2 (i := 164) (by decide +kernel) (by decide +kernel)
theorem tw405 : Cond.selects RJ0 yJ0_isLatin1_aae02 yJ0_isLatin1_aae02 ∈ lw_good := lw_t2 (i := 165) (by decide +kernel) (by decide +kernel)
theorem tw406 : Cond.code yJ0_isLatin1_aae02 prog_15_method_154_code 1 (some .boolean) ∈ lw_good := lw_t2 (i := 166) (by decide +kernel) (by decide +kernel)
theorem tw407 : Cond.methodLink RJ0 495 yJ1_charAt_3b067 ∈ lw_good := lw_t2 (i := 167) (by decide +kernel) (by decide +kernel)
theorem tw408 : Cond.static yJ1_charAt_3b067 ∈ lw_good := lw_t2 (i := 168) (by decide +kernel) (by decide +kernel)
theorem tw409 : Cond.code yJ1_charAt_3b067 prog_16_method_2_code 2 (some .char) ∈ lw_good := lw_t2 (i := 169) (by decide +kernel) (by decide +kernel)
theorem tw410 : Cond.methodLink RJ1 9 yJ0_checkIndex_df160 ∈ lw_good := lw_t2 (i := 170) (by decide +kernel) (by decide +kernel)
theorem tw411 : Cond.static yJ0_checkIndex_df160 ∈ lw_good := lw_t2 (i := 171) (by decide +kernel) (by decide +kernel)
theorem tw412 : Cond.code yJ0_checkIndex_df160 prog_15_method_155_code 2 none ∈ lw_good := lw_t2 (i := 172) (by decide +kernel) (by decide +kernel)
theorem tw413 : Cond.fieldLink RJ0 1053 "jdk/internal/util/Preconditions" "SIOOBE_FORMATTER" "Ljava/util/function/BiFunction;" ∈ lw_good := lw_t2 (i := 173) (by decide +kernel) (by decide +kernel)
theorem tw415 : Cond.methodLink RJ0 1059 yJ3_checkIndex_8e157 ∈ lw_good := lw_t2 (i := 175) (by decide +kernel) (by decide +kernel)
theorem tw416 : Cond.static yJ3_checkIndex_8e157 ∈ lw_good := lw_t2 (i := 176) (by decide +kernel) (by decide +kernel)
theorem tw417 : Cond.code yJ3_checkIndex_8e157 prog_19_method_11_code 3 (some .int) ∈ lw_good := lw_t2 (i := 177) (by decide +kernel) (by decide +kernel)
theorem tw418 : Cond.methodLink RJ0 498 yJ2_charAt_3b067 ∈ lw_good := lw_t2 (i := 178) (by decide +kernel) (by decide +kernel)
theorem tw419 : Cond.static yJ2_charAt_3b067 ∈ lw_good := lw_t2 (i := 179) (by decide +kernel) (by decide +kernel)
theorem tw420 : Cond.code yJ2_charAt_3b067 prog_17_method_83_code 2 (some .char) ∈ lw_good := lw_t2 (i := 180) (by decide +kernel) (by decide +kernel)
theorem tw421 : Cond.methodLink RJ2 67 yJ2_checkIndex_2214a ∈ lw_good := lw_t2 (i := 181) (by decide +kernel) (by decide +kernel)
theorem tw422 : Cond.static yJ2_checkIndex_2214a ∈ lw_good := lw_t2 (i := 182) (by decide +kernel) (by decide +kernel)
theorem tw423 : Cond.code yJ2_checkIndex_2214a prog_17_method_91_code 2 none ∈ lw_good := lw_t2 (i := 183) (by decide +kernel) (by decide +kernel)
theorem tw424 : Cond.methodLink RJ2 48 yJ2_length_9d52b ∈ lw_good := lw_t2 (i := 184) (by decide +kernel) (by decide +kernel)
theorem tw425 : Cond.static yJ2_length_9d52b ∈ lw_good := lw_t2 (i := 185) (by decide +kernel) (by decide +kernel)
theorem tw426 : Cond.code yJ2_length_9d52b prog_17_method_6_code 1 (some .int) ∈ lw_good := lw_t2 (i := 186) (by decide +kernel) (by decide +kernel)
theorem tw427 : Cond.methodLink RJ2 414 yJ0_checkIndex_df160 ∈ lw_good := lw_t2 (i := 187) (by decide +kernel) (by decide +kernel)
theorem tw428 : Cond.methodLink RJ2 71 yJ2_getChar_3b067 ∈ lw_good := lw_t2 (i := 188) (by decide +kernel) (by decide +kernel)
theorem tw429 : Cond.static yJ2_getChar_3b067 ∈ lw_good := lw_t2 (i := 189) (by decide +kernel) (by decide +kernel)
theorem tw430 : Cond.code yJ2_getChar_3b067 prog_17_method_5_code 2 (some .char) ∈ lw_good := lw_t2 (i := 190) (by decide +kernel) (by decide +kernel)
theorem tw431 : Cond.fieldLink RJ2 44 "java/lang/StringUTF16" "$assertionsDisabled" "Z" ∈ lw_good := lw_t2 (i := 191) (by decide +kernel) (by decide +kernel)
theorem tw433 : Cond.fieldLink RJ2 59 "java/lang/StringUTF16" "HI_BYTE_SHIFT" "I" ∈ lw_good := lw_t2 (i := 193) (by decide +kernel) (by decide +kernel)
theorem tw435 : Cond.fieldLink RJ2 63 "java/lang/StringUTF16" "LO_BYTE_SHIFT" "I" ∈ lw_good := lw_t2 (i := 195) (by decide +kernel) (by decide +kernel)
theorem tw437 : Cond.methodLink RX3 49 yX3_placeBeyondLimits ∈ lw_good := lw_t2 (i := 197) (by decide +kernel) (by decide +kernel)
theorem tw439 : Cond.instanceMethod yX3_placeBeyondLimits ∈ lw_good := lw_t2 (i := 199) (by decide +kernel) (by decide +kernel)
theorem tw440 : Cond.code yX3_placeBeyondLimits prog_5_method_9_code 4 (some .int) ∈ lw_good := lw_t2 (i := 200) (by decide +kernel) (by decide +kernel)
theorem tw441 : Cond.methodLink RX3 87 yX3_isSite ∈ lw_good := lw_t2 (i := 201) (by decide +kernel) (by decide +kernel)
theorem tw442 : Cond.static yX3_isSite ∈ lw_good := lw_t2 (i := 202) (by decide +kernel) (by decide +kernel)
theorem tw443 : Cond.code yX3_isSite prog_5_method_12_code 1 (some .boolean) ∈ lw_good := lw_t2 (i := 203) (by decide +kernel) (by decide +kernel)
theorem tw444 : Cond.methodLink RX9 70 yX3_writeInto ∈ lw_good := lw_t2 (i := 204) (by decide +kernel) (by decide +kernel)
theorem tw445 : Cond.instanceMethod yX3_writeInto ∈ lw_good := lw_t2 (i := 205) (by decide +kernel) (by decide +kernel)
theorem tw446 : Cond.selects RX3 yX3_writeInto yX3_writeInto ∈ lw_good := lw_t2 (i := 206) (by decide +kernel) (by decide +kernel)
theorem tw447 : Cond.code yX3_writeInto prog_5_method_6_code 6 none ∈ lw_good := lw_t2 (i := 207) (by decide +kernel) (by decide +kernel)
theorem tw448 : Cond.methodLink RX3 53 yX5_empty ∈ lw_good := lw_t2 (i := 208) (by decide +kernel) (by decide +kernel)
theorem tw449 : Cond.instanceMethod yX5_empty ∈ lw_good := lw_t2 (i := 209) (by decide +kernel) (by decide +kernel)
theorem tw450 : Cond.selects RX5 yX5_empty yX5_empty ∈ lw_good := lw_t2 (i := 210) (by decide +kernel) (by decide +kernel)
theorem tw451 : Cond.code yX5_empty prog_7_method_9_code 1 none ∈ lw_good := lw_t2 (i := 211) (by decide +kernel) (by decide +kernel)
theorem tw452 : Cond.methodLink RX3 62 yX5_nameVariable ∈ lw_good := lw_t2 (i := 212) (by decide +kernel) (by decide +kernel)
theorem tw453 : Cond.instanceMethod yX5_nameVariable ∈ lw_good := lw_t2 (i := 213) (by decide +kernel) (by decide +kernel)
theorem tw454 : Cond.selects RX5 yX5_nameVariable yX5_nameVariable ∈ lw_good := lw_t2 (i := 214) (by decide +kernel) (by decide +kernel)
theorem tw455 : Cond.code yX5_nameVariable prog_7_method_11_code 3 none ∈ lw_good := lw_t2 (i := 215) (by decide +kernel) (by decide +kernel)
theorem tw457 : Cond.methodLink RX3 65 yX5_add ∈ lw_good := lw_t2 (i := 217) (by decide +kernel) (by decide +kernel)
theorem tw458 : Cond.instanceMethod yX5_add ∈ lw_good := lw_t2 (i := 218) (by decide +kernel) (by decide +kernel)
theorem tw459 : Cond.selects RX5 yX5_add yX5_add ∈ lw_good := lw_t2 (i := 219) (by decide +kernel) (by decide +kernel)
theorem tw460 : Cond.code yX5_add prog_7_method_10_code 5 none ∈ lw_good := lw_t2 (i := 220) (by decide +kernel) (by decide +kernel)
theorem tw461 : Cond.methodLink RX5 45 yX5_comesToEnd ∈ lw_good := lw_t2 (i := 221) (by decide +kernel) (by decide +kernel)
theorem tw463 : Cond.instanceMethod yX5_comesToEnd ∈ lw_good := lw_t2 (i := 223) (by decide +kernel) (by decide +kernel)
theorem tw464 : Cond.code yX5_comesToEnd prog_7_method_12_code 3 (some .boolean) ∈ lw_good := lw_t2 (i := 224) (by decide +kernel) (by decide +kernel)
theorem tw465 : Cond.methodLink RX5 55 yX5_signOf ∈ lw_good := lw_t2 (i := 225) (by decide +kernel) (by decide +kernel)
theorem tw466 : Cond.instanceMethod yX5_signOf ∈ lw_good := lw_t2 (i := 226) (by decide +kernel) (by decide +kernel)
theorem tw467 : Cond.selects RX5 yX5_signOf yX5_signOf ∈ lw_good := lw_t2 (i := 227) (by decide +kernel) (by decide +kernel)
theorem tw468 : Cond.code yX5_signOf prog_7_method_2_code 2 (some .int) ∈ lw_good := lw_t2 (i := 228) (by decide +kernel) (by decide +kernel)
theorem tw470 : Cond.methodLink RX5 59 yX5_isAtEnd ∈ lw_good := lw_t2 (i := 230) (by decide +kernel) (by decide +kernel)
theorem tw471 : Cond.instanceMethod yX5_isAtEnd ∈ lw_good := lw_t2 (i := 231) (by decide +kernel) (by decide +kernel)
theorem tw472 : Cond.selects RX5 yX5_isAtEnd yX5_isAtEnd ∈ lw_good := lw_t2 (i := 232) (by decide +kernel) (by decide +kernel)
theorem tw473 : Cond.code yX5_isAtEnd prog_7_method_8_code 2 (some .boolean) ∈ lw_good := lw_t2 (i := 233) (by decide +kernel) (by decide +kernel)
theorem tw474 : Cond.methodLink RX5 49 yX3_isSite ∈ lw_good := lw_t2 (i := 234) (by decide +kernel) (by decide +kernel)
theorem tw475 : Cond.methodLink RX9 74 yX6_startAnew ∈ lw_good := lw_t2 (i := 235) (by decide +kernel) (by decide +kernel)
theorem tw476 : Cond.instanceMethod yX6_startAnew ∈ lw_good := lw_t2 (i := 236) (by decide +kernel) (by decide +kernel)
theorem tw477 : Cond.selects RX6 yX6_startAnew yX6_startAnew ∈ lw_good := lw_t2 (i := 237) (by decide +kernel) (by decide +kernel)
theorem tw478 : Cond.code yX6_startAnew prog_8_method_2_code 1 none ∈ lw_good := lw_t2 (i := 238) (by decide +kernel) (by decide +kernel)
theorem tw479 : Cond.methodLink RX6 44 yX0_forget ∈ lw_good := lw_t2 (i := 239) (by decide +kernel) (by decide +kernel)
theorem tw480 : Cond.instanceMethod yX0_forget ∈ lw_good := lw_t3 (i := 0) (by decide +kernel) (by decide +kernel)
theorem tw481 : Cond.selects RX0 yX0_forget yX0_forget ∈ lw_good := lw_t3 (i := 1) (by decide +kernel) (by decide +kernel)
theorem tw482 : Cond.code yX0_forget prog_2_method_8_code 2 none ∈ lw_good := lw_t3 (i := 2) (by decide +kernel) (by decide +kernel)
theorem tw484 : Cond.methodLink RX9 77 yX3_forget ∈ lw_good := lw_t3 (i := 4) (by decide +kernel) (by decide +kernel)
theorem tw485 : Cond.instanceMethod yX3_forget ∈ lw_good := lw_t3 (i := 5) (by decide +kernel) (by decide +kernel)
theorem tw486 : Cond.selects RX3 yX3_forget yX3_forget ∈ lw_good := lw_t3 (i := 6) (by decide +kernel) (by decide +kernel)
theorem tw487 : Cond.code yX3_forget prog_5_method_4_code 1 none ∈ lw_good := lw_t3 (i := 7) (by decide +kernel) (by decide +kernel)
theorem tw488 : Cond.arrayClass .byte ∈ lw_good := lw_t3 (i := 8) (by decide +kernel) (by decide +kernel)
theorem tw489 : Cond.methodLink RL 23 yX9_global ∈ lw_good := lw_t3 (i := 9) (by decide +kernel) (by decide +kernel)
theorem tw490 : Cond.instanceMethod yX9_global ∈ lw_good := lw_t3 (i := 10) (by decide +kernel) (by decide +kernel)
theorem tw491 : Cond.selects RX9 yX9_global yX9_global ∈ lw_good := lw_t3 (i := 11) (by decide +kernel) (by decide +kernel)
theorem tw492 : Cond.code yX9_global prog_1_method_4_code 2 (some .int) ∈ lw_good := lw_t3 (i := 12) (by decide +kernel) (by decide +kernel)
theorem tw493 : Cond.methodLink RX9 85 yX9_isVariable ∈ lw_good := lw_t3 (i := 13) (by decide +kernel) (by decide +kernel)
theorem tw494 : Cond.static yX9_isVariable ∈ lw_good := lw_t3 (i := 14) (by decide +kernel) (by decide +kernel)
theorem tw495 : Cond.code yX9_isVariable prog_1_method_35_code 1 (some .boolean) ∈ lw_good := lw_t3 (i := 15) (by decide +kernel) (by decide +kernel)
theorem tw496 : Cond.methodLink RX9 89 yX9_refuseNumber ∈ lw_good := lw_t3 (i := 16) (by decide +kernel) (by decide +kernel)
theorem tw498 : Cond.instanceMethod yX9_refuseNumber ∈ lw_good := lw_t3 (i := 18) (by decide +kernel) (by decide +kernel)
theorem tw499 : Cond.code yX9_refuseNumber prog_1_method_31_code 2 (some .int) ∈ lw_good := lw_t3 (i := 19) (by decide +kernel) (by decide +kernel)
theorem tw500 : Cond.constant RX9 218 (1000000000 : Int32) ∈ lw_good := lw_t3 (i := 20) (by decide +kernel) (by decide +kernel)
theorem tw501 : Cond.methodLink RL 27 yX9_sets ∈ lw_good := lw_t3 (i := 21) (by decide +kernel) (by decide +kernel)
theorem tw502 : Cond.instanceMethod yX9_sets ∈ lw_good := lw_t3 (i := 22) (by decide +kernel) (by decide +kernel)
theorem tw503 : Cond.selects RX9 yX9_sets yX9_sets ∈ lw_good := lw_t3 (i := 23) (by decide +kernel) (by decide +kernel)
theorem tw504 : Cond.code yX9_sets prog_1_method_5_code 5 (some .int) ∈ lw_good := lw_t3 (i := 24) (by decide +kernel) (by decide +kernel)
theorem tw505 : Cond.methodLink RX9 99 yX9_refusalOfGlobal ∈ lw_good := lw_t3 (i := 25) (by decide +kernel) (by decide +kernel)
theorem tw506 : Cond.static yX9_refusalOfGlobal ∈ lw_good := lw_t3 (i := 26) (by decide +kernel) (by decide +kernel)
theorem tw507 : Cond.code yX9_refusalOfGlobal prog_1_method_33_code 2 (some .int) ∈ lw_good := lw_t3 (i := 27) (by decide +kernel) (by decide +kernel)
theorem tw508 : Cond.methodLink RL 32 yX9_run ∈ lw_good := lw_t3 (i := 28) (by decide +kernel) (by decide +kernel)
theorem tw509 : Cond.instanceMethod yX9_run ∈ lw_good := lw_t3 (i := 29) (by decide +kernel) (by decide +kernel)
theorem tw510 : Cond.selects RX9 yX9_run yX9_run ∈ lw_good := lw_t3 (i := 30) (by decide +kernel) (by decide +kernel)
theorem tw511 : Cond.code yX9_run prog_1_method_6_code 1 (some .int) ∈ lw_good := lw_t3 (i := 31) (by decide +kernel) (by decide +kernel)
theorem tw512 : Cond.methodLink RX9 107 yX9_thinkOf ∈ lw_good := lw_t3 (i := 32) (by decide +kernel) (by decide +kernel)
theorem tw514 : Cond.instanceMethod yX9_thinkOf ∈ lw_good := lw_t3 (i := 34) (by decide +kernel) (by decide +kernel)
theorem tw515 : Cond.code yX9_thinkOf prog_1_method_27_code 1 (some (.object "ClosuresThatBounce$Ending")) ∈ lw_good := lw_t3 (i := 35) (by decide +kernel) (by decide +kernel)
theorem tw516 : Cond.methodLink RX9 180 yX4_takeUp ∈ lw_good := lw_t3 (i := 36) (by decide +kernel) (by decide +kernel)
theorem tw517 : Cond.instanceMethod yX4_takeUp ∈ lw_good := lw_t3 (i := 37) (by decide +kernel) (by decide +kernel)
theorem tw518 : Cond.selects RX4 yX4_takeUp yX4_takeUp ∈ lw_good := lw_t3 (i := 38) (by decide +kernel) (by decide +kernel)
theorem tw519 : Cond.code yX4_takeUp prog_6_method_2_code 2 none ∈ lw_good := lw_t3 (i := 39) (by decide +kernel) (by decide +kernel)
theorem tw521 : Cond.static yX9_copyRow ∈ lw_good := lw_t3 (i := 41) (by decide +kernel) (by decide +kernel)
theorem tw522 : Cond.code yX9_copyRow prog_1_method_44_code 2 none ∈ lw_good := lw_t3 (i := 42) (by decide +kernel) (by decide +kernel)
theorem tw523 : Cond.methodLink RX9 230 yJ9_min_7cf53 ∈ lw_good := lw_t3 (i := 43) (by decide +kernel) (by decide +kernel)
theorem tw524 : Cond.static yJ9_min_7cf53 ∈ lw_good := lw_t3 (i := 44) (by decide +kernel) (by decide +kernel)
theorem tw525 : Cond.code yJ9_min_7cf53 prog_14_method_69_code 2 (some .int) ∈ lw_good := lw_t3 (i := 45) (by decide +kernel) (by decide +kernel)
theorem tw526 : Cond.methodLink RX9 235 arraycopyName ∈ lw_good := lw_t3 (i := 46) (by decide +kernel) (by decide +kernel)
theorem tw527 : Cond.static arraycopyName ∈ lw_good := lw_t3 (i := 47) (by decide +kernel) (by decide +kernel)
theorem tw528 : Cond.native arraycopyName ∈ lw_good := lw_t3 (i := 48) (by decide +kernel) (by decide +kernel)
theorem tw529 : Cond.methodLink RX4 86 yX0_copyFrom ∈ lw_good := lw_t3 (i := 49) (by decide +kernel) (by decide +kernel)
theorem tw530 : Cond.instanceMethod yX0_copyFrom ∈ lw_good := lw_t3 (i := 50) (by decide +kernel) (by decide +kernel)
theorem tw531 : Cond.selects RX0 yX0_copyFrom yX0_copyFrom ∈ lw_good := lw_t3 (i := 51) (by decide +kernel) (by decide +kernel)
theorem tw532 : Cond.code yX0_copyFrom prog_2_method_9_code 2 none ∈ lw_good := lw_t3 (i := 52) (by decide +kernel) (by decide +kernel)
theorem tw534 : Cond.methodLink RX9 164 yX4_perform ∈ lw_good := lw_t3 (i := 54) (by decide +kernel) (by decide +kernel)
theorem tw535 : Cond.instanceMethod yX4_perform ∈ lw_good := lw_t3 (i := 55) (by decide +kernel) (by decide +kernel)
theorem tw536 : Cond.selects RX4 yX4_perform yX4_perform ∈ lw_good := lw_t3 (i := 56) (by decide +kernel) (by decide +kernel)
theorem tw537 : Cond.code yX4_perform prog_6_method_3_code 2 (some (.object "ClosuresThatBounce$Ending")) ∈ lw_good := lw_t3 (i := 57) (by decide +kernel) (by decide +kernel)
theorem tw538 : Cond.methodLink RX4 90 yX4_start ∈ lw_good := lw_t3 (i := 58) (by decide +kernel) (by decide +kernel)
theorem tw540 : Cond.instanceMethod yX4_start ∈ lw_good := lw_t3 (i := 60) (by decide +kernel) (by decide +kernel)
theorem tw541 : Cond.code yX4_start prog_6_method_4_code 1 none ∈ lw_good := lw_t3 (i := 61) (by decide +kernel) (by decide +kernel)
theorem tw542 : Cond.methodLink RX4 106 yX1_forget ∈ lw_good := lw_t3 (i := 62) (by decide +kernel) (by decide +kernel)
theorem tw543 : Cond.instanceMethod yX1_forget ∈ lw_good := lw_t3 (i := 63) (by decide +kernel) (by decide +kernel)
theorem tw544 : Cond.selects RX1 yX1_forget yX1_forget ∈ lw_good := lw_t3 (i := 64) (by decide +kernel) (by decide +kernel)
theorem tw545 : Cond.code yX1_forget prog_3_method_2_code 1 none ∈ lw_good := lw_t3 (i := 65) (by decide +kernel) (by decide +kernel)
theorem tw546 : Cond.methodLink RX4 109 yX7_forget ∈ lw_good := lw_t3 (i := 66) (by decide +kernel) (by decide +kernel)
theorem tw547 : Cond.instanceMethod yX7_forget ∈ lw_good := lw_t3 (i := 67) (by decide +kernel) (by decide +kernel)
theorem tw548 : Cond.selects RX7 yX7_forget yX7_forget ∈ lw_good := lw_t3 (i := 68) (by decide +kernel) (by decide +kernel)
theorem tw549 : Cond.code yX7_forget prog_9_method_2_code 1 none ∈ lw_good := lw_t3 (i := 69) (by decide +kernel) (by decide +kernel)
theorem tw550 : Cond.methodLink RX4 110 yX8_forget ∈ lw_good := lw_t3 (i := 70) (by decide +kernel) (by decide +kernel)
theorem tw551 : Cond.instanceMethod yX8_forget ∈ lw_good := lw_t3 (i := 71) (by decide +kernel) (by decide +kernel)
theorem tw552 : Cond.selects RX8 yX8_forget yX8_forget ∈ lw_good := lw_t3 (i := 72) (by decide +kernel) (by decide +kernel)
theorem tw553 : Cond.code yX8_forget prog_10_method_2_code 1 none ∈ lw_good := lw_t3 (i := 73) (by decide +kernel) (by decide +kernel)
theorem tw554 : Cond.methodLink RX4 111 yX4_forgetFault ∈ lw_good := lw_t3 (i := 74) (by decide +kernel) (by decide +kernel)
theorem tw556 : Cond.instanceMethod yX4_forgetFault ∈ lw_good := lw_t3 (i := 76) (by decide +kernel) (by decide +kernel)
theorem tw557 : Cond.code yX4_forgetFault prog_6_method_13_code 1 none ∈ lw_good := lw_t3 (i := 77) (by decide +kernel) (by decide +kernel)
theorem tw558 : Cond.methodLink RX4 123 yX4_begin ∈ lw_good := lw_t3 (i := 78) (by decide +kernel) (by decide +kernel)
theorem tw560 : Cond.instanceMethod yX4_begin ∈ lw_good := lw_t3 (i := 80) (by decide +kernel) (by decide +kernel)
theorem tw561 : Cond.code yX4_begin prog_6_method_6_code 3 none ∈ lw_good := lw_t3 (i := 81) (by decide +kernel) (by decide +kernel)
theorem tw562 : Cond.constant RX4 93 (1000000 : Int32) ∈ lw_good := lw_t3 (i := 82) (by decide +kernel) (by decide +kernel)
theorem tw563 : Cond.methodLink RX4 94 yX4_beginExpression ∈ lw_good := lw_t3 (i := 83) (by decide +kernel) (by decide +kernel)
theorem tw565 : Cond.instanceMethod yX4_beginExpression ∈ lw_good := lw_t3 (i := 85) (by decide +kernel) (by decide +kernel)
theorem tw566 : Cond.code yX4_beginExpression prog_6_method_9_code 2 none ∈ lw_good := lw_t3 (i := 86) (by decide +kernel) (by decide +kernel)
theorem tw567 : Cond.methodLink RX4 159 yX4_fail ∈ lw_good := lw_t3 (i := 87) (by decide +kernel) (by decide +kernel)
theorem tw569 : Cond.instanceMethod yX4_fail ∈ lw_good := lw_t3 (i := 89) (by decide +kernel) (by decide +kernel)
theorem tw570 : Cond.code yX4_fail prog_6_method_8_code 2 none ∈ lw_good := lw_t3 (i := 90) (by decide +kernel) (by decide +kernel)
theorem tw571 : Cond.methodLink RX4 163 yX5_signOf ∈ lw_good := lw_t3 (i := 91) (by decide +kernel) (by decide +kernel)
theorem tw572 : Cond.methodLink RX4 166 yX3_isDigit ∈ lw_good := lw_t3 (i := 92) (by decide +kernel) (by decide +kernel)
theorem tw573 : Cond.methodLink RX4 171 yX4_give ∈ lw_good := lw_t3 (i := 93) (by decide +kernel) (by decide +kernel)
theorem tw575 : Cond.instanceMethod yX4_give ∈ lw_good := lw_t3 (i := 95) (by decide +kernel) (by decide +kernel)
theorem tw576 : Cond.code yX4_give prog_6_method_7_code 2 none ∈ lw_good := lw_t3 (i := 96) (by decide +kernel) (by decide +kernel)
theorem tw577 : Cond.methodLink RX4 174 yX3_isName ∈ lw_good := lw_t3 (i := 97) (by decide +kernel) (by decide +kernel)
theorem tw578 : Cond.methodLink RX4 147 yX5_variableOf ∈ lw_good := lw_t3 (i := 98) (by decide +kernel) (by decide +kernel)
theorem tw579 : Cond.instanceMethod yX5_variableOf ∈ lw_good := lw_t3 (i := 99) (by decide +kernel) (by decide +kernel)
theorem tw580 : Cond.selects RX5 yX5_variableOf yX5_variableOf ∈ lw_good := lw_t3 (i := 100) (by decide +kernel) (by decide +kernel)
theorem tw581 : Cond.code yX5_variableOf prog_7_method_3_code 2 (some .int) ∈ lw_good := lw_t3 (i := 101) (by decide +kernel) (by decide +kernel)
theorem tw582 : Cond.methodLink RX4 177 yX4_valueOfVariable ∈ lw_good := lw_t3 (i := 102) (by decide +kernel) (by decide +kernel)
theorem tw584 : Cond.instanceMethod yX4_valueOfVariable ∈ lw_good := lw_t3 (i := 104) (by decide +kernel) (by decide +kernel)
theorem tw585 : Cond.code yX4_valueOfVariable prog_6_method_20_code 4 (some .int) ∈ lw_good := lw_t3 (i := 105) (by decide +kernel) (by decide +kernel)
theorem tw586 : Cond.methodLink RX4 259 yX1_innermost ∈ lw_good := lw_t3 (i := 106) (by decide +kernel) (by decide +kernel)
theorem tw587 : Cond.instanceMethod yX1_innermost ∈ lw_good := lw_t3 (i := 107) (by decide +kernel) (by decide +kernel)
theorem tw588 : Cond.selects RX1 yX1_innermost yX1_innermost ∈ lw_good := lw_t3 (i := 108) (by decide +kernel) (by decide +kernel)
theorem tw589 : Cond.code yX1_innermost prog_3_method_4_code 5 (some .int) ∈ lw_good := lw_t3 (i := 109) (by decide +kernel) (by decide +kernel)
theorem tw592 : Cond.methodLink RX4 266 yX1_valueIn ∈ lw_good := lw_t3 (i := 112) (by decide +kernel) (by decide +kernel)
theorem tw593 : Cond.instanceMethod yX1_valueIn ∈ lw_good := lw_t3 (i := 113) (by decide +kernel) (by decide +kernel)
theorem tw594 : Cond.selects RX1 yX1_valueIn yX1_valueIn ∈ lw_good := lw_t3 (i := 114) (by decide +kernel) (by decide +kernel)
theorem tw595 : Cond.code yX1_valueIn prog_3_method_5_code 2 (some .int) ∈ lw_good := lw_t3 (i := 115) (by decide +kernel) (by decide +kernel)
theorem tw596 : Cond.methodLink RX4 181 yX7_add ∈ lw_good := lw_t3 (i := 116) (by decide +kernel) (by decide +kernel)
theorem tw597 : Cond.instanceMethod yX7_add ∈ lw_good := lw_t3 (i := 117) (by decide +kernel) (by decide +kernel)
theorem tw598 : Cond.selects RX7 yX7_add yX7_add ∈ lw_good := lw_t3 (i := 118) (by decide +kernel) (by decide +kernel)
theorem tw599 : Cond.code yX7_add prog_9_method_3_code 4 (some .int) ∈ lw_good := lw_t3 (i := 119) (by decide +kernel) (by decide +kernel)
theorem tw601 : Cond.methodLink RX4 185 yX8_push ∈ lw_good := lw_t3 (i := 121) (by decide +kernel) (by decide +kernel)
theorem tw602 : Cond.instanceMethod yX8_push ∈ lw_good := lw_t3 (i := 122) (by decide +kernel) (by decide +kernel)
theorem tw603 : Cond.selects RX8 yX8_push yX8_push ∈ lw_good := lw_t3 (i := 123) (by decide +kernel) (by decide +kernel)
theorem tw604 : Cond.code yX8_push prog_10_method_4_code 5 none ∈ lw_good := lw_t3 (i := 124) (by decide +kernel) (by decide +kernel)
theorem tw606 : Cond.methodLink RX4 189 yX5_firstOf ∈ lw_good := lw_t3 (i := 126) (by decide +kernel) (by decide +kernel)
theorem tw607 : Cond.instanceMethod yX5_firstOf ∈ lw_good := lw_t3 (i := 127) (by decide +kernel) (by decide +kernel)
theorem tw608 : Cond.selects RX5 yX5_firstOf yX5_firstOf ∈ lw_good := lw_t3 (i := 128) (by decide +kernel) (by decide +kernel)
theorem tw609 : Cond.code yX5_firstOf prog_7_method_4_code 2 (some .int) ∈ lw_good := lw_t3 (i := 129) (by decide +kernel) (by decide +kernel)
theorem tw610 : Cond.methodLink RX4 97 yX4_useValue ∈ lw_good := lw_t3 (i := 130) (by decide +kernel) (by decide +kernel)
theorem tw612 : Cond.instanceMethod yX4_useValue ∈ lw_good := lw_t3 (i := 132) (by decide +kernel) (by decide +kernel)
theorem tw613 : Cond.code yX4_useValue prog_6_method_10_code 4 none ∈ lw_good := lw_t3 (i := 133) (by decide +kernel) (by decide +kernel)
theorem tw614 : Cond.methodLink RX4 192 yX8_isEmpty ∈ lw_good := lw_t3 (i := 134) (by decide +kernel) (by decide +kernel)
theorem tw615 : Cond.instanceMethod yX8_isEmpty ∈ lw_good := lw_t3 (i := 135) (by decide +kernel) (by decide +kernel)
theorem tw616 : Cond.selects RX8 yX8_isEmpty yX8_isEmpty ∈ lw_good := lw_t3 (i := 136) (by decide +kernel) (by decide +kernel)
theorem tw617 : Cond.code yX8_isEmpty prog_10_method_3_code 1 (some .boolean) ∈ lw_good := lw_t3 (i := 137) (by decide +kernel) (by decide +kernel)
theorem tw618 : Cond.methodLink RX4 196 yX8_pop ∈ lw_good := lw_t3 (i := 138) (by decide +kernel) (by decide +kernel)
theorem tw619 : Cond.instanceMethod yX8_pop ∈ lw_good := lw_t3 (i := 139) (by decide +kernel) (by decide +kernel)
theorem tw620 : Cond.selects RX8 yX8_pop yX8_pop ∈ lw_good := lw_t3 (i := 140) (by decide +kernel) (by decide +kernel)
theorem tw621 : Cond.code yX8_pop prog_10_method_5_code 1 none ∈ lw_good := lw_t3 (i := 141) (by decide +kernel) (by decide +kernel)
theorem tw622 : Cond.methodLink RX4 199 yX8_expression ∈ lw_good := lw_t3 (i := 142) (by decide +kernel) (by decide +kernel)
theorem tw623 : Cond.instanceMethod yX8_expression ∈ lw_good := lw_t3 (i := 143) (by decide +kernel) (by decide +kernel)
theorem tw624 : Cond.selects RX8 yX8_expression yX8_expression ∈ lw_good := lw_t3 (i := 144) (by decide +kernel) (by decide +kernel)
theorem tw625 : Cond.code yX8_expression prog_10_method_6_code 1 (some .int) ∈ lw_good := lw_t3 (i := 145) (by decide +kernel) (by decide +kernel)
theorem tw627 : Cond.methodLink RX4 202 yX8_frame ∈ lw_good := lw_t3 (i := 147) (by decide +kernel) (by decide +kernel)
theorem tw628 : Cond.instanceMethod yX8_frame ∈ lw_good := lw_t3 (i := 148) (by decide +kernel) (by decide +kernel)
theorem tw629 : Cond.selects RX8 yX8_frame yX8_frame ∈ lw_good := lw_t3 (i := 149) (by decide +kernel) (by decide +kernel)
theorem tw630 : Cond.code yX8_frame prog_10_method_7_code 1 (some .int) ∈ lw_good := lw_t3 (i := 150) (by decide +kernel) (by decide +kernel)
theorem tw631 : Cond.methodLink RX4 204 yX4_useOneOfTwo ∈ lw_good := lw_t3 (i := 151) (by decide +kernel) (by decide +kernel)
theorem tw633 : Cond.instanceMethod yX4_useOneOfTwo ∈ lw_good := lw_t3 (i := 153) (by decide +kernel) (by decide +kernel)
theorem tw634 : Cond.code yX4_useOneOfTwo prog_6_method_15_code 5 none ∈ lw_good := lw_t3 (i := 154) (by decide +kernel) (by decide +kernel)
theorem tw635 : Cond.methodLink RX4 208 yX8_stage ∈ lw_good := lw_t3 (i := 155) (by decide +kernel) (by decide +kernel)
theorem tw636 : Cond.instanceMethod yX8_stage ∈ lw_good := lw_t3 (i := 156) (by decide +kernel) (by decide +kernel)
theorem tw637 : Cond.selects RX8 yX8_stage yX8_stage ∈ lw_good := lw_t3 (i := 157) (by decide +kernel) (by decide +kernel)
theorem tw638 : Cond.code yX8_stage prog_10_method_8_code 1 (some .int) ∈ lw_good := lw_t3 (i := 158) (by decide +kernel) (by decide +kernel)
theorem tw639 : Cond.methodLink RX4 223 yX5_secondOf ∈ lw_good := lw_t3 (i := 159) (by decide +kernel) (by decide +kernel)
theorem tw640 : Cond.instanceMethod yX5_secondOf ∈ lw_good := lw_t3 (i := 160) (by decide +kernel) (by decide +kernel)
theorem tw641 : Cond.selects RX5 yX5_secondOf yX5_secondOf ∈ lw_good := lw_t3 (i := 161) (by decide +kernel) (by decide +kernel)
theorem tw642 : Cond.code yX5_secondOf prog_7_method_5_code 2 (some .int) ∈ lw_good := lw_t3 (i := 162) (by decide +kernel) (by decide +kernel)
theorem tw643 : Cond.methodLink RX4 211 yX8_first ∈ lw_good := lw_t3 (i := 163) (by decide +kernel) (by decide +kernel)
theorem tw644 : Cond.instanceMethod yX8_first ∈ lw_good := lw_t3 (i := 164) (by decide +kernel) (by decide +kernel)
theorem tw645 : Cond.selects RX8 yX8_first yX8_first ∈ lw_good := lw_t3 (i := 165) (by decide +kernel) (by decide +kernel)
theorem tw646 : Cond.code yX8_first prog_10_method_9_code 1 (some .int) ∈ lw_good := lw_t3 (i := 166) (by decide +kernel) (by decide +kernel)
theorem tw647 : Cond.methodLink RX4 242 yX4_reckon ∈ lw_good := lw_t3 (i := 167) (by decide +kernel) (by decide +kernel)
theorem tw649 : Cond.instanceMethod yX4_reckon ∈ lw_good := lw_t3 (i := 169) (by decide +kernel) (by decide +kernel)
theorem tw650 : Cond.code yX4_reckon prog_6_method_16_code 5 none ∈ lw_good := lw_t3 (i := 170) (by decide +kernel) (by decide +kernel)
theorem tw651 : Cond.methodLink RX4 137 yX7_isNumber ∈ lw_good := lw_t3 (i := 171) (by decide +kernel) (by decide +kernel)
theorem tw652 : Cond.static yX7_isNumber ∈ lw_good := lw_t3 (i := 172) (by decide +kernel) (by decide +kernel)
theorem tw653 : Cond.code yX7_isNumber prog_9_method_4_code 1 (some .boolean) ∈ lw_good := lw_t3 (i := 173) (by decide +kernel) (by decide +kernel)
theorem tw654 : Cond.methodLink RX4 214 yX4_call ∈ lw_good := lw_t3 (i := 174) (by decide +kernel) (by decide +kernel)
theorem tw656 : Cond.instanceMethod yX4_call ∈ lw_good := lw_t3 (i := 176) (by decide +kernel) (by decide +kernel)
theorem tw657 : Cond.code yX4_call prog_6_method_19_code 6 none ∈ lw_good := lw_t3 (i := 177) (by decide +kernel) (by decide +kernel)
theorem tw658 : Cond.methodLink RX4 248 yX5_isAtEnd ∈ lw_good := lw_t3 (i := 178) (by decide +kernel) (by decide +kernel)
theorem tw659 : Cond.methodLink RX4 251 yJ9_max_7cf53 ∈ lw_good := lw_t3 (i := 179) (by decide +kernel) (by decide +kernel)
theorem tw660 : Cond.static yJ9_max_7cf53 ∈ lw_good := lw_t3 (i := 180) (by decide +kernel) (by decide +kernel)
theorem tw661 : Cond.code yJ9_max_7cf53 prog_14_method_65_code 2 (some .int) ∈ lw_good := lw_t3 (i := 181) (by decide +kernel) (by decide +kernel)
theorem tw662 : Cond.methodLink RX4 144 yX7_expressionOf ∈ lw_good := lw_t3 (i := 182) (by decide +kernel) (by decide +kernel)
theorem tw663 : Cond.instanceMethod yX7_expressionOf ∈ lw_good := lw_t3 (i := 183) (by decide +kernel) (by decide +kernel)
theorem tw664 : Cond.selects RX7 yX7_expressionOf yX7_expressionOf ∈ lw_good := lw_t3 (i := 184) (by decide +kernel) (by decide +kernel)
theorem tw665 : Cond.code yX7_expressionOf prog_9_method_9_code 2 (some .int) ∈ lw_good := lw_t3 (i := 185) (by decide +kernel) (by decide +kernel)
theorem tw667 : Cond.methodLink RX4 256 yX7_frameOf ∈ lw_good := lw_t3 (i := 187) (by decide +kernel) (by decide +kernel)
theorem tw668 : Cond.instanceMethod yX7_frameOf ∈ lw_good := lw_t3 (i := 188) (by decide +kernel) (by decide +kernel)
theorem tw669 : Cond.selects RX7 yX7_frameOf yX7_frameOf ∈ lw_good := lw_t3 (i := 189) (by decide +kernel) (by decide +kernel)
theorem tw670 : Cond.code yX7_frameOf prog_9_method_10_code 2 (some .int) ∈ lw_good := lw_t3 (i := 190) (by decide +kernel) (by decide +kernel)
theorem tw671 : Cond.methodLink RX4 241 yX1_add ∈ lw_good := lw_t3 (i := 191) (by decide +kernel) (by decide +kernel)
theorem tw672 : Cond.instanceMethod yX1_add ∈ lw_good := lw_t3 (i := 192) (by decide +kernel) (by decide +kernel)
theorem tw673 : Cond.selects RX1 yX1_add yX1_add ∈ lw_good := lw_t3 (i := 193) (by decide +kernel) (by decide +kernel)
theorem tw674 : Cond.code yX1_add prog_3_method_3_code 4 (some .int) ∈ lw_good := lw_t3 (i := 194) (by decide +kernel) (by decide +kernel)
theorem tw676 : Cond.methodLink RX4 217 yX4_useForCall ∈ lw_good := lw_t3 (i := 196) (by decide +kernel) (by decide +kernel)
theorem tw678 : Cond.instanceMethod yX4_useForCall ∈ lw_good := lw_t3 (i := 198) (by decide +kernel) (by decide +kernel)
theorem tw679 : Cond.code yX4_useForCall prog_6_method_18_code 3 none ∈ lw_good := lw_t3 (i := 199) (by decide +kernel) (by decide +kernel)
theorem tw680 : Cond.methodLink RX4 141 yX7_isFunction ∈ lw_good := lw_t3 (i := 200) (by decide +kernel) (by decide +kernel)
theorem tw681 : Cond.instanceMethod yX7_isFunction ∈ lw_good := lw_t3 (i := 201) (by decide +kernel) (by decide +kernel)
theorem tw682 : Cond.selects RX7 yX7_isFunction yX7_isFunction ∈ lw_good := lw_t3 (i := 202) (by decide +kernel) (by decide +kernel)
theorem tw683 : Cond.code yX7_isFunction prog_9_method_5_code 2 (some .boolean) ∈ lw_good := lw_t3 (i := 203) (by decide +kernel) (by decide +kernel)
theorem tw684 : Cond.methodLink RX7 29 yX7_kindOf ∈ lw_good := lw_t3 (i := 204) (by decide +kernel) (by decide +kernel)
theorem tw685 : Cond.instanceMethod yX7_kindOf ∈ lw_good := lw_t3 (i := 205) (by decide +kernel) (by decide +kernel)
theorem tw686 : Cond.selects RX7 yX7_kindOf yX7_kindOf ∈ lw_good := lw_t3 (i := 206) (by decide +kernel) (by decide +kernel)
theorem tw687 : Cond.code yX7_kindOf prog_9_method_7_code 3 (some .int) ∈ lw_good := lw_t3 (i := 207) (by decide +kernel) (by decide +kernel)
theorem tw688 : Cond.methodLink RX4 220 yX4_choose ∈ lw_good := lw_t3 (i := 208) (by decide +kernel) (by decide +kernel)
theorem tw690 : Cond.instanceMethod yX4_choose ∈ lw_good := lw_t3 (i := 210) (by decide +kernel) (by decide +kernel)
theorem tw691 : Cond.code yX4_choose prog_6_method_17_code 3 none ∈ lw_good := lw_t3 (i := 211) (by decide +kernel) (by decide +kernel)
theorem tw692 : Cond.methodLink RX4 245 yX5_thirdOf ∈ lw_good := lw_t3 (i := 212) (by decide +kernel) (by decide +kernel)
theorem tw693 : Cond.instanceMethod yX5_thirdOf ∈ lw_good := lw_t3 (i := 213) (by decide +kernel) (by decide +kernel)
theorem tw694 : Cond.selects RX5 yX5_thirdOf yX5_thirdOf ∈ lw_good := lw_t3 (i := 214) (by decide +kernel) (by decide +kernel)
theorem tw695 : Cond.code yX5_thirdOf prog_7_method_6_code 2 (some .int) ∈ lw_good := lw_t3 (i := 215) (by decide +kernel) (by decide +kernel)
theorem tw696 : Cond.methodLink RX4 226 yX4_beginSecondWithCell ∈ lw_good := lw_t3 (i := 216) (by decide +kernel) (by decide +kernel)
theorem tw698 : Cond.instanceMethod yX4_beginSecondWithCell ∈ lw_good := lw_t3 (i := 218) (by decide +kernel) (by decide +kernel)
theorem tw699 : Cond.code yX4_beginSecondWithCell prog_6_method_14_code 4 none ∈ lw_good := lw_t3 (i := 219) (by decide +kernel) (by decide +kernel)
theorem tw700 : Cond.methodLink RX4 229 yX4_store ∈ lw_good := lw_t3 (i := 220) (by decide +kernel) (by decide +kernel)
theorem tw702 : Cond.instanceMethod yX4_store ∈ lw_good := lw_t3 (i := 222) (by decide +kernel) (by decide +kernel)
theorem tw703 : Cond.code yX4_store prog_6_method_21_code 4 none ∈ lw_good := lw_t3 (i := 223) (by decide +kernel) (by decide +kernel)
theorem tw704 : Cond.methodLink RX4 269 yX1_change ∈ lw_good := lw_t3 (i := 224) (by decide +kernel) (by decide +kernel)
theorem tw705 : Cond.instanceMethod yX1_change ∈ lw_good := lw_t3 (i := 225) (by decide +kernel) (by decide +kernel)
theorem tw706 : Cond.selects RX1 yX1_change yX1_change ∈ lw_good := lw_t3 (i := 226) (by decide +kernel) (by decide +kernel)
theorem tw707 : Cond.code yX1_change prog_3_method_6_code 3 none ∈ lw_good := lw_t3 (i := 227) (by decide +kernel) (by decide +kernel)
theorem tw709 : Cond.methodLink RX4 232 yX4_findField ∈ lw_good := lw_t3 (i := 229) (by decide +kernel) (by decide +kernel)
theorem tw711 : Cond.instanceMethod yX4_findField ∈ lw_good := lw_t3 (i := 231) (by decide +kernel) (by decide +kernel)
theorem tw712 : Cond.code yX4_findField prog_6_method_22_code 3 none ∈ lw_good := lw_t3 (i := 232) (by decide +kernel) (by decide +kernel)
theorem tw713 : Cond.methodLink RX4 276 yX7_hasField ∈ lw_good := lw_t3 (i := 233) (by decide +kernel) (by decide +kernel)
theorem tw714 : Cond.instanceMethod yX7_hasField ∈ lw_good := lw_t3 (i := 234) (by decide +kernel) (by decide +kernel)
theorem tw715 : Cond.selects RX7 yX7_hasField yX7_hasField ∈ lw_good := lw_t3 (i := 235) (by decide +kernel) (by decide +kernel)
theorem tw716 : Cond.code yX7_hasField prog_9_method_6_code 4 (some .boolean) ∈ lw_good := lw_t3 (i := 236) (by decide +kernel) (by decide +kernel)
theorem tw717 : Cond.methodLink RX4 280 yX5_siteOf ∈ lw_good := lw_t3 (i := 237) (by decide +kernel) (by decide +kernel)
theorem tw718 : Cond.instanceMethod yX5_siteOf ∈ lw_good := lw_t3 (i := 238) (by decide +kernel) (by decide +kernel)
theorem tw719 : Cond.selects RX5 yX5_siteOf yX5_siteOf ∈ lw_good := lw_t3 (i := 239) (by decide +kernel) (by decide +kernel)
theorem tw720 : Cond.code yX5_siteOf prog_7_method_7_code 2 (some .int) ∈ lw_good := lw_t4 (i := 0) (by decide +kernel) (by decide +kernel)
theorem tw721 : Cond.methodLink RX4 150 yX7_kindOf ∈ lw_good := lw_t4 (i := 1) (by decide +kernel) (by decide +kernel)
theorem tw722 : Cond.methodLink RX4 283 yX0_see ∈ lw_good := lw_t4 (i := 2) (by decide +kernel) (by decide +kernel)
theorem tw723 : Cond.instanceMethod yX0_see ∈ lw_good := lw_t4 (i := 3) (by decide +kernel) (by decide +kernel)
theorem tw724 : Cond.selects RX0 yX0_see yX0_see ∈ lw_good := lw_t4 (i := 4) (by decide +kernel) (by decide +kernel)
theorem tw725 : Cond.code yX0_see prog_2_method_2_code 5 none ∈ lw_good := lw_t4 (i := 5) (by decide +kernel) (by decide +kernel)
theorem tw727 : Cond.methodLink RX0 25 yJ6_bitCount_0f7a4 ∈ lw_good := lw_t4 (i := 7) (by decide +kernel) (by decide +kernel)
theorem tw728 : Cond.static yJ6_bitCount_0f7a4 ∈ lw_good := lw_t4 (i := 8) (by decide +kernel) (by decide +kernel)
theorem tw729 : Cond.code yJ6_bitCount_0f7a4 prog_13_method_49_code 1 (some .int) ∈ lw_good := lw_t4 (i := 9) (by decide +kernel) (by decide +kernel)
theorem tw730 : Cond.constant RJ6 265 (1431655765 : Int32) ∈ lw_good := lw_t4 (i := 10) (by decide +kernel) (by decide +kernel)
theorem tw731 : Cond.constant RJ6 266 (858993459 : Int32) ∈ lw_good := lw_t4 (i := 11) (by decide +kernel) (by decide +kernel)
theorem tw732 : Cond.constant RJ6 267 (252645135 : Int32) ∈ lw_good := lw_t4 (i := 12) (by decide +kernel) (by decide +kernel)
theorem tw733 : Cond.methodLink RX4 286 yX7_fieldOf ∈ lw_good := lw_t4 (i := 13) (by decide +kernel) (by decide +kernel)
theorem tw734 : Cond.instanceMethod yX7_fieldOf ∈ lw_good := lw_t4 (i := 14) (by decide +kernel) (by decide +kernel)
theorem tw735 : Cond.selects RX7 yX7_fieldOf yX7_fieldOf ∈ lw_good := lw_t4 (i := 15) (by decide +kernel) (by decide +kernel)
theorem tw736 : Cond.code yX7_fieldOf prog_9_method_8_code 3 (some .int) ∈ lw_good := lw_t4 (i := 16) (by decide +kernel) (by decide +kernel)
theorem tw737 : Cond.methodLink RX4 235 yX4_failAsTold ∈ lw_good := lw_t4 (i := 17) (by decide +kernel) (by decide +kernel)
theorem tw739 : Cond.instanceMethod yX4_failAsTold ∈ lw_good := lw_t4 (i := 19) (by decide +kernel) (by decide +kernel)
theorem tw740 : Cond.code yX4_failAsTold prog_6_method_23_code 1 none ∈ lw_good := lw_t4 (i := 20) (by decide +kernel) (by decide +kernel)
theorem tw741 : Cond.methodLink RX4 100 yX4_passFaultOn ∈ lw_good := lw_t4 (i := 21) (by decide +kernel) (by decide +kernel)
theorem tw743 : Cond.instanceMethod yX4_passFaultOn ∈ lw_good := lw_t4 (i := 23) (by decide +kernel) (by decide +kernel)
theorem tw744 : Cond.code yX4_passFaultOn prog_6_method_11_code 4 none ∈ lw_good := lw_t4 (i := 24) (by decide +kernel) (by decide +kernel)
theorem tw745 : Cond.methodLink RX4 130 yX2_codeAt ∈ lw_good := lw_t4 (i := 25) (by decide +kernel) (by decide +kernel)
theorem tw746 : Cond.instanceMethod yX2_codeAt ∈ lw_good := lw_t4 (i := 26) (by decide +kernel) (by decide +kernel)
theorem tw747 : Cond.selects RX2 yX2_codeAt yX2_codeAt ∈ lw_good := lw_t4 (i := 27) (by decide +kernel) (by decide +kernel)
theorem tw748 : Cond.code yX2_codeAt prog_4_method_3_code 2 (some .int) ∈ lw_good := lw_t4 (i := 28) (by decide +kernel) (by decide +kernel)
theorem tw749 : Cond.methodLink RX4 238 yX4_isCaught ∈ lw_good := lw_t4 (i := 29) (by decide +kernel) (by decide +kernel)
theorem tw750 : Cond.static yX4_isCaught ∈ lw_good := lw_t4 (i := 30) (by decide +kernel) (by decide +kernel)
theorem tw751 : Cond.code yX4_isCaught prog_6_method_12_code 1 (some .boolean) ∈ lw_good := lw_t4 (i := 31) (by decide +kernel) (by decide +kernel)
theorem tw752 : Cond.methodLink RX4 103 yX4_tellEnding ∈ lw_good := lw_t4 (i := 32) (by decide +kernel) (by decide +kernel)
theorem tw754 : Cond.instanceMethod yX4_tellEnding ∈ lw_good := lw_t4 (i := 34) (by decide +kernel) (by decide +kernel)
theorem tw755 : Cond.code yX4_tellEnding prog_6_method_5_code 1 none ∈ lw_good := lw_t4 (i := 35) (by decide +kernel) (by decide +kernel)
theorem tw756 : Cond.methodLink RX9 111 yX6_keepRun ∈ lw_good := lw_t4 (i := 36) (by decide +kernel) (by decide +kernel)
theorem tw757 : Cond.instanceMethod yX6_keepRun ∈ lw_good := lw_t4 (i := 37) (by decide +kernel) (by decide +kernel)
theorem tw758 : Cond.selects RX6 yX6_keepRun yX6_keepRun ∈ lw_good := lw_t4 (i := 38) (by decide +kernel) (by decide +kernel)
theorem tw759 : Cond.code yX6_keepRun prog_8_method_3_code 3 none ∈ lw_good := lw_t4 (i := 39) (by decide +kernel) (by decide +kernel)
theorem tw761 : Cond.methodLink RX6 55 yX0_copyFrom ∈ lw_good := lw_t4 (i := 41) (by decide +kernel) (by decide +kernel)
theorem tw762 : Cond.methodLink RX6 59 yX2_copyFrom ∈ lw_good := lw_t4 (i := 42) (by decide +kernel) (by decide +kernel)
theorem tw763 : Cond.instanceMethod yX2_copyFrom ∈ lw_good := lw_t4 (i := 43) (by decide +kernel) (by decide +kernel)
theorem tw764 : Cond.selects RX2 yX2_copyFrom yX2_copyFrom ∈ lw_good := lw_t4 (i := 44) (by decide +kernel) (by decide +kernel)
theorem tw765 : Cond.code yX2_copyFrom prog_4_method_5_code 2 none ∈ lw_good := lw_t4 (i := 45) (by decide +kernel) (by decide +kernel)
theorem tw766 : Cond.methodLink RX6 62 yJ9_min_7cf53 ∈ lw_good := lw_t4 (i := 46) (by decide +kernel) (by decide +kernel)
theorem tw767 : Cond.methodLink RL 36 yX9_ended ∈ lw_good := lw_t4 (i := 47) (by decide +kernel) (by decide +kernel)
theorem tw768 : Cond.instanceMethod yX9_ended ∈ lw_good := lw_t4 (i := 48) (by decide +kernel) (by decide +kernel)
theorem tw769 : Cond.selects RX9 yX9_ended yX9_ended ∈ lw_good := lw_t4 (i := 49) (by decide +kernel) (by decide +kernel)
theorem tw770 : Cond.code yX9_ended prog_1_method_7_code 2 (some .int) ∈ lw_good := lw_t4 (i := 50) (by decide +kernel) (by decide +kernel)
theorem tw771 : Cond.methodLink RX9 124 yX9_isOfEnding ∈ lw_good := lw_t4 (i := 51) (by decide +kernel) (by decide +kernel)
theorem tw772 : Cond.static yX9_isOfEnding ∈ lw_good := lw_t4 (i := 52) (by decide +kernel) (by decide +kernel)
theorem tw773 : Cond.code yX9_isOfEnding prog_1_method_36_code 1 (some .boolean) ∈ lw_good := lw_t4 (i := 53) (by decide +kernel) (by decide +kernel)
theorem tw774 : Cond.methodLink RX9 130 yX2_tell ∈ lw_good := lw_t4 (i := 54) (by decide +kernel) (by decide +kernel)
theorem tw775 : Cond.instanceMethod yX2_tell ∈ lw_good := lw_t4 (i := 55) (by decide +kernel) (by decide +kernel)
theorem tw776 : Cond.selects RX2 yX2_tell yX2_tell ∈ lw_good := lw_t4 (i := 56) (by decide +kernel) (by decide +kernel)
theorem tw777 : Cond.code yX2_tell prog_4_method_2_code 2 (some .int) ∈ lw_good := lw_t4 (i := 57) (by decide +kernel) (by decide +kernel)
theorem tw778 : Cond.methodLink RL 40 yX9_code ∈ lw_good := lw_t4 (i := 58) (by decide +kernel) (by decide +kernel)
theorem tw779 : Cond.instanceMethod yX9_code ∈ lw_good := lw_t4 (i := 59) (by decide +kernel) (by decide +kernel)
theorem tw780 : Cond.selects RX9 yX9_code yX9_code ∈ lw_good := lw_t4 (i := 60) (by decide +kernel) (by decide +kernel)
theorem tw781 : Cond.code yX9_code prog_1_method_8_code 2 (some .int) ∈ lw_good := lw_t4 (i := 61) (by decide +kernel) (by decide +kernel)
theorem tw782 : Cond.methodLink RX9 136 yX2_codeAt ∈ lw_good := lw_t4 (i := 62) (by decide +kernel) (by decide +kernel)
theorem tw783 : Cond.methodLink RL 44 yX9_cache ∈ lw_good := lw_t4 (i := 63) (by decide +kernel) (by decide +kernel)
theorem tw784 : Cond.instanceMethod yX9_cache ∈ lw_good := lw_t4 (i := 64) (by decide +kernel) (by decide +kernel)
theorem tw785 : Cond.selects RX9 yX9_cache yX9_cache ∈ lw_good := lw_t4 (i := 65) (by decide +kernel) (by decide +kernel)
theorem tw786 : Cond.code yX9_cache prog_1_method_9_code 3 (some .int) ∈ lw_good := lw_t4 (i := 66) (by decide +kernel) (by decide +kernel)
theorem tw787 : Cond.methodLink RX9 146 yX0_tell ∈ lw_good := lw_t4 (i := 67) (by decide +kernel) (by decide +kernel)
theorem tw788 : Cond.instanceMethod yX0_tell ∈ lw_good := lw_t4 (i := 68) (by decide +kernel) (by decide +kernel)
theorem tw789 : Cond.selects RX0 yX0_tell yX0_tell ∈ lw_good := lw_t4 (i := 69) (by decide +kernel) (by decide +kernel)
theorem tw790 : Cond.code yX0_tell prog_2_method_4_code 3 (some .int) ∈ lw_good := lw_t4 (i := 70) (by decide +kernel) (by decide +kernel)
theorem tw791 : Cond.methodLink RX0 41 yX0_stateOf ∈ lw_good := lw_t4 (i := 71) (by decide +kernel) (by decide +kernel)
theorem tw792 : Cond.instanceMethod yX0_stateOf ∈ lw_good := lw_t4 (i := 72) (by decide +kernel) (by decide +kernel)
theorem tw793 : Cond.selects RX0 yX0_stateOf yX0_stateOf ∈ lw_good := lw_t4 (i := 73) (by decide +kernel) (by decide +kernel)
theorem tw794 : Cond.code yX0_stateOf prog_2_method_3_code 2 (some .int) ∈ lw_good := lw_t4 (i := 74) (by decide +kernel) (by decide +kernel)
theorem tw795 : Cond.methodLink RX0 35 yJ9_min_7cf53 ∈ lw_good := lw_t4 (i := 75) (by decide +kernel) (by decide +kernel)
theorem tw796 : Cond.methodLink RL 48 yX9_thinks ∈ lw_good := lw_t4 (i := 76) (by decide +kernel) (by decide +kernel)
theorem tw797 : Cond.instanceMethod yX9_thinks ∈ lw_good := lw_t4 (i := 77) (by decide +kernel) (by decide +kernel)
theorem tw798 : Cond.selects RX9 yX9_thinks yX9_thinks ∈ lw_good := lw_t4 (i := 78) (by decide +kernel) (by decide +kernel)
theorem tw799 : Cond.code yX9_thinks prog_1_method_10_code 2 (some .int) ∈ lw_good := lw_t4 (i := 79) (by decide +kernel) (by decide +kernel)
theorem tw800 : Cond.methodLink RL 52 yX9_with ∈ lw_good := lw_t4 (i := 80) (by decide +kernel) (by decide +kernel)
theorem tw801 : Cond.instanceMethod yX9_with ∈ lw_good := lw_t4 (i := 81) (by decide +kernel) (by decide +kernel)
theorem tw802 : Cond.selects RX9 yX9_with yX9_with ∈ lw_good := lw_t4 (i := 82) (by decide +kernel) (by decide +kernel)
theorem tw803 : Cond.code yX9_with prog_1_method_11_code 5 (some .int) ∈ lw_good := lw_t4 (i := 83) (by decide +kernel) (by decide +kernel)
theorem tw804 : Cond.methodLink RX9 150 yX9_thinkWith ∈ lw_good := lw_t4 (i := 84) (by decide +kernel) (by decide +kernel)
theorem tw806 : Cond.instanceMethod yX9_thinkWith ∈ lw_good := lw_t4 (i := 86) (by decide +kernel) (by decide +kernel)
theorem tw807 : Cond.code yX9_thinkWith prog_1_method_28_code 3 (some (.object "ClosuresThatBounce$Ending")) ∈ lw_good := lw_t4 (i := 87) (by decide +kernel) (by decide +kernel)
theorem tw808 : Cond.methodLink RL 57 yX9_solve ∈ lw_good := lw_t4 (i := 88) (by decide +kernel) (by decide +kernel)
theorem tw809 : Cond.instanceMethod yX9_solve ∈ lw_good := lw_t4 (i := 89) (by decide +kernel) (by decide +kernel)
theorem tw810 : Cond.selects RX9 yX9_solve yX9_solve ∈ lw_good := lw_t4 (i := 90) (by decide +kernel) (by decide +kernel)
theorem tw811 : Cond.code yX9_solve prog_1_method_12_code 5 (some .int) ∈ lw_good := lw_t4 (i := 91) (by decide +kernel) (by decide +kernel)
theorem tw812 : Cond.methodLink RX9 154 yX2_isNumber ∈ lw_good := lw_t4 (i := 92) (by decide +kernel) (by decide +kernel)
theorem tw813 : Cond.instanceMethod yX2_isNumber ∈ lw_good := lw_t4 (i := 93) (by decide +kernel) (by decide +kernel)
theorem tw814 : Cond.selects RX2 yX2_isNumber yX2_isNumber ∈ lw_good := lw_t4 (i := 94) (by decide +kernel) (by decide +kernel)
theorem tw815 : Cond.code yX2_isNumber prog_4_method_4_code 2 (some .boolean) ∈ lw_good := lw_t4 (i := 95) (by decide +kernel) (by decide +kernel)
theorem tw816 : Cond.constant RX9 157 (999999999 : Int32) ∈ lw_good := lw_t4 (i := 96) (by decide +kernel) (by decide +kernel)
theorem tw817 : Cond.methodLink RL 61 yX9_fewest ∈ lw_good := lw_t4 (i := 97) (by decide +kernel) (by decide +kernel)
theorem tw818 : Cond.instanceMethod yX9_fewest ∈ lw_good := lw_t4 (i := 98) (by decide +kernel) (by decide +kernel)
theorem tw819 : Cond.selects RX9 yX9_fewest yX9_fewest ∈ lw_good := lw_t4 (i := 99) (by decide +kernel) (by decide +kernel)
theorem tw820 : Cond.code yX9_fewest prog_1_method_13_code 7 (some .int) ∈ lw_good := lw_t4 (i := 100) (by decide +kernel) (by decide +kernel)
theorem tw821 : Cond.methodLink RL 65 yX9_pure ∈ lw_good := lw_t4 (i := 101) (by decide +kernel) (by decide +kernel)
theorem tw822 : Cond.instanceMethod yX9_pure ∈ lw_good := lw_t4 (i := 102) (by decide +kernel) (by decide +kernel)
theorem tw823 : Cond.selects RX9 yX9_pure yX9_pure ∈ lw_good := lw_t4 (i := 103) (by decide +kernel) (by decide +kernel)
theorem tw824 : Cond.code yX9_pure prog_1_method_14_code 5 (some .int) ∈ lw_good := lw_t4 (i := 104) (by decide +kernel) (by decide +kernel)
theorem tw825 : Cond.methodLink RX9 168 yX9_sameRows ∈ lw_good := lw_t4 (i := 105) (by decide +kernel) (by decide +kernel)
theorem tw826 : Cond.static yX9_sameRows ∈ lw_good := lw_t4 (i := 106) (by decide +kernel) (by decide +kernel)
theorem tw827 : Cond.code yX9_sameRows prog_1_method_41_code 3 (some .boolean) ∈ lw_good := lw_t4 (i := 107) (by decide +kernel) (by decide +kernel)
theorem tw828 : Cond.methodLink RL 69 yX9_changes ∈ lw_good := lw_t4 (i := 108) (by decide +kernel) (by decide +kernel)
theorem tw829 : Cond.instanceMethod yX9_changes ∈ lw_good := lw_t4 (i := 109) (by decide +kernel) (by decide +kernel)
theorem tw830 : Cond.selects RX9 yX9_changes yX9_changes ∈ lw_good := lw_t4 (i := 110) (by decide +kernel) (by decide +kernel)
theorem tw831 : Cond.code yX9_changes prog_1_method_15_code 3 (some .int) ∈ lw_good := lw_t4 (i := 111) (by decide +kernel) (by decide +kernel)
theorem tw832 : Cond.methodLink RX9 173 yX0_stateOf ∈ lw_good := lw_t4 (i := 112) (by decide +kernel) (by decide +kernel)
theorem tw833 : Cond.methodLink RL 73 yX9_again ∈ lw_good := lw_t4 (i := 113) (by decide +kernel) (by decide +kernel)
theorem tw834 : Cond.instanceMethod yX9_again ∈ lw_good := lw_t4 (i := 114) (by decide +kernel) (by decide +kernel)
theorem tw835 : Cond.selects RX9 yX9_again yX9_again ∈ lw_good := lw_t4 (i := 115) (by decide +kernel) (by decide +kernel)
theorem tw836 : Cond.code yX9_again prog_1_method_16_code 6 (some .int) ∈ lw_good := lw_t4 (i := 116) (by decide +kernel) (by decide +kernel)
theorem tw837 : Cond.methodLink RX9 176 yX9_refusalOfMany ∈ lw_good := lw_t4 (i := 117) (by decide +kernel) (by decide +kernel)
theorem tw838 : Cond.static yX9_refusalOfMany ∈ lw_good := lw_t4 (i := 118) (by decide +kernel) (by decide +kernel)
theorem tw839 : Cond.code yX9_refusalOfMany prog_1_method_34_code 4 (some .int) ∈ lw_good := lw_t4 (i := 119) (by decide +kernel) (by decide +kernel)
theorem tw840 : Cond.methodLink RL 77 yX9_likely ∈ lw_good := lw_t4 (i := 120) (by decide +kernel) (by decide +kernel)
theorem tw841 : Cond.instanceMethod yX9_likely ∈ lw_good := lw_t4 (i := 121) (by decide +kernel) (by decide +kernel)
theorem tw842 : Cond.selects RX9 yX9_likely yX9_likely ∈ lw_good := lw_t4 (i := 122) (by decide +kernel) (by decide +kernel)
theorem tw843 : Cond.code yX9_likely prog_1_method_17_code 11 (some .long) ∈ lw_good := lw_t4 (i := 123) (by decide +kernel) (by decide +kernel)
theorem tw844 : Cond.methodLink RX9 184 yX9_refuseLong ∈ lw_good := lw_t4 (i := 124) (by decide +kernel) (by decide +kernel)
theorem tw846 : Cond.instanceMethod yX9_refuseLong ∈ lw_good := lw_t4 (i := 126) (by decide +kernel) (by decide +kernel)
theorem tw847 : Cond.code yX9_refuseLong prog_1_method_32_code 2 (some .long) ∈ lw_good := lw_t4 (i := 127) (by decide +kernel) (by decide +kernel)
theorem tw848 : Cond.constantLong RX9 219 (4000000000000000000 : Int64) ∈ lw_good := lw_t4 (i := 128) (by decide +kernel) (by decide +kernel)
theorem tw849 : Cond.methodLink RX9 188 yX9_partOfFraction ∈ lw_good := lw_t4 (i := 129) (by decide +kernel) (by decide +kernel)
theorem tw850 : Cond.static yX9_partOfFraction ∈ lw_good := lw_t4 (i := 130) (by decide +kernel) (by decide +kernel)
theorem tw851 : Cond.code yX9_partOfFraction prog_1_method_39_code 7 (some .long) ∈ lw_good := lw_t4 (i := 131) (by decide +kernel) (by decide +kernel)
theorem tw852 : Cond.methodLink RX9 226 yX9_greatestDivisor ∈ lw_good := lw_t4 (i := 132) (by decide +kernel) (by decide +kernel)
theorem tw853 : Cond.static yX9_greatestDivisor ∈ lw_good := lw_t4 (i := 133) (by decide +kernel) (by decide +kernel)
theorem tw854 : Cond.code yX9_greatestDivisor prog_1_method_40_code 11 (some .long) ∈ lw_good := lw_t4 (i := 134) (by decide +kernel) (by decide +kernel)
theorem tw855 : Cond.methodLink RL 82 yX9_mean ∈ lw_good := lw_t4 (i := 135) (by decide +kernel) (by decide +kernel)
theorem tw856 : Cond.instanceMethod yX9_mean ∈ lw_good := lw_t4 (i := 136) (by decide +kernel) (by decide +kernel)
theorem tw857 : Cond.selects RX9 yX9_mean yX9_mean ∈ lw_good := lw_t4 (i := 137) (by decide +kernel) (by decide +kernel)
theorem tw858 : Cond.code yX9_mean prog_1_method_18_code 6 (some .long) ∈ lw_good := lw_t4 (i := 138) (by decide +kernel) (by decide +kernel)
theorem tw859 : Cond.constantLong RX9 192 (10 : Int64) ∈ lw_good := lw_t4 (i := 139) (by decide +kernel) (by decide +kernel)
theorem tw860 : Cond.methodLink RL 86 yX9_whatIs ∈ lw_good := lw_t4 (i := 140) (by decide +kernel) (by decide +kernel)
theorem tw861 : Cond.instanceMethod yX9_whatIs ∈ lw_good := lw_t4 (i := 141) (by decide +kernel) (by decide +kernel)
theorem tw862 : Cond.selects RX9 yX9_whatIs yX9_whatIs ∈ lw_good := lw_t4 (i := 142) (by decide +kernel) (by decide +kernel)
theorem tw863 : Cond.code yX9_whatIs prog_1_method_19_code 5 (some .int) ∈ lw_good := lw_t4 (i := 143) (by decide +kernel) (by decide +kernel)
theorem tw864 : Cond.methodLink RX9 194 yX9_rowTellsEndsFrom ∈ lw_good := lw_t4 (i := 144) (by decide +kernel) (by decide +kernel)
theorem tw866 : Cond.instanceMethod yX9_rowTellsEndsFrom ∈ lw_good := lw_t4 (i := 146) (by decide +kernel) (by decide +kernel)
theorem tw867 : Cond.code yX9_rowTellsEndsFrom prog_1_method_29_code 3 (some .boolean) ∈ lw_good := lw_t4 (i := 147) (by decide +kernel) (by decide +kernel)
theorem tw868 : Cond.methodLink RL 90 yX9_row ∈ lw_good := lw_t4 (i := 148) (by decide +kernel) (by decide +kernel)
theorem tw869 : Cond.instanceMethod yX9_row ∈ lw_good := lw_t4 (i := 149) (by decide +kernel) (by decide +kernel)
theorem tw870 : Cond.selects RX9 yX9_row yX9_row ∈ lw_good := lw_t4 (i := 150) (by decide +kernel) (by decide +kernel)
theorem tw871 : Cond.code yX9_row prog_1_method_20_code 2 (some .int) ∈ lw_good := lw_t4 (i := 151) (by decide +kernel) (by decide +kernel)
theorem tw872 : Cond.methodLink RL 94 yX9_judge ∈ lw_good := lw_t4 (i := 152) (by decide +kernel) (by decide +kernel)
theorem tw873 : Cond.instanceMethod yX9_judge ∈ lw_good := lw_t4 (i := 153) (by decide +kernel) (by decide +kernel)
theorem tw874 : Cond.selects RX9 yX9_judge yX9_judge ∈ lw_good := lw_t4 (i := 154) (by decide +kernel) (by decide +kernel)
theorem tw875 : Cond.code yX9_judge prog_1_method_21_code 3 (some .int) ∈ lw_good := lw_t4 (i := 155) (by decide +kernel) (by decide +kernel)
theorem tw876 : Cond.methodLink RL 98 yX9_clear ∈ lw_good := lw_t4 (i := 156) (by decide +kernel) (by decide +kernel)
theorem tw877 : Cond.instanceMethod yX9_clear ∈ lw_good := lw_t4 (i := 157) (by decide +kernel) (by decide +kernel)
theorem tw878 : Cond.selects RX9 yX9_clear yX9_clear ∈ lw_good := lw_t4 (i := 158) (by decide +kernel) (by decide +kernel)
theorem tw879 : Cond.code yX9_clear prog_1_method_22_code 2 (some .int) ∈ lw_good := lw_t4 (i := 159) (by decide +kernel) (by decide +kernel)
theorem tw880 : Cond.methodLink RL 102 yX9_lots ∈ lw_good := lw_t4 (i := 160) (by decide +kernel) (by decide +kernel)
theorem tw881 : Cond.instanceMethod yX9_lots ∈ lw_good := lw_t4 (i := 161) (by decide +kernel) (by decide +kernel)
theorem tw882 : Cond.selects RX9 yX9_lots yX9_lots ∈ lw_good := lw_t4 (i := 162) (by decide +kernel) (by decide +kernel)
theorem tw883 : Cond.code yX9_lots prog_1_method_23_code 10 (some .int) ∈ lw_good := lw_t4 (i := 163) (by decide +kernel) (by decide +kernel)
theorem tw884 : Cond.methodLink RX9 197 yX9_nextSeed ∈ lw_good := lw_t4 (i := 164) (by decide +kernel) (by decide +kernel)
theorem tw885 : Cond.static yX9_nextSeed ∈ lw_good := lw_t4 (i := 165) (by decide +kernel) (by decide +kernel)
theorem tw886 : Cond.code yX9_nextSeed prog_1_method_37_code 1 (some .int) ∈ lw_good := lw_t4 (i := 166) (by decide +kernel) (by decide +kernel)
theorem tw887 : Cond.constant RX9 221 (1664525 : Int32) ∈ lw_good := lw_t4 (i := 167) (by decide +kernel) (by decide +kernel)
theorem tw888 : Cond.constant RX9 222 (1013904223 : Int32) ∈ lw_good := lw_t4 (i := 168) (by decide +kernel) (by decide +kernel)
theorem tw889 : Cond.methodLink RX9 200 yX9_drawOf ∈ lw_good := lw_t4 (i := 169) (by decide +kernel) (by decide +kernel)
theorem tw890 : Cond.static yX9_drawOf ∈ lw_good := lw_t4 (i := 170) (by decide +kernel) (by decide +kernel)
theorem tw891 : Cond.code yX9_drawOf prog_1_method_38_code 1 (some .int) ∈ lw_good := lw_t4 (i := 171) (by decide +kernel) (by decide +kernel)
theorem tw892 : Cond.constant RX9 225 (2147483647 : Int32) ∈ lw_good := lw_t4 (i := 172) (by decide +kernel) (by decide +kernel)
theorem tw893 : Cond.methodLink RL 106 yX9_image ∈ lw_good := lw_t4 (i := 173) (by decide +kernel) (by decide +kernel)
theorem tw894 : Cond.instanceMethod yX9_image ∈ lw_good := lw_t4 (i := 174) (by decide +kernel) (by decide +kernel)
theorem tw895 : Cond.selects RX9 yX9_image yX9_image ∈ lw_good := lw_t4 (i := 175) (by decide +kernel) (by decide +kernel)
theorem tw896 : Cond.code yX9_image prog_1_method_24_code 1 (some .int) ∈ lw_good := lw_t4 (i := 176) (by decide +kernel) (by decide +kernel)
theorem tw897 : Cond.methodLink RX9 203 yX6_copyFrom ∈ lw_good := lw_t4 (i := 177) (by decide +kernel) (by decide +kernel)
theorem tw898 : Cond.instanceMethod yX6_copyFrom ∈ lw_good := lw_t4 (i := 178) (by decide +kernel) (by decide +kernel)
theorem tw899 : Cond.selects RX6 yX6_copyFrom yX6_copyFrom ∈ lw_good := lw_t4 (i := 179) (by decide +kernel) (by decide +kernel)
theorem tw900 : Cond.code yX6_copyFrom prog_8_method_4_code 2 none ∈ lw_good := lw_t4 (i := 180) (by decide +kernel) (by decide +kernel)
theorem tw901 : Cond.methodLink RX6 68 yX5_copyFrom ∈ lw_good := lw_t4 (i := 181) (by decide +kernel) (by decide +kernel)
theorem tw902 : Cond.instanceMethod yX5_copyFrom ∈ lw_good := lw_t4 (i := 182) (by decide +kernel) (by decide +kernel)
theorem tw903 : Cond.selects RX5 yX5_copyFrom yX5_copyFrom ∈ lw_good := lw_t4 (i := 183) (by decide +kernel) (by decide +kernel)
theorem tw904 : Cond.code yX5_copyFrom prog_7_method_13_code 2 none ∈ lw_good := lw_t4 (i := 184) (by decide +kernel) (by decide +kernel)
theorem tw906 : Cond.methodLink RL 110 yX9_on ∈ lw_good := lw_t4 (i := 186) (by decide +kernel) (by decide +kernel)
theorem tw907 : Cond.instanceMethod yX9_on ∈ lw_good := lw_t4 (i := 187) (by decide +kernel) (by decide +kernel)
theorem tw908 : Cond.selects RX9 yX9_on yX9_on ∈ lw_good := lw_t4 (i := 188) (by decide +kernel) (by decide +kernel)
theorem tw909 : Cond.code yX9_on prog_1_method_25_code 1 (some .int) ∈ lw_good := lw_t4 (i := 189) (by decide +kernel) (by decide +kernel)
theorem tw910 : Cond.methodLink RL 114 yX9_count ∈ lw_good := lw_t4 (i := 190) (by decide +kernel) (by decide +kernel)
theorem tw911 : Cond.instanceMethod yX9_count ∈ lw_good := lw_t4 (i := 191) (by decide +kernel) (by decide +kernel)
theorem tw912 : Cond.selects RX9 yX9_count yX9_count ∈ lw_good := lw_t4 (i := 192) (by decide +kernel) (by decide +kernel)
theorem tw913 : Cond.code yX9_count prog_1_method_26_code 2 (some .int) ∈ lw_good := lw_t4 (i := 193) (by decide +kernel) (by decide +kernel)
theorem tw914 : Cond.methodLink RX9 206 yX0_allHits ∈ lw_good := lw_t4 (i := 194) (by decide +kernel) (by decide +kernel)
theorem tw915 : Cond.instanceMethod yX0_allHits ∈ lw_good := lw_t4 (i := 195) (by decide +kernel) (by decide +kernel)
theorem tw916 : Cond.selects RX0 yX0_allHits yX0_allHits ∈ lw_good := lw_t4 (i := 196) (by decide +kernel) (by decide +kernel)
theorem tw917 : Cond.code yX0_allHits prog_2_method_5_code 1 (some .int) ∈ lw_good := lw_t4 (i := 197) (by decide +kernel) (by decide +kernel)
theorem tw918 : Cond.methodLink RX0 44 yX0_sumOf ∈ lw_good := lw_t4 (i := 198) (by decide +kernel) (by decide +kernel)
theorem tw919 : Cond.static yX0_sumOf ∈ lw_good := lw_t4 (i := 199) (by decide +kernel) (by decide +kernel)
theorem tw920 : Cond.code yX0_sumOf prog_2_method_7_code 6 (some .int) ∈ lw_good := lw_t4 (i := 200) (by decide +kernel) (by decide +kernel)
theorem tw921 : Cond.methodLink RX9 209 yX0_allMisses ∈ lw_good := lw_t4 (i := 201) (by decide +kernel) (by decide +kernel)
theorem tw922 : Cond.instanceMethod yX0_allMisses ∈ lw_good := lw_t4 (i := 202) (by decide +kernel) (by decide +kernel)
theorem tw923 : Cond.selects RX0 yX0_allMisses yX0_allMisses ∈ lw_good := lw_t4 (i := 203) (by decide +kernel) (by decide +kernel)
theorem tw924 : Cond.code yX0_allMisses prog_2_method_6_code 1 (some .int) ∈ lw_good := lw_t4 (i := 204) (by decide +kernel) (by decide +kernel)
theorem tw925 : Cond.classLink RL 10 "ClosuresThatBounceModel" ∈ lw_good := lw_t4 (i := 205) (by decide +kernel) (by decide +kernel)
theorem tw926 : Cond.instantiable RX10 75 ∈ lw_good := lw_t4 (i := 206) (by decide +kernel) (by decide +kernel)
theorem tw927 : Cond.methodLink RL 12 yX10_init ∈ lw_good := lw_t4 (i := 207) (by decide +kernel) (by decide +kernel)
theorem tw928 : Cond.instanceMethod yX10_init ∈ lw_good := lw_t4 (i := 208) (by decide +kernel) (by decide +kernel)
theorem tw929 : Cond.code yX10_init prog_12_method_1_code 1 none ∈ lw_good := lw_t4 (i := 209) (by decide +kernel) (by decide +kernel)
theorem tw930 : Cond.methodLink RX10 1 objectInit ∈ lw_good := lw_t4 (i := 210) (by decide +kernel) (by decide +kernel)
theorem tw931 : Cond.methodLink RX10 128 yX10_builds ∈ lw_good := lw_t4 (i := 211) (by decide +kernel) (by decide +kernel)
theorem tw933 : Cond.instanceMethod yX10_builds ∈ lw_good := lw_t4 (i := 213) (by decide +kernel) (by decide +kernel)
theorem tw934 : Cond.code yX10_builds prog_12_method_18_code 4 none ∈ lw_good := lw_t4 (i := 214) (by decide +kernel) (by decide +kernel)
theorem tw935 : Cond.methodLink RX10 195 yX10_buildsOne ∈ lw_good := lw_t4 (i := 215) (by decide +kernel) (by decide +kernel)
theorem tw937 : Cond.instanceMethod yX10_buildsOne ∈ lw_good := lw_t4 (i := 217) (by decide +kernel) (by decide +kernel)
theorem tw938 : Cond.code yX10_buildsOne prog_12_method_17_code 3 none ∈ lw_good := lw_t4 (i := 218) (by decide +kernel) (by decide +kernel)
theorem tw939 : Cond.methodLink RX10 185 yX10_pops ∈ lw_good := lw_t4 (i := 219) (by decide +kernel) (by decide +kernel)
theorem tw941 : Cond.instanceMethod yX10_pops ∈ lw_good := lw_t4 (i := 221) (by decide +kernel) (by decide +kernel)
theorem tw942 : Cond.code yX10_pops prog_12_method_16_code 1 (some .int) ∈ lw_good := lw_t4 (i := 222) (by decide +kernel) (by decide +kernel)
theorem tw943 : Cond.methodLink RX10 134 yX10_isIn ∈ lw_good := lw_t4 (i := 223) (by decide +kernel) (by decide +kernel)
theorem tw944 : Cond.static yX10_isIn ∈ lw_good := lw_t4 (i := 224) (by decide +kernel) (by decide +kernel)
theorem tw945 : Cond.code yX10_isIn prog_12_method_5_code 3 (some .boolean) ∈ lw_good := lw_t4 (i := 225) (by decide +kernel) (by decide +kernel)
theorem tw946 : Cond.methodLink RX10 156 yX10_manyOf ∈ lw_good := lw_t4 (i := 226) (by decide +kernel) (by decide +kernel)
theorem tw947 : Cond.static yX10_manyOf ∈ lw_good := lw_t4 (i := 227) (by decide +kernel) (by decide +kernel)
theorem tw948 : Cond.code yX10_manyOf prog_12_method_12_code 1 (some .int) ∈ lw_good := lw_t4 (i := 228) (by decide +kernel) (by decide +kernel)
theorem tw949 : Cond.methodLink RX10 172 yX10_isSite ∈ lw_good := lw_t4 (i := 229) (by decide +kernel) (by decide +kernel)
theorem tw950 : Cond.static yX10_isSite ∈ lw_good := lw_t4 (i := 230) (by decide +kernel) (by decide +kernel)
theorem tw951 : Cond.code yX10_isSite prog_12_method_11_code 1 (some .boolean) ∈ lw_good := lw_t4 (i := 231) (by decide +kernel) (by decide +kernel)
theorem tw952 : Cond.fieldLink RX10 7 "ClosuresThatBounceModel" "refused" "[I" ∈ lw_good := lw_t4 (i := 232) (by decide +kernel) (by decide +kernel)
theorem tw953 : Cond.fieldLink RX10 13 "ClosuresThatBounceModel" "sign" "[I" ∈ lw_good := lw_t4 (i := 233) (by decide +kernel) (by decide +kernel)
theorem tw954 : Cond.fieldLink RX10 16 "ClosuresThatBounceModel" "one" "[I" ∈ lw_good := lw_t4 (i := 234) (by decide +kernel) (by decide +kernel)
theorem tw955 : Cond.fieldLink RX10 19 "ClosuresThatBounceModel" "two" "[I" ∈ lw_good := lw_t4 (i := 235) (by decide +kernel) (by decide +kernel)
theorem tw956 : Cond.fieldLink RX10 22 "ClosuresThatBounceModel" "three" "[I" ∈ lw_good := lw_t4 (i := 236) (by decide +kernel) (by decide +kernel)
theorem tw957 : Cond.fieldLink RX10 25 "ClosuresThatBounceModel" "own" "[I" ∈ lw_good := lw_t4 (i := 237) (by decide +kernel) (by decide +kernel)
theorem tw958 : Cond.fieldLink RX10 125 "ClosuresThatBounceModel" "expressions" "I" ∈ lw_good := lw_t4 (i := 238) (by decide +kernel) (by decide +kernel)
theorem tw959 : Cond.fieldLink RX10 192 "ClosuresThatBounceModel" "sites" "I" ∈ lw_good := lw_t4 (i := 239) (by decide +kernel) (by decide +kernel)
theorem tw960 : Cond.fieldLink RX10 199 "ClosuresThatBounceModel" "theProgram" "I" ∈ lw_good := lw_t5 (i := 0) (by decide +kernel) (by decide +kernel)
theorem tw961 : Cond.fieldLink RX10 28 "ClosuresThatBounceModel" "tape" "[I" ∈ lw_good := lw_t5 (i := 1) (by decide +kernel) (by decide +kernel)
theorem tw962 : Cond.fieldLink RX10 31 "ClosuresThatBounceModel" "programText" "[I" ∈ lw_good := lw_t5 (i := 2) (by decide +kernel) (by decide +kernel)
theorem tw963 : Cond.fieldLink RX10 34 "ClosuresThatBounceModel" "programBinder" "[I" ∈ lw_good := lw_t5 (i := 3) (by decide +kernel) (by decide +kernel)
theorem tw964 : Cond.fieldLink RX10 37 "ClosuresThatBounceModel" "isBinder" "[I" ∈ lw_good := lw_t5 (i := 4) (by decide +kernel) (by decide +kernel)
theorem tw965 : Cond.fieldLink RX10 40 "ClosuresThatBounceModel" "awaited" "[I" ∈ lw_good := lw_t5 (i := 5) (by decide +kernel) (by decide +kernel)
theorem tw966 : Cond.fieldLink RX10 43 "ClosuresThatBounceModel" "pile" "[I" ∈ lw_good := lw_t5 (i := 6) (by decide +kernel) (by decide +kernel)
theorem tw967 : Cond.fieldLink RX10 142 "ClosuresThatBounceModel" "taped" "I" ∈ lw_good := lw_t5 (i := 7) (by decide +kernel) (by decide +kernel)
theorem tw968 : Cond.fieldLink RX10 122 "ClosuresThatBounceModel" "programMany" "I" ∈ lw_good := lw_t5 (i := 8) (by decide +kernel) (by decide +kernel)
theorem tw969 : Cond.fieldLink RX10 159 "ClosuresThatBounceModel" "reading" "I" ∈ lw_good := lw_t5 (i := 9) (by decide +kernel) (by decide +kernel)
theorem tw970 : Cond.fieldLink RX10 166 "ClosuresThatBounceModel" "badAt" "I" ∈ lw_good := lw_t5 (i := 10) (by decide +kernel) (by decide +kernel)
theorem tw971 : Cond.fieldLink RX10 149 "ClosuresThatBounceModel" "waits" "I" ∈ lw_good := lw_t5 (i := 11) (by decide +kernel) (by decide +kernel)
theorem tw972 : Cond.fieldLink RX10 182 "ClosuresThatBounceModel" "piled" "I" ∈ lw_good := lw_t5 (i := 12) (by decide +kernel) (by decide +kernel)
theorem tw973 : Cond.fieldLink RX10 189 "ClosuresThatBounceModel" "siteNow" "I" ∈ lw_good := lw_t5 (i := 13) (by decide +kernel) (by decide +kernel)
theorem tw974 : Cond.fieldLink RX10 169 "ClosuresThatBounceModel" "expressionsTold" "I" ∈ lw_good := lw_t5 (i := 14) (by decide +kernel) (by decide +kernel)
theorem tw975 : Cond.fieldLink RX10 175 "ClosuresThatBounceModel" "sitesTold" "I" ∈ lw_good := lw_t5 (i := 15) (by decide +kernel) (by decide +kernel)
theorem tw976 : Cond.fieldLink RX10 46 "ClosuresThatBounceModel" "globals" "[I" ∈ lw_good := lw_t5 (i := 16) (by decide +kernel) (by decide +kernel)
theorem tw977 : Cond.fieldLink RX10 49 "ClosuresThatBounceModel" "seen" "[I" ∈ lw_good := lw_t5 (i := 17) (by decide +kernel) (by decide +kernel)
theorem tw978 : Cond.fieldLink RX10 52 "ClosuresThatBounceModel" "hits" "[I" ∈ lw_good := lw_t5 (i := 18) (by decide +kernel) (by decide +kernel)
theorem tw979 : Cond.fieldLink RX10 55 "ClosuresThatBounceModel" "misses" "[I" ∈ lw_good := lw_t5 (i := 19) (by decide +kernel) (by decide +kernel)
theorem tw980 : Cond.fieldLink RX10 58 "ClosuresThatBounceModel" "lastCodes" "[I" ∈ lw_good := lw_t5 (i := 20) (by decide +kernel) (by decide +kernel)
theorem tw981 : Cond.fieldLink RX10 61 "ClosuresThatBounceModel" "lastHow" "I" ∈ lw_good := lw_t5 (i := 21) (by decide +kernel) (by decide +kernel)
theorem tw982 : Cond.fieldLink RX10 338 "ClosuresThatBounceModel" "lastNumber" "I" ∈ lw_good := lw_t5 (i := 22) (by decide +kernel) (by decide +kernel)
theorem tw983 : Cond.fieldLink RX10 341 "ClosuresThatBounceModel" "lastSteps" "I" ∈ lw_good := lw_t5 (i := 23) (by decide +kernel) (by decide +kernel)
theorem tw984 : Cond.fieldLink RX10 344 "ClosuresThatBounceModel" "lastDepth" "I" ∈ lw_good := lw_t5 (i := 24) (by decide +kernel) (by decide +kernel)
theorem tw985 : Cond.fieldLink RX10 347 "ClosuresThatBounceModel" "lastBounces" "I" ∈ lw_good := lw_t5 (i := 25) (by decide +kernel) (by decide +kernel)
theorem tw986 : Cond.fieldLink RX10 350 "ClosuresThatBounceModel" "lastCauses" "I" ∈ lw_good := lw_t5 (i := 26) (by decide +kernel) (by decide +kernel)
theorem tw987 : Cond.fieldLink RX10 206 "ClosuresThatBounceModel" "runs" "I" ∈ lw_good := lw_t5 (i := 27) (by decide +kernel) (by decide +kernel)
theorem tw988 : Cond.fieldLink RX10 65 "ClosuresThatBounceModel" "kind" "[I" ∈ lw_good := lw_t5 (i := 28) (by decide +kernel) (by decide +kernel)
theorem tw989 : Cond.fieldLink RX10 68 "ClosuresThatBounceModel" "valueA" "[I" ∈ lw_good := lw_t5 (i := 29) (by decide +kernel) (by decide +kernel)
theorem tw990 : Cond.fieldLink RX10 71 "ClosuresThatBounceModel" "valueB" "[I" ∈ lw_good := lw_t5 (i := 30) (by decide +kernel) (by decide +kernel)
theorem tw991 : Cond.fieldLink RX10 74 "ClosuresThatBounceModel" "valueC" "[I" ∈ lw_good := lw_t5 (i := 31) (by decide +kernel) (by decide +kernel)
theorem tw992 : Cond.fieldLink RX10 77 "ClosuresThatBounceModel" "cell" "[I" ∈ lw_good := lw_t5 (i := 32) (by decide +kernel) (by decide +kernel)
theorem tw993 : Cond.fieldLink RX10 80 "ClosuresThatBounceModel" "frameOf" "[I" ∈ lw_good := lw_t5 (i := 33) (by decide +kernel) (by decide +kernel)
theorem tw994 : Cond.fieldLink RX10 83 "ClosuresThatBounceModel" "frameCell" "[I" ∈ lw_good := lw_t5 (i := 34) (by decide +kernel) (by decide +kernel)
theorem tw995 : Cond.fieldLink RX10 86 "ClosuresThatBounceModel" "frameBelow" "[I" ∈ lw_good := lw_t5 (i := 35) (by decide +kernel) (by decide +kernel)
theorem tw996 : Cond.fieldLink RX10 89 "ClosuresThatBounceModel" "faultCode" "[I" ∈ lw_good := lw_t5 (i := 36) (by decide +kernel) (by decide +kernel)
theorem tw997 : Cond.fieldLink RX10 92 "ClosuresThatBounceModel" "faultCause" "[I" ∈ lw_good := lw_t5 (i := 37) (by decide +kernel) (by decide +kernel)
theorem tw998 : Cond.fieldLink RX10 209 "ClosuresThatBounceModel" "values" "I" ∈ lw_good := lw_t5 (i := 38) (by decide +kernel) (by decide +kernel)
theorem tw999 : Cond.fieldLink RX10 212 "ClosuresThatBounceModel" "cells" "I" ∈ lw_good := lw_t5 (i := 39) (by decide +kernel) (by decide +kernel)
theorem tw1000 : Cond.fieldLink RX10 215 "ClosuresThatBounceModel" "frames" "I" ∈ lw_good := lw_t5 (i := 40) (by decide +kernel) (by decide +kernel)
theorem tw1001 : Cond.fieldLink RX10 218 "ClosuresThatBounceModel" "faults" "I" ∈ lw_good := lw_t5 (i := 41) (by decide +kernel) (by decide +kernel)
theorem tw1002 : Cond.fieldLink RX10 95 "ClosuresThatBounceModel" "madeOf" "[I" ∈ lw_good := lw_t5 (i := 42) (by decide +kernel) (by decide +kernel)
theorem tw1003 : Cond.fieldLink RX10 98 "ClosuresThatBounceModel" "madePhase" "[I" ∈ lw_good := lw_t5 (i := 43) (by decide +kernel) (by decide +kernel)
theorem tw1004 : Cond.fieldLink RX10 101 "ClosuresThatBounceModel" "madeFrame" "[I" ∈ lw_good := lw_t5 (i := 44) (by decide +kernel) (by decide +kernel)
theorem tw1005 : Cond.fieldLink RX10 104 "ClosuresThatBounceModel" "madeEnd" "[I" ∈ lw_good := lw_t5 (i := 45) (by decide +kernel) (by decide +kernel)
theorem tw1006 : Cond.fieldLink RX10 107 "ClosuresThatBounceModel" "madeFirst" "[I" ∈ lw_good := lw_t5 (i := 46) (by decide +kernel) (by decide +kernel)
theorem tw1007 : Cond.fieldLink RX10 243 "ClosuresThatBounceModel" "made" "I" ∈ lw_good := lw_t5 (i := 47) (by decide +kernel) (by decide +kernel)
theorem tw1008 : Cond.fieldLink RX10 221 "ClosuresThatBounceModel" "going" "I" ∈ lw_good := lw_t5 (i := 48) (by decide +kernel) (by decide +kernel)
theorem tw1009 : Cond.fieldLink RX10 224 "ClosuresThatBounceModel" "nowOf" "I" ∈ lw_good := lw_t5 (i := 49) (by decide +kernel) (by decide +kernel)
theorem tw1010 : Cond.fieldLink RX10 227 "ClosuresThatBounceModel" "nowFrame" "I" ∈ lw_good := lw_t5 (i := 50) (by decide +kernel) (by decide +kernel)
theorem tw1011 : Cond.fieldLink RX10 230 "ClosuresThatBounceModel" "nowEnd" "I" ∈ lw_good := lw_t5 (i := 51) (by decide +kernel) (by decide +kernel)
theorem tw1012 : Cond.fieldLink RX10 233 "ClosuresThatBounceModel" "nowValue" "I" ∈ lw_good := lw_t5 (i := 52) (by decide +kernel) (by decide +kernel)
theorem tw1013 : Cond.fieldLink RX10 240 "ClosuresThatBounceModel" "nowFault" "I" ∈ lw_good := lw_t5 (i := 53) (by decide +kernel) (by decide +kernel)
theorem tw1014 : Cond.fieldLink RX10 256 "ClosuresThatBounceModel" "steps" "I" ∈ lw_good := lw_t5 (i := 54) (by decide +kernel) (by decide +kernel)
theorem tw1015 : Cond.fieldLink RX10 275 "ClosuresThatBounceModel" "depth" "I" ∈ lw_good := lw_t5 (i := 55) (by decide +kernel) (by decide +kernel)
theorem tw1016 : Cond.fieldLink RX10 278 "ClosuresThatBounceModel" "deepest" "I" ∈ lw_good := lw_t5 (i := 56) (by decide +kernel) (by decide +kernel)
theorem tw1017 : Cond.fieldLink RX10 272 "ClosuresThatBounceModel" "bounces" "I" ∈ lw_good := lw_t5 (i := 57) (by decide +kernel) (by decide +kernel)
theorem tw1018 : Cond.fieldLink RX10 110 "ClosuresThatBounceModel" "lastOnes" "[I" ∈ lw_good := lw_t5 (i := 58) (by decide +kernel) (by decide +kernel)
theorem tw1019 : Cond.fieldLink RX10 113 "ClosuresThatBounceModel" "kept" "[I" ∈ lw_good := lw_t5 (i := 59) (by decide +kernel) (by decide +kernel)
theorem tw1020 : Cond.fieldLink RX10 116 "ClosuresThatBounceModel" "row" "[I" ∈ lw_good := lw_t5 (i := 60) (by decide +kernel) (by decide +kernel)
theorem tw1021 : Cond.fieldLink RX10 395 "ClosuresThatBounceModel" "rowMany" "I" ∈ lw_good := lw_t5 (i := 61) (by decide +kernel) (by decide +kernel)
theorem tw1022 : Cond.fieldLink RX10 401 "ClosuresThatBounceModel" "lots" "I" ∈ lw_good := lw_t5 (i := 62) (by decide +kernel) (by decide +kernel)
theorem tw1023 : Cond.fieldLink RX10 119 "ClosuresThatBounceModel" "image" "[I" ∈ lw_good := lw_t5 (i := 63) (by decide +kernel) (by decide +kernel)
theorem tw1024 : Cond.fieldLink RX10 424 "ClosuresThatBounceModel" "hasImage" "Z" ∈ lw_good := lw_t5 (i := 64) (by decide +kernel) (by decide +kernel)
theorem tw1025 : Cond.fieldLink RX10 410 "ClosuresThatBounceModel" "isKeeping" "Z" ∈ lw_good := lw_t5 (i := 65) (by decide +kernel) (by decide +kernel)
theorem tw1026 : Cond.fieldLink RX10 414 "ClosuresThatBounceModel" "cursor" "I" ∈ lw_good := lw_t5 (i := 66) (by decide +kernel) (by decide +kernel)
theorem tw1027 : Cond.laysFinal "ClosuresThatBounceModel" "ClosuresThatBounceModel" "refused" "[I" ∈ lw_good := lw_t5 (i := 67) (by decide +kernel) (by decide +kernel)
theorem tw1028 : Cond.soleField "ClosuresThatBounceModel" "refused" ∈ lw_good := lw_t5 (i := 68) (by decide +kernel) (by decide +kernel)
theorem tw1029 : Cond.laysFinal "ClosuresThatBounceModel" "ClosuresThatBounceModel" "sign" "[I" ∈ lw_good := lw_t5 (i := 69) (by decide +kernel) (by decide +kernel)
theorem tw1030 : Cond.soleField "ClosuresThatBounceModel" "sign" ∈ lw_good := lw_t5 (i := 70) (by decide +kernel) (by decide +kernel)
theorem tw1031 : Cond.laysFinal "ClosuresThatBounceModel" "ClosuresThatBounceModel" "one" "[I" ∈ lw_good := lw_t5 (i := 71) (by decide +kernel) (by decide +kernel)
theorem tw1032 : Cond.soleField "ClosuresThatBounceModel" "one" ∈ lw_good := lw_t5 (i := 72) (by decide +kernel) (by decide +kernel)
theorem tw1033 : Cond.laysFinal "ClosuresThatBounceModel" "ClosuresThatBounceModel" "two" "[I" ∈ lw_good := lw_t5 (i := 73) (by decide +kernel) (by decide +kernel)
theorem tw1034 : Cond.soleField "ClosuresThatBounceModel" "two" ∈ lw_good := lw_t5 (i := 74) (by decide +kernel) (by decide +kernel)
theorem tw1035 : Cond.laysFinal "ClosuresThatBounceModel" "ClosuresThatBounceModel" "three" "[I" ∈ lw_good := lw_t5 (i := 75) (by decide +kernel) (by decide +kernel)
theorem tw1036 : Cond.soleField "ClosuresThatBounceModel" "three" ∈ lw_good := lw_t5 (i := 76) (by decide +kernel) (by decide +kernel)
theorem tw1037 : Cond.laysFinal "ClosuresThatBounceModel" "ClosuresThatBounceModel" "own" "[I" ∈ lw_good := lw_t5 (i := 77) (by decide +kernel) (by decide +kernel)
theorem tw1038 : Cond.soleField "ClosuresThatBounceModel" "own" ∈ lw_good := lw_t5 (i := 78) (by decide +kernel) (by decide +kernel)
theorem tw1039 : Cond.lays "ClosuresThatBounceModel" "ClosuresThatBounceModel" "expressions" "I" ∈ lw_good := lw_t5 (i := 79) (by decide +kernel) (by decide +kernel)
theorem tw1040 : Cond.soleField "ClosuresThatBounceModel" "expressions" ∈ lw_good := lw_t5 (i := 80) (by decide +kernel) (by decide +kernel)
theorem tw1041 : Cond.lays "ClosuresThatBounceModel" "ClosuresThatBounceModel" "sites" "I" ∈ lw_good := lw_t5 (i := 81) (by decide +kernel) (by decide +kernel)
theorem tw1042 : Cond.soleField "ClosuresThatBounceModel" "sites" ∈ lw_good := lw_t5 (i := 82) (by decide +kernel) (by decide +kernel)
theorem tw1043 : Cond.lays "ClosuresThatBounceModel" "ClosuresThatBounceModel" "theProgram" "I" ∈ lw_good := lw_t5 (i := 83) (by decide +kernel) (by decide +kernel)
theorem tw1044 : Cond.soleField "ClosuresThatBounceModel" "theProgram" ∈ lw_good := lw_t5 (i := 84) (by decide +kernel) (by decide +kernel)
theorem tw1045 : Cond.laysFinal "ClosuresThatBounceModel" "ClosuresThatBounceModel" "tape" "[I" ∈ lw_good := lw_t5 (i := 85) (by decide +kernel) (by decide +kernel)
theorem tw1046 : Cond.soleField "ClosuresThatBounceModel" "tape" ∈ lw_good := lw_t5 (i := 86) (by decide +kernel) (by decide +kernel)
theorem tw1047 : Cond.laysFinal "ClosuresThatBounceModel" "ClosuresThatBounceModel" "programText" "[I" ∈ lw_good := lw_t5 (i := 87) (by decide +kernel) (by decide +kernel)
theorem tw1048 : Cond.soleField "ClosuresThatBounceModel" "programText" ∈ lw_good := lw_t5 (i := 88) (by decide +kernel) (by decide +kernel)
theorem tw1049 : Cond.laysFinal "ClosuresThatBounceModel" "ClosuresThatBounceModel" "programBinder" "[I" ∈ lw_good := lw_t5 (i := 89) (by decide +kernel) (by decide +kernel)
theorem tw1050 : Cond.soleField "ClosuresThatBounceModel" "programBinder" ∈ lw_good := lw_t5 (i := 90) (by decide +kernel) (by decide +kernel)
theorem tw1051 : Cond.laysFinal "ClosuresThatBounceModel" "ClosuresThatBounceModel" "isBinder" "[I" ∈ lw_good := lw_t5 (i := 91) (by decide +kernel) (by decide +kernel)
theorem tw1052 : Cond.soleField "ClosuresThatBounceModel" "isBinder" ∈ lw_good := lw_t5 (i := 92) (by decide +kernel) (by decide +kernel)
theorem tw1053 : Cond.laysFinal "ClosuresThatBounceModel" "ClosuresThatBounceModel" "awaited" "[I" ∈ lw_good := lw_t5 (i := 93) (by decide +kernel) (by decide +kernel)
theorem tw1054 : Cond.soleField "ClosuresThatBounceModel" "awaited" ∈ lw_good := lw_t5 (i := 94) (by decide +kernel) (by decide +kernel)
theorem tw1055 : Cond.laysFinal "ClosuresThatBounceModel" "ClosuresThatBounceModel" "pile" "[I" ∈ lw_good := lw_t5 (i := 95) (by decide +kernel) (by decide +kernel)
theorem tw1056 : Cond.soleField "ClosuresThatBounceModel" "pile" ∈ lw_good := lw_t5 (i := 96) (by decide +kernel) (by decide +kernel)
theorem tw1057 : Cond.lays "ClosuresThatBounceModel" "ClosuresThatBounceModel" "taped" "I" ∈ lw_good := lw_t5 (i := 97) (by decide +kernel) (by decide +kernel)
theorem tw1058 : Cond.soleField "ClosuresThatBounceModel" "taped" ∈ lw_good := lw_t5 (i := 98) (by decide +kernel) (by decide +kernel)
theorem tw1059 : Cond.lays "ClosuresThatBounceModel" "ClosuresThatBounceModel" "programMany" "I" ∈ lw_good := lw_t5 (i := 99) (by decide +kernel) (by decide +kernel)
theorem tw1060 : Cond.soleField "ClosuresThatBounceModel" "programMany" ∈ lw_good := lw_t5 (i := 100) (by decide +kernel) (by decide +kernel)
theorem tw1061 : Cond.lays "ClosuresThatBounceModel" "ClosuresThatBounceModel" "reading" "I" ∈ lw_good := lw_t5 (i := 101) (by decide +kernel) (by decide +kernel)
theorem tw1062 : Cond.soleField "ClosuresThatBounceModel" "reading" ∈ lw_good := lw_t5 (i := 102) (by decide +kernel) (by decide +kernel)
theorem tw1063 : Cond.lays "ClosuresThatBounceModel" "ClosuresThatBounceModel" "badAt" "I" ∈ lw_good := lw_t5 (i := 103) (by decide +kernel) (by decide +kernel)
theorem tw1064 : Cond.soleField "ClosuresThatBounceModel" "badAt" ∈ lw_good := lw_t5 (i := 104) (by decide +kernel) (by decide +kernel)
theorem tw1065 : Cond.lays "ClosuresThatBounceModel" "ClosuresThatBounceModel" "waits" "I" ∈ lw_good := lw_t5 (i := 105) (by decide +kernel) (by decide +kernel)
theorem tw1066 : Cond.soleField "ClosuresThatBounceModel" "waits" ∈ lw_good := lw_t5 (i := 106) (by decide +kernel) (by decide +kernel)
theorem tw1067 : Cond.lays "ClosuresThatBounceModel" "ClosuresThatBounceModel" "piled" "I" ∈ lw_good := lw_t5 (i := 107) (by decide +kernel) (by decide +kernel)
theorem tw1068 : Cond.soleField "ClosuresThatBounceModel" "piled" ∈ lw_good := lw_t5 (i := 108) (by decide +kernel) (by decide +kernel)
theorem tw1069 : Cond.lays "ClosuresThatBounceModel" "ClosuresThatBounceModel" "siteNow" "I" ∈ lw_good := lw_t5 (i := 109) (by decide +kernel) (by decide +kernel)
theorem tw1070 : Cond.soleField "ClosuresThatBounceModel" "siteNow" ∈ lw_good := lw_t5 (i := 110) (by decide +kernel) (by decide +kernel)
theorem tw1071 : Cond.lays "ClosuresThatBounceModel" "ClosuresThatBounceModel" "expressionsTold" "I" ∈ lw_good := lw_t5 (i := 111) (by decide +kernel) (by decide +kernel)
theorem tw1072 : Cond.soleField "ClosuresThatBounceModel" "expressionsTold" ∈ lw_good := lw_t5 (i := 112) (by decide +kernel) (by decide +kernel)
theorem tw1073 : Cond.lays "ClosuresThatBounceModel" "ClosuresThatBounceModel" "sitesTold" "I" ∈ lw_good := lw_t5 (i := 113) (by decide +kernel) (by decide +kernel)
theorem tw1074 : Cond.soleField "ClosuresThatBounceModel" "sitesTold" ∈ lw_good := lw_t5 (i := 114) (by decide +kernel) (by decide +kernel)
theorem tw1075 : Cond.laysFinal "ClosuresThatBounceModel" "ClosuresThatBounceModel" "globals" "[I" ∈ lw_good := lw_t5 (i := 115) (by decide +kernel) (by decide +kernel)
theorem tw1076 : Cond.soleField "ClosuresThatBounceModel" "globals" ∈ lw_good := lw_t5 (i := 116) (by decide +kernel) (by decide +kernel)
theorem tw1077 : Cond.laysFinal "ClosuresThatBounceModel" "ClosuresThatBounceModel" "seen" "[I" ∈ lw_good := lw_t5 (i := 117) (by decide +kernel) (by decide +kernel)
theorem tw1078 : Cond.soleField "ClosuresThatBounceModel" "seen" ∈ lw_good := lw_t5 (i := 118) (by decide +kernel) (by decide +kernel)
theorem tw1079 : Cond.laysFinal "ClosuresThatBounceModel" "ClosuresThatBounceModel" "hits" "[I" ∈ lw_good := lw_t5 (i := 119) (by decide +kernel) (by decide +kernel)
theorem tw1080 : Cond.soleField "ClosuresThatBounceModel" "hits" ∈ lw_good := lw_t5 (i := 120) (by decide +kernel) (by decide +kernel)
theorem tw1081 : Cond.laysFinal "ClosuresThatBounceModel" "ClosuresThatBounceModel" "misses" "[I" ∈ lw_good := lw_t5 (i := 121) (by decide +kernel) (by decide +kernel)
theorem tw1082 : Cond.soleField "ClosuresThatBounceModel" "misses" ∈ lw_good := lw_t5 (i := 122) (by decide +kernel) (by decide +kernel)
theorem tw1083 : Cond.laysFinal "ClosuresThatBounceModel" "ClosuresThatBounceModel" "lastCodes" "[I" ∈ lw_good := lw_t5 (i := 123) (by decide +kernel) (by decide +kernel)
theorem tw1084 : Cond.soleField "ClosuresThatBounceModel" "lastCodes" ∈ lw_good := lw_t5 (i := 124) (by decide +kernel) (by decide +kernel)
theorem tw1085 : Cond.lays "ClosuresThatBounceModel" "ClosuresThatBounceModel" "lastHow" "I" ∈ lw_good := lw_t5 (i := 125) (by decide +kernel) (by decide +kernel)
theorem tw1086 : Cond.soleField "ClosuresThatBounceModel" "lastHow" ∈ lw_good := lw_t5 (i := 126) (by decide +kernel) (by decide +kernel)
theorem tw1087 : Cond.lays "ClosuresThatBounceModel" "ClosuresThatBounceModel" "lastNumber" "I" ∈ lw_good := lw_t5 (i := 127) (by decide +kernel) (by decide +kernel)
theorem tw1088 : Cond.soleField "ClosuresThatBounceModel" "lastNumber" ∈ lw_good := lw_t5 (i := 128) (by decide +kernel) (by decide +kernel)
theorem tw1089 : Cond.lays "ClosuresThatBounceModel" "ClosuresThatBounceModel" "lastSteps" "I" ∈ lw_good := lw_t5 (i := 129) (by decide +kernel) (by decide +kernel)
theorem tw1090 : Cond.soleField "ClosuresThatBounceModel" "lastSteps" ∈ lw_good := lw_t5 (i := 130) (by decide +kernel) (by decide +kernel)
theorem tw1091 : Cond.lays "ClosuresThatBounceModel" "ClosuresThatBounceModel" "lastDepth" "I" ∈ lw_good := lw_t5 (i := 131) (by decide +kernel) (by decide +kernel)
theorem tw1092 : Cond.soleField "ClosuresThatBounceModel" "lastDepth" ∈ lw_good := lw_t5 (i := 132) (by decide +kernel) (by decide +kernel)
theorem tw1093 : Cond.lays "ClosuresThatBounceModel" "ClosuresThatBounceModel" "lastBounces" "I" ∈ lw_good := lw_t5 (i := 133) (by decide +kernel) (by decide +kernel)
theorem tw1094 : Cond.soleField "ClosuresThatBounceModel" "lastBounces" ∈ lw_good := lw_t5 (i := 134) (by decide +kernel) (by decide +kernel)
theorem tw1095 : Cond.lays "ClosuresThatBounceModel" "ClosuresThatBounceModel" "lastCauses" "I" ∈ lw_good := lw_t5 (i := 135) (by decide +kernel) (by decide +kernel)
theorem tw1096 : Cond.soleField "ClosuresThatBounceModel" "lastCauses" ∈ lw_good := lw_t5 (i := 136) (by decide +kernel) (by decide +kernel)
theorem tw1097 : Cond.lays "ClosuresThatBounceModel" "ClosuresThatBounceModel" "runs" "I" ∈ lw_good := lw_t5 (i := 137) (by decide +kernel) (by decide +kernel)
theorem tw1098 : Cond.soleField "ClosuresThatBounceModel" "runs" ∈ lw_good := lw_t5 (i := 138) (by decide +kernel) (by decide +kernel)
theorem tw1099 : Cond.laysFinal "ClosuresThatBounceModel" "ClosuresThatBounceModel" "kind" "[I" ∈ lw_good := lw_t5 (i := 139) (by decide +kernel) (by decide +kernel)
theorem tw1100 : Cond.soleField "ClosuresThatBounceModel" "kind" ∈ lw_good := lw_t5 (i := 140) (by decide +kernel) (by decide +kernel)
theorem tw1101 : Cond.laysFinal "ClosuresThatBounceModel" "ClosuresThatBounceModel" "valueA" "[I" ∈ lw_good := lw_t5 (i := 141) (by decide +kernel) (by decide +kernel)
theorem tw1102 : Cond.soleField "ClosuresThatBounceModel" "valueA" ∈ lw_good := lw_t5 (i := 142) (by decide +kernel) (by decide +kernel)
theorem tw1103 : Cond.laysFinal "ClosuresThatBounceModel" "ClosuresThatBounceModel" "valueB" "[I" ∈ lw_good := lw_t5 (i := 143) (by decide +kernel) (by decide +kernel)
theorem tw1104 : Cond.soleField "ClosuresThatBounceModel" "valueB" ∈ lw_good := lw_t5 (i := 144) (by decide +kernel) (by decide +kernel)
theorem tw1105 : Cond.laysFinal "ClosuresThatBounceModel" "ClosuresThatBounceModel" "valueC" "[I" ∈ lw_good := lw_t5 (i := 145) (by decide +kernel) (by decide +kernel)
theorem tw1106 : Cond.soleField "ClosuresThatBounceModel" "valueC" ∈ lw_good := lw_t5 (i := 146) (by decide +kernel) (by decide +kernel)
theorem tw1107 : Cond.laysFinal "ClosuresThatBounceModel" "ClosuresThatBounceModel" "cell" "[I" ∈ lw_good := lw_t5 (i := 147) (by decide +kernel) (by decide +kernel)
theorem tw1108 : Cond.soleField "ClosuresThatBounceModel" "cell" ∈ lw_good := lw_t5 (i := 148) (by decide +kernel) (by decide +kernel)
theorem tw1109 : Cond.laysFinal "ClosuresThatBounceModel" "ClosuresThatBounceModel" "frameOf" "[I" ∈ lw_good := lw_t5 (i := 149) (by decide +kernel) (by decide +kernel)
theorem tw1110 : Cond.soleField "ClosuresThatBounceModel" "frameOf" ∈ lw_good := lw_t5 (i := 150) (by decide +kernel) (by decide +kernel)
theorem tw1111 : Cond.laysFinal "ClosuresThatBounceModel" "ClosuresThatBounceModel" "frameCell" "[I" ∈ lw_good := lw_t5 (i := 151) (by decide +kernel) (by decide +kernel)
theorem tw1112 : Cond.soleField "ClosuresThatBounceModel" "frameCell" ∈ lw_good := lw_t5 (i := 152) (by decide +kernel) (by decide +kernel)
theorem tw1113 : Cond.laysFinal "ClosuresThatBounceModel" "ClosuresThatBounceModel" "frameBelow" "[I" ∈ lw_good := lw_t5 (i := 153) (by decide +kernel) (by decide +kernel)
theorem tw1114 : Cond.soleField "ClosuresThatBounceModel" "frameBelow" ∈ lw_good := lw_t5 (i := 154) (by decide +kernel) (by decide +kernel)
theorem tw1115 : Cond.laysFinal "ClosuresThatBounceModel" "ClosuresThatBounceModel" "faultCode" "[I" ∈ lw_good := lw_t5 (i := 155) (by decide +kernel) (by decide +kernel)
theorem tw1116 : Cond.soleField "ClosuresThatBounceModel" "faultCode" ∈ lw_good := lw_t5 (i := 156) (by decide +kernel) (by decide +kernel)
theorem tw1117 : Cond.laysFinal "ClosuresThatBounceModel" "ClosuresThatBounceModel" "faultCause" "[I" ∈ lw_good := lw_t5 (i := 157) (by decide +kernel) (by decide +kernel)
theorem tw1118 : Cond.soleField "ClosuresThatBounceModel" "faultCause" ∈ lw_good := lw_t5 (i := 158) (by decide +kernel) (by decide +kernel)
theorem tw1119 : Cond.lays "ClosuresThatBounceModel" "ClosuresThatBounceModel" "values" "I" ∈ lw_good := lw_t5 (i := 159) (by decide +kernel) (by decide +kernel)
theorem tw1120 : Cond.soleField "ClosuresThatBounceModel" "values" ∈ lw_good := lw_t5 (i := 160) (by decide +kernel) (by decide +kernel)
theorem tw1121 : Cond.lays "ClosuresThatBounceModel" "ClosuresThatBounceModel" "cells" "I" ∈ lw_good := lw_t5 (i := 161) (by decide +kernel) (by decide +kernel)
theorem tw1122 : Cond.soleField "ClosuresThatBounceModel" "cells" ∈ lw_good := lw_t5 (i := 162) (by decide +kernel) (by decide +kernel)
theorem tw1123 : Cond.lays "ClosuresThatBounceModel" "ClosuresThatBounceModel" "frames" "I" ∈ lw_good := lw_t5 (i := 163) (by decide +kernel) (by decide +kernel)
theorem tw1124 : Cond.soleField "ClosuresThatBounceModel" "frames" ∈ lw_good := lw_t5 (i := 164) (by decide +kernel) (by decide +kernel)
theorem tw1125 : Cond.lays "ClosuresThatBounceModel" "ClosuresThatBounceModel" "faults" "I" ∈ lw_good := lw_t5 (i := 165) (by decide +kernel) (by decide +kernel)
theorem tw1126 : Cond.soleField "ClosuresThatBounceModel" "faults" ∈ lw_good := lw_t5 (i := 166) (by decide +kernel) (by decide +kernel)
theorem tw1127 : Cond.laysFinal "ClosuresThatBounceModel" "ClosuresThatBounceModel" "madeOf" "[I" ∈ lw_good := lw_t5 (i := 167) (by decide +kernel) (by decide +kernel)
theorem tw1128 : Cond.soleField "ClosuresThatBounceModel" "madeOf" ∈ lw_good := lw_t5 (i := 168) (by decide +kernel) (by decide +kernel)
theorem tw1129 : Cond.laysFinal "ClosuresThatBounceModel" "ClosuresThatBounceModel" "madePhase" "[I" ∈ lw_good := lw_t5 (i := 169) (by decide +kernel) (by decide +kernel)
theorem tw1130 : Cond.soleField "ClosuresThatBounceModel" "madePhase" ∈ lw_good := lw_t5 (i := 170) (by decide +kernel) (by decide +kernel)
theorem tw1131 : Cond.laysFinal "ClosuresThatBounceModel" "ClosuresThatBounceModel" "madeFrame" "[I" ∈ lw_good := lw_t5 (i := 171) (by decide +kernel) (by decide +kernel)
theorem tw1132 : Cond.soleField "ClosuresThatBounceModel" "madeFrame" ∈ lw_good := lw_t5 (i := 172) (by decide +kernel) (by decide +kernel)
theorem tw1133 : Cond.laysFinal "ClosuresThatBounceModel" "ClosuresThatBounceModel" "madeEnd" "[I" ∈ lw_good := lw_t5 (i := 173) (by decide +kernel) (by decide +kernel)
theorem tw1134 : Cond.soleField "ClosuresThatBounceModel" "madeEnd" ∈ lw_good := lw_t5 (i := 174) (by decide +kernel) (by decide +kernel)
theorem tw1135 : Cond.laysFinal "ClosuresThatBounceModel" "ClosuresThatBounceModel" "madeFirst" "[I" ∈ lw_good := lw_t5 (i := 175) (by decide +kernel) (by decide +kernel)
theorem tw1136 : Cond.soleField "ClosuresThatBounceModel" "madeFirst" ∈ lw_good := lw_t5 (i := 176) (by decide +kernel) (by decide +kernel)
theorem tw1137 : Cond.lays "ClosuresThatBounceModel" "ClosuresThatBounceModel" "made" "I" ∈ lw_good := lw_t5 (i := 177) (by decide +kernel) (by decide +kernel)
theorem tw1138 : Cond.soleField "ClosuresThatBounceModel" "made" ∈ lw_good := lw_t5 (i := 178) (by decide +kernel) (by decide +kernel)
theorem tw1139 : Cond.lays "ClosuresThatBounceModel" "ClosuresThatBounceModel" "going" "I" ∈ lw_good := lw_t5 (i := 179) (by decide +kernel) (by decide +kernel)
theorem tw1140 : Cond.soleField "ClosuresThatBounceModel" "going" ∈ lw_good := lw_t5 (i := 180) (by decide +kernel) (by decide +kernel)
theorem tw1141 : Cond.lays "ClosuresThatBounceModel" "ClosuresThatBounceModel" "nowOf" "I" ∈ lw_good := lw_t5 (i := 181) (by decide +kernel) (by decide +kernel)
theorem tw1142 : Cond.soleField "ClosuresThatBounceModel" "nowOf" ∈ lw_good := lw_t5 (i := 182) (by decide +kernel) (by decide +kernel)
theorem tw1143 : Cond.lays "ClosuresThatBounceModel" "ClosuresThatBounceModel" "nowFrame" "I" ∈ lw_good := lw_t5 (i := 183) (by decide +kernel) (by decide +kernel)
theorem tw1144 : Cond.soleField "ClosuresThatBounceModel" "nowFrame" ∈ lw_good := lw_t5 (i := 184) (by decide +kernel) (by decide +kernel)
theorem tw1145 : Cond.lays "ClosuresThatBounceModel" "ClosuresThatBounceModel" "nowEnd" "I" ∈ lw_good := lw_t5 (i := 185) (by decide +kernel) (by decide +kernel)
theorem tw1146 : Cond.soleField "ClosuresThatBounceModel" "nowEnd" ∈ lw_good := lw_t5 (i := 186) (by decide +kernel) (by decide +kernel)
theorem tw1147 : Cond.lays "ClosuresThatBounceModel" "ClosuresThatBounceModel" "nowValue" "I" ∈ lw_good := lw_t5 (i := 187) (by decide +kernel) (by decide +kernel)
theorem tw1148 : Cond.soleField "ClosuresThatBounceModel" "nowValue" ∈ lw_good := lw_t5 (i := 188) (by decide +kernel) (by decide +kernel)
theorem tw1149 : Cond.lays "ClosuresThatBounceModel" "ClosuresThatBounceModel" "nowFault" "I" ∈ lw_good := lw_t5 (i := 189) (by decide +kernel) (by decide +kernel)
theorem tw1150 : Cond.soleField "ClosuresThatBounceModel" "nowFault" ∈ lw_good := lw_t5 (i := 190) (by decide +kernel) (by decide +kernel)
theorem tw1151 : Cond.lays "ClosuresThatBounceModel" "ClosuresThatBounceModel" "steps" "I" ∈ lw_good := lw_t5 (i := 191) (by decide +kernel) (by decide +kernel)
theorem tw1152 : Cond.soleField "ClosuresThatBounceModel" "steps" ∈ lw_good := lw_t5 (i := 192) (by decide +kernel) (by decide +kernel)
theorem tw1153 : Cond.lays "ClosuresThatBounceModel" "ClosuresThatBounceModel" "depth" "I" ∈ lw_good := lw_t5 (i := 193) (by decide +kernel) (by decide +kernel)
theorem tw1154 : Cond.soleField "ClosuresThatBounceModel" "depth" ∈ lw_good := lw_t5 (i := 194) (by decide +kernel) (by decide +kernel)
theorem tw1155 : Cond.lays "ClosuresThatBounceModel" "ClosuresThatBounceModel" "deepest" "I" ∈ lw_good := lw_t5 (i := 195) (by decide +kernel) (by decide +kernel)
theorem tw1156 : Cond.soleField "ClosuresThatBounceModel" "deepest" ∈ lw_good := lw_t5 (i := 196) (by decide +kernel) (by decide +kernel)
theorem tw1157 : Cond.lays "ClosuresThatBounceModel" "ClosuresThatBounceModel" "bounces" "I" ∈ lw_good := lw_t5 (i := 197) (by decide +kernel) (by decide +kernel)
theorem tw1158 : Cond.soleField "ClosuresThatBounceModel" "bounces" ∈ lw_good := lw_t5 (i := 198) (by decide +kernel) (by decide +kernel)
theorem tw1159 : Cond.laysFinal "ClosuresThatBounceModel" "ClosuresThatBounceModel" "lastOnes" "[I" ∈ lw_good := lw_t5 (i := 199) (by decide +kernel) (by decide +kernel)
theorem tw1160 : Cond.soleField "ClosuresThatBounceModel" "lastOnes" ∈ lw_good := lw_t5 (i := 200) (by decide +kernel) (by decide +kernel)
theorem tw1161 : Cond.laysFinal "ClosuresThatBounceModel" "ClosuresThatBounceModel" "kept" "[I" ∈ lw_good := lw_t5 (i := 201) (by decide +kernel) (by decide +kernel)
theorem tw1162 : Cond.soleField "ClosuresThatBounceModel" "kept" ∈ lw_good := lw_t5 (i := 202) (by decide +kernel) (by decide +kernel)
theorem tw1163 : Cond.laysFinal "ClosuresThatBounceModel" "ClosuresThatBounceModel" "row" "[I" ∈ lw_good := lw_t5 (i := 203) (by decide +kernel) (by decide +kernel)
theorem tw1164 : Cond.soleField "ClosuresThatBounceModel" "row" ∈ lw_good := lw_t5 (i := 204) (by decide +kernel) (by decide +kernel)
theorem tw1165 : Cond.lays "ClosuresThatBounceModel" "ClosuresThatBounceModel" "rowMany" "I" ∈ lw_good := lw_t5 (i := 205) (by decide +kernel) (by decide +kernel)
theorem tw1166 : Cond.soleField "ClosuresThatBounceModel" "rowMany" ∈ lw_good := lw_t5 (i := 206) (by decide +kernel) (by decide +kernel)
theorem tw1167 : Cond.lays "ClosuresThatBounceModel" "ClosuresThatBounceModel" "lots" "I" ∈ lw_good := lw_t5 (i := 207) (by decide +kernel) (by decide +kernel)
theorem tw1168 : Cond.soleField "ClosuresThatBounceModel" "lots" ∈ lw_good := lw_t5 (i := 208) (by decide +kernel) (by decide +kernel)
theorem tw1169 : Cond.laysFinal "ClosuresThatBounceModel" "ClosuresThatBounceModel" "image" "[I" ∈ lw_good := lw_t5 (i := 209) (by decide +kernel) (by decide +kernel)
theorem tw1170 : Cond.soleField "ClosuresThatBounceModel" "image" ∈ lw_good := lw_t5 (i := 210) (by decide +kernel) (by decide +kernel)
theorem tw1171 : Cond.lays "ClosuresThatBounceModel" "ClosuresThatBounceModel" "hasImage" "Z" ∈ lw_good := lw_t5 (i := 211) (by decide +kernel) (by decide +kernel)
theorem tw1172 : Cond.soleField "ClosuresThatBounceModel" "hasImage" ∈ lw_good := lw_t5 (i := 212) (by decide +kernel) (by decide +kernel)
theorem tw1173 : Cond.lays "ClosuresThatBounceModel" "ClosuresThatBounceModel" "isKeeping" "Z" ∈ lw_good := lw_t5 (i := 213) (by decide +kernel) (by decide +kernel)
theorem tw1174 : Cond.soleField "ClosuresThatBounceModel" "isKeeping" ∈ lw_good := lw_t5 (i := 214) (by decide +kernel) (by decide +kernel)
theorem tw1175 : Cond.lays "ClosuresThatBounceModel" "ClosuresThatBounceModel" "cursor" "I" ∈ lw_good := lw_t5 (i := 215) (by decide +kernel) (by decide +kernel)
theorem tw1176 : Cond.soleField "ClosuresThatBounceModel" "cursor" ∈ lw_good := lw_t5 (i := 216) (by decide +kernel) (by decide +kernel)
theorem tw1178 : Cond.methodLink RL 17 yX10_letter ∈ lw_good := lw_t5 (i := 218) (by decide +kernel) (by decide +kernel)
theorem tw1179 : Cond.instanceMethod yX10_letter ∈ lw_good := lw_t5 (i := 219) (by decide +kernel) (by decide +kernel)
theorem tw1180 : Cond.selects RX10 yX10_letter yX10_letter ∈ lw_good := lw_t5 (i := 220) (by decide +kernel) (by decide +kernel)
theorem tw1181 : Cond.code yX10_letter prog_12_method_9_code 3 (some .int) ∈ lw_good := lw_t5 (i := 221) (by decide +kernel) (by decide +kernel)
theorem tw1182 : Cond.methodLink RX10 138 yX10_bound ∈ lw_good := lw_t5 (i := 222) (by decide +kernel) (by decide +kernel)
theorem tw1183 : Cond.static yX10_bound ∈ lw_good := lw_t5 (i := 223) (by decide +kernel) (by decide +kernel)
theorem tw1184 : Cond.code yX10_bound prog_12_method_6_code 3 (some .int) ∈ lw_good := lw_t5 (i := 224) (by decide +kernel) (by decide +kernel)
theorem tw1185 : Cond.methodLink RX10 145 yX10_no ∈ lw_good := lw_t5 (i := 225) (by decide +kernel) (by decide +kernel)
theorem tw1187 : Cond.instanceMethod yX10_no ∈ lw_good := lw_t5 (i := 227) (by decide +kernel) (by decide +kernel)
theorem tw1188 : Cond.code yX10_no prog_12_method_2_code 2 (some .int) ∈ lw_good := lw_t5 (i := 228) (by decide +kernel) (by decide +kernel)
theorem tw1189 : Cond.methodLink RL 22 yX10_program ∈ lw_good := lw_t5 (i := 229) (by decide +kernel) (by decide +kernel)
theorem tw1190 : Cond.instanceMethod yX10_program ∈ lw_good := lw_t5 (i := 230) (by decide +kernel) (by decide +kernel)
theorem tw1191 : Cond.selects RX10 yX10_program yX10_program ∈ lw_good := lw_t5 (i := 231) (by decide +kernel) (by decide +kernel)
theorem tw1192 : Cond.code yX10_program prog_12_method_19_code 4 (some .int) ∈ lw_good := lw_t5 (i := 232) (by decide +kernel) (by decide +kernel)
theorem tw1193 : Cond.methodLink RX10 202 yX10_reads ∈ lw_good := lw_t5 (i := 233) (by decide +kernel) (by decide +kernel)
theorem tw1195 : Cond.instanceMethod yX10_reads ∈ lw_good := lw_t5 (i := 235) (by decide +kernel) (by decide +kernel)
theorem tw1196 : Cond.code yX10_reads prog_12_method_15_code 1 (some .boolean) ∈ lw_good := lw_t5 (i := 236) (by decide +kernel) (by decide +kernel)
theorem tw1197 : Cond.methodLink RX10 152 yX10_awaits ∈ lw_good := lw_t5 (i := 237) (by decide +kernel) (by decide +kernel)
theorem tw1199 : Cond.instanceMethod yX10_awaits ∈ lw_good := lw_t5 (i := 239) (by decide +kernel) (by decide +kernel)
theorem tw1200 : Cond.code yX10_awaits prog_12_method_10_code 2 none ∈ lw_good := lw_t6 (i := 0) (by decide +kernel) (by decide +kernel)
theorem tw1201 : Cond.methodLink RX10 178 yX10_readsOne ∈ lw_good := lw_t6 (i := 1) (by decide +kernel) (by decide +kernel)
theorem tw1203 : Cond.instanceMethod yX10_readsOne ∈ lw_good := lw_t6 (i := 3) (by decide +kernel) (by decide +kernel)
theorem tw1204 : Cond.code yX10_readsOne prog_12_method_14_code 3 (some .boolean) ∈ lw_good := lw_t6 (i := 4) (by decide +kernel) (by decide +kernel)
theorem tw1205 : Cond.methodLink RX10 162 yX10_awaitsParts ∈ lw_good := lw_t6 (i := 5) (by decide +kernel) (by decide +kernel)
theorem tw1207 : Cond.instanceMethod yX10_awaitsParts ∈ lw_good := lw_t6 (i := 7) (by decide +kernel) (by decide +kernel)
theorem tw1208 : Cond.code yX10_awaitsParts prog_12_method_13_code 4 (some .boolean) ∈ lw_good := lw_t6 (i := 8) (by decide +kernel) (by decide +kernel)
theorem tw1209 : Cond.methodLink RL 35 yX10_run ∈ lw_good := lw_t6 (i := 9) (by decide +kernel) (by decide +kernel)
theorem tw1210 : Cond.instanceMethod yX10_run ∈ lw_good := lw_t6 (i := 10) (by decide +kernel) (by decide +kernel)
theorem tw1211 : Cond.selects RX10 yX10_run yX10_run ∈ lw_good := lw_t6 (i := 11) (by decide +kernel) (by decide +kernel)
theorem tw1212 : Cond.code yX10_run prog_12_method_49_code 1 (some .int) ∈ lw_good := lw_t6 (i := 12) (by decide +kernel) (by decide +kernel)
theorem tw1213 : Cond.methodLink RX10 353 yX10_goes ∈ lw_good := lw_t6 (i := 13) (by decide +kernel) (by decide +kernel)
theorem tw1215 : Cond.instanceMethod yX10_goes ∈ lw_good := lw_t6 (i := 15) (by decide +kernel) (by decide +kernel)
theorem tw1216 : Cond.code yX10_goes prog_12_method_43_code 1 none ∈ lw_good := lw_t6 (i := 16) (by decide +kernel) (by decide +kernel)
theorem tw1217 : Cond.methodLink RX10 268 yX10_makes ∈ lw_good := lw_t6 (i := 17) (by decide +kernel) (by decide +kernel)
theorem tw1219 : Cond.instanceMethod yX10_makes ∈ lw_good := lw_t6 (i := 19) (by decide +kernel) (by decide +kernel)
theorem tw1220 : Cond.code yX10_makes prog_12_method_24_code 4 none ∈ lw_good := lw_t6 (i := 20) (by decide +kernel) (by decide +kernel)
theorem tw1221 : Cond.methodLink RX10 320 yX10_begins ∈ lw_good := lw_t6 (i := 21) (by decide +kernel) (by decide +kernel)
theorem tw1223 : Cond.instanceMethod yX10_begins ∈ lw_good := lw_t6 (i := 23) (by decide +kernel) (by decide +kernel)
theorem tw1224 : Cond.code yX10_begins prog_12_method_29_code 3 none ∈ lw_good := lw_t6 (i := 24) (by decide +kernel) (by decide +kernel)
theorem tw1225 : Cond.methodLink RX10 259 yX10_fails ∈ lw_good := lw_t6 (i := 25) (by decide +kernel) (by decide +kernel)
theorem tw1227 : Cond.instanceMethod yX10_fails ∈ lw_good := lw_t6 (i := 27) (by decide +kernel) (by decide +kernel)
theorem tw1228 : Cond.code yX10_fails prog_12_method_26_code 2 none ∈ lw_good := lw_t6 (i := 28) (by decide +kernel) (by decide +kernel)
theorem tw1229 : Cond.methodLink RX10 236 yX10_faultOf ∈ lw_good := lw_t6 (i := 29) (by decide +kernel) (by decide +kernel)
theorem tw1231 : Cond.instanceMethod yX10_faultOf ∈ lw_good := lw_t6 (i := 31) (by decide +kernel) (by decide +kernel)
theorem tw1232 : Cond.code yX10_faultOf prog_12_method_23_code 3 (some .int) ∈ lw_good := lw_t6 (i := 32) (by decide +kernel) (by decide +kernel)
theorem tw1233 : Cond.methodLink RX10 249 yX10_valueOf ∈ lw_good := lw_t6 (i := 33) (by decide +kernel) (by decide +kernel)
theorem tw1235 : Cond.instanceMethod yX10_valueOf ∈ lw_good := lw_t6 (i := 35) (by decide +kernel) (by decide +kernel)
theorem tw1236 : Cond.code yX10_valueOf prog_12_method_20_code 5 (some .int) ∈ lw_good := lw_t6 (i := 36) (by decide +kernel) (by decide +kernel)
theorem tw1237 : Cond.methodLink RX10 253 yX10_has ∈ lw_good := lw_t6 (i := 37) (by decide +kernel) (by decide +kernel)
theorem tw1239 : Cond.instanceMethod yX10_has ∈ lw_good := lw_t6 (i := 39) (by decide +kernel) (by decide +kernel)
theorem tw1240 : Cond.code yX10_has prog_12_method_25_code 2 none ∈ lw_good := lw_t6 (i := 40) (by decide +kernel) (by decide +kernel)
theorem tw1241 : Cond.methodLink RX10 262 yX10_looksUp ∈ lw_good := lw_t6 (i := 41) (by decide +kernel) (by decide +kernel)
theorem tw1243 : Cond.instanceMethod yX10_looksUp ∈ lw_good := lw_t6 (i := 43) (by decide +kernel) (by decide +kernel)
theorem tw1244 : Cond.code yX10_looksUp prog_12_method_28_code 3 none ∈ lw_good := lw_t6 (i := 44) (by decide +kernel) (by decide +kernel)
theorem tw1245 : Cond.methodLink RX10 246 yX10_cellOf ∈ lw_good := lw_t6 (i := 45) (by decide +kernel) (by decide +kernel)
theorem tw1247 : Cond.instanceMethod yX10_cellOf ∈ lw_good := lw_t6 (i := 47) (by decide +kernel) (by decide +kernel)
theorem tw1248 : Cond.code yX10_cellOf prog_12_method_22_code 4 (some .int) ∈ lw_good := lw_t6 (i := 48) (by decide +kernel) (by decide +kernel)
theorem tw1249 : Cond.methodLink RX10 265 yX10_waitsFor ∈ lw_good := lw_t6 (i := 49) (by decide +kernel) (by decide +kernel)
theorem tw1251 : Cond.instanceMethod yX10_waitsFor ∈ lw_good := lw_t6 (i := 51) (by decide +kernel) (by decide +kernel)
theorem tw1252 : Cond.code yX10_waitsFor prog_12_method_27_code 2 none ∈ lw_good := lw_t6 (i := 52) (by decide +kernel) (by decide +kernel)
theorem tw1253 : Cond.methodLink RX10 323 yX10_goesOn ∈ lw_good := lw_t6 (i := 53) (by decide +kernel) (by decide +kernel)
theorem tw1255 : Cond.instanceMethod yX10_goesOn ∈ lw_good := lw_t6 (i := 55) (by decide +kernel) (by decide +kernel)
theorem tw1256 : Cond.code yX10_goesOn prog_12_method_41_code 3 none ∈ lw_good := lw_t6 (i := 56) (by decide +kernel) (by decide +kernel)
theorem tw1257 : Cond.methodLink RX10 311 yX10_isFirstOfTwo ∈ lw_good := lw_t6 (i := 57) (by decide +kernel) (by decide +kernel)
theorem tw1259 : Cond.instanceMethod yX10_isFirstOfTwo ∈ lw_good := lw_t6 (i := 59) (by decide +kernel) (by decide +kernel)
theorem tw1260 : Cond.code yX10_isFirstOfTwo prog_12_method_39_code 3 (some .boolean) ∈ lw_good := lw_t6 (i := 60) (by decide +kernel) (by decide +kernel)
theorem tw1261 : Cond.methodLink RX10 314 yX10_keepsFirst ∈ lw_good := lw_t6 (i := 61) (by decide +kernel) (by decide +kernel)
theorem tw1263 : Cond.instanceMethod yX10_keepsFirst ∈ lw_good := lw_t6 (i := 63) (by decide +kernel) (by decide +kernel)
theorem tw1264 : Cond.code yX10_keepsFirst prog_12_method_38_code 3 none ∈ lw_good := lw_t6 (i := 64) (by decide +kernel) (by decide +kernel)
theorem tw1265 : Cond.methodLink RX10 317 yX10_goesOnOf ∈ lw_good := lw_t6 (i := 65) (by decide +kernel) (by decide +kernel)
theorem tw1267 : Cond.instanceMethod yX10_goesOnOf ∈ lw_good := lw_t6 (i := 67) (by decide +kernel) (by decide +kernel)
theorem tw1268 : Cond.code yX10_goesOnOf prog_12_method_40_code 4 none ∈ lw_good := lw_t6 (i := 68) (by decide +kernel) (by decide +kernel)
theorem tw1269 : Cond.methodLink RX10 293 yX10_reckons ∈ lw_good := lw_t6 (i := 69) (by decide +kernel) (by decide +kernel)
theorem tw1271 : Cond.instanceMethod yX10_reckons ∈ lw_good := lw_t6 (i := 71) (by decide +kernel) (by decide +kernel)
theorem tw1272 : Cond.code yX10_reckons prog_12_method_30_code 7 none ∈ lw_good := lw_t6 (i := 72) (by decide +kernel) (by decide +kernel)
theorem tw1273 : Cond.methodLink RX10 296 yX10_chooses ∈ lw_good := lw_t6 (i := 73) (by decide +kernel) (by decide +kernel)
theorem tw1275 : Cond.instanceMethod yX10_chooses ∈ lw_good := lw_t6 (i := 75) (by decide +kernel) (by decide +kernel)
theorem tw1276 : Cond.code yX10_chooses prog_12_method_31_code 3 none ∈ lw_good := lw_t6 (i := 76) (by decide +kernel) (by decide +kernel)
theorem tw1277 : Cond.methodLink RX10 281 yX10_frameWith ∈ lw_good := lw_t6 (i := 77) (by decide +kernel) (by decide +kernel)
theorem tw1279 : Cond.instanceMethod yX10_frameWith ∈ lw_good := lw_t6 (i := 79) (by decide +kernel) (by decide +kernel)
theorem tw1280 : Cond.code yX10_frameWith prog_12_method_21_code 4 (some .int) ∈ lw_good := lw_t6 (i := 80) (by decide +kernel) (by decide +kernel)
theorem tw1281 : Cond.methodLink RX10 299 yX10_puts ∈ lw_good := lw_t6 (i := 81) (by decide +kernel) (by decide +kernel)
theorem tw1283 : Cond.instanceMethod yX10_puts ∈ lw_good := lw_t6 (i := 83) (by decide +kernel) (by decide +kernel)
theorem tw1284 : Cond.code yX10_puts prog_12_method_32_code 4 none ∈ lw_good := lw_t6 (i := 84) (by decide +kernel) (by decide +kernel)
theorem tw1285 : Cond.methodLink RX10 302 yX10_calls ∈ lw_good := lw_t6 (i := 85) (by decide +kernel) (by decide +kernel)
theorem tw1287 : Cond.instanceMethod yX10_calls ∈ lw_good := lw_t6 (i := 87) (by decide +kernel) (by decide +kernel)
theorem tw1288 : Cond.code yX10_calls prog_12_method_33_code 4 none ∈ lw_good := lw_t6 (i := 88) (by decide +kernel) (by decide +kernel)
theorem tw1289 : Cond.methodLink RX10 305 yX10_findsField ∈ lw_good := lw_t6 (i := 89) (by decide +kernel) (by decide +kernel)
theorem tw1291 : Cond.instanceMethod yX10_findsField ∈ lw_good := lw_t6 (i := 91) (by decide +kernel) (by decide +kernel)
theorem tw1292 : Cond.code yX10_findsField prog_12_method_36_code 4 none ∈ lw_good := lw_t6 (i := 92) (by decide +kernel) (by decide +kernel)
theorem tw1293 : Cond.methodLink RX10 287 yX10_hasField ∈ lw_good := lw_t6 (i := 93) (by decide +kernel) (by decide +kernel)
theorem tw1294 : Cond.static yX10_hasField ∈ lw_good := lw_t6 (i := 94) (by decide +kernel) (by decide +kernel)
theorem tw1295 : Cond.code yX10_hasField prog_12_method_34_code 2 (some .boolean) ∈ lw_good := lw_t6 (i := 95) (by decide +kernel) (by decide +kernel)
theorem tw1296 : Cond.methodLink RX10 290 yX10_passesCache ∈ lw_good := lw_t6 (i := 96) (by decide +kernel) (by decide +kernel)
theorem tw1298 : Cond.instanceMethod yX10_passesCache ∈ lw_good := lw_t6 (i := 98) (by decide +kernel) (by decide +kernel)
theorem tw1299 : Cond.code yX10_passesCache prog_12_method_35_code 4 none ∈ lw_good := lw_t6 (i := 99) (by decide +kernel) (by decide +kernel)
theorem tw1300 : Cond.methodLink RX10 284 yX10_bits ∈ lw_good := lw_t6 (i := 100) (by decide +kernel) (by decide +kernel)
theorem tw1301 : Cond.static yX10_bits ∈ lw_good := lw_t6 (i := 101) (by decide +kernel) (by decide +kernel)
theorem tw1302 : Cond.code yX10_bits prog_12_method_8_code 3 (some .int) ∈ lw_good := lw_t6 (i := 102) (by decide +kernel) (by decide +kernel)
theorem tw1303 : Cond.methodLink RX10 308 yX10_throwsNow ∈ lw_good := lw_t6 (i := 103) (by decide +kernel) (by decide +kernel)
theorem tw1305 : Cond.instanceMethod yX10_throwsNow ∈ lw_good := lw_t6 (i := 105) (by decide +kernel) (by decide +kernel)
theorem tw1306 : Cond.code yX10_throwsNow prog_12_method_37_code 1 none ∈ lw_good := lw_t6 (i := 106) (by decide +kernel) (by decide +kernel)
theorem tw1307 : Cond.methodLink RX10 326 yX10_falls ∈ lw_good := lw_t6 (i := 107) (by decide +kernel) (by decide +kernel)
theorem tw1309 : Cond.instanceMethod yX10_falls ∈ lw_good := lw_t6 (i := 109) (by decide +kernel) (by decide +kernel)
theorem tw1310 : Cond.code yX10_falls prog_12_method_42_code 3 none ∈ lw_good := lw_t6 (i := 110) (by decide +kernel) (by decide +kernel)
theorem tw1311 : Cond.methodLink RX10 356 yX10_tellsLast ∈ lw_good := lw_t6 (i := 111) (by decide +kernel) (by decide +kernel)
theorem tw1313 : Cond.instanceMethod yX10_tellsLast ∈ lw_good := lw_t6 (i := 113) (by decide +kernel) (by decide +kernel)
theorem tw1314 : Cond.code yX10_tellsLast prog_12_method_48_code 3 none ∈ lw_good := lw_t6 (i := 114) (by decide +kernel) (by decide +kernel)
theorem tw1315 : Cond.methodLink RX10 329 yX10_howNow ∈ lw_good := lw_t6 (i := 115) (by decide +kernel) (by decide +kernel)
theorem tw1317 : Cond.instanceMethod yX10_howNow ∈ lw_good := lw_t6 (i := 117) (by decide +kernel) (by decide +kernel)
theorem tw1318 : Cond.code yX10_howNow prog_12_method_44_code 1 (some .int) ∈ lw_good := lw_t6 (i := 118) (by decide +kernel) (by decide +kernel)
theorem tw1319 : Cond.methodLink RX10 332 yX10_numberNow ∈ lw_good := lw_t6 (i := 119) (by decide +kernel) (by decide +kernel)
theorem tw1321 : Cond.instanceMethod yX10_numberNow ∈ lw_good := lw_t6 (i := 121) (by decide +kernel) (by decide +kernel)
theorem tw1322 : Cond.code yX10_numberNow prog_12_method_45_code 1 (some .int) ∈ lw_good := lw_t6 (i := 122) (by decide +kernel) (by decide +kernel)
theorem tw1323 : Cond.methodLink RX10 335 yX10_causesNow ∈ lw_good := lw_t6 (i := 123) (by decide +kernel) (by decide +kernel)
theorem tw1325 : Cond.instanceMethod yX10_causesNow ∈ lw_good := lw_t6 (i := 125) (by decide +kernel) (by decide +kernel)
theorem tw1326 : Cond.code yX10_causesNow prog_12_method_46_code 3 (some .int) ∈ lw_good := lw_t6 (i := 126) (by decide +kernel) (by decide +kernel)
theorem tw1327 : Cond.methodLink RL 39 yX10_ended ∈ lw_good := lw_t6 (i := 127) (by decide +kernel) (by decide +kernel)
theorem tw1328 : Cond.instanceMethod yX10_ended ∈ lw_good := lw_t6 (i := 128) (by decide +kernel) (by decide +kernel)
theorem tw1329 : Cond.selects RX10 yX10_ended yX10_ended ∈ lw_good := lw_t6 (i := 129) (by decide +kernel) (by decide +kernel)
theorem tw1330 : Cond.code yX10_ended prog_12_method_50_code 4 (some .int) ∈ lw_good := lw_t6 (i := 130) (by decide +kernel) (by decide +kernel)
theorem tw1331 : Cond.methodLink RX10 359 yX10_lower ∈ lw_good := lw_t6 (i := 131) (by decide +kernel) (by decide +kernel)
theorem tw1333 : Cond.instanceMethod yX10_lower ∈ lw_good := lw_t6 (i := 133) (by decide +kernel) (by decide +kernel)
theorem tw1334 : Cond.code yX10_lower prog_12_method_3_code 2 (some .int) ∈ lw_good := lw_t6 (i := 134) (by decide +kernel) (by decide +kernel)
theorem tw1335 : Cond.constant RX10 131 (1000000000 : Int32) ∈ lw_good := lw_t6 (i := 135) (by decide +kernel) (by decide +kernel)
theorem tw1336 : Cond.methodLink RL 43 yX10_code ∈ lw_good := lw_t6 (i := 136) (by decide +kernel) (by decide +kernel)
theorem tw1337 : Cond.instanceMethod yX10_code ∈ lw_good := lw_t6 (i := 137) (by decide +kernel) (by decide +kernel)
theorem tw1338 : Cond.selects RX10 yX10_code yX10_code ∈ lw_good := lw_t6 (i := 138) (by decide +kernel) (by decide +kernel)
theorem tw1339 : Cond.code yX10_code prog_12_method_51_code 2 (some .int) ∈ lw_good := lw_t6 (i := 139) (by decide +kernel) (by decide +kernel)
theorem tw1340 : Cond.methodLink RL 26 yX10_global ∈ lw_good := lw_t6 (i := 140) (by decide +kernel) (by decide +kernel)
theorem tw1341 : Cond.instanceMethod yX10_global ∈ lw_good := lw_t6 (i := 141) (by decide +kernel) (by decide +kernel)
theorem tw1342 : Cond.selects RX10 yX10_global yX10_global ∈ lw_good := lw_t6 (i := 142) (by decide +kernel) (by decide +kernel)
theorem tw1343 : Cond.code yX10_global prog_12_method_52_code 2 (some .int) ∈ lw_good := lw_t6 (i := 143) (by decide +kernel) (by decide +kernel)
theorem tw1344 : Cond.methodLink RX10 362 yX10_isVariable ∈ lw_good := lw_t6 (i := 144) (by decide +kernel) (by decide +kernel)
theorem tw1345 : Cond.static yX10_isVariable ∈ lw_good := lw_t6 (i := 145) (by decide +kernel) (by decide +kernel)
theorem tw1346 : Cond.code yX10_isVariable prog_12_method_7_code 1 (some .boolean) ∈ lw_good := lw_t6 (i := 146) (by decide +kernel) (by decide +kernel)
theorem tw1347 : Cond.methodLink RL 31 yX10_sets ∈ lw_good := lw_t6 (i := 147) (by decide +kernel) (by decide +kernel)
theorem tw1348 : Cond.instanceMethod yX10_sets ∈ lw_good := lw_t6 (i := 148) (by decide +kernel) (by decide +kernel)
theorem tw1349 : Cond.selects RX10 yX10_sets yX10_sets ∈ lw_good := lw_t6 (i := 149) (by decide +kernel) (by decide +kernel)
theorem tw1350 : Cond.code yX10_sets prog_12_method_53_code 5 (some .int) ∈ lw_good := lw_t6 (i := 150) (by decide +kernel) (by decide +kernel)
theorem tw1351 : Cond.methodLink RL 47 yX10_cache ∈ lw_good := lw_t6 (i := 151) (by decide +kernel) (by decide +kernel)
theorem tw1352 : Cond.instanceMethod yX10_cache ∈ lw_good := lw_t6 (i := 152) (by decide +kernel) (by decide +kernel)
theorem tw1353 : Cond.selects RX10 yX10_cache yX10_cache ∈ lw_good := lw_t6 (i := 153) (by decide +kernel) (by decide +kernel)
theorem tw1354 : Cond.code yX10_cache prog_12_method_55_code 3 (some .int) ∈ lw_good := lw_t6 (i := 154) (by decide +kernel) (by decide +kernel)
theorem tw1355 : Cond.methodLink RX10 365 yX10_stateOf ∈ lw_good := lw_t6 (i := 155) (by decide +kernel) (by decide +kernel)
theorem tw1357 : Cond.instanceMethod yX10_stateOf ∈ lw_good := lw_t6 (i := 157) (by decide +kernel) (by decide +kernel)
theorem tw1358 : Cond.code yX10_stateOf prog_12_method_54_code 2 (some .int) ∈ lw_good := lw_t6 (i := 158) (by decide +kernel) (by decide +kernel)
theorem tw1359 : Cond.methodLink RL 51 yX10_thinks ∈ lw_good := lw_t6 (i := 159) (by decide +kernel) (by decide +kernel)
theorem tw1360 : Cond.instanceMethod yX10_thinks ∈ lw_good := lw_t6 (i := 160) (by decide +kernel) (by decide +kernel)
theorem tw1361 : Cond.selects RX10 yX10_thinks yX10_thinks ∈ lw_good := lw_t6 (i := 161) (by decide +kernel) (by decide +kernel)
theorem tw1362 : Cond.code yX10_thinks prog_12_method_59_code 2 (some .int) ∈ lw_good := lw_t6 (i := 162) (by decide +kernel) (by decide +kernel)
theorem tw1363 : Cond.methodLink RX10 374 yX10_goesWith ∈ lw_good := lw_t6 (i := 163) (by decide +kernel) (by decide +kernel)
theorem tw1365 : Cond.instanceMethod yX10_goesWith ∈ lw_good := lw_t6 (i := 165) (by decide +kernel) (by decide +kernel)
theorem tw1366 : Cond.code yX10_goesWith prog_12_method_58_code 3 none ∈ lw_good := lw_t6 (i := 166) (by decide +kernel) (by decide +kernel)
theorem tw1367 : Cond.methodLink RX10 368 yX10_minds ∈ lw_good := lw_t6 (i := 167) (by decide +kernel) (by decide +kernel)
theorem tw1369 : Cond.instanceMethod yX10_minds ∈ lw_good := lw_t6 (i := 169) (by decide +kernel) (by decide +kernel)
theorem tw1370 : Cond.code yX10_minds prog_12_method_56_code 2 none ∈ lw_good := lw_t6 (i := 170) (by decide +kernel) (by decide +kernel)
theorem tw1371 : Cond.methodLink RX10 371 yX10_forgets ∈ lw_good := lw_t6 (i := 171) (by decide +kernel) (by decide +kernel)
theorem tw1373 : Cond.instanceMethod yX10_forgets ∈ lw_good := lw_t6 (i := 173) (by decide +kernel) (by decide +kernel)
theorem tw1374 : Cond.code yX10_forgets prog_12_method_57_code 2 none ∈ lw_good := lw_t6 (i := 174) (by decide +kernel) (by decide +kernel)
theorem tw1375 : Cond.methodLink RX10 377 yX10_endedNow ∈ lw_good := lw_t6 (i := 175) (by decide +kernel) (by decide +kernel)
theorem tw1377 : Cond.instanceMethod yX10_endedNow ∈ lw_good := lw_t6 (i := 177) (by decide +kernel) (by decide +kernel)
theorem tw1378 : Cond.code yX10_endedNow prog_12_method_47_code 2 (some .int) ∈ lw_good := lw_t6 (i := 178) (by decide +kernel) (by decide +kernel)
theorem tw1379 : Cond.methodLink RL 56 yX10_with ∈ lw_good := lw_t6 (i := 179) (by decide +kernel) (by decide +kernel)
theorem tw1380 : Cond.instanceMethod yX10_with ∈ lw_good := lw_t6 (i := 180) (by decide +kernel) (by decide +kernel)
theorem tw1381 : Cond.selects RX10 yX10_with yX10_with ∈ lw_good := lw_t6 (i := 181) (by decide +kernel) (by decide +kernel)
theorem tw1382 : Cond.code yX10_with prog_12_method_60_code 5 (some .int) ∈ lw_good := lw_t6 (i := 182) (by decide +kernel) (by decide +kernel)
theorem tw1383 : Cond.methodLink RL 60 yX10_solve ∈ lw_good := lw_t6 (i := 183) (by decide +kernel) (by decide +kernel)
theorem tw1384 : Cond.instanceMethod yX10_solve ∈ lw_good := lw_t6 (i := 184) (by decide +kernel) (by decide +kernel)
theorem tw1385 : Cond.selects RX10 yX10_solve yX10_solve ∈ lw_good := lw_t6 (i := 185) (by decide +kernel) (by decide +kernel)
theorem tw1386 : Cond.code yX10_solve prog_12_method_61_code 5 (some .int) ∈ lw_good := lw_t6 (i := 186) (by decide +kernel) (by decide +kernel)
theorem tw1387 : Cond.constant RX10 380 (999999999 : Int32) ∈ lw_good := lw_t6 (i := 187) (by decide +kernel) (by decide +kernel)
theorem tw1388 : Cond.methodLink RL 64 yX10_fewest ∈ lw_good := lw_t6 (i := 188) (by decide +kernel) (by decide +kernel)
theorem tw1389 : Cond.instanceMethod yX10_fewest ∈ lw_good := lw_t6 (i := 189) (by decide +kernel) (by decide +kernel)
theorem tw1390 : Cond.selects RX10 yX10_fewest yX10_fewest ∈ lw_good := lw_t6 (i := 190) (by decide +kernel) (by decide +kernel)
theorem tw1391 : Cond.code yX10_fewest prog_12_method_62_code 7 (some .int) ∈ lw_good := lw_t6 (i := 191) (by decide +kernel) (by decide +kernel)
theorem tw1392 : Cond.methodLink RL 68 yX10_pure ∈ lw_good := lw_t6 (i := 192) (by decide +kernel) (by decide +kernel)
theorem tw1393 : Cond.instanceMethod yX10_pure ∈ lw_good := lw_t6 (i := 193) (by decide +kernel) (by decide +kernel)
theorem tw1394 : Cond.selects RX10 yX10_pure yX10_pure ∈ lw_good := lw_t6 (i := 194) (by decide +kernel) (by decide +kernel)
theorem tw1395 : Cond.code yX10_pure prog_12_method_63_code 5 (some .int) ∈ lw_good := lw_t6 (i := 195) (by decide +kernel) (by decide +kernel)
theorem tw1396 : Cond.methodLink RL 72 yX10_changes ∈ lw_good := lw_t6 (i := 196) (by decide +kernel) (by decide +kernel)
theorem tw1397 : Cond.instanceMethod yX10_changes ∈ lw_good := lw_t6 (i := 197) (by decide +kernel) (by decide +kernel)
theorem tw1398 : Cond.selects RX10 yX10_changes yX10_changes ∈ lw_good := lw_t6 (i := 198) (by decide +kernel) (by decide +kernel)
theorem tw1399 : Cond.code yX10_changes prog_12_method_64_code 4 (some .int) ∈ lw_good := lw_t6 (i := 199) (by decide +kernel) (by decide +kernel)
theorem tw1400 : Cond.methodLink RL 76 yX10_again ∈ lw_good := lw_t6 (i := 200) (by decide +kernel) (by decide +kernel)
theorem tw1401 : Cond.instanceMethod yX10_again ∈ lw_good := lw_t6 (i := 201) (by decide +kernel) (by decide +kernel)
theorem tw1402 : Cond.selects RX10 yX10_again yX10_again ∈ lw_good := lw_t6 (i := 202) (by decide +kernel) (by decide +kernel)
theorem tw1403 : Cond.code yX10_again prog_12_method_65_code 6 (some .int) ∈ lw_good := lw_t6 (i := 203) (by decide +kernel) (by decide +kernel)
theorem tw1404 : Cond.methodLink RL 81 yX10_likely ∈ lw_good := lw_t6 (i := 204) (by decide +kernel) (by decide +kernel)
theorem tw1405 : Cond.instanceMethod yX10_likely ∈ lw_good := lw_t6 (i := 205) (by decide +kernel) (by decide +kernel)
theorem tw1406 : Cond.selects RX10 yX10_likely yX10_likely ∈ lw_good := lw_t6 (i := 206) (by decide +kernel) (by decide +kernel)
theorem tw1407 : Cond.code yX10_likely prog_12_method_68_code 10 (some .long) ∈ lw_good := lw_t6 (i := 207) (by decide +kernel) (by decide +kernel)
theorem tw1408 : Cond.methodLink RX10 385 yX10_lowestOf ∈ lw_good := lw_t6 (i := 208) (by decide +kernel) (by decide +kernel)
theorem tw1410 : Cond.instanceMethod yX10_lowestOf ∈ lw_good := lw_t6 (i := 210) (by decide +kernel) (by decide +kernel)
theorem tw1411 : Cond.code yX10_lowestOf prog_12_method_4_code 2 (some .long) ∈ lw_good := lw_t6 (i := 211) (by decide +kernel) (by decide +kernel)
theorem tw1412 : Cond.constantLong RX10 132 (4000000000000000000 : Int64) ∈ lw_good := lw_t6 (i := 212) (by decide +kernel) (by decide +kernel)
theorem tw1413 : Cond.methodLink RX10 389 yX10_partOf ∈ lw_good := lw_t6 (i := 213) (by decide +kernel) (by decide +kernel)
theorem tw1414 : Cond.static yX10_partOf ∈ lw_good := lw_t6 (i := 214) (by decide +kernel) (by decide +kernel)
theorem tw1415 : Cond.code yX10_partOf prog_12_method_67_code 5 (some .long) ∈ lw_good := lw_t6 (i := 215) (by decide +kernel) (by decide +kernel)
theorem tw1416 : Cond.methodLink RX10 381 yX10_divisor ∈ lw_good := lw_t6 (i := 216) (by decide +kernel) (by decide +kernel)
theorem tw1417 : Cond.static yX10_divisor ∈ lw_good := lw_t6 (i := 217) (by decide +kernel) (by decide +kernel)
theorem tw1418 : Cond.code yX10_divisor prog_12_method_66_code 10 (some .long) ∈ lw_good := lw_t6 (i := 218) (by decide +kernel) (by decide +kernel)
theorem tw1419 : Cond.methodLink RL 85 yX10_mean ∈ lw_good := lw_t6 (i := 219) (by decide +kernel) (by decide +kernel)
theorem tw1420 : Cond.instanceMethod yX10_mean ∈ lw_good := lw_t6 (i := 220) (by decide +kernel) (by decide +kernel)
theorem tw1421 : Cond.selects RX10 yX10_mean yX10_mean ∈ lw_good := lw_t6 (i := 221) (by decide +kernel) (by decide +kernel)
theorem tw1422 : Cond.code yX10_mean prog_12_method_69_code 6 (some .long) ∈ lw_good := lw_t6 (i := 222) (by decide +kernel) (by decide +kernel)
theorem tw1423 : Cond.constantLong RX10 393 (10 : Int64) ∈ lw_good := lw_t6 (i := 223) (by decide +kernel) (by decide +kernel)
theorem tw1424 : Cond.methodLink RL 89 yX10_whatIs ∈ lw_good := lw_t6 (i := 224) (by decide +kernel) (by decide +kernel)
theorem tw1425 : Cond.instanceMethod yX10_whatIs ∈ lw_good := lw_t6 (i := 225) (by decide +kernel) (by decide +kernel)
theorem tw1426 : Cond.selects RX10 yX10_whatIs yX10_whatIs ∈ lw_good := lw_t6 (i := 226) (by decide +kernel) (by decide +kernel)
theorem tw1427 : Cond.code yX10_whatIs prog_12_method_71_code 4 (some .int) ∈ lw_good := lw_t6 (i := 227) (by decide +kernel) (by decide +kernel)
theorem tw1428 : Cond.methodLink RX10 398 yX10_endsSo ∈ lw_good := lw_t6 (i := 228) (by decide +kernel) (by decide +kernel)
theorem tw1430 : Cond.instanceMethod yX10_endsSo ∈ lw_good := lw_t6 (i := 230) (by decide +kernel) (by decide +kernel)
theorem tw1431 : Cond.code yX10_endsSo prog_12_method_70_code 4 (some .boolean) ∈ lw_good := lw_t6 (i := 231) (by decide +kernel) (by decide +kernel)
theorem tw1432 : Cond.methodLink RL 93 yX10_row ∈ lw_good := lw_t6 (i := 232) (by decide +kernel) (by decide +kernel)
theorem tw1433 : Cond.instanceMethod yX10_row ∈ lw_good := lw_t6 (i := 233) (by decide +kernel) (by decide +kernel)
theorem tw1434 : Cond.selects RX10 yX10_row yX10_row ∈ lw_good := lw_t6 (i := 234) (by decide +kernel) (by decide +kernel)
theorem tw1435 : Cond.code yX10_row prog_12_method_72_code 3 (some .int) ∈ lw_good := lw_t6 (i := 235) (by decide +kernel) (by decide +kernel)
theorem tw1436 : Cond.methodLink RL 97 yX10_judge ∈ lw_good := lw_t6 (i := 236) (by decide +kernel) (by decide +kernel)
theorem tw1437 : Cond.instanceMethod yX10_judge ∈ lw_good := lw_t6 (i := 237) (by decide +kernel) (by decide +kernel)
theorem tw1438 : Cond.selects RX10 yX10_judge yX10_judge ∈ lw_good := lw_t6 (i := 238) (by decide +kernel) (by decide +kernel)
theorem tw1439 : Cond.code yX10_judge prog_12_method_73_code 3 (some .int) ∈ lw_good := lw_t6 (i := 239) (by decide +kernel) (by decide +kernel)
theorem tw1440 : Cond.methodLink RL 101 yX10_clear ∈ lw_good := lw_t7 (i := 0) (by decide +kernel) (by decide +kernel)
theorem tw1441 : Cond.instanceMethod yX10_clear ∈ lw_good := lw_t7 (i := 1) (by decide +kernel) (by decide +kernel)
theorem tw1442 : Cond.selects RX10 yX10_clear yX10_clear ∈ lw_good := lw_t7 (i := 2) (by decide +kernel) (by decide +kernel)
theorem tw1443 : Cond.code yX10_clear prog_12_method_74_code 2 (some .int) ∈ lw_good := lw_t7 (i := 3) (by decide +kernel) (by decide +kernel)
theorem tw1444 : Cond.methodLink RL 105 yX10_lots ∈ lw_good := lw_t7 (i := 4) (by decide +kernel) (by decide +kernel)
theorem tw1445 : Cond.instanceMethod yX10_lots ∈ lw_good := lw_t7 (i := 5) (by decide +kernel) (by decide +kernel)
theorem tw1446 : Cond.selects RX10 yX10_lots yX10_lots ∈ lw_good := lw_t7 (i := 6) (by decide +kernel) (by decide +kernel)
theorem tw1447 : Cond.code yX10_lots prog_12_method_76_code 8 (some .int) ∈ lw_good := lw_t7 (i := 7) (by decide +kernel) (by decide +kernel)
theorem tw1448 : Cond.methodLink RX10 407 yX10_draw ∈ lw_good := lw_t7 (i := 8) (by decide +kernel) (by decide +kernel)
theorem tw1450 : Cond.instanceMethod yX10_draw ∈ lw_good := lw_t7 (i := 10) (by decide +kernel) (by decide +kernel)
theorem tw1451 : Cond.code yX10_draw prog_12_method_75_code 2 (some .int) ∈ lw_good := lw_t7 (i := 11) (by decide +kernel) (by decide +kernel)
theorem tw1452 : Cond.constant RX10 404 (1664525 : Int32) ∈ lw_good := lw_t7 (i := 12) (by decide +kernel) (by decide +kernel)
theorem tw1453 : Cond.constant RX10 405 (1013904223 : Int32) ∈ lw_good := lw_t7 (i := 13) (by decide +kernel) (by decide +kernel)
theorem tw1454 : Cond.constant RX10 406 (2147483647 : Int32) ∈ lw_good := lw_t7 (i := 14) (by decide +kernel) (by decide +kernel)
theorem tw1455 : Cond.methodLink RL 109 yX10_image ∈ lw_good := lw_t7 (i := 15) (by decide +kernel) (by decide +kernel)
theorem tw1456 : Cond.instanceMethod yX10_image ∈ lw_good := lw_t7 (i := 16) (by decide +kernel) (by decide +kernel)
theorem tw1457 : Cond.selects RX10 yX10_image yX10_image ∈ lw_good := lw_t7 (i := 17) (by decide +kernel) (by decide +kernel)
theorem tw1458 : Cond.code yX10_image prog_12_method_80_code 1 (some .int) ∈ lw_good := lw_t7 (i := 18) (by decide +kernel) (by decide +kernel)
theorem tw1459 : Cond.methodLink RX10 427 yX10_passesAll ∈ lw_good := lw_t7 (i := 19) (by decide +kernel) (by decide +kernel)
theorem tw1461 : Cond.instanceMethod yX10_passesAll ∈ lw_good := lw_t7 (i := 21) (by decide +kernel) (by decide +kernel)
theorem tw1462 : Cond.code yX10_passesAll prog_12_method_79_code 2 none ∈ lw_good := lw_t7 (i := 22) (by decide +kernel) (by decide +kernel)
theorem tw1463 : Cond.methodLink RX10 417 yX10_passes ∈ lw_good := lw_t7 (i := 23) (by decide +kernel) (by decide +kernel)
theorem tw1465 : Cond.instanceMethod yX10_passes ∈ lw_good := lw_t7 (i := 25) (by decide +kernel) (by decide +kernel)
theorem tw1466 : Cond.code yX10_passes prog_12_method_77_code 3 none ∈ lw_good := lw_t7 (i := 26) (by decide +kernel) (by decide +kernel)
theorem tw1467 : Cond.methodLink RX10 421 yX10_passOne ∈ lw_good := lw_t7 (i := 27) (by decide +kernel) (by decide +kernel)
theorem tw1469 : Cond.instanceMethod yX10_passOne ∈ lw_good := lw_t7 (i := 29) (by decide +kernel) (by decide +kernel)
theorem tw1470 : Cond.code yX10_passOne prog_12_method_78_code 3 (some .int) ∈ lw_good := lw_t7 (i := 30) (by decide +kernel) (by decide +kernel)
theorem tw1471 : Cond.methodLink RL 113 yX10_on ∈ lw_good := lw_t7 (i := 31) (by decide +kernel) (by decide +kernel)
theorem tw1472 : Cond.instanceMethod yX10_on ∈ lw_good := lw_t7 (i := 32) (by decide +kernel) (by decide +kernel)
theorem tw1473 : Cond.selects RX10 yX10_on yX10_on ∈ lw_good := lw_t7 (i := 33) (by decide +kernel) (by decide +kernel)
theorem tw1474 : Cond.code yX10_on prog_12_method_81_code 1 (some .int) ∈ lw_good := lw_t7 (i := 34) (by decide +kernel) (by decide +kernel)
theorem tw1475 : Cond.methodLink RL 117 yX10_count ∈ lw_good := lw_t7 (i := 35) (by decide +kernel) (by decide +kernel)
theorem tw1476 : Cond.instanceMethod yX10_count ∈ lw_good := lw_t7 (i := 36) (by decide +kernel) (by decide +kernel)
theorem tw1477 : Cond.selects RX10 yX10_count yX10_count ∈ lw_good := lw_t7 (i := 37) (by decide +kernel) (by decide +kernel)
theorem tw1478 : Cond.code yX10_count prog_12_method_83_code 2 (some .int) ∈ lw_good := lw_t7 (i := 38) (by decide +kernel) (by decide +kernel)
theorem tw1479 : Cond.methodLink RX10 431 yX10_allOf ∈ lw_good := lw_t7 (i := 39) (by decide +kernel) (by decide +kernel)
theorem tw1480 : Cond.static yX10_allOf ∈ lw_good := lw_t7 (i := 40) (by decide +kernel) (by decide +kernel)
theorem tw1481 : Cond.code yX10_allOf prog_12_method_82_code 6 (some .int) ∈ lw_good := lw_t7 (i := 41) (by decide +kernel) (by decide +kernel)
theorem tw1482 : Cond.fieldLink RJ0 9 "java/lang/String" "value" "[B" ∈ lw_good := lw_t7 (i := 42) (by decide +kernel) (by decide +kernel)
theorem tw1483 : Cond.fieldLink RJ0 15 "java/lang/String" "coder" "B" ∈ lw_good := lw_t7 (i := 43) (by decide +kernel) (by decide +kernel)
theorem twp0 : Cond.selects RX9 yX9_refuse yX9_refuse ∈ lw_good := List.mem_filter.mpr ⟨List.mem_append_left _ (List.mem_of_getElem? (i := 0) (by decide +kernel)), by decide +kernel⟩
theorem twp1 : Cond.selects RX3 yX3_await yX3_await ∈ lw_good := List.mem_filter.mpr ⟨List.mem_append_left _ (List.mem_of_getElem? (i := 1) (by decide +kernel)), by decide +kernel⟩
theorem twp2 : Cond.selects RX3 yX3_fits yX3_fits ∈ lw_good := List.mem_filter.mpr ⟨List.mem_append_left _ (List.mem_of_getElem? (i := 2) (by decide +kernel)), by decide +kernel⟩
theorem twp3 : Cond.selects RX3 yX3_placeBeyondLimits yX3_placeBeyondLimits ∈ lw_good := List.mem_filter.mpr ⟨List.mem_append_left _ (List.mem_of_getElem? (i := 3) (by decide +kernel)), by decide +kernel⟩
theorem twp4 : Cond.selects RX5 yX5_comesToEnd yX5_comesToEnd ∈ lw_good := List.mem_filter.mpr ⟨List.mem_append_left _ (List.mem_of_getElem? (i := 4) (by decide +kernel)), by decide +kernel⟩
theorem twp5 : Cond.selects RX9 yX9_refuseNumber yX9_refuseNumber ∈ lw_good := List.mem_filter.mpr ⟨List.mem_append_left _ (List.mem_of_getElem? (i := 5) (by decide +kernel)), by decide +kernel⟩
theorem twp6 : Cond.selects RX9 yX9_thinkOf yX9_thinkOf ∈ lw_good := List.mem_filter.mpr ⟨List.mem_append_left _ (List.mem_of_getElem? (i := 6) (by decide +kernel)), by decide +kernel⟩
theorem twp7 : Cond.selects RX4 yX4_start yX4_start ∈ lw_good := List.mem_filter.mpr ⟨List.mem_append_left _ (List.mem_of_getElem? (i := 7) (by decide +kernel)), by decide +kernel⟩
theorem twp8 : Cond.selects RX4 yX4_forgetFault yX4_forgetFault ∈ lw_good := List.mem_filter.mpr ⟨List.mem_append_left _ (List.mem_of_getElem? (i := 8) (by decide +kernel)), by decide +kernel⟩
theorem twp9 : Cond.selects RX4 yX4_begin yX4_begin ∈ lw_good := List.mem_filter.mpr ⟨List.mem_append_left _ (List.mem_of_getElem? (i := 9) (by decide +kernel)), by decide +kernel⟩
theorem twp10 : Cond.selects RX4 yX4_beginExpression yX4_beginExpression ∈ lw_good := List.mem_filter.mpr ⟨List.mem_append_left _ (List.mem_of_getElem? (i := 10) (by decide +kernel)), by decide +kernel⟩
theorem twp11 : Cond.selects RX4 yX4_fail yX4_fail ∈ lw_good := List.mem_filter.mpr ⟨List.mem_append_left _ (List.mem_of_getElem? (i := 11) (by decide +kernel)), by decide +kernel⟩
theorem twp12 : Cond.selects RX4 yX4_give yX4_give ∈ lw_good := List.mem_filter.mpr ⟨List.mem_append_left _ (List.mem_of_getElem? (i := 12) (by decide +kernel)), by decide +kernel⟩
theorem twp13 : Cond.selects RX4 yX4_valueOfVariable yX4_valueOfVariable ∈ lw_good := List.mem_filter.mpr ⟨List.mem_append_left _ (List.mem_of_getElem? (i := 13) (by decide +kernel)), by decide +kernel⟩
theorem twp14 : Cond.selects RX4 yX4_useValue yX4_useValue ∈ lw_good := List.mem_filter.mpr ⟨List.mem_append_left _ (List.mem_of_getElem? (i := 14) (by decide +kernel)), by decide +kernel⟩
theorem twp15 : Cond.selects RX4 yX4_useOneOfTwo yX4_useOneOfTwo ∈ lw_good := List.mem_filter.mpr ⟨List.mem_append_left _ (List.mem_of_getElem? (i := 15) (by decide +kernel)), by decide +kernel⟩
theorem twp16 : Cond.selects RX4 yX4_reckon yX4_reckon ∈ lw_good := List.mem_filter.mpr ⟨List.mem_append_left _ (List.mem_of_getElem? (i := 16) (by decide +kernel)), by decide +kernel⟩
theorem twp17 : Cond.selects RX4 yX4_call yX4_call ∈ lw_good := List.mem_filter.mpr ⟨List.mem_append_left _ (List.mem_of_getElem? (i := 17) (by decide +kernel)), by decide +kernel⟩
theorem twp18 : Cond.selects RX4 yX4_useForCall yX4_useForCall ∈ lw_good := List.mem_filter.mpr ⟨List.mem_append_left _ (List.mem_of_getElem? (i := 18) (by decide +kernel)), by decide +kernel⟩
theorem twp19 : Cond.selects RX4 yX4_choose yX4_choose ∈ lw_good := List.mem_filter.mpr ⟨List.mem_append_left _ (List.mem_of_getElem? (i := 19) (by decide +kernel)), by decide +kernel⟩
theorem twp20 : Cond.selects RX4 yX4_beginSecondWithCell yX4_beginSecondWithCell ∈ lw_good := List.mem_filter.mpr ⟨List.mem_append_left _ (List.mem_of_getElem? (i := 20) (by decide +kernel)), by decide +kernel⟩
theorem twp21 : Cond.selects RX4 yX4_store yX4_store ∈ lw_good := List.mem_filter.mpr ⟨List.mem_append_left _ (List.mem_of_getElem? (i := 21) (by decide +kernel)), by decide +kernel⟩
theorem twp22 : Cond.selects RX4 yX4_findField yX4_findField ∈ lw_good := List.mem_filter.mpr ⟨List.mem_append_left _ (List.mem_of_getElem? (i := 22) (by decide +kernel)), by decide +kernel⟩
theorem twp23 : Cond.selects RX4 yX4_failAsTold yX4_failAsTold ∈ lw_good := List.mem_filter.mpr ⟨List.mem_append_left _ (List.mem_of_getElem? (i := 23) (by decide +kernel)), by decide +kernel⟩
theorem twp24 : Cond.selects RX4 yX4_passFaultOn yX4_passFaultOn ∈ lw_good := List.mem_filter.mpr ⟨List.mem_append_left _ (List.mem_of_getElem? (i := 24) (by decide +kernel)), by decide +kernel⟩
theorem twp25 : Cond.selects RX4 yX4_tellEnding yX4_tellEnding ∈ lw_good := List.mem_filter.mpr ⟨List.mem_append_left _ (List.mem_of_getElem? (i := 25) (by decide +kernel)), by decide +kernel⟩
theorem twp26 : Cond.selects RX9 yX9_thinkWith yX9_thinkWith ∈ lw_good := List.mem_filter.mpr ⟨List.mem_append_left _ (List.mem_of_getElem? (i := 26) (by decide +kernel)), by decide +kernel⟩
theorem twp27 : Cond.selects RX9 yX9_refuseLong yX9_refuseLong ∈ lw_good := List.mem_filter.mpr ⟨List.mem_append_left _ (List.mem_of_getElem? (i := 27) (by decide +kernel)), by decide +kernel⟩
theorem twp28 : Cond.selects RX9 yX9_rowTellsEndsFrom yX9_rowTellsEndsFrom ∈ lw_good := List.mem_filter.mpr ⟨List.mem_append_left _ (List.mem_of_getElem? (i := 28) (by decide +kernel)), by decide +kernel⟩
theorem twp29 : Cond.selects RX10 yX10_builds yX10_builds ∈ lw_good := List.mem_filter.mpr ⟨List.mem_append_left _ (List.mem_of_getElem? (i := 29) (by decide +kernel)), by decide +kernel⟩
theorem twp30 : Cond.selects RX10 yX10_buildsOne yX10_buildsOne ∈ lw_good := List.mem_filter.mpr ⟨List.mem_append_left _ (List.mem_of_getElem? (i := 30) (by decide +kernel)), by decide +kernel⟩
theorem twp31 : Cond.selects RX10 yX10_pops yX10_pops ∈ lw_good := List.mem_filter.mpr ⟨List.mem_append_left _ (List.mem_of_getElem? (i := 31) (by decide +kernel)), by decide +kernel⟩
theorem twp32 : Cond.selects RX10 yX10_no yX10_no ∈ lw_good := List.mem_filter.mpr ⟨List.mem_append_left _ (List.mem_of_getElem? (i := 32) (by decide +kernel)), by decide +kernel⟩
theorem twp33 : Cond.selects RX10 yX10_reads yX10_reads ∈ lw_good := List.mem_filter.mpr ⟨List.mem_append_left _ (List.mem_of_getElem? (i := 33) (by decide +kernel)), by decide +kernel⟩
theorem twp34 : Cond.selects RX10 yX10_awaits yX10_awaits ∈ lw_good := List.mem_filter.mpr ⟨List.mem_append_left _ (List.mem_of_getElem? (i := 34) (by decide +kernel)), by decide +kernel⟩
theorem twp35 : Cond.selects RX10 yX10_readsOne yX10_readsOne ∈ lw_good := List.mem_filter.mpr ⟨List.mem_append_left _ (List.mem_of_getElem? (i := 35) (by decide +kernel)), by decide +kernel⟩
theorem twp36 : Cond.selects RX10 yX10_awaitsParts yX10_awaitsParts ∈ lw_good := List.mem_filter.mpr ⟨List.mem_append_left _ (List.mem_of_getElem? (i := 36) (by decide +kernel)), by decide +kernel⟩
theorem twp37 : Cond.selects RX10 yX10_goes yX10_goes ∈ lw_good := List.mem_filter.mpr ⟨List.mem_append_left _ (List.mem_of_getElem? (i := 37) (by decide +kernel)), by decide +kernel⟩
theorem twp38 : Cond.selects RX10 yX10_makes yX10_makes ∈ lw_good := List.mem_filter.mpr ⟨List.mem_append_left _ (List.mem_of_getElem? (i := 38) (by decide +kernel)), by decide +kernel⟩
theorem twp39 : Cond.selects RX10 yX10_begins yX10_begins ∈ lw_good := List.mem_filter.mpr ⟨List.mem_append_left _ (List.mem_of_getElem? (i := 39) (by decide +kernel)), by decide +kernel⟩
theorem twp40 : Cond.selects RX10 yX10_fails yX10_fails ∈ lw_good := List.mem_filter.mpr ⟨List.mem_append_left _ (List.mem_of_getElem? (i := 40) (by decide +kernel)), by decide +kernel⟩
theorem twp41 : Cond.selects RX10 yX10_faultOf yX10_faultOf ∈ lw_good := List.mem_filter.mpr ⟨List.mem_append_left _ (List.mem_of_getElem? (i := 41) (by decide +kernel)), by decide +kernel⟩
theorem twp42 : Cond.selects RX10 yX10_valueOf yX10_valueOf ∈ lw_good := List.mem_filter.mpr ⟨List.mem_append_left _ (List.mem_of_getElem? (i := 42) (by decide +kernel)), by decide +kernel⟩
theorem twp43 : Cond.selects RX10 yX10_has yX10_has ∈ lw_good := List.mem_filter.mpr ⟨List.mem_append_left _ (List.mem_of_getElem? (i := 43) (by decide +kernel)), by decide +kernel⟩
theorem twp44 : Cond.selects RX10 yX10_looksUp yX10_looksUp ∈ lw_good := List.mem_filter.mpr ⟨List.mem_append_left _ (List.mem_of_getElem? (i := 44) (by decide +kernel)), by decide +kernel⟩
theorem twp45 : Cond.selects RX10 yX10_cellOf yX10_cellOf ∈ lw_good := List.mem_filter.mpr ⟨List.mem_append_left _ (List.mem_of_getElem? (i := 45) (by decide +kernel)), by decide +kernel⟩
theorem twp46 : Cond.selects RX10 yX10_waitsFor yX10_waitsFor ∈ lw_good := List.mem_filter.mpr ⟨List.mem_append_left _ (List.mem_of_getElem? (i := 46) (by decide +kernel)), by decide +kernel⟩
theorem twp47 : Cond.selects RX10 yX10_goesOn yX10_goesOn ∈ lw_good := List.mem_filter.mpr ⟨List.mem_append_left _ (List.mem_of_getElem? (i := 47) (by decide +kernel)), by decide +kernel⟩
theorem twp48 : Cond.selects RX10 yX10_isFirstOfTwo yX10_isFirstOfTwo ∈ lw_good := List.mem_filter.mpr ⟨List.mem_append_left _ (List.mem_of_getElem? (i := 48) (by decide +kernel)), by decide +kernel⟩
theorem twp49 : Cond.selects RX10 yX10_keepsFirst yX10_keepsFirst ∈ lw_good := List.mem_filter.mpr ⟨List.mem_append_left _ (List.mem_of_getElem? (i := 49) (by decide +kernel)), by decide +kernel⟩
theorem twp50 : Cond.selects RX10 yX10_goesOnOf yX10_goesOnOf ∈ lw_good := List.mem_filter.mpr ⟨List.mem_append_left _ (List.mem_of_getElem? (i := 50) (by decide +kernel)), by decide +kernel⟩
theorem twp51 : Cond.selects RX10 yX10_reckons yX10_reckons ∈ lw_good := List.mem_filter.mpr ⟨List.mem_append_left _ (List.mem_of_getElem? (i := 51) (by decide +kernel)), by decide +kernel⟩
theorem twp52 : Cond.selects RX10 yX10_chooses yX10_chooses ∈ lw_good := List.mem_filter.mpr ⟨List.mem_append_left _ (List.mem_of_getElem? (i := 52) (by decide +kernel)), by decide +kernel⟩
theorem twp53 : Cond.selects RX10 yX10_frameWith yX10_frameWith ∈ lw_good := List.mem_filter.mpr ⟨List.mem_append_left _ (List.mem_of_getElem? (i := 53) (by decide +kernel)), by decide +kernel⟩
theorem twp54 : Cond.selects RX10 yX10_puts yX10_puts ∈ lw_good := List.mem_filter.mpr ⟨List.mem_append_left _ (List.mem_of_getElem? (i := 54) (by decide +kernel)), by decide +kernel⟩
theorem twp55 : Cond.selects RX10 yX10_calls yX10_calls ∈ lw_good := List.mem_filter.mpr ⟨List.mem_append_left _ (List.mem_of_getElem? (i := 55) (by decide +kernel)), by decide +kernel⟩
theorem twp56 : Cond.selects RX10 yX10_findsField yX10_findsField ∈ lw_good := List.mem_filter.mpr ⟨List.mem_append_left _ (List.mem_of_getElem? (i := 56) (by decide +kernel)), by decide +kernel⟩
theorem twp57 : Cond.selects RX10 yX10_passesCache yX10_passesCache ∈ lw_good := List.mem_filter.mpr ⟨List.mem_append_left _ (List.mem_of_getElem? (i := 57) (by decide +kernel)), by decide +kernel⟩
theorem twp58 : Cond.selects RX10 yX10_throwsNow yX10_throwsNow ∈ lw_good := List.mem_filter.mpr ⟨List.mem_append_left _ (List.mem_of_getElem? (i := 58) (by decide +kernel)), by decide +kernel⟩
theorem twp59 : Cond.selects RX10 yX10_falls yX10_falls ∈ lw_good := List.mem_filter.mpr ⟨List.mem_append_left _ (List.mem_of_getElem? (i := 59) (by decide +kernel)), by decide +kernel⟩
theorem twp60 : Cond.selects RX10 yX10_tellsLast yX10_tellsLast ∈ lw_good := List.mem_filter.mpr ⟨List.mem_append_left _ (List.mem_of_getElem? (i := 60) (by decide +kernel)), by decide +kernel⟩
theorem twp61 : Cond.selects RX10 yX10_howNow yX10_howNow ∈ lw_good := List.mem_filter.mpr ⟨List.mem_append_left _ (List.mem_of_getElem? (i := 61) (by decide +kernel)), by decide +kernel⟩
theorem twp62 : Cond.selects RX10 yX10_numberNow yX10_numberNow ∈ lw_good := List.mem_filter.mpr ⟨List.mem_append_left _ (List.mem_of_getElem? (i := 62) (by decide +kernel)), by decide +kernel⟩
theorem twp63 : Cond.selects RX10 yX10_causesNow yX10_causesNow ∈ lw_good := List.mem_filter.mpr ⟨List.mem_append_left _ (List.mem_of_getElem? (i := 63) (by decide +kernel)), by decide +kernel⟩
theorem twp64 : Cond.selects RX10 yX10_lower yX10_lower ∈ lw_good := List.mem_filter.mpr ⟨List.mem_append_left _ (List.mem_of_getElem? (i := 64) (by decide +kernel)), by decide +kernel⟩
theorem twp65 : Cond.selects RX10 yX10_stateOf yX10_stateOf ∈ lw_good := List.mem_filter.mpr ⟨List.mem_append_left _ (List.mem_of_getElem? (i := 65) (by decide +kernel)), by decide +kernel⟩
theorem twp66 : Cond.selects RX10 yX10_goesWith yX10_goesWith ∈ lw_good := List.mem_filter.mpr ⟨List.mem_append_left _ (List.mem_of_getElem? (i := 66) (by decide +kernel)), by decide +kernel⟩
theorem twp67 : Cond.selects RX10 yX10_minds yX10_minds ∈ lw_good := List.mem_filter.mpr ⟨List.mem_append_left _ (List.mem_of_getElem? (i := 67) (by decide +kernel)), by decide +kernel⟩
theorem twp68 : Cond.selects RX10 yX10_forgets yX10_forgets ∈ lw_good := List.mem_filter.mpr ⟨List.mem_append_left _ (List.mem_of_getElem? (i := 68) (by decide +kernel)), by decide +kernel⟩
theorem twp69 : Cond.selects RX10 yX10_endedNow yX10_endedNow ∈ lw_good := List.mem_filter.mpr ⟨List.mem_append_left _ (List.mem_of_getElem? (i := 69) (by decide +kernel)), by decide +kernel⟩
theorem twp70 : Cond.selects RX10 yX10_lowestOf yX10_lowestOf ∈ lw_good := List.mem_filter.mpr ⟨List.mem_append_left _ (List.mem_of_getElem? (i := 70) (by decide +kernel)), by decide +kernel⟩
theorem twp71 : Cond.selects RX10 yX10_endsSo yX10_endsSo ∈ lw_good := List.mem_filter.mpr ⟨List.mem_append_left _ (List.mem_of_getElem? (i := 71) (by decide +kernel)), by decide +kernel⟩
theorem twp72 : Cond.selects RX10 yX10_draw yX10_draw ∈ lw_good := List.mem_filter.mpr ⟨List.mem_append_left _ (List.mem_of_getElem? (i := 72) (by decide +kernel)), by decide +kernel⟩
theorem twp73 : Cond.selects RX10 yX10_passesAll yX10_passesAll ∈ lw_good := List.mem_filter.mpr ⟨List.mem_append_left _ (List.mem_of_getElem? (i := 73) (by decide +kernel)), by decide +kernel⟩
theorem twp74 : Cond.selects RX10 yX10_passes yX10_passes ∈ lw_good := List.mem_filter.mpr ⟨List.mem_append_left _ (List.mem_of_getElem? (i := 74) (by decide +kernel)), by decide +kernel⟩
theorem twp75 : Cond.selects RX10 yX10_passOne yX10_passOne ∈ lw_good := List.mem_filter.mpr ⟨List.mem_append_left _ (List.mem_of_getElem? (i := 75) (by decide +kernel)), by decide +kernel⟩
theorem iwX0 : ∀ w ∈ wsX00, w ∈ lw_good := by decide +kernel
theorem iwX1 : ∀ w ∈ wsX10, w ∈ lw_good := by decide +kernel
theorem iwX2 : ∀ w ∈ wsX20, w ∈ lw_good := by decide +kernel
theorem iwX3 : ∀ w ∈ wsX30, w ∈ lw_good := by decide +kernel
theorem iwX4 : ∀ w ∈ wsX40, w ∈ lw_good := by decide +kernel
theorem iwX5 : ∀ w ∈ wsX50, w ∈ lw_good := by decide +kernel
theorem iwX6 : ∀ w ∈ wsX60, w ∈ lw_good := by decide +kernel
theorem iwX7 : ∀ w ∈ wsX70, w ∈ lw_good := by decide +kernel
theorem iwX8 : ∀ w ∈ wsX80, w ∈ lw_good := by decide +kernel
theorem iwX9 : ∀ w ∈ wsX90, w ∈ lw_good := by decide +kernel
theorem iwX10 : ∀ w ∈ wsX100, w ∈ lw_good := by decide +kernel
end
section
theorem dX0_init_0 : decode cX0_init 0 = .ok (.aload_n 0, 1) := by decide +kernel
theorem dX0_init_1 : decode cX0_init 1 = .ok (.invokespecial 3, 3) := by decide +kernel
theorem dX0_init_4 : decode cX0_init 4 = .ok (.aload_n 0, 1) := by decide +kernel
theorem dX0_init_5 : decode cX0_init 5 = .ok (.bipush 10, 2) := by decide +kernel
theorem dX0_init_7 : decode cX0_init 7 = .ok (.newarray .int, 2) := by decide +kernel
theorem dX0_init_9 : decode cX0_init 9 = .ok (.putfield 9, 3) := by decide +kernel
theorem dX0_init_12 : decode cX0_init 12 = .ok (.aload_n 0, 1) := by decide +kernel
theorem dX0_init_13 : decode cX0_init 13 = .ok (.bipush 10, 2) := by decide +kernel
theorem dX0_init_15 : decode cX0_init 15 = .ok (.newarray .int, 2) := by decide +kernel
theorem dX0_init_17 : decode cX0_init 17 = .ok (.putfield 15, 3) := by decide +kernel
theorem dX0_init_20 : decode cX0_init 20 = .ok (.aload_n 0, 1) := by decide +kernel
theorem dX0_init_21 : decode cX0_init 21 = .ok (.bipush 10, 2) := by decide +kernel
theorem dX0_init_23 : decode cX0_init 23 = .ok (.newarray .int, 2) := by decide +kernel
theorem dX0_init_25 : decode cX0_init 25 = .ok (.putfield 18, 3) := by decide +kernel
theorem dX0_init_28 : decode cX0_init 28 = .ok (.return_, 1) := by decide +kernel
theorem dX0_see_0 : decode cX0_see 0 = .ok (.aload_n 0, 1) := by decide +kernel
theorem dX0_see_1 : decode cX0_see 1 = .ok (.getfield 9, 3) := by decide +kernel
theorem dX0_see_4 : decode cX0_see 4 = .ok (.iload_n 1, 1) := by decide +kernel
theorem dX0_see_5 : decode cX0_see 5 = .ok (.invokestatic 21, 3) := by decide +kernel
theorem dX0_see_8 : decode cX0_see 8 = .ok (.istore_n 3, 1) := by decide +kernel
theorem dX0_see_9 : decode cX0_see 9 = .ok (.iconst 1, 1) := by decide +kernel
theorem dX0_see_10 : decode cX0_see 10 = .ok (.iload_n 2, 1) := by decide +kernel
theorem dX0_see_11 : decode cX0_see 11 = .ok (.ishl, 1) := by decide +kernel
theorem dX0_see_12 : decode cX0_see 12 = .ok (.istore 4, 2) := by decide +kernel
theorem dX0_see_14 : decode cX0_see 14 = .ok (.iload_n 3, 1) := by decide +kernel
theorem dX0_see_15 : decode cX0_see 15 = .ok (.iload 4, 2) := by decide +kernel
theorem dX0_see_17 : decode cX0_see 17 = .ok (.iand, 1) := by decide +kernel
theorem dX0_see_18 : decode cX0_see 18 = .ok (.ifCond .eq 32, 3) := by decide +kernel
theorem dX0_see_21 : decode cX0_see 21 = .ok (.iload_n 3, 1) := by decide +kernel
theorem dX0_see_22 : decode cX0_see 22 = .ok (.invokestatic 25, 3) := by decide +kernel
theorem dX0_see_25 : decode cX0_see 25 = .ok (.iconst 2, 1) := by decide +kernel
theorem dX0_see_26 : decode cX0_see 26 = .ok (.if_icmp .gt 24, 3) := by decide +kernel
theorem dX0_see_29 : decode cX0_see 29 = .ok (.aload_n 0, 1) := by decide +kernel
theorem dX0_see_30 : decode cX0_see 30 = .ok (.getfield 15, 3) := by decide +kernel
theorem dX0_see_33 : decode cX0_see 33 = .ok (.iload_n 1, 1) := by decide +kernel
theorem dX0_see_34 : decode cX0_see 34 = .ok (.aload_n 0, 1) := by decide +kernel
theorem dX0_see_35 : decode cX0_see 35 = .ok (.getfield 15, 3) := by decide +kernel
theorem dX0_see_38 : decode cX0_see 38 = .ok (.iload_n 1, 1) := by decide +kernel
theorem dX0_see_39 : decode cX0_see 39 = .ok (.invokestatic 21, 3) := by decide +kernel
theorem dX0_see_42 : decode cX0_see 42 = .ok (.iconst 1, 1) := by decide +kernel
theorem dX0_see_43 : decode cX0_see 43 = .ok (.iadd, 1) := by decide +kernel
theorem dX0_see_44 : decode cX0_see 44 = .ok (.invokestatic 31, 3) := by decide +kernel
theorem dX0_see_47 : decode cX0_see 47 = .ok (.goto 33, 3) := by decide +kernel
theorem dX0_see_50 : decode cX0_see 50 = .ok (.aload_n 0, 1) := by decide +kernel
theorem dX0_see_51 : decode cX0_see 51 = .ok (.getfield 18, 3) := by decide +kernel
theorem dX0_see_54 : decode cX0_see 54 = .ok (.iload_n 1, 1) := by decide +kernel
theorem dX0_see_55 : decode cX0_see 55 = .ok (.aload_n 0, 1) := by decide +kernel
theorem dX0_see_56 : decode cX0_see 56 = .ok (.getfield 18, 3) := by decide +kernel
theorem dX0_see_59 : decode cX0_see 59 = .ok (.iload_n 1, 1) := by decide +kernel
theorem dX0_see_60 : decode cX0_see 60 = .ok (.invokestatic 21, 3) := by decide +kernel
theorem dX0_see_63 : decode cX0_see 63 = .ok (.iconst 1, 1) := by decide +kernel
theorem dX0_see_64 : decode cX0_see 64 = .ok (.iadd, 1) := by decide +kernel
theorem dX0_see_65 : decode cX0_see 65 = .ok (.invokestatic 31, 3) := by decide +kernel
theorem dX0_see_68 : decode cX0_see 68 = .ok (.aload_n 0, 1) := by decide +kernel
theorem dX0_see_69 : decode cX0_see 69 = .ok (.getfield 9, 3) := by decide +kernel
theorem dX0_see_72 : decode cX0_see 72 = .ok (.iload_n 1, 1) := by decide +kernel
theorem dX0_see_73 : decode cX0_see 73 = .ok (.iload_n 3, 1) := by decide +kernel
theorem dX0_see_74 : decode cX0_see 74 = .ok (.iload 4, 2) := by decide +kernel
theorem dX0_see_76 : decode cX0_see 76 = .ok (.ior, 1) := by decide +kernel
theorem dX0_see_77 : decode cX0_see 77 = .ok (.invokestatic 31, 3) := by decide +kernel
theorem dX0_see_80 : decode cX0_see 80 = .ok (.return_, 1) := by decide +kernel
theorem dX0_stateOf_0 : decode cX0_stateOf 0 = .ok (.aload_n 0, 1) := by decide +kernel
theorem dX0_stateOf_1 : decode cX0_stateOf 1 = .ok (.getfield 9, 3) := by decide +kernel
theorem dX0_stateOf_4 : decode cX0_stateOf 4 = .ok (.iload_n 1, 1) := by decide +kernel
theorem dX0_stateOf_5 : decode cX0_stateOf 5 = .ok (.invokestatic 21, 3) := by decide +kernel
theorem dX0_stateOf_8 : decode cX0_stateOf 8 = .ok (.invokestatic 25, 3) := by decide +kernel
theorem dX0_stateOf_11 : decode cX0_stateOf 11 = .ok (.iconst 3, 1) := by decide +kernel
theorem dX0_stateOf_12 : decode cX0_stateOf 12 = .ok (.invokestatic 35, 3) := by decide +kernel
theorem dX0_stateOf_15 : decode cX0_stateOf 15 = .ok (.ireturn, 1) := by decide +kernel
theorem dX0_tell_0 : decode cX0_tell 0 = .ok (.iload_n 2, 1) := by decide +kernel
theorem dX0_tell_1 : decode cX0_tell 1 = .ok (.tableswitch 51 0 2 #[27, 33, 42], 27) := by decide +kernel
theorem dX0_tell_28 : decode cX0_tell 28 = .ok (.aload_n 0, 1) := by decide +kernel
theorem dX0_tell_29 : decode cX0_tell 29 = .ok (.iload_n 1, 1) := by decide +kernel
theorem dX0_tell_30 : decode cX0_tell 30 = .ok (.invokevirtual 41, 3) := by decide +kernel
theorem dX0_tell_33 : decode cX0_tell 33 = .ok (.ireturn, 1) := by decide +kernel
theorem dX0_tell_34 : decode cX0_tell 34 = .ok (.aload_n 0, 1) := by decide +kernel
theorem dX0_tell_35 : decode cX0_tell 35 = .ok (.getfield 9, 3) := by decide +kernel
theorem dX0_tell_38 : decode cX0_tell 38 = .ok (.iload_n 1, 1) := by decide +kernel
theorem dX0_tell_39 : decode cX0_tell 39 = .ok (.invokestatic 21, 3) := by decide +kernel
theorem dX0_tell_42 : decode cX0_tell 42 = .ok (.ireturn, 1) := by decide +kernel
theorem dX0_tell_43 : decode cX0_tell 43 = .ok (.aload_n 0, 1) := by decide +kernel
theorem dX0_tell_44 : decode cX0_tell 44 = .ok (.getfield 15, 3) := by decide +kernel
theorem dX0_tell_47 : decode cX0_tell 47 = .ok (.iload_n 1, 1) := by decide +kernel
theorem dX0_tell_48 : decode cX0_tell 48 = .ok (.invokestatic 21, 3) := by decide +kernel
theorem dX0_tell_51 : decode cX0_tell 51 = .ok (.ireturn, 1) := by decide +kernel
theorem dX0_tell_52 : decode cX0_tell 52 = .ok (.aload_n 0, 1) := by decide +kernel
theorem dX0_tell_53 : decode cX0_tell 53 = .ok (.getfield 18, 3) := by decide +kernel
theorem dX0_tell_56 : decode cX0_tell 56 = .ok (.iload_n 1, 1) := by decide +kernel
theorem dX0_tell_57 : decode cX0_tell 57 = .ok (.invokestatic 21, 3) := by decide +kernel
theorem dX0_tell_60 : decode cX0_tell 60 = .ok (.ireturn, 1) := by decide +kernel
theorem dX0_allHits_0 : decode cX0_allHits 0 = .ok (.aload_n 0, 1) := by decide +kernel
theorem dX0_allHits_1 : decode cX0_allHits 1 = .ok (.getfield 15, 3) := by decide +kernel
theorem dX0_allHits_4 : decode cX0_allHits 4 = .ok (.invokestatic 44, 3) := by decide +kernel
theorem dX0_allHits_7 : decode cX0_allHits 7 = .ok (.ireturn, 1) := by decide +kernel
theorem dX0_allMisses_0 : decode cX0_allMisses 0 = .ok (.aload_n 0, 1) := by decide +kernel
theorem dX0_allMisses_1 : decode cX0_allMisses 1 = .ok (.getfield 18, 3) := by decide +kernel
theorem dX0_allMisses_4 : decode cX0_allMisses 4 = .ok (.invokestatic 44, 3) := by decide +kernel
theorem dX0_allMisses_7 : decode cX0_allMisses 7 = .ok (.ireturn, 1) := by decide +kernel
theorem dX0_sumOf_0 : decode cX0_sumOf 0 = .ok (.iconst 0, 1) := by decide +kernel
theorem dX0_sumOf_1 : decode cX0_sumOf 1 = .ok (.istore_n 1, 1) := by decide +kernel
theorem dX0_sumOf_2 : decode cX0_sumOf 2 = .ok (.aload_n 0, 1) := by decide +kernel
theorem dX0_sumOf_3 : decode cX0_sumOf 3 = .ok (.astore_n 2, 1) := by decide +kernel
theorem dX0_sumOf_4 : decode cX0_sumOf 4 = .ok (.aload_n 2, 1) := by decide +kernel
theorem dX0_sumOf_5 : decode cX0_sumOf 5 = .ok (.arraylength, 1) := by decide +kernel
theorem dX0_sumOf_6 : decode cX0_sumOf 6 = .ok (.istore_n 3, 1) := by decide +kernel
theorem dX0_sumOf_7 : decode cX0_sumOf 7 = .ok (.iconst 0, 1) := by decide +kernel
theorem dX0_sumOf_8 : decode cX0_sumOf 8 = .ok (.istore 4, 2) := by decide +kernel
theorem dX0_sumOf_10 : decode cX0_sumOf 10 = .ok (.iload 4, 2) := by decide +kernel
theorem dX0_sumOf_12 : decode cX0_sumOf 12 = .ok (.iload_n 3, 1) := by decide +kernel
theorem dX0_sumOf_13 : decode cX0_sumOf 13 = .ok (.if_icmp .ge 20, 3) := by decide +kernel
theorem dX0_sumOf_16 : decode cX0_sumOf 16 = .ok (.aload_n 2, 1) := by decide +kernel
theorem dX0_sumOf_17 : decode cX0_sumOf 17 = .ok (.iload 4, 2) := by decide +kernel
theorem dX0_sumOf_19 : decode cX0_sumOf 19 = .ok (.iaload, 1) := by decide +kernel
theorem dX0_sumOf_20 : decode cX0_sumOf 20 = .ok (.istore 5, 2) := by decide +kernel
theorem dX0_sumOf_22 : decode cX0_sumOf 22 = .ok (.iload_n 1, 1) := by decide +kernel
theorem dX0_sumOf_23 : decode cX0_sumOf 23 = .ok (.iload 5, 2) := by decide +kernel
theorem dX0_sumOf_25 : decode cX0_sumOf 25 = .ok (.iadd, 1) := by decide +kernel
theorem dX0_sumOf_26 : decode cX0_sumOf 26 = .ok (.istore_n 1, 1) := by decide +kernel
theorem dX0_sumOf_27 : decode cX0_sumOf 27 = .ok (.iinc 4 1, 3) := by decide +kernel
theorem dX0_sumOf_30 : decode cX0_sumOf 30 = .ok (.goto (-20), 3) := by decide +kernel
theorem dX0_sumOf_33 : decode cX0_sumOf 33 = .ok (.iload_n 1, 1) := by decide +kernel
theorem dX0_sumOf_34 : decode cX0_sumOf 34 = .ok (.ireturn, 1) := by decide +kernel
theorem dX0_forget_0 : decode cX0_forget 0 = .ok (.iconst 0, 1) := by decide +kernel
theorem dX0_forget_1 : decode cX0_forget 1 = .ok (.istore_n 1, 1) := by decide +kernel
theorem dX0_forget_2 : decode cX0_forget 2 = .ok (.iload_n 1, 1) := by decide +kernel
theorem dX0_forget_3 : decode cX0_forget 3 = .ok (.bipush 10, 2) := by decide +kernel
theorem dX0_forget_5 : decode cX0_forget 5 = .ok (.if_icmp .ge 36, 3) := by decide +kernel
theorem dX0_forget_8 : decode cX0_forget 8 = .ok (.aload_n 0, 1) := by decide +kernel
theorem dX0_forget_9 : decode cX0_forget 9 = .ok (.getfield 9, 3) := by decide +kernel
theorem dX0_forget_12 : decode cX0_forget 12 = .ok (.iload_n 1, 1) := by decide +kernel
theorem dX0_forget_13 : decode cX0_forget 13 = .ok (.iconst 0, 1) := by decide +kernel
theorem dX0_forget_14 : decode cX0_forget 14 = .ok (.invokestatic 31, 3) := by decide +kernel
theorem dX0_forget_17 : decode cX0_forget 17 = .ok (.aload_n 0, 1) := by decide +kernel
theorem dX0_forget_18 : decode cX0_forget 18 = .ok (.getfield 15, 3) := by decide +kernel
theorem dX0_forget_21 : decode cX0_forget 21 = .ok (.iload_n 1, 1) := by decide +kernel
theorem dX0_forget_22 : decode cX0_forget 22 = .ok (.iconst 0, 1) := by decide +kernel
theorem dX0_forget_23 : decode cX0_forget 23 = .ok (.invokestatic 31, 3) := by decide +kernel
theorem dX0_forget_26 : decode cX0_forget 26 = .ok (.aload_n 0, 1) := by decide +kernel
theorem dX0_forget_27 : decode cX0_forget 27 = .ok (.getfield 18, 3) := by decide +kernel
theorem dX0_forget_30 : decode cX0_forget 30 = .ok (.iload_n 1, 1) := by decide +kernel
theorem dX0_forget_31 : decode cX0_forget 31 = .ok (.iconst 0, 1) := by decide +kernel
theorem dX0_forget_32 : decode cX0_forget 32 = .ok (.invokestatic 31, 3) := by decide +kernel
theorem dX0_forget_35 : decode cX0_forget 35 = .ok (.iinc 1 1, 3) := by decide +kernel
theorem dX0_forget_38 : decode cX0_forget 38 = .ok (.goto (-36), 3) := by decide +kernel
theorem dX0_forget_41 : decode cX0_forget 41 = .ok (.return_, 1) := by decide +kernel
theorem dX0_copyFrom_0 : decode cX0_copyFrom 0 = .ok (.aload_n 1, 1) := by decide +kernel
theorem dX0_copyFrom_1 : decode cX0_copyFrom 1 = .ok (.getfield 9, 3) := by decide +kernel
theorem dX0_copyFrom_4 : decode cX0_copyFrom 4 = .ok (.aload_n 0, 1) := by decide +kernel
theorem dX0_copyFrom_5 : decode cX0_copyFrom 5 = .ok (.getfield 9, 3) := by decide +kernel
theorem dX0_copyFrom_8 : decode cX0_copyFrom 8 = .ok (.invokestatic 48, 3) := by decide +kernel
theorem dX0_copyFrom_11 : decode cX0_copyFrom 11 = .ok (.aload_n 1, 1) := by decide +kernel
theorem dX0_copyFrom_12 : decode cX0_copyFrom 12 = .ok (.getfield 15, 3) := by decide +kernel
theorem dX0_copyFrom_15 : decode cX0_copyFrom 15 = .ok (.aload_n 0, 1) := by decide +kernel
theorem dX0_copyFrom_16 : decode cX0_copyFrom 16 = .ok (.getfield 15, 3) := by decide +kernel
theorem dX0_copyFrom_19 : decode cX0_copyFrom 19 = .ok (.invokestatic 48, 3) := by decide +kernel
theorem dX0_copyFrom_22 : decode cX0_copyFrom 22 = .ok (.aload_n 1, 1) := by decide +kernel
theorem dX0_copyFrom_23 : decode cX0_copyFrom 23 = .ok (.getfield 18, 3) := by decide +kernel
theorem dX0_copyFrom_26 : decode cX0_copyFrom 26 = .ok (.aload_n 0, 1) := by decide +kernel
theorem dX0_copyFrom_27 : decode cX0_copyFrom 27 = .ok (.getfield 18, 3) := by decide +kernel
theorem dX0_copyFrom_30 : decode cX0_copyFrom 30 = .ok (.invokestatic 48, 3) := by decide +kernel
theorem dX0_copyFrom_33 : decode cX0_copyFrom 33 = .ok (.return_, 1) := by decide +kernel
theorem dX1_init_0 : decode cX1_init 0 = .ok (.aload_n 0, 1) := by decide +kernel
theorem dX1_init_1 : decode cX1_init 1 = .ok (.invokespecial 3, 3) := by decide +kernel
theorem dX1_init_4 : decode cX1_init 4 = .ok (.aload_n 0, 1) := by decide +kernel
theorem dX1_init_5 : decode cX1_init 5 = .ok (.sipush 400, 3) := by decide +kernel
theorem dX1_init_8 : decode cX1_init 8 = .ok (.newarray .int, 2) := by decide +kernel
theorem dX1_init_10 : decode cX1_init 10 = .ok (.putfield 9, 3) := by decide +kernel
theorem dX1_init_13 : decode cX1_init 13 = .ok (.aload_n 0, 1) := by decide +kernel
theorem dX1_init_14 : decode cX1_init 14 = .ok (.sipush 400, 3) := by decide +kernel
theorem dX1_init_17 : decode cX1_init 17 = .ok (.newarray .int, 2) := by decide +kernel
theorem dX1_init_19 : decode cX1_init 19 = .ok (.putfield 15, 3) := by decide +kernel
theorem dX1_init_22 : decode cX1_init 22 = .ok (.aload_n 0, 1) := by decide +kernel
theorem dX1_init_23 : decode cX1_init 23 = .ok (.sipush 400, 3) := by decide +kernel
theorem dX1_init_26 : decode cX1_init 26 = .ok (.newarray .int, 2) := by decide +kernel
theorem dX1_init_28 : decode cX1_init 28 = .ok (.putfield 18, 3) := by decide +kernel
theorem dX1_init_31 : decode cX1_init 31 = .ok (.aload_n 0, 1) := by decide +kernel
theorem dX1_init_32 : decode cX1_init 32 = .ok (.iconst 0, 1) := by decide +kernel
theorem dX1_init_33 : decode cX1_init 33 = .ok (.putfield 21, 3) := by decide +kernel
theorem dX1_init_36 : decode cX1_init 36 = .ok (.return_, 1) := by decide +kernel
theorem dX1_forget_0 : decode cX1_forget 0 = .ok (.aload_n 0, 1) := by decide +kernel
theorem dX1_forget_1 : decode cX1_forget 1 = .ok (.iconst 0, 1) := by decide +kernel
theorem dX1_forget_2 : decode cX1_forget 2 = .ok (.putfield 21, 3) := by decide +kernel
theorem dX1_forget_5 : decode cX1_forget 5 = .ok (.return_, 1) := by decide +kernel
theorem dX1_add_0 : decode cX1_add 0 = .ok (.aload_n 0, 1) := by decide +kernel
theorem dX1_add_1 : decode cX1_add 1 = .ok (.getfield 9, 3) := by decide +kernel
theorem dX1_add_4 : decode cX1_add 4 = .ok (.aload_n 0, 1) := by decide +kernel
theorem dX1_add_5 : decode cX1_add 5 = .ok (.getfield 21, 3) := by decide +kernel
theorem dX1_add_8 : decode cX1_add 8 = .ok (.iload_n 1, 1) := by decide +kernel
theorem dX1_add_9 : decode cX1_add 9 = .ok (.invokestatic 25, 3) := by decide +kernel
theorem dX1_add_12 : decode cX1_add 12 = .ok (.aload_n 0, 1) := by decide +kernel
theorem dX1_add_13 : decode cX1_add 13 = .ok (.getfield 15, 3) := by decide +kernel
theorem dX1_add_16 : decode cX1_add 16 = .ok (.aload_n 0, 1) := by decide +kernel
theorem dX1_add_17 : decode cX1_add 17 = .ok (.getfield 21, 3) := by decide +kernel
theorem dX1_add_20 : decode cX1_add 20 = .ok (.iload_n 2, 1) := by decide +kernel
theorem dX1_add_21 : decode cX1_add 21 = .ok (.invokestatic 25, 3) := by decide +kernel
theorem dX1_add_24 : decode cX1_add 24 = .ok (.aload_n 0, 1) := by decide +kernel
theorem dX1_add_25 : decode cX1_add 25 = .ok (.getfield 18, 3) := by decide +kernel
theorem dX1_add_28 : decode cX1_add 28 = .ok (.aload_n 0, 1) := by decide +kernel
theorem dX1_add_29 : decode cX1_add 29 = .ok (.getfield 21, 3) := by decide +kernel
theorem dX1_add_32 : decode cX1_add 32 = .ok (.iload_n 3, 1) := by decide +kernel
theorem dX1_add_33 : decode cX1_add 33 = .ok (.invokestatic 25, 3) := by decide +kernel
theorem dX1_add_36 : decode cX1_add 36 = .ok (.aload_n 0, 1) := by decide +kernel
theorem dX1_add_37 : decode cX1_add 37 = .ok (.dup, 1) := by decide +kernel
theorem dX1_add_38 : decode cX1_add 38 = .ok (.getfield 21, 3) := by decide +kernel
theorem dX1_add_41 : decode cX1_add 41 = .ok (.iconst 1, 1) := by decide +kernel
theorem dX1_add_42 : decode cX1_add 42 = .ok (.iadd, 1) := by decide +kernel
theorem dX1_add_43 : decode cX1_add 43 = .ok (.putfield 21, 3) := by decide +kernel
theorem dX1_add_46 : decode cX1_add 46 = .ok (.aload_n 0, 1) := by decide +kernel
theorem dX1_add_47 : decode cX1_add 47 = .ok (.getfield 21, 3) := by decide +kernel
theorem dX1_add_50 : decode cX1_add 50 = .ok (.iconst 1, 1) := by decide +kernel
theorem dX1_add_51 : decode cX1_add 51 = .ok (.isub, 1) := by decide +kernel
theorem dX1_add_52 : decode cX1_add 52 = .ok (.ireturn, 1) := by decide +kernel
theorem dX1_innermost_0 : decode cX1_innermost 0 = .ok (.iload_n 2, 1) := by decide +kernel
theorem dX1_innermost_1 : decode cX1_innermost 1 = .ok (.istore_n 3, 1) := by decide +kernel
theorem dX1_innermost_2 : decode cX1_innermost 2 = .ok (.iconst 0, 1) := by decide +kernel
theorem dX1_innermost_3 : decode cX1_innermost 3 = .ok (.istore 4, 2) := by decide +kernel
theorem dX1_innermost_5 : decode cX1_innermost 5 = .ok (.iload 4, 2) := by decide +kernel
theorem dX1_innermost_7 : decode cX1_innermost 7 = .ok (.sipush 400, 3) := by decide +kernel
theorem dX1_innermost_10 : decode cX1_innermost 10 = .ok (.if_icmp .ge 37, 3) := by decide +kernel
theorem dX1_innermost_13 : decode cX1_innermost 13 = .ok (.iload_n 3, 1) := by decide +kernel
theorem dX1_innermost_14 : decode cX1_innermost 14 = .ok (.iconst (-1), 1) := by decide +kernel
theorem dX1_innermost_15 : decode cX1_innermost 15 = .ok (.if_icmp .eq 32, 3) := by decide +kernel
theorem dX1_innermost_18 : decode cX1_innermost 18 = .ok (.aload_n 0, 1) := by decide +kernel
theorem dX1_innermost_19 : decode cX1_innermost 19 = .ok (.getfield 9, 3) := by decide +kernel
theorem dX1_innermost_22 : decode cX1_innermost 22 = .ok (.iload_n 3, 1) := by decide +kernel
theorem dX1_innermost_23 : decode cX1_innermost 23 = .ok (.invokestatic 29, 3) := by decide +kernel
theorem dX1_innermost_26 : decode cX1_innermost 26 = .ok (.iload_n 1, 1) := by decide +kernel
theorem dX1_innermost_27 : decode cX1_innermost 27 = .ok (.if_icmp .ne 5, 3) := by decide +kernel
theorem dX1_innermost_30 : decode cX1_innermost 30 = .ok (.iload_n 3, 1) := by decide +kernel
theorem dX1_innermost_31 : decode cX1_innermost 31 = .ok (.ireturn, 1) := by decide +kernel
theorem dX1_innermost_32 : decode cX1_innermost 32 = .ok (.aload_n 0, 1) := by decide +kernel
theorem dX1_innermost_33 : decode cX1_innermost 33 = .ok (.getfield 18, 3) := by decide +kernel
theorem dX1_innermost_36 : decode cX1_innermost 36 = .ok (.iload_n 3, 1) := by decide +kernel
theorem dX1_innermost_37 : decode cX1_innermost 37 = .ok (.invokestatic 29, 3) := by decide +kernel
theorem dX1_innermost_40 : decode cX1_innermost 40 = .ok (.istore_n 3, 1) := by decide +kernel
theorem dX1_innermost_41 : decode cX1_innermost 41 = .ok (.iinc 4 1, 3) := by decide +kernel
theorem dX1_innermost_44 : decode cX1_innermost 44 = .ok (.goto (-39), 3) := by decide +kernel
theorem dX1_innermost_47 : decode cX1_innermost 47 = .ok (.iconst (-1), 1) := by decide +kernel
theorem dX1_innermost_48 : decode cX1_innermost 48 = .ok (.ireturn, 1) := by decide +kernel
theorem dX1_valueIn_0 : decode cX1_valueIn 0 = .ok (.aload_n 0, 1) := by decide +kernel
theorem dX1_valueIn_1 : decode cX1_valueIn 1 = .ok (.getfield 15, 3) := by decide +kernel
theorem dX1_valueIn_4 : decode cX1_valueIn 4 = .ok (.iload_n 1, 1) := by decide +kernel
theorem dX1_valueIn_5 : decode cX1_valueIn 5 = .ok (.invokestatic 29, 3) := by decide +kernel
theorem dX1_valueIn_8 : decode cX1_valueIn 8 = .ok (.ireturn, 1) := by decide +kernel
theorem dX1_change_0 : decode cX1_change 0 = .ok (.aload_n 0, 1) := by decide +kernel
theorem dX1_change_1 : decode cX1_change 1 = .ok (.getfield 15, 3) := by decide +kernel
theorem dX1_change_4 : decode cX1_change 4 = .ok (.iload_n 1, 1) := by decide +kernel
theorem dX1_change_5 : decode cX1_change 5 = .ok (.iload_n 2, 1) := by decide +kernel
theorem dX1_change_6 : decode cX1_change 6 = .ok (.invokestatic 25, 3) := by decide +kernel
theorem dX1_change_9 : decode cX1_change 9 = .ok (.return_, 1) := by decide +kernel
theorem dX2_init_0 : decode cX2_init 0 = .ok (.aload_n 0, 1) := by decide +kernel
theorem dX2_init_1 : decode cX2_init 1 = .ok (.invokespecial 3, 3) := by decide +kernel
theorem dX2_init_4 : decode cX2_init 4 = .ok (.aload_n 0, 1) := by decide +kernel
theorem dX2_init_5 : decode cX2_init 5 = .ok (.iconst 0, 1) := by decide +kernel
theorem dX2_init_6 : decode cX2_init 6 = .ok (.putfield 9, 3) := by decide +kernel
theorem dX2_init_9 : decode cX2_init 9 = .ok (.aload_n 0, 1) := by decide +kernel
theorem dX2_init_10 : decode cX2_init 10 = .ok (.iconst 0, 1) := by decide +kernel
theorem dX2_init_11 : decode cX2_init 11 = .ok (.putfield 15, 3) := by decide +kernel
theorem dX2_init_14 : decode cX2_init 14 = .ok (.aload_n 0, 1) := by decide +kernel
theorem dX2_init_15 : decode cX2_init 15 = .ok (.iconst 0, 1) := by decide +kernel
theorem dX2_init_16 : decode cX2_init 16 = .ok (.putfield 18, 3) := by decide +kernel
theorem dX2_init_19 : decode cX2_init 19 = .ok (.aload_n 0, 1) := by decide +kernel
theorem dX2_init_20 : decode cX2_init 20 = .ok (.iconst 0, 1) := by decide +kernel
theorem dX2_init_21 : decode cX2_init 21 = .ok (.putfield 21, 3) := by decide +kernel
theorem dX2_init_24 : decode cX2_init 24 = .ok (.aload_n 0, 1) := by decide +kernel
theorem dX2_init_25 : decode cX2_init 25 = .ok (.iconst 0, 1) := by decide +kernel
theorem dX2_init_26 : decode cX2_init 26 = .ok (.putfield 24, 3) := by decide +kernel
theorem dX2_init_29 : decode cX2_init 29 = .ok (.aload_n 0, 1) := by decide +kernel
theorem dX2_init_30 : decode cX2_init 30 = .ok (.iconst 0, 1) := by decide +kernel
theorem dX2_init_31 : decode cX2_init 31 = .ok (.putfield 27, 3) := by decide +kernel
theorem dX2_init_34 : decode cX2_init 34 = .ok (.aload_n 0, 1) := by decide +kernel
theorem dX2_init_35 : decode cX2_init 35 = .ok (.iconst 0, 1) := by decide +kernel
theorem dX2_init_36 : decode cX2_init 36 = .ok (.putfield 30, 3) := by decide +kernel
theorem dX2_init_39 : decode cX2_init 39 = .ok (.return_, 1) := by decide +kernel
theorem dX2_tell_0 : decode cX2_tell 0 = .ok (.iload_n 1, 1) := by decide +kernel
theorem dX2_tell_1 : decode cX2_tell 1 = .ok (.tableswitch 60 0 4 #[35, 40, 45, 50, 55], 35) := by decide +kernel
theorem dX2_tell_36 : decode cX2_tell 36 = .ok (.aload_n 0, 1) := by decide +kernel
theorem dX2_tell_37 : decode cX2_tell 37 = .ok (.getfield 9, 3) := by decide +kernel
theorem dX2_tell_40 : decode cX2_tell 40 = .ok (.ireturn, 1) := by decide +kernel
theorem dX2_tell_41 : decode cX2_tell 41 = .ok (.aload_n 0, 1) := by decide +kernel
theorem dX2_tell_42 : decode cX2_tell 42 = .ok (.getfield 15, 3) := by decide +kernel
theorem dX2_tell_45 : decode cX2_tell 45 = .ok (.ireturn, 1) := by decide +kernel
theorem dX2_tell_46 : decode cX2_tell 46 = .ok (.aload_n 0, 1) := by decide +kernel
theorem dX2_tell_47 : decode cX2_tell 47 = .ok (.getfield 18, 3) := by decide +kernel
theorem dX2_tell_50 : decode cX2_tell 50 = .ok (.ireturn, 1) := by decide +kernel
theorem dX2_tell_51 : decode cX2_tell 51 = .ok (.aload_n 0, 1) := by decide +kernel
theorem dX2_tell_52 : decode cX2_tell 52 = .ok (.getfield 21, 3) := by decide +kernel
theorem dX2_tell_55 : decode cX2_tell 55 = .ok (.ireturn, 1) := by decide +kernel
theorem dX2_tell_56 : decode cX2_tell 56 = .ok (.aload_n 0, 1) := by decide +kernel
theorem dX2_tell_57 : decode cX2_tell 57 = .ok (.getfield 24, 3) := by decide +kernel
theorem dX2_tell_60 : decode cX2_tell 60 = .ok (.ireturn, 1) := by decide +kernel
theorem dX2_tell_61 : decode cX2_tell 61 = .ok (.aload_n 0, 1) := by decide +kernel
theorem dX2_tell_62 : decode cX2_tell 62 = .ok (.getfield 27, 3) := by decide +kernel
theorem dX2_tell_65 : decode cX2_tell 65 = .ok (.ireturn, 1) := by decide +kernel
theorem dX2_codeAt_0 : decode cX2_codeAt 0 = .ok (.iload_n 1, 1) := by decide +kernel
theorem dX2_codeAt_1 : decode cX2_codeAt 1 = .ok (.aload_n 0, 1) := by decide +kernel
theorem dX2_codeAt_2 : decode cX2_codeAt 2 = .ok (.getfield 27, 3) := by decide +kernel
theorem dX2_codeAt_5 : decode cX2_codeAt 5 = .ok (.if_icmp .ge 8, 3) := by decide +kernel
theorem dX2_codeAt_8 : decode cX2_codeAt 8 = .ok (.bipush 7, 2) := by decide +kernel
theorem dX2_codeAt_10 : decode cX2_codeAt 10 = .ok (.goto 7, 3) := by decide +kernel
theorem dX2_codeAt_13 : decode cX2_codeAt 13 = .ok (.aload_n 0, 1) := by decide +kernel
theorem dX2_codeAt_14 : decode cX2_codeAt 14 = .ok (.getfield 30, 3) := by decide +kernel
theorem dX2_codeAt_17 : decode cX2_codeAt 17 = .ok (.ireturn, 1) := by decide +kernel
theorem dX2_isNumber_0 : decode cX2_isNumber 0 = .ok (.aload_n 0, 1) := by decide +kernel
theorem dX2_isNumber_1 : decode cX2_isNumber 1 = .ok (.getfield 9, 3) := by decide +kernel
theorem dX2_isNumber_4 : decode cX2_isNumber 4 = .ok (.ifCond .ne 15, 3) := by decide +kernel
theorem dX2_isNumber_7 : decode cX2_isNumber 7 = .ok (.aload_n 0, 1) := by decide +kernel
theorem dX2_isNumber_8 : decode cX2_isNumber 8 = .ok (.getfield 15, 3) := by decide +kernel
theorem dX2_isNumber_11 : decode cX2_isNumber 11 = .ok (.iload_n 1, 1) := by decide +kernel
theorem dX2_isNumber_12 : decode cX2_isNumber 12 = .ok (.if_icmp .ne 7, 3) := by decide +kernel
theorem dX2_isNumber_15 : decode cX2_isNumber 15 = .ok (.iconst 1, 1) := by decide +kernel
theorem dX2_isNumber_16 : decode cX2_isNumber 16 = .ok (.goto 4, 3) := by decide +kernel
theorem dX2_isNumber_19 : decode cX2_isNumber 19 = .ok (.iconst 0, 1) := by decide +kernel
theorem dX2_isNumber_20 : decode cX2_isNumber 20 = .ok (.ireturn, 1) := by decide +kernel
theorem dX2_copyFrom_0 : decode cX2_copyFrom 0 = .ok (.aload_n 0, 1) := by decide +kernel
theorem dX2_copyFrom_1 : decode cX2_copyFrom 1 = .ok (.aload_n 1, 1) := by decide +kernel
theorem dX2_copyFrom_2 : decode cX2_copyFrom 2 = .ok (.getfield 9, 3) := by decide +kernel
theorem dX2_copyFrom_5 : decode cX2_copyFrom 5 = .ok (.putfield 9, 3) := by decide +kernel
theorem dX2_copyFrom_8 : decode cX2_copyFrom 8 = .ok (.aload_n 0, 1) := by decide +kernel
theorem dX2_copyFrom_9 : decode cX2_copyFrom 9 = .ok (.aload_n 1, 1) := by decide +kernel
theorem dX2_copyFrom_10 : decode cX2_copyFrom 10 = .ok (.getfield 15, 3) := by decide +kernel
theorem dX2_copyFrom_13 : decode cX2_copyFrom 13 = .ok (.putfield 15, 3) := by decide +kernel
theorem dX2_copyFrom_16 : decode cX2_copyFrom 16 = .ok (.aload_n 0, 1) := by decide +kernel
theorem dX2_copyFrom_17 : decode cX2_copyFrom 17 = .ok (.aload_n 1, 1) := by decide +kernel
theorem dX2_copyFrom_18 : decode cX2_copyFrom 18 = .ok (.getfield 18, 3) := by decide +kernel
theorem dX2_copyFrom_21 : decode cX2_copyFrom 21 = .ok (.putfield 18, 3) := by decide +kernel
theorem dX2_copyFrom_24 : decode cX2_copyFrom 24 = .ok (.aload_n 0, 1) := by decide +kernel
theorem dX2_copyFrom_25 : decode cX2_copyFrom 25 = .ok (.aload_n 1, 1) := by decide +kernel
theorem dX2_copyFrom_26 : decode cX2_copyFrom 26 = .ok (.getfield 21, 3) := by decide +kernel
theorem dX2_copyFrom_29 : decode cX2_copyFrom 29 = .ok (.putfield 21, 3) := by decide +kernel
theorem dX2_copyFrom_32 : decode cX2_copyFrom 32 = .ok (.aload_n 0, 1) := by decide +kernel
theorem dX2_copyFrom_33 : decode cX2_copyFrom 33 = .ok (.aload_n 1, 1) := by decide +kernel
theorem dX2_copyFrom_34 : decode cX2_copyFrom 34 = .ok (.getfield 24, 3) := by decide +kernel
theorem dX2_copyFrom_37 : decode cX2_copyFrom 37 = .ok (.putfield 24, 3) := by decide +kernel
theorem dX2_copyFrom_40 : decode cX2_copyFrom 40 = .ok (.aload_n 0, 1) := by decide +kernel
theorem dX2_copyFrom_41 : decode cX2_copyFrom 41 = .ok (.aload_n 1, 1) := by decide +kernel
theorem dX2_copyFrom_42 : decode cX2_copyFrom 42 = .ok (.getfield 27, 3) := by decide +kernel
theorem dX2_copyFrom_45 : decode cX2_copyFrom 45 = .ok (.putfield 27, 3) := by decide +kernel
theorem dX2_copyFrom_48 : decode cX2_copyFrom 48 = .ok (.aload_n 0, 1) := by decide +kernel
theorem dX2_copyFrom_49 : decode cX2_copyFrom 49 = .ok (.aload_n 1, 1) := by decide +kernel
theorem dX2_copyFrom_50 : decode cX2_copyFrom 50 = .ok (.getfield 30, 3) := by decide +kernel
theorem dX2_copyFrom_53 : decode cX2_copyFrom 53 = .ok (.putfield 30, 3) := by decide +kernel
theorem dX2_copyFrom_56 : decode cX2_copyFrom 56 = .ok (.return_, 1) := by decide +kernel
theorem dX3_init_0 : decode cX3_init 0 = .ok (.aload_n 0, 1) := by decide +kernel
theorem dX3_init_1 : decode cX3_init 1 = .ok (.invokespecial 3, 3) := by decide +kernel
theorem dX3_init_4 : decode cX3_init 4 = .ok (.aload_n 0, 1) := by decide +kernel
theorem dX3_init_5 : decode cX3_init 5 = .ok (.bipush 96, 2) := by decide +kernel
theorem dX3_init_7 : decode cX3_init 7 = .ok (.newarray .int, 2) := by decide +kernel
theorem dX3_init_9 : decode cX3_init 9 = .ok (.putfield 9, 3) := by decide +kernel
theorem dX3_init_12 : decode cX3_init 12 = .ok (.aload_n 0, 1) := by decide +kernel
theorem dX3_init_13 : decode cX3_init 13 = .ok (.bipush 96, 2) := by decide +kernel
theorem dX3_init_15 : decode cX3_init 15 = .ok (.newarray .int, 2) := by decide +kernel
theorem dX3_init_17 : decode cX3_init 17 = .ok (.putfield 15, 3) := by decide +kernel
theorem dX3_init_20 : decode cX3_init 20 = .ok (.aload_n 0, 1) := by decide +kernel
theorem dX3_init_21 : decode cX3_init 21 = .ok (.bipush 96, 2) := by decide +kernel
theorem dX3_init_23 : decode cX3_init 23 = .ok (.newarray .int, 2) := by decide +kernel
theorem dX3_init_25 : decode cX3_init 25 = .ok (.putfield 18, 3) := by decide +kernel
theorem dX3_init_28 : decode cX3_init 28 = .ok (.aload_n 0, 1) := by decide +kernel
theorem dX3_init_29 : decode cX3_init 29 = .ok (.sipush 193, 3) := by decide +kernel
theorem dX3_init_32 : decode cX3_init 32 = .ok (.newarray .int, 2) := by decide +kernel
theorem dX3_init_34 : decode cX3_init 34 = .ok (.putfield 21, 3) := by decide +kernel
theorem dX3_init_37 : decode cX3_init 37 = .ok (.aload_n 0, 1) := by decide +kernel
theorem dX3_init_38 : decode cX3_init 38 = .ok (.sipush 193, 3) := by decide +kernel
theorem dX3_init_41 : decode cX3_init 41 = .ok (.newarray .int, 2) := by decide +kernel
theorem dX3_init_43 : decode cX3_init 43 = .ok (.putfield 24, 3) := by decide +kernel
theorem dX3_init_46 : decode cX3_init 46 = .ok (.aload_n 0, 1) := by decide +kernel
theorem dX3_init_47 : decode cX3_init 47 = .ok (.iconst 0, 1) := by decide +kernel
theorem dX3_init_48 : decode cX3_init 48 = .ok (.putfield 27, 3) := by decide +kernel
theorem dX3_init_51 : decode cX3_init 51 = .ok (.aload_n 0, 1) := by decide +kernel
theorem dX3_init_52 : decode cX3_init 52 = .ok (.iconst 0, 1) := by decide +kernel
theorem dX3_init_53 : decode cX3_init 53 = .ok (.putfield 31, 3) := by decide +kernel
theorem dX3_init_56 : decode cX3_init 56 = .ok (.aload_n 0, 1) := by decide +kernel
theorem dX3_init_57 : decode cX3_init 57 = .ok (.iconst 0, 1) := by decide +kernel
theorem dX3_init_58 : decode cX3_init 58 = .ok (.putfield 34, 3) := by decide +kernel
theorem dX3_init_61 : decode cX3_init 61 = .ok (.return_, 1) := by decide +kernel
theorem dX3_isFull_0 : decode cX3_isFull 0 = .ok (.aload_n 0, 1) := by decide +kernel
theorem dX3_isFull_1 : decode cX3_isFull 1 = .ok (.getfield 34, 3) := by decide +kernel
theorem dX3_isFull_4 : decode cX3_isFull 4 = .ok (.bipush 96, 2) := by decide +kernel
theorem dX3_isFull_6 : decode cX3_isFull 6 = .ok (.if_icmp .lt 7, 3) := by decide +kernel
theorem dX3_isFull_9 : decode cX3_isFull 9 = .ok (.iconst 1, 1) := by decide +kernel
theorem dX3_isFull_10 : decode cX3_isFull 10 = .ok (.goto 4, 3) := by decide +kernel
theorem dX3_isFull_13 : decode cX3_isFull 13 = .ok (.iconst 0, 1) := by decide +kernel
theorem dX3_isFull_14 : decode cX3_isFull 14 = .ok (.ireturn, 1) := by decide +kernel
theorem dX3_add_0 : decode cX3_add 0 = .ok (.aload_n 0, 1) := by decide +kernel
theorem dX3_add_1 : decode cX3_add 1 = .ok (.getfield 9, 3) := by decide +kernel
theorem dX3_add_4 : decode cX3_add 4 = .ok (.aload_n 0, 1) := by decide +kernel
theorem dX3_add_5 : decode cX3_add 5 = .ok (.getfield 34, 3) := by decide +kernel
theorem dX3_add_8 : decode cX3_add 8 = .ok (.iload_n 1, 1) := by decide +kernel
theorem dX3_add_9 : decode cX3_add 9 = .ok (.invokestatic 37, 3) := by decide +kernel
theorem dX3_add_12 : decode cX3_add 12 = .ok (.aload_n 0, 1) := by decide +kernel
theorem dX3_add_13 : decode cX3_add 13 = .ok (.dup, 1) := by decide +kernel
theorem dX3_add_14 : decode cX3_add 14 = .ok (.getfield 34, 3) := by decide +kernel
theorem dX3_add_17 : decode cX3_add 17 = .ok (.iconst 1, 1) := by decide +kernel
theorem dX3_add_18 : decode cX3_add 18 = .ok (.iadd, 1) := by decide +kernel
theorem dX3_add_19 : decode cX3_add 19 = .ok (.putfield 34, 3) := by decide +kernel
theorem dX3_add_22 : decode cX3_add 22 = .ok (.aload_n 0, 1) := by decide +kernel
theorem dX3_add_23 : decode cX3_add 23 = .ok (.getfield 34, 3) := by decide +kernel
theorem dX3_add_26 : decode cX3_add 26 = .ok (.ireturn, 1) := by decide +kernel
theorem dX3_forget_0 : decode cX3_forget 0 = .ok (.aload_n 0, 1) := by decide +kernel
theorem dX3_forget_1 : decode cX3_forget 1 = .ok (.iconst 0, 1) := by decide +kernel
theorem dX3_forget_2 : decode cX3_forget 2 = .ok (.putfield 34, 3) := by decide +kernel
theorem dX3_forget_5 : decode cX3_forget 5 = .ok (.return_, 1) := by decide +kernel
theorem dX3_findFault_0 : decode cX3_findFault 0 = .ok (.aload_n 0, 1) := by decide +kernel
theorem dX3_findFault_1 : decode cX3_findFault 1 = .ok (.iconst 0, 1) := by decide +kernel
theorem dX3_findFault_2 : decode cX3_findFault 2 = .ok (.putfield 27, 3) := by decide +kernel
theorem dX3_findFault_5 : decode cX3_findFault 5 = .ok (.aload_n 0, 1) := by decide +kernel
theorem dX3_findFault_6 : decode cX3_findFault 6 = .ok (.iconst 0, 1) := by decide +kernel
theorem dX3_findFault_7 : decode cX3_findFault 7 = .ok (.putfield 31, 3) := by decide +kernel
theorem dX3_findFault_10 : decode cX3_findFault 10 = .ok (.aload_n 0, 1) := by decide +kernel
theorem dX3_findFault_11 : decode cX3_findFault 11 = .ok (.iconst (-1), 1) := by decide +kernel
theorem dX3_findFault_12 : decode cX3_findFault 12 = .ok (.bipush 49, 2) := by decide +kernel
theorem dX3_findFault_14 : decode cX3_findFault 14 = .ok (.invokevirtual 41, 3) := by decide +kernel
theorem dX3_findFault_17 : decode cX3_findFault 17 = .ok (.iconst 0, 1) := by decide +kernel
theorem dX3_findFault_18 : decode cX3_findFault 18 = .ok (.istore_n 1, 1) := by decide +kernel
theorem dX3_findFault_19 : decode cX3_findFault 19 = .ok (.iload_n 1, 1) := by decide +kernel
theorem dX3_findFault_20 : decode cX3_findFault 20 = .ok (.aload_n 0, 1) := by decide +kernel
theorem dX3_findFault_21 : decode cX3_findFault 21 = .ok (.getfield 34, 3) := by decide +kernel
theorem dX3_findFault_24 : decode cX3_findFault 24 = .ok (.if_icmp .ge 23, 3) := by decide +kernel
theorem dX3_findFault_27 : decode cX3_findFault 27 = .ok (.aload_n 0, 1) := by decide +kernel
theorem dX3_findFault_28 : decode cX3_findFault 28 = .ok (.iload_n 1, 1) := by decide +kernel
theorem dX3_findFault_29 : decode cX3_findFault 29 = .ok (.invokevirtual 45, 3) := by decide +kernel
theorem dX3_findFault_32 : decode cX3_findFault 32 = .ok (.ifCond .ne 9, 3) := by decide +kernel
theorem dX3_findFault_35 : decode cX3_findFault 35 = .ok (.sipush (-1000), 3) := by decide +kernel
theorem dX3_findFault_38 : decode cX3_findFault 38 = .ok (.iload_n 1, 1) := by decide +kernel
theorem dX3_findFault_39 : decode cX3_findFault 39 = .ok (.isub, 1) := by decide +kernel
theorem dX3_findFault_40 : decode cX3_findFault 40 = .ok (.ireturn, 1) := by decide +kernel
theorem dX3_findFault_41 : decode cX3_findFault 41 = .ok (.iinc 1 1, 3) := by decide +kernel
theorem dX3_findFault_44 : decode cX3_findFault 44 = .ok (.goto (-25), 3) := by decide +kernel
theorem dX3_findFault_47 : decode cX3_findFault 47 = .ok (.aload_n 0, 1) := by decide +kernel
theorem dX3_findFault_48 : decode cX3_findFault 48 = .ok (.getfield 27, 3) := by decide +kernel
theorem dX3_findFault_51 : decode cX3_findFault 51 = .ok (.ifCond .le 12, 3) := by decide +kernel
theorem dX3_findFault_54 : decode cX3_findFault 54 = .ok (.sipush (-1000), 3) := by decide +kernel
theorem dX3_findFault_57 : decode cX3_findFault 57 = .ok (.aload_n 0, 1) := by decide +kernel
theorem dX3_findFault_58 : decode cX3_findFault 58 = .ok (.getfield 34, 3) := by decide +kernel
theorem dX3_findFault_61 : decode cX3_findFault 61 = .ok (.isub, 1) := by decide +kernel
theorem dX3_findFault_62 : decode cX3_findFault 62 = .ok (.ireturn, 1) := by decide +kernel
theorem dX3_findFault_63 : decode cX3_findFault 63 = .ok (.aload_n 0, 1) := by decide +kernel
theorem dX3_findFault_64 : decode cX3_findFault 64 = .ok (.invokevirtual 49, 3) := by decide +kernel
theorem dX3_findFault_67 : decode cX3_findFault 67 = .ok (.istore_n 1, 1) := by decide +kernel
theorem dX3_findFault_68 : decode cX3_findFault 68 = .ok (.iload_n 1, 1) := by decide +kernel
theorem dX3_findFault_69 : decode cX3_findFault 69 = .ok (.ifCond .ge 7, 3) := by decide +kernel
theorem dX3_findFault_72 : decode cX3_findFault 72 = .ok (.iconst 0, 1) := by decide +kernel
theorem dX3_findFault_73 : decode cX3_findFault 73 = .ok (.goto 8, 3) := by decide +kernel
theorem dX3_findFault_76 : decode cX3_findFault 76 = .ok (.sipush (-2000), 3) := by decide +kernel
theorem dX3_findFault_79 : decode cX3_findFault 79 = .ok (.iload_n 1, 1) := by decide +kernel
theorem dX3_findFault_80 : decode cX3_findFault 80 = .ok (.isub, 1) := by decide +kernel
theorem dX3_findFault_81 : decode cX3_findFault 81 = .ok (.ireturn, 1) := by decide +kernel
theorem dX3_writeInto_0 : decode cX3_writeInto 0 = .ok (.aload_n 1, 1) := by decide +kernel
theorem dX3_writeInto_1 : decode cX3_writeInto 1 = .ok (.invokevirtual 53, 3) := by decide +kernel
theorem dX3_writeInto_4 : decode cX3_writeInto 4 = .ok (.iconst 0, 1) := by decide +kernel
theorem dX3_writeInto_5 : decode cX3_writeInto 5 = .ok (.istore_n 2, 1) := by decide +kernel
theorem dX3_writeInto_6 : decode cX3_writeInto 6 = .ok (.iload_n 2, 1) := by decide +kernel
theorem dX3_writeInto_7 : decode cX3_writeInto 7 = .ok (.aload_n 0, 1) := by decide +kernel
theorem dX3_writeInto_8 : decode cX3_writeInto 8 = .ok (.getfield 34, 3) := by decide +kernel
theorem dX3_writeInto_11 : decode cX3_writeInto 11 = .ok (.if_icmp .ge 64, 3) := by decide +kernel
theorem dX3_writeInto_14 : decode cX3_writeInto 14 = .ok (.aload_n 0, 1) := by decide +kernel
theorem dX3_writeInto_15 : decode cX3_writeInto 15 = .ok (.getfield 9, 3) := by decide +kernel
theorem dX3_writeInto_18 : decode cX3_writeInto 18 = .ok (.iload_n 2, 1) := by decide +kernel
theorem dX3_writeInto_19 : decode cX3_writeInto 19 = .ok (.invokestatic 58, 3) := by decide +kernel
theorem dX3_writeInto_22 : decode cX3_writeInto 22 = .ok (.istore_n 3, 1) := by decide +kernel
theorem dX3_writeInto_23 : decode cX3_writeInto 23 = .ok (.aload_n 0, 1) := by decide +kernel
theorem dX3_writeInto_24 : decode cX3_writeInto 24 = .ok (.getfield 15, 3) := by decide +kernel
theorem dX3_writeInto_27 : decode cX3_writeInto 27 = .ok (.iload_n 2, 1) := by decide +kernel
theorem dX3_writeInto_28 : decode cX3_writeInto 28 = .ok (.invokestatic 58, 3) := by decide +kernel
theorem dX3_writeInto_31 : decode cX3_writeInto 31 = .ok (.istore 4, 2) := by decide +kernel
theorem dX3_writeInto_33 : decode cX3_writeInto 33 = .ok (.aload_n 0, 1) := by decide +kernel
theorem dX3_writeInto_34 : decode cX3_writeInto 34 = .ok (.getfield 18, 3) := by decide +kernel
theorem dX3_writeInto_37 : decode cX3_writeInto 37 = .ok (.iload_n 2, 1) := by decide +kernel
theorem dX3_writeInto_38 : decode cX3_writeInto 38 = .ok (.invokestatic 58, 3) := by decide +kernel
theorem dX3_writeInto_41 : decode cX3_writeInto 41 = .ok (.istore 5, 2) := by decide +kernel
theorem dX3_writeInto_43 : decode cX3_writeInto 43 = .ok (.iload 5, 2) := by decide +kernel
theorem dX3_writeInto_45 : decode cX3_writeInto 45 = .ok (.bipush 118, 2) := by decide +kernel
theorem dX3_writeInto_47 : decode cX3_writeInto 47 = .ok (.if_icmp .ne 13, 3) := by decide +kernel
theorem dX3_writeInto_50 : decode cX3_writeInto 50 = .ok (.aload_n 1, 1) := by decide +kernel
theorem dX3_writeInto_51 : decode cX3_writeInto 51 = .ok (.iload 4, 2) := by decide +kernel
theorem dX3_writeInto_53 : decode cX3_writeInto 53 = .ok (.iload_n 3, 1) := by decide +kernel
theorem dX3_writeInto_54 : decode cX3_writeInto 54 = .ok (.invokevirtual 62, 3) := by decide +kernel
theorem dX3_writeInto_57 : decode cX3_writeInto 57 = .ok (.goto 12, 3) := by decide +kernel
theorem dX3_writeInto_60 : decode cX3_writeInto 60 = .ok (.aload_n 1, 1) := by decide +kernel
theorem dX3_writeInto_61 : decode cX3_writeInto 61 = .ok (.iload_n 3, 1) := by decide +kernel
theorem dX3_writeInto_62 : decode cX3_writeInto 62 = .ok (.iload 4, 2) := by decide +kernel
theorem dX3_writeInto_64 : decode cX3_writeInto 64 = .ok (.iload 5, 2) := by decide +kernel
theorem dX3_writeInto_66 : decode cX3_writeInto 66 = .ok (.invokevirtual 65, 3) := by decide +kernel
theorem dX3_writeInto_69 : decode cX3_writeInto 69 = .ok (.iinc 2 1, 3) := by decide +kernel
theorem dX3_writeInto_72 : decode cX3_writeInto 72 = .ok (.goto (-66), 3) := by decide +kernel
theorem dX3_writeInto_75 : decode cX3_writeInto 75 = .ok (.return_, 1) := by decide +kernel
theorem dX3_fits_0 : decode cX3_fits 0 = .ok (.aload_n 0, 1) := by decide +kernel
theorem dX3_fits_1 : decode cX3_fits 1 = .ok (.getfield 27, 3) := by decide +kernel
theorem dX3_fits_4 : decode cX3_fits 4 = .ok (.ifCond .gt 5, 3) := by decide +kernel
theorem dX3_fits_7 : decode cX3_fits 7 = .ok (.iconst 0, 1) := by decide +kernel
theorem dX3_fits_8 : decode cX3_fits 8 = .ok (.ireturn, 1) := by decide +kernel
theorem dX3_fits_9 : decode cX3_fits 9 = .ok (.aload_n 0, 1) := by decide +kernel
theorem dX3_fits_10 : decode cX3_fits 10 = .ok (.dup, 1) := by decide +kernel
theorem dX3_fits_11 : decode cX3_fits 11 = .ok (.getfield 27, 3) := by decide +kernel
theorem dX3_fits_14 : decode cX3_fits 14 = .ok (.iconst 1, 1) := by decide +kernel
theorem dX3_fits_15 : decode cX3_fits 15 = .ok (.isub, 1) := by decide +kernel
theorem dX3_fits_16 : decode cX3_fits 16 = .ok (.putfield 27, 3) := by decide +kernel
theorem dX3_fits_19 : decode cX3_fits 19 = .ok (.aload_n 0, 1) := by decide +kernel
theorem dX3_fits_20 : decode cX3_fits 20 = .ok (.getfield 9, 3) := by decide +kernel
theorem dX3_fits_23 : decode cX3_fits 23 = .ok (.iload_n 1, 1) := by decide +kernel
theorem dX3_fits_24 : decode cX3_fits 24 = .ok (.invokestatic 58, 3) := by decide +kernel
theorem dX3_fits_27 : decode cX3_fits 27 = .ok (.istore_n 2, 1) := by decide +kernel
theorem dX3_fits_28 : decode cX3_fits 28 = .ok (.aload_n 0, 1) := by decide +kernel
theorem dX3_fits_29 : decode cX3_fits 29 = .ok (.getfield 24, 3) := by decide +kernel
theorem dX3_fits_32 : decode cX3_fits 32 = .ok (.aload_n 0, 1) := by decide +kernel
theorem dX3_fits_33 : decode cX3_fits 33 = .ok (.getfield 27, 3) := by decide +kernel
theorem dX3_fits_36 : decode cX3_fits 36 = .ok (.invokestatic 58, 3) := by decide +kernel
theorem dX3_fits_39 : decode cX3_fits 39 = .ok (.istore_n 3, 1) := by decide +kernel
theorem dX3_fits_40 : decode cX3_fits 40 = .ok (.aload_n 0, 1) := by decide +kernel
theorem dX3_fits_41 : decode cX3_fits 41 = .ok (.getfield 15, 3) := by decide +kernel
theorem dX3_fits_44 : decode cX3_fits 44 = .ok (.iload_n 1, 1) := by decide +kernel
theorem dX3_fits_45 : decode cX3_fits 45 = .ok (.aload_n 0, 1) := by decide +kernel
theorem dX3_fits_46 : decode cX3_fits 46 = .ok (.getfield 21, 3) := by decide +kernel
theorem dX3_fits_49 : decode cX3_fits 49 = .ok (.aload_n 0, 1) := by decide +kernel
theorem dX3_fits_50 : decode cX3_fits 50 = .ok (.getfield 27, 3) := by decide +kernel
theorem dX3_fits_53 : decode cX3_fits 53 = .ok (.invokestatic 58, 3) := by decide +kernel
theorem dX3_fits_56 : decode cX3_fits 56 = .ok (.invokestatic 37, 3) := by decide +kernel
theorem dX3_fits_59 : decode cX3_fits 59 = .ok (.aload_n 0, 1) := by decide +kernel
theorem dX3_fits_60 : decode cX3_fits 60 = .ok (.getfield 18, 3) := by decide +kernel
theorem dX3_fits_63 : decode cX3_fits 63 = .ok (.iload_n 1, 1) := by decide +kernel
theorem dX3_fits_64 : decode cX3_fits 64 = .ok (.iload_n 3, 1) := by decide +kernel
theorem dX3_fits_65 : decode cX3_fits 65 = .ok (.invokestatic 37, 3) := by decide +kernel
theorem dX3_fits_68 : decode cX3_fits 68 = .ok (.iload_n 3, 1) := by decide +kernel
theorem dX3_fits_69 : decode cX3_fits 69 = .ok (.bipush 118, 2) := by decide +kernel
theorem dX3_fits_71 : decode cX3_fits 71 = .ok (.if_icmp .ne 8, 3) := by decide +kernel
theorem dX3_fits_74 : decode cX3_fits 74 = .ok (.iload_n 2, 1) := by decide +kernel
theorem dX3_fits_75 : decode cX3_fits 75 = .ok (.invokestatic 69, 3) := by decide +kernel
theorem dX3_fits_78 : decode cX3_fits 78 = .ok (.ireturn, 1) := by decide +kernel
theorem dX3_fits_79 : decode cX3_fits 79 = .ok (.iload_n 2, 1) := by decide +kernel
theorem dX3_fits_80 : decode cX3_fits 80 = .ok (.invokestatic 72, 3) := by decide +kernel
theorem dX3_fits_83 : decode cX3_fits 83 = .ok (.ifCond .ne 5, 3) := by decide +kernel
theorem dX3_fits_86 : decode cX3_fits 86 = .ok (.iconst 0, 1) := by decide +kernel
theorem dX3_fits_87 : decode cX3_fits 87 = .ok (.ireturn, 1) := by decide +kernel
theorem dX3_fits_88 : decode cX3_fits 88 = .ok (.iload_n 2, 1) := by decide +kernel
theorem dX3_fits_89 : decode cX3_fits 89 = .ok (.invokestatic 75, 3) := by decide +kernel
theorem dX3_fits_92 : decode cX3_fits 92 = .ok (.astore 4, 2) := by decide +kernel
theorem dX3_fits_94 : decode cX3_fits 94 = .ok (.aload 4, 2) := by decide +kernel
theorem dX3_fits_96 : decode cX3_fits 96 = .ok (.invokevirtual 79, 3) := by decide +kernel
theorem dX3_fits_99 : decode cX3_fits 99 = .ok (.iconst 1, 1) := by decide +kernel
theorem dX3_fits_100 : decode cX3_fits 100 = .ok (.isub, 1) := by decide +kernel
theorem dX3_fits_101 : decode cX3_fits 101 = .ok (.istore 5, 2) := by decide +kernel
theorem dX3_fits_103 : decode cX3_fits 103 = .ok (.iload 5, 2) := by decide +kernel
theorem dX3_fits_105 : decode cX3_fits 105 = .ok (.ifCond .lt 24, 3) := by decide +kernel
theorem dX3_fits_108 : decode cX3_fits 108 = .ok (.aload_n 0, 1) := by decide +kernel
theorem dX3_fits_109 : decode cX3_fits 109 = .ok (.aload_n 0, 1) := by decide +kernel
theorem dX3_fits_110 : decode cX3_fits 110 = .ok (.getfield 31, 3) := by decide +kernel
theorem dX3_fits_113 : decode cX3_fits 113 = .ok (.aload 4, 2) := by decide +kernel
theorem dX3_fits_115 : decode cX3_fits 115 = .ok (.iload 5, 2) := by decide +kernel
theorem dX3_fits_117 : decode cX3_fits 117 = .ok (.invokevirtual 83, 3) := by decide +kernel
theorem dX3_fits_120 : decode cX3_fits 120 = .ok (.invokevirtual 41, 3) := by decide +kernel
theorem dX3_fits_123 : decode cX3_fits 123 = .ok (.iinc 5 (-1), 3) := by decide +kernel
theorem dX3_fits_126 : decode cX3_fits 126 = .ok (.goto (-23), 3) := by decide +kernel
theorem dX3_fits_129 : decode cX3_fits 129 = .ok (.aload_n 0, 1) := by decide +kernel
theorem dX3_fits_130 : decode cX3_fits 130 = .ok (.dup, 1) := by decide +kernel
theorem dX3_fits_131 : decode cX3_fits 131 = .ok (.getfield 31, 3) := by decide +kernel
theorem dX3_fits_134 : decode cX3_fits 134 = .ok (.iconst 1, 1) := by decide +kernel
theorem dX3_fits_135 : decode cX3_fits 135 = .ok (.iadd, 1) := by decide +kernel
theorem dX3_fits_136 : decode cX3_fits 136 = .ok (.putfield 31, 3) := by decide +kernel
theorem dX3_fits_139 : decode cX3_fits 139 = .ok (.iconst 1, 1) := by decide +kernel
theorem dX3_fits_140 : decode cX3_fits 140 = .ok (.ireturn, 1) := by decide +kernel
theorem dX3_await_0 : decode cX3_await 0 = .ok (.aload_n 0, 1) := by decide +kernel
theorem dX3_await_1 : decode cX3_await 1 = .ok (.getfield 21, 3) := by decide +kernel
theorem dX3_await_4 : decode cX3_await 4 = .ok (.aload_n 0, 1) := by decide +kernel
theorem dX3_await_5 : decode cX3_await 5 = .ok (.getfield 27, 3) := by decide +kernel
theorem dX3_await_8 : decode cX3_await 8 = .ok (.iload_n 1, 1) := by decide +kernel
theorem dX3_await_9 : decode cX3_await 9 = .ok (.invokestatic 37, 3) := by decide +kernel
theorem dX3_await_12 : decode cX3_await 12 = .ok (.aload_n 0, 1) := by decide +kernel
theorem dX3_await_13 : decode cX3_await 13 = .ok (.getfield 24, 3) := by decide +kernel
theorem dX3_await_16 : decode cX3_await 16 = .ok (.aload_n 0, 1) := by decide +kernel
theorem dX3_await_17 : decode cX3_await 17 = .ok (.getfield 27, 3) := by decide +kernel
theorem dX3_await_20 : decode cX3_await 20 = .ok (.iload_n 2, 1) := by decide +kernel
theorem dX3_await_21 : decode cX3_await 21 = .ok (.invokestatic 37, 3) := by decide +kernel
theorem dX3_await_24 : decode cX3_await 24 = .ok (.aload_n 0, 1) := by decide +kernel
theorem dX3_await_25 : decode cX3_await 25 = .ok (.dup, 1) := by decide +kernel
theorem dX3_await_26 : decode cX3_await 26 = .ok (.getfield 27, 3) := by decide +kernel
theorem dX3_await_29 : decode cX3_await 29 = .ok (.iconst 1, 1) := by decide +kernel
theorem dX3_await_30 : decode cX3_await 30 = .ok (.iadd, 1) := by decide +kernel
theorem dX3_await_31 : decode cX3_await 31 = .ok (.putfield 27, 3) := by decide +kernel
theorem dX3_await_34 : decode cX3_await 34 = .ok (.return_, 1) := by decide +kernel
theorem dX3_placeBeyondLimits_0 : decode cX3_placeBeyondLimits 0 = .ok (.iconst 0, 1) := by decide +kernel
theorem dX3_placeBeyondLimits_1 : decode cX3_placeBeyondLimits 1 = .ok (.istore_n 1, 1) := by decide +kernel
theorem dX3_placeBeyondLimits_2 : decode cX3_placeBeyondLimits 2 = .ok (.iconst 0, 1) := by decide +kernel
theorem dX3_placeBeyondLimits_3 : decode cX3_placeBeyondLimits 3 = .ok (.istore_n 2, 1) := by decide +kernel
theorem dX3_placeBeyondLimits_4 : decode cX3_placeBeyondLimits 4 = .ok (.iconst 0, 1) := by decide +kernel
theorem dX3_placeBeyondLimits_5 : decode cX3_placeBeyondLimits 5 = .ok (.istore_n 3, 1) := by decide +kernel
theorem dX3_placeBeyondLimits_6 : decode cX3_placeBeyondLimits 6 = .ok (.iload_n 3, 1) := by decide +kernel
theorem dX3_placeBeyondLimits_7 : decode cX3_placeBeyondLimits 7 = .ok (.aload_n 0, 1) := by decide +kernel
theorem dX3_placeBeyondLimits_8 : decode cX3_placeBeyondLimits 8 = .ok (.getfield 34, 3) := by decide +kernel
theorem dX3_placeBeyondLimits_11 : decode cX3_placeBeyondLimits 11 = .ok (.if_icmp .ge 64, 3) := by decide +kernel
theorem dX3_placeBeyondLimits_14 : decode cX3_placeBeyondLimits 14 = .ok (.aload_n 0, 1) := by decide +kernel
theorem dX3_placeBeyondLimits_15 : decode cX3_placeBeyondLimits 15 = .ok (.getfield 18, 3) := by decide +kernel
theorem dX3_placeBeyondLimits_18 : decode cX3_placeBeyondLimits 18 = .ok (.iload_n 3, 1) := by decide +kernel
theorem dX3_placeBeyondLimits_19 : decode cX3_placeBeyondLimits 19 = .ok (.invokestatic 58, 3) := by decide +kernel
theorem dX3_placeBeyondLimits_22 : decode cX3_placeBeyondLimits 22 = .ok (.bipush 118, 2) := by decide +kernel
theorem dX3_placeBeyondLimits_24 : decode cX3_placeBeyondLimits 24 = .ok (.if_icmp .ne 6, 3) := by decide +kernel
theorem dX3_placeBeyondLimits_27 : decode cX3_placeBeyondLimits 27 = .ok (.goto 42, 3) := by decide +kernel
theorem dX3_placeBeyondLimits_30 : decode cX3_placeBeyondLimits 30 = .ok (.iinc 1 1, 3) := by decide +kernel
theorem dX3_placeBeyondLimits_33 : decode cX3_placeBeyondLimits 33 = .ok (.iload_n 2, 1) := by decide +kernel
theorem dX3_placeBeyondLimits_34 : decode cX3_placeBeyondLimits 34 = .ok (.aload_n 0, 1) := by decide +kernel
theorem dX3_placeBeyondLimits_35 : decode cX3_placeBeyondLimits 35 = .ok (.getfield 9, 3) := by decide +kernel
theorem dX3_placeBeyondLimits_38 : decode cX3_placeBeyondLimits 38 = .ok (.iload_n 3, 1) := by decide +kernel
theorem dX3_placeBeyondLimits_39 : decode cX3_placeBeyondLimits 39 = .ok (.invokestatic 58, 3) := by decide +kernel
theorem dX3_placeBeyondLimits_42 : decode cX3_placeBeyondLimits 42 = .ok (.invokestatic 87, 3) := by decide +kernel
theorem dX3_placeBeyondLimits_45 : decode cX3_placeBeyondLimits 45 = .ok (.ifCond .eq 7, 3) := by decide +kernel
theorem dX3_placeBeyondLimits_48 : decode cX3_placeBeyondLimits 48 = .ok (.iconst 1, 1) := by decide +kernel
theorem dX3_placeBeyondLimits_49 : decode cX3_placeBeyondLimits 49 = .ok (.goto 4, 3) := by decide +kernel
theorem dX3_placeBeyondLimits_52 : decode cX3_placeBeyondLimits 52 = .ok (.iconst 0, 1) := by decide +kernel
theorem dX3_placeBeyondLimits_53 : decode cX3_placeBeyondLimits 53 = .ok (.iadd, 1) := by decide +kernel
theorem dX3_placeBeyondLimits_54 : decode cX3_placeBeyondLimits 54 = .ok (.istore_n 2, 1) := by decide +kernel
theorem dX3_placeBeyondLimits_55 : decode cX3_placeBeyondLimits 55 = .ok (.iload_n 1, 1) := by decide +kernel
theorem dX3_placeBeyondLimits_56 : decode cX3_placeBeyondLimits 56 = .ok (.bipush 40, 2) := by decide +kernel
theorem dX3_placeBeyondLimits_58 : decode cX3_placeBeyondLimits 58 = .ok (.if_icmp .gt 9, 3) := by decide +kernel
theorem dX3_placeBeyondLimits_61 : decode cX3_placeBeyondLimits 61 = .ok (.iload_n 2, 1) := by decide +kernel
theorem dX3_placeBeyondLimits_62 : decode cX3_placeBeyondLimits 62 = .ok (.bipush 10, 2) := by decide +kernel
theorem dX3_placeBeyondLimits_64 : decode cX3_placeBeyondLimits 64 = .ok (.if_icmp .le 5, 3) := by decide +kernel
theorem dX3_placeBeyondLimits_67 : decode cX3_placeBeyondLimits 67 = .ok (.iload_n 3, 1) := by decide +kernel
theorem dX3_placeBeyondLimits_68 : decode cX3_placeBeyondLimits 68 = .ok (.ireturn, 1) := by decide +kernel
theorem dX3_placeBeyondLimits_69 : decode cX3_placeBeyondLimits 69 = .ok (.iinc 3 1, 3) := by decide +kernel
theorem dX3_placeBeyondLimits_72 : decode cX3_placeBeyondLimits 72 = .ok (.goto (-66), 3) := by decide +kernel
theorem dX3_placeBeyondLimits_75 : decode cX3_placeBeyondLimits 75 = .ok (.iconst (-1), 1) := by decide +kernel
theorem dX3_placeBeyondLimits_76 : decode cX3_placeBeyondLimits 76 = .ok (.ireturn, 1) := by decide +kernel
theorem dX3_isName_0 : decode cX3_isName 0 = .ok (.iload_n 0, 1) := by decide +kernel
theorem dX3_isName_1 : decode cX3_isName 1 = .ok (.bipush 97, 2) := by decide +kernel
theorem dX3_isName_3 : decode cX3_isName 3 = .ok (.if_icmp .lt 13, 3) := by decide +kernel
theorem dX3_isName_6 : decode cX3_isName 6 = .ok (.iload_n 0, 1) := by decide +kernel
theorem dX3_isName_7 : decode cX3_isName 7 = .ok (.bipush 102, 2) := by decide +kernel
theorem dX3_isName_9 : decode cX3_isName 9 = .ok (.if_icmp .gt 7, 3) := by decide +kernel
theorem dX3_isName_12 : decode cX3_isName 12 = .ok (.iconst 1, 1) := by decide +kernel
theorem dX3_isName_13 : decode cX3_isName 13 = .ok (.goto 4, 3) := by decide +kernel
theorem dX3_isName_16 : decode cX3_isName 16 = .ok (.iconst 0, 1) := by decide +kernel
theorem dX3_isName_17 : decode cX3_isName 17 = .ok (.ireturn, 1) := by decide +kernel
theorem dX3_isDigit_0 : decode cX3_isDigit 0 = .ok (.iload_n 0, 1) := by decide +kernel
theorem dX3_isDigit_1 : decode cX3_isDigit 1 = .ok (.bipush 48, 2) := by decide +kernel
theorem dX3_isDigit_3 : decode cX3_isDigit 3 = .ok (.if_icmp .lt 13, 3) := by decide +kernel
theorem dX3_isDigit_6 : decode cX3_isDigit 6 = .ok (.iload_n 0, 1) := by decide +kernel
theorem dX3_isDigit_7 : decode cX3_isDigit 7 = .ok (.bipush 57, 2) := by decide +kernel
theorem dX3_isDigit_9 : decode cX3_isDigit 9 = .ok (.if_icmp .gt 7, 3) := by decide +kernel
theorem dX3_isDigit_12 : decode cX3_isDigit 12 = .ok (.iconst 1, 1) := by decide +kernel
theorem dX3_isDigit_13 : decode cX3_isDigit 13 = .ok (.goto 4, 3) := by decide +kernel
theorem dX3_isDigit_16 : decode cX3_isDigit 16 = .ok (.iconst 0, 1) := by decide +kernel
theorem dX3_isDigit_17 : decode cX3_isDigit 17 = .ok (.ireturn, 1) := by decide +kernel
theorem dX3_isSite_0 : decode cX3_isSite 0 = .ok (.iload_n 0, 1) := by decide +kernel
theorem dX3_isSite_1 : decode cX3_isSite 1 = .ok (.bipush 112, 2) := by decide +kernel
theorem dX3_isSite_3 : decode cX3_isSite 3 = .ok (.if_icmp .eq 9, 3) := by decide +kernel
theorem dX3_isSite_6 : decode cX3_isSite 6 = .ok (.iload_n 0, 1) := by decide +kernel
theorem dX3_isSite_7 : decode cX3_isSite 7 = .ok (.bipush 113, 2) := by decide +kernel
theorem dX3_isSite_9 : decode cX3_isSite 9 = .ok (.if_icmp .ne 7, 3) := by decide +kernel
theorem dX3_isSite_12 : decode cX3_isSite 12 = .ok (.iconst 1, 1) := by decide +kernel
theorem dX3_isSite_13 : decode cX3_isSite 13 = .ok (.goto 4, 3) := by decide +kernel
theorem dX3_isSite_16 : decode cX3_isSite 16 = .ok (.iconst 0, 1) := by decide +kernel
theorem dX3_isSite_17 : decode cX3_isSite 17 = .ok (.ireturn, 1) := by decide +kernel
theorem dX3_isSign_0 : decode cX3_isSign 0 = .ok (.iload_n 0, 1) := by decide +kernel
theorem dX3_isSign_1 : decode cX3_isSign 1 = .ok (.invokestatic 90, 3) := by decide +kernel
theorem dX3_isSign_4 : decode cX3_isSign 4 = .ok (.ifCond .ne 20, 3) := by decide +kernel
theorem dX3_isSign_7 : decode cX3_isSign 7 = .ok (.iload_n 0, 1) := by decide +kernel
theorem dX3_isSign_8 : decode cX3_isSign 8 = .ok (.invokestatic 69, 3) := by decide +kernel
theorem dX3_isSign_11 : decode cX3_isSign 11 = .ok (.ifCond .ne 13, 3) := by decide +kernel
theorem dX3_isSign_14 : decode cX3_isSign 14 = .ok (.iload_n 0, 1) := by decide +kernel
theorem dX3_isSign_15 : decode cX3_isSign 15 = .ok (.invokestatic 75, 3) := by decide +kernel
theorem dX3_isSign_18 : decode cX3_isSign 18 = .ok (.invokevirtual 93, 3) := by decide +kernel
theorem dX3_isSign_21 : decode cX3_isSign 21 = .ok (.ifCond .ne 7, 3) := by decide +kernel
theorem dX3_isSign_24 : decode cX3_isSign 24 = .ok (.iconst 1, 1) := by decide +kernel
theorem dX3_isSign_25 : decode cX3_isSign 25 = .ok (.goto 4, 3) := by decide +kernel
theorem dX3_isSign_28 : decode cX3_isSign 28 = .ok (.iconst 0, 1) := by decide +kernel
theorem dX3_isSign_29 : decode cX3_isSign 29 = .ok (.ireturn, 1) := by decide +kernel
theorem dX3_partsOf_0 : decode cX3_partsOf 0 = .ok (.iload_n 0, 1) := by decide +kernel
theorem dX3_partsOf_1 : decode cX3_partsOf 1 = .ok (.tableswitch 321 42 113 #[303, 303, 303, 303, 321, 321, 321, 321, 321, 321, 321, 321, 321, 321, 321, 321, 321, 321, 321, 321, 321, 306, 303, 321, 303, 303, 321, 321, 312, 321, 321, 321, 321, 321, 309, 321, 321, 321, 315, 315, 321, 312, 321, 321, 321, 315, 315, 318, 321, 321, 321, 321, 321, 321, 321, 321, 321, 321, 321, 321, 321, 321, 321, 321, 321, 321, 321, 321, 321, 321, 315, 315], 303) := by decide +kernel
theorem dX3_partsOf_304 : decode cX3_partsOf 304 = .ok (.ldc 97, 2) := by decide +kernel
theorem dX3_partsOf_306 : decode cX3_partsOf 306 = .ok (.areturn, 1) := by decide +kernel
theorem dX3_partsOf_307 : decode cX3_partsOf 307 = .ok (.ldc 99, 2) := by decide +kernel
theorem dX3_partsOf_309 : decode cX3_partsOf 309 = .ok (.areturn, 1) := by decide +kernel
theorem dX3_partsOf_310 : decode cX3_partsOf 310 = .ok (.ldc 101, 2) := by decide +kernel
theorem dX3_partsOf_312 : decode cX3_partsOf 312 = .ok (.areturn, 1) := by decide +kernel
theorem dX3_partsOf_313 : decode cX3_partsOf 313 = .ok (.ldc 103, 2) := by decide +kernel
theorem dX3_partsOf_315 : decode cX3_partsOf 315 = .ok (.areturn, 1) := by decide +kernel
theorem dX3_partsOf_316 : decode cX3_partsOf 316 = .ok (.ldc 105, 2) := by decide +kernel
theorem dX3_partsOf_318 : decode cX3_partsOf 318 = .ok (.areturn, 1) := by decide +kernel
theorem dX3_partsOf_319 : decode cX3_partsOf 319 = .ok (.ldc 107, 2) := by decide +kernel
theorem dX3_partsOf_321 : decode cX3_partsOf 321 = .ok (.areturn, 1) := by decide +kernel
theorem dX3_partsOf_322 : decode cX3_partsOf 322 = .ok (.ldc 109, 2) := by decide +kernel
theorem dX3_partsOf_324 : decode cX3_partsOf 324 = .ok (.areturn, 1) := by decide +kernel
theorem dX4_init_0 : decode cX4_init 0 = .ok (.aload_n 0, 1) := by decide +kernel
theorem dX4_init_1 : decode cX4_init 1 = .ok (.invokespecial 3, 3) := by decide +kernel
theorem dX4_init_4 : decode cX4_init 4 = .ok (.aload_n 0, 1) := by decide +kernel
theorem dX4_init_5 : decode cX4_init 5 = .ok (.bipush 6, 2) := by decide +kernel
theorem dX4_init_7 : decode cX4_init 7 = .ok (.newarray .int, 2) := by decide +kernel
theorem dX4_init_9 : decode cX4_init 9 = .ok (.putfield 9, 3) := by decide +kernel
theorem dX4_init_12 : decode cX4_init 12 = .ok (.aload_n 0, 1) := by decide +kernel
theorem dX4_init_13 : decode cX4_init 13 = .ok (.new 15, 3) := by decide +kernel
theorem dX4_init_16 : decode cX4_init 16 = .ok (.dup, 1) := by decide +kernel
theorem dX4_init_17 : decode cX4_init 17 = .ok (.invokespecial 17, 3) := by decide +kernel
theorem dX4_init_20 : decode cX4_init 20 = .ok (.putfield 18, 3) := by decide +kernel
theorem dX4_init_23 : decode cX4_init 23 = .ok (.aload_n 0, 1) := by decide +kernel
theorem dX4_init_24 : decode cX4_init 24 = .ok (.new 22, 3) := by decide +kernel
theorem dX4_init_27 : decode cX4_init 27 = .ok (.dup, 1) := by decide +kernel
theorem dX4_init_28 : decode cX4_init 28 = .ok (.invokespecial 24, 3) := by decide +kernel
theorem dX4_init_31 : decode cX4_init 31 = .ok (.putfield 25, 3) := by decide +kernel
theorem dX4_init_34 : decode cX4_init 34 = .ok (.aload_n 0, 1) := by decide +kernel
theorem dX4_init_35 : decode cX4_init 35 = .ok (.new 29, 3) := by decide +kernel
theorem dX4_init_38 : decode cX4_init 38 = .ok (.dup, 1) := by decide +kernel
theorem dX4_init_39 : decode cX4_init 39 = .ok (.invokespecial 31, 3) := by decide +kernel
theorem dX4_init_42 : decode cX4_init 42 = .ok (.putfield 32, 3) := by decide +kernel
theorem dX4_init_45 : decode cX4_init 45 = .ok (.aload_n 0, 1) := by decide +kernel
theorem dX4_init_46 : decode cX4_init 46 = .ok (.new 36, 3) := by decide +kernel
theorem dX4_init_49 : decode cX4_init 49 = .ok (.dup, 1) := by decide +kernel
theorem dX4_init_50 : decode cX4_init 50 = .ok (.invokespecial 38, 3) := by decide +kernel
theorem dX4_init_53 : decode cX4_init 53 = .ok (.putfield 39, 3) := by decide +kernel
theorem dX4_init_56 : decode cX4_init 56 = .ok (.aload_n 0, 1) := by decide +kernel
theorem dX4_init_57 : decode cX4_init 57 = .ok (.new 43, 3) := by decide +kernel
theorem dX4_init_60 : decode cX4_init 60 = .ok (.dup, 1) := by decide +kernel
theorem dX4_init_61 : decode cX4_init 61 = .ok (.invokespecial 45, 3) := by decide +kernel
theorem dX4_init_64 : decode cX4_init 64 = .ok (.putfield 46, 3) := by decide +kernel
theorem dX4_init_67 : decode cX4_init 67 = .ok (.aload_n 0, 1) := by decide +kernel
theorem dX4_init_68 : decode cX4_init 68 = .ok (.new 50, 3) := by decide +kernel
theorem dX4_init_71 : decode cX4_init 71 = .ok (.dup, 1) := by decide +kernel
theorem dX4_init_72 : decode cX4_init 72 = .ok (.invokespecial 52, 3) := by decide +kernel
theorem dX4_init_75 : decode cX4_init 75 = .ok (.putfield 53, 3) := by decide +kernel
theorem dX4_init_78 : decode cX4_init 78 = .ok (.aload_n 0, 1) := by decide +kernel
theorem dX4_init_79 : decode cX4_init 79 = .ok (.iconst 3, 1) := by decide +kernel
theorem dX4_init_80 : decode cX4_init 80 = .ok (.putfield 57, 3) := by decide +kernel
theorem dX4_init_83 : decode cX4_init 83 = .ok (.aload_n 0, 1) := by decide +kernel
theorem dX4_init_84 : decode cX4_init 84 = .ok (.iconst 0, 1) := by decide +kernel
theorem dX4_init_85 : decode cX4_init 85 = .ok (.putfield 61, 3) := by decide +kernel
theorem dX4_init_88 : decode cX4_init 88 = .ok (.aload_n 0, 1) := by decide +kernel
theorem dX4_init_89 : decode cX4_init 89 = .ok (.iconst (-1), 1) := by decide +kernel
theorem dX4_init_90 : decode cX4_init 90 = .ok (.putfield 64, 3) := by decide +kernel
theorem dX4_init_93 : decode cX4_init 93 = .ok (.aload_n 0, 1) := by decide +kernel
theorem dX4_init_94 : decode cX4_init 94 = .ok (.iconst 0, 1) := by decide +kernel
theorem dX4_init_95 : decode cX4_init 95 = .ok (.putfield 67, 3) := by decide +kernel
theorem dX4_init_98 : decode cX4_init 98 = .ok (.aload_n 0, 1) := by decide +kernel
theorem dX4_init_99 : decode cX4_init 99 = .ok (.iconst 0, 1) := by decide +kernel
theorem dX4_init_100 : decode cX4_init 100 = .ok (.putfield 70, 3) := by decide +kernel
theorem dX4_init_103 : decode cX4_init 103 = .ok (.aload_n 0, 1) := by decide +kernel
theorem dX4_init_104 : decode cX4_init 104 = .ok (.iconst 0, 1) := by decide +kernel
theorem dX4_init_105 : decode cX4_init 105 = .ok (.putfield 73, 3) := by decide +kernel
theorem dX4_init_108 : decode cX4_init 108 = .ok (.return_, 1) := by decide +kernel
theorem dX4_takeUp_0 : decode cX4_takeUp 0 = .ok (.aload_n 0, 1) := by decide +kernel
theorem dX4_takeUp_1 : decode cX4_takeUp 1 = .ok (.aload_n 1, 1) := by decide +kernel
theorem dX4_takeUp_2 : decode cX4_takeUp 2 = .ok (.getfield 77, 3) := by decide +kernel
theorem dX4_takeUp_5 : decode cX4_takeUp 5 = .ok (.putfield 53, 3) := by decide +kernel
theorem dX4_takeUp_8 : decode cX4_takeUp 8 = .ok (.aload_n 1, 1) := by decide +kernel
theorem dX4_takeUp_9 : decode cX4_takeUp 9 = .ok (.getfield 80, 3) := by decide +kernel
theorem dX4_takeUp_12 : decode cX4_takeUp 12 = .ok (.aload_n 0, 1) := by decide +kernel
theorem dX4_takeUp_13 : decode cX4_takeUp 13 = .ok (.getfield 9, 3) := by decide +kernel
theorem dX4_takeUp_16 : decode cX4_takeUp 16 = .ok (.invokestatic 81, 3) := by decide +kernel
theorem dX4_takeUp_19 : decode cX4_takeUp 19 = .ok (.aload_n 0, 1) := by decide +kernel
theorem dX4_takeUp_20 : decode cX4_takeUp 20 = .ok (.getfield 18, 3) := by decide +kernel
theorem dX4_takeUp_23 : decode cX4_takeUp 23 = .ok (.aload_n 1, 1) := by decide +kernel
theorem dX4_takeUp_24 : decode cX4_takeUp 24 = .ok (.getfield 85, 3) := by decide +kernel
theorem dX4_takeUp_27 : decode cX4_takeUp 27 = .ok (.invokevirtual 86, 3) := by decide +kernel
theorem dX4_takeUp_30 : decode cX4_takeUp 30 = .ok (.return_, 1) := by decide +kernel
theorem dX4_perform_0 : decode cX4_perform 0 = .ok (.aload_n 0, 1) := by decide +kernel
theorem dX4_perform_1 : decode cX4_perform 1 = .ok (.invokevirtual 90, 3) := by decide +kernel
theorem dX4_perform_4 : decode cX4_perform 4 = .ok (.iconst 0, 1) := by decide +kernel
theorem dX4_perform_5 : decode cX4_perform 5 = .ok (.istore_n 1, 1) := by decide +kernel
theorem dX4_perform_6 : decode cX4_perform 6 = .ok (.iload_n 1, 1) := by decide +kernel
theorem dX4_perform_7 : decode cX4_perform 7 = .ok (.ldc 93, 2) := by decide +kernel
theorem dX4_perform_9 : decode cX4_perform 9 = .ok (.if_icmp .ge 50, 3) := by decide +kernel
theorem dX4_perform_12 : decode cX4_perform 12 = .ok (.aload_n 0, 1) := by decide +kernel
theorem dX4_perform_13 : decode cX4_perform 13 = .ok (.getfield 57, 3) := by decide +kernel
theorem dX4_perform_16 : decode cX4_perform 16 = .ok (.iconst 3, 1) := by decide +kernel
theorem dX4_perform_17 : decode cX4_perform 17 = .ok (.if_icmp .eq 42, 3) := by decide +kernel
theorem dX4_perform_20 : decode cX4_perform 20 = .ok (.aload_n 0, 1) := by decide +kernel
theorem dX4_perform_21 : decode cX4_perform 21 = .ok (.getfield 57, 3) := by decide +kernel
theorem dX4_perform_24 : decode cX4_perform 24 = .ok (.ifCond .ne 10, 3) := by decide +kernel
theorem dX4_perform_27 : decode cX4_perform 27 = .ok (.aload_n 0, 1) := by decide +kernel
theorem dX4_perform_28 : decode cX4_perform 28 = .ok (.invokevirtual 94, 3) := by decide +kernel
theorem dX4_perform_31 : decode cX4_perform 31 = .ok (.goto 22, 3) := by decide +kernel
theorem dX4_perform_34 : decode cX4_perform 34 = .ok (.aload_n 0, 1) := by decide +kernel
theorem dX4_perform_35 : decode cX4_perform 35 = .ok (.getfield 57, 3) := by decide +kernel
theorem dX4_perform_38 : decode cX4_perform 38 = .ok (.iconst 1, 1) := by decide +kernel
theorem dX4_perform_39 : decode cX4_perform 39 = .ok (.if_icmp .ne 10, 3) := by decide +kernel
theorem dX4_perform_42 : decode cX4_perform 42 = .ok (.aload_n 0, 1) := by decide +kernel
theorem dX4_perform_43 : decode cX4_perform 43 = .ok (.invokevirtual 97, 3) := by decide +kernel
theorem dX4_perform_46 : decode cX4_perform 46 = .ok (.goto 7, 3) := by decide +kernel
theorem dX4_perform_49 : decode cX4_perform 49 = .ok (.aload_n 0, 1) := by decide +kernel
theorem dX4_perform_50 : decode cX4_perform 50 = .ok (.invokevirtual 100, 3) := by decide +kernel
theorem dX4_perform_53 : decode cX4_perform 53 = .ok (.iinc 1 1, 3) := by decide +kernel
theorem dX4_perform_56 : decode cX4_perform 56 = .ok (.goto (-50), 3) := by decide +kernel
theorem dX4_perform_59 : decode cX4_perform 59 = .ok (.aload_n 0, 1) := by decide +kernel
theorem dX4_perform_60 : decode cX4_perform 60 = .ok (.invokevirtual 103, 3) := by decide +kernel
theorem dX4_perform_63 : decode cX4_perform 63 = .ok (.aload_n 0, 1) := by decide +kernel
theorem dX4_perform_64 : decode cX4_perform 64 = .ok (.getfield 25, 3) := by decide +kernel
theorem dX4_perform_67 : decode cX4_perform 67 = .ok (.areturn, 1) := by decide +kernel
theorem dX4_start_0 : decode cX4_start 0 = .ok (.aload_n 0, 1) := by decide +kernel
theorem dX4_start_1 : decode cX4_start 1 = .ok (.getfield 32, 3) := by decide +kernel
theorem dX4_start_4 : decode cX4_start 4 = .ok (.invokevirtual 106, 3) := by decide +kernel
theorem dX4_start_7 : decode cX4_start 7 = .ok (.aload_n 0, 1) := by decide +kernel
theorem dX4_start_8 : decode cX4_start 8 = .ok (.getfield 39, 3) := by decide +kernel
theorem dX4_start_11 : decode cX4_start 11 = .ok (.invokevirtual 109, 3) := by decide +kernel
theorem dX4_start_14 : decode cX4_start 14 = .ok (.aload_n 0, 1) := by decide +kernel
theorem dX4_start_15 : decode cX4_start 15 = .ok (.getfield 46, 3) := by decide +kernel
theorem dX4_start_18 : decode cX4_start 18 = .ok (.invokevirtual 110, 3) := by decide +kernel
theorem dX4_start_21 : decode cX4_start 21 = .ok (.aload_n 0, 1) := by decide +kernel
theorem dX4_start_22 : decode cX4_start 22 = .ok (.invokevirtual 111, 3) := by decide +kernel
theorem dX4_start_25 : decode cX4_start 25 = .ok (.aload_n 0, 1) := by decide +kernel
theorem dX4_start_26 : decode cX4_start 26 = .ok (.iconst 0, 1) := by decide +kernel
theorem dX4_start_27 : decode cX4_start 27 = .ok (.putfield 70, 3) := by decide +kernel
theorem dX4_start_30 : decode cX4_start 30 = .ok (.aload_n 0, 1) := by decide +kernel
theorem dX4_start_31 : decode cX4_start 31 = .ok (.getfield 25, 3) := by decide +kernel
theorem dX4_start_34 : decode cX4_start 34 = .ok (.iconst 0, 1) := by decide +kernel
theorem dX4_start_35 : decode cX4_start 35 = .ok (.putfield 114, 3) := by decide +kernel
theorem dX4_start_38 : decode cX4_start 38 = .ok (.aload_n 0, 1) := by decide +kernel
theorem dX4_start_39 : decode cX4_start 39 = .ok (.getfield 25, 3) := by decide +kernel
theorem dX4_start_42 : decode cX4_start 42 = .ok (.iconst 0, 1) := by decide +kernel
theorem dX4_start_43 : decode cX4_start 43 = .ok (.putfield 117, 3) := by decide +kernel
theorem dX4_start_46 : decode cX4_start 46 = .ok (.aload_n 0, 1) := by decide +kernel
theorem dX4_start_47 : decode cX4_start 47 = .ok (.getfield 25, 3) := by decide +kernel
theorem dX4_start_50 : decode cX4_start 50 = .ok (.iconst 0, 1) := by decide +kernel
theorem dX4_start_51 : decode cX4_start 51 = .ok (.putfield 120, 3) := by decide +kernel
theorem dX4_start_54 : decode cX4_start 54 = .ok (.aload_n 0, 1) := by decide +kernel
theorem dX4_start_55 : decode cX4_start 55 = .ok (.iconst 0, 1) := by decide +kernel
theorem dX4_start_56 : decode cX4_start 56 = .ok (.iconst (-1), 1) := by decide +kernel
theorem dX4_start_57 : decode cX4_start 57 = .ok (.invokevirtual 123, 3) := by decide +kernel
theorem dX4_start_60 : decode cX4_start 60 = .ok (.return_, 1) := by decide +kernel
theorem dX4_tellEnding_0 : decode cX4_tellEnding 0 = .ok (.aload_n 0, 1) := by decide +kernel
theorem dX4_tellEnding_1 : decode cX4_tellEnding 1 = .ok (.getfield 73, 3) := by decide +kernel
theorem dX4_tellEnding_4 : decode cX4_tellEnding 4 = .ok (.ifCond .eq 29, 3) := by decide +kernel
theorem dX4_tellEnding_7 : decode cX4_tellEnding 7 = .ok (.aload_n 0, 1) := by decide +kernel
theorem dX4_tellEnding_8 : decode cX4_tellEnding 8 = .ok (.getfield 25, 3) := by decide +kernel
theorem dX4_tellEnding_11 : decode cX4_tellEnding 11 = .ok (.iconst 3, 1) := by decide +kernel
theorem dX4_tellEnding_12 : decode cX4_tellEnding 12 = .ok (.putfield 127, 3) := by decide +kernel
theorem dX4_tellEnding_15 : decode cX4_tellEnding 15 = .ok (.aload_n 0, 1) := by decide +kernel
theorem dX4_tellEnding_16 : decode cX4_tellEnding 16 = .ok (.getfield 25, 3) := by decide +kernel
theorem dX4_tellEnding_19 : decode cX4_tellEnding 19 = .ok (.aload_n 0, 1) := by decide +kernel
theorem dX4_tellEnding_20 : decode cX4_tellEnding 20 = .ok (.getfield 25, 3) := by decide +kernel
theorem dX4_tellEnding_23 : decode cX4_tellEnding 23 = .ok (.iconst 0, 1) := by decide +kernel
theorem dX4_tellEnding_24 : decode cX4_tellEnding 24 = .ok (.invokevirtual 130, 3) := by decide +kernel
theorem dX4_tellEnding_27 : decode cX4_tellEnding 27 = .ok (.putfield 134, 3) := by decide +kernel
theorem dX4_tellEnding_30 : decode cX4_tellEnding 30 = .ok (.goto 111, 3) := by decide +kernel
theorem dX4_tellEnding_33 : decode cX4_tellEnding 33 = .ok (.aload_n 0, 1) := by decide +kernel
theorem dX4_tellEnding_34 : decode cX4_tellEnding 34 = .ok (.getfield 67, 3) := by decide +kernel
theorem dX4_tellEnding_37 : decode cX4_tellEnding 37 = .ok (.invokestatic 137, 3) := by decide +kernel
theorem dX4_tellEnding_40 : decode cX4_tellEnding 40 = .ok (.ifCond .eq 25, 3) := by decide +kernel
theorem dX4_tellEnding_43 : decode cX4_tellEnding 43 = .ok (.aload_n 0, 1) := by decide +kernel
theorem dX4_tellEnding_44 : decode cX4_tellEnding 44 = .ok (.getfield 25, 3) := by decide +kernel
theorem dX4_tellEnding_47 : decode cX4_tellEnding 47 = .ok (.iconst 0, 1) := by decide +kernel
theorem dX4_tellEnding_48 : decode cX4_tellEnding 48 = .ok (.putfield 127, 3) := by decide +kernel
theorem dX4_tellEnding_51 : decode cX4_tellEnding 51 = .ok (.aload_n 0, 1) := by decide +kernel
theorem dX4_tellEnding_52 : decode cX4_tellEnding 52 = .ok (.getfield 25, 3) := by decide +kernel
theorem dX4_tellEnding_55 : decode cX4_tellEnding 55 = .ok (.aload_n 0, 1) := by decide +kernel
theorem dX4_tellEnding_56 : decode cX4_tellEnding 56 = .ok (.getfield 67, 3) := by decide +kernel
theorem dX4_tellEnding_59 : decode cX4_tellEnding 59 = .ok (.putfield 134, 3) := by decide +kernel
theorem dX4_tellEnding_62 : decode cX4_tellEnding 62 = .ok (.goto 79, 3) := by decide +kernel
theorem dX4_tellEnding_65 : decode cX4_tellEnding 65 = .ok (.aload_n 0, 1) := by decide +kernel
theorem dX4_tellEnding_66 : decode cX4_tellEnding 66 = .ok (.getfield 39, 3) := by decide +kernel
theorem dX4_tellEnding_69 : decode cX4_tellEnding 69 = .ok (.aload_n 0, 1) := by decide +kernel
theorem dX4_tellEnding_70 : decode cX4_tellEnding 70 = .ok (.getfield 67, 3) := by decide +kernel
theorem dX4_tellEnding_73 : decode cX4_tellEnding 73 = .ok (.invokevirtual 141, 3) := by decide +kernel
theorem dX4_tellEnding_76 : decode cX4_tellEnding 76 = .ok (.ifCond .eq 39, 3) := by decide +kernel
theorem dX4_tellEnding_79 : decode cX4_tellEnding 79 = .ok (.aload_n 0, 1) := by decide +kernel
theorem dX4_tellEnding_80 : decode cX4_tellEnding 80 = .ok (.getfield 25, 3) := by decide +kernel
theorem dX4_tellEnding_83 : decode cX4_tellEnding 83 = .ok (.iconst 1, 1) := by decide +kernel
theorem dX4_tellEnding_84 : decode cX4_tellEnding 84 = .ok (.putfield 127, 3) := by decide +kernel
theorem dX4_tellEnding_87 : decode cX4_tellEnding 87 = .ok (.aload_n 0, 1) := by decide +kernel
theorem dX4_tellEnding_88 : decode cX4_tellEnding 88 = .ok (.getfield 25, 3) := by decide +kernel
theorem dX4_tellEnding_91 : decode cX4_tellEnding 91 = .ok (.aload_n 0, 1) := by decide +kernel
theorem dX4_tellEnding_92 : decode cX4_tellEnding 92 = .ok (.getfield 53, 3) := by decide +kernel
theorem dX4_tellEnding_95 : decode cX4_tellEnding 95 = .ok (.aload_n 0, 1) := by decide +kernel
theorem dX4_tellEnding_96 : decode cX4_tellEnding 96 = .ok (.getfield 39, 3) := by decide +kernel
theorem dX4_tellEnding_99 : decode cX4_tellEnding 99 = .ok (.aload_n 0, 1) := by decide +kernel
theorem dX4_tellEnding_100 : decode cX4_tellEnding 100 = .ok (.getfield 67, 3) := by decide +kernel
theorem dX4_tellEnding_103 : decode cX4_tellEnding 103 = .ok (.invokevirtual 144, 3) := by decide +kernel
theorem dX4_tellEnding_106 : decode cX4_tellEnding 106 = .ok (.invokevirtual 147, 3) := by decide +kernel
theorem dX4_tellEnding_109 : decode cX4_tellEnding 109 = .ok (.putfield 134, 3) := by decide +kernel
theorem dX4_tellEnding_112 : decode cX4_tellEnding 112 = .ok (.goto 29, 3) := by decide +kernel
theorem dX4_tellEnding_115 : decode cX4_tellEnding 115 = .ok (.aload_n 0, 1) := by decide +kernel
theorem dX4_tellEnding_116 : decode cX4_tellEnding 116 = .ok (.getfield 25, 3) := by decide +kernel
theorem dX4_tellEnding_119 : decode cX4_tellEnding 119 = .ok (.iconst 2, 1) := by decide +kernel
theorem dX4_tellEnding_120 : decode cX4_tellEnding 120 = .ok (.putfield 127, 3) := by decide +kernel
theorem dX4_tellEnding_123 : decode cX4_tellEnding 123 = .ok (.aload_n 0, 1) := by decide +kernel
theorem dX4_tellEnding_124 : decode cX4_tellEnding 124 = .ok (.getfield 25, 3) := by decide +kernel
theorem dX4_tellEnding_127 : decode cX4_tellEnding 127 = .ok (.aload_n 0, 1) := by decide +kernel
theorem dX4_tellEnding_128 : decode cX4_tellEnding 128 = .ok (.getfield 39, 3) := by decide +kernel
theorem dX4_tellEnding_131 : decode cX4_tellEnding 131 = .ok (.aload_n 0, 1) := by decide +kernel
theorem dX4_tellEnding_132 : decode cX4_tellEnding 132 = .ok (.getfield 67, 3) := by decide +kernel
theorem dX4_tellEnding_135 : decode cX4_tellEnding 135 = .ok (.invokevirtual 150, 3) := by decide +kernel
theorem dX4_tellEnding_138 : decode cX4_tellEnding 138 = .ok (.putfield 134, 3) := by decide +kernel
theorem dX4_tellEnding_141 : decode cX4_tellEnding 141 = .ok (.return_, 1) := by decide +kernel
theorem dX4_begin_0 : decode cX4_begin 0 = .ok (.aload_n 0, 1) := by decide +kernel
theorem dX4_begin_1 : decode cX4_begin 1 = .ok (.iconst 0, 1) := by decide +kernel
theorem dX4_begin_2 : decode cX4_begin 2 = .ok (.putfield 57, 3) := by decide +kernel
theorem dX4_begin_5 : decode cX4_begin 5 = .ok (.aload_n 0, 1) := by decide +kernel
theorem dX4_begin_6 : decode cX4_begin 6 = .ok (.iload_n 1, 1) := by decide +kernel
theorem dX4_begin_7 : decode cX4_begin 7 = .ok (.putfield 61, 3) := by decide +kernel
theorem dX4_begin_10 : decode cX4_begin 10 = .ok (.aload_n 0, 1) := by decide +kernel
theorem dX4_begin_11 : decode cX4_begin 11 = .ok (.iload_n 2, 1) := by decide +kernel
theorem dX4_begin_12 : decode cX4_begin 12 = .ok (.putfield 64, 3) := by decide +kernel
theorem dX4_begin_15 : decode cX4_begin 15 = .ok (.return_, 1) := by decide +kernel
theorem dX4_give_0 : decode cX4_give 0 = .ok (.aload_n 0, 1) := by decide +kernel
theorem dX4_give_1 : decode cX4_give 1 = .ok (.iconst 1, 1) := by decide +kernel
theorem dX4_give_2 : decode cX4_give 2 = .ok (.putfield 57, 3) := by decide +kernel
theorem dX4_give_5 : decode cX4_give 5 = .ok (.aload_n 0, 1) := by decide +kernel
theorem dX4_give_6 : decode cX4_give 6 = .ok (.iload_n 1, 1) := by decide +kernel
theorem dX4_give_7 : decode cX4_give 7 = .ok (.putfield 67, 3) := by decide +kernel
theorem dX4_give_10 : decode cX4_give 10 = .ok (.return_, 1) := by decide +kernel
theorem dX4_fail_0 : decode cX4_fail 0 = .ok (.aload_n 0, 1) := by decide +kernel
theorem dX4_fail_1 : decode cX4_fail 1 = .ok (.iconst 2, 1) := by decide +kernel
theorem dX4_fail_2 : decode cX4_fail 2 = .ok (.putfield 57, 3) := by decide +kernel
theorem dX4_fail_5 : decode cX4_fail 5 = .ok (.aload_n 0, 1) := by decide +kernel
theorem dX4_fail_6 : decode cX4_fail 6 = .ok (.iconst 1, 1) := by decide +kernel
theorem dX4_fail_7 : decode cX4_fail 7 = .ok (.putfield 73, 3) := by decide +kernel
theorem dX4_fail_10 : decode cX4_fail 10 = .ok (.aload_n 0, 1) := by decide +kernel
theorem dX4_fail_11 : decode cX4_fail 11 = .ok (.getfield 25, 3) := by decide +kernel
theorem dX4_fail_14 : decode cX4_fail 14 = .ok (.iconst 0, 1) := by decide +kernel
theorem dX4_fail_15 : decode cX4_fail 15 = .ok (.putfield 153, 3) := by decide +kernel
theorem dX4_fail_18 : decode cX4_fail 18 = .ok (.aload_n 0, 1) := by decide +kernel
theorem dX4_fail_19 : decode cX4_fail 19 = .ok (.getfield 25, 3) := by decide +kernel
theorem dX4_fail_22 : decode cX4_fail 22 = .ok (.iload_n 1, 1) := by decide +kernel
theorem dX4_fail_23 : decode cX4_fail 23 = .ok (.putfield 156, 3) := by decide +kernel
theorem dX4_fail_26 : decode cX4_fail 26 = .ok (.return_, 1) := by decide +kernel
theorem dX4_beginExpression_0 : decode cX4_beginExpression 0 = .ok (.aload_n 0, 1) := by decide +kernel
theorem dX4_beginExpression_1 : decode cX4_beginExpression 1 = .ok (.getfield 25, 3) := by decide +kernel
theorem dX4_beginExpression_4 : decode cX4_beginExpression 4 = .ok (.getfield 114, 3) := by decide +kernel
theorem dX4_beginExpression_7 : decode cX4_beginExpression 7 = .ok (.sipush 400, 3) := by decide +kernel
theorem dX4_beginExpression_10 : decode cX4_beginExpression 10 = .ok (.if_icmp .lt 10, 3) := by decide +kernel
theorem dX4_beginExpression_13 : decode cX4_beginExpression 13 = .ok (.aload_n 0, 1) := by decide +kernel
theorem dX4_beginExpression_14 : decode cX4_beginExpression 14 = .ok (.bipush 6, 2) := by decide +kernel
theorem dX4_beginExpression_16 : decode cX4_beginExpression 16 = .ok (.invokevirtual 159, 3) := by decide +kernel
theorem dX4_beginExpression_19 : decode cX4_beginExpression 19 = .ok (.return_, 1) := by decide +kernel
theorem dX4_beginExpression_20 : decode cX4_beginExpression 20 = .ok (.aload_n 0, 1) := by decide +kernel
theorem dX4_beginExpression_21 : decode cX4_beginExpression 21 = .ok (.getfield 25, 3) := by decide +kernel
theorem dX4_beginExpression_24 : decode cX4_beginExpression 24 = .ok (.dup, 1) := by decide +kernel
theorem dX4_beginExpression_25 : decode cX4_beginExpression 25 = .ok (.getfield 114, 3) := by decide +kernel
theorem dX4_beginExpression_28 : decode cX4_beginExpression 28 = .ok (.iconst 1, 1) := by decide +kernel
theorem dX4_beginExpression_29 : decode cX4_beginExpression 29 = .ok (.iadd, 1) := by decide +kernel
theorem dX4_beginExpression_30 : decode cX4_beginExpression 30 = .ok (.putfield 114, 3) := by decide +kernel
theorem dX4_beginExpression_33 : decode cX4_beginExpression 33 = .ok (.aload_n 0, 1) := by decide +kernel
theorem dX4_beginExpression_34 : decode cX4_beginExpression 34 = .ok (.getfield 53, 3) := by decide +kernel
theorem dX4_beginExpression_37 : decode cX4_beginExpression 37 = .ok (.aload_n 0, 1) := by decide +kernel
theorem dX4_beginExpression_38 : decode cX4_beginExpression 38 = .ok (.getfield 61, 3) := by decide +kernel
theorem dX4_beginExpression_41 : decode cX4_beginExpression 41 = .ok (.invokevirtual 163, 3) := by decide +kernel
theorem dX4_beginExpression_44 : decode cX4_beginExpression 44 = .ok (.istore_n 1, 1) := by decide +kernel
theorem dX4_beginExpression_45 : decode cX4_beginExpression 45 = .ok (.iload_n 1, 1) := by decide +kernel
theorem dX4_beginExpression_46 : decode cX4_beginExpression 46 = .ok (.invokestatic 166, 3) := by decide +kernel
theorem dX4_beginExpression_49 : decode cX4_beginExpression 49 = .ok (.ifCond .eq 14, 3) := by decide +kernel
theorem dX4_beginExpression_52 : decode cX4_beginExpression 52 = .ok (.aload_n 0, 1) := by decide +kernel
theorem dX4_beginExpression_53 : decode cX4_beginExpression 53 = .ok (.iload_n 1, 1) := by decide +kernel
theorem dX4_beginExpression_54 : decode cX4_beginExpression 54 = .ok (.bipush 48, 2) := by decide +kernel
theorem dX4_beginExpression_56 : decode cX4_beginExpression 56 = .ok (.isub, 1) := by decide +kernel
theorem dX4_beginExpression_57 : decode cX4_beginExpression 57 = .ok (.invokevirtual 171, 3) := by decide +kernel
theorem dX4_beginExpression_60 : decode cX4_beginExpression 60 = .ok (.goto 101, 3) := by decide +kernel
theorem dX4_beginExpression_63 : decode cX4_beginExpression 63 = .ok (.iload_n 1, 1) := by decide +kernel
theorem dX4_beginExpression_64 : decode cX4_beginExpression 64 = .ok (.invokestatic 174, 3) := by decide +kernel
theorem dX4_beginExpression_67 : decode cX4_beginExpression 67 = .ok (.ifCond .eq 29, 3) := by decide +kernel
theorem dX4_beginExpression_70 : decode cX4_beginExpression 70 = .ok (.aload_n 0, 1) := by decide +kernel
theorem dX4_beginExpression_71 : decode cX4_beginExpression 71 = .ok (.aload_n 0, 1) := by decide +kernel
theorem dX4_beginExpression_72 : decode cX4_beginExpression 72 = .ok (.aload_n 0, 1) := by decide +kernel
theorem dX4_beginExpression_73 : decode cX4_beginExpression 73 = .ok (.getfield 53, 3) := by decide +kernel
theorem dX4_beginExpression_76 : decode cX4_beginExpression 76 = .ok (.aload_n 0, 1) := by decide +kernel
theorem dX4_beginExpression_77 : decode cX4_beginExpression 77 = .ok (.getfield 61, 3) := by decide +kernel
theorem dX4_beginExpression_80 : decode cX4_beginExpression 80 = .ok (.invokevirtual 147, 3) := by decide +kernel
theorem dX4_beginExpression_83 : decode cX4_beginExpression 83 = .ok (.aload_n 0, 1) := by decide +kernel
theorem dX4_beginExpression_84 : decode cX4_beginExpression 84 = .ok (.getfield 64, 3) := by decide +kernel
theorem dX4_beginExpression_87 : decode cX4_beginExpression 87 = .ok (.invokevirtual 177, 3) := by decide +kernel
theorem dX4_beginExpression_90 : decode cX4_beginExpression 90 = .ok (.invokevirtual 171, 3) := by decide +kernel
theorem dX4_beginExpression_93 : decode cX4_beginExpression 93 = .ok (.goto 68, 3) := by decide +kernel
theorem dX4_beginExpression_96 : decode cX4_beginExpression 96 = .ok (.iload_n 1, 1) := by decide +kernel
theorem dX4_beginExpression_97 : decode cX4_beginExpression 97 = .ok (.bipush 70, 2) := by decide +kernel
theorem dX4_beginExpression_99 : decode cX4_beginExpression 99 = .ok (.if_icmp .ne 26, 3) := by decide +kernel
theorem dX4_beginExpression_102 : decode cX4_beginExpression 102 = .ok (.aload_n 0, 1) := by decide +kernel
theorem dX4_beginExpression_103 : decode cX4_beginExpression 103 = .ok (.aload_n 0, 1) := by decide +kernel
theorem dX4_beginExpression_104 : decode cX4_beginExpression 104 = .ok (.getfield 39, 3) := by decide +kernel
theorem dX4_beginExpression_107 : decode cX4_beginExpression 107 = .ok (.iconst 4, 1) := by decide +kernel
theorem dX4_beginExpression_108 : decode cX4_beginExpression 108 = .ok (.aload_n 0, 1) := by decide +kernel
theorem dX4_beginExpression_109 : decode cX4_beginExpression 109 = .ok (.getfield 61, 3) := by decide +kernel
theorem dX4_beginExpression_112 : decode cX4_beginExpression 112 = .ok (.aload_n 0, 1) := by decide +kernel
theorem dX4_beginExpression_113 : decode cX4_beginExpression 113 = .ok (.getfield 64, 3) := by decide +kernel
theorem dX4_beginExpression_116 : decode cX4_beginExpression 116 = .ok (.invokevirtual 181, 3) := by decide +kernel
theorem dX4_beginExpression_119 : decode cX4_beginExpression 119 = .ok (.invokevirtual 171, 3) := by decide +kernel
theorem dX4_beginExpression_122 : decode cX4_beginExpression 122 = .ok (.goto 39, 3) := by decide +kernel
theorem dX4_beginExpression_125 : decode cX4_beginExpression 125 = .ok (.aload_n 0, 1) := by decide +kernel
theorem dX4_beginExpression_126 : decode cX4_beginExpression 126 = .ok (.getfield 46, 3) := by decide +kernel
theorem dX4_beginExpression_129 : decode cX4_beginExpression 129 = .ok (.aload_n 0, 1) := by decide +kernel
theorem dX4_beginExpression_130 : decode cX4_beginExpression 130 = .ok (.getfield 61, 3) := by decide +kernel
theorem dX4_beginExpression_133 : decode cX4_beginExpression 133 = .ok (.aload_n 0, 1) := by decide +kernel
theorem dX4_beginExpression_134 : decode cX4_beginExpression 134 = .ok (.getfield 64, 3) := by decide +kernel
theorem dX4_beginExpression_137 : decode cX4_beginExpression 137 = .ok (.iconst 0, 1) := by decide +kernel
theorem dX4_beginExpression_138 : decode cX4_beginExpression 138 = .ok (.iconst 0, 1) := by decide +kernel
theorem dX4_beginExpression_139 : decode cX4_beginExpression 139 = .ok (.invokevirtual 185, 3) := by decide +kernel
theorem dX4_beginExpression_142 : decode cX4_beginExpression 142 = .ok (.aload_n 0, 1) := by decide +kernel
theorem dX4_beginExpression_143 : decode cX4_beginExpression 143 = .ok (.aload_n 0, 1) := by decide +kernel
theorem dX4_beginExpression_144 : decode cX4_beginExpression 144 = .ok (.getfield 53, 3) := by decide +kernel
theorem dX4_beginExpression_147 : decode cX4_beginExpression 147 = .ok (.aload_n 0, 1) := by decide +kernel
theorem dX4_beginExpression_148 : decode cX4_beginExpression 148 = .ok (.getfield 61, 3) := by decide +kernel
theorem dX4_beginExpression_151 : decode cX4_beginExpression 151 = .ok (.invokevirtual 189, 3) := by decide +kernel
theorem dX4_beginExpression_154 : decode cX4_beginExpression 154 = .ok (.aload_n 0, 1) := by decide +kernel
theorem dX4_beginExpression_155 : decode cX4_beginExpression 155 = .ok (.getfield 64, 3) := by decide +kernel
theorem dX4_beginExpression_158 : decode cX4_beginExpression 158 = .ok (.invokevirtual 123, 3) := by decide +kernel
theorem dX4_beginExpression_161 : decode cX4_beginExpression 161 = .ok (.return_, 1) := by decide +kernel
theorem dX4_useValue_0 : decode cX4_useValue 0 = .ok (.aload_n 0, 1) := by decide +kernel
theorem dX4_useValue_1 : decode cX4_useValue 1 = .ok (.getfield 46, 3) := by decide +kernel
theorem dX4_useValue_4 : decode cX4_useValue 4 = .ok (.invokevirtual 192, 3) := by decide +kernel
theorem dX4_useValue_7 : decode cX4_useValue 7 = .ok (.ifCond .eq 9, 3) := by decide +kernel
theorem dX4_useValue_10 : decode cX4_useValue 10 = .ok (.aload_n 0, 1) := by decide +kernel
theorem dX4_useValue_11 : decode cX4_useValue 11 = .ok (.iconst 3, 1) := by decide +kernel
theorem dX4_useValue_12 : decode cX4_useValue 12 = .ok (.putfield 57, 3) := by decide +kernel
theorem dX4_useValue_15 : decode cX4_useValue 15 = .ok (.return_, 1) := by decide +kernel
theorem dX4_useValue_16 : decode cX4_useValue 16 = .ok (.aload_n 0, 1) := by decide +kernel
theorem dX4_useValue_17 : decode cX4_useValue 17 = .ok (.getfield 46, 3) := by decide +kernel
theorem dX4_useValue_20 : decode cX4_useValue 20 = .ok (.invokevirtual 196, 3) := by decide +kernel
theorem dX4_useValue_23 : decode cX4_useValue 23 = .ok (.aload_n 0, 1) := by decide +kernel
theorem dX4_useValue_24 : decode cX4_useValue 24 = .ok (.getfield 46, 3) := by decide +kernel
theorem dX4_useValue_27 : decode cX4_useValue 27 = .ok (.invokevirtual 199, 3) := by decide +kernel
theorem dX4_useValue_30 : decode cX4_useValue 30 = .ok (.istore_n 1, 1) := by decide +kernel
theorem dX4_useValue_31 : decode cX4_useValue 31 = .ok (.aload_n 0, 1) := by decide +kernel
theorem dX4_useValue_32 : decode cX4_useValue 32 = .ok (.getfield 46, 3) := by decide +kernel
theorem dX4_useValue_35 : decode cX4_useValue 35 = .ok (.invokevirtual 202, 3) := by decide +kernel
theorem dX4_useValue_38 : decode cX4_useValue 38 = .ok (.istore_n 2, 1) := by decide +kernel
theorem dX4_useValue_39 : decode cX4_useValue 39 = .ok (.aload_n 0, 1) := by decide +kernel
theorem dX4_useValue_40 : decode cX4_useValue 40 = .ok (.getfield 53, 3) := by decide +kernel
theorem dX4_useValue_43 : decode cX4_useValue 43 = .ok (.iload_n 1, 1) := by decide +kernel
theorem dX4_useValue_44 : decode cX4_useValue 44 = .ok (.invokevirtual 163, 3) := by decide +kernel
theorem dX4_useValue_47 : decode cX4_useValue 47 = .ok (.istore_n 3, 1) := by decide +kernel
theorem dX4_useValue_48 : decode cX4_useValue 48 = .ok (.iload_n 3, 1) := by decide +kernel
theorem dX4_useValue_49 : decode cX4_useValue 49 = .ok (.lookupswitch 287 #[(42, 131), (43, 131), (44, 186), (45, 131), (63, 177), (64, 141), (66, 131), (67, 131), (76, 202), (80, 231), (81, 251), (83, 215), (88, 280), (112, 271), (113, 271)], 131) := by decide +kernel
theorem dX4_useValue_180 : decode cX4_useValue 180 = .ok (.aload_n 0, 1) := by decide +kernel
theorem dX4_useValue_181 : decode cX4_useValue 181 = .ok (.iload_n 1, 1) := by decide +kernel
theorem dX4_useValue_182 : decode cX4_useValue 182 = .ok (.iload_n 2, 1) := by decide +kernel
theorem dX4_useValue_183 : decode cX4_useValue 183 = .ok (.iload_n 3, 1) := by decide +kernel
theorem dX4_useValue_184 : decode cX4_useValue 184 = .ok (.invokevirtual 204, 3) := by decide +kernel
theorem dX4_useValue_187 : decode cX4_useValue 187 = .ok (.goto 149, 3) := by decide +kernel
theorem dX4_useValue_190 : decode cX4_useValue 190 = .ok (.aload_n 0, 1) := by decide +kernel
theorem dX4_useValue_191 : decode cX4_useValue 191 = .ok (.getfield 46, 3) := by decide +kernel
theorem dX4_useValue_194 : decode cX4_useValue 194 = .ok (.invokevirtual 208, 3) := by decide +kernel
theorem dX4_useValue_197 : decode cX4_useValue 197 = .ok (.iconst 1, 1) := by decide +kernel
theorem dX4_useValue_198 : decode cX4_useValue 198 = .ok (.if_icmp .ne 19, 3) := by decide +kernel
theorem dX4_useValue_201 : decode cX4_useValue 201 = .ok (.aload_n 0, 1) := by decide +kernel
theorem dX4_useValue_202 : decode cX4_useValue 202 = .ok (.iload_n 1, 1) := by decide +kernel
theorem dX4_useValue_203 : decode cX4_useValue 203 = .ok (.iload_n 2, 1) := by decide +kernel
theorem dX4_useValue_204 : decode cX4_useValue 204 = .ok (.aload_n 0, 1) := by decide +kernel
theorem dX4_useValue_205 : decode cX4_useValue 205 = .ok (.getfield 46, 3) := by decide +kernel
theorem dX4_useValue_208 : decode cX4_useValue 208 = .ok (.invokevirtual 211, 3) := by decide +kernel
theorem dX4_useValue_211 : decode cX4_useValue 211 = .ok (.invokevirtual 214, 3) := by decide +kernel
theorem dX4_useValue_214 : decode cX4_useValue 214 = .ok (.goto 122, 3) := by decide +kernel
theorem dX4_useValue_217 : decode cX4_useValue 217 = .ok (.aload_n 0, 1) := by decide +kernel
theorem dX4_useValue_218 : decode cX4_useValue 218 = .ok (.iload_n 1, 1) := by decide +kernel
theorem dX4_useValue_219 : decode cX4_useValue 219 = .ok (.iload_n 2, 1) := by decide +kernel
theorem dX4_useValue_220 : decode cX4_useValue 220 = .ok (.invokevirtual 217, 3) := by decide +kernel
theorem dX4_useValue_223 : decode cX4_useValue 223 = .ok (.goto 113, 3) := by decide +kernel
theorem dX4_useValue_226 : decode cX4_useValue 226 = .ok (.aload_n 0, 1) := by decide +kernel
theorem dX4_useValue_227 : decode cX4_useValue 227 = .ok (.iload_n 1, 1) := by decide +kernel
theorem dX4_useValue_228 : decode cX4_useValue 228 = .ok (.iload_n 2, 1) := by decide +kernel
theorem dX4_useValue_229 : decode cX4_useValue 229 = .ok (.invokevirtual 220, 3) := by decide +kernel
theorem dX4_useValue_232 : decode cX4_useValue 232 = .ok (.goto 104, 3) := by decide +kernel
theorem dX4_useValue_235 : decode cX4_useValue 235 = .ok (.aload_n 0, 1) := by decide +kernel
theorem dX4_useValue_236 : decode cX4_useValue 236 = .ok (.aload_n 0, 1) := by decide +kernel
theorem dX4_useValue_237 : decode cX4_useValue 237 = .ok (.getfield 53, 3) := by decide +kernel
theorem dX4_useValue_240 : decode cX4_useValue 240 = .ok (.iload_n 1, 1) := by decide +kernel
theorem dX4_useValue_241 : decode cX4_useValue 241 = .ok (.invokevirtual 223, 3) := by decide +kernel
theorem dX4_useValue_244 : decode cX4_useValue 244 = .ok (.iload_n 2, 1) := by decide +kernel
theorem dX4_useValue_245 : decode cX4_useValue 245 = .ok (.invokevirtual 123, 3) := by decide +kernel
theorem dX4_useValue_248 : decode cX4_useValue 248 = .ok (.goto 88, 3) := by decide +kernel
theorem dX4_useValue_251 : decode cX4_useValue 251 = .ok (.aload_n 0, 1) := by decide +kernel
theorem dX4_useValue_252 : decode cX4_useValue 252 = .ok (.iload_n 1, 1) := by decide +kernel
theorem dX4_useValue_253 : decode cX4_useValue 253 = .ok (.iload_n 2, 1) := by decide +kernel
theorem dX4_useValue_254 : decode cX4_useValue 254 = .ok (.aload_n 0, 1) := by decide +kernel
theorem dX4_useValue_255 : decode cX4_useValue 255 = .ok (.getfield 67, 3) := by decide +kernel
theorem dX4_useValue_258 : decode cX4_useValue 258 = .ok (.invokevirtual 226, 3) := by decide +kernel
theorem dX4_useValue_261 : decode cX4_useValue 261 = .ok (.goto 75, 3) := by decide +kernel
theorem dX4_useValue_264 : decode cX4_useValue 264 = .ok (.aload_n 0, 1) := by decide +kernel
theorem dX4_useValue_265 : decode cX4_useValue 265 = .ok (.aload_n 0, 1) := by decide +kernel
theorem dX4_useValue_266 : decode cX4_useValue 266 = .ok (.getfield 53, 3) := by decide +kernel
theorem dX4_useValue_269 : decode cX4_useValue 269 = .ok (.iload_n 1, 1) := by decide +kernel
theorem dX4_useValue_270 : decode cX4_useValue 270 = .ok (.invokevirtual 147, 3) := by decide +kernel
theorem dX4_useValue_273 : decode cX4_useValue 273 = .ok (.iload_n 2, 1) := by decide +kernel
theorem dX4_useValue_274 : decode cX4_useValue 274 = .ok (.invokevirtual 229, 3) := by decide +kernel
theorem dX4_useValue_277 : decode cX4_useValue 277 = .ok (.goto 59, 3) := by decide +kernel
theorem dX4_useValue_280 : decode cX4_useValue 280 = .ok (.aload_n 0, 1) := by decide +kernel
theorem dX4_useValue_281 : decode cX4_useValue 281 = .ok (.aload_n 0, 1) := by decide +kernel
theorem dX4_useValue_282 : decode cX4_useValue 282 = .ok (.getfield 39, 3) := by decide +kernel
theorem dX4_useValue_285 : decode cX4_useValue 285 = .ok (.iconst 0, 1) := by decide +kernel
theorem dX4_useValue_286 : decode cX4_useValue 286 = .ok (.aload_n 0, 1) := by decide +kernel
theorem dX4_useValue_287 : decode cX4_useValue 287 = .ok (.getfield 67, 3) := by decide +kernel
theorem dX4_useValue_290 : decode cX4_useValue 290 = .ok (.iconst 0, 1) := by decide +kernel
theorem dX4_useValue_291 : decode cX4_useValue 291 = .ok (.invokevirtual 181, 3) := by decide +kernel
theorem dX4_useValue_294 : decode cX4_useValue 294 = .ok (.invokevirtual 171, 3) := by decide +kernel
theorem dX4_useValue_297 : decode cX4_useValue 297 = .ok (.goto 39, 3) := by decide +kernel
theorem dX4_useValue_300 : decode cX4_useValue 300 = .ok (.aload_n 0, 1) := by decide +kernel
theorem dX4_useValue_301 : decode cX4_useValue 301 = .ok (.aload_n 0, 1) := by decide +kernel
theorem dX4_useValue_302 : decode cX4_useValue 302 = .ok (.getfield 39, 3) := by decide +kernel
theorem dX4_useValue_305 : decode cX4_useValue 305 = .ok (.iconst 1, 1) := by decide +kernel
theorem dX4_useValue_306 : decode cX4_useValue 306 = .ok (.iconst 0, 1) := by decide +kernel
theorem dX4_useValue_307 : decode cX4_useValue 307 = .ok (.aload_n 0, 1) := by decide +kernel
theorem dX4_useValue_308 : decode cX4_useValue 308 = .ok (.getfield 67, 3) := by decide +kernel
theorem dX4_useValue_311 : decode cX4_useValue 311 = .ok (.invokevirtual 181, 3) := by decide +kernel
theorem dX4_useValue_314 : decode cX4_useValue 314 = .ok (.invokevirtual 171, 3) := by decide +kernel
theorem dX4_useValue_317 : decode cX4_useValue 317 = .ok (.goto 19, 3) := by decide +kernel
theorem dX4_useValue_320 : decode cX4_useValue 320 = .ok (.aload_n 0, 1) := by decide +kernel
theorem dX4_useValue_321 : decode cX4_useValue 321 = .ok (.iload_n 1, 1) := by decide +kernel
theorem dX4_useValue_322 : decode cX4_useValue 322 = .ok (.iload_n 3, 1) := by decide +kernel
theorem dX4_useValue_323 : decode cX4_useValue 323 = .ok (.invokevirtual 232, 3) := by decide +kernel
theorem dX4_useValue_326 : decode cX4_useValue 326 = .ok (.goto 10, 3) := by decide +kernel
theorem dX4_useValue_329 : decode cX4_useValue 329 = .ok (.aload_n 0, 1) := by decide +kernel
theorem dX4_useValue_330 : decode cX4_useValue 330 = .ok (.invokevirtual 235, 3) := by decide +kernel
theorem dX4_useValue_333 : decode cX4_useValue 333 = .ok (.goto 3, 3) := by decide +kernel
theorem dX4_useValue_336 : decode cX4_useValue 336 = .ok (.return_, 1) := by decide +kernel
theorem dX4_passFaultOn_0 : decode cX4_passFaultOn 0 = .ok (.aload_n 0, 1) := by decide +kernel
theorem dX4_passFaultOn_1 : decode cX4_passFaultOn 1 = .ok (.getfield 46, 3) := by decide +kernel
theorem dX4_passFaultOn_4 : decode cX4_passFaultOn 4 = .ok (.invokevirtual 192, 3) := by decide +kernel
theorem dX4_passFaultOn_7 : decode cX4_passFaultOn 7 = .ok (.ifCond .eq 9, 3) := by decide +kernel
theorem dX4_passFaultOn_10 : decode cX4_passFaultOn 10 = .ok (.aload_n 0, 1) := by decide +kernel
theorem dX4_passFaultOn_11 : decode cX4_passFaultOn 11 = .ok (.iconst 3, 1) := by decide +kernel
theorem dX4_passFaultOn_12 : decode cX4_passFaultOn 12 = .ok (.putfield 57, 3) := by decide +kernel
theorem dX4_passFaultOn_15 : decode cX4_passFaultOn 15 = .ok (.return_, 1) := by decide +kernel
theorem dX4_passFaultOn_16 : decode cX4_passFaultOn 16 = .ok (.aload_n 0, 1) := by decide +kernel
theorem dX4_passFaultOn_17 : decode cX4_passFaultOn 17 = .ok (.getfield 46, 3) := by decide +kernel
theorem dX4_passFaultOn_20 : decode cX4_passFaultOn 20 = .ok (.invokevirtual 196, 3) := by decide +kernel
theorem dX4_passFaultOn_23 : decode cX4_passFaultOn 23 = .ok (.aload_n 0, 1) := by decide +kernel
theorem dX4_passFaultOn_24 : decode cX4_passFaultOn 24 = .ok (.getfield 46, 3) := by decide +kernel
theorem dX4_passFaultOn_27 : decode cX4_passFaultOn 27 = .ok (.invokevirtual 199, 3) := by decide +kernel
theorem dX4_passFaultOn_30 : decode cX4_passFaultOn 30 = .ok (.istore_n 1, 1) := by decide +kernel
theorem dX4_passFaultOn_31 : decode cX4_passFaultOn 31 = .ok (.aload_n 0, 1) := by decide +kernel
theorem dX4_passFaultOn_32 : decode cX4_passFaultOn 32 = .ok (.getfield 53, 3) := by decide +kernel
theorem dX4_passFaultOn_35 : decode cX4_passFaultOn 35 = .ok (.iload_n 1, 1) := by decide +kernel
theorem dX4_passFaultOn_36 : decode cX4_passFaultOn 36 = .ok (.invokevirtual 163, 3) := by decide +kernel
theorem dX4_passFaultOn_39 : decode cX4_passFaultOn 39 = .ok (.istore_n 2, 1) := by decide +kernel
theorem dX4_passFaultOn_40 : decode cX4_passFaultOn 40 = .ok (.iload_n 2, 1) := by decide +kernel
theorem dX4_passFaultOn_41 : decode cX4_passFaultOn 41 = .ok (.bipush 64, 2) := by decide +kernel
theorem dX4_passFaultOn_43 : decode cX4_passFaultOn 43 = .ok (.if_icmp .ne 27, 3) := by decide +kernel
theorem dX4_passFaultOn_46 : decode cX4_passFaultOn 46 = .ok (.aload_n 0, 1) := by decide +kernel
theorem dX4_passFaultOn_47 : decode cX4_passFaultOn 47 = .ok (.getfield 46, 3) := by decide +kernel
theorem dX4_passFaultOn_50 : decode cX4_passFaultOn 50 = .ok (.invokevirtual 208, 3) := by decide +kernel
theorem dX4_passFaultOn_53 : decode cX4_passFaultOn 53 = .ok (.iconst 2, 1) := by decide +kernel
theorem dX4_passFaultOn_54 : decode cX4_passFaultOn 54 = .ok (.if_icmp .ne 16, 3) := by decide +kernel
theorem dX4_passFaultOn_57 : decode cX4_passFaultOn 57 = .ok (.aload_n 0, 1) := by decide +kernel
theorem dX4_passFaultOn_58 : decode cX4_passFaultOn 58 = .ok (.dup, 1) := by decide +kernel
theorem dX4_passFaultOn_59 : decode cX4_passFaultOn 59 = .ok (.getfield 70, 3) := by decide +kernel
theorem dX4_passFaultOn_62 : decode cX4_passFaultOn 62 = .ok (.iconst 1, 1) := by decide +kernel
theorem dX4_passFaultOn_63 : decode cX4_passFaultOn 63 = .ok (.isub, 1) := by decide +kernel
theorem dX4_passFaultOn_64 : decode cX4_passFaultOn 64 = .ok (.putfield 70, 3) := by decide +kernel
theorem dX4_passFaultOn_67 : decode cX4_passFaultOn 67 = .ok (.goto 71, 3) := by decide +kernel
theorem dX4_passFaultOn_70 : decode cX4_passFaultOn 70 = .ok (.iload_n 2, 1) := by decide +kernel
theorem dX4_passFaultOn_71 : decode cX4_passFaultOn 71 = .ok (.bipush 87, 2) := by decide +kernel
theorem dX4_passFaultOn_73 : decode cX4_passFaultOn 73 = .ok (.if_icmp .ne 19, 3) := by decide +kernel
theorem dX4_passFaultOn_76 : decode cX4_passFaultOn 76 = .ok (.aload_n 0, 1) := by decide +kernel
theorem dX4_passFaultOn_77 : decode cX4_passFaultOn 77 = .ok (.getfield 25, 3) := by decide +kernel
theorem dX4_passFaultOn_80 : decode cX4_passFaultOn 80 = .ok (.dup, 1) := by decide +kernel
theorem dX4_passFaultOn_81 : decode cX4_passFaultOn 81 = .ok (.getfield 153, 3) := by decide +kernel
theorem dX4_passFaultOn_84 : decode cX4_passFaultOn 84 = .ok (.iconst 1, 1) := by decide +kernel
theorem dX4_passFaultOn_85 : decode cX4_passFaultOn 85 = .ok (.iadd, 1) := by decide +kernel
theorem dX4_passFaultOn_86 : decode cX4_passFaultOn 86 = .ok (.putfield 153, 3) := by decide +kernel
theorem dX4_passFaultOn_89 : decode cX4_passFaultOn 89 = .ok (.goto 49, 3) := by decide +kernel
theorem dX4_passFaultOn_92 : decode cX4_passFaultOn 92 = .ok (.iload_n 2, 1) := by decide +kernel
theorem dX4_passFaultOn_93 : decode cX4_passFaultOn 93 = .ok (.bipush 89, 2) := by decide +kernel
theorem dX4_passFaultOn_95 : decode cX4_passFaultOn 95 = .ok (.if_icmp .ne 43, 3) := by decide +kernel
theorem dX4_passFaultOn_98 : decode cX4_passFaultOn 98 = .ok (.aload_n 0, 1) := by decide +kernel
theorem dX4_passFaultOn_99 : decode cX4_passFaultOn 99 = .ok (.getfield 25, 3) := by decide +kernel
theorem dX4_passFaultOn_102 : decode cX4_passFaultOn 102 = .ok (.iconst 0, 1) := by decide +kernel
theorem dX4_passFaultOn_103 : decode cX4_passFaultOn 103 = .ok (.invokevirtual 130, 3) := by decide +kernel
theorem dX4_passFaultOn_106 : decode cX4_passFaultOn 106 = .ok (.invokestatic 238, 3) := by decide +kernel
theorem dX4_passFaultOn_109 : decode cX4_passFaultOn 109 = .ok (.ifCond .eq 29, 3) := by decide +kernel
theorem dX4_passFaultOn_112 : decode cX4_passFaultOn 112 = .ok (.aload_n 0, 1) := by decide +kernel
theorem dX4_passFaultOn_113 : decode cX4_passFaultOn 113 = .ok (.getfield 25, 3) := by decide +kernel
theorem dX4_passFaultOn_116 : decode cX4_passFaultOn 116 = .ok (.iconst 0, 1) := by decide +kernel
theorem dX4_passFaultOn_117 : decode cX4_passFaultOn 117 = .ok (.invokevirtual 130, 3) := by decide +kernel
theorem dX4_passFaultOn_120 : decode cX4_passFaultOn 120 = .ok (.istore_n 3, 1) := by decide +kernel
theorem dX4_passFaultOn_121 : decode cX4_passFaultOn 121 = .ok (.aload_n 0, 1) := by decide +kernel
theorem dX4_passFaultOn_122 : decode cX4_passFaultOn 122 = .ok (.invokevirtual 111, 3) := by decide +kernel
theorem dX4_passFaultOn_125 : decode cX4_passFaultOn 125 = .ok (.aload_n 0, 1) := by decide +kernel
theorem dX4_passFaultOn_126 : decode cX4_passFaultOn 126 = .ok (.iload_n 1, 1) := by decide +kernel
theorem dX4_passFaultOn_127 : decode cX4_passFaultOn 127 = .ok (.aload_n 0, 1) := by decide +kernel
theorem dX4_passFaultOn_128 : decode cX4_passFaultOn 128 = .ok (.getfield 46, 3) := by decide +kernel
theorem dX4_passFaultOn_131 : decode cX4_passFaultOn 131 = .ok (.invokevirtual 202, 3) := by decide +kernel
theorem dX4_passFaultOn_134 : decode cX4_passFaultOn 134 = .ok (.iload_n 3, 1) := by decide +kernel
theorem dX4_passFaultOn_135 : decode cX4_passFaultOn 135 = .ok (.invokevirtual 226, 3) := by decide +kernel
theorem dX4_passFaultOn_138 : decode cX4_passFaultOn 138 = .ok (.return_, 1) := by decide +kernel
theorem dX4_isCaught_0 : decode cX4_isCaught 0 = .ok (.iload_n 0, 1) := by decide +kernel
theorem dX4_isCaught_1 : decode cX4_isCaught 1 = .ok (.iconst 5, 1) := by decide +kernel
theorem dX4_isCaught_2 : decode cX4_isCaught 2 = .ok (.if_icmp .eq 13, 3) := by decide +kernel
theorem dX4_isCaught_5 : decode cX4_isCaught 5 = .ok (.iload_n 0, 1) := by decide +kernel
theorem dX4_isCaught_6 : decode cX4_isCaught 6 = .ok (.bipush 6, 2) := by decide +kernel
theorem dX4_isCaught_8 : decode cX4_isCaught 8 = .ok (.if_icmp .eq 7, 3) := by decide +kernel
theorem dX4_isCaught_11 : decode cX4_isCaught 11 = .ok (.iconst 1, 1) := by decide +kernel
theorem dX4_isCaught_12 : decode cX4_isCaught 12 = .ok (.goto 4, 3) := by decide +kernel
theorem dX4_isCaught_15 : decode cX4_isCaught 15 = .ok (.iconst 0, 1) := by decide +kernel
theorem dX4_isCaught_16 : decode cX4_isCaught 16 = .ok (.ireturn, 1) := by decide +kernel
theorem dX4_forgetFault_0 : decode cX4_forgetFault 0 = .ok (.aload_n 0, 1) := by decide +kernel
theorem dX4_forgetFault_1 : decode cX4_forgetFault 1 = .ok (.iconst 0, 1) := by decide +kernel
theorem dX4_forgetFault_2 : decode cX4_forgetFault 2 = .ok (.putfield 73, 3) := by decide +kernel
theorem dX4_forgetFault_5 : decode cX4_forgetFault 5 = .ok (.aload_n 0, 1) := by decide +kernel
theorem dX4_forgetFault_6 : decode cX4_forgetFault 6 = .ok (.getfield 25, 3) := by decide +kernel
theorem dX4_forgetFault_9 : decode cX4_forgetFault 9 = .ok (.iconst 0, 1) := by decide +kernel
theorem dX4_forgetFault_10 : decode cX4_forgetFault 10 = .ok (.putfield 153, 3) := by decide +kernel
theorem dX4_forgetFault_13 : decode cX4_forgetFault 13 = .ok (.aload_n 0, 1) := by decide +kernel
theorem dX4_forgetFault_14 : decode cX4_forgetFault 14 = .ok (.getfield 25, 3) := by decide +kernel
theorem dX4_forgetFault_17 : decode cX4_forgetFault 17 = .ok (.iconst 0, 1) := by decide +kernel
theorem dX4_forgetFault_18 : decode cX4_forgetFault 18 = .ok (.putfield 156, 3) := by decide +kernel
theorem dX4_forgetFault_21 : decode cX4_forgetFault 21 = .ok (.return_, 1) := by decide +kernel
theorem dX4_beginSecondWithCell_0 : decode cX4_beginSecondWithCell 0 = .ok (.aload_n 0, 1) := by decide +kernel
theorem dX4_beginSecondWithCell_1 : decode cX4_beginSecondWithCell 1 = .ok (.aload_n 0, 1) := by decide +kernel
theorem dX4_beginSecondWithCell_2 : decode cX4_beginSecondWithCell 2 = .ok (.getfield 53, 3) := by decide +kernel
theorem dX4_beginSecondWithCell_5 : decode cX4_beginSecondWithCell 5 = .ok (.iload_n 1, 1) := by decide +kernel
theorem dX4_beginSecondWithCell_6 : decode cX4_beginSecondWithCell 6 = .ok (.invokevirtual 223, 3) := by decide +kernel
theorem dX4_beginSecondWithCell_9 : decode cX4_beginSecondWithCell 9 = .ok (.aload_n 0, 1) := by decide +kernel
theorem dX4_beginSecondWithCell_10 : decode cX4_beginSecondWithCell 10 = .ok (.getfield 32, 3) := by decide +kernel
theorem dX4_beginSecondWithCell_13 : decode cX4_beginSecondWithCell 13 = .ok (.aload_n 0, 1) := by decide +kernel
theorem dX4_beginSecondWithCell_14 : decode cX4_beginSecondWithCell 14 = .ok (.getfield 53, 3) := by decide +kernel
theorem dX4_beginSecondWithCell_17 : decode cX4_beginSecondWithCell 17 = .ok (.iload_n 1, 1) := by decide +kernel
theorem dX4_beginSecondWithCell_18 : decode cX4_beginSecondWithCell 18 = .ok (.invokevirtual 147, 3) := by decide +kernel
theorem dX4_beginSecondWithCell_21 : decode cX4_beginSecondWithCell 21 = .ok (.iload_n 3, 1) := by decide +kernel
theorem dX4_beginSecondWithCell_22 : decode cX4_beginSecondWithCell 22 = .ok (.iload_n 2, 1) := by decide +kernel
theorem dX4_beginSecondWithCell_23 : decode cX4_beginSecondWithCell 23 = .ok (.invokevirtual 241, 3) := by decide +kernel
theorem dX4_beginSecondWithCell_26 : decode cX4_beginSecondWithCell 26 = .ok (.invokevirtual 123, 3) := by decide +kernel
theorem dX4_beginSecondWithCell_29 : decode cX4_beginSecondWithCell 29 = .ok (.return_, 1) := by decide +kernel
theorem dX4_useOneOfTwo_0 : decode cX4_useOneOfTwo 0 = .ok (.aload_n 0, 1) := by decide +kernel
theorem dX4_useOneOfTwo_1 : decode cX4_useOneOfTwo 1 = .ok (.getfield 46, 3) := by decide +kernel
theorem dX4_useOneOfTwo_4 : decode cX4_useOneOfTwo 4 = .ok (.invokevirtual 208, 3) := by decide +kernel
theorem dX4_useOneOfTwo_7 : decode cX4_useOneOfTwo 7 = .ok (.ifCond .ne 31, 3) := by decide +kernel
theorem dX4_useOneOfTwo_10 : decode cX4_useOneOfTwo 10 = .ok (.aload_n 0, 1) := by decide +kernel
theorem dX4_useOneOfTwo_11 : decode cX4_useOneOfTwo 11 = .ok (.getfield 46, 3) := by decide +kernel
theorem dX4_useOneOfTwo_14 : decode cX4_useOneOfTwo 14 = .ok (.iload_n 1, 1) := by decide +kernel
theorem dX4_useOneOfTwo_15 : decode cX4_useOneOfTwo 15 = .ok (.iload_n 2, 1) := by decide +kernel
theorem dX4_useOneOfTwo_16 : decode cX4_useOneOfTwo 16 = .ok (.iconst 1, 1) := by decide +kernel
theorem dX4_useOneOfTwo_17 : decode cX4_useOneOfTwo 17 = .ok (.aload_n 0, 1) := by decide +kernel
theorem dX4_useOneOfTwo_18 : decode cX4_useOneOfTwo 18 = .ok (.getfield 67, 3) := by decide +kernel
theorem dX4_useOneOfTwo_21 : decode cX4_useOneOfTwo 21 = .ok (.invokevirtual 185, 3) := by decide +kernel
theorem dX4_useOneOfTwo_24 : decode cX4_useOneOfTwo 24 = .ok (.aload_n 0, 1) := by decide +kernel
theorem dX4_useOneOfTwo_25 : decode cX4_useOneOfTwo 25 = .ok (.aload_n 0, 1) := by decide +kernel
theorem dX4_useOneOfTwo_26 : decode cX4_useOneOfTwo 26 = .ok (.getfield 53, 3) := by decide +kernel
theorem dX4_useOneOfTwo_29 : decode cX4_useOneOfTwo 29 = .ok (.iload_n 1, 1) := by decide +kernel
theorem dX4_useOneOfTwo_30 : decode cX4_useOneOfTwo 30 = .ok (.invokevirtual 223, 3) := by decide +kernel
theorem dX4_useOneOfTwo_33 : decode cX4_useOneOfTwo 33 = .ok (.iload_n 2, 1) := by decide +kernel
theorem dX4_useOneOfTwo_34 : decode cX4_useOneOfTwo 34 = .ok (.invokevirtual 123, 3) := by decide +kernel
theorem dX4_useOneOfTwo_37 : decode cX4_useOneOfTwo 37 = .ok (.return_, 1) := by decide +kernel
theorem dX4_useOneOfTwo_38 : decode cX4_useOneOfTwo 38 = .ok (.aload_n 0, 1) := by decide +kernel
theorem dX4_useOneOfTwo_39 : decode cX4_useOneOfTwo 39 = .ok (.getfield 46, 3) := by decide +kernel
theorem dX4_useOneOfTwo_42 : decode cX4_useOneOfTwo 42 = .ok (.invokevirtual 211, 3) := by decide +kernel
theorem dX4_useOneOfTwo_45 : decode cX4_useOneOfTwo 45 = .ok (.istore 4, 2) := by decide +kernel
theorem dX4_useOneOfTwo_47 : decode cX4_useOneOfTwo 47 = .ok (.iload_n 3, 1) := by decide +kernel
theorem dX4_useOneOfTwo_48 : decode cX4_useOneOfTwo 48 = .ok (.bipush 66, 2) := by decide +kernel
theorem dX4_useOneOfTwo_50 : decode cX4_useOneOfTwo 50 = .ok (.if_icmp .ne 24, 3) := by decide +kernel
theorem dX4_useOneOfTwo_53 : decode cX4_useOneOfTwo 53 = .ok (.aload_n 0, 1) := by decide +kernel
theorem dX4_useOneOfTwo_54 : decode cX4_useOneOfTwo 54 = .ok (.aload_n 0, 1) := by decide +kernel
theorem dX4_useOneOfTwo_55 : decode cX4_useOneOfTwo 55 = .ok (.getfield 39, 3) := by decide +kernel
theorem dX4_useOneOfTwo_58 : decode cX4_useOneOfTwo 58 = .ok (.iconst 2, 1) := by decide +kernel
theorem dX4_useOneOfTwo_59 : decode cX4_useOneOfTwo 59 = .ok (.iload 4, 2) := by decide +kernel
theorem dX4_useOneOfTwo_61 : decode cX4_useOneOfTwo 61 = .ok (.aload_n 0, 1) := by decide +kernel
theorem dX4_useOneOfTwo_62 : decode cX4_useOneOfTwo 62 = .ok (.getfield 67, 3) := by decide +kernel
theorem dX4_useOneOfTwo_65 : decode cX4_useOneOfTwo 65 = .ok (.invokevirtual 181, 3) := by decide +kernel
theorem dX4_useOneOfTwo_68 : decode cX4_useOneOfTwo 68 = .ok (.invokevirtual 171, 3) := by decide +kernel
theorem dX4_useOneOfTwo_71 : decode cX4_useOneOfTwo 71 = .ok (.goto 41, 3) := by decide +kernel
theorem dX4_useOneOfTwo_74 : decode cX4_useOneOfTwo 74 = .ok (.iload_n 3, 1) := by decide +kernel
theorem dX4_useOneOfTwo_75 : decode cX4_useOneOfTwo 75 = .ok (.bipush 67, 2) := by decide +kernel
theorem dX4_useOneOfTwo_77 : decode cX4_useOneOfTwo 77 = .ok (.if_icmp .ne 24, 3) := by decide +kernel
theorem dX4_useOneOfTwo_80 : decode cX4_useOneOfTwo 80 = .ok (.aload_n 0, 1) := by decide +kernel
theorem dX4_useOneOfTwo_81 : decode cX4_useOneOfTwo 81 = .ok (.aload_n 0, 1) := by decide +kernel
theorem dX4_useOneOfTwo_82 : decode cX4_useOneOfTwo 82 = .ok (.getfield 39, 3) := by decide +kernel
theorem dX4_useOneOfTwo_85 : decode cX4_useOneOfTwo 85 = .ok (.iconst 3, 1) := by decide +kernel
theorem dX4_useOneOfTwo_86 : decode cX4_useOneOfTwo 86 = .ok (.aload_n 0, 1) := by decide +kernel
theorem dX4_useOneOfTwo_87 : decode cX4_useOneOfTwo 87 = .ok (.getfield 67, 3) := by decide +kernel
theorem dX4_useOneOfTwo_90 : decode cX4_useOneOfTwo 90 = .ok (.iload 4, 2) := by decide +kernel
theorem dX4_useOneOfTwo_92 : decode cX4_useOneOfTwo 92 = .ok (.invokevirtual 181, 3) := by decide +kernel
theorem dX4_useOneOfTwo_95 : decode cX4_useOneOfTwo 95 = .ok (.invokevirtual 171, 3) := by decide +kernel
theorem dX4_useOneOfTwo_98 : decode cX4_useOneOfTwo 98 = .ok (.goto 14, 3) := by decide +kernel
theorem dX4_useOneOfTwo_101 : decode cX4_useOneOfTwo 101 = .ok (.aload_n 0, 1) := by decide +kernel
theorem dX4_useOneOfTwo_102 : decode cX4_useOneOfTwo 102 = .ok (.iload_n 3, 1) := by decide +kernel
theorem dX4_useOneOfTwo_103 : decode cX4_useOneOfTwo 103 = .ok (.iload 4, 2) := by decide +kernel
theorem dX4_useOneOfTwo_105 : decode cX4_useOneOfTwo 105 = .ok (.aload_n 0, 1) := by decide +kernel
theorem dX4_useOneOfTwo_106 : decode cX4_useOneOfTwo 106 = .ok (.getfield 67, 3) := by decide +kernel
theorem dX4_useOneOfTwo_109 : decode cX4_useOneOfTwo 109 = .ok (.invokevirtual 242, 3) := by decide +kernel
theorem dX4_useOneOfTwo_112 : decode cX4_useOneOfTwo 112 = .ok (.return_, 1) := by decide +kernel
theorem dX4_reckon_0 : decode cX4_reckon 0 = .ok (.iload_n 2, 1) := by decide +kernel
theorem dX4_reckon_1 : decode cX4_reckon 1 = .ok (.invokestatic 137, 3) := by decide +kernel
theorem dX4_reckon_4 : decode cX4_reckon 4 = .ok (.ifCond .eq 10, 3) := by decide +kernel
theorem dX4_reckon_7 : decode cX4_reckon 7 = .ok (.iload_n 3, 1) := by decide +kernel
theorem dX4_reckon_8 : decode cX4_reckon 8 = .ok (.invokestatic 137, 3) := by decide +kernel
theorem dX4_reckon_11 : decode cX4_reckon 11 = .ok (.ifCond .ne 9, 3) := by decide +kernel
theorem dX4_reckon_14 : decode cX4_reckon 14 = .ok (.aload_n 0, 1) := by decide +kernel
theorem dX4_reckon_15 : decode cX4_reckon 15 = .ok (.iconst 1, 1) := by decide +kernel
theorem dX4_reckon_16 : decode cX4_reckon 16 = .ok (.invokevirtual 159, 3) := by decide +kernel
theorem dX4_reckon_19 : decode cX4_reckon 19 = .ok (.return_, 1) := by decide +kernel
theorem dX4_reckon_20 : decode cX4_reckon 20 = .ok (.iload_n 1, 1) := by decide +kernel
theorem dX4_reckon_21 : decode cX4_reckon 21 = .ok (.bipush 43, 2) := by decide +kernel
theorem dX4_reckon_23 : decode cX4_reckon 23 = .ok (.if_icmp .ne 9, 3) := by decide +kernel
theorem dX4_reckon_26 : decode cX4_reckon 26 = .ok (.iload_n 2, 1) := by decide +kernel
theorem dX4_reckon_27 : decode cX4_reckon 27 = .ok (.iload_n 3, 1) := by decide +kernel
theorem dX4_reckon_28 : decode cX4_reckon 28 = .ok (.iadd, 1) := by decide +kernel
theorem dX4_reckon_29 : decode cX4_reckon 29 = .ok (.goto 18, 3) := by decide +kernel
theorem dX4_reckon_32 : decode cX4_reckon 32 = .ok (.iload_n 1, 1) := by decide +kernel
theorem dX4_reckon_33 : decode cX4_reckon 33 = .ok (.bipush 45, 2) := by decide +kernel
theorem dX4_reckon_35 : decode cX4_reckon 35 = .ok (.if_icmp .ne 9, 3) := by decide +kernel
theorem dX4_reckon_38 : decode cX4_reckon 38 = .ok (.iload_n 2, 1) := by decide +kernel
theorem dX4_reckon_39 : decode cX4_reckon 39 = .ok (.iload_n 3, 1) := by decide +kernel
theorem dX4_reckon_40 : decode cX4_reckon 40 = .ok (.isub, 1) := by decide +kernel
theorem dX4_reckon_41 : decode cX4_reckon 41 = .ok (.goto 6, 3) := by decide +kernel
theorem dX4_reckon_44 : decode cX4_reckon 44 = .ok (.iload_n 2, 1) := by decide +kernel
theorem dX4_reckon_45 : decode cX4_reckon 45 = .ok (.iload_n 3, 1) := by decide +kernel
theorem dX4_reckon_46 : decode cX4_reckon 46 = .ok (.imul, 1) := by decide +kernel
theorem dX4_reckon_47 : decode cX4_reckon 47 = .ok (.istore 4, 2) := by decide +kernel
theorem dX4_reckon_49 : decode cX4_reckon 49 = .ok (.iload 4, 2) := by decide +kernel
theorem dX4_reckon_51 : decode cX4_reckon 51 = .ok (.sipush (-9999), 3) := by decide +kernel
theorem dX4_reckon_54 : decode cX4_reckon 54 = .ok (.if_icmp .lt 11, 3) := by decide +kernel
theorem dX4_reckon_57 : decode cX4_reckon 57 = .ok (.iload 4, 2) := by decide +kernel
theorem dX4_reckon_59 : decode cX4_reckon 59 = .ok (.sipush 9999, 3) := by decide +kernel
theorem dX4_reckon_62 : decode cX4_reckon 62 = .ok (.if_icmp .le 11, 3) := by decide +kernel
theorem dX4_reckon_65 : decode cX4_reckon 65 = .ok (.aload_n 0, 1) := by decide +kernel
theorem dX4_reckon_66 : decode cX4_reckon 66 = .ok (.iconst 4, 1) := by decide +kernel
theorem dX4_reckon_67 : decode cX4_reckon 67 = .ok (.invokevirtual 159, 3) := by decide +kernel
theorem dX4_reckon_70 : decode cX4_reckon 70 = .ok (.goto 9, 3) := by decide +kernel
theorem dX4_reckon_73 : decode cX4_reckon 73 = .ok (.aload_n 0, 1) := by decide +kernel
theorem dX4_reckon_74 : decode cX4_reckon 74 = .ok (.iload 4, 2) := by decide +kernel
theorem dX4_reckon_76 : decode cX4_reckon 76 = .ok (.invokevirtual 171, 3) := by decide +kernel
theorem dX4_reckon_79 : decode cX4_reckon 79 = .ok (.return_, 1) := by decide +kernel
theorem dX4_choose_0 : decode cX4_choose 0 = .ok (.aload_n 0, 1) := by decide +kernel
theorem dX4_choose_1 : decode cX4_choose 1 = .ok (.getfield 67, 3) := by decide +kernel
theorem dX4_choose_4 : decode cX4_choose 4 = .ok (.invokestatic 137, 3) := by decide +kernel
theorem dX4_choose_7 : decode cX4_choose 7 = .ok (.ifCond .ne 11, 3) := by decide +kernel
theorem dX4_choose_10 : decode cX4_choose 10 = .ok (.aload_n 0, 1) := by decide +kernel
theorem dX4_choose_11 : decode cX4_choose 11 = .ok (.iconst 1, 1) := by decide +kernel
theorem dX4_choose_12 : decode cX4_choose 12 = .ok (.invokevirtual 159, 3) := by decide +kernel
theorem dX4_choose_15 : decode cX4_choose 15 = .ok (.goto 34, 3) := by decide +kernel
theorem dX4_choose_18 : decode cX4_choose 18 = .ok (.aload_n 0, 1) := by decide +kernel
theorem dX4_choose_19 : decode cX4_choose 19 = .ok (.aload_n 0, 1) := by decide +kernel
theorem dX4_choose_20 : decode cX4_choose 20 = .ok (.getfield 67, 3) := by decide +kernel
theorem dX4_choose_23 : decode cX4_choose 23 = .ok (.ifCond .eq 14, 3) := by decide +kernel
theorem dX4_choose_26 : decode cX4_choose 26 = .ok (.aload_n 0, 1) := by decide +kernel
theorem dX4_choose_27 : decode cX4_choose 27 = .ok (.getfield 53, 3) := by decide +kernel
theorem dX4_choose_30 : decode cX4_choose 30 = .ok (.iload_n 1, 1) := by decide +kernel
theorem dX4_choose_31 : decode cX4_choose 31 = .ok (.invokevirtual 223, 3) := by decide +kernel
theorem dX4_choose_34 : decode cX4_choose 34 = .ok (.goto 11, 3) := by decide +kernel
theorem dX4_choose_37 : decode cX4_choose 37 = .ok (.aload_n 0, 1) := by decide +kernel
theorem dX4_choose_38 : decode cX4_choose 38 = .ok (.getfield 53, 3) := by decide +kernel
theorem dX4_choose_41 : decode cX4_choose 41 = .ok (.iload_n 1, 1) := by decide +kernel
theorem dX4_choose_42 : decode cX4_choose 42 = .ok (.invokevirtual 245, 3) := by decide +kernel
theorem dX4_choose_45 : decode cX4_choose 45 = .ok (.iload_n 2, 1) := by decide +kernel
theorem dX4_choose_46 : decode cX4_choose 46 = .ok (.invokevirtual 123, 3) := by decide +kernel
theorem dX4_choose_49 : decode cX4_choose 49 = .ok (.return_, 1) := by decide +kernel
theorem dX4_useForCall_0 : decode cX4_useForCall 0 = .ok (.aload_n 0, 1) := by decide +kernel
theorem dX4_useForCall_1 : decode cX4_useForCall 1 = .ok (.getfield 46, 3) := by decide +kernel
theorem dX4_useForCall_4 : decode cX4_useForCall 4 = .ok (.invokevirtual 208, 3) := by decide +kernel
theorem dX4_useForCall_7 : decode cX4_useForCall 7 = .ok (.iconst 2, 1) := by decide +kernel
theorem dX4_useForCall_8 : decode cX4_useForCall 8 = .ok (.if_icmp .ne 16, 3) := by decide +kernel
theorem dX4_useForCall_11 : decode cX4_useForCall 11 = .ok (.aload_n 0, 1) := by decide +kernel
theorem dX4_useForCall_12 : decode cX4_useForCall 12 = .ok (.dup, 1) := by decide +kernel
theorem dX4_useForCall_13 : decode cX4_useForCall 13 = .ok (.getfield 70, 3) := by decide +kernel
theorem dX4_useForCall_16 : decode cX4_useForCall 16 = .ok (.iconst 1, 1) := by decide +kernel
theorem dX4_useForCall_17 : decode cX4_useForCall 17 = .ok (.isub, 1) := by decide +kernel
theorem dX4_useForCall_18 : decode cX4_useForCall 18 = .ok (.putfield 70, 3) := by decide +kernel
theorem dX4_useForCall_21 : decode cX4_useForCall 21 = .ok (.goto 52, 3) := by decide +kernel
theorem dX4_useForCall_24 : decode cX4_useForCall 24 = .ok (.aload_n 0, 1) := by decide +kernel
theorem dX4_useForCall_25 : decode cX4_useForCall 25 = .ok (.getfield 39, 3) := by decide +kernel
theorem dX4_useForCall_28 : decode cX4_useForCall 28 = .ok (.aload_n 0, 1) := by decide +kernel
theorem dX4_useForCall_29 : decode cX4_useForCall 29 = .ok (.getfield 67, 3) := by decide +kernel
theorem dX4_useForCall_32 : decode cX4_useForCall 32 = .ok (.invokevirtual 141, 3) := by decide +kernel
theorem dX4_useForCall_35 : decode cX4_useForCall 35 = .ok (.ifCond .ne 11, 3) := by decide +kernel
theorem dX4_useForCall_38 : decode cX4_useForCall 38 = .ok (.aload_n 0, 1) := by decide +kernel
theorem dX4_useForCall_39 : decode cX4_useForCall 39 = .ok (.iconst 2, 1) := by decide +kernel
theorem dX4_useForCall_40 : decode cX4_useForCall 40 = .ok (.invokevirtual 159, 3) := by decide +kernel
theorem dX4_useForCall_43 : decode cX4_useForCall 43 = .ok (.goto 30, 3) := by decide +kernel
theorem dX4_useForCall_46 : decode cX4_useForCall 46 = .ok (.aload_n 0, 1) := by decide +kernel
theorem dX4_useForCall_47 : decode cX4_useForCall 47 = .ok (.getfield 46, 3) := by decide +kernel
theorem dX4_useForCall_50 : decode cX4_useForCall 50 = .ok (.iload_n 1, 1) := by decide +kernel
theorem dX4_useForCall_51 : decode cX4_useForCall 51 = .ok (.iload_n 2, 1) := by decide +kernel
theorem dX4_useForCall_52 : decode cX4_useForCall 52 = .ok (.iconst 1, 1) := by decide +kernel
theorem dX4_useForCall_53 : decode cX4_useForCall 53 = .ok (.aload_n 0, 1) := by decide +kernel
theorem dX4_useForCall_54 : decode cX4_useForCall 54 = .ok (.getfield 67, 3) := by decide +kernel
theorem dX4_useForCall_57 : decode cX4_useForCall 57 = .ok (.invokevirtual 185, 3) := by decide +kernel
theorem dX4_useForCall_60 : decode cX4_useForCall 60 = .ok (.aload_n 0, 1) := by decide +kernel
theorem dX4_useForCall_61 : decode cX4_useForCall 61 = .ok (.aload_n 0, 1) := by decide +kernel
theorem dX4_useForCall_62 : decode cX4_useForCall 62 = .ok (.getfield 53, 3) := by decide +kernel
theorem dX4_useForCall_65 : decode cX4_useForCall 65 = .ok (.iload_n 1, 1) := by decide +kernel
theorem dX4_useForCall_66 : decode cX4_useForCall 66 = .ok (.invokevirtual 223, 3) := by decide +kernel
theorem dX4_useForCall_69 : decode cX4_useForCall 69 = .ok (.iload_n 2, 1) := by decide +kernel
theorem dX4_useForCall_70 : decode cX4_useForCall 70 = .ok (.invokevirtual 123, 3) := by decide +kernel
theorem dX4_useForCall_73 : decode cX4_useForCall 73 = .ok (.return_, 1) := by decide +kernel
theorem dX4_call_0 : decode cX4_call 0 = .ok (.aload_n 0, 1) := by decide +kernel
theorem dX4_call_1 : decode cX4_call 1 = .ok (.getfield 53, 3) := by decide +kernel
theorem dX4_call_4 : decode cX4_call 4 = .ok (.iload_n 1, 1) := by decide +kernel
theorem dX4_call_5 : decode cX4_call 5 = .ok (.invokevirtual 248, 3) := by decide +kernel
theorem dX4_call_8 : decode cX4_call 8 = .ok (.ifCond .eq 19, 3) := by decide +kernel
theorem dX4_call_11 : decode cX4_call 11 = .ok (.aload_n 0, 1) := by decide +kernel
theorem dX4_call_12 : decode cX4_call 12 = .ok (.getfield 25, 3) := by decide +kernel
theorem dX4_call_15 : decode cX4_call 15 = .ok (.dup, 1) := by decide +kernel
theorem dX4_call_16 : decode cX4_call 16 = .ok (.getfield 120, 3) := by decide +kernel
theorem dX4_call_19 : decode cX4_call 19 = .ok (.iconst 1, 1) := by decide +kernel
theorem dX4_call_20 : decode cX4_call 20 = .ok (.iadd, 1) := by decide +kernel
theorem dX4_call_21 : decode cX4_call 21 = .ok (.putfield 120, 3) := by decide +kernel
theorem dX4_call_24 : decode cX4_call 24 = .ok (.goto 60, 3) := by decide +kernel
theorem dX4_call_27 : decode cX4_call 27 = .ok (.aload_n 0, 1) := by decide +kernel
theorem dX4_call_28 : decode cX4_call 28 = .ok (.getfield 70, 3) := by decide +kernel
theorem dX4_call_31 : decode cX4_call 31 = .ok (.bipush 12, 2) := by decide +kernel
theorem dX4_call_33 : decode cX4_call 33 = .ok (.if_icmp .lt 9, 3) := by decide +kernel
theorem dX4_call_36 : decode cX4_call 36 = .ok (.aload_n 0, 1) := by decide +kernel
theorem dX4_call_37 : decode cX4_call 37 = .ok (.iconst 5, 1) := by decide +kernel
theorem dX4_call_38 : decode cX4_call 38 = .ok (.invokevirtual 159, 3) := by decide +kernel
theorem dX4_call_41 : decode cX4_call 41 = .ok (.return_, 1) := by decide +kernel
theorem dX4_call_42 : decode cX4_call 42 = .ok (.aload_n 0, 1) := by decide +kernel
theorem dX4_call_43 : decode cX4_call 43 = .ok (.dup, 1) := by decide +kernel
theorem dX4_call_44 : decode cX4_call 44 = .ok (.getfield 70, 3) := by decide +kernel
theorem dX4_call_47 : decode cX4_call 47 = .ok (.iconst 1, 1) := by decide +kernel
theorem dX4_call_48 : decode cX4_call 48 = .ok (.iadd, 1) := by decide +kernel
theorem dX4_call_49 : decode cX4_call 49 = .ok (.putfield 70, 3) := by decide +kernel
theorem dX4_call_52 : decode cX4_call 52 = .ok (.aload_n 0, 1) := by decide +kernel
theorem dX4_call_53 : decode cX4_call 53 = .ok (.getfield 25, 3) := by decide +kernel
theorem dX4_call_56 : decode cX4_call 56 = .ok (.aload_n 0, 1) := by decide +kernel
theorem dX4_call_57 : decode cX4_call 57 = .ok (.getfield 25, 3) := by decide +kernel
theorem dX4_call_60 : decode cX4_call 60 = .ok (.getfield 117, 3) := by decide +kernel
theorem dX4_call_63 : decode cX4_call 63 = .ok (.aload_n 0, 1) := by decide +kernel
theorem dX4_call_64 : decode cX4_call 64 = .ok (.getfield 70, 3) := by decide +kernel
theorem dX4_call_67 : decode cX4_call 67 = .ok (.invokestatic 251, 3) := by decide +kernel
theorem dX4_call_70 : decode cX4_call 70 = .ok (.putfield 117, 3) := by decide +kernel
theorem dX4_call_73 : decode cX4_call 73 = .ok (.aload_n 0, 1) := by decide +kernel
theorem dX4_call_74 : decode cX4_call 74 = .ok (.getfield 46, 3) := by decide +kernel
theorem dX4_call_77 : decode cX4_call 77 = .ok (.iload_n 1, 1) := by decide +kernel
theorem dX4_call_78 : decode cX4_call 78 = .ok (.iload_n 2, 1) := by decide +kernel
theorem dX4_call_79 : decode cX4_call 79 = .ok (.iconst 2, 1) := by decide +kernel
theorem dX4_call_80 : decode cX4_call 80 = .ok (.iconst 0, 1) := by decide +kernel
theorem dX4_call_81 : decode cX4_call 81 = .ok (.invokevirtual 185, 3) := by decide +kernel
theorem dX4_call_84 : decode cX4_call 84 = .ok (.aload_n 0, 1) := by decide +kernel
theorem dX4_call_85 : decode cX4_call 85 = .ok (.getfield 39, 3) := by decide +kernel
theorem dX4_call_88 : decode cX4_call 88 = .ok (.iload_n 3, 1) := by decide +kernel
theorem dX4_call_89 : decode cX4_call 89 = .ok (.invokevirtual 144, 3) := by decide +kernel
theorem dX4_call_92 : decode cX4_call 92 = .ok (.istore 4, 2) := by decide +kernel
theorem dX4_call_94 : decode cX4_call 94 = .ok (.aload_n 0, 1) := by decide +kernel
theorem dX4_call_95 : decode cX4_call 95 = .ok (.getfield 32, 3) := by decide +kernel
theorem dX4_call_98 : decode cX4_call 98 = .ok (.aload_n 0, 1) := by decide +kernel
theorem dX4_call_99 : decode cX4_call 99 = .ok (.getfield 53, 3) := by decide +kernel
theorem dX4_call_102 : decode cX4_call 102 = .ok (.iload 4, 2) := by decide +kernel
theorem dX4_call_104 : decode cX4_call 104 = .ok (.invokevirtual 147, 3) := by decide +kernel
theorem dX4_call_107 : decode cX4_call 107 = .ok (.aload_n 0, 1) := by decide +kernel
theorem dX4_call_108 : decode cX4_call 108 = .ok (.getfield 67, 3) := by decide +kernel
theorem dX4_call_111 : decode cX4_call 111 = .ok (.aload_n 0, 1) := by decide +kernel
theorem dX4_call_112 : decode cX4_call 112 = .ok (.getfield 39, 3) := by decide +kernel
theorem dX4_call_115 : decode cX4_call 115 = .ok (.iload_n 3, 1) := by decide +kernel
theorem dX4_call_116 : decode cX4_call 116 = .ok (.invokevirtual 256, 3) := by decide +kernel
theorem dX4_call_119 : decode cX4_call 119 = .ok (.invokevirtual 241, 3) := by decide +kernel
theorem dX4_call_122 : decode cX4_call 122 = .ok (.istore 5, 2) := by decide +kernel
theorem dX4_call_124 : decode cX4_call 124 = .ok (.aload_n 0, 1) := by decide +kernel
theorem dX4_call_125 : decode cX4_call 125 = .ok (.aload_n 0, 1) := by decide +kernel
theorem dX4_call_126 : decode cX4_call 126 = .ok (.getfield 53, 3) := by decide +kernel
theorem dX4_call_129 : decode cX4_call 129 = .ok (.iload 4, 2) := by decide +kernel
theorem dX4_call_131 : decode cX4_call 131 = .ok (.invokevirtual 189, 3) := by decide +kernel
theorem dX4_call_134 : decode cX4_call 134 = .ok (.iload 5, 2) := by decide +kernel
theorem dX4_call_136 : decode cX4_call 136 = .ok (.invokevirtual 123, 3) := by decide +kernel
theorem dX4_call_139 : decode cX4_call 139 = .ok (.return_, 1) := by decide +kernel
theorem dX4_valueOfVariable_0 : decode cX4_valueOfVariable 0 = .ok (.aload_n 0, 1) := by decide +kernel
theorem dX4_valueOfVariable_1 : decode cX4_valueOfVariable 1 = .ok (.getfield 32, 3) := by decide +kernel
theorem dX4_valueOfVariable_4 : decode cX4_valueOfVariable 4 = .ok (.iload_n 1, 1) := by decide +kernel
theorem dX4_valueOfVariable_5 : decode cX4_valueOfVariable 5 = .ok (.iload_n 2, 1) := by decide +kernel
theorem dX4_valueOfVariable_6 : decode cX4_valueOfVariable 6 = .ok (.invokevirtual 259, 3) := by decide +kernel
theorem dX4_valueOfVariable_9 : decode cX4_valueOfVariable 9 = .ok (.istore_n 3, 1) := by decide +kernel
theorem dX4_valueOfVariable_10 : decode cX4_valueOfVariable 10 = .ok (.iload_n 3, 1) := by decide +kernel
theorem dX4_valueOfVariable_11 : decode cX4_valueOfVariable 11 = .ok (.iconst (-1), 1) := by decide +kernel
theorem dX4_valueOfVariable_12 : decode cX4_valueOfVariable 12 = .ok (.if_icmp .ne 14, 3) := by decide +kernel
theorem dX4_valueOfVariable_15 : decode cX4_valueOfVariable 15 = .ok (.aload_n 0, 1) := by decide +kernel
theorem dX4_valueOfVariable_16 : decode cX4_valueOfVariable 16 = .ok (.getfield 9, 3) := by decide +kernel
theorem dX4_valueOfVariable_19 : decode cX4_valueOfVariable 19 = .ok (.iload_n 1, 1) := by decide +kernel
theorem dX4_valueOfVariable_20 : decode cX4_valueOfVariable 20 = .ok (.invokestatic 262, 3) := by decide +kernel
theorem dX4_valueOfVariable_23 : decode cX4_valueOfVariable 23 = .ok (.goto 11, 3) := by decide +kernel
theorem dX4_valueOfVariable_26 : decode cX4_valueOfVariable 26 = .ok (.aload_n 0, 1) := by decide +kernel
theorem dX4_valueOfVariable_27 : decode cX4_valueOfVariable 27 = .ok (.getfield 32, 3) := by decide +kernel
theorem dX4_valueOfVariable_30 : decode cX4_valueOfVariable 30 = .ok (.iload_n 3, 1) := by decide +kernel
theorem dX4_valueOfVariable_31 : decode cX4_valueOfVariable 31 = .ok (.invokevirtual 266, 3) := by decide +kernel
theorem dX4_valueOfVariable_34 : decode cX4_valueOfVariable 34 = .ok (.ireturn, 1) := by decide +kernel
theorem dX4_store_0 : decode cX4_store 0 = .ok (.aload_n 0, 1) := by decide +kernel
theorem dX4_store_1 : decode cX4_store 1 = .ok (.getfield 32, 3) := by decide +kernel
theorem dX4_store_4 : decode cX4_store 4 = .ok (.iload_n 1, 1) := by decide +kernel
theorem dX4_store_5 : decode cX4_store 5 = .ok (.iload_n 2, 1) := by decide +kernel
theorem dX4_store_6 : decode cX4_store 6 = .ok (.invokevirtual 259, 3) := by decide +kernel
theorem dX4_store_9 : decode cX4_store 9 = .ok (.istore_n 3, 1) := by decide +kernel
theorem dX4_store_10 : decode cX4_store 10 = .ok (.iload_n 3, 1) := by decide +kernel
theorem dX4_store_11 : decode cX4_store 11 = .ok (.iconst (-1), 1) := by decide +kernel
theorem dX4_store_12 : decode cX4_store 12 = .ok (.if_icmp .eq 18, 3) := by decide +kernel
theorem dX4_store_15 : decode cX4_store 15 = .ok (.aload_n 0, 1) := by decide +kernel
theorem dX4_store_16 : decode cX4_store 16 = .ok (.getfield 32, 3) := by decide +kernel
theorem dX4_store_19 : decode cX4_store 19 = .ok (.iload_n 3, 1) := by decide +kernel
theorem dX4_store_20 : decode cX4_store 20 = .ok (.aload_n 0, 1) := by decide +kernel
theorem dX4_store_21 : decode cX4_store 21 = .ok (.getfield 67, 3) := by decide +kernel
theorem dX4_store_24 : decode cX4_store 24 = .ok (.invokevirtual 269, 3) := by decide +kernel
theorem dX4_store_27 : decode cX4_store 27 = .ok (.goto 33, 3) := by decide +kernel
theorem dX4_store_30 : decode cX4_store 30 = .ok (.aload_n 0, 1) := by decide +kernel
theorem dX4_store_31 : decode cX4_store 31 = .ok (.getfield 67, 3) := by decide +kernel
theorem dX4_store_34 : decode cX4_store 34 = .ok (.invokestatic 137, 3) := by decide +kernel
theorem dX4_store_37 : decode cX4_store 37 = .ok (.ifCond .eq 18, 3) := by decide +kernel
theorem dX4_store_40 : decode cX4_store 40 = .ok (.aload_n 0, 1) := by decide +kernel
theorem dX4_store_41 : decode cX4_store 41 = .ok (.getfield 9, 3) := by decide +kernel
theorem dX4_store_44 : decode cX4_store 44 = .ok (.iload_n 1, 1) := by decide +kernel
theorem dX4_store_45 : decode cX4_store 45 = .ok (.aload_n 0, 1) := by decide +kernel
theorem dX4_store_46 : decode cX4_store 46 = .ok (.getfield 67, 3) := by decide +kernel
theorem dX4_store_49 : decode cX4_store 49 = .ok (.invokestatic 272, 3) := by decide +kernel
theorem dX4_store_52 : decode cX4_store 52 = .ok (.goto 8, 3) := by decide +kernel
theorem dX4_store_55 : decode cX4_store 55 = .ok (.aload_n 0, 1) := by decide +kernel
theorem dX4_store_56 : decode cX4_store 56 = .ok (.iconst 1, 1) := by decide +kernel
theorem dX4_store_57 : decode cX4_store 57 = .ok (.invokevirtual 159, 3) := by decide +kernel
theorem dX4_store_60 : decode cX4_store 60 = .ok (.return_, 1) := by decide +kernel
theorem dX4_findField_0 : decode cX4_findField 0 = .ok (.aload_n 0, 1) := by decide +kernel
theorem dX4_findField_1 : decode cX4_findField 1 = .ok (.getfield 39, 3) := by decide +kernel
theorem dX4_findField_4 : decode cX4_findField 4 = .ok (.aload_n 0, 1) := by decide +kernel
theorem dX4_findField_5 : decode cX4_findField 5 = .ok (.getfield 67, 3) := by decide +kernel
theorem dX4_findField_8 : decode cX4_findField 8 = .ok (.iload_n 2, 1) := by decide +kernel
theorem dX4_findField_9 : decode cX4_findField 9 = .ok (.invokevirtual 276, 3) := by decide +kernel
theorem dX4_findField_12 : decode cX4_findField 12 = .ok (.ifCond .ne 9, 3) := by decide +kernel
theorem dX4_findField_15 : decode cX4_findField 15 = .ok (.aload_n 0, 1) := by decide +kernel
theorem dX4_findField_16 : decode cX4_findField 16 = .ok (.iconst 3, 1) := by decide +kernel
theorem dX4_findField_17 : decode cX4_findField 17 = .ok (.invokevirtual 159, 3) := by decide +kernel
theorem dX4_findField_20 : decode cX4_findField 20 = .ok (.return_, 1) := by decide +kernel
theorem dX4_findField_21 : decode cX4_findField 21 = .ok (.aload_n 0, 1) := by decide +kernel
theorem dX4_findField_22 : decode cX4_findField 22 = .ok (.getfield 18, 3) := by decide +kernel
theorem dX4_findField_25 : decode cX4_findField 25 = .ok (.aload_n 0, 1) := by decide +kernel
theorem dX4_findField_26 : decode cX4_findField 26 = .ok (.getfield 53, 3) := by decide +kernel
theorem dX4_findField_29 : decode cX4_findField 29 = .ok (.iload_n 1, 1) := by decide +kernel
theorem dX4_findField_30 : decode cX4_findField 30 = .ok (.invokevirtual 280, 3) := by decide +kernel
theorem dX4_findField_33 : decode cX4_findField 33 = .ok (.aload_n 0, 1) := by decide +kernel
theorem dX4_findField_34 : decode cX4_findField 34 = .ok (.getfield 39, 3) := by decide +kernel
theorem dX4_findField_37 : decode cX4_findField 37 = .ok (.aload_n 0, 1) := by decide +kernel
theorem dX4_findField_38 : decode cX4_findField 38 = .ok (.getfield 67, 3) := by decide +kernel
theorem dX4_findField_41 : decode cX4_findField 41 = .ok (.invokevirtual 150, 3) := by decide +kernel
theorem dX4_findField_44 : decode cX4_findField 44 = .ok (.invokevirtual 283, 3) := by decide +kernel
theorem dX4_findField_47 : decode cX4_findField 47 = .ok (.aload_n 0, 1) := by decide +kernel
theorem dX4_findField_48 : decode cX4_findField 48 = .ok (.aload_n 0, 1) := by decide +kernel
theorem dX4_findField_49 : decode cX4_findField 49 = .ok (.getfield 39, 3) := by decide +kernel
theorem dX4_findField_52 : decode cX4_findField 52 = .ok (.aload_n 0, 1) := by decide +kernel
theorem dX4_findField_53 : decode cX4_findField 53 = .ok (.getfield 67, 3) := by decide +kernel
theorem dX4_findField_56 : decode cX4_findField 56 = .ok (.iload_n 2, 1) := by decide +kernel
theorem dX4_findField_57 : decode cX4_findField 57 = .ok (.invokevirtual 286, 3) := by decide +kernel
theorem dX4_findField_60 : decode cX4_findField 60 = .ok (.invokevirtual 171, 3) := by decide +kernel
theorem dX4_findField_63 : decode cX4_findField 63 = .ok (.return_, 1) := by decide +kernel
theorem dX4_failAsTold_0 : decode cX4_failAsTold 0 = .ok (.aload_n 0, 1) := by decide +kernel
theorem dX4_failAsTold_1 : decode cX4_failAsTold 1 = .ok (.getfield 67, 3) := by decide +kernel
theorem dX4_failAsTold_4 : decode cX4_failAsTold 4 = .ok (.invokestatic 137, 3) := by decide +kernel
theorem dX4_failAsTold_7 : decode cX4_failAsTold 7 = .ok (.ifCond .ne 11, 3) := by decide +kernel
theorem dX4_failAsTold_10 : decode cX4_failAsTold 10 = .ok (.aload_n 0, 1) := by decide +kernel
theorem dX4_failAsTold_11 : decode cX4_failAsTold 11 = .ok (.iconst 1, 1) := by decide +kernel
theorem dX4_failAsTold_12 : decode cX4_failAsTold 12 = .ok (.invokevirtual 159, 3) := by decide +kernel
theorem dX4_failAsTold_15 : decode cX4_failAsTold 15 = .ok (.goto 34, 3) := by decide +kernel
theorem dX4_failAsTold_18 : decode cX4_failAsTold 18 = .ok (.aload_n 0, 1) := by decide +kernel
theorem dX4_failAsTold_19 : decode cX4_failAsTold 19 = .ok (.aload_n 0, 1) := by decide +kernel
theorem dX4_failAsTold_20 : decode cX4_failAsTold 20 = .ok (.getfield 67, 3) := by decide +kernel
theorem dX4_failAsTold_23 : decode cX4_failAsTold 23 = .ok (.ifCond .lt 22, 3) := by decide +kernel
theorem dX4_failAsTold_26 : decode cX4_failAsTold 26 = .ok (.aload_n 0, 1) := by decide +kernel
theorem dX4_failAsTold_27 : decode cX4_failAsTold 27 = .ok (.getfield 67, 3) := by decide +kernel
theorem dX4_failAsTold_30 : decode cX4_failAsTold 30 = .ok (.bipush 9, 2) := by decide +kernel
theorem dX4_failAsTold_32 : decode cX4_failAsTold 32 = .ok (.if_icmp .gt 13, 3) := by decide +kernel
theorem dX4_failAsTold_35 : decode cX4_failAsTold 35 = .ok (.bipush 10, 2) := by decide +kernel
theorem dX4_failAsTold_37 : decode cX4_failAsTold 37 = .ok (.aload_n 0, 1) := by decide +kernel
theorem dX4_failAsTold_38 : decode cX4_failAsTold 38 = .ok (.getfield 67, 3) := by decide +kernel
theorem dX4_failAsTold_41 : decode cX4_failAsTold 41 = .ok (.iadd, 1) := by decide +kernel
theorem dX4_failAsTold_42 : decode cX4_failAsTold 42 = .ok (.goto 4, 3) := by decide +kernel
theorem dX4_failAsTold_45 : decode cX4_failAsTold 45 = .ok (.iconst 4, 1) := by decide +kernel
theorem dX4_failAsTold_46 : decode cX4_failAsTold 46 = .ok (.invokevirtual 159, 3) := by decide +kernel
theorem dX4_failAsTold_49 : decode cX4_failAsTold 49 = .ok (.return_, 1) := by decide +kernel
theorem dX5_init_0 : decode cX5_init 0 = .ok (.aload_n 0, 1) := by decide +kernel
theorem dX5_init_1 : decode cX5_init 1 = .ok (.invokespecial 3, 3) := by decide +kernel
theorem dX5_init_4 : decode cX5_init 4 = .ok (.aload_n 0, 1) := by decide +kernel
theorem dX5_init_5 : decode cX5_init 5 = .ok (.bipush 40, 2) := by decide +kernel
theorem dX5_init_7 : decode cX5_init 7 = .ok (.newarray .int, 2) := by decide +kernel
theorem dX5_init_9 : decode cX5_init 9 = .ok (.putfield 9, 3) := by decide +kernel
theorem dX5_init_12 : decode cX5_init 12 = .ok (.aload_n 0, 1) := by decide +kernel
theorem dX5_init_13 : decode cX5_init 13 = .ok (.bipush 40, 2) := by decide +kernel
theorem dX5_init_15 : decode cX5_init 15 = .ok (.newarray .int, 2) := by decide +kernel
theorem dX5_init_17 : decode cX5_init 17 = .ok (.putfield 15, 3) := by decide +kernel
theorem dX5_init_20 : decode cX5_init 20 = .ok (.aload_n 0, 1) := by decide +kernel
theorem dX5_init_21 : decode cX5_init 21 = .ok (.bipush 40, 2) := by decide +kernel
theorem dX5_init_23 : decode cX5_init 23 = .ok (.newarray .int, 2) := by decide +kernel
theorem dX5_init_25 : decode cX5_init 25 = .ok (.putfield 18, 3) := by decide +kernel
theorem dX5_init_28 : decode cX5_init 28 = .ok (.aload_n 0, 1) := by decide +kernel
theorem dX5_init_29 : decode cX5_init 29 = .ok (.bipush 40, 2) := by decide +kernel
theorem dX5_init_31 : decode cX5_init 31 = .ok (.newarray .int, 2) := by decide +kernel
theorem dX5_init_33 : decode cX5_init 33 = .ok (.putfield 21, 3) := by decide +kernel
theorem dX5_init_36 : decode cX5_init 36 = .ok (.aload_n 0, 1) := by decide +kernel
theorem dX5_init_37 : decode cX5_init 37 = .ok (.bipush 40, 2) := by decide +kernel
theorem dX5_init_39 : decode cX5_init 39 = .ok (.newarray .int, 2) := by decide +kernel
theorem dX5_init_41 : decode cX5_init 41 = .ok (.putfield 24, 3) := by decide +kernel
theorem dX5_init_44 : decode cX5_init 44 = .ok (.aload_n 0, 1) := by decide +kernel
theorem dX5_init_45 : decode cX5_init 45 = .ok (.bipush 40, 2) := by decide +kernel
theorem dX5_init_47 : decode cX5_init 47 = .ok (.newarray .int, 2) := by decide +kernel
theorem dX5_init_49 : decode cX5_init 49 = .ok (.putfield 27, 3) := by decide +kernel
theorem dX5_init_52 : decode cX5_init 52 = .ok (.aload_n 0, 1) := by decide +kernel
theorem dX5_init_53 : decode cX5_init 53 = .ok (.iconst 0, 1) := by decide +kernel
theorem dX5_init_54 : decode cX5_init 54 = .ok (.putfield 30, 3) := by decide +kernel
theorem dX5_init_57 : decode cX5_init 57 = .ok (.aload_n 0, 1) := by decide +kernel
theorem dX5_init_58 : decode cX5_init 58 = .ok (.iconst 0, 1) := by decide +kernel
theorem dX5_init_59 : decode cX5_init 59 = .ok (.putfield 34, 3) := by decide +kernel
theorem dX5_init_62 : decode cX5_init 62 = .ok (.aload_n 0, 1) := by decide +kernel
theorem dX5_init_63 : decode cX5_init 63 = .ok (.getfield 9, 3) := by decide +kernel
theorem dX5_init_66 : decode cX5_init 66 = .ok (.iconst 0, 1) := by decide +kernel
theorem dX5_init_67 : decode cX5_init 67 = .ok (.bipush 48, 2) := by decide +kernel
theorem dX5_init_69 : decode cX5_init 69 = .ok (.iastore, 1) := by decide +kernel
theorem dX5_init_70 : decode cX5_init 70 = .ok (.aload_n 0, 1) := by decide +kernel
theorem dX5_init_71 : decode cX5_init 71 = .ok (.iconst 1, 1) := by decide +kernel
theorem dX5_init_72 : decode cX5_init 72 = .ok (.putfield 30, 3) := by decide +kernel
theorem dX5_init_75 : decode cX5_init 75 = .ok (.return_, 1) := by decide +kernel
theorem dX5_signOf_0 : decode cX5_signOf 0 = .ok (.aload_n 0, 1) := by decide +kernel
theorem dX5_signOf_1 : decode cX5_signOf 1 = .ok (.getfield 9, 3) := by decide +kernel
theorem dX5_signOf_4 : decode cX5_signOf 4 = .ok (.iload_n 1, 1) := by decide +kernel
theorem dX5_signOf_5 : decode cX5_signOf 5 = .ok (.invokestatic 37, 3) := by decide +kernel
theorem dX5_signOf_8 : decode cX5_signOf 8 = .ok (.ireturn, 1) := by decide +kernel
theorem dX5_variableOf_0 : decode cX5_variableOf 0 = .ok (.aload_n 0, 1) := by decide +kernel
theorem dX5_variableOf_1 : decode cX5_variableOf 1 = .ok (.getfield 15, 3) := by decide +kernel
theorem dX5_variableOf_4 : decode cX5_variableOf 4 = .ok (.iload_n 1, 1) := by decide +kernel
theorem dX5_variableOf_5 : decode cX5_variableOf 5 = .ok (.invokestatic 37, 3) := by decide +kernel
theorem dX5_variableOf_8 : decode cX5_variableOf 8 = .ok (.ireturn, 1) := by decide +kernel
theorem dX5_firstOf_0 : decode cX5_firstOf 0 = .ok (.iload_n 1, 1) := by decide +kernel
theorem dX5_firstOf_1 : decode cX5_firstOf 1 = .ok (.iconst 1, 1) := by decide +kernel
theorem dX5_firstOf_2 : decode cX5_firstOf 2 = .ok (.iadd, 1) := by decide +kernel
theorem dX5_firstOf_3 : decode cX5_firstOf 3 = .ok (.ireturn, 1) := by decide +kernel
theorem dX5_secondOf_0 : decode cX5_secondOf 0 = .ok (.aload_n 0, 1) := by decide +kernel
theorem dX5_secondOf_1 : decode cX5_secondOf 1 = .ok (.getfield 18, 3) := by decide +kernel
theorem dX5_secondOf_4 : decode cX5_secondOf 4 = .ok (.iload_n 1, 1) := by decide +kernel
theorem dX5_secondOf_5 : decode cX5_secondOf 5 = .ok (.invokestatic 37, 3) := by decide +kernel
theorem dX5_secondOf_8 : decode cX5_secondOf 8 = .ok (.ireturn, 1) := by decide +kernel
theorem dX5_thirdOf_0 : decode cX5_thirdOf 0 = .ok (.aload_n 0, 1) := by decide +kernel
theorem dX5_thirdOf_1 : decode cX5_thirdOf 1 = .ok (.getfield 21, 3) := by decide +kernel
theorem dX5_thirdOf_4 : decode cX5_thirdOf 4 = .ok (.iload_n 1, 1) := by decide +kernel
theorem dX5_thirdOf_5 : decode cX5_thirdOf 5 = .ok (.invokestatic 37, 3) := by decide +kernel
theorem dX5_thirdOf_8 : decode cX5_thirdOf 8 = .ok (.ireturn, 1) := by decide +kernel
theorem dX5_siteOf_0 : decode cX5_siteOf 0 = .ok (.aload_n 0, 1) := by decide +kernel
theorem dX5_siteOf_1 : decode cX5_siteOf 1 = .ok (.getfield 24, 3) := by decide +kernel
theorem dX5_siteOf_4 : decode cX5_siteOf 4 = .ok (.iload_n 1, 1) := by decide +kernel
theorem dX5_siteOf_5 : decode cX5_siteOf 5 = .ok (.invokestatic 37, 3) := by decide +kernel
theorem dX5_siteOf_8 : decode cX5_siteOf 8 = .ok (.ireturn, 1) := by decide +kernel
theorem dX5_isAtEnd_0 : decode cX5_isAtEnd 0 = .ok (.aload_n 0, 1) := by decide +kernel
theorem dX5_isAtEnd_1 : decode cX5_isAtEnd 1 = .ok (.getfield 27, 3) := by decide +kernel
theorem dX5_isAtEnd_4 : decode cX5_isAtEnd 4 = .ok (.iload_n 1, 1) := by decide +kernel
theorem dX5_isAtEnd_5 : decode cX5_isAtEnd 5 = .ok (.invokestatic 37, 3) := by decide +kernel
theorem dX5_isAtEnd_8 : decode cX5_isAtEnd 8 = .ok (.iconst 1, 1) := by decide +kernel
theorem dX5_isAtEnd_9 : decode cX5_isAtEnd 9 = .ok (.if_icmp .ne 7, 3) := by decide +kernel
theorem dX5_isAtEnd_12 : decode cX5_isAtEnd 12 = .ok (.iconst 1, 1) := by decide +kernel
theorem dX5_isAtEnd_13 : decode cX5_isAtEnd 13 = .ok (.goto 4, 3) := by decide +kernel
theorem dX5_isAtEnd_16 : decode cX5_isAtEnd 16 = .ok (.iconst 0, 1) := by decide +kernel
theorem dX5_isAtEnd_17 : decode cX5_isAtEnd 17 = .ok (.ireturn, 1) := by decide +kernel
theorem dX5_empty_0 : decode cX5_empty 0 = .ok (.aload_n 0, 1) := by decide +kernel
theorem dX5_empty_1 : decode cX5_empty 1 = .ok (.iconst 0, 1) := by decide +kernel
theorem dX5_empty_2 : decode cX5_empty 2 = .ok (.putfield 30, 3) := by decide +kernel
theorem dX5_empty_5 : decode cX5_empty 5 = .ok (.aload_n 0, 1) := by decide +kernel
theorem dX5_empty_6 : decode cX5_empty 6 = .ok (.iconst 0, 1) := by decide +kernel
theorem dX5_empty_7 : decode cX5_empty 7 = .ok (.putfield 34, 3) := by decide +kernel
theorem dX5_empty_10 : decode cX5_empty 10 = .ok (.return_, 1) := by decide +kernel
theorem dX5_add_0 : decode cX5_add 0 = .ok (.aload_n 0, 1) := by decide +kernel
theorem dX5_add_1 : decode cX5_add 1 = .ok (.getfield 30, 3) := by decide +kernel
theorem dX5_add_4 : decode cX5_add 4 = .ok (.istore 4, 2) := by decide +kernel
theorem dX5_add_6 : decode cX5_add 6 = .ok (.aload_n 0, 1) := by decide +kernel
theorem dX5_add_7 : decode cX5_add 7 = .ok (.getfield 9, 3) := by decide +kernel
theorem dX5_add_10 : decode cX5_add 10 = .ok (.iload 4, 2) := by decide +kernel
theorem dX5_add_12 : decode cX5_add 12 = .ok (.iload_n 1, 1) := by decide +kernel
theorem dX5_add_13 : decode cX5_add 13 = .ok (.invokestatic 41, 3) := by decide +kernel
theorem dX5_add_16 : decode cX5_add 16 = .ok (.aload_n 0, 1) := by decide +kernel
theorem dX5_add_17 : decode cX5_add 17 = .ok (.getfield 15, 3) := by decide +kernel
theorem dX5_add_20 : decode cX5_add 20 = .ok (.iload 4, 2) := by decide +kernel
theorem dX5_add_22 : decode cX5_add 22 = .ok (.iload_n 1, 1) := by decide +kernel
theorem dX5_add_23 : decode cX5_add 23 = .ok (.bipush 97, 2) := by decide +kernel
theorem dX5_add_25 : decode cX5_add 25 = .ok (.isub, 1) := by decide +kernel
theorem dX5_add_26 : decode cX5_add 26 = .ok (.invokestatic 41, 3) := by decide +kernel
theorem dX5_add_29 : decode cX5_add 29 = .ok (.aload_n 0, 1) := by decide +kernel
theorem dX5_add_30 : decode cX5_add 30 = .ok (.getfield 27, 3) := by decide +kernel
theorem dX5_add_33 : decode cX5_add 33 = .ok (.iload 4, 2) := by decide +kernel
theorem dX5_add_35 : decode cX5_add 35 = .ok (.aload_n 0, 1) := by decide +kernel
theorem dX5_add_36 : decode cX5_add 36 = .ok (.iload_n 2, 1) := by decide +kernel
theorem dX5_add_37 : decode cX5_add 37 = .ok (.iload_n 3, 1) := by decide +kernel
theorem dX5_add_38 : decode cX5_add 38 = .ok (.invokevirtual 45, 3) := by decide +kernel
theorem dX5_add_41 : decode cX5_add 41 = .ok (.ifCond .eq 7, 3) := by decide +kernel
theorem dX5_add_44 : decode cX5_add 44 = .ok (.iconst 1, 1) := by decide +kernel
theorem dX5_add_45 : decode cX5_add 45 = .ok (.goto 4, 3) := by decide +kernel
theorem dX5_add_48 : decode cX5_add 48 = .ok (.iconst 0, 1) := by decide +kernel
theorem dX5_add_49 : decode cX5_add 49 = .ok (.invokestatic 41, 3) := by decide +kernel
theorem dX5_add_52 : decode cX5_add 52 = .ok (.iload_n 1, 1) := by decide +kernel
theorem dX5_add_53 : decode cX5_add 53 = .ok (.invokestatic 49, 3) := by decide +kernel
theorem dX5_add_56 : decode cX5_add 56 = .ok (.ifCond .eq 26, 3) := by decide +kernel
theorem dX5_add_59 : decode cX5_add 59 = .ok (.aload_n 0, 1) := by decide +kernel
theorem dX5_add_60 : decode cX5_add 60 = .ok (.getfield 24, 3) := by decide +kernel
theorem dX5_add_63 : decode cX5_add 63 = .ok (.iload 4, 2) := by decide +kernel
theorem dX5_add_65 : decode cX5_add 65 = .ok (.aload_n 0, 1) := by decide +kernel
theorem dX5_add_66 : decode cX5_add 66 = .ok (.getfield 34, 3) := by decide +kernel
theorem dX5_add_69 : decode cX5_add 69 = .ok (.invokestatic 41, 3) := by decide +kernel
theorem dX5_add_72 : decode cX5_add 72 = .ok (.aload_n 0, 1) := by decide +kernel
theorem dX5_add_73 : decode cX5_add 73 = .ok (.dup, 1) := by decide +kernel
theorem dX5_add_74 : decode cX5_add 74 = .ok (.getfield 34, 3) := by decide +kernel
theorem dX5_add_77 : decode cX5_add 77 = .ok (.iconst 1, 1) := by decide +kernel
theorem dX5_add_78 : decode cX5_add 78 = .ok (.iadd, 1) := by decide +kernel
theorem dX5_add_79 : decode cX5_add 79 = .ok (.putfield 34, 3) := by decide +kernel
theorem dX5_add_82 : decode cX5_add 82 = .ok (.iload_n 3, 1) := by decide +kernel
theorem dX5_add_83 : decode cX5_add 83 = .ok (.bipush 50, 2) := by decide +kernel
theorem dX5_add_85 : decode cX5_add 85 = .ok (.if_icmp .ne 13, 3) := by decide +kernel
theorem dX5_add_88 : decode cX5_add 88 = .ok (.aload_n 0, 1) := by decide +kernel
theorem dX5_add_89 : decode cX5_add 89 = .ok (.getfield 18, 3) := by decide +kernel
theorem dX5_add_92 : decode cX5_add 92 = .ok (.iload_n 2, 1) := by decide +kernel
theorem dX5_add_93 : decode cX5_add 93 = .ok (.iload 4, 2) := by decide +kernel
theorem dX5_add_95 : decode cX5_add 95 = .ok (.invokestatic 41, 3) := by decide +kernel
theorem dX5_add_98 : decode cX5_add 98 = .ok (.iload_n 3, 1) := by decide +kernel
theorem dX5_add_99 : decode cX5_add 99 = .ok (.bipush 51, 2) := by decide +kernel
theorem dX5_add_101 : decode cX5_add 101 = .ok (.if_icmp .ne 13, 3) := by decide +kernel
theorem dX5_add_104 : decode cX5_add 104 = .ok (.aload_n 0, 1) := by decide +kernel
theorem dX5_add_105 : decode cX5_add 105 = .ok (.getfield 21, 3) := by decide +kernel
theorem dX5_add_108 : decode cX5_add 108 = .ok (.iload_n 2, 1) := by decide +kernel
theorem dX5_add_109 : decode cX5_add 109 = .ok (.iload 4, 2) := by decide +kernel
theorem dX5_add_111 : decode cX5_add 111 = .ok (.invokestatic 41, 3) := by decide +kernel
theorem dX5_add_114 : decode cX5_add 114 = .ok (.aload_n 0, 1) := by decide +kernel
theorem dX5_add_115 : decode cX5_add 115 = .ok (.dup, 1) := by decide +kernel
theorem dX5_add_116 : decode cX5_add 116 = .ok (.getfield 30, 3) := by decide +kernel
theorem dX5_add_119 : decode cX5_add 119 = .ok (.iconst 1, 1) := by decide +kernel
theorem dX5_add_120 : decode cX5_add 120 = .ok (.iadd, 1) := by decide +kernel
theorem dX5_add_121 : decode cX5_add 121 = .ok (.putfield 30, 3) := by decide +kernel
theorem dX5_add_124 : decode cX5_add 124 = .ok (.return_, 1) := by decide +kernel
theorem dX5_nameVariable_0 : decode cX5_nameVariable 0 = .ok (.aload_n 0, 1) := by decide +kernel
theorem dX5_nameVariable_1 : decode cX5_nameVariable 1 = .ok (.getfield 15, 3) := by decide +kernel
theorem dX5_nameVariable_4 : decode cX5_nameVariable 4 = .ok (.iload_n 1, 1) := by decide +kernel
theorem dX5_nameVariable_5 : decode cX5_nameVariable 5 = .ok (.iload_n 2, 1) := by decide +kernel
theorem dX5_nameVariable_6 : decode cX5_nameVariable 6 = .ok (.bipush 97, 2) := by decide +kernel
theorem dX5_nameVariable_8 : decode cX5_nameVariable 8 = .ok (.isub, 1) := by decide +kernel
theorem dX5_nameVariable_9 : decode cX5_nameVariable 9 = .ok (.invokestatic 41, 3) := by decide +kernel
theorem dX5_nameVariable_12 : decode cX5_nameVariable 12 = .ok (.return_, 1) := by decide +kernel
theorem dX5_comesToEnd_0 : decode cX5_comesToEnd 0 = .ok (.iload_n 1, 1) := by decide +kernel
theorem dX5_comesToEnd_1 : decode cX5_comesToEnd 1 = .ok (.ifCond .ge 5, 3) := by decide +kernel
theorem dX5_comesToEnd_4 : decode cX5_comesToEnd 4 = .ok (.iconst 0, 1) := by decide +kernel
theorem dX5_comesToEnd_5 : decode cX5_comesToEnd 5 = .ok (.ireturn, 1) := by decide +kernel
theorem dX5_comesToEnd_6 : decode cX5_comesToEnd 6 = .ok (.aload_n 0, 1) := by decide +kernel
theorem dX5_comesToEnd_7 : decode cX5_comesToEnd 7 = .ok (.iload_n 1, 1) := by decide +kernel
theorem dX5_comesToEnd_8 : decode cX5_comesToEnd 8 = .ok (.invokevirtual 55, 3) := by decide +kernel
theorem dX5_comesToEnd_11 : decode cX5_comesToEnd 11 = .ok (.lookupswitch 91 #[(44, 71), (63, 51), (70, 49), (76, 71), (89, 71)], 49) := by decide +kernel
theorem dX5_comesToEnd_60 : decode cX5_comesToEnd 60 = .ok (.iconst 1, 1) := by decide +kernel
theorem dX5_comesToEnd_61 : decode cX5_comesToEnd 61 = .ok (.ireturn, 1) := by decide +kernel
theorem dX5_comesToEnd_62 : decode cX5_comesToEnd 62 = .ok (.iload_n 2, 1) := by decide +kernel
theorem dX5_comesToEnd_63 : decode cX5_comesToEnd 63 = .ok (.bipush 49, 2) := by decide +kernel
theorem dX5_comesToEnd_65 : decode cX5_comesToEnd 65 = .ok (.if_icmp .eq 15, 3) := by decide +kernel
theorem dX5_comesToEnd_68 : decode cX5_comesToEnd 68 = .ok (.aload_n 0, 1) := by decide +kernel
theorem dX5_comesToEnd_69 : decode cX5_comesToEnd 69 = .ok (.iload_n 1, 1) := by decide +kernel
theorem dX5_comesToEnd_70 : decode cX5_comesToEnd 70 = .ok (.invokevirtual 59, 3) := by decide +kernel
theorem dX5_comesToEnd_73 : decode cX5_comesToEnd 73 = .ok (.ifCond .eq 7, 3) := by decide +kernel
theorem dX5_comesToEnd_76 : decode cX5_comesToEnd 76 = .ok (.iconst 1, 1) := by decide +kernel
theorem dX5_comesToEnd_77 : decode cX5_comesToEnd 77 = .ok (.goto 4, 3) := by decide +kernel
theorem dX5_comesToEnd_80 : decode cX5_comesToEnd 80 = .ok (.iconst 0, 1) := by decide +kernel
theorem dX5_comesToEnd_81 : decode cX5_comesToEnd 81 = .ok (.ireturn, 1) := by decide +kernel
theorem dX5_comesToEnd_82 : decode cX5_comesToEnd 82 = .ok (.iload_n 2, 1) := by decide +kernel
theorem dX5_comesToEnd_83 : decode cX5_comesToEnd 83 = .ok (.bipush 50, 2) := by decide +kernel
theorem dX5_comesToEnd_85 : decode cX5_comesToEnd 85 = .ok (.if_icmp .ne 15, 3) := by decide +kernel
theorem dX5_comesToEnd_88 : decode cX5_comesToEnd 88 = .ok (.aload_n 0, 1) := by decide +kernel
theorem dX5_comesToEnd_89 : decode cX5_comesToEnd 89 = .ok (.iload_n 1, 1) := by decide +kernel
theorem dX5_comesToEnd_90 : decode cX5_comesToEnd 90 = .ok (.invokevirtual 59, 3) := by decide +kernel
theorem dX5_comesToEnd_93 : decode cX5_comesToEnd 93 = .ok (.ifCond .eq 7, 3) := by decide +kernel
theorem dX5_comesToEnd_96 : decode cX5_comesToEnd 96 = .ok (.iconst 1, 1) := by decide +kernel
theorem dX5_comesToEnd_97 : decode cX5_comesToEnd 97 = .ok (.goto 4, 3) := by decide +kernel
theorem dX5_comesToEnd_100 : decode cX5_comesToEnd 100 = .ok (.iconst 0, 1) := by decide +kernel
theorem dX5_comesToEnd_101 : decode cX5_comesToEnd 101 = .ok (.ireturn, 1) := by decide +kernel
theorem dX5_comesToEnd_102 : decode cX5_comesToEnd 102 = .ok (.iconst 0, 1) := by decide +kernel
theorem dX5_comesToEnd_103 : decode cX5_comesToEnd 103 = .ok (.ireturn, 1) := by decide +kernel
theorem dX5_copyFrom_0 : decode cX5_copyFrom 0 = .ok (.aload_n 1, 1) := by decide +kernel
theorem dX5_copyFrom_1 : decode cX5_copyFrom 1 = .ok (.getfield 9, 3) := by decide +kernel
theorem dX5_copyFrom_4 : decode cX5_copyFrom 4 = .ok (.aload_n 0, 1) := by decide +kernel
theorem dX5_copyFrom_5 : decode cX5_copyFrom 5 = .ok (.getfield 9, 3) := by decide +kernel
theorem dX5_copyFrom_8 : decode cX5_copyFrom 8 = .ok (.invokestatic 62, 3) := by decide +kernel
theorem dX5_copyFrom_11 : decode cX5_copyFrom 11 = .ok (.aload_n 1, 1) := by decide +kernel
theorem dX5_copyFrom_12 : decode cX5_copyFrom 12 = .ok (.getfield 15, 3) := by decide +kernel
theorem dX5_copyFrom_15 : decode cX5_copyFrom 15 = .ok (.aload_n 0, 1) := by decide +kernel
theorem dX5_copyFrom_16 : decode cX5_copyFrom 16 = .ok (.getfield 15, 3) := by decide +kernel
theorem dX5_copyFrom_19 : decode cX5_copyFrom 19 = .ok (.invokestatic 62, 3) := by decide +kernel
theorem dX5_copyFrom_22 : decode cX5_copyFrom 22 = .ok (.aload_n 1, 1) := by decide +kernel
theorem dX5_copyFrom_23 : decode cX5_copyFrom 23 = .ok (.getfield 18, 3) := by decide +kernel
theorem dX5_copyFrom_26 : decode cX5_copyFrom 26 = .ok (.aload_n 0, 1) := by decide +kernel
theorem dX5_copyFrom_27 : decode cX5_copyFrom 27 = .ok (.getfield 18, 3) := by decide +kernel
theorem dX5_copyFrom_30 : decode cX5_copyFrom 30 = .ok (.invokestatic 62, 3) := by decide +kernel
theorem dX5_copyFrom_33 : decode cX5_copyFrom 33 = .ok (.aload_n 1, 1) := by decide +kernel
theorem dX5_copyFrom_34 : decode cX5_copyFrom 34 = .ok (.getfield 21, 3) := by decide +kernel
theorem dX5_copyFrom_37 : decode cX5_copyFrom 37 = .ok (.aload_n 0, 1) := by decide +kernel
theorem dX5_copyFrom_38 : decode cX5_copyFrom 38 = .ok (.getfield 21, 3) := by decide +kernel
theorem dX5_copyFrom_41 : decode cX5_copyFrom 41 = .ok (.invokestatic 62, 3) := by decide +kernel
theorem dX5_copyFrom_44 : decode cX5_copyFrom 44 = .ok (.aload_n 1, 1) := by decide +kernel
theorem dX5_copyFrom_45 : decode cX5_copyFrom 45 = .ok (.getfield 24, 3) := by decide +kernel
theorem dX5_copyFrom_48 : decode cX5_copyFrom 48 = .ok (.aload_n 0, 1) := by decide +kernel
theorem dX5_copyFrom_49 : decode cX5_copyFrom 49 = .ok (.getfield 24, 3) := by decide +kernel
theorem dX5_copyFrom_52 : decode cX5_copyFrom 52 = .ok (.invokestatic 62, 3) := by decide +kernel
theorem dX5_copyFrom_55 : decode cX5_copyFrom 55 = .ok (.aload_n 1, 1) := by decide +kernel
theorem dX5_copyFrom_56 : decode cX5_copyFrom 56 = .ok (.getfield 27, 3) := by decide +kernel
theorem dX5_copyFrom_59 : decode cX5_copyFrom 59 = .ok (.aload_n 0, 1) := by decide +kernel
theorem dX5_copyFrom_60 : decode cX5_copyFrom 60 = .ok (.getfield 27, 3) := by decide +kernel
theorem dX5_copyFrom_63 : decode cX5_copyFrom 63 = .ok (.invokestatic 62, 3) := by decide +kernel
theorem dX5_copyFrom_66 : decode cX5_copyFrom 66 = .ok (.aload_n 0, 1) := by decide +kernel
theorem dX5_copyFrom_67 : decode cX5_copyFrom 67 = .ok (.aload_n 1, 1) := by decide +kernel
theorem dX5_copyFrom_68 : decode cX5_copyFrom 68 = .ok (.getfield 30, 3) := by decide +kernel
theorem dX5_copyFrom_71 : decode cX5_copyFrom 71 = .ok (.putfield 30, 3) := by decide +kernel
theorem dX5_copyFrom_74 : decode cX5_copyFrom 74 = .ok (.aload_n 0, 1) := by decide +kernel
theorem dX5_copyFrom_75 : decode cX5_copyFrom 75 = .ok (.aload_n 1, 1) := by decide +kernel
theorem dX5_copyFrom_76 : decode cX5_copyFrom 76 = .ok (.getfield 34, 3) := by decide +kernel
theorem dX5_copyFrom_79 : decode cX5_copyFrom 79 = .ok (.putfield 34, 3) := by decide +kernel
theorem dX5_copyFrom_82 : decode cX5_copyFrom 82 = .ok (.return_, 1) := by decide +kernel
theorem dX6_init_0 : decode cX6_init 0 = .ok (.aload_n 0, 1) := by decide +kernel
theorem dX6_init_1 : decode cX6_init 1 = .ok (.invokespecial 3, 3) := by decide +kernel
theorem dX6_init_4 : decode cX6_init 4 = .ok (.aload_n 0, 1) := by decide +kernel
theorem dX6_init_5 : decode cX6_init 5 = .ok (.new 9, 3) := by decide +kernel
theorem dX6_init_8 : decode cX6_init 8 = .ok (.dup, 1) := by decide +kernel
theorem dX6_init_9 : decode cX6_init 9 = .ok (.invokespecial 11, 3) := by decide +kernel
theorem dX6_init_12 : decode cX6_init 12 = .ok (.putfield 12, 3) := by decide +kernel
theorem dX6_init_15 : decode cX6_init 15 = .ok (.aload_n 0, 1) := by decide +kernel
theorem dX6_init_16 : decode cX6_init 16 = .ok (.bipush 6, 2) := by decide +kernel
theorem dX6_init_18 : decode cX6_init 18 = .ok (.newarray .int, 2) := by decide +kernel
theorem dX6_init_20 : decode cX6_init 20 = .ok (.putfield 18, 3) := by decide +kernel
theorem dX6_init_23 : decode cX6_init 23 = .ok (.aload_n 0, 1) := by decide +kernel
theorem dX6_init_24 : decode cX6_init 24 = .ok (.new 22, 3) := by decide +kernel
theorem dX6_init_27 : decode cX6_init 27 = .ok (.dup, 1) := by decide +kernel
theorem dX6_init_28 : decode cX6_init 28 = .ok (.invokespecial 24, 3) := by decide +kernel
theorem dX6_init_31 : decode cX6_init 31 = .ok (.putfield 25, 3) := by decide +kernel
theorem dX6_init_34 : decode cX6_init 34 = .ok (.aload_n 0, 1) := by decide +kernel
theorem dX6_init_35 : decode cX6_init 35 = .ok (.new 29, 3) := by decide +kernel
theorem dX6_init_38 : decode cX6_init 38 = .ok (.dup, 1) := by decide +kernel
theorem dX6_init_39 : decode cX6_init 39 = .ok (.invokespecial 31, 3) := by decide +kernel
theorem dX6_init_42 : decode cX6_init 42 = .ok (.putfield 32, 3) := by decide +kernel
theorem dX6_init_45 : decode cX6_init 45 = .ok (.aload_n 0, 1) := by decide +kernel
theorem dX6_init_46 : decode cX6_init 46 = .ok (.iconst 0, 1) := by decide +kernel
theorem dX6_init_47 : decode cX6_init 47 = .ok (.putfield 36, 3) := by decide +kernel
theorem dX6_init_50 : decode cX6_init 50 = .ok (.aload_n 0, 1) := by decide +kernel
end
section
theorem dX6_init_51 : decode cX6_init 51 = .ok (.iconst 0, 1) := by decide +kernel
theorem dX6_init_52 : decode cX6_init 52 = .ok (.putfield 40, 3) := by decide +kernel
theorem dX6_init_55 : decode cX6_init 55 = .ok (.return_, 1) := by decide +kernel
theorem dX6_startAnew_0 : decode cX6_startAnew 0 = .ok (.aload_n 0, 1) := by decide +kernel
theorem dX6_startAnew_1 : decode cX6_startAnew 1 = .ok (.getfield 25, 3) := by decide +kernel
theorem dX6_startAnew_4 : decode cX6_startAnew 4 = .ok (.invokevirtual 44, 3) := by decide +kernel
theorem dX6_startAnew_7 : decode cX6_startAnew 7 = .ok (.aload_n 0, 1) := by decide +kernel
theorem dX6_startAnew_8 : decode cX6_startAnew 8 = .ok (.iconst 0, 1) := by decide +kernel
theorem dX6_startAnew_9 : decode cX6_startAnew 9 = .ok (.putfield 36, 3) := by decide +kernel
theorem dX6_startAnew_12 : decode cX6_startAnew 12 = .ok (.aload_n 0, 1) := by decide +kernel
theorem dX6_startAnew_13 : decode cX6_startAnew 13 = .ok (.iconst 0, 1) := by decide +kernel
theorem dX6_startAnew_14 : decode cX6_startAnew 14 = .ok (.putfield 40, 3) := by decide +kernel
theorem dX6_startAnew_17 : decode cX6_startAnew 17 = .ok (.return_, 1) := by decide +kernel
theorem dX6_keepRun_0 : decode cX6_keepRun 0 = .ok (.aload_n 1, 1) := by decide +kernel
theorem dX6_keepRun_1 : decode cX6_keepRun 1 = .ok (.getfield 47, 3) := by decide +kernel
theorem dX6_keepRun_4 : decode cX6_keepRun 4 = .ok (.aload_n 0, 1) := by decide +kernel
theorem dX6_keepRun_5 : decode cX6_keepRun 5 = .ok (.getfield 18, 3) := by decide +kernel
theorem dX6_keepRun_8 : decode cX6_keepRun 8 = .ok (.invokestatic 50, 3) := by decide +kernel
theorem dX6_keepRun_11 : decode cX6_keepRun 11 = .ok (.aload_n 0, 1) := by decide +kernel
theorem dX6_keepRun_12 : decode cX6_keepRun 12 = .ok (.getfield 25, 3) := by decide +kernel
theorem dX6_keepRun_15 : decode cX6_keepRun 15 = .ok (.aload_n 1, 1) := by decide +kernel
theorem dX6_keepRun_16 : decode cX6_keepRun 16 = .ok (.getfield 54, 3) := by decide +kernel
theorem dX6_keepRun_19 : decode cX6_keepRun 19 = .ok (.invokevirtual 55, 3) := by decide +kernel
theorem dX6_keepRun_22 : decode cX6_keepRun 22 = .ok (.aload_n 0, 1) := by decide +kernel
theorem dX6_keepRun_23 : decode cX6_keepRun 23 = .ok (.getfield 32, 3) := by decide +kernel
theorem dX6_keepRun_26 : decode cX6_keepRun 26 = .ok (.aload_n 2, 1) := by decide +kernel
theorem dX6_keepRun_27 : decode cX6_keepRun 27 = .ok (.invokevirtual 59, 3) := by decide +kernel
theorem dX6_keepRun_30 : decode cX6_keepRun 30 = .ok (.aload_n 0, 1) := by decide +kernel
theorem dX6_keepRun_31 : decode cX6_keepRun 31 = .ok (.iconst 1, 1) := by decide +kernel
theorem dX6_keepRun_32 : decode cX6_keepRun 32 = .ok (.putfield 36, 3) := by decide +kernel
theorem dX6_keepRun_35 : decode cX6_keepRun 35 = .ok (.aload_n 0, 1) := by decide +kernel
theorem dX6_keepRun_36 : decode cX6_keepRun 36 = .ok (.aload_n 0, 1) := by decide +kernel
theorem dX6_keepRun_37 : decode cX6_keepRun 37 = .ok (.getfield 40, 3) := by decide +kernel
theorem dX6_keepRun_40 : decode cX6_keepRun 40 = .ok (.iconst 1, 1) := by decide +kernel
theorem dX6_keepRun_41 : decode cX6_keepRun 41 = .ok (.iadd, 1) := by decide +kernel
theorem dX6_keepRun_42 : decode cX6_keepRun 42 = .ok (.bipush 99, 2) := by decide +kernel
theorem dX6_keepRun_44 : decode cX6_keepRun 44 = .ok (.invokestatic 62, 3) := by decide +kernel
theorem dX6_keepRun_47 : decode cX6_keepRun 47 = .ok (.putfield 40, 3) := by decide +kernel
theorem dX6_keepRun_50 : decode cX6_keepRun 50 = .ok (.return_, 1) := by decide +kernel
theorem dX6_copyFrom_0 : decode cX6_copyFrom 0 = .ok (.aload_n 0, 1) := by decide +kernel
theorem dX6_copyFrom_1 : decode cX6_copyFrom 1 = .ok (.getfield 12, 3) := by decide +kernel
theorem dX6_copyFrom_4 : decode cX6_copyFrom 4 = .ok (.aload_n 1, 1) := by decide +kernel
theorem dX6_copyFrom_5 : decode cX6_copyFrom 5 = .ok (.getfield 12, 3) := by decide +kernel
theorem dX6_copyFrom_8 : decode cX6_copyFrom 8 = .ok (.invokevirtual 68, 3) := by decide +kernel
theorem dX6_copyFrom_11 : decode cX6_copyFrom 11 = .ok (.aload_n 1, 1) := by decide +kernel
theorem dX6_copyFrom_12 : decode cX6_copyFrom 12 = .ok (.getfield 18, 3) := by decide +kernel
theorem dX6_copyFrom_15 : decode cX6_copyFrom 15 = .ok (.aload_n 0, 1) := by decide +kernel
theorem dX6_copyFrom_16 : decode cX6_copyFrom 16 = .ok (.getfield 18, 3) := by decide +kernel
theorem dX6_copyFrom_19 : decode cX6_copyFrom 19 = .ok (.invokestatic 50, 3) := by decide +kernel
theorem dX6_copyFrom_22 : decode cX6_copyFrom 22 = .ok (.aload_n 0, 1) := by decide +kernel
theorem dX6_copyFrom_23 : decode cX6_copyFrom 23 = .ok (.getfield 25, 3) := by decide +kernel
theorem dX6_copyFrom_26 : decode cX6_copyFrom 26 = .ok (.aload_n 1, 1) := by decide +kernel
theorem dX6_copyFrom_27 : decode cX6_copyFrom 27 = .ok (.getfield 25, 3) := by decide +kernel
theorem dX6_copyFrom_30 : decode cX6_copyFrom 30 = .ok (.invokevirtual 55, 3) := by decide +kernel
theorem dX6_copyFrom_33 : decode cX6_copyFrom 33 = .ok (.aload_n 0, 1) := by decide +kernel
theorem dX6_copyFrom_34 : decode cX6_copyFrom 34 = .ok (.getfield 32, 3) := by decide +kernel
theorem dX6_copyFrom_37 : decode cX6_copyFrom 37 = .ok (.aload_n 1, 1) := by decide +kernel
theorem dX6_copyFrom_38 : decode cX6_copyFrom 38 = .ok (.getfield 32, 3) := by decide +kernel
theorem dX6_copyFrom_41 : decode cX6_copyFrom 41 = .ok (.invokevirtual 59, 3) := by decide +kernel
theorem dX6_copyFrom_44 : decode cX6_copyFrom 44 = .ok (.aload_n 0, 1) := by decide +kernel
theorem dX6_copyFrom_45 : decode cX6_copyFrom 45 = .ok (.aload_n 1, 1) := by decide +kernel
theorem dX6_copyFrom_46 : decode cX6_copyFrom 46 = .ok (.getfield 36, 3) := by decide +kernel
theorem dX6_copyFrom_49 : decode cX6_copyFrom 49 = .ok (.putfield 36, 3) := by decide +kernel
theorem dX6_copyFrom_52 : decode cX6_copyFrom 52 = .ok (.aload_n 0, 1) := by decide +kernel
theorem dX6_copyFrom_53 : decode cX6_copyFrom 53 = .ok (.aload_n 1, 1) := by decide +kernel
theorem dX6_copyFrom_54 : decode cX6_copyFrom 54 = .ok (.getfield 40, 3) := by decide +kernel
theorem dX6_copyFrom_57 : decode cX6_copyFrom 57 = .ok (.putfield 40, 3) := by decide +kernel
theorem dX6_copyFrom_60 : decode cX6_copyFrom 60 = .ok (.return_, 1) := by decide +kernel
theorem dX7_init_0 : decode cX7_init 0 = .ok (.aload_n 0, 1) := by decide +kernel
theorem dX7_init_1 : decode cX7_init 1 = .ok (.invokespecial 3, 3) := by decide +kernel
theorem dX7_init_4 : decode cX7_init 4 = .ok (.aload_n 0, 1) := by decide +kernel
theorem dX7_init_5 : decode cX7_init 5 = .ok (.sipush 400, 3) := by decide +kernel
theorem dX7_init_8 : decode cX7_init 8 = .ok (.newarray .int, 2) := by decide +kernel
theorem dX7_init_10 : decode cX7_init 10 = .ok (.putfield 9, 3) := by decide +kernel
theorem dX7_init_13 : decode cX7_init 13 = .ok (.aload_n 0, 1) := by decide +kernel
theorem dX7_init_14 : decode cX7_init 14 = .ok (.sipush 400, 3) := by decide +kernel
theorem dX7_init_17 : decode cX7_init 17 = .ok (.newarray .int, 2) := by decide +kernel
theorem dX7_init_19 : decode cX7_init 19 = .ok (.putfield 15, 3) := by decide +kernel
theorem dX7_init_22 : decode cX7_init 22 = .ok (.aload_n 0, 1) := by decide +kernel
theorem dX7_init_23 : decode cX7_init 23 = .ok (.sipush 400, 3) := by decide +kernel
theorem dX7_init_26 : decode cX7_init 26 = .ok (.newarray .int, 2) := by decide +kernel
theorem dX7_init_28 : decode cX7_init 28 = .ok (.putfield 18, 3) := by decide +kernel
theorem dX7_init_31 : decode cX7_init 31 = .ok (.aload_n 0, 1) := by decide +kernel
theorem dX7_init_32 : decode cX7_init 32 = .ok (.iconst 0, 1) := by decide +kernel
theorem dX7_init_33 : decode cX7_init 33 = .ok (.putfield 21, 3) := by decide +kernel
theorem dX7_init_36 : decode cX7_init 36 = .ok (.return_, 1) := by decide +kernel
theorem dX7_forget_0 : decode cX7_forget 0 = .ok (.aload_n 0, 1) := by decide +kernel
theorem dX7_forget_1 : decode cX7_forget 1 = .ok (.iconst 0, 1) := by decide +kernel
theorem dX7_forget_2 : decode cX7_forget 2 = .ok (.putfield 21, 3) := by decide +kernel
theorem dX7_forget_5 : decode cX7_forget 5 = .ok (.return_, 1) := by decide +kernel
theorem dX7_add_0 : decode cX7_add 0 = .ok (.aload_n 0, 1) := by decide +kernel
theorem dX7_add_1 : decode cX7_add 1 = .ok (.getfield 9, 3) := by decide +kernel
theorem dX7_add_4 : decode cX7_add 4 = .ok (.aload_n 0, 1) := by decide +kernel
theorem dX7_add_5 : decode cX7_add 5 = .ok (.getfield 21, 3) := by decide +kernel
theorem dX7_add_8 : decode cX7_add 8 = .ok (.iload_n 1, 1) := by decide +kernel
theorem dX7_add_9 : decode cX7_add 9 = .ok (.invokestatic 25, 3) := by decide +kernel
theorem dX7_add_12 : decode cX7_add 12 = .ok (.aload_n 0, 1) := by decide +kernel
theorem dX7_add_13 : decode cX7_add 13 = .ok (.getfield 15, 3) := by decide +kernel
theorem dX7_add_16 : decode cX7_add 16 = .ok (.aload_n 0, 1) := by decide +kernel
theorem dX7_add_17 : decode cX7_add 17 = .ok (.getfield 21, 3) := by decide +kernel
theorem dX7_add_20 : decode cX7_add 20 = .ok (.iload_n 2, 1) := by decide +kernel
theorem dX7_add_21 : decode cX7_add 21 = .ok (.invokestatic 25, 3) := by decide +kernel
theorem dX7_add_24 : decode cX7_add 24 = .ok (.aload_n 0, 1) := by decide +kernel
theorem dX7_add_25 : decode cX7_add 25 = .ok (.getfield 18, 3) := by decide +kernel
theorem dX7_add_28 : decode cX7_add 28 = .ok (.aload_n 0, 1) := by decide +kernel
theorem dX7_add_29 : decode cX7_add 29 = .ok (.getfield 21, 3) := by decide +kernel
theorem dX7_add_32 : decode cX7_add 32 = .ok (.iload_n 3, 1) := by decide +kernel
theorem dX7_add_33 : decode cX7_add 33 = .ok (.invokestatic 25, 3) := by decide +kernel
theorem dX7_add_36 : decode cX7_add 36 = .ok (.aload_n 0, 1) := by decide +kernel
theorem dX7_add_37 : decode cX7_add 37 = .ok (.dup, 1) := by decide +kernel
theorem dX7_add_38 : decode cX7_add 38 = .ok (.getfield 21, 3) := by decide +kernel
theorem dX7_add_41 : decode cX7_add 41 = .ok (.iconst 1, 1) := by decide +kernel
theorem dX7_add_42 : decode cX7_add 42 = .ok (.iadd, 1) := by decide +kernel
theorem dX7_add_43 : decode cX7_add 43 = .ok (.putfield 21, 3) := by decide +kernel
theorem dX7_add_46 : decode cX7_add 46 = .ok (.sipush 10000, 3) := by decide +kernel
theorem dX7_add_49 : decode cX7_add 49 = .ok (.aload_n 0, 1) := by decide +kernel
theorem dX7_add_50 : decode cX7_add 50 = .ok (.getfield 21, 3) := by decide +kernel
theorem dX7_add_53 : decode cX7_add 53 = .ok (.iadd, 1) := by decide +kernel
theorem dX7_add_54 : decode cX7_add 54 = .ok (.iconst 1, 1) := by decide +kernel
theorem dX7_add_55 : decode cX7_add 55 = .ok (.isub, 1) := by decide +kernel
theorem dX7_add_56 : decode cX7_add 56 = .ok (.ireturn, 1) := by decide +kernel
theorem dX7_isNumber_0 : decode cX7_isNumber 0 = .ok (.iload_n 0, 1) := by decide +kernel
theorem dX7_isNumber_1 : decode cX7_isNumber 1 = .ok (.sipush 10000, 3) := by decide +kernel
theorem dX7_isNumber_4 : decode cX7_isNumber 4 = .ok (.if_icmp .ge 7, 3) := by decide +kernel
theorem dX7_isNumber_7 : decode cX7_isNumber 7 = .ok (.iconst 1, 1) := by decide +kernel
theorem dX7_isNumber_8 : decode cX7_isNumber 8 = .ok (.goto 4, 3) := by decide +kernel
theorem dX7_isNumber_11 : decode cX7_isNumber 11 = .ok (.iconst 0, 1) := by decide +kernel
theorem dX7_isNumber_12 : decode cX7_isNumber 12 = .ok (.ireturn, 1) := by decide +kernel
theorem dX7_isFunction_0 : decode cX7_isFunction 0 = .ok (.aload_n 0, 1) := by decide +kernel
theorem dX7_isFunction_1 : decode cX7_isFunction 1 = .ok (.iload_n 1, 1) := by decide +kernel
theorem dX7_isFunction_2 : decode cX7_isFunction 2 = .ok (.invokevirtual 29, 3) := by decide +kernel
theorem dX7_isFunction_5 : decode cX7_isFunction 5 = .ok (.iconst 4, 1) := by decide +kernel
theorem dX7_isFunction_6 : decode cX7_isFunction 6 = .ok (.if_icmp .ne 7, 3) := by decide +kernel
theorem dX7_isFunction_9 : decode cX7_isFunction 9 = .ok (.iconst 1, 1) := by decide +kernel
theorem dX7_isFunction_10 : decode cX7_isFunction 10 = .ok (.goto 4, 3) := by decide +kernel
theorem dX7_isFunction_13 : decode cX7_isFunction 13 = .ok (.iconst 0, 1) := by decide +kernel
theorem dX7_isFunction_14 : decode cX7_isFunction 14 = .ok (.ireturn, 1) := by decide +kernel
theorem dX7_hasField_0 : decode cX7_hasField 0 = .ok (.aload_n 0, 1) := by decide +kernel
theorem dX7_hasField_1 : decode cX7_hasField 1 = .ok (.iload_n 1, 1) := by decide +kernel
theorem dX7_hasField_2 : decode cX7_hasField 2 = .ok (.invokevirtual 29, 3) := by decide +kernel
theorem dX7_hasField_5 : decode cX7_hasField 5 = .ok (.istore_n 3, 1) := by decide +kernel
theorem dX7_hasField_6 : decode cX7_hasField 6 = .ok (.iload_n 3, 1) := by decide +kernel
theorem dX7_hasField_7 : decode cX7_hasField 7 = .ok (.iconst 3, 1) := by decide +kernel
theorem dX7_hasField_8 : decode cX7_hasField 8 = .ok (.if_icmp .gt 22, 3) := by decide +kernel
theorem dX7_hasField_11 : decode cX7_hasField 11 = .ok (.iload_n 3, 1) := by decide +kernel
theorem dX7_hasField_12 : decode cX7_hasField 12 = .ok (.iload_n 2, 1) := by decide +kernel
theorem dX7_hasField_13 : decode cX7_hasField 13 = .ok (.bipush 112, 2) := by decide +kernel
theorem dX7_hasField_15 : decode cX7_hasField 15 = .ok (.if_icmp .ne 7, 3) := by decide +kernel
theorem dX7_hasField_18 : decode cX7_hasField 18 = .ok (.iconst 1, 1) := by decide +kernel
theorem dX7_hasField_19 : decode cX7_hasField 19 = .ok (.goto 4, 3) := by decide +kernel
theorem dX7_hasField_22 : decode cX7_hasField 22 = .ok (.iconst 0, 1) := by decide +kernel
theorem dX7_hasField_23 : decode cX7_hasField 23 = .ok (.if_icmp .eq 7, 3) := by decide +kernel
theorem dX7_hasField_26 : decode cX7_hasField 26 = .ok (.iconst 1, 1) := by decide +kernel
theorem dX7_hasField_27 : decode cX7_hasField 27 = .ok (.goto 4, 3) := by decide +kernel
theorem dX7_hasField_30 : decode cX7_hasField 30 = .ok (.iconst 0, 1) := by decide +kernel
theorem dX7_hasField_31 : decode cX7_hasField 31 = .ok (.ireturn, 1) := by decide +kernel
theorem dX7_kindOf_0 : decode cX7_kindOf 0 = .ok (.iload_n 1, 1) := by decide +kernel
theorem dX7_kindOf_1 : decode cX7_kindOf 1 = .ok (.sipush 10000, 3) := by decide +kernel
theorem dX7_kindOf_4 : decode cX7_kindOf 4 = .ok (.isub, 1) := by decide +kernel
theorem dX7_kindOf_5 : decode cX7_kindOf 5 = .ok (.istore_n 2, 1) := by decide +kernel
theorem dX7_kindOf_6 : decode cX7_kindOf 6 = .ok (.iload_n 2, 1) := by decide +kernel
theorem dX7_kindOf_7 : decode cX7_kindOf 7 = .ok (.ifCond .lt 21, 3) := by decide +kernel
theorem dX7_kindOf_10 : decode cX7_kindOf 10 = .ok (.iload_n 2, 1) := by decide +kernel
theorem dX7_kindOf_11 : decode cX7_kindOf 11 = .ok (.aload_n 0, 1) := by decide +kernel
theorem dX7_kindOf_12 : decode cX7_kindOf 12 = .ok (.getfield 9, 3) := by decide +kernel
theorem dX7_kindOf_15 : decode cX7_kindOf 15 = .ok (.arraylength, 1) := by decide +kernel
theorem dX7_kindOf_16 : decode cX7_kindOf 16 = .ok (.if_icmp .ge 12, 3) := by decide +kernel
theorem dX7_kindOf_19 : decode cX7_kindOf 19 = .ok (.aload_n 0, 1) := by decide +kernel
theorem dX7_kindOf_20 : decode cX7_kindOf 20 = .ok (.getfield 9, 3) := by decide +kernel
theorem dX7_kindOf_23 : decode cX7_kindOf 23 = .ok (.iload_n 2, 1) := by decide +kernel
theorem dX7_kindOf_24 : decode cX7_kindOf 24 = .ok (.iaload, 1) := by decide +kernel
theorem dX7_kindOf_25 : decode cX7_kindOf 25 = .ok (.goto 4, 3) := by decide +kernel
theorem dX7_kindOf_28 : decode cX7_kindOf 28 = .ok (.iconst 5, 1) := by decide +kernel
theorem dX7_kindOf_29 : decode cX7_kindOf 29 = .ok (.ireturn, 1) := by decide +kernel
theorem dX7_fieldOf_0 : decode cX7_fieldOf 0 = .ok (.iload_n 2, 1) := by decide +kernel
theorem dX7_fieldOf_1 : decode cX7_fieldOf 1 = .ok (.bipush 112, 2) := by decide +kernel
theorem dX7_fieldOf_3 : decode cX7_fieldOf 3 = .ok (.if_icmp .ne 10, 3) := by decide +kernel
theorem dX7_fieldOf_6 : decode cX7_fieldOf 6 = .ok (.aload_n 0, 1) := by decide +kernel
theorem dX7_fieldOf_7 : decode cX7_fieldOf 7 = .ok (.getfield 15, 3) := by decide +kernel
theorem dX7_fieldOf_10 : decode cX7_fieldOf 10 = .ok (.goto 7, 3) := by decide +kernel
theorem dX7_fieldOf_13 : decode cX7_fieldOf 13 = .ok (.aload_n 0, 1) := by decide +kernel
theorem dX7_fieldOf_14 : decode cX7_fieldOf 14 = .ok (.getfield 18, 3) := by decide +kernel
theorem dX7_fieldOf_17 : decode cX7_fieldOf 17 = .ok (.iload_n 1, 1) := by decide +kernel
theorem dX7_fieldOf_18 : decode cX7_fieldOf 18 = .ok (.sipush 10000, 3) := by decide +kernel
theorem dX7_fieldOf_21 : decode cX7_fieldOf 21 = .ok (.isub, 1) := by decide +kernel
theorem dX7_fieldOf_22 : decode cX7_fieldOf 22 = .ok (.invokestatic 33, 3) := by decide +kernel
theorem dX7_fieldOf_25 : decode cX7_fieldOf 25 = .ok (.ireturn, 1) := by decide +kernel
theorem dX7_expressionOf_0 : decode cX7_expressionOf 0 = .ok (.aload_n 0, 1) := by decide +kernel
theorem dX7_expressionOf_1 : decode cX7_expressionOf 1 = .ok (.getfield 15, 3) := by decide +kernel
theorem dX7_expressionOf_4 : decode cX7_expressionOf 4 = .ok (.iload_n 1, 1) := by decide +kernel
theorem dX7_expressionOf_5 : decode cX7_expressionOf 5 = .ok (.sipush 10000, 3) := by decide +kernel
theorem dX7_expressionOf_8 : decode cX7_expressionOf 8 = .ok (.isub, 1) := by decide +kernel
theorem dX7_expressionOf_9 : decode cX7_expressionOf 9 = .ok (.invokestatic 33, 3) := by decide +kernel
theorem dX7_expressionOf_12 : decode cX7_expressionOf 12 = .ok (.ireturn, 1) := by decide +kernel
theorem dX7_frameOf_0 : decode cX7_frameOf 0 = .ok (.aload_n 0, 1) := by decide +kernel
theorem dX7_frameOf_1 : decode cX7_frameOf 1 = .ok (.getfield 18, 3) := by decide +kernel
theorem dX7_frameOf_4 : decode cX7_frameOf 4 = .ok (.iload_n 1, 1) := by decide +kernel
theorem dX7_frameOf_5 : decode cX7_frameOf 5 = .ok (.sipush 10000, 3) := by decide +kernel
theorem dX7_frameOf_8 : decode cX7_frameOf 8 = .ok (.isub, 1) := by decide +kernel
theorem dX7_frameOf_9 : decode cX7_frameOf 9 = .ok (.invokestatic 33, 3) := by decide +kernel
theorem dX7_frameOf_12 : decode cX7_frameOf 12 = .ok (.ireturn, 1) := by decide +kernel
theorem dX8_init_0 : decode cX8_init 0 = .ok (.aload_n 0, 1) := by decide +kernel
theorem dX8_init_1 : decode cX8_init 1 = .ok (.invokespecial 3, 3) := by decide +kernel
theorem dX8_init_4 : decode cX8_init 4 = .ok (.aload_n 0, 1) := by decide +kernel
theorem dX8_init_5 : decode cX8_init 5 = .ok (.sipush 400, 3) := by decide +kernel
theorem dX8_init_8 : decode cX8_init 8 = .ok (.newarray .int, 2) := by decide +kernel
theorem dX8_init_10 : decode cX8_init 10 = .ok (.putfield 9, 3) := by decide +kernel
theorem dX8_init_13 : decode cX8_init 13 = .ok (.aload_n 0, 1) := by decide +kernel
theorem dX8_init_14 : decode cX8_init 14 = .ok (.sipush 400, 3) := by decide +kernel
theorem dX8_init_17 : decode cX8_init 17 = .ok (.newarray .int, 2) := by decide +kernel
theorem dX8_init_19 : decode cX8_init 19 = .ok (.putfield 15, 3) := by decide +kernel
theorem dX8_init_22 : decode cX8_init 22 = .ok (.aload_n 0, 1) := by decide +kernel
theorem dX8_init_23 : decode cX8_init 23 = .ok (.sipush 400, 3) := by decide +kernel
theorem dX8_init_26 : decode cX8_init 26 = .ok (.newarray .int, 2) := by decide +kernel
theorem dX8_init_28 : decode cX8_init 28 = .ok (.putfield 18, 3) := by decide +kernel
theorem dX8_init_31 : decode cX8_init 31 = .ok (.aload_n 0, 1) := by decide +kernel
theorem dX8_init_32 : decode cX8_init 32 = .ok (.sipush 400, 3) := by decide +kernel
theorem dX8_init_35 : decode cX8_init 35 = .ok (.newarray .int, 2) := by decide +kernel
theorem dX8_init_37 : decode cX8_init 37 = .ok (.putfield 21, 3) := by decide +kernel
theorem dX8_init_40 : decode cX8_init 40 = .ok (.aload_n 0, 1) := by decide +kernel
theorem dX8_init_41 : decode cX8_init 41 = .ok (.iconst 0, 1) := by decide +kernel
theorem dX8_init_42 : decode cX8_init 42 = .ok (.putfield 24, 3) := by decide +kernel
theorem dX8_init_45 : decode cX8_init 45 = .ok (.return_, 1) := by decide +kernel
theorem dX8_forget_0 : decode cX8_forget 0 = .ok (.aload_n 0, 1) := by decide +kernel
theorem dX8_forget_1 : decode cX8_forget 1 = .ok (.iconst 0, 1) := by decide +kernel
theorem dX8_forget_2 : decode cX8_forget 2 = .ok (.putfield 24, 3) := by decide +kernel
theorem dX8_forget_5 : decode cX8_forget 5 = .ok (.return_, 1) := by decide +kernel
theorem dX8_isEmpty_0 : decode cX8_isEmpty 0 = .ok (.aload_n 0, 1) := by decide +kernel
theorem dX8_isEmpty_1 : decode cX8_isEmpty 1 = .ok (.getfield 24, 3) := by decide +kernel
theorem dX8_isEmpty_4 : decode cX8_isEmpty 4 = .ok (.ifCond .gt 7, 3) := by decide +kernel
theorem dX8_isEmpty_7 : decode cX8_isEmpty 7 = .ok (.iconst 1, 1) := by decide +kernel
theorem dX8_isEmpty_8 : decode cX8_isEmpty 8 = .ok (.goto 4, 3) := by decide +kernel
theorem dX8_isEmpty_11 : decode cX8_isEmpty 11 = .ok (.iconst 0, 1) := by decide +kernel
theorem dX8_isEmpty_12 : decode cX8_isEmpty 12 = .ok (.ireturn, 1) := by decide +kernel
theorem dX8_push_0 : decode cX8_push 0 = .ok (.aload_n 0, 1) := by decide +kernel
theorem dX8_push_1 : decode cX8_push 1 = .ok (.getfield 9, 3) := by decide +kernel
theorem dX8_push_4 : decode cX8_push 4 = .ok (.aload_n 0, 1) := by decide +kernel
theorem dX8_push_5 : decode cX8_push 5 = .ok (.getfield 24, 3) := by decide +kernel
theorem dX8_push_8 : decode cX8_push 8 = .ok (.iload_n 1, 1) := by decide +kernel
theorem dX8_push_9 : decode cX8_push 9 = .ok (.invokestatic 28, 3) := by decide +kernel
theorem dX8_push_12 : decode cX8_push 12 = .ok (.aload_n 0, 1) := by decide +kernel
theorem dX8_push_13 : decode cX8_push 13 = .ok (.getfield 15, 3) := by decide +kernel
theorem dX8_push_16 : decode cX8_push 16 = .ok (.aload_n 0, 1) := by decide +kernel
theorem dX8_push_17 : decode cX8_push 17 = .ok (.getfield 24, 3) := by decide +kernel
theorem dX8_push_20 : decode cX8_push 20 = .ok (.iload_n 2, 1) := by decide +kernel
theorem dX8_push_21 : decode cX8_push 21 = .ok (.invokestatic 28, 3) := by decide +kernel
theorem dX8_push_24 : decode cX8_push 24 = .ok (.aload_n 0, 1) := by decide +kernel
theorem dX8_push_25 : decode cX8_push 25 = .ok (.getfield 18, 3) := by decide +kernel
theorem dX8_push_28 : decode cX8_push 28 = .ok (.aload_n 0, 1) := by decide +kernel
theorem dX8_push_29 : decode cX8_push 29 = .ok (.getfield 24, 3) := by decide +kernel
theorem dX8_push_32 : decode cX8_push 32 = .ok (.iload_n 3, 1) := by decide +kernel
theorem dX8_push_33 : decode cX8_push 33 = .ok (.invokestatic 28, 3) := by decide +kernel
theorem dX8_push_36 : decode cX8_push 36 = .ok (.aload_n 0, 1) := by decide +kernel
theorem dX8_push_37 : decode cX8_push 37 = .ok (.getfield 21, 3) := by decide +kernel
theorem dX8_push_40 : decode cX8_push 40 = .ok (.aload_n 0, 1) := by decide +kernel
theorem dX8_push_41 : decode cX8_push 41 = .ok (.getfield 24, 3) := by decide +kernel
theorem dX8_push_44 : decode cX8_push 44 = .ok (.iload 4, 2) := by decide +kernel
theorem dX8_push_46 : decode cX8_push 46 = .ok (.invokestatic 28, 3) := by decide +kernel
theorem dX8_push_49 : decode cX8_push 49 = .ok (.aload_n 0, 1) := by decide +kernel
theorem dX8_push_50 : decode cX8_push 50 = .ok (.dup, 1) := by decide +kernel
theorem dX8_push_51 : decode cX8_push 51 = .ok (.getfield 24, 3) := by decide +kernel
theorem dX8_push_54 : decode cX8_push 54 = .ok (.iconst 1, 1) := by decide +kernel
theorem dX8_push_55 : decode cX8_push 55 = .ok (.iadd, 1) := by decide +kernel
theorem dX8_push_56 : decode cX8_push 56 = .ok (.putfield 24, 3) := by decide +kernel
theorem dX8_push_59 : decode cX8_push 59 = .ok (.return_, 1) := by decide +kernel
theorem dX8_pop_0 : decode cX8_pop 0 = .ok (.aload_n 0, 1) := by decide +kernel
theorem dX8_pop_1 : decode cX8_pop 1 = .ok (.dup, 1) := by decide +kernel
theorem dX8_pop_2 : decode cX8_pop 2 = .ok (.getfield 24, 3) := by decide +kernel
theorem dX8_pop_5 : decode cX8_pop 5 = .ok (.iconst 1, 1) := by decide +kernel
theorem dX8_pop_6 : decode cX8_pop 6 = .ok (.isub, 1) := by decide +kernel
theorem dX8_pop_7 : decode cX8_pop 7 = .ok (.putfield 24, 3) := by decide +kernel
theorem dX8_pop_10 : decode cX8_pop 10 = .ok (.return_, 1) := by decide +kernel
theorem dX8_expression_0 : decode cX8_expression 0 = .ok (.aload_n 0, 1) := by decide +kernel
theorem dX8_expression_1 : decode cX8_expression 1 = .ok (.getfield 9, 3) := by decide +kernel
theorem dX8_expression_4 : decode cX8_expression 4 = .ok (.aload_n 0, 1) := by decide +kernel
theorem dX8_expression_5 : decode cX8_expression 5 = .ok (.getfield 24, 3) := by decide +kernel
theorem dX8_expression_8 : decode cX8_expression 8 = .ok (.invokestatic 32, 3) := by decide +kernel
theorem dX8_expression_11 : decode cX8_expression 11 = .ok (.ireturn, 1) := by decide +kernel
theorem dX8_frame_0 : decode cX8_frame 0 = .ok (.aload_n 0, 1) := by decide +kernel
theorem dX8_frame_1 : decode cX8_frame 1 = .ok (.getfield 15, 3) := by decide +kernel
theorem dX8_frame_4 : decode cX8_frame 4 = .ok (.aload_n 0, 1) := by decide +kernel
theorem dX8_frame_5 : decode cX8_frame 5 = .ok (.getfield 24, 3) := by decide +kernel
theorem dX8_frame_8 : decode cX8_frame 8 = .ok (.invokestatic 32, 3) := by decide +kernel
theorem dX8_frame_11 : decode cX8_frame 11 = .ok (.ireturn, 1) := by decide +kernel
theorem dX8_stage_0 : decode cX8_stage 0 = .ok (.aload_n 0, 1) := by decide +kernel
theorem dX8_stage_1 : decode cX8_stage 1 = .ok (.getfield 18, 3) := by decide +kernel
theorem dX8_stage_4 : decode cX8_stage 4 = .ok (.aload_n 0, 1) := by decide +kernel
theorem dX8_stage_5 : decode cX8_stage 5 = .ok (.getfield 24, 3) := by decide +kernel
theorem dX8_stage_8 : decode cX8_stage 8 = .ok (.invokestatic 32, 3) := by decide +kernel
theorem dX8_stage_11 : decode cX8_stage 11 = .ok (.ireturn, 1) := by decide +kernel
theorem dX8_first_0 : decode cX8_first 0 = .ok (.aload_n 0, 1) := by decide +kernel
theorem dX8_first_1 : decode cX8_first 1 = .ok (.getfield 21, 3) := by decide +kernel
theorem dX8_first_4 : decode cX8_first 4 = .ok (.aload_n 0, 1) := by decide +kernel
theorem dX8_first_5 : decode cX8_first 5 = .ok (.getfield 24, 3) := by decide +kernel
theorem dX8_first_8 : decode cX8_first 8 = .ok (.invokestatic 32, 3) := by decide +kernel
theorem dX8_first_11 : decode cX8_first 11 = .ok (.ireturn, 1) := by decide +kernel
theorem dX9_init_0 : decode cX9_init 0 = .ok (.aload_n 0, 1) := by decide +kernel
theorem dX9_init_1 : decode cX9_init 1 = .ok (.invokespecial 1, 3) := by decide +kernel
theorem dX9_init_4 : decode cX9_init 4 = .ok (.aload_n 0, 1) := by decide +kernel
theorem dX9_init_5 : decode cX9_init 5 = .ok (.new 7, 3) := by decide +kernel
theorem dX9_init_8 : decode cX9_init 8 = .ok (.dup, 1) := by decide +kernel
theorem dX9_init_9 : decode cX9_init 9 = .ok (.invokespecial 9, 3) := by decide +kernel
theorem dX9_init_12 : decode cX9_init 12 = .ok (.putfield 10, 3) := by decide +kernel
theorem dX9_init_15 : decode cX9_init 15 = .ok (.aload_n 0, 1) := by decide +kernel
theorem dX9_init_16 : decode cX9_init 16 = .ok (.new 7, 3) := by decide +kernel
theorem dX9_init_19 : decode cX9_init 19 = .ok (.dup, 1) := by decide +kernel
theorem dX9_init_20 : decode cX9_init 20 = .ok (.invokespecial 9, 3) := by decide +kernel
theorem dX9_init_23 : decode cX9_init 23 = .ok (.putfield 16, 3) := by decide +kernel
theorem dX9_init_26 : decode cX9_init 26 = .ok (.aload_n 0, 1) := by decide +kernel
theorem dX9_init_27 : decode cX9_init 27 = .ok (.new 19, 3) := by decide +kernel
theorem dX9_init_30 : decode cX9_init 30 = .ok (.dup, 1) := by decide +kernel
theorem dX9_init_31 : decode cX9_init 31 = .ok (.invokespecial 21, 3) := by decide +kernel
theorem dX9_init_34 : decode cX9_init 34 = .ok (.putfield 22, 3) := by decide +kernel
theorem dX9_init_37 : decode cX9_init 37 = .ok (.aload_n 0, 1) := by decide +kernel
theorem dX9_init_38 : decode cX9_init 38 = .ok (.new 26, 3) := by decide +kernel
theorem dX9_init_41 : decode cX9_init 41 = .ok (.dup, 1) := by decide +kernel
theorem dX9_init_42 : decode cX9_init 42 = .ok (.invokespecial 28, 3) := by decide +kernel
theorem dX9_init_45 : decode cX9_init 45 = .ok (.putfield 29, 3) := by decide +kernel
theorem dX9_init_48 : decode cX9_init 48 = .ok (.aload_n 0, 1) := by decide +kernel
theorem dX9_init_49 : decode cX9_init 49 = .ok (.bipush 16, 2) := by decide +kernel
theorem dX9_init_51 : decode cX9_init 51 = .ok (.newarray .int, 2) := by decide +kernel
theorem dX9_init_53 : decode cX9_init 53 = .ok (.putfield 33, 3) := by decide +kernel
theorem dX9_init_56 : decode cX9_init 56 = .ok (.aload_n 0, 1) := by decide +kernel
theorem dX9_init_57 : decode cX9_init 57 = .ok (.bipush 7, 2) := by decide +kernel
theorem dX9_init_59 : decode cX9_init 59 = .ok (.newarray .int, 2) := by decide +kernel
theorem dX9_init_61 : decode cX9_init 61 = .ok (.putfield 37, 3) := by decide +kernel
theorem dX9_init_64 : decode cX9_init 64 = .ok (.aload_n 0, 1) := by decide +kernel
theorem dX9_init_65 : decode cX9_init 65 = .ok (.bipush 32, 2) := by decide +kernel
theorem dX9_init_67 : decode cX9_init 67 = .ok (.newarray .int, 2) := by decide +kernel
theorem dX9_init_69 : decode cX9_init 69 = .ok (.putfield 40, 3) := by decide +kernel
theorem dX9_init_72 : decode cX9_init 72 = .ok (.aload_n 0, 1) := by decide +kernel
theorem dX9_init_73 : decode cX9_init 73 = .ok (.iconst 0, 1) := by decide +kernel
theorem dX9_init_74 : decode cX9_init 74 = .ok (.putfield 43, 3) := by decide +kernel
theorem dX9_init_77 : decode cX9_init 77 = .ok (.aload_n 0, 1) := by decide +kernel
theorem dX9_init_78 : decode cX9_init 78 = .ok (.iconst 0, 1) := by decide +kernel
theorem dX9_init_79 : decode cX9_init 79 = .ok (.putfield 47, 3) := by decide +kernel
theorem dX9_init_82 : decode cX9_init 82 = .ok (.return_, 1) := by decide +kernel
theorem dX9_letter_0 : decode cX9_letter 0 = .ok (.iload_n 1, 1) := by decide +kernel
theorem dX9_letter_1 : decode cX9_letter 1 = .ok (.ifCond .ge 10, 3) := by decide +kernel
theorem dX9_letter_4 : decode cX9_letter 4 = .ok (.aload_n 0, 1) := by decide +kernel
theorem dX9_letter_5 : decode cX9_letter 5 = .ok (.bipush (-4), 2) := by decide +kernel
theorem dX9_letter_7 : decode cX9_letter 7 = .ok (.invokevirtual 51, 3) := by decide +kernel
theorem dX9_letter_10 : decode cX9_letter 10 = .ok (.ireturn, 1) := by decide +kernel
theorem dX9_letter_11 : decode cX9_letter 11 = .ok (.iload_n 1, 1) := by decide +kernel
theorem dX9_letter_12 : decode cX9_letter 12 = .ok (.sipush 255, 3) := by decide +kernel
theorem dX9_letter_15 : decode cX9_letter 15 = .ok (.if_icmp .gt 13, 3) := by decide +kernel
theorem dX9_letter_18 : decode cX9_letter 18 = .ok (.aload_n 0, 1) := by decide +kernel
theorem dX9_letter_19 : decode cX9_letter 19 = .ok (.getfield 29, 3) := by decide +kernel
theorem dX9_letter_22 : decode cX9_letter 22 = .ok (.invokevirtual 55, 3) := by decide +kernel
theorem dX9_letter_25 : decode cX9_letter 25 = .ok (.ifCond .eq 10, 3) := by decide +kernel
theorem dX9_letter_28 : decode cX9_letter 28 = .ok (.aload_n 0, 1) := by decide +kernel
theorem dX9_letter_29 : decode cX9_letter 29 = .ok (.bipush (-6), 2) := by decide +kernel
theorem dX9_letter_31 : decode cX9_letter 31 = .ok (.invokevirtual 51, 3) := by decide +kernel
theorem dX9_letter_34 : decode cX9_letter 34 = .ok (.ireturn, 1) := by decide +kernel
theorem dX9_letter_35 : decode cX9_letter 35 = .ok (.aload_n 0, 1) := by decide +kernel
theorem dX9_letter_36 : decode cX9_letter 36 = .ok (.getfield 29, 3) := by decide +kernel
theorem dX9_letter_39 : decode cX9_letter 39 = .ok (.iload_n 1, 1) := by decide +kernel
theorem dX9_letter_40 : decode cX9_letter 40 = .ok (.invokevirtual 59, 3) := by decide +kernel
theorem dX9_letter_43 : decode cX9_letter 43 = .ok (.ireturn, 1) := by decide +kernel
theorem dX9_program_0 : decode cX9_program 0 = .ok (.aload_n 0, 1) := by decide +kernel
theorem dX9_program_1 : decode cX9_program 1 = .ok (.getfield 29, 3) := by decide +kernel
theorem dX9_program_4 : decode cX9_program 4 = .ok (.invokevirtual 62, 3) := by decide +kernel
theorem dX9_program_7 : decode cX9_program 7 = .ok (.istore_n 1, 1) := by decide +kernel
theorem dX9_program_8 : decode cX9_program 8 = .ok (.iload_n 1, 1) := by decide +kernel
theorem dX9_program_9 : decode cX9_program 9 = .ok (.ifCond .ne 24, 3) := by decide +kernel
theorem dX9_program_12 : decode cX9_program 12 = .ok (.aload_n 0, 1) := by decide +kernel
theorem dX9_program_13 : decode cX9_program 13 = .ok (.getfield 29, 3) := by decide +kernel
theorem dX9_program_16 : decode cX9_program 16 = .ok (.aload_n 0, 1) := by decide +kernel
theorem dX9_program_17 : decode cX9_program 17 = .ok (.getfield 10, 3) := by decide +kernel
theorem dX9_program_20 : decode cX9_program 20 = .ok (.getfield 66, 3) := by decide +kernel
theorem dX9_program_23 : decode cX9_program 23 = .ok (.invokevirtual 70, 3) := by decide +kernel
theorem dX9_program_26 : decode cX9_program 26 = .ok (.aload_n 0, 1) := by decide +kernel
theorem dX9_program_27 : decode cX9_program 27 = .ok (.getfield 10, 3) := by decide +kernel
theorem dX9_program_30 : decode cX9_program 30 = .ok (.invokevirtual 74, 3) := by decide +kernel
theorem dX9_program_33 : decode cX9_program 33 = .ok (.aload_n 0, 1) := by decide +kernel
theorem dX9_program_34 : decode cX9_program 34 = .ok (.getfield 29, 3) := by decide +kernel
theorem dX9_program_37 : decode cX9_program 37 = .ok (.invokevirtual 77, 3) := by decide +kernel
theorem dX9_program_40 : decode cX9_program 40 = .ok (.iload_n 1, 1) := by decide +kernel
theorem dX9_program_41 : decode cX9_program 41 = .ok (.ifCond .ne 16, 3) := by decide +kernel
theorem dX9_program_44 : decode cX9_program 44 = .ok (.aload_n 0, 1) := by decide +kernel
theorem dX9_program_45 : decode cX9_program 45 = .ok (.getfield 10, 3) := by decide +kernel
theorem dX9_program_48 : decode cX9_program 48 = .ok (.getfield 66, 3) := by decide +kernel
theorem dX9_program_51 : decode cX9_program 51 = .ok (.getfield 80, 3) := by decide +kernel
theorem dX9_program_54 : decode cX9_program 54 = .ok (.goto 4, 3) := by decide +kernel
theorem dX9_program_57 : decode cX9_program 57 = .ok (.iload_n 1, 1) := by decide +kernel
theorem dX9_program_58 : decode cX9_program 58 = .ok (.ireturn, 1) := by decide +kernel
theorem dX9_global_0 : decode cX9_global 0 = .ok (.iload_n 1, 1) := by decide +kernel
theorem dX9_global_1 : decode cX9_global 1 = .ok (.invokestatic 85, 3) := by decide +kernel
theorem dX9_global_4 : decode cX9_global 4 = .ok (.ifCond .ne 9, 3) := by decide +kernel
theorem dX9_global_7 : decode cX9_global 7 = .ok (.aload_n 0, 1) := by decide +kernel
theorem dX9_global_8 : decode cX9_global 8 = .ok (.iconst (-1), 1) := by decide +kernel
theorem dX9_global_9 : decode cX9_global 9 = .ok (.invokevirtual 89, 3) := by decide +kernel
theorem dX9_global_12 : decode cX9_global 12 = .ok (.ireturn, 1) := by decide +kernel
theorem dX9_global_13 : decode cX9_global 13 = .ok (.aload_n 0, 1) := by decide +kernel
theorem dX9_global_14 : decode cX9_global 14 = .ok (.getfield 10, 3) := by decide +kernel
theorem dX9_global_17 : decode cX9_global 17 = .ok (.getfield 92, 3) := by decide +kernel
theorem dX9_global_20 : decode cX9_global 20 = .ok (.iload_n 1, 1) := by decide +kernel
theorem dX9_global_21 : decode cX9_global 21 = .ok (.invokestatic 95, 3) := by decide +kernel
theorem dX9_global_24 : decode cX9_global 24 = .ok (.ireturn, 1) := by decide +kernel
theorem dX9_sets_0 : decode cX9_sets 0 = .ok (.iload_n 1, 1) := by decide +kernel
theorem dX9_sets_1 : decode cX9_sets 1 = .ok (.iload_n 2, 1) := by decide +kernel
theorem dX9_sets_2 : decode cX9_sets 2 = .ok (.invokestatic 99, 3) := by decide +kernel
theorem dX9_sets_5 : decode cX9_sets 5 = .ok (.istore_n 3, 1) := by decide +kernel
theorem dX9_sets_6 : decode cX9_sets 6 = .ok (.iload_n 3, 1) := by decide +kernel
theorem dX9_sets_7 : decode cX9_sets 7 = .ok (.ifCond .eq 9, 3) := by decide +kernel
theorem dX9_sets_10 : decode cX9_sets 10 = .ok (.aload_n 0, 1) := by decide +kernel
theorem dX9_sets_11 : decode cX9_sets 11 = .ok (.iload_n 3, 1) := by decide +kernel
theorem dX9_sets_12 : decode cX9_sets 12 = .ok (.invokevirtual 89, 3) := by decide +kernel
theorem dX9_sets_15 : decode cX9_sets 15 = .ok (.ireturn, 1) := by decide +kernel
theorem dX9_sets_16 : decode cX9_sets 16 = .ok (.aload_n 0, 1) := by decide +kernel
theorem dX9_sets_17 : decode cX9_sets 17 = .ok (.getfield 10, 3) := by decide +kernel
theorem dX9_sets_20 : decode cX9_sets 20 = .ok (.getfield 92, 3) := by decide +kernel
theorem dX9_sets_23 : decode cX9_sets 23 = .ok (.iload_n 1, 1) := by decide +kernel
theorem dX9_sets_24 : decode cX9_sets 24 = .ok (.invokestatic 95, 3) := by decide +kernel
theorem dX9_sets_27 : decode cX9_sets 27 = .ok (.istore 4, 2) := by decide +kernel
theorem dX9_sets_29 : decode cX9_sets 29 = .ok (.aload_n 0, 1) := by decide +kernel
theorem dX9_sets_30 : decode cX9_sets 30 = .ok (.getfield 10, 3) := by decide +kernel
theorem dX9_sets_33 : decode cX9_sets 33 = .ok (.getfield 92, 3) := by decide +kernel
theorem dX9_sets_36 : decode cX9_sets 36 = .ok (.iload_n 1, 1) := by decide +kernel
theorem dX9_sets_37 : decode cX9_sets 37 = .ok (.iload_n 2, 1) := by decide +kernel
theorem dX9_sets_38 : decode cX9_sets 38 = .ok (.invokestatic 103, 3) := by decide +kernel
theorem dX9_sets_41 : decode cX9_sets 41 = .ok (.iload 4, 2) := by decide +kernel
theorem dX9_sets_43 : decode cX9_sets 43 = .ok (.ireturn, 1) := by decide +kernel
theorem dX9_run_0 : decode cX9_run 0 = .ok (.aload_n 0, 1) := by decide +kernel
theorem dX9_run_1 : decode cX9_run 1 = .ok (.getfield 10, 3) := by decide +kernel
theorem dX9_run_4 : decode cX9_run 4 = .ok (.aload_n 0, 1) := by decide +kernel
theorem dX9_run_5 : decode cX9_run 5 = .ok (.getfield 22, 3) := by decide +kernel
theorem dX9_run_8 : decode cX9_run 8 = .ok (.aload_n 0, 1) := by decide +kernel
theorem dX9_run_9 : decode cX9_run 9 = .ok (.invokevirtual 107, 3) := by decide +kernel
theorem dX9_run_12 : decode cX9_run 12 = .ok (.invokevirtual 111, 3) := by decide +kernel
theorem dX9_run_15 : decode cX9_run 15 = .ok (.aload_n 0, 1) := by decide +kernel
theorem dX9_run_16 : decode cX9_run 16 = .ok (.getfield 10, 3) := by decide +kernel
theorem dX9_run_19 : decode cX9_run 19 = .ok (.getfield 115, 3) := by decide +kernel
theorem dX9_run_22 : decode cX9_run 22 = .ok (.getfield 119, 3) := by decide +kernel
theorem dX9_run_25 : decode cX9_run 25 = .ok (.ireturn, 1) := by decide +kernel
theorem dX9_ended_0 : decode cX9_ended 0 = .ok (.iload_n 1, 1) := by decide +kernel
theorem dX9_ended_1 : decode cX9_ended 1 = .ok (.invokestatic 124, 3) := by decide +kernel
theorem dX9_ended_4 : decode cX9_ended 4 = .ok (.ifCond .ne 10, 3) := by decide +kernel
theorem dX9_ended_7 : decode cX9_ended 7 = .ok (.aload_n 0, 1) := by decide +kernel
theorem dX9_ended_8 : decode cX9_ended 8 = .ok (.bipush (-2), 2) := by decide +kernel
theorem dX9_ended_10 : decode cX9_ended 10 = .ok (.invokevirtual 89, 3) := by decide +kernel
theorem dX9_ended_13 : decode cX9_ended 13 = .ok (.ireturn, 1) := by decide +kernel
theorem dX9_ended_14 : decode cX9_ended 14 = .ok (.aload_n 0, 1) := by decide +kernel
theorem dX9_ended_15 : decode cX9_ended 15 = .ok (.getfield 10, 3) := by decide +kernel
theorem dX9_ended_18 : decode cX9_ended 18 = .ok (.getfield 127, 3) := by decide +kernel
theorem dX9_ended_21 : decode cX9_ended 21 = .ok (.ifCond .ne 10, 3) := by decide +kernel
theorem dX9_ended_24 : decode cX9_ended 24 = .ok (.aload_n 0, 1) := by decide +kernel
theorem dX9_ended_25 : decode cX9_ended 25 = .ok (.bipush (-3), 2) := by decide +kernel
theorem dX9_ended_27 : decode cX9_ended 27 = .ok (.invokevirtual 89, 3) := by decide +kernel
theorem dX9_ended_30 : decode cX9_ended 30 = .ok (.ireturn, 1) := by decide +kernel
theorem dX9_ended_31 : decode cX9_ended 31 = .ok (.aload_n 0, 1) := by decide +kernel
theorem dX9_ended_32 : decode cX9_ended 32 = .ok (.getfield 10, 3) := by decide +kernel
theorem dX9_ended_35 : decode cX9_ended 35 = .ok (.getfield 115, 3) := by decide +kernel
theorem dX9_ended_38 : decode cX9_ended 38 = .ok (.iload_n 1, 1) := by decide +kernel
theorem dX9_ended_39 : decode cX9_ended 39 = .ok (.invokevirtual 130, 3) := by decide +kernel
theorem dX9_ended_42 : decode cX9_ended 42 = .ok (.ireturn, 1) := by decide +kernel
theorem dX9_code_0 : decode cX9_code 0 = .ok (.aload_n 0, 1) := by decide +kernel
theorem dX9_code_1 : decode cX9_code 1 = .ok (.getfield 10, 3) := by decide +kernel
theorem dX9_code_4 : decode cX9_code 4 = .ok (.getfield 127, 3) := by decide +kernel
theorem dX9_code_7 : decode cX9_code 7 = .ok (.ifCond .eq 17, 3) := by decide +kernel
theorem dX9_code_10 : decode cX9_code 10 = .ok (.aload_n 0, 1) := by decide +kernel
theorem dX9_code_11 : decode cX9_code 11 = .ok (.getfield 10, 3) := by decide +kernel
theorem dX9_code_14 : decode cX9_code 14 = .ok (.getfield 115, 3) := by decide +kernel
theorem dX9_code_17 : decode cX9_code 17 = .ok (.getfield 119, 3) := by decide +kernel
theorem dX9_code_20 : decode cX9_code 20 = .ok (.iconst 3, 1) := by decide +kernel
theorem dX9_code_21 : decode cX9_code 21 = .ok (.if_icmp .eq 10, 3) := by decide +kernel
theorem dX9_code_24 : decode cX9_code 24 = .ok (.aload_n 0, 1) := by decide +kernel
theorem dX9_code_25 : decode cX9_code 25 = .ok (.bipush (-3), 2) := by decide +kernel
theorem dX9_code_27 : decode cX9_code 27 = .ok (.invokevirtual 51, 3) := by decide +kernel
theorem dX9_code_30 : decode cX9_code 30 = .ok (.ireturn, 1) := by decide +kernel
theorem dX9_code_31 : decode cX9_code 31 = .ok (.iload_n 1, 1) := by decide +kernel
theorem dX9_code_32 : decode cX9_code 32 = .ok (.ifCond .lt 17, 3) := by decide +kernel
theorem dX9_code_35 : decode cX9_code 35 = .ok (.iload_n 1, 1) := by decide +kernel
theorem dX9_code_36 : decode cX9_code 36 = .ok (.aload_n 0, 1) := by decide +kernel
theorem dX9_code_37 : decode cX9_code 37 = .ok (.getfield 10, 3) := by decide +kernel
theorem dX9_code_40 : decode cX9_code 40 = .ok (.getfield 115, 3) := by decide +kernel
theorem dX9_code_43 : decode cX9_code 43 = .ok (.getfield 133, 3) := by decide +kernel
theorem dX9_code_46 : decode cX9_code 46 = .ok (.if_icmp .le 9, 3) := by decide +kernel
theorem dX9_code_49 : decode cX9_code 49 = .ok (.aload_n 0, 1) := by decide +kernel
theorem dX9_code_50 : decode cX9_code 50 = .ok (.iconst (-1), 1) := by decide +kernel
theorem dX9_code_51 : decode cX9_code 51 = .ok (.invokevirtual 51, 3) := by decide +kernel
theorem dX9_code_54 : decode cX9_code 54 = .ok (.ireturn, 1) := by decide +kernel
theorem dX9_code_55 : decode cX9_code 55 = .ok (.aload_n 0, 1) := by decide +kernel
theorem dX9_code_56 : decode cX9_code 56 = .ok (.getfield 10, 3) := by decide +kernel
theorem dX9_code_59 : decode cX9_code 59 = .ok (.getfield 115, 3) := by decide +kernel
theorem dX9_code_62 : decode cX9_code 62 = .ok (.iload_n 1, 1) := by decide +kernel
theorem dX9_code_63 : decode cX9_code 63 = .ok (.invokevirtual 136, 3) := by decide +kernel
theorem dX9_code_66 : decode cX9_code 66 = .ok (.ireturn, 1) := by decide +kernel
theorem dX9_cache_0 : decode cX9_cache 0 = .ok (.iload_n 1, 1) := by decide +kernel
theorem dX9_cache_1 : decode cX9_cache 1 = .ok (.ifCond .lt 17, 3) := by decide +kernel
theorem dX9_cache_4 : decode cX9_cache 4 = .ok (.iload_n 1, 1) := by decide +kernel
theorem dX9_cache_5 : decode cX9_cache 5 = .ok (.aload_n 0, 1) := by decide +kernel
theorem dX9_cache_6 : decode cX9_cache 6 = .ok (.getfield 10, 3) := by decide +kernel
theorem dX9_cache_9 : decode cX9_cache 9 = .ok (.getfield 66, 3) := by decide +kernel
theorem dX9_cache_12 : decode cX9_cache 12 = .ok (.getfield 139, 3) := by decide +kernel
theorem dX9_cache_15 : decode cX9_cache 15 = .ok (.if_icmp .lt 9, 3) := by decide +kernel
theorem dX9_cache_18 : decode cX9_cache 18 = .ok (.aload_n 0, 1) := by decide +kernel
theorem dX9_cache_19 : decode cX9_cache 19 = .ok (.iconst (-1), 1) := by decide +kernel
theorem dX9_cache_20 : decode cX9_cache 20 = .ok (.invokevirtual 51, 3) := by decide +kernel
theorem dX9_cache_23 : decode cX9_cache 23 = .ok (.ireturn, 1) := by decide +kernel
theorem dX9_cache_24 : decode cX9_cache 24 = .ok (.iload_n 2, 1) := by decide +kernel
theorem dX9_cache_25 : decode cX9_cache 25 = .ok (.ifCond .lt 8, 3) := by decide +kernel
theorem dX9_cache_28 : decode cX9_cache 28 = .ok (.iload_n 2, 1) := by decide +kernel
theorem dX9_cache_29 : decode cX9_cache 29 = .ok (.iconst 3, 1) := by decide +kernel
theorem dX9_cache_30 : decode cX9_cache 30 = .ok (.if_icmp .le 10, 3) := by decide +kernel
theorem dX9_cache_33 : decode cX9_cache 33 = .ok (.aload_n 0, 1) := by decide +kernel
theorem dX9_cache_34 : decode cX9_cache 34 = .ok (.bipush (-2), 2) := by decide +kernel
theorem dX9_cache_36 : decode cX9_cache 36 = .ok (.invokevirtual 51, 3) := by decide +kernel
theorem dX9_cache_39 : decode cX9_cache 39 = .ok (.ireturn, 1) := by decide +kernel
theorem dX9_cache_40 : decode cX9_cache 40 = .ok (.aload_n 0, 1) := by decide +kernel
theorem dX9_cache_41 : decode cX9_cache 41 = .ok (.getfield 10, 3) := by decide +kernel
theorem dX9_cache_44 : decode cX9_cache 44 = .ok (.getfield 142, 3) := by decide +kernel
theorem dX9_cache_47 : decode cX9_cache 47 = .ok (.iload_n 1, 1) := by decide +kernel
theorem dX9_cache_48 : decode cX9_cache 48 = .ok (.iload_n 2, 1) := by decide +kernel
theorem dX9_cache_49 : decode cX9_cache 49 = .ok (.invokevirtual 146, 3) := by decide +kernel
theorem dX9_cache_52 : decode cX9_cache 52 = .ok (.ireturn, 1) := by decide +kernel
theorem dX9_thinks_0 : decode cX9_thinks 0 = .ok (.iload_n 1, 1) := by decide +kernel
theorem dX9_thinks_1 : decode cX9_thinks 1 = .ok (.invokestatic 124, 3) := by decide +kernel
theorem dX9_thinks_4 : decode cX9_thinks 4 = .ok (.ifCond .ne 10, 3) := by decide +kernel
theorem dX9_thinks_7 : decode cX9_thinks 7 = .ok (.aload_n 0, 1) := by decide +kernel
theorem dX9_thinks_8 : decode cX9_thinks 8 = .ok (.bipush (-2), 2) := by decide +kernel
theorem dX9_thinks_10 : decode cX9_thinks 10 = .ok (.invokevirtual 89, 3) := by decide +kernel
theorem dX9_thinks_13 : decode cX9_thinks 13 = .ok (.ireturn, 1) := by decide +kernel
theorem dX9_thinks_14 : decode cX9_thinks 14 = .ok (.aload_n 0, 1) := by decide +kernel
theorem dX9_thinks_15 : decode cX9_thinks 15 = .ok (.invokevirtual 107, 3) := by decide +kernel
theorem dX9_thinks_18 : decode cX9_thinks 18 = .ok (.iload_n 1, 1) := by decide +kernel
theorem dX9_thinks_19 : decode cX9_thinks 19 = .ok (.invokevirtual 130, 3) := by decide +kernel
theorem dX9_thinks_22 : decode cX9_thinks 22 = .ok (.ireturn, 1) := by decide +kernel
theorem dX9_with_0 : decode cX9_with 0 = .ok (.iload_n 1, 1) := by decide +kernel
theorem dX9_with_1 : decode cX9_with 1 = .ok (.iload_n 2, 1) := by decide +kernel
theorem dX9_with_2 : decode cX9_with 2 = .ok (.invokestatic 99, 3) := by decide +kernel
theorem dX9_with_5 : decode cX9_with 5 = .ok (.istore 4, 2) := by decide +kernel
theorem dX9_with_7 : decode cX9_with 7 = .ok (.iload 4, 2) := by decide +kernel
theorem dX9_with_9 : decode cX9_with 9 = .ok (.ifCond .ne 14, 3) := by decide +kernel
theorem dX9_with_12 : decode cX9_with 12 = .ok (.iload_n 3, 1) := by decide +kernel
theorem dX9_with_13 : decode cX9_with 13 = .ok (.invokestatic 124, 3) := by decide +kernel
theorem dX9_with_16 : decode cX9_with 16 = .ok (.ifCond .ne 7, 3) := by decide +kernel
theorem dX9_with_19 : decode cX9_with 19 = .ok (.bipush (-2), 2) := by decide +kernel
theorem dX9_with_21 : decode cX9_with 21 = .ok (.istore 4, 2) := by decide +kernel
theorem dX9_with_23 : decode cX9_with 23 = .ok (.iload 4, 2) := by decide +kernel
theorem dX9_with_25 : decode cX9_with 25 = .ok (.ifCond .eq 10, 3) := by decide +kernel
theorem dX9_with_28 : decode cX9_with 28 = .ok (.aload_n 0, 1) := by decide +kernel
theorem dX9_with_29 : decode cX9_with 29 = .ok (.iload 4, 2) := by decide +kernel
theorem dX9_with_31 : decode cX9_with 31 = .ok (.invokevirtual 89, 3) := by decide +kernel
theorem dX9_with_34 : decode cX9_with 34 = .ok (.ireturn, 1) := by decide +kernel
theorem dX9_with_35 : decode cX9_with 35 = .ok (.aload_n 0, 1) := by decide +kernel
theorem dX9_with_36 : decode cX9_with 36 = .ok (.iload_n 1, 1) := by decide +kernel
theorem dX9_with_37 : decode cX9_with 37 = .ok (.iload_n 2, 1) := by decide +kernel
theorem dX9_with_38 : decode cX9_with 38 = .ok (.invokevirtual 150, 3) := by decide +kernel
theorem dX9_with_41 : decode cX9_with 41 = .ok (.iload_n 3, 1) := by decide +kernel
theorem dX9_with_42 : decode cX9_with 42 = .ok (.invokevirtual 130, 3) := by decide +kernel
theorem dX9_with_45 : decode cX9_with 45 = .ok (.ireturn, 1) := by decide +kernel
theorem dX9_solve_0 : decode cX9_solve 0 = .ok (.iload_n 1, 1) := by decide +kernel
theorem dX9_solve_1 : decode cX9_solve 1 = .ok (.iload_n 2, 1) := by decide +kernel
theorem dX9_solve_2 : decode cX9_solve 2 = .ok (.invokestatic 99, 3) := by decide +kernel
theorem dX9_solve_5 : decode cX9_solve 5 = .ok (.istore_n 3, 1) := by decide +kernel
theorem dX9_solve_6 : decode cX9_solve 6 = .ok (.iload_n 3, 1) := by decide +kernel
theorem dX9_solve_7 : decode cX9_solve 7 = .ok (.ifCond .eq 9, 3) := by decide +kernel
theorem dX9_solve_10 : decode cX9_solve 10 = .ok (.aload_n 0, 1) := by decide +kernel
theorem dX9_solve_11 : decode cX9_solve 11 = .ok (.iload_n 3, 1) := by decide +kernel
theorem dX9_solve_12 : decode cX9_solve 12 = .ok (.invokevirtual 89, 3) := by decide +kernel
theorem dX9_solve_15 : decode cX9_solve 15 = .ok (.ireturn, 1) := by decide +kernel
theorem dX9_solve_16 : decode cX9_solve 16 = .ok (.bipush (-20), 2) := by decide +kernel
theorem dX9_solve_18 : decode cX9_solve 18 = .ok (.istore 4, 2) := by decide +kernel
theorem dX9_solve_20 : decode cX9_solve 20 = .ok (.iload 4, 2) := by decide +kernel
theorem dX9_solve_22 : decode cX9_solve 22 = .ok (.bipush 20, 2) := by decide +kernel
theorem dX9_solve_24 : decode cX9_solve 24 = .ok (.if_icmp .gt 26, 3) := by decide +kernel
theorem dX9_solve_27 : decode cX9_solve 27 = .ok (.aload_n 0, 1) := by decide +kernel
theorem dX9_solve_28 : decode cX9_solve 28 = .ok (.iload_n 1, 1) := by decide +kernel
theorem dX9_solve_29 : decode cX9_solve 29 = .ok (.iload 4, 2) := by decide +kernel
theorem dX9_solve_31 : decode cX9_solve 31 = .ok (.invokevirtual 150, 3) := by decide +kernel
theorem dX9_solve_34 : decode cX9_solve 34 = .ok (.iload_n 2, 1) := by decide +kernel
theorem dX9_solve_35 : decode cX9_solve 35 = .ok (.invokevirtual 154, 3) := by decide +kernel
theorem dX9_solve_38 : decode cX9_solve 38 = .ok (.ifCond .eq 6, 3) := by decide +kernel
theorem dX9_solve_41 : decode cX9_solve 41 = .ok (.iload 4, 2) := by decide +kernel
theorem dX9_solve_43 : decode cX9_solve 43 = .ok (.ireturn, 1) := by decide +kernel
theorem dX9_solve_44 : decode cX9_solve 44 = .ok (.iinc 4 1, 3) := by decide +kernel
theorem dX9_solve_47 : decode cX9_solve 47 = .ok (.goto (-27), 3) := by decide +kernel
theorem dX9_solve_50 : decode cX9_solve 50 = .ok (.ldc 157, 2) := by decide +kernel
theorem dX9_solve_52 : decode cX9_solve 52 = .ok (.ireturn, 1) := by decide +kernel
theorem dX9_fewest_0 : decode cX9_fewest 0 = .ok (.iload_n 1, 1) := by decide +kernel
theorem dX9_fewest_1 : decode cX9_fewest 1 = .ok (.invokestatic 85, 3) := by decide +kernel
theorem dX9_fewest_4 : decode cX9_fewest 4 = .ok (.ifCond .ne 9, 3) := by decide +kernel
theorem dX9_fewest_7 : decode cX9_fewest 7 = .ok (.aload_n 0, 1) := by decide +kernel
theorem dX9_fewest_8 : decode cX9_fewest 8 = .ok (.iconst (-1), 1) := by decide +kernel
theorem dX9_fewest_9 : decode cX9_fewest 9 = .ok (.invokevirtual 89, 3) := by decide +kernel
theorem dX9_fewest_12 : decode cX9_fewest 12 = .ok (.ireturn, 1) := by decide +kernel
theorem dX9_fewest_13 : decode cX9_fewest 13 = .ok (.iload_n 2, 1) := by decide +kernel
theorem dX9_fewest_14 : decode cX9_fewest 14 = .ok (.ifCond .lt 8, 3) := by decide +kernel
theorem dX9_fewest_17 : decode cX9_fewest 17 = .ok (.iload_n 2, 1) := by decide +kernel
theorem dX9_fewest_18 : decode cX9_fewest 18 = .ok (.iconst 1, 1) := by decide +kernel
theorem dX9_fewest_19 : decode cX9_fewest 19 = .ok (.if_icmp .le 10, 3) := by decide +kernel
theorem dX9_fewest_22 : decode cX9_fewest 22 = .ok (.aload_n 0, 1) := by decide +kernel
theorem dX9_fewest_23 : decode cX9_fewest 23 = .ok (.bipush (-2), 2) := by decide +kernel
theorem dX9_fewest_25 : decode cX9_fewest 25 = .ok (.invokevirtual 89, 3) := by decide +kernel
theorem dX9_fewest_28 : decode cX9_fewest 28 = .ok (.ireturn, 1) := by decide +kernel
theorem dX9_fewest_29 : decode cX9_fewest 29 = .ok (.ldc 157, 2) := by decide +kernel
theorem dX9_fewest_31 : decode cX9_fewest 31 = .ok (.istore_n 3, 1) := by decide +kernel
theorem dX9_fewest_32 : decode cX9_fewest 32 = .ok (.ldc 157, 2) := by decide +kernel
theorem dX9_fewest_34 : decode cX9_fewest 34 = .ok (.istore 4, 2) := by decide +kernel
theorem dX9_fewest_36 : decode cX9_fewest 36 = .ok (.bipush (-20), 2) := by decide +kernel
theorem dX9_fewest_38 : decode cX9_fewest 38 = .ok (.istore 5, 2) := by decide +kernel
theorem dX9_fewest_40 : decode cX9_fewest 40 = .ok (.iload 5, 2) := by decide +kernel
theorem dX9_fewest_42 : decode cX9_fewest 42 = .ok (.bipush 20, 2) := by decide +kernel
theorem dX9_fewest_44 : decode cX9_fewest 44 = .ok (.if_icmp .gt 47, 3) := by decide +kernel
theorem dX9_fewest_47 : decode cX9_fewest 47 = .ok (.aload_n 0, 1) := by decide +kernel
theorem dX9_fewest_48 : decode cX9_fewest 48 = .ok (.iload_n 1, 1) := by decide +kernel
theorem dX9_fewest_49 : decode cX9_fewest 49 = .ok (.iload 5, 2) := by decide +kernel
theorem dX9_fewest_51 : decode cX9_fewest 51 = .ok (.invokevirtual 150, 3) := by decide +kernel
theorem dX9_fewest_54 : decode cX9_fewest 54 = .ok (.astore 6, 2) := by decide +kernel
theorem dX9_fewest_56 : decode cX9_fewest 56 = .ok (.aload 6, 2) := by decide +kernel
theorem dX9_fewest_58 : decode cX9_fewest 58 = .ok (.getfield 119, 3) := by decide +kernel
theorem dX9_fewest_61 : decode cX9_fewest 61 = .ok (.iconst 3, 1) := by decide +kernel
theorem dX9_fewest_62 : decode cX9_fewest 62 = .ok (.if_icmp .eq 23, 3) := by decide +kernel
theorem dX9_fewest_65 : decode cX9_fewest 65 = .ok (.aload 6, 2) := by decide +kernel
theorem dX9_fewest_67 : decode cX9_fewest 67 = .ok (.getfield 158, 3) := by decide +kernel
theorem dX9_fewest_70 : decode cX9_fewest 70 = .ok (.iload 4, 2) := by decide +kernel
theorem dX9_fewest_72 : decode cX9_fewest 72 = .ok (.if_icmp .ge 13, 3) := by decide +kernel
theorem dX9_fewest_75 : decode cX9_fewest 75 = .ok (.iload 5, 2) := by decide +kernel
theorem dX9_fewest_77 : decode cX9_fewest 77 = .ok (.istore_n 3, 1) := by decide +kernel
theorem dX9_fewest_78 : decode cX9_fewest 78 = .ok (.aload 6, 2) := by decide +kernel
theorem dX9_fewest_80 : decode cX9_fewest 80 = .ok (.getfield 158, 3) := by decide +kernel
theorem dX9_fewest_83 : decode cX9_fewest 83 = .ok (.istore 4, 2) := by decide +kernel
theorem dX9_fewest_85 : decode cX9_fewest 85 = .ok (.iinc 5 1, 3) := by decide +kernel
theorem dX9_fewest_88 : decode cX9_fewest 88 = .ok (.goto (-48), 3) := by decide +kernel
theorem dX9_fewest_91 : decode cX9_fewest 91 = .ok (.iload_n 2, 1) := by decide +kernel
theorem dX9_fewest_92 : decode cX9_fewest 92 = .ok (.ifCond .ne 7, 3) := by decide +kernel
theorem dX9_fewest_95 : decode cX9_fewest 95 = .ok (.iload_n 3, 1) := by decide +kernel
theorem dX9_fewest_96 : decode cX9_fewest 96 = .ok (.goto 5, 3) := by decide +kernel
theorem dX9_fewest_99 : decode cX9_fewest 99 = .ok (.iload 4, 2) := by decide +kernel
theorem dX9_fewest_101 : decode cX9_fewest 101 = .ok (.ireturn, 1) := by decide +kernel
theorem dX9_pure_0 : decode cX9_pure 0 = .ok (.aload_n 0, 1) := by decide +kernel
theorem dX9_pure_1 : decode cX9_pure 1 = .ok (.invokevirtual 107, 3) := by decide +kernel
theorem dX9_pure_4 : decode cX9_pure 4 = .ok (.astore_n 1, 1) := by decide +kernel
theorem dX9_pure_5 : decode cX9_pure 5 = .ok (.aload_n 1, 1) := by decide +kernel
theorem dX9_pure_6 : decode cX9_pure 6 = .ok (.getfield 119, 3) := by decide +kernel
theorem dX9_pure_9 : decode cX9_pure 9 = .ok (.istore_n 2, 1) := by decide +kernel
theorem dX9_pure_10 : decode cX9_pure 10 = .ok (.aload_n 1, 1) := by decide +kernel
theorem dX9_pure_11 : decode cX9_pure 11 = .ok (.getfield 161, 3) := by decide +kernel
theorem dX9_pure_14 : decode cX9_pure 14 = .ok (.istore_n 3, 1) := by decide +kernel
theorem dX9_pure_15 : decode cX9_pure 15 = .ok (.aload_n 0, 1) := by decide +kernel
theorem dX9_pure_16 : decode cX9_pure 16 = .ok (.getfield 22, 3) := by decide +kernel
theorem dX9_pure_19 : decode cX9_pure 19 = .ok (.invokevirtual 164, 3) := by decide +kernel
theorem dX9_pure_22 : decode cX9_pure 22 = .ok (.pop, 1) := by decide +kernel
theorem dX9_pure_23 : decode cX9_pure 23 = .ok (.aload_n 1, 1) := by decide +kernel
theorem dX9_pure_24 : decode cX9_pure 24 = .ok (.getfield 119, 3) := by decide +kernel
theorem dX9_pure_27 : decode cX9_pure 27 = .ok (.iload_n 2, 1) := by decide +kernel
theorem dX9_pure_28 : decode cX9_pure 28 = .ok (.if_icmp .ne 15, 3) := by decide +kernel
theorem dX9_pure_31 : decode cX9_pure 31 = .ok (.aload_n 1, 1) := by decide +kernel
theorem dX9_pure_32 : decode cX9_pure 32 = .ok (.getfield 161, 3) := by decide +kernel
theorem dX9_pure_35 : decode cX9_pure 35 = .ok (.iload_n 3, 1) := by decide +kernel
theorem dX9_pure_36 : decode cX9_pure 36 = .ok (.if_icmp .ne 7, 3) := by decide +kernel
theorem dX9_pure_39 : decode cX9_pure 39 = .ok (.iconst 1, 1) := by decide +kernel
theorem dX9_pure_40 : decode cX9_pure 40 = .ok (.goto 4, 3) := by decide +kernel
theorem dX9_pure_43 : decode cX9_pure 43 = .ok (.iconst 0, 1) := by decide +kernel
theorem dX9_pure_44 : decode cX9_pure 44 = .ok (.istore 4, 2) := by decide +kernel
theorem dX9_pure_46 : decode cX9_pure 46 = .ok (.iload 4, 2) := by decide +kernel
theorem dX9_pure_48 : decode cX9_pure 48 = .ok (.ifCond .eq 27, 3) := by decide +kernel
theorem dX9_pure_51 : decode cX9_pure 51 = .ok (.aload_n 0, 1) := by decide +kernel
theorem dX9_pure_52 : decode cX9_pure 52 = .ok (.getfield 22, 3) := by decide +kernel
theorem dX9_pure_55 : decode cX9_pure 55 = .ok (.getfield 167, 3) := by decide +kernel
theorem dX9_pure_58 : decode cX9_pure 58 = .ok (.aload_n 0, 1) := by decide +kernel
theorem dX9_pure_59 : decode cX9_pure 59 = .ok (.getfield 10, 3) := by decide +kernel
theorem dX9_pure_62 : decode cX9_pure 62 = .ok (.getfield 92, 3) := by decide +kernel
theorem dX9_pure_65 : decode cX9_pure 65 = .ok (.invokestatic 168, 3) := by decide +kernel
theorem dX9_pure_68 : decode cX9_pure 68 = .ok (.ifCond .eq 7, 3) := by decide +kernel
theorem dX9_pure_71 : decode cX9_pure 71 = .ok (.iconst 1, 1) := by decide +kernel
theorem dX9_pure_72 : decode cX9_pure 72 = .ok (.goto 4, 3) := by decide +kernel
theorem dX9_pure_75 : decode cX9_pure 75 = .ok (.iconst 0, 1) := by decide +kernel
theorem dX9_pure_76 : decode cX9_pure 76 = .ok (.ireturn, 1) := by decide +kernel
theorem dX9_changes_0 : decode cX9_changes 0 = .ok (.aload_n 0, 1) := by decide +kernel
theorem dX9_changes_1 : decode cX9_changes 1 = .ok (.invokevirtual 107, 3) := by decide +kernel
theorem dX9_changes_4 : decode cX9_changes 4 = .ok (.pop, 1) := by decide +kernel
theorem dX9_changes_5 : decode cX9_changes 5 = .ok (.iconst 0, 1) := by decide +kernel
theorem dX9_changes_6 : decode cX9_changes 6 = .ok (.istore_n 1, 1) := by decide +kernel
theorem dX9_changes_7 : decode cX9_changes 7 = .ok (.iconst 0, 1) := by decide +kernel
theorem dX9_changes_8 : decode cX9_changes 8 = .ok (.istore_n 2, 1) := by decide +kernel
theorem dX9_changes_9 : decode cX9_changes 9 = .ok (.iload_n 2, 1) := by decide +kernel
theorem dX9_changes_10 : decode cX9_changes 10 = .ok (.bipush 10, 2) := by decide +kernel
theorem dX9_changes_12 : decode cX9_changes 12 = .ok (.if_icmp .ge 37, 3) := by decide +kernel
theorem dX9_changes_15 : decode cX9_changes 15 = .ok (.aload_n 0, 1) := by decide +kernel
theorem dX9_changes_16 : decode cX9_changes 16 = .ok (.getfield 22, 3) := by decide +kernel
theorem dX9_changes_19 : decode cX9_changes 19 = .ok (.getfield 172, 3) := by decide +kernel
theorem dX9_changes_22 : decode cX9_changes 22 = .ok (.iload_n 2, 1) := by decide +kernel
theorem dX9_changes_23 : decode cX9_changes 23 = .ok (.invokevirtual 173, 3) := by decide +kernel
theorem dX9_changes_26 : decode cX9_changes 26 = .ok (.aload_n 0, 1) := by decide +kernel
theorem dX9_changes_27 : decode cX9_changes 27 = .ok (.getfield 10, 3) := by decide +kernel
theorem dX9_changes_30 : decode cX9_changes 30 = .ok (.getfield 142, 3) := by decide +kernel
theorem dX9_changes_33 : decode cX9_changes 33 = .ok (.iload_n 2, 1) := by decide +kernel
theorem dX9_changes_34 : decode cX9_changes 34 = .ok (.invokevirtual 173, 3) := by decide +kernel
theorem dX9_changes_37 : decode cX9_changes 37 = .ok (.if_icmp .eq 6, 3) := by decide +kernel
theorem dX9_changes_40 : decode cX9_changes 40 = .ok (.iinc 1 1, 3) := by decide +kernel
theorem dX9_changes_43 : decode cX9_changes 43 = .ok (.iinc 2 1, 3) := by decide +kernel
theorem dX9_changes_46 : decode cX9_changes 46 = .ok (.goto (-37), 3) := by decide +kernel
theorem dX9_changes_49 : decode cX9_changes 49 = .ok (.iload_n 1, 1) := by decide +kernel
theorem dX9_changes_50 : decode cX9_changes 50 = .ok (.ireturn, 1) := by decide +kernel
theorem dX9_again_0 : decode cX9_again 0 = .ok (.iload_n 1, 1) := by decide +kernel
theorem dX9_again_1 : decode cX9_again 1 = .ok (.iconst 1, 1) := by decide +kernel
theorem dX9_again_2 : decode cX9_again 2 = .ok (.bipush 20, 2) := by decide +kernel
theorem dX9_again_4 : decode cX9_again 4 = .ok (.iload_n 2, 1) := by decide +kernel
theorem dX9_again_5 : decode cX9_again 5 = .ok (.invokestatic 176, 3) := by decide +kernel
theorem dX9_again_8 : decode cX9_again 8 = .ok (.istore_n 3, 1) := by decide +kernel
theorem dX9_again_9 : decode cX9_again 9 = .ok (.iload_n 3, 1) := by decide +kernel
theorem dX9_again_10 : decode cX9_again 10 = .ok (.ifCond .eq 9, 3) := by decide +kernel
theorem dX9_again_13 : decode cX9_again 13 = .ok (.aload_n 0, 1) := by decide +kernel
theorem dX9_again_14 : decode cX9_again 14 = .ok (.iload_n 3, 1) := by decide +kernel
theorem dX9_again_15 : decode cX9_again 15 = .ok (.invokevirtual 89, 3) := by decide +kernel
theorem dX9_again_18 : decode cX9_again 18 = .ok (.ireturn, 1) := by decide +kernel
theorem dX9_again_19 : decode cX9_again 19 = .ok (.iconst 0, 1) := by decide +kernel
theorem dX9_again_20 : decode cX9_again 20 = .ok (.istore 4, 2) := by decide +kernel
theorem dX9_again_22 : decode cX9_again 22 = .ok (.aload_n 0, 1) := by decide +kernel
theorem dX9_again_23 : decode cX9_again 23 = .ok (.getfield 22, 3) := by decide +kernel
theorem dX9_again_26 : decode cX9_again 26 = .ok (.aload_n 0, 1) := by decide +kernel
theorem dX9_again_27 : decode cX9_again 27 = .ok (.getfield 10, 3) := by decide +kernel
theorem dX9_again_30 : decode cX9_again 30 = .ok (.invokevirtual 180, 3) := by decide +kernel
theorem dX9_again_33 : decode cX9_again 33 = .ok (.iconst 0, 1) := by decide +kernel
theorem dX9_again_34 : decode cX9_again 34 = .ok (.istore 5, 2) := by decide +kernel
theorem dX9_again_36 : decode cX9_again 36 = .ok (.iload 5, 2) := by decide +kernel
theorem dX9_again_38 : decode cX9_again 38 = .ok (.iload_n 1, 1) := by decide +kernel
theorem dX9_again_39 : decode cX9_again 39 = .ok (.if_icmp .ge 26, 3) := by decide +kernel
theorem dX9_again_42 : decode cX9_again 42 = .ok (.aload_n 0, 1) := by decide +kernel
theorem dX9_again_43 : decode cX9_again 43 = .ok (.getfield 22, 3) := by decide +kernel
theorem dX9_again_46 : decode cX9_again 46 = .ok (.invokevirtual 164, 3) := by decide +kernel
theorem dX9_again_49 : decode cX9_again 49 = .ok (.getfield 119, 3) := by decide +kernel
theorem dX9_again_52 : decode cX9_again 52 = .ok (.iconst 3, 1) := by decide +kernel
theorem dX9_again_53 : decode cX9_again 53 = .ok (.if_icmp .ne 6, 3) := by decide +kernel
theorem dX9_again_56 : decode cX9_again 56 = .ok (.iinc 4 1, 3) := by decide +kernel
theorem dX9_again_59 : decode cX9_again 59 = .ok (.iinc 5 1, 3) := by decide +kernel
theorem dX9_again_62 : decode cX9_again 62 = .ok (.goto (-26), 3) := by decide +kernel
theorem dX9_again_65 : decode cX9_again 65 = .ok (.iload_n 2, 1) := by decide +kernel
theorem dX9_again_66 : decode cX9_again 66 = .ok (.ifCond .ne 8, 3) := by decide +kernel
theorem dX9_again_69 : decode cX9_again 69 = .ok (.iload 4, 2) := by decide +kernel
theorem dX9_again_71 : decode cX9_again 71 = .ok (.goto 14, 3) := by decide +kernel
theorem dX9_again_74 : decode cX9_again 74 = .ok (.aload_n 0, 1) := by decide +kernel
theorem dX9_again_75 : decode cX9_again 75 = .ok (.getfield 22, 3) := by decide +kernel
theorem dX9_again_78 : decode cX9_again 78 = .ok (.getfield 167, 3) := by decide +kernel
theorem dX9_again_81 : decode cX9_again 81 = .ok (.iconst 0, 1) := by decide +kernel
theorem dX9_again_82 : decode cX9_again 82 = .ok (.invokestatic 95, 3) := by decide +kernel
theorem dX9_again_85 : decode cX9_again 85 = .ok (.ireturn, 1) := by decide +kernel
theorem dX9_likely_0 : decode cX9_likely 0 = .ok (.iload_n 1, 1) := by decide +kernel
theorem dX9_likely_1 : decode cX9_likely 1 = .ok (.iconst 2, 1) := by decide +kernel
theorem dX9_likely_2 : decode cX9_likely 2 = .ok (.bipush 20, 2) := by decide +kernel
theorem dX9_likely_4 : decode cX9_likely 4 = .ok (.iload_n 2, 1) := by decide +kernel
theorem dX9_likely_5 : decode cX9_likely 5 = .ok (.invokestatic 176, 3) := by decide +kernel
theorem dX9_likely_8 : decode cX9_likely 8 = .ok (.istore_n 3, 1) := by decide +kernel
theorem dX9_likely_9 : decode cX9_likely 9 = .ok (.iload_n 3, 1) := by decide +kernel
theorem dX9_likely_10 : decode cX9_likely 10 = .ok (.ifCond .eq 9, 3) := by decide +kernel
theorem dX9_likely_13 : decode cX9_likely 13 = .ok (.aload_n 0, 1) := by decide +kernel
theorem dX9_likely_14 : decode cX9_likely 14 = .ok (.iload_n 3, 1) := by decide +kernel
theorem dX9_likely_15 : decode cX9_likely 15 = .ok (.invokevirtual 184, 3) := by decide +kernel
theorem dX9_likely_18 : decode cX9_likely 18 = .ok (.lreturn, 1) := by decide +kernel
theorem dX9_likely_19 : decode cX9_likely 19 = .ok (.lconst 0, 1) := by decide +kernel
theorem dX9_likely_20 : decode cX9_likely 20 = .ok (.lstore 4, 2) := by decide +kernel
theorem dX9_likely_22 : decode cX9_likely 22 = .ok (.iconst 0, 1) := by decide +kernel
theorem dX9_likely_23 : decode cX9_likely 23 = .ok (.istore 6, 2) := by decide +kernel
theorem dX9_likely_25 : decode cX9_likely 25 = .ok (.iload 6, 2) := by decide +kernel
theorem dX9_likely_27 : decode cX9_likely 27 = .ok (.bipush 8, 2) := by decide +kernel
theorem dX9_likely_29 : decode cX9_likely 29 = .ok (.if_icmp .ge 101, 3) := by decide +kernel
theorem dX9_likely_32 : decode cX9_likely 32 = .ok (.aload_n 0, 1) := by decide +kernel
theorem dX9_likely_33 : decode cX9_likely 33 = .ok (.getfield 22, 3) := by decide +kernel
theorem dX9_likely_36 : decode cX9_likely 36 = .ok (.aload_n 0, 1) := by decide +kernel
theorem dX9_likely_37 : decode cX9_likely 37 = .ok (.getfield 10, 3) := by decide +kernel
theorem dX9_likely_40 : decode cX9_likely 40 = .ok (.invokevirtual 180, 3) := by decide +kernel
theorem dX9_likely_43 : decode cX9_likely 43 = .ok (.lconst 1, 1) := by decide +kernel
theorem dX9_likely_44 : decode cX9_likely 44 = .ok (.lstore 7, 2) := by decide +kernel
theorem dX9_likely_46 : decode cX9_likely 46 = .ok (.iconst 0, 1) := by decide +kernel
theorem dX9_likely_47 : decode cX9_likely 47 = .ok (.istore 9, 2) := by decide +kernel
theorem dX9_likely_49 : decode cX9_likely 49 = .ok (.iload 9, 2) := by decide +kernel
theorem dX9_likely_51 : decode cX9_likely 51 = .ok (.iconst 3, 1) := by decide +kernel
theorem dX9_likely_52 : decode cX9_likely 52 = .ok (.if_icmp .ge 51, 3) := by decide +kernel
theorem dX9_likely_55 : decode cX9_likely 55 = .ok (.iload 6, 2) := by decide +kernel
theorem dX9_likely_57 : decode cX9_likely 57 = .ok (.iload 9, 2) := by decide +kernel
theorem dX9_likely_59 : decode cX9_likely 59 = .ok (.ishr, 1) := by decide +kernel
theorem dX9_likely_60 : decode cX9_likely 60 = .ok (.iconst 1, 1) := by decide +kernel
theorem dX9_likely_61 : decode cX9_likely 61 = .ok (.iand, 1) := by decide +kernel
theorem dX9_likely_62 : decode cX9_likely 62 = .ok (.istore 10, 2) := by decide +kernel
theorem dX9_likely_64 : decode cX9_likely 64 = .ok (.aload_n 0, 1) := by decide +kernel
theorem dX9_likely_65 : decode cX9_likely 65 = .ok (.getfield 22, 3) := by decide +kernel
theorem dX9_likely_68 : decode cX9_likely 68 = .ok (.getfield 167, 3) := by decide +kernel
theorem dX9_likely_71 : decode cX9_likely 71 = .ok (.iload 9, 2) := by decide +kernel
theorem dX9_likely_73 : decode cX9_likely 73 = .ok (.iload 10, 2) := by decide +kernel
theorem dX9_likely_75 : decode cX9_likely 75 = .ok (.invokestatic 103, 3) := by decide +kernel
theorem dX9_likely_78 : decode cX9_likely 78 = .ok (.lload 7, 2) := by decide +kernel
theorem dX9_likely_80 : decode cX9_likely 80 = .ok (.iload 10, 2) := by decide +kernel
theorem dX9_likely_82 : decode cX9_likely 82 = .ok (.iconst 1, 1) := by decide +kernel
theorem dX9_likely_83 : decode cX9_likely 83 = .ok (.if_icmp .ne 7, 3) := by decide +kernel
theorem dX9_likely_86 : decode cX9_likely 86 = .ok (.lconst 1, 1) := by decide +kernel
theorem dX9_likely_87 : decode cX9_likely 87 = .ok (.goto 7, 3) := by decide +kernel
theorem dX9_likely_90 : decode cX9_likely 90 = .ok (.iload_n 1, 1) := by decide +kernel
theorem dX9_likely_91 : decode cX9_likely 91 = .ok (.iconst 1, 1) := by decide +kernel
theorem dX9_likely_92 : decode cX9_likely 92 = .ok (.isub, 1) := by decide +kernel
theorem dX9_likely_93 : decode cX9_likely 93 = .ok (.i2l, 1) := by decide +kernel
theorem dX9_likely_94 : decode cX9_likely 94 = .ok (.lmul, 1) := by decide +kernel
theorem dX9_likely_95 : decode cX9_likely 95 = .ok (.lstore 7, 2) := by decide +kernel
theorem dX9_likely_97 : decode cX9_likely 97 = .ok (.iinc 9 1, 3) := by decide +kernel
theorem dX9_likely_100 : decode cX9_likely 100 = .ok (.goto (-51), 3) := by decide +kernel
theorem dX9_likely_103 : decode cX9_likely 103 = .ok (.aload_n 0, 1) := by decide +kernel
theorem dX9_likely_104 : decode cX9_likely 104 = .ok (.getfield 22, 3) := by decide +kernel
theorem dX9_likely_107 : decode cX9_likely 107 = .ok (.invokevirtual 164, 3) := by decide +kernel
theorem dX9_likely_110 : decode cX9_likely 110 = .ok (.getfield 119, 3) := by decide +kernel
theorem dX9_likely_113 : decode cX9_likely 113 = .ok (.iconst 3, 1) := by decide +kernel
theorem dX9_likely_114 : decode cX9_likely 114 = .ok (.if_icmp .eq 10, 3) := by decide +kernel
theorem dX9_likely_117 : decode cX9_likely 117 = .ok (.lload 4, 2) := by decide +kernel
theorem dX9_likely_119 : decode cX9_likely 119 = .ok (.lload 7, 2) := by decide +kernel
theorem dX9_likely_121 : decode cX9_likely 121 = .ok (.ladd, 1) := by decide +kernel
theorem dX9_likely_122 : decode cX9_likely 122 = .ok (.lstore 4, 2) := by decide +kernel
theorem dX9_likely_124 : decode cX9_likely 124 = .ok (.iinc 6 1, 3) := by decide +kernel
theorem dX9_likely_127 : decode cX9_likely 127 = .ok (.goto (-102), 3) := by decide +kernel
theorem dX9_likely_130 : decode cX9_likely 130 = .ok (.lload 4, 2) := by decide +kernel
theorem dX9_likely_132 : decode cX9_likely 132 = .ok (.iload_n 1, 1) := by decide +kernel
theorem dX9_likely_133 : decode cX9_likely 133 = .ok (.i2l, 1) := by decide +kernel
theorem dX9_likely_134 : decode cX9_likely 134 = .ok (.iload_n 1, 1) := by decide +kernel
theorem dX9_likely_135 : decode cX9_likely 135 = .ok (.i2l, 1) := by decide +kernel
theorem dX9_likely_136 : decode cX9_likely 136 = .ok (.lmul, 1) := by decide +kernel
theorem dX9_likely_137 : decode cX9_likely 137 = .ok (.iload_n 1, 1) := by decide +kernel
theorem dX9_likely_138 : decode cX9_likely 138 = .ok (.i2l, 1) := by decide +kernel
theorem dX9_likely_139 : decode cX9_likely 139 = .ok (.lmul, 1) := by decide +kernel
theorem dX9_likely_140 : decode cX9_likely 140 = .ok (.iload_n 2, 1) := by decide +kernel
theorem dX9_likely_141 : decode cX9_likely 141 = .ok (.invokestatic 188, 3) := by decide +kernel
theorem dX9_likely_144 : decode cX9_likely 144 = .ok (.lreturn, 1) := by decide +kernel
theorem dX9_mean_0 : decode cX9_mean 0 = .ok (.iload_n 1, 1) := by decide +kernel
theorem dX9_mean_1 : decode cX9_mean 1 = .ok (.invokestatic 85, 3) := by decide +kernel
theorem dX9_mean_4 : decode cX9_mean 4 = .ok (.ifCond .ne 9, 3) := by decide +kernel
theorem dX9_mean_7 : decode cX9_mean 7 = .ok (.aload_n 0, 1) := by decide +kernel
theorem dX9_mean_8 : decode cX9_mean 8 = .ok (.iconst (-1), 1) := by decide +kernel
theorem dX9_mean_9 : decode cX9_mean 9 = .ok (.invokevirtual 184, 3) := by decide +kernel
theorem dX9_mean_12 : decode cX9_mean 12 = .ok (.lreturn, 1) := by decide +kernel
theorem dX9_mean_13 : decode cX9_mean 13 = .ok (.iload_n 2, 1) := by decide +kernel
theorem dX9_mean_14 : decode cX9_mean 14 = .ok (.ifCond .lt 8, 3) := by decide +kernel
theorem dX9_mean_17 : decode cX9_mean 17 = .ok (.iload_n 2, 1) := by decide +kernel
theorem dX9_mean_18 : decode cX9_mean 18 = .ok (.iconst 1, 1) := by decide +kernel
theorem dX9_mean_19 : decode cX9_mean 19 = .ok (.if_icmp .le 10, 3) := by decide +kernel
theorem dX9_mean_22 : decode cX9_mean 22 = .ok (.aload_n 0, 1) := by decide +kernel
theorem dX9_mean_23 : decode cX9_mean 23 = .ok (.bipush (-2), 2) := by decide +kernel
theorem dX9_mean_25 : decode cX9_mean 25 = .ok (.invokevirtual 184, 3) := by decide +kernel
theorem dX9_mean_28 : decode cX9_mean 28 = .ok (.lreturn, 1) := by decide +kernel
theorem dX9_mean_29 : decode cX9_mean 29 = .ok (.lconst 0, 1) := by decide +kernel
theorem dX9_mean_30 : decode cX9_mean 30 = .ok (.lstore_n 3, 1) := by decide +kernel
theorem dX9_mean_31 : decode cX9_mean 31 = .ok (.iconst 0, 1) := by decide +kernel
theorem dX9_mean_32 : decode cX9_mean 32 = .ok (.istore 5, 2) := by decide +kernel
theorem dX9_mean_34 : decode cX9_mean 34 = .ok (.iload 5, 2) := by decide +kernel
theorem dX9_mean_36 : decode cX9_mean 36 = .ok (.bipush 10, 2) := by decide +kernel
theorem dX9_mean_38 : decode cX9_mean 38 = .ok (.if_icmp .ge 23, 3) := by decide +kernel
theorem dX9_mean_41 : decode cX9_mean 41 = .ok (.lload_n 3, 1) := by decide +kernel
theorem dX9_mean_42 : decode cX9_mean 42 = .ok (.aload_n 0, 1) := by decide +kernel
theorem dX9_mean_43 : decode cX9_mean 43 = .ok (.iload_n 1, 1) := by decide +kernel
theorem dX9_mean_44 : decode cX9_mean 44 = .ok (.iload 5, 2) := by decide +kernel
theorem dX9_mean_46 : decode cX9_mean 46 = .ok (.invokevirtual 150, 3) := by decide +kernel
theorem dX9_mean_49 : decode cX9_mean 49 = .ok (.getfield 158, 3) := by decide +kernel
theorem dX9_mean_52 : decode cX9_mean 52 = .ok (.i2l, 1) := by decide +kernel
theorem dX9_mean_53 : decode cX9_mean 53 = .ok (.ladd, 1) := by decide +kernel
theorem dX9_mean_54 : decode cX9_mean 54 = .ok (.lstore_n 3, 1) := by decide +kernel
theorem dX9_mean_55 : decode cX9_mean 55 = .ok (.iinc 5 1, 3) := by decide +kernel
theorem dX9_mean_58 : decode cX9_mean 58 = .ok (.goto (-24), 3) := by decide +kernel
theorem dX9_mean_61 : decode cX9_mean 61 = .ok (.lload_n 3, 1) := by decide +kernel
theorem dX9_mean_62 : decode cX9_mean 62 = .ok (.ldc2_w 192, 3) := by decide +kernel
theorem dX9_mean_65 : decode cX9_mean 65 = .ok (.iload_n 2, 1) := by decide +kernel
theorem dX9_mean_66 : decode cX9_mean 66 = .ok (.invokestatic 188, 3) := by decide +kernel
theorem dX9_mean_69 : decode cX9_mean 69 = .ok (.lreturn, 1) := by decide +kernel
theorem dX9_whatIs_0 : decode cX9_whatIs 0 = .ok (.iload_n 1, 1) := by decide +kernel
theorem dX9_whatIs_1 : decode cX9_whatIs 1 = .ok (.invokestatic 85, 3) := by decide +kernel
theorem dX9_whatIs_4 : decode cX9_whatIs 4 = .ok (.ifCond .ne 9, 3) := by decide +kernel
theorem dX9_whatIs_7 : decode cX9_whatIs 7 = .ok (.aload_n 0, 1) := by decide +kernel
theorem dX9_whatIs_8 : decode cX9_whatIs 8 = .ok (.iconst (-1), 1) := by decide +kernel
theorem dX9_whatIs_9 : decode cX9_whatIs 9 = .ok (.invokevirtual 51, 3) := by decide +kernel
theorem dX9_whatIs_12 : decode cX9_whatIs 12 = .ok (.ireturn, 1) := by decide +kernel
theorem dX9_whatIs_13 : decode cX9_whatIs 13 = .ok (.aload_n 0, 1) := by decide +kernel
theorem dX9_whatIs_14 : decode cX9_whatIs 14 = .ok (.getfield 43, 3) := by decide +kernel
theorem dX9_whatIs_17 : decode cX9_whatIs 17 = .ok (.ifCond .ne 7, 3) := by decide +kernel
theorem dX9_whatIs_20 : decode cX9_whatIs 20 = .ok (.iconst 0, 1) := by decide +kernel
theorem dX9_whatIs_21 : decode cX9_whatIs 21 = .ok (.goto 12, 3) := by decide +kernel
theorem dX9_whatIs_24 : decode cX9_whatIs 24 = .ok (.bipush 16, 2) := by decide +kernel
theorem dX9_whatIs_26 : decode cX9_whatIs 26 = .ok (.aload_n 0, 1) := by decide +kernel
theorem dX9_whatIs_27 : decode cX9_whatIs 27 = .ok (.getfield 43, 3) := by decide +kernel
theorem dX9_whatIs_30 : decode cX9_whatIs 30 = .ok (.iadd, 1) := by decide +kernel
theorem dX9_whatIs_31 : decode cX9_whatIs 31 = .ok (.iconst 1, 1) := by decide +kernel
theorem dX9_whatIs_32 : decode cX9_whatIs 32 = .ok (.isub, 1) := by decide +kernel
theorem dX9_whatIs_33 : decode cX9_whatIs 33 = .ok (.istore_n 2, 1) := by decide +kernel
theorem dX9_whatIs_34 : decode cX9_whatIs 34 = .ok (.iconst 0, 1) := by decide +kernel
theorem dX9_whatIs_35 : decode cX9_whatIs 35 = .ok (.istore_n 3, 1) := by decide +kernel
theorem dX9_whatIs_36 : decode cX9_whatIs 36 = .ok (.iload_n 3, 1) := by decide +kernel
theorem dX9_whatIs_37 : decode cX9_whatIs 37 = .ok (.iload_n 2, 1) := by decide +kernel
theorem dX9_whatIs_38 : decode cX9_whatIs 38 = .ok (.if_icmp .ge 26, 3) := by decide +kernel
theorem dX9_whatIs_41 : decode cX9_whatIs 41 = .ok (.aload_n 0, 1) := by decide +kernel
theorem dX9_whatIs_42 : decode cX9_whatIs 42 = .ok (.getfield 40, 3) := by decide +kernel
theorem dX9_whatIs_45 : decode cX9_whatIs 45 = .ok (.iload_n 3, 1) := by decide +kernel
theorem dX9_whatIs_46 : decode cX9_whatIs 46 = .ok (.aload_n 0, 1) := by decide +kernel
theorem dX9_whatIs_47 : decode cX9_whatIs 47 = .ok (.iload_n 1, 1) := by decide +kernel
theorem dX9_whatIs_48 : decode cX9_whatIs 48 = .ok (.iload_n 3, 1) := by decide +kernel
theorem dX9_whatIs_49 : decode cX9_whatIs 49 = .ok (.invokevirtual 150, 3) := by decide +kernel
theorem dX9_whatIs_52 : decode cX9_whatIs 52 = .ok (.getfield 119, 3) := by decide +kernel
theorem dX9_whatIs_55 : decode cX9_whatIs 55 = .ok (.invokestatic 103, 3) := by decide +kernel
theorem dX9_whatIs_58 : decode cX9_whatIs 58 = .ok (.iinc 3 1, 3) := by decide +kernel
theorem dX9_whatIs_61 : decode cX9_whatIs 61 = .ok (.goto (-25), 3) := by decide +kernel
theorem dX9_whatIs_64 : decode cX9_whatIs 64 = .ok (.iconst 0, 1) := by decide +kernel
theorem dX9_whatIs_65 : decode cX9_whatIs 65 = .ok (.istore_n 3, 1) := by decide +kernel
theorem dX9_whatIs_66 : decode cX9_whatIs 66 = .ok (.iconst 0, 1) := by decide +kernel
theorem dX9_whatIs_67 : decode cX9_whatIs 67 = .ok (.istore 4, 2) := by decide +kernel
theorem dX9_whatIs_69 : decode cX9_whatIs 69 = .ok (.iload 4, 2) := by decide +kernel
theorem dX9_whatIs_71 : decode cX9_whatIs 71 = .ok (.bipush 16, 2) := by decide +kernel
theorem dX9_whatIs_73 : decode cX9_whatIs 73 = .ok (.if_icmp .ge 25, 3) := by decide +kernel
theorem dX9_whatIs_76 : decode cX9_whatIs 76 = .ok (.aload_n 0, 1) := by decide +kernel
theorem dX9_whatIs_77 : decode cX9_whatIs 77 = .ok (.iload 4, 2) := by decide +kernel
theorem dX9_whatIs_79 : decode cX9_whatIs 79 = .ok (.invokevirtual 194, 3) := by decide +kernel
theorem dX9_whatIs_82 : decode cX9_whatIs 82 = .ok (.ifCond .eq 10, 3) := by decide +kernel
theorem dX9_whatIs_85 : decode cX9_whatIs 85 = .ok (.iload_n 3, 1) := by decide +kernel
theorem dX9_whatIs_86 : decode cX9_whatIs 86 = .ok (.iconst 1, 1) := by decide +kernel
theorem dX9_whatIs_87 : decode cX9_whatIs 87 = .ok (.iload 4, 2) := by decide +kernel
theorem dX9_whatIs_89 : decode cX9_whatIs 89 = .ok (.ishl, 1) := by decide +kernel
theorem dX9_whatIs_90 : decode cX9_whatIs 90 = .ok (.ior, 1) := by decide +kernel
theorem dX9_whatIs_91 : decode cX9_whatIs 91 = .ok (.istore_n 3, 1) := by decide +kernel
theorem dX9_whatIs_92 : decode cX9_whatIs 92 = .ok (.iinc 4 1, 3) := by decide +kernel
theorem dX9_whatIs_95 : decode cX9_whatIs 95 = .ok (.goto (-26), 3) := by decide +kernel
theorem dX9_whatIs_98 : decode cX9_whatIs 98 = .ok (.iload_n 3, 1) := by decide +kernel
theorem dX9_whatIs_99 : decode cX9_whatIs 99 = .ok (.ireturn, 1) := by decide +kernel
theorem dX9_row_0 : decode cX9_row 0 = .ok (.iload_n 1, 1) := by decide +kernel
theorem dX9_row_1 : decode cX9_row 1 = .ok (.ifCond .ge 10, 3) := by decide +kernel
theorem dX9_row_4 : decode cX9_row 4 = .ok (.aload_n 0, 1) := by decide +kernel
theorem dX9_row_5 : decode cX9_row 5 = .ok (.bipush (-4), 2) := by decide +kernel
theorem dX9_row_7 : decode cX9_row 7 = .ok (.invokevirtual 51, 3) := by decide +kernel
theorem dX9_row_10 : decode cX9_row 10 = .ok (.ireturn, 1) := by decide +kernel
theorem dX9_row_11 : decode cX9_row 11 = .ok (.iload_n 1, 1) := by decide +kernel
theorem dX9_row_12 : decode cX9_row 12 = .ok (.bipush 99, 2) := by decide +kernel
theorem dX9_row_14 : decode cX9_row 14 = .ok (.if_icmp .gt 12, 3) := by decide +kernel
theorem dX9_row_17 : decode cX9_row 17 = .ok (.aload_n 0, 1) := by decide +kernel
theorem dX9_row_18 : decode cX9_row 18 = .ok (.getfield 43, 3) := by decide +kernel
theorem dX9_row_21 : decode cX9_row 21 = .ok (.bipush 16, 2) := by decide +kernel
theorem dX9_row_23 : decode cX9_row 23 = .ok (.if_icmp .lt 10, 3) := by decide +kernel
theorem dX9_row_26 : decode cX9_row 26 = .ok (.aload_n 0, 1) := by decide +kernel
theorem dX9_row_27 : decode cX9_row 27 = .ok (.bipush (-6), 2) := by decide +kernel
theorem dX9_row_29 : decode cX9_row 29 = .ok (.invokevirtual 51, 3) := by decide +kernel
theorem dX9_row_32 : decode cX9_row 32 = .ok (.ireturn, 1) := by decide +kernel
theorem dX9_row_33 : decode cX9_row 33 = .ok (.aload_n 0, 1) := by decide +kernel
theorem dX9_row_34 : decode cX9_row 34 = .ok (.getfield 33, 3) := by decide +kernel
theorem dX9_row_37 : decode cX9_row 37 = .ok (.aload_n 0, 1) := by decide +kernel
theorem dX9_row_38 : decode cX9_row 38 = .ok (.getfield 43, 3) := by decide +kernel
theorem dX9_row_41 : decode cX9_row 41 = .ok (.iload_n 1, 1) := by decide +kernel
theorem dX9_row_42 : decode cX9_row 42 = .ok (.invokestatic 103, 3) := by decide +kernel
theorem dX9_row_45 : decode cX9_row 45 = .ok (.aload_n 0, 1) := by decide +kernel
theorem dX9_row_46 : decode cX9_row 46 = .ok (.dup, 1) := by decide +kernel
theorem dX9_row_47 : decode cX9_row 47 = .ok (.getfield 43, 3) := by decide +kernel
theorem dX9_row_50 : decode cX9_row 50 = .ok (.iconst 1, 1) := by decide +kernel
theorem dX9_row_51 : decode cX9_row 51 = .ok (.iadd, 1) := by decide +kernel
theorem dX9_row_52 : decode cX9_row 52 = .ok (.putfield 43, 3) := by decide +kernel
theorem dX9_row_55 : decode cX9_row 55 = .ok (.aload_n 0, 1) := by decide +kernel
theorem dX9_row_56 : decode cX9_row 56 = .ok (.getfield 43, 3) := by decide +kernel
theorem dX9_row_59 : decode cX9_row 59 = .ok (.ireturn, 1) := by decide +kernel
theorem dX9_judge_0 : decode cX9_judge 0 = .ok (.bipush (-9), 2) := by decide +kernel
theorem dX9_judge_2 : decode cX9_judge 2 = .ok (.istore_n 1, 1) := by decide +kernel
theorem dX9_judge_3 : decode cX9_judge 3 = .ok (.iconst 0, 1) := by decide +kernel
theorem dX9_judge_4 : decode cX9_judge 4 = .ok (.istore_n 2, 1) := by decide +kernel
theorem dX9_judge_5 : decode cX9_judge 5 = .ok (.iload_n 2, 1) := by decide +kernel
theorem dX9_judge_6 : decode cX9_judge 6 = .ok (.aload_n 0, 1) := by decide +kernel
theorem dX9_judge_7 : decode cX9_judge 7 = .ok (.getfield 43, 3) := by decide +kernel
theorem dX9_judge_10 : decode cX9_judge 10 = .ok (.if_icmp .ge 37, 3) := by decide +kernel
theorem dX9_judge_13 : decode cX9_judge 13 = .ok (.iload_n 1, 1) := by decide +kernel
theorem dX9_judge_14 : decode cX9_judge 14 = .ok (.bipush (-9), 2) := by decide +kernel
theorem dX9_judge_16 : decode cX9_judge 16 = .ok (.if_icmp .ne 31, 3) := by decide +kernel
theorem dX9_judge_19 : decode cX9_judge 19 = .ok (.aload_n 0, 1) := by decide +kernel
theorem dX9_judge_20 : decode cX9_judge 20 = .ok (.iconst 0, 1) := by decide +kernel
theorem dX9_judge_21 : decode cX9_judge 21 = .ok (.iload_n 2, 1) := by decide +kernel
theorem dX9_judge_22 : decode cX9_judge 22 = .ok (.invokevirtual 150, 3) := by decide +kernel
theorem dX9_judge_25 : decode cX9_judge 25 = .ok (.aload_n 0, 1) := by decide +kernel
theorem dX9_judge_26 : decode cX9_judge 26 = .ok (.getfield 33, 3) := by decide +kernel
theorem dX9_judge_29 : decode cX9_judge 29 = .ok (.iload_n 2, 1) := by decide +kernel
theorem dX9_judge_30 : decode cX9_judge 30 = .ok (.invokestatic 95, 3) := by decide +kernel
theorem dX9_judge_33 : decode cX9_judge 33 = .ok (.invokevirtual 154, 3) := by decide +kernel
theorem dX9_judge_36 : decode cX9_judge 36 = .ok (.ifCond .ne 5, 3) := by decide +kernel
theorem dX9_judge_39 : decode cX9_judge 39 = .ok (.iload_n 2, 1) := by decide +kernel
theorem dX9_judge_40 : decode cX9_judge 40 = .ok (.istore_n 1, 1) := by decide +kernel
theorem dX9_judge_41 : decode cX9_judge 41 = .ok (.iinc 2 1, 3) := by decide +kernel
theorem dX9_judge_44 : decode cX9_judge 44 = .ok (.goto (-39), 3) := by decide +kernel
theorem dX9_judge_47 : decode cX9_judge 47 = .ok (.aload_n 0, 1) := by decide +kernel
theorem dX9_judge_48 : decode cX9_judge 48 = .ok (.iconst 0, 1) := by decide +kernel
theorem dX9_judge_49 : decode cX9_judge 49 = .ok (.putfield 43, 3) := by decide +kernel
theorem dX9_judge_52 : decode cX9_judge 52 = .ok (.iload_n 1, 1) := by decide +kernel
theorem dX9_judge_53 : decode cX9_judge 53 = .ok (.ireturn, 1) := by decide +kernel
theorem dX9_clear_0 : decode cX9_clear 0 = .ok (.aload_n 0, 1) := by decide +kernel
theorem dX9_clear_1 : decode cX9_clear 1 = .ok (.getfield 43, 3) := by decide +kernel
theorem dX9_clear_4 : decode cX9_clear 4 = .ok (.istore_n 1, 1) := by decide +kernel
theorem dX9_clear_5 : decode cX9_clear 5 = .ok (.aload_n 0, 1) := by decide +kernel
theorem dX9_clear_6 : decode cX9_clear 6 = .ok (.iconst 0, 1) := by decide +kernel
theorem dX9_clear_7 : decode cX9_clear 7 = .ok (.putfield 43, 3) := by decide +kernel
theorem dX9_clear_10 : decode cX9_clear 10 = .ok (.iload_n 1, 1) := by decide +kernel
theorem dX9_clear_11 : decode cX9_clear 11 = .ok (.ireturn, 1) := by decide +kernel
theorem dX9_lots_0 : decode cX9_lots 0 = .ok (.iload_n 1, 1) := by decide +kernel
theorem dX9_lots_1 : decode cX9_lots 1 = .ok (.iconst 1, 1) := by decide +kernel
theorem dX9_lots_2 : decode cX9_lots 2 = .ok (.bipush 20, 2) := by decide +kernel
theorem dX9_lots_4 : decode cX9_lots 4 = .ok (.iload_n 3, 1) := by decide +kernel
theorem dX9_lots_5 : decode cX9_lots 5 = .ok (.invokestatic 176, 3) := by decide +kernel
theorem dX9_lots_8 : decode cX9_lots 8 = .ok (.istore 4, 2) := by decide +kernel
theorem dX9_lots_10 : decode cX9_lots 10 = .ok (.iload 4, 2) := by decide +kernel
theorem dX9_lots_12 : decode cX9_lots 12 = .ok (.ifCond .eq 10, 3) := by decide +kernel
theorem dX9_lots_15 : decode cX9_lots 15 = .ok (.aload_n 0, 1) := by decide +kernel
theorem dX9_lots_16 : decode cX9_lots 16 = .ok (.iload 4, 2) := by decide +kernel
theorem dX9_lots_18 : decode cX9_lots 18 = .ok (.invokevirtual 89, 3) := by decide +kernel
theorem dX9_lots_21 : decode cX9_lots 21 = .ok (.ireturn, 1) := by decide +kernel
theorem dX9_lots_22 : decode cX9_lots 22 = .ok (.iload_n 2, 1) := by decide +kernel
theorem dX9_lots_23 : decode cX9_lots 23 = .ok (.istore 5, 2) := by decide +kernel
theorem dX9_lots_25 : decode cX9_lots 25 = .ok (.iconst 0, 1) := by decide +kernel
theorem dX9_lots_26 : decode cX9_lots 26 = .ok (.istore 6, 2) := by decide +kernel
theorem dX9_lots_28 : decode cX9_lots 28 = .ok (.iconst 0, 1) := by decide +kernel
theorem dX9_lots_29 : decode cX9_lots 29 = .ok (.istore 7, 2) := by decide +kernel
theorem dX9_lots_31 : decode cX9_lots 31 = .ok (.iconst 0, 1) := by decide +kernel
theorem dX9_lots_32 : decode cX9_lots 32 = .ok (.istore 8, 2) := by decide +kernel
theorem dX9_lots_34 : decode cX9_lots 34 = .ok (.iload 8, 2) := by decide +kernel
theorem dX9_lots_36 : decode cX9_lots 36 = .ok (.iload_n 1, 1) := by decide +kernel
theorem dX9_lots_37 : decode cX9_lots 37 = .ok (.if_icmp .ge 110, 3) := by decide +kernel
theorem dX9_lots_40 : decode cX9_lots 40 = .ok (.aload_n 0, 1) := by decide +kernel
theorem dX9_lots_41 : decode cX9_lots 41 = .ok (.getfield 22, 3) := by decide +kernel
theorem dX9_lots_44 : decode cX9_lots 44 = .ok (.aload_n 0, 1) := by decide +kernel
theorem dX9_lots_45 : decode cX9_lots 45 = .ok (.getfield 10, 3) := by decide +kernel
theorem dX9_lots_48 : decode cX9_lots 48 = .ok (.invokevirtual 180, 3) := by decide +kernel
theorem dX9_lots_51 : decode cX9_lots 51 = .ok (.iconst 0, 1) := by decide +kernel
theorem dX9_lots_52 : decode cX9_lots 52 = .ok (.istore 9, 2) := by decide +kernel
theorem dX9_lots_54 : decode cX9_lots 54 = .ok (.iload 9, 2) := by decide +kernel
theorem dX9_lots_56 : decode cX9_lots 56 = .ok (.bipush 6, 2) := by decide +kernel
theorem dX9_lots_58 : decode cX9_lots 58 = .ok (.if_icmp .ge 33, 3) := by decide +kernel
theorem dX9_lots_61 : decode cX9_lots 61 = .ok (.iload 5, 2) := by decide +kernel
theorem dX9_lots_63 : decode cX9_lots 63 = .ok (.invokestatic 197, 3) := by decide +kernel
theorem dX9_lots_66 : decode cX9_lots 66 = .ok (.istore 5, 2) := by decide +kernel
theorem dX9_lots_68 : decode cX9_lots 68 = .ok (.aload_n 0, 1) := by decide +kernel
theorem dX9_lots_69 : decode cX9_lots 69 = .ok (.getfield 22, 3) := by decide +kernel
theorem dX9_lots_72 : decode cX9_lots 72 = .ok (.getfield 167, 3) := by decide +kernel
theorem dX9_lots_75 : decode cX9_lots 75 = .ok (.iload 9, 2) := by decide +kernel
theorem dX9_lots_77 : decode cX9_lots 77 = .ok (.iload 5, 2) := by decide +kernel
theorem dX9_lots_79 : decode cX9_lots 79 = .ok (.invokestatic 200, 3) := by decide +kernel
theorem dX9_lots_82 : decode cX9_lots 82 = .ok (.invokestatic 103, 3) := by decide +kernel
theorem dX9_lots_85 : decode cX9_lots 85 = .ok (.iinc 9 1, 3) := by decide +kernel
theorem dX9_lots_88 : decode cX9_lots 88 = .ok (.goto (-34), 3) := by decide +kernel
theorem dX9_lots_91 : decode cX9_lots 91 = .ok (.aload_n 0, 1) := by decide +kernel
theorem dX9_lots_92 : decode cX9_lots 92 = .ok (.getfield 22, 3) := by decide +kernel
theorem dX9_lots_95 : decode cX9_lots 95 = .ok (.invokevirtual 164, 3) := by decide +kernel
theorem dX9_lots_98 : decode cX9_lots 98 = .ok (.astore 9, 2) := by decide +kernel
theorem dX9_lots_100 : decode cX9_lots 100 = .ok (.iload 6, 2) := by decide +kernel
theorem dX9_lots_102 : decode cX9_lots 102 = .ok (.aload 9, 2) := by decide +kernel
theorem dX9_lots_104 : decode cX9_lots 104 = .ok (.getfield 119, 3) := by decide +kernel
theorem dX9_lots_107 : decode cX9_lots 107 = .ok (.ifCond .ne 11, 3) := by decide +kernel
theorem dX9_lots_110 : decode cX9_lots 110 = .ok (.aload 9, 2) := by decide +kernel
theorem dX9_lots_112 : decode cX9_lots 112 = .ok (.getfield 161, 3) := by decide +kernel
theorem dX9_lots_115 : decode cX9_lots 115 = .ok (.goto 4, 3) := by decide +kernel
theorem dX9_lots_118 : decode cX9_lots 118 = .ok (.iconst 0, 1) := by decide +kernel
theorem dX9_lots_119 : decode cX9_lots 119 = .ok (.iadd, 1) := by decide +kernel
theorem dX9_lots_120 : decode cX9_lots 120 = .ok (.istore 6, 2) := by decide +kernel
theorem dX9_lots_122 : decode cX9_lots 122 = .ok (.iload 7, 2) := by decide +kernel
theorem dX9_lots_124 : decode cX9_lots 124 = .ok (.aload 9, 2) := by decide +kernel
theorem dX9_lots_126 : decode cX9_lots 126 = .ok (.getfield 119, 3) := by decide +kernel
theorem dX9_lots_129 : decode cX9_lots 129 = .ok (.iconst 3, 1) := by decide +kernel
theorem dX9_lots_130 : decode cX9_lots 130 = .ok (.if_icmp .ne 7, 3) := by decide +kernel
theorem dX9_lots_133 : decode cX9_lots 133 = .ok (.iconst 1, 1) := by decide +kernel
theorem dX9_lots_134 : decode cX9_lots 134 = .ok (.goto 4, 3) := by decide +kernel
theorem dX9_lots_137 : decode cX9_lots 137 = .ok (.iconst 0, 1) := by decide +kernel
theorem dX9_lots_138 : decode cX9_lots 138 = .ok (.iadd, 1) := by decide +kernel
theorem dX9_lots_139 : decode cX9_lots 139 = .ok (.istore 7, 2) := by decide +kernel
theorem dX9_lots_141 : decode cX9_lots 141 = .ok (.iinc 8 1, 3) := by decide +kernel
theorem dX9_lots_144 : decode cX9_lots 144 = .ok (.goto (-110), 3) := by decide +kernel
theorem dX9_lots_147 : decode cX9_lots 147 = .ok (.iload_n 3, 1) := by decide +kernel
theorem dX9_lots_148 : decode cX9_lots 148 = .ok (.ifCond .ne 8, 3) := by decide +kernel
theorem dX9_lots_151 : decode cX9_lots 151 = .ok (.iload 6, 2) := by decide +kernel
theorem dX9_lots_153 : decode cX9_lots 153 = .ok (.goto 5, 3) := by decide +kernel
theorem dX9_lots_156 : decode cX9_lots 156 = .ok (.iload 7, 2) := by decide +kernel
theorem dX9_lots_158 : decode cX9_lots 158 = .ok (.ireturn, 1) := by decide +kernel
theorem dX9_image_0 : decode cX9_image 0 = .ok (.aload_n 0, 1) := by decide +kernel
theorem dX9_image_1 : decode cX9_image 1 = .ok (.getfield 16, 3) := by decide +kernel
theorem dX9_image_4 : decode cX9_image 4 = .ok (.aload_n 0, 1) := by decide +kernel
theorem dX9_image_5 : decode cX9_image 5 = .ok (.getfield 10, 3) := by decide +kernel
theorem dX9_image_8 : decode cX9_image 8 = .ok (.invokevirtual 203, 3) := by decide +kernel
theorem dX9_image_11 : decode cX9_image 11 = .ok (.aload_n 0, 1) := by decide +kernel
theorem dX9_image_12 : decode cX9_image 12 = .ok (.iconst 1, 1) := by decide +kernel
theorem dX9_image_13 : decode cX9_image 13 = .ok (.putfield 47, 3) := by decide +kernel
theorem dX9_image_16 : decode cX9_image 16 = .ok (.aload_n 0, 1) := by decide +kernel
theorem dX9_image_17 : decode cX9_image 17 = .ok (.getfield 16, 3) := by decide +kernel
theorem dX9_image_20 : decode cX9_image 20 = .ok (.getfield 66, 3) := by decide +kernel
theorem dX9_image_23 : decode cX9_image 23 = .ok (.getfield 80, 3) := by decide +kernel
theorem dX9_image_26 : decode cX9_image 26 = .ok (.ireturn, 1) := by decide +kernel
theorem dX9_on_0 : decode cX9_on 0 = .ok (.aload_n 0, 1) := by decide +kernel
theorem dX9_on_1 : decode cX9_on 1 = .ok (.getfield 47, 3) := by decide +kernel
theorem dX9_on_4 : decode cX9_on 4 = .ok (.ifCond .ne 10, 3) := by decide +kernel
theorem dX9_on_7 : decode cX9_on 7 = .ok (.aload_n 0, 1) := by decide +kernel
theorem dX9_on_8 : decode cX9_on 8 = .ok (.bipush (-3), 2) := by decide +kernel
theorem dX9_on_10 : decode cX9_on 10 = .ok (.invokevirtual 51, 3) := by decide +kernel
theorem dX9_on_13 : decode cX9_on 13 = .ok (.ireturn, 1) := by decide +kernel
theorem dX9_on_14 : decode cX9_on 14 = .ok (.aload_n 0, 1) := by decide +kernel
theorem dX9_on_15 : decode cX9_on 15 = .ok (.getfield 10, 3) := by decide +kernel
theorem dX9_on_18 : decode cX9_on 18 = .ok (.aload_n 0, 1) := by decide +kernel
theorem dX9_on_19 : decode cX9_on 19 = .ok (.getfield 16, 3) := by decide +kernel
theorem dX9_on_22 : decode cX9_on 22 = .ok (.invokevirtual 203, 3) := by decide +kernel
theorem dX9_on_25 : decode cX9_on 25 = .ok (.aload_n 0, 1) := by decide +kernel
theorem dX9_on_26 : decode cX9_on 26 = .ok (.getfield 10, 3) := by decide +kernel
theorem dX9_on_29 : decode cX9_on 29 = .ok (.getfield 66, 3) := by decide +kernel
theorem dX9_on_32 : decode cX9_on 32 = .ok (.getfield 80, 3) := by decide +kernel
theorem dX9_on_35 : decode cX9_on 35 = .ok (.ireturn, 1) := by decide +kernel
theorem dX9_count_0 : decode cX9_count 0 = .ok (.iload_n 1, 1) := by decide +kernel
theorem dX9_count_1 : decode cX9_count 1 = .ok (.tableswitch 128 0 7 #[47, 58, 69, 85, 96, 107, 115, 120], 47) := by decide +kernel
theorem dX9_count_48 : decode cX9_count 48 = .ok (.aload_n 0, 1) := by decide +kernel
theorem dX9_count_49 : decode cX9_count 49 = .ok (.getfield 10, 3) := by decide +kernel
theorem dX9_count_52 : decode cX9_count 52 = .ok (.getfield 66, 3) := by decide +kernel
theorem dX9_count_55 : decode cX9_count 55 = .ok (.getfield 80, 3) := by decide +kernel
theorem dX9_count_58 : decode cX9_count 58 = .ok (.ireturn, 1) := by decide +kernel
theorem dX9_count_59 : decode cX9_count 59 = .ok (.aload_n 0, 1) := by decide +kernel
theorem dX9_count_60 : decode cX9_count 60 = .ok (.getfield 10, 3) := by decide +kernel
theorem dX9_count_63 : decode cX9_count 63 = .ok (.getfield 66, 3) := by decide +kernel
theorem dX9_count_66 : decode cX9_count 66 = .ok (.getfield 139, 3) := by decide +kernel
theorem dX9_count_69 : decode cX9_count 69 = .ok (.ireturn, 1) := by decide +kernel
theorem dX9_count_70 : decode cX9_count 70 = .ok (.aload_n 0, 1) := by decide +kernel
theorem dX9_count_71 : decode cX9_count 71 = .ok (.getfield 10, 3) := by decide +kernel
theorem dX9_count_74 : decode cX9_count 74 = .ok (.getfield 127, 3) := by decide +kernel
theorem dX9_count_77 : decode cX9_count 77 = .ok (.ifCond .eq 7, 3) := by decide +kernel
theorem dX9_count_80 : decode cX9_count 80 = .ok (.iconst 1, 1) := by decide +kernel
theorem dX9_count_81 : decode cX9_count 81 = .ok (.goto 4, 3) := by decide +kernel
theorem dX9_count_84 : decode cX9_count 84 = .ok (.iconst 0, 1) := by decide +kernel
theorem dX9_count_85 : decode cX9_count 85 = .ok (.ireturn, 1) := by decide +kernel
theorem dX9_count_86 : decode cX9_count 86 = .ok (.aload_n 0, 1) := by decide +kernel
theorem dX9_count_87 : decode cX9_count 87 = .ok (.getfield 10, 3) := by decide +kernel
theorem dX9_count_90 : decode cX9_count 90 = .ok (.getfield 142, 3) := by decide +kernel
theorem dX9_count_93 : decode cX9_count 93 = .ok (.invokevirtual 206, 3) := by decide +kernel
theorem dX9_count_96 : decode cX9_count 96 = .ok (.ireturn, 1) := by decide +kernel
theorem dX9_count_97 : decode cX9_count 97 = .ok (.aload_n 0, 1) := by decide +kernel
theorem dX9_count_98 : decode cX9_count 98 = .ok (.getfield 10, 3) := by decide +kernel
theorem dX9_count_101 : decode cX9_count 101 = .ok (.getfield 142, 3) := by decide +kernel
theorem dX9_count_104 : decode cX9_count 104 = .ok (.invokevirtual 209, 3) := by decide +kernel
theorem dX9_count_107 : decode cX9_count 107 = .ok (.ireturn, 1) := by decide +kernel
theorem dX9_count_108 : decode cX9_count 108 = .ok (.aload_n 0, 1) := by decide +kernel
theorem dX9_count_109 : decode cX9_count 109 = .ok (.getfield 10, 3) := by decide +kernel
theorem dX9_count_112 : decode cX9_count 112 = .ok (.getfield 212, 3) := by decide +kernel
theorem dX9_count_115 : decode cX9_count 115 = .ok (.ireturn, 1) := by decide +kernel
theorem dX9_count_116 : decode cX9_count 116 = .ok (.aload_n 0, 1) := by decide +kernel
theorem dX9_count_117 : decode cX9_count 117 = .ok (.getfield 43, 3) := by decide +kernel
theorem dX9_count_120 : decode cX9_count 120 = .ok (.ireturn, 1) := by decide +kernel
theorem dX9_count_121 : decode cX9_count 121 = .ok (.aload_n 0, 1) := by decide +kernel
theorem dX9_count_122 : decode cX9_count 122 = .ok (.getfield 29, 3) := by decide +kernel
theorem dX9_count_125 : decode cX9_count 125 = .ok (.getfield 215, 3) := by decide +kernel
theorem dX9_count_128 : decode cX9_count 128 = .ok (.ireturn, 1) := by decide +kernel
theorem dX9_count_129 : decode cX9_count 129 = .ok (.iload_n 1, 1) := by decide +kernel
theorem dX9_count_130 : decode cX9_count 130 = .ok (.bipush 10, 2) := by decide +kernel
theorem dX9_count_132 : decode cX9_count 132 = .ok (.if_icmp .le 9, 3) := by decide +kernel
theorem dX9_count_135 : decode cX9_count 135 = .ok (.iload_n 1, 1) := by decide +kernel
theorem dX9_count_136 : decode cX9_count 136 = .ok (.bipush 16, 2) := by decide +kernel
theorem dX9_count_138 : decode cX9_count 138 = .ok (.if_icmp .le 6, 3) := by decide +kernel
theorem dX9_count_141 : decode cX9_count 141 = .ok (.bipush (-9), 2) := by decide +kernel
theorem dX9_count_143 : decode cX9_count 143 = .ok (.ireturn, 1) := by decide +kernel
theorem dX9_count_144 : decode cX9_count 144 = .ok (.aload_n 0, 1) := by decide +kernel
theorem dX9_count_145 : decode cX9_count 145 = .ok (.getfield 37, 3) := by decide +kernel
theorem dX9_count_148 : decode cX9_count 148 = .ok (.iload_n 1, 1) := by decide +kernel
theorem dX9_count_149 : decode cX9_count 149 = .ok (.bipush 10, 2) := by decide +kernel
theorem dX9_count_151 : decode cX9_count 151 = .ok (.isub, 1) := by decide +kernel
theorem dX9_count_152 : decode cX9_count 152 = .ok (.invokestatic 95, 3) := by decide +kernel
theorem dX9_count_155 : decode cX9_count 155 = .ok (.ireturn, 1) := by decide +kernel
theorem dX9_thinkOf_0 : decode cX9_thinkOf 0 = .ok (.aload_n 0, 1) := by decide +kernel
theorem dX9_thinkOf_1 : decode cX9_thinkOf 1 = .ok (.getfield 22, 3) := by decide +kernel
theorem dX9_thinkOf_4 : decode cX9_thinkOf 4 = .ok (.aload_n 0, 1) := by decide +kernel
theorem dX9_thinkOf_5 : decode cX9_thinkOf 5 = .ok (.getfield 10, 3) := by decide +kernel
theorem dX9_thinkOf_8 : decode cX9_thinkOf 8 = .ok (.invokevirtual 180, 3) := by decide +kernel
theorem dX9_thinkOf_11 : decode cX9_thinkOf 11 = .ok (.aload_n 0, 1) := by decide +kernel
theorem dX9_thinkOf_12 : decode cX9_thinkOf 12 = .ok (.getfield 22, 3) := by decide +kernel
theorem dX9_thinkOf_15 : decode cX9_thinkOf 15 = .ok (.invokevirtual 164, 3) := by decide +kernel
theorem dX9_thinkOf_18 : decode cX9_thinkOf 18 = .ok (.areturn, 1) := by decide +kernel
theorem dX9_thinkWith_0 : decode cX9_thinkWith 0 = .ok (.aload_n 0, 1) := by decide +kernel
theorem dX9_thinkWith_1 : decode cX9_thinkWith 1 = .ok (.getfield 22, 3) := by decide +kernel
theorem dX9_thinkWith_4 : decode cX9_thinkWith 4 = .ok (.aload_n 0, 1) := by decide +kernel
theorem dX9_thinkWith_5 : decode cX9_thinkWith 5 = .ok (.getfield 10, 3) := by decide +kernel
theorem dX9_thinkWith_8 : decode cX9_thinkWith 8 = .ok (.invokevirtual 180, 3) := by decide +kernel
theorem dX9_thinkWith_11 : decode cX9_thinkWith 11 = .ok (.aload_n 0, 1) := by decide +kernel
theorem dX9_thinkWith_12 : decode cX9_thinkWith 12 = .ok (.getfield 22, 3) := by decide +kernel
theorem dX9_thinkWith_15 : decode cX9_thinkWith 15 = .ok (.getfield 167, 3) := by decide +kernel
theorem dX9_thinkWith_18 : decode cX9_thinkWith 18 = .ok (.iload_n 1, 1) := by decide +kernel
theorem dX9_thinkWith_19 : decode cX9_thinkWith 19 = .ok (.iload_n 2, 1) := by decide +kernel
theorem dX9_thinkWith_20 : decode cX9_thinkWith 20 = .ok (.invokestatic 103, 3) := by decide +kernel
theorem dX9_thinkWith_23 : decode cX9_thinkWith 23 = .ok (.aload_n 0, 1) := by decide +kernel
theorem dX9_thinkWith_24 : decode cX9_thinkWith 24 = .ok (.getfield 22, 3) := by decide +kernel
theorem dX9_thinkWith_27 : decode cX9_thinkWith 27 = .ok (.invokevirtual 164, 3) := by decide +kernel
theorem dX9_thinkWith_30 : decode cX9_thinkWith 30 = .ok (.areturn, 1) := by decide +kernel
theorem dX9_rowTellsEndsFrom_0 : decode cX9_rowTellsEndsFrom 0 = .ok (.iconst 0, 1) := by decide +kernel
theorem dX9_rowTellsEndsFrom_1 : decode cX9_rowTellsEndsFrom 1 = .ok (.istore_n 2, 1) := by decide +kernel
theorem dX9_rowTellsEndsFrom_2 : decode cX9_rowTellsEndsFrom 2 = .ok (.iload_n 2, 1) := by decide +kernel
theorem dX9_rowTellsEndsFrom_3 : decode cX9_rowTellsEndsFrom 3 = .ok (.aload_n 0, 1) := by decide +kernel
theorem dX9_rowTellsEndsFrom_4 : decode cX9_rowTellsEndsFrom 4 = .ok (.getfield 43, 3) := by decide +kernel
theorem dX9_rowTellsEndsFrom_7 : decode cX9_rowTellsEndsFrom 7 = .ok (.if_icmp .ge 32, 3) := by decide +kernel
theorem dX9_rowTellsEndsFrom_10 : decode cX9_rowTellsEndsFrom 10 = .ok (.aload_n 0, 1) := by decide +kernel
theorem dX9_rowTellsEndsFrom_11 : decode cX9_rowTellsEndsFrom 11 = .ok (.getfield 33, 3) := by decide +kernel
theorem dX9_rowTellsEndsFrom_14 : decode cX9_rowTellsEndsFrom 14 = .ok (.iload_n 2, 1) := by decide +kernel
theorem dX9_rowTellsEndsFrom_15 : decode cX9_rowTellsEndsFrom 15 = .ok (.invokestatic 95, 3) := by decide +kernel
theorem dX9_rowTellsEndsFrom_18 : decode cX9_rowTellsEndsFrom 18 = .ok (.aload_n 0, 1) := by decide +kernel
theorem dX9_rowTellsEndsFrom_19 : decode cX9_rowTellsEndsFrom 19 = .ok (.getfield 40, 3) := by decide +kernel
theorem dX9_rowTellsEndsFrom_22 : decode cX9_rowTellsEndsFrom 22 = .ok (.iload_n 1, 1) := by decide +kernel
theorem dX9_rowTellsEndsFrom_23 : decode cX9_rowTellsEndsFrom 23 = .ok (.iload_n 2, 1) := by decide +kernel
theorem dX9_rowTellsEndsFrom_24 : decode cX9_rowTellsEndsFrom 24 = .ok (.iadd, 1) := by decide +kernel
theorem dX9_rowTellsEndsFrom_25 : decode cX9_rowTellsEndsFrom 25 = .ok (.invokestatic 95, 3) := by decide +kernel
theorem dX9_rowTellsEndsFrom_28 : decode cX9_rowTellsEndsFrom 28 = .ok (.if_icmp .eq 5, 3) := by decide +kernel
theorem dX9_rowTellsEndsFrom_31 : decode cX9_rowTellsEndsFrom 31 = .ok (.iconst 0, 1) := by decide +kernel
theorem dX9_rowTellsEndsFrom_32 : decode cX9_rowTellsEndsFrom 32 = .ok (.ireturn, 1) := by decide +kernel
theorem dX9_rowTellsEndsFrom_33 : decode cX9_rowTellsEndsFrom 33 = .ok (.iinc 2 1, 3) := by decide +kernel
theorem dX9_rowTellsEndsFrom_36 : decode cX9_rowTellsEndsFrom 36 = .ok (.goto (-34), 3) := by decide +kernel
theorem dX9_rowTellsEndsFrom_39 : decode cX9_rowTellsEndsFrom 39 = .ok (.iconst 1, 1) := by decide +kernel
theorem dX9_rowTellsEndsFrom_40 : decode cX9_rowTellsEndsFrom 40 = .ok (.ireturn, 1) := by decide +kernel
theorem dX9_refuse_0 : decode cX9_refuse 0 = .ok (.aload_n 0, 1) := by decide +kernel
theorem dX9_refuse_1 : decode cX9_refuse 1 = .ok (.getfield 37, 3) := by decide +kernel
theorem dX9_refuse_4 : decode cX9_refuse 4 = .ok (.iload_n 1, 1) := by decide +kernel
theorem dX9_refuse_5 : decode cX9_refuse 5 = .ok (.ineg, 1) := by decide +kernel
theorem dX9_refuse_6 : decode cX9_refuse 6 = .ok (.aload_n 0, 1) := by decide +kernel
theorem dX9_refuse_7 : decode cX9_refuse 7 = .ok (.getfield 37, 3) := by decide +kernel
theorem dX9_refuse_10 : decode cX9_refuse 10 = .ok (.iload_n 1, 1) := by decide +kernel
theorem dX9_refuse_11 : decode cX9_refuse 11 = .ok (.ineg, 1) := by decide +kernel
theorem dX9_refuse_12 : decode cX9_refuse 12 = .ok (.invokestatic 95, 3) := by decide +kernel
theorem dX9_refuse_15 : decode cX9_refuse 15 = .ok (.iconst 1, 1) := by decide +kernel
theorem dX9_refuse_16 : decode cX9_refuse 16 = .ok (.iadd, 1) := by decide +kernel
theorem dX9_refuse_17 : decode cX9_refuse 17 = .ok (.invokestatic 103, 3) := by decide +kernel
theorem dX9_refuse_20 : decode cX9_refuse 20 = .ok (.iload_n 1, 1) := by decide +kernel
theorem dX9_refuse_21 : decode cX9_refuse 21 = .ok (.ireturn, 1) := by decide +kernel
theorem dX9_refuseNumber_0 : decode cX9_refuseNumber 0 = .ok (.ldc 218, 2) := by decide +kernel
theorem dX9_refuseNumber_2 : decode cX9_refuseNumber 2 = .ok (.aload_n 0, 1) := by decide +kernel
theorem dX9_refuseNumber_3 : decode cX9_refuseNumber 3 = .ok (.iload_n 1, 1) := by decide +kernel
theorem dX9_refuseNumber_4 : decode cX9_refuseNumber 4 = .ok (.invokevirtual 51, 3) := by decide +kernel
theorem dX9_refuseNumber_7 : decode cX9_refuseNumber 7 = .ok (.isub, 1) := by decide +kernel
theorem dX9_refuseNumber_8 : decode cX9_refuseNumber 8 = .ok (.ireturn, 1) := by decide +kernel
theorem dX9_refuseLong_0 : decode cX9_refuseLong 0 = .ok (.ldc2_w 219, 3) := by decide +kernel
theorem dX9_refuseLong_3 : decode cX9_refuseLong 3 = .ok (.aload_n 0, 1) := by decide +kernel
theorem dX9_refuseLong_4 : decode cX9_refuseLong 4 = .ok (.iload_n 1, 1) := by decide +kernel
theorem dX9_refuseLong_5 : decode cX9_refuseLong 5 = .ok (.invokevirtual 51, 3) := by decide +kernel
theorem dX9_refuseLong_8 : decode cX9_refuseLong 8 = .ok (.i2l, 1) := by decide +kernel
theorem dX9_refuseLong_9 : decode cX9_refuseLong 9 = .ok (.lsub, 1) := by decide +kernel
theorem dX9_refuseLong_10 : decode cX9_refuseLong 10 = .ok (.lreturn, 1) := by decide +kernel
theorem dX9_refusalOfGlobal_0 : decode cX9_refusalOfGlobal 0 = .ok (.iload_n 0, 1) := by decide +kernel
theorem dX9_refusalOfGlobal_1 : decode cX9_refusalOfGlobal 1 = .ok (.invokestatic 85, 3) := by decide +kernel
theorem dX9_refusalOfGlobal_4 : decode cX9_refusalOfGlobal 4 = .ok (.ifCond .ne 5, 3) := by decide +kernel
theorem dX9_refusalOfGlobal_7 : decode cX9_refusalOfGlobal 7 = .ok (.iconst (-1), 1) := by decide +kernel
theorem dX9_refusalOfGlobal_8 : decode cX9_refusalOfGlobal 8 = .ok (.ireturn, 1) := by decide +kernel
theorem dX9_refusalOfGlobal_9 : decode cX9_refusalOfGlobal 9 = .ok (.iload_n 1, 1) := by decide +kernel
theorem dX9_refusalOfGlobal_10 : decode cX9_refusalOfGlobal 10 = .ok (.sipush (-9999), 3) := by decide +kernel
theorem dX9_refusalOfGlobal_13 : decode cX9_refusalOfGlobal 13 = .ok (.if_icmp .ge 6, 3) := by decide +kernel
theorem dX9_refusalOfGlobal_16 : decode cX9_refusalOfGlobal 16 = .ok (.bipush (-4), 2) := by decide +kernel
theorem dX9_refusalOfGlobal_18 : decode cX9_refusalOfGlobal 18 = .ok (.ireturn, 1) := by decide +kernel
theorem dX9_refusalOfGlobal_19 : decode cX9_refusalOfGlobal 19 = .ok (.iload_n 1, 1) := by decide +kernel
theorem dX9_refusalOfGlobal_20 : decode cX9_refusalOfGlobal 20 = .ok (.sipush 9999, 3) := by decide +kernel
theorem dX9_refusalOfGlobal_23 : decode cX9_refusalOfGlobal 23 = .ok (.if_icmp .le 8, 3) := by decide +kernel
theorem dX9_refusalOfGlobal_26 : decode cX9_refusalOfGlobal 26 = .ok (.bipush (-6), 2) := by decide +kernel
theorem dX9_refusalOfGlobal_28 : decode cX9_refusalOfGlobal 28 = .ok (.goto 4, 3) := by decide +kernel
theorem dX9_refusalOfGlobal_31 : decode cX9_refusalOfGlobal 31 = .ok (.iconst 0, 1) := by decide +kernel
theorem dX9_refusalOfGlobal_32 : decode cX9_refusalOfGlobal 32 = .ok (.ireturn, 1) := by decide +kernel
theorem dX9_refusalOfMany_0 : decode cX9_refusalOfMany 0 = .ok (.iload_n 0, 1) := by decide +kernel
theorem dX9_refusalOfMany_1 : decode cX9_refusalOfMany 1 = .ok (.iload_n 1, 1) := by decide +kernel
theorem dX9_refusalOfMany_2 : decode cX9_refusalOfMany 2 = .ok (.if_icmp .ge 6, 3) := by decide +kernel
theorem dX9_refusalOfMany_5 : decode cX9_refusalOfMany 5 = .ok (.bipush (-4), 2) := by decide +kernel
theorem dX9_refusalOfMany_7 : decode cX9_refusalOfMany 7 = .ok (.ireturn, 1) := by decide +kernel
theorem dX9_refusalOfMany_8 : decode cX9_refusalOfMany 8 = .ok (.iload_n 0, 1) := by decide +kernel
theorem dX9_refusalOfMany_9 : decode cX9_refusalOfMany 9 = .ok (.iload_n 2, 1) := by decide +kernel
theorem dX9_refusalOfMany_10 : decode cX9_refusalOfMany 10 = .ok (.if_icmp .le 6, 3) := by decide +kernel
theorem dX9_refusalOfMany_13 : decode cX9_refusalOfMany 13 = .ok (.bipush (-6), 2) := by decide +kernel
theorem dX9_refusalOfMany_15 : decode cX9_refusalOfMany 15 = .ok (.ireturn, 1) := by decide +kernel
theorem dX9_refusalOfMany_16 : decode cX9_refusalOfMany 16 = .ok (.iload_n 3, 1) := by decide +kernel
theorem dX9_refusalOfMany_17 : decode cX9_refusalOfMany 17 = .ok (.ifCond .lt 8, 3) := by decide +kernel
theorem dX9_refusalOfMany_20 : decode cX9_refusalOfMany 20 = .ok (.iload_n 3, 1) := by decide +kernel
theorem dX9_refusalOfMany_21 : decode cX9_refusalOfMany 21 = .ok (.iconst 1, 1) := by decide +kernel
theorem dX9_refusalOfMany_22 : decode cX9_refusalOfMany 22 = .ok (.if_icmp .le 8, 3) := by decide +kernel
theorem dX9_refusalOfMany_25 : decode cX9_refusalOfMany 25 = .ok (.bipush (-2), 2) := by decide +kernel
theorem dX9_refusalOfMany_27 : decode cX9_refusalOfMany 27 = .ok (.goto 4, 3) := by decide +kernel
theorem dX9_refusalOfMany_30 : decode cX9_refusalOfMany 30 = .ok (.iconst 0, 1) := by decide +kernel
theorem dX9_refusalOfMany_31 : decode cX9_refusalOfMany 31 = .ok (.ireturn, 1) := by decide +kernel
theorem dX9_isVariable_0 : decode cX9_isVariable 0 = .ok (.iload_n 0, 1) := by decide +kernel
theorem dX9_isVariable_1 : decode cX9_isVariable 1 = .ok (.ifCond .lt 13, 3) := by decide +kernel
theorem dX9_isVariable_4 : decode cX9_isVariable 4 = .ok (.iload_n 0, 1) := by decide +kernel
theorem dX9_isVariable_5 : decode cX9_isVariable 5 = .ok (.bipush 6, 2) := by decide +kernel
theorem dX9_isVariable_7 : decode cX9_isVariable 7 = .ok (.if_icmp .ge 7, 3) := by decide +kernel
theorem dX9_isVariable_10 : decode cX9_isVariable 10 = .ok (.iconst 1, 1) := by decide +kernel
theorem dX9_isVariable_11 : decode cX9_isVariable 11 = .ok (.goto 4, 3) := by decide +kernel
theorem dX9_isVariable_14 : decode cX9_isVariable 14 = .ok (.iconst 0, 1) := by decide +kernel
theorem dX9_isVariable_15 : decode cX9_isVariable 15 = .ok (.ireturn, 1) := by decide +kernel
theorem dX9_isOfEnding_0 : decode cX9_isOfEnding 0 = .ok (.iload_n 0, 1) := by decide +kernel
theorem dX9_isOfEnding_1 : decode cX9_isOfEnding 1 = .ok (.ifCond .lt 12, 3) := by decide +kernel
theorem dX9_isOfEnding_4 : decode cX9_isOfEnding 4 = .ok (.iload_n 0, 1) := by decide +kernel
theorem dX9_isOfEnding_5 : decode cX9_isOfEnding 5 = .ok (.iconst 5, 1) := by decide +kernel
theorem dX9_isOfEnding_6 : decode cX9_isOfEnding 6 = .ok (.if_icmp .gt 7, 3) := by decide +kernel
theorem dX9_isOfEnding_9 : decode cX9_isOfEnding 9 = .ok (.iconst 1, 1) := by decide +kernel
theorem dX9_isOfEnding_10 : decode cX9_isOfEnding 10 = .ok (.goto 4, 3) := by decide +kernel
theorem dX9_isOfEnding_13 : decode cX9_isOfEnding 13 = .ok (.iconst 0, 1) := by decide +kernel
theorem dX9_isOfEnding_14 : decode cX9_isOfEnding 14 = .ok (.ireturn, 1) := by decide +kernel
theorem dX9_nextSeed_0 : decode cX9_nextSeed 0 = .ok (.iload_n 0, 1) := by decide +kernel
theorem dX9_nextSeed_1 : decode cX9_nextSeed 1 = .ok (.ldc 221, 2) := by decide +kernel
theorem dX9_nextSeed_3 : decode cX9_nextSeed 3 = .ok (.imul, 1) := by decide +kernel
theorem dX9_nextSeed_4 : decode cX9_nextSeed 4 = .ok (.ldc 222, 2) := by decide +kernel
theorem dX9_nextSeed_6 : decode cX9_nextSeed 6 = .ok (.iadd, 1) := by decide +kernel
theorem dX9_nextSeed_7 : decode cX9_nextSeed 7 = .ok (.ireturn, 1) := by decide +kernel
theorem dX9_drawOf_0 : decode cX9_drawOf 0 = .ok (.iload_n 0, 1) := by decide +kernel
theorem dX9_drawOf_1 : decode cX9_drawOf 1 = .ok (.ldc 225, 2) := by decide +kernel
theorem dX9_drawOf_3 : decode cX9_drawOf 3 = .ok (.iand, 1) := by decide +kernel
theorem dX9_drawOf_4 : decode cX9_drawOf 4 = .ok (.sipush 256, 3) := by decide +kernel
theorem dX9_drawOf_7 : decode cX9_drawOf 7 = .ok (.idiv, 1) := by decide +kernel
theorem dX9_drawOf_8 : decode cX9_drawOf 8 = .ok (.bipush 10, 2) := by decide +kernel
theorem dX9_drawOf_10 : decode cX9_drawOf 10 = .ok (.irem, 1) := by decide +kernel
theorem dX9_drawOf_11 : decode cX9_drawOf 11 = .ok (.ireturn, 1) := by decide +kernel
theorem dX9_partOfFraction_0 : decode cX9_partOfFraction 0 = .ok (.lload_n 0, 1) := by decide +kernel
theorem dX9_partOfFraction_1 : decode cX9_partOfFraction 1 = .ok (.lload_n 2, 1) := by decide +kernel
theorem dX9_partOfFraction_2 : decode cX9_partOfFraction 2 = .ok (.invokestatic 226, 3) := by decide +kernel
theorem dX9_partOfFraction_5 : decode cX9_partOfFraction 5 = .ok (.lstore 5, 2) := by decide +kernel
theorem dX9_partOfFraction_7 : decode cX9_partOfFraction 7 = .ok (.lload 5, 2) := by decide +kernel
theorem dX9_partOfFraction_9 : decode cX9_partOfFraction 9 = .ok (.lconst 0, 1) := by decide +kernel
theorem dX9_partOfFraction_10 : decode cX9_partOfFraction 10 = .ok (.lcmp, 1) := by decide +kernel
theorem dX9_partOfFraction_11 : decode cX9_partOfFraction 11 = .ok (.ifCond .ne 5, 3) := by decide +kernel
theorem dX9_partOfFraction_14 : decode cX9_partOfFraction 14 = .ok (.lconst 0, 1) := by decide +kernel
theorem dX9_partOfFraction_15 : decode cX9_partOfFraction 15 = .ok (.lreturn, 1) := by decide +kernel
theorem dX9_partOfFraction_16 : decode cX9_partOfFraction 16 = .ok (.iload 4, 2) := by decide +kernel
theorem dX9_partOfFraction_18 : decode cX9_partOfFraction 18 = .ok (.ifCond .ne 10, 3) := by decide +kernel
theorem dX9_partOfFraction_21 : decode cX9_partOfFraction 21 = .ok (.lload_n 0, 1) := by decide +kernel
theorem dX9_partOfFraction_22 : decode cX9_partOfFraction 22 = .ok (.lload 5, 2) := by decide +kernel
theorem dX9_partOfFraction_24 : decode cX9_partOfFraction 24 = .ok (.ldiv, 1) := by decide +kernel
theorem dX9_partOfFraction_25 : decode cX9_partOfFraction 25 = .ok (.goto 7, 3) := by decide +kernel
theorem dX9_partOfFraction_28 : decode cX9_partOfFraction 28 = .ok (.lload_n 2, 1) := by decide +kernel
theorem dX9_partOfFraction_29 : decode cX9_partOfFraction 29 = .ok (.lload 5, 2) := by decide +kernel
theorem dX9_partOfFraction_31 : decode cX9_partOfFraction 31 = .ok (.ldiv, 1) := by decide +kernel
theorem dX9_partOfFraction_32 : decode cX9_partOfFraction 32 = .ok (.lreturn, 1) := by decide +kernel
theorem dX9_greatestDivisor_0 : decode cX9_greatestDivisor 0 = .ok (.lload_n 0, 1) := by decide +kernel
theorem dX9_greatestDivisor_1 : decode cX9_greatestDivisor 1 = .ok (.lstore 4, 2) := by decide +kernel
theorem dX9_greatestDivisor_3 : decode cX9_greatestDivisor 3 = .ok (.lload_n 2, 1) := by decide +kernel
theorem dX9_greatestDivisor_4 : decode cX9_greatestDivisor 4 = .ok (.lstore 6, 2) := by decide +kernel
theorem dX9_greatestDivisor_6 : decode cX9_greatestDivisor 6 = .ok (.iconst 0, 1) := by decide +kernel
theorem dX9_greatestDivisor_7 : decode cX9_greatestDivisor 7 = .ok (.istore 8, 2) := by decide +kernel
theorem dX9_greatestDivisor_9 : decode cX9_greatestDivisor 9 = .ok (.iload 8, 2) := by decide +kernel
theorem dX9_greatestDivisor_11 : decode cX9_greatestDivisor 11 = .ok (.bipush 100, 2) := by decide +kernel
theorem dX9_greatestDivisor_13 : decode cX9_greatestDivisor 13 = .ok (.if_icmp .ge 31, 3) := by decide +kernel
theorem dX9_greatestDivisor_16 : decode cX9_greatestDivisor 16 = .ok (.lload 6, 2) := by decide +kernel
theorem dX9_greatestDivisor_18 : decode cX9_greatestDivisor 18 = .ok (.lconst 0, 1) := by decide +kernel
theorem dX9_greatestDivisor_19 : decode cX9_greatestDivisor 19 = .ok (.lcmp, 1) := by decide +kernel
theorem dX9_greatestDivisor_20 : decode cX9_greatestDivisor 20 = .ok (.ifCond .eq 24, 3) := by decide +kernel
theorem dX9_greatestDivisor_23 : decode cX9_greatestDivisor 23 = .ok (.lload 4, 2) := by decide +kernel
theorem dX9_greatestDivisor_25 : decode cX9_greatestDivisor 25 = .ok (.lload 6, 2) := by decide +kernel
theorem dX9_greatestDivisor_27 : decode cX9_greatestDivisor 27 = .ok (.lrem, 1) := by decide +kernel
theorem dX9_greatestDivisor_28 : decode cX9_greatestDivisor 28 = .ok (.lstore 9, 2) := by decide +kernel
theorem dX9_greatestDivisor_30 : decode cX9_greatestDivisor 30 = .ok (.lload 6, 2) := by decide +kernel
theorem dX9_greatestDivisor_32 : decode cX9_greatestDivisor 32 = .ok (.lstore 4, 2) := by decide +kernel
theorem dX9_greatestDivisor_34 : decode cX9_greatestDivisor 34 = .ok (.lload 9, 2) := by decide +kernel
theorem dX9_greatestDivisor_36 : decode cX9_greatestDivisor 36 = .ok (.lstore 6, 2) := by decide +kernel
theorem dX9_greatestDivisor_38 : decode cX9_greatestDivisor 38 = .ok (.iinc 8 1, 3) := by decide +kernel
theorem dX9_greatestDivisor_41 : decode cX9_greatestDivisor 41 = .ok (.goto (-32), 3) := by decide +kernel
theorem dX9_greatestDivisor_44 : decode cX9_greatestDivisor 44 = .ok (.lload 4, 2) := by decide +kernel
theorem dX9_greatestDivisor_46 : decode cX9_greatestDivisor 46 = .ok (.lreturn, 1) := by decide +kernel
theorem dX9_sameRows_0 : decode cX9_sameRows 0 = .ok (.iconst 0, 1) := by decide +kernel
theorem dX9_sameRows_1 : decode cX9_sameRows 1 = .ok (.istore_n 2, 1) := by decide +kernel
theorem dX9_sameRows_2 : decode cX9_sameRows 2 = .ok (.iload_n 2, 1) := by decide +kernel
theorem dX9_sameRows_3 : decode cX9_sameRows 3 = .ok (.aload_n 0, 1) := by decide +kernel
theorem dX9_sameRows_4 : decode cX9_sameRows 4 = .ok (.arraylength, 1) := by decide +kernel
theorem dX9_sameRows_5 : decode cX9_sameRows 5 = .ok (.if_icmp .ge 22, 3) := by decide +kernel
theorem dX9_sameRows_8 : decode cX9_sameRows 8 = .ok (.aload_n 0, 1) := by decide +kernel
theorem dX9_sameRows_9 : decode cX9_sameRows 9 = .ok (.iload_n 2, 1) := by decide +kernel
theorem dX9_sameRows_10 : decode cX9_sameRows 10 = .ok (.iaload, 1) := by decide +kernel
theorem dX9_sameRows_11 : decode cX9_sameRows 11 = .ok (.aload_n 1, 1) := by decide +kernel
theorem dX9_sameRows_12 : decode cX9_sameRows 12 = .ok (.iload_n 2, 1) := by decide +kernel
theorem dX9_sameRows_13 : decode cX9_sameRows 13 = .ok (.invokestatic 95, 3) := by decide +kernel
theorem dX9_sameRows_16 : decode cX9_sameRows 16 = .ok (.if_icmp .eq 5, 3) := by decide +kernel
theorem dX9_sameRows_19 : decode cX9_sameRows 19 = .ok (.iconst 0, 1) := by decide +kernel
theorem dX9_sameRows_20 : decode cX9_sameRows 20 = .ok (.ireturn, 1) := by decide +kernel
theorem dX9_sameRows_21 : decode cX9_sameRows 21 = .ok (.iinc 2 1, 3) := by decide +kernel
theorem dX9_sameRows_24 : decode cX9_sameRows 24 = .ok (.goto (-22), 3) := by decide +kernel
theorem dX9_sameRows_27 : decode cX9_sameRows 27 = .ok (.aload_n 0, 1) := by decide +kernel
theorem dX9_sameRows_28 : decode cX9_sameRows 28 = .ok (.arraylength, 1) := by decide +kernel
theorem dX9_sameRows_29 : decode cX9_sameRows 29 = .ok (.aload_n 1, 1) := by decide +kernel
theorem dX9_sameRows_30 : decode cX9_sameRows 30 = .ok (.arraylength, 1) := by decide +kernel
theorem dX9_sameRows_31 : decode cX9_sameRows 31 = .ok (.if_icmp .ne 7, 3) := by decide +kernel
theorem dX9_sameRows_34 : decode cX9_sameRows 34 = .ok (.iconst 1, 1) := by decide +kernel
theorem dX9_sameRows_35 : decode cX9_sameRows 35 = .ok (.goto 4, 3) := by decide +kernel
theorem dX9_sameRows_38 : decode cX9_sameRows 38 = .ok (.iconst 0, 1) := by decide +kernel
theorem dX9_sameRows_39 : decode cX9_sameRows 39 = .ok (.ireturn, 1) := by decide +kernel
theorem dX9_at_0 : decode cX9_at 0 = .ok (.iload_n 1, 1) := by decide +kernel
theorem dX9_at_1 : decode cX9_at 1 = .ok (.ifCond .lt 15, 3) := by decide +kernel
theorem dX9_at_4 : decode cX9_at 4 = .ok (.iload_n 1, 1) := by decide +kernel
theorem dX9_at_5 : decode cX9_at 5 = .ok (.aload_n 0, 1) := by decide +kernel
theorem dX9_at_6 : decode cX9_at 6 = .ok (.arraylength, 1) := by decide +kernel
theorem dX9_at_7 : decode cX9_at 7 = .ok (.if_icmp .ge 9, 3) := by decide +kernel
theorem dX9_at_10 : decode cX9_at 10 = .ok (.aload_n 0, 1) := by decide +kernel
theorem dX9_at_11 : decode cX9_at 11 = .ok (.iload_n 1, 1) := by decide +kernel
theorem dX9_at_12 : decode cX9_at 12 = .ok (.iaload, 1) := by decide +kernel
theorem dX9_at_13 : decode cX9_at 13 = .ok (.goto 4, 3) := by decide +kernel
theorem dX9_at_16 : decode cX9_at 16 = .ok (.iconst 0, 1) := by decide +kernel
theorem dX9_at_17 : decode cX9_at 17 = .ok (.ireturn, 1) := by decide +kernel
theorem dX9_put_0 : decode cX9_put 0 = .ok (.iload_n 1, 1) := by decide +kernel
theorem dX9_put_1 : decode cX9_put 1 = .ok (.ifCond .lt 13, 3) := by decide +kernel
theorem dX9_put_4 : decode cX9_put 4 = .ok (.iload_n 1, 1) := by decide +kernel
theorem dX9_put_5 : decode cX9_put 5 = .ok (.aload_n 0, 1) := by decide +kernel
theorem dX9_put_6 : decode cX9_put 6 = .ok (.arraylength, 1) := by decide +kernel
theorem dX9_put_7 : decode cX9_put 7 = .ok (.if_icmp .ge 7, 3) := by decide +kernel
theorem dX9_put_10 : decode cX9_put 10 = .ok (.aload_n 0, 1) := by decide +kernel
theorem dX9_put_11 : decode cX9_put 11 = .ok (.iload_n 1, 1) := by decide +kernel
theorem dX9_put_12 : decode cX9_put 12 = .ok (.iload_n 2, 1) := by decide +kernel
theorem dX9_put_13 : decode cX9_put 13 = .ok (.iastore, 1) := by decide +kernel
theorem dX9_put_14 : decode cX9_put 14 = .ok (.return_, 1) := by decide +kernel
theorem dX9_copyRow_0 : decode cX9_copyRow 0 = .ok (.aload_n 0, 1) := by decide +kernel
theorem dX9_copyRow_1 : decode cX9_copyRow 1 = .ok (.iconst 0, 1) := by decide +kernel
theorem dX9_copyRow_2 : decode cX9_copyRow 2 = .ok (.aload_n 1, 1) := by decide +kernel
theorem dX9_copyRow_3 : decode cX9_copyRow 3 = .ok (.iconst 0, 1) := by decide +kernel
theorem dX9_copyRow_4 : decode cX9_copyRow 4 = .ok (.aload_n 0, 1) := by decide +kernel
theorem dX9_copyRow_5 : decode cX9_copyRow 5 = .ok (.arraylength, 1) := by decide +kernel
theorem dX9_copyRow_6 : decode cX9_copyRow 6 = .ok (.aload_n 1, 1) := by decide +kernel
theorem dX9_copyRow_7 : decode cX9_copyRow 7 = .ok (.arraylength, 1) := by decide +kernel
theorem dX9_copyRow_8 : decode cX9_copyRow 8 = .ok (.invokestatic 230, 3) := by decide +kernel
theorem dX9_copyRow_11 : decode cX9_copyRow 11 = .ok (.invokestatic 235, 3) := by decide +kernel
theorem dX9_copyRow_14 : decode cX9_copyRow 14 = .ok (.return_, 1) := by decide +kernel
theorem dX10_init_0 : decode cX10_init 0 = .ok (.aload_n 0, 1) := by decide +kernel
theorem dX10_init_1 : decode cX10_init 1 = .ok (.invokespecial 1, 3) := by decide +kernel
theorem dX10_init_4 : decode cX10_init 4 = .ok (.aload_n 0, 1) := by decide +kernel
theorem dX10_init_5 : decode cX10_init 5 = .ok (.bipush 7, 2) := by decide +kernel
theorem dX10_init_7 : decode cX10_init 7 = .ok (.newarray .int, 2) := by decide +kernel
theorem dX10_init_9 : decode cX10_init 9 = .ok (.putfield 7, 3) := by decide +kernel
theorem dX10_init_12 : decode cX10_init 12 = .ok (.aload_n 0, 1) := by decide +kernel
theorem dX10_init_13 : decode cX10_init 13 = .ok (.bipush 41, 2) := by decide +kernel
theorem dX10_init_15 : decode cX10_init 15 = .ok (.newarray .int, 2) := by decide +kernel
theorem dX10_init_17 : decode cX10_init 17 = .ok (.putfield 13, 3) := by decide +kernel
theorem dX10_init_20 : decode cX10_init 20 = .ok (.aload_n 0, 1) := by decide +kernel
theorem dX10_init_21 : decode cX10_init 21 = .ok (.bipush 41, 2) := by decide +kernel
theorem dX10_init_23 : decode cX10_init 23 = .ok (.newarray .int, 2) := by decide +kernel
theorem dX10_init_25 : decode cX10_init 25 = .ok (.putfield 16, 3) := by decide +kernel
theorem dX10_init_28 : decode cX10_init 28 = .ok (.aload_n 0, 1) := by decide +kernel
theorem dX10_init_29 : decode cX10_init 29 = .ok (.bipush 41, 2) := by decide +kernel
theorem dX10_init_31 : decode cX10_init 31 = .ok (.newarray .int, 2) := by decide +kernel
theorem dX10_init_33 : decode cX10_init 33 = .ok (.putfield 19, 3) := by decide +kernel
theorem dX10_init_36 : decode cX10_init 36 = .ok (.aload_n 0, 1) := by decide +kernel
theorem dX10_init_37 : decode cX10_init 37 = .ok (.bipush 41, 2) := by decide +kernel
theorem dX10_init_39 : decode cX10_init 39 = .ok (.newarray .int, 2) := by decide +kernel
theorem dX10_init_41 : decode cX10_init 41 = .ok (.putfield 22, 3) := by decide +kernel
theorem dX10_init_44 : decode cX10_init 44 = .ok (.aload_n 0, 1) := by decide +kernel
theorem dX10_init_45 : decode cX10_init 45 = .ok (.bipush 41, 2) := by decide +kernel
theorem dX10_init_47 : decode cX10_init 47 = .ok (.newarray .int, 2) := by decide +kernel
theorem dX10_init_49 : decode cX10_init 49 = .ok (.putfield 25, 3) := by decide +kernel
theorem dX10_init_52 : decode cX10_init 52 = .ok (.aload_n 0, 1) := by decide +kernel
theorem dX10_init_53 : decode cX10_init 53 = .ok (.bipush 96, 2) := by decide +kernel
theorem dX10_init_55 : decode cX10_init 55 = .ok (.newarray .int, 2) := by decide +kernel
theorem dX10_init_57 : decode cX10_init 57 = .ok (.putfield 28, 3) := by decide +kernel
theorem dX10_init_60 : decode cX10_init 60 = .ok (.aload_n 0, 1) := by decide +kernel
theorem dX10_init_61 : decode cX10_init 61 = .ok (.bipush 96, 2) := by decide +kernel
theorem dX10_init_63 : decode cX10_init 63 = .ok (.newarray .int, 2) := by decide +kernel
theorem dX10_init_65 : decode cX10_init 65 = .ok (.putfield 31, 3) := by decide +kernel
theorem dX10_init_68 : decode cX10_init 68 = .ok (.aload_n 0, 1) := by decide +kernel
theorem dX10_init_69 : decode cX10_init 69 = .ok (.bipush 96, 2) := by decide +kernel
theorem dX10_init_71 : decode cX10_init 71 = .ok (.newarray .int, 2) := by decide +kernel
theorem dX10_init_73 : decode cX10_init 73 = .ok (.putfield 34, 3) := by decide +kernel
theorem dX10_init_76 : decode cX10_init 76 = .ok (.aload_n 0, 1) := by decide +kernel
theorem dX10_init_77 : decode cX10_init 77 = .ok (.bipush 96, 2) := by decide +kernel
theorem dX10_init_79 : decode cX10_init 79 = .ok (.newarray .int, 2) := by decide +kernel
theorem dX10_init_81 : decode cX10_init 81 = .ok (.putfield 37, 3) := by decide +kernel
theorem dX10_init_84 : decode cX10_init 84 = .ok (.aload_n 0, 1) := by decide +kernel
theorem dX10_init_85 : decode cX10_init 85 = .ok (.sipush 300, 3) := by decide +kernel
theorem dX10_init_88 : decode cX10_init 88 = .ok (.newarray .int, 2) := by decide +kernel
theorem dX10_init_90 : decode cX10_init 90 = .ok (.putfield 40, 3) := by decide +kernel
theorem dX10_init_93 : decode cX10_init 93 = .ok (.aload_n 0, 1) := by decide +kernel
theorem dX10_init_94 : decode cX10_init 94 = .ok (.bipush 100, 2) := by decide +kernel
theorem dX10_init_96 : decode cX10_init 96 = .ok (.newarray .int, 2) := by decide +kernel
theorem dX10_init_98 : decode cX10_init 98 = .ok (.putfield 43, 3) := by decide +kernel
theorem dX10_init_101 : decode cX10_init 101 = .ok (.aload_n 0, 1) := by decide +kernel
theorem dX10_init_102 : decode cX10_init 102 = .ok (.bipush 6, 2) := by decide +kernel
theorem dX10_init_104 : decode cX10_init 104 = .ok (.newarray .int, 2) := by decide +kernel
theorem dX10_init_106 : decode cX10_init 106 = .ok (.putfield 46, 3) := by decide +kernel
theorem dX10_init_109 : decode cX10_init 109 = .ok (.aload_n 0, 1) := by decide +kernel
theorem dX10_init_110 : decode cX10_init 110 = .ok (.bipush 10, 2) := by decide +kernel
theorem dX10_init_112 : decode cX10_init 112 = .ok (.newarray .int, 2) := by decide +kernel
theorem dX10_init_114 : decode cX10_init 114 = .ok (.putfield 49, 3) := by decide +kernel
theorem dX10_init_117 : decode cX10_init 117 = .ok (.aload_n 0, 1) := by decide +kernel
theorem dX10_init_118 : decode cX10_init 118 = .ok (.bipush 10, 2) := by decide +kernel
theorem dX10_init_120 : decode cX10_init 120 = .ok (.newarray .int, 2) := by decide +kernel
theorem dX10_init_122 : decode cX10_init 122 = .ok (.putfield 52, 3) := by decide +kernel
theorem dX10_init_125 : decode cX10_init 125 = .ok (.aload_n 0, 1) := by decide +kernel
theorem dX10_init_126 : decode cX10_init 126 = .ok (.bipush 10, 2) := by decide +kernel
theorem dX10_init_128 : decode cX10_init 128 = .ok (.newarray .int, 2) := by decide +kernel
theorem dX10_init_130 : decode cX10_init 130 = .ok (.putfield 55, 3) := by decide +kernel
theorem dX10_init_133 : decode cX10_init 133 = .ok (.aload_n 0, 1) := by decide +kernel
theorem dX10_init_134 : decode cX10_init 134 = .ok (.sipush 460, 3) := by decide +kernel
theorem dX10_init_137 : decode cX10_init 137 = .ok (.newarray .int, 2) := by decide +kernel
theorem dX10_init_139 : decode cX10_init 139 = .ok (.putfield 58, 3) := by decide +kernel
theorem dX10_init_142 : decode cX10_init 142 = .ok (.aload_n 0, 1) := by decide +kernel
theorem dX10_init_143 : decode cX10_init 143 = .ok (.bipush (-9), 2) := by decide +kernel
theorem dX10_init_145 : decode cX10_init 145 = .ok (.putfield 61, 3) := by decide +kernel
theorem dX10_init_148 : decode cX10_init 148 = .ok (.aload_n 0, 1) := by decide +kernel
theorem dX10_init_149 : decode cX10_init 149 = .ok (.sipush 2000, 3) := by decide +kernel
theorem dX10_init_152 : decode cX10_init 152 = .ok (.newarray .int, 2) := by decide +kernel
theorem dX10_init_154 : decode cX10_init 154 = .ok (.putfield 65, 3) := by decide +kernel
theorem dX10_init_157 : decode cX10_init 157 = .ok (.aload_n 0, 1) := by decide +kernel
theorem dX10_init_158 : decode cX10_init 158 = .ok (.sipush 2000, 3) := by decide +kernel
theorem dX10_init_161 : decode cX10_init 161 = .ok (.newarray .int, 2) := by decide +kernel
theorem dX10_init_163 : decode cX10_init 163 = .ok (.putfield 68, 3) := by decide +kernel
theorem dX10_init_166 : decode cX10_init 166 = .ok (.aload_n 0, 1) := by decide +kernel
theorem dX10_init_167 : decode cX10_init 167 = .ok (.sipush 2000, 3) := by decide +kernel
theorem dX10_init_170 : decode cX10_init 170 = .ok (.newarray .int, 2) := by decide +kernel
theorem dX10_init_172 : decode cX10_init 172 = .ok (.putfield 71, 3) := by decide +kernel
theorem dX10_init_175 : decode cX10_init 175 = .ok (.aload_n 0, 1) := by decide +kernel
theorem dX10_init_176 : decode cX10_init 176 = .ok (.sipush 2000, 3) := by decide +kernel
theorem dX10_init_179 : decode cX10_init 179 = .ok (.newarray .int, 2) := by decide +kernel
theorem dX10_init_181 : decode cX10_init 181 = .ok (.putfield 74, 3) := by decide +kernel
theorem dX10_init_184 : decode cX10_init 184 = .ok (.aload_n 0, 1) := by decide +kernel
theorem dX10_init_185 : decode cX10_init 185 = .ok (.sipush 1000, 3) := by decide +kernel
theorem dX10_init_188 : decode cX10_init 188 = .ok (.newarray .int, 2) := by decide +kernel
theorem dX10_init_190 : decode cX10_init 190 = .ok (.putfield 77, 3) := by decide +kernel
theorem dX10_init_193 : decode cX10_init 193 = .ok (.aload_n 0, 1) := by decide +kernel
theorem dX10_init_194 : decode cX10_init 194 = .ok (.sipush 1000, 3) := by decide +kernel
theorem dX10_init_197 : decode cX10_init 197 = .ok (.newarray .int, 2) := by decide +kernel
theorem dX10_init_199 : decode cX10_init 199 = .ok (.putfield 80, 3) := by decide +kernel
theorem dX10_init_202 : decode cX10_init 202 = .ok (.aload_n 0, 1) := by decide +kernel
theorem dX10_init_203 : decode cX10_init 203 = .ok (.sipush 1000, 3) := by decide +kernel
theorem dX10_init_206 : decode cX10_init 206 = .ok (.newarray .int, 2) := by decide +kernel
theorem dX10_init_208 : decode cX10_init 208 = .ok (.putfield 83, 3) := by decide +kernel
theorem dX10_init_211 : decode cX10_init 211 = .ok (.aload_n 0, 1) := by decide +kernel
theorem dX10_init_212 : decode cX10_init 212 = .ok (.sipush 1000, 3) := by decide +kernel
theorem dX10_init_215 : decode cX10_init 215 = .ok (.newarray .int, 2) := by decide +kernel
theorem dX10_init_217 : decode cX10_init 217 = .ok (.putfield 86, 3) := by decide +kernel
theorem dX10_init_220 : decode cX10_init 220 = .ok (.aload_n 0, 1) := by decide +kernel
theorem dX10_init_221 : decode cX10_init 221 = .ok (.sipush 1000, 3) := by decide +kernel
theorem dX10_init_224 : decode cX10_init 224 = .ok (.newarray .int, 2) := by decide +kernel
theorem dX10_init_226 : decode cX10_init 226 = .ok (.putfield 89, 3) := by decide +kernel
theorem dX10_init_229 : decode cX10_init 229 = .ok (.aload_n 0, 1) := by decide +kernel
theorem dX10_init_230 : decode cX10_init 230 = .ok (.sipush 1000, 3) := by decide +kernel
theorem dX10_init_233 : decode cX10_init 233 = .ok (.newarray .int, 2) := by decide +kernel
theorem dX10_init_235 : decode cX10_init 235 = .ok (.putfield 92, 3) := by decide +kernel
theorem dX10_init_238 : decode cX10_init 238 = .ok (.aload_n 0, 1) := by decide +kernel
theorem dX10_init_239 : decode cX10_init 239 = .ok (.sipush 800, 3) := by decide +kernel
theorem dX10_init_242 : decode cX10_init 242 = .ok (.newarray .int, 2) := by decide +kernel
theorem dX10_init_244 : decode cX10_init 244 = .ok (.putfield 95, 3) := by decide +kernel
theorem dX10_init_247 : decode cX10_init 247 = .ok (.aload_n 0, 1) := by decide +kernel
theorem dX10_init_248 : decode cX10_init 248 = .ok (.sipush 800, 3) := by decide +kernel
theorem dX10_init_251 : decode cX10_init 251 = .ok (.newarray .int, 2) := by decide +kernel
theorem dX10_init_253 : decode cX10_init 253 = .ok (.putfield 98, 3) := by decide +kernel
theorem dX10_init_256 : decode cX10_init 256 = .ok (.aload_n 0, 1) := by decide +kernel
theorem dX10_init_257 : decode cX10_init 257 = .ok (.sipush 800, 3) := by decide +kernel
theorem dX10_init_260 : decode cX10_init 260 = .ok (.newarray .int, 2) := by decide +kernel
theorem dX10_init_262 : decode cX10_init 262 = .ok (.putfield 101, 3) := by decide +kernel
theorem dX10_init_265 : decode cX10_init 265 = .ok (.aload_n 0, 1) := by decide +kernel
theorem dX10_init_266 : decode cX10_init 266 = .ok (.sipush 800, 3) := by decide +kernel
theorem dX10_init_269 : decode cX10_init 269 = .ok (.newarray .int, 2) := by decide +kernel
theorem dX10_init_271 : decode cX10_init 271 = .ok (.putfield 104, 3) := by decide +kernel
theorem dX10_init_274 : decode cX10_init 274 = .ok (.aload_n 0, 1) := by decide +kernel
theorem dX10_init_275 : decode cX10_init 275 = .ok (.sipush 800, 3) := by decide +kernel
theorem dX10_init_278 : decode cX10_init 278 = .ok (.newarray .int, 2) := by decide +kernel
theorem dX10_init_280 : decode cX10_init 280 = .ok (.putfield 107, 3) := by decide +kernel
theorem dX10_init_283 : decode cX10_init 283 = .ok (.aload_n 0, 1) := by decide +kernel
theorem dX10_init_284 : decode cX10_init 284 = .ok (.bipush 6, 2) := by decide +kernel
theorem dX10_init_286 : decode cX10_init 286 = .ok (.newarray .int, 2) := by decide +kernel
theorem dX10_init_288 : decode cX10_init 288 = .ok (.putfield 110, 3) := by decide +kernel
theorem dX10_init_291 : decode cX10_init 291 = .ok (.aload_n 0, 1) := by decide +kernel
theorem dX10_init_292 : decode cX10_init 292 = .ok (.bipush 36, 2) := by decide +kernel
theorem dX10_init_294 : decode cX10_init 294 = .ok (.newarray .int, 2) := by decide +kernel
theorem dX10_init_296 : decode cX10_init 296 = .ok (.putfield 113, 3) := by decide +kernel
theorem dX10_init_299 : decode cX10_init 299 = .ok (.aload_n 0, 1) := by decide +kernel
theorem dX10_init_300 : decode cX10_init 300 = .ok (.bipush 16, 2) := by decide +kernel
theorem dX10_init_302 : decode cX10_init 302 = .ok (.newarray .int, 2) := by decide +kernel
theorem dX10_init_304 : decode cX10_init 304 = .ok (.putfield 116, 3) := by decide +kernel
theorem dX10_init_307 : decode cX10_init 307 = .ok (.aload_n 0, 1) := by decide +kernel
theorem dX10_init_308 : decode cX10_init 308 = .ok (.sipush 800, 3) := by decide +kernel
theorem dX10_init_311 : decode cX10_init 311 = .ok (.newarray .int, 2) := by decide +kernel
theorem dX10_init_313 : decode cX10_init 313 = .ok (.putfield 119, 3) := by decide +kernel
theorem dX10_init_316 : decode cX10_init 316 = .ok (.aload_n 0, 1) := by decide +kernel
theorem dX10_init_317 : decode cX10_init 317 = .ok (.getfield 31, 3) := by decide +kernel
theorem dX10_init_320 : decode cX10_init 320 = .ok (.iconst 0, 1) := by decide +kernel
theorem dX10_init_321 : decode cX10_init 321 = .ok (.bipush 48, 2) := by decide +kernel
theorem dX10_init_323 : decode cX10_init 323 = .ok (.iastore, 1) := by decide +kernel
theorem dX10_init_324 : decode cX10_init 324 = .ok (.aload_n 0, 1) := by decide +kernel
theorem dX10_init_325 : decode cX10_init 325 = .ok (.iconst 1, 1) := by decide +kernel
theorem dX10_init_326 : decode cX10_init 326 = .ok (.putfield 122, 3) := by decide +kernel
theorem dX10_init_329 : decode cX10_init 329 = .ok (.aload_n 0, 1) := by decide +kernel
theorem dX10_init_330 : decode cX10_init 330 = .ok (.iconst 1, 1) := by decide +kernel
theorem dX10_init_331 : decode cX10_init 331 = .ok (.putfield 125, 3) := by decide +kernel
theorem dX10_init_334 : decode cX10_init 334 = .ok (.aload_n 0, 1) := by decide +kernel
theorem dX10_init_335 : decode cX10_init 335 = .ok (.invokevirtual 128, 3) := by decide +kernel
theorem dX10_init_338 : decode cX10_init 338 = .ok (.return_, 1) := by decide +kernel
theorem dX10_no_0 : decode cX10_no 0 = .ok (.aload_n 0, 1) := by decide +kernel
theorem dX10_no_1 : decode cX10_no 1 = .ok (.getfield 7, 3) := by decide +kernel
theorem dX10_no_4 : decode cX10_no 4 = .ok (.iload_n 1, 1) := by decide +kernel
theorem dX10_no_5 : decode cX10_no 5 = .ok (.ineg, 1) := by decide +kernel
theorem dX10_no_6 : decode cX10_no 6 = .ok (.dup2, 1) := by decide +kernel
theorem dX10_no_7 : decode cX10_no 7 = .ok (.iaload, 1) := by decide +kernel
theorem dX10_no_8 : decode cX10_no 8 = .ok (.iconst 1, 1) := by decide +kernel
theorem dX10_no_9 : decode cX10_no 9 = .ok (.iadd, 1) := by decide +kernel
theorem dX10_no_10 : decode cX10_no 10 = .ok (.iastore, 1) := by decide +kernel
theorem dX10_no_11 : decode cX10_no 11 = .ok (.iload_n 1, 1) := by decide +kernel
theorem dX10_no_12 : decode cX10_no 12 = .ok (.ireturn, 1) := by decide +kernel
theorem dX10_lower_0 : decode cX10_lower 0 = .ok (.aload_n 0, 1) := by decide +kernel
theorem dX10_lower_1 : decode cX10_lower 1 = .ok (.getfield 7, 3) := by decide +kernel
theorem dX10_lower_4 : decode cX10_lower 4 = .ok (.iload_n 1, 1) := by decide +kernel
theorem dX10_lower_5 : decode cX10_lower 5 = .ok (.ineg, 1) := by decide +kernel
theorem dX10_lower_6 : decode cX10_lower 6 = .ok (.dup2, 1) := by decide +kernel
theorem dX10_lower_7 : decode cX10_lower 7 = .ok (.iaload, 1) := by decide +kernel
theorem dX10_lower_8 : decode cX10_lower 8 = .ok (.iconst 1, 1) := by decide +kernel
theorem dX10_lower_9 : decode cX10_lower 9 = .ok (.iadd, 1) := by decide +kernel
theorem dX10_lower_10 : decode cX10_lower 10 = .ok (.iastore, 1) := by decide +kernel
theorem dX10_lower_11 : decode cX10_lower 11 = .ok (.ldc 131, 2) := by decide +kernel
theorem dX10_lower_13 : decode cX10_lower 13 = .ok (.iload_n 1, 1) := by decide +kernel
theorem dX10_lower_14 : decode cX10_lower 14 = .ok (.isub, 1) := by decide +kernel
theorem dX10_lower_15 : decode cX10_lower 15 = .ok (.ireturn, 1) := by decide +kernel
theorem dX10_lowestOf_0 : decode cX10_lowestOf 0 = .ok (.aload_n 0, 1) := by decide +kernel
theorem dX10_lowestOf_1 : decode cX10_lowestOf 1 = .ok (.getfield 7, 3) := by decide +kernel
theorem dX10_lowestOf_4 : decode cX10_lowestOf 4 = .ok (.iload_n 1, 1) := by decide +kernel
theorem dX10_lowestOf_5 : decode cX10_lowestOf 5 = .ok (.ineg, 1) := by decide +kernel
theorem dX10_lowestOf_6 : decode cX10_lowestOf 6 = .ok (.dup2, 1) := by decide +kernel
theorem dX10_lowestOf_7 : decode cX10_lowestOf 7 = .ok (.iaload, 1) := by decide +kernel
theorem dX10_lowestOf_8 : decode cX10_lowestOf 8 = .ok (.iconst 1, 1) := by decide +kernel
theorem dX10_lowestOf_9 : decode cX10_lowestOf 9 = .ok (.iadd, 1) := by decide +kernel
theorem dX10_lowestOf_10 : decode cX10_lowestOf 10 = .ok (.iastore, 1) := by decide +kernel
theorem dX10_lowestOf_11 : decode cX10_lowestOf 11 = .ok (.ldc2_w 132, 3) := by decide +kernel
theorem dX10_lowestOf_14 : decode cX10_lowestOf 14 = .ok (.iload_n 1, 1) := by decide +kernel
theorem dX10_lowestOf_15 : decode cX10_lowestOf 15 = .ok (.i2l, 1) := by decide +kernel
theorem dX10_lowestOf_16 : decode cX10_lowestOf 16 = .ok (.lsub, 1) := by decide +kernel
theorem dX10_lowestOf_17 : decode cX10_lowestOf 17 = .ok (.lreturn, 1) := by decide +kernel
theorem dX10_isIn_0 : decode cX10_isIn 0 = .ok (.iload_n 0, 1) := by decide +kernel
theorem dX10_isIn_1 : decode cX10_isIn 1 = .ok (.iload_n 1, 1) := by decide +kernel
theorem dX10_isIn_2 : decode cX10_isIn 2 = .ok (.if_icmp .lt 12, 3) := by decide +kernel
theorem dX10_isIn_5 : decode cX10_isIn 5 = .ok (.iload_n 0, 1) := by decide +kernel
theorem dX10_isIn_6 : decode cX10_isIn 6 = .ok (.iload_n 2, 1) := by decide +kernel
theorem dX10_isIn_7 : decode cX10_isIn 7 = .ok (.if_icmp .gt 7, 3) := by decide +kernel
theorem dX10_isIn_10 : decode cX10_isIn 10 = .ok (.iconst 1, 1) := by decide +kernel
theorem dX10_isIn_11 : decode cX10_isIn 11 = .ok (.goto 4, 3) := by decide +kernel
theorem dX10_isIn_14 : decode cX10_isIn 14 = .ok (.iconst 0, 1) := by decide +kernel
theorem dX10_isIn_15 : decode cX10_isIn 15 = .ok (.ireturn, 1) := by decide +kernel
theorem dX10_bound_0 : decode cX10_bound 0 = .ok (.iload_n 0, 1) := by decide +kernel
theorem dX10_bound_1 : decode cX10_bound 1 = .ok (.iload_n 1, 1) := by decide +kernel
theorem dX10_bound_2 : decode cX10_bound 2 = .ok (.if_icmp .ge 8, 3) := by decide +kernel
theorem dX10_bound_5 : decode cX10_bound 5 = .ok (.bipush (-4), 2) := by decide +kernel
theorem dX10_bound_7 : decode cX10_bound 7 = .ok (.goto 14, 3) := by decide +kernel
theorem dX10_bound_10 : decode cX10_bound 10 = .ok (.iload_n 0, 1) := by decide +kernel
theorem dX10_bound_11 : decode cX10_bound 11 = .ok (.iload_n 2, 1) := by decide +kernel
theorem dX10_bound_12 : decode cX10_bound 12 = .ok (.if_icmp .le 8, 3) := by decide +kernel
theorem dX10_bound_15 : decode cX10_bound 15 = .ok (.bipush (-6), 2) := by decide +kernel
theorem dX10_bound_17 : decode cX10_bound 17 = .ok (.goto 4, 3) := by decide +kernel
theorem dX10_bound_20 : decode cX10_bound 20 = .ok (.iconst 0, 1) := by decide +kernel
theorem dX10_bound_21 : decode cX10_bound 21 = .ok (.ireturn, 1) := by decide +kernel
theorem dX10_isVariable_0 : decode cX10_isVariable 0 = .ok (.iload_n 0, 1) := by decide +kernel
theorem dX10_isVariable_1 : decode cX10_isVariable 1 = .ok (.iconst 0, 1) := by decide +kernel
theorem dX10_isVariable_2 : decode cX10_isVariable 2 = .ok (.iconst 5, 1) := by decide +kernel
theorem dX10_isVariable_3 : decode cX10_isVariable 3 = .ok (.invokestatic 134, 3) := by decide +kernel
theorem dX10_isVariable_6 : decode cX10_isVariable 6 = .ok (.ireturn, 1) := by decide +kernel
theorem dX10_bits_0 : decode cX10_bits 0 = .ok (.iconst 0, 1) := by decide +kernel
theorem dX10_bits_1 : decode cX10_bits 1 = .ok (.istore_n 1, 1) := by decide +kernel
theorem dX10_bits_2 : decode cX10_bits 2 = .ok (.iconst 0, 1) := by decide +kernel
theorem dX10_bits_3 : decode cX10_bits 3 = .ok (.istore_n 2, 1) := by decide +kernel
theorem dX10_bits_4 : decode cX10_bits 4 = .ok (.iload_n 2, 1) := by decide +kernel
theorem dX10_bits_5 : decode cX10_bits 5 = .ok (.iconst 4, 1) := by decide +kernel
theorem dX10_bits_6 : decode cX10_bits 6 = .ok (.if_icmp .ge 17, 3) := by decide +kernel
theorem dX10_bits_9 : decode cX10_bits 9 = .ok (.iload_n 1, 1) := by decide +kernel
theorem dX10_bits_10 : decode cX10_bits 10 = .ok (.iload_n 0, 1) := by decide +kernel
theorem dX10_bits_11 : decode cX10_bits 11 = .ok (.iload_n 2, 1) := by decide +kernel
theorem dX10_bits_12 : decode cX10_bits 12 = .ok (.ishr, 1) := by decide +kernel
theorem dX10_bits_13 : decode cX10_bits 13 = .ok (.iconst 1, 1) := by decide +kernel
theorem dX10_bits_14 : decode cX10_bits 14 = .ok (.iand, 1) := by decide +kernel
theorem dX10_bits_15 : decode cX10_bits 15 = .ok (.iadd, 1) := by decide +kernel
theorem dX10_bits_16 : decode cX10_bits 16 = .ok (.istore_n 1, 1) := by decide +kernel
theorem dX10_bits_17 : decode cX10_bits 17 = .ok (.iinc 2 1, 3) := by decide +kernel
theorem dX10_bits_20 : decode cX10_bits 20 = .ok (.goto (-16), 3) := by decide +kernel
theorem dX10_bits_23 : decode cX10_bits 23 = .ok (.iload_n 1, 1) := by decide +kernel
theorem dX10_bits_24 : decode cX10_bits 24 = .ok (.ireturn, 1) := by decide +kernel
theorem dX10_letter_0 : decode cX10_letter 0 = .ok (.iload_n 1, 1) := by decide +kernel
theorem dX10_letter_1 : decode cX10_letter 1 = .ok (.iconst 0, 1) := by decide +kernel
theorem dX10_letter_2 : decode cX10_letter 2 = .ok (.sipush 255, 3) := by decide +kernel
theorem dX10_letter_5 : decode cX10_letter 5 = .ok (.invokestatic 138, 3) := by decide +kernel
theorem dX10_letter_8 : decode cX10_letter 8 = .ok (.istore_n 2, 1) := by decide +kernel
theorem dX10_letter_9 : decode cX10_letter 9 = .ok (.iload_n 2, 1) := by decide +kernel
theorem dX10_letter_10 : decode cX10_letter 10 = .ok (.ifCond .ne 15, 3) := by decide +kernel
theorem dX10_letter_13 : decode cX10_letter 13 = .ok (.aload_n 0, 1) := by decide +kernel
theorem dX10_letter_14 : decode cX10_letter 14 = .ok (.getfield 142, 3) := by decide +kernel
theorem dX10_letter_17 : decode cX10_letter 17 = .ok (.bipush 96, 2) := by decide +kernel
theorem dX10_letter_19 : decode cX10_letter 19 = .ok (.if_icmp .ne 6, 3) := by decide +kernel
theorem dX10_letter_22 : decode cX10_letter 22 = .ok (.bipush (-6), 2) := by decide +kernel
theorem dX10_letter_24 : decode cX10_letter 24 = .ok (.istore_n 2, 1) := by decide +kernel
theorem dX10_letter_25 : decode cX10_letter 25 = .ok (.iload_n 2, 1) := by decide +kernel
theorem dX10_letter_26 : decode cX10_letter 26 = .ok (.ifCond .eq 9, 3) := by decide +kernel
theorem dX10_letter_29 : decode cX10_letter 29 = .ok (.aload_n 0, 1) := by decide +kernel
theorem dX10_letter_30 : decode cX10_letter 30 = .ok (.iload_n 2, 1) := by decide +kernel
theorem dX10_letter_31 : decode cX10_letter 31 = .ok (.invokevirtual 145, 3) := by decide +kernel
theorem dX10_letter_34 : decode cX10_letter 34 = .ok (.ireturn, 1) := by decide +kernel
theorem dX10_letter_35 : decode cX10_letter 35 = .ok (.aload_n 0, 1) := by decide +kernel
theorem dX10_letter_36 : decode cX10_letter 36 = .ok (.getfield 28, 3) := by decide +kernel
theorem dX10_letter_39 : decode cX10_letter 39 = .ok (.aload_n 0, 1) := by decide +kernel
theorem dX10_letter_40 : decode cX10_letter 40 = .ok (.getfield 142, 3) := by decide +kernel
theorem dX10_letter_43 : decode cX10_letter 43 = .ok (.iload_n 1, 1) := by decide +kernel
theorem dX10_letter_44 : decode cX10_letter 44 = .ok (.iastore, 1) := by decide +kernel
theorem dX10_letter_45 : decode cX10_letter 45 = .ok (.aload_n 0, 1) := by decide +kernel
theorem dX10_letter_46 : decode cX10_letter 46 = .ok (.dup, 1) := by decide +kernel
theorem dX10_letter_47 : decode cX10_letter 47 = .ok (.getfield 142, 3) := by decide +kernel
theorem dX10_letter_50 : decode cX10_letter 50 = .ok (.iconst 1, 1) := by decide +kernel
theorem dX10_letter_51 : decode cX10_letter 51 = .ok (.iadd, 1) := by decide +kernel
theorem dX10_letter_52 : decode cX10_letter 52 = .ok (.putfield 142, 3) := by decide +kernel
theorem dX10_letter_55 : decode cX10_letter 55 = .ok (.aload_n 0, 1) := by decide +kernel
theorem dX10_letter_56 : decode cX10_letter 56 = .ok (.getfield 142, 3) := by decide +kernel
theorem dX10_letter_59 : decode cX10_letter 59 = .ok (.ireturn, 1) := by decide +kernel
theorem dX10_awaits_0 : decode cX10_awaits 0 = .ok (.aload_n 0, 1) := by decide +kernel
theorem dX10_awaits_1 : decode cX10_awaits 1 = .ok (.getfield 40, 3) := by decide +kernel
theorem dX10_awaits_4 : decode cX10_awaits 4 = .ok (.aload_n 0, 1) := by decide +kernel
theorem dX10_awaits_5 : decode cX10_awaits 5 = .ok (.getfield 149, 3) := by decide +kernel
theorem dX10_awaits_8 : decode cX10_awaits 8 = .ok (.iload_n 1, 1) := by decide +kernel
theorem dX10_awaits_9 : decode cX10_awaits 9 = .ok (.iastore, 1) := by decide +kernel
theorem dX10_awaits_10 : decode cX10_awaits 10 = .ok (.aload_n 0, 1) := by decide +kernel
theorem dX10_awaits_11 : decode cX10_awaits 11 = .ok (.dup, 1) := by decide +kernel
theorem dX10_awaits_12 : decode cX10_awaits 12 = .ok (.getfield 149, 3) := by decide +kernel
theorem dX10_awaits_15 : decode cX10_awaits 15 = .ok (.iconst 1, 1) := by decide +kernel
theorem dX10_awaits_16 : decode cX10_awaits 16 = .ok (.iadd, 1) := by decide +kernel
theorem dX10_awaits_17 : decode cX10_awaits 17 = .ok (.putfield 149, 3) := by decide +kernel
theorem dX10_awaits_20 : decode cX10_awaits 20 = .ok (.return_, 1) := by decide +kernel
theorem dX10_isSite_0 : decode cX10_isSite 0 = .ok (.iload_n 0, 1) := by decide +kernel
theorem dX10_isSite_1 : decode cX10_isSite 1 = .ok (.bipush 112, 2) := by decide +kernel
theorem dX10_isSite_3 : decode cX10_isSite 3 = .ok (.if_icmp .eq 9, 3) := by decide +kernel
theorem dX10_isSite_6 : decode cX10_isSite 6 = .ok (.iload_n 0, 1) := by decide +kernel
theorem dX10_isSite_7 : decode cX10_isSite 7 = .ok (.bipush 113, 2) := by decide +kernel
theorem dX10_isSite_9 : decode cX10_isSite 9 = .ok (.if_icmp .ne 7, 3) := by decide +kernel
theorem dX10_isSite_12 : decode cX10_isSite 12 = .ok (.iconst 1, 1) := by decide +kernel
theorem dX10_isSite_13 : decode cX10_isSite 13 = .ok (.goto 4, 3) := by decide +kernel
theorem dX10_isSite_16 : decode cX10_isSite 16 = .ok (.iconst 0, 1) := by decide +kernel
theorem dX10_isSite_17 : decode cX10_isSite 17 = .ok (.ireturn, 1) := by decide +kernel
theorem dX10_manyOf_0 : decode cX10_manyOf 0 = .ok (.iload_n 0, 1) := by decide +kernel
theorem dX10_manyOf_1 : decode cX10_manyOf 1 = .ok (.lookupswitch 129 #[(42, 125), (43, 125), (44, 125), (45, 125), (63, 123), (64, 125), (66, 125), (67, 125), (80, 127), (81, 127), (87, 127), (88, 127), (112, 127), (113, 127)], 123) := by decide +kernel
theorem dX10_manyOf_124 : decode cX10_manyOf 124 = .ok (.iconst 3, 1) := by decide +kernel
theorem dX10_manyOf_125 : decode cX10_manyOf 125 = .ok (.ireturn, 1) := by decide +kernel
theorem dX10_manyOf_126 : decode cX10_manyOf 126 = .ok (.iconst 2, 1) := by decide +kernel
theorem dX10_manyOf_127 : decode cX10_manyOf 127 = .ok (.ireturn, 1) := by decide +kernel
theorem dX10_manyOf_128 : decode cX10_manyOf 128 = .ok (.iconst 1, 1) := by decide +kernel
theorem dX10_manyOf_129 : decode cX10_manyOf 129 = .ok (.ireturn, 1) := by decide +kernel
theorem dX10_manyOf_130 : decode cX10_manyOf 130 = .ok (.bipush (-9), 2) := by decide +kernel
theorem dX10_manyOf_132 : decode cX10_manyOf 132 = .ok (.ireturn, 1) := by decide +kernel
theorem dX10_awaitsParts_0 : decode cX10_awaitsParts 0 = .ok (.iload_n 1, 1) := by decide +kernel
theorem dX10_awaitsParts_1 : decode cX10_awaitsParts 1 = .ok (.bipush 48, 2) := by decide +kernel
theorem dX10_awaitsParts_3 : decode cX10_awaitsParts 3 = .ok (.bipush 57, 2) := by decide +kernel
theorem dX10_awaitsParts_5 : decode cX10_awaitsParts 5 = .ok (.invokestatic 134, 3) := by decide +kernel
theorem dX10_awaitsParts_8 : decode cX10_awaitsParts 8 = .ok (.ifCond .ne 14, 3) := by decide +kernel
theorem dX10_awaitsParts_11 : decode cX10_awaitsParts 11 = .ok (.iload_n 1, 1) := by decide +kernel
theorem dX10_awaitsParts_12 : decode cX10_awaitsParts 12 = .ok (.bipush 97, 2) := by decide +kernel
theorem dX10_awaitsParts_14 : decode cX10_awaitsParts 14 = .ok (.bipush 102, 2) := by decide +kernel
theorem dX10_awaitsParts_16 : decode cX10_awaitsParts 16 = .ok (.invokestatic 134, 3) := by decide +kernel
theorem dX10_awaitsParts_19 : decode cX10_awaitsParts 19 = .ok (.ifCond .eq 5, 3) := by decide +kernel
theorem dX10_awaitsParts_22 : decode cX10_awaitsParts 22 = .ok (.iconst 1, 1) := by decide +kernel
theorem dX10_awaitsParts_23 : decode cX10_awaitsParts 23 = .ok (.ireturn, 1) := by decide +kernel
theorem dX10_awaitsParts_24 : decode cX10_awaitsParts 24 = .ok (.iload_n 1, 1) := by decide +kernel
theorem dX10_awaitsParts_25 : decode cX10_awaitsParts 25 = .ok (.bipush 76, 2) := by decide +kernel
theorem dX10_awaitsParts_27 : decode cX10_awaitsParts 27 = .ok (.if_icmp .eq 15, 3) := by decide +kernel
theorem dX10_awaitsParts_30 : decode cX10_awaitsParts 30 = .ok (.iload_n 1, 1) := by decide +kernel
theorem dX10_awaitsParts_31 : decode cX10_awaitsParts 31 = .ok (.bipush 83, 2) := by decide +kernel
theorem dX10_awaitsParts_33 : decode cX10_awaitsParts 33 = .ok (.if_icmp .eq 9, 3) := by decide +kernel
theorem dX10_awaitsParts_36 : decode cX10_awaitsParts 36 = .ok (.iload_n 1, 1) := by decide +kernel
theorem dX10_awaitsParts_37 : decode cX10_awaitsParts 37 = .ok (.bipush 70, 2) := by decide +kernel
theorem dX10_awaitsParts_39 : decode cX10_awaitsParts 39 = .ok (.if_icmp .ne 29, 3) := by decide +kernel
theorem dX10_awaitsParts_42 : decode cX10_awaitsParts 42 = .ok (.iload_n 1, 1) := by decide +kernel
theorem dX10_awaitsParts_43 : decode cX10_awaitsParts 43 = .ok (.bipush 76, 2) := by decide +kernel
theorem dX10_awaitsParts_45 : decode cX10_awaitsParts 45 = .ok (.if_icmp .ne 9, 3) := by decide +kernel
theorem dX10_awaitsParts_48 : decode cX10_awaitsParts 48 = .ok (.aload_n 0, 1) := by decide +kernel
theorem dX10_awaitsParts_49 : decode cX10_awaitsParts 49 = .ok (.bipush 101, 2) := by decide +kernel
theorem dX10_awaitsParts_51 : decode cX10_awaitsParts 51 = .ok (.invokevirtual 152, 3) := by decide +kernel
theorem dX10_awaitsParts_54 : decode cX10_awaitsParts 54 = .ok (.aload_n 0, 1) := by decide +kernel
theorem dX10_awaitsParts_55 : decode cX10_awaitsParts 55 = .ok (.bipush 101, 2) := by decide +kernel
theorem dX10_awaitsParts_57 : decode cX10_awaitsParts 57 = .ok (.invokevirtual 152, 3) := by decide +kernel
theorem dX10_awaitsParts_60 : decode cX10_awaitsParts 60 = .ok (.aload_n 0, 1) := by decide +kernel
theorem dX10_awaitsParts_61 : decode cX10_awaitsParts 61 = .ok (.bipush 118, 2) := by decide +kernel
theorem dX10_awaitsParts_63 : decode cX10_awaitsParts 63 = .ok (.invokevirtual 152, 3) := by decide +kernel
theorem dX10_awaitsParts_66 : decode cX10_awaitsParts 66 = .ok (.iconst 1, 1) := by decide +kernel
theorem dX10_awaitsParts_67 : decode cX10_awaitsParts 67 = .ok (.ireturn, 1) := by decide +kernel
theorem dX10_awaitsParts_68 : decode cX10_awaitsParts 68 = .ok (.iload_n 1, 1) := by decide +kernel
theorem dX10_awaitsParts_69 : decode cX10_awaitsParts 69 = .ok (.bipush 89, 2) := by decide +kernel
theorem dX10_awaitsParts_71 : decode cX10_awaitsParts 71 = .ok (.if_icmp .ne 23, 3) := by decide +kernel
theorem dX10_awaitsParts_74 : decode cX10_awaitsParts 74 = .ok (.aload_n 0, 1) := by decide +kernel
theorem dX10_awaitsParts_75 : decode cX10_awaitsParts 75 = .ok (.bipush 101, 2) := by decide +kernel
theorem dX10_awaitsParts_77 : decode cX10_awaitsParts 77 = .ok (.invokevirtual 152, 3) := by decide +kernel
theorem dX10_awaitsParts_80 : decode cX10_awaitsParts 80 = .ok (.aload_n 0, 1) := by decide +kernel
theorem dX10_awaitsParts_81 : decode cX10_awaitsParts 81 = .ok (.bipush 118, 2) := by decide +kernel
theorem dX10_awaitsParts_83 : decode cX10_awaitsParts 83 = .ok (.invokevirtual 152, 3) := by decide +kernel
theorem dX10_awaitsParts_86 : decode cX10_awaitsParts 86 = .ok (.aload_n 0, 1) := by decide +kernel
theorem dX10_awaitsParts_87 : decode cX10_awaitsParts 87 = .ok (.bipush 101, 2) := by decide +kernel
theorem dX10_awaitsParts_89 : decode cX10_awaitsParts 89 = .ok (.invokevirtual 152, 3) := by decide +kernel
theorem dX10_awaitsParts_92 : decode cX10_awaitsParts 92 = .ok (.iconst 1, 1) := by decide +kernel
theorem dX10_awaitsParts_93 : decode cX10_awaitsParts 93 = .ok (.ireturn, 1) := by decide +kernel
theorem dX10_awaitsParts_94 : decode cX10_awaitsParts 94 = .ok (.iload_n 1, 1) := by decide +kernel
theorem dX10_awaitsParts_95 : decode cX10_awaitsParts 95 = .ok (.invokestatic 156, 3) := by decide +kernel
theorem dX10_awaitsParts_98 : decode cX10_awaitsParts 98 = .ok (.istore_n 2, 1) := by decide +kernel
theorem dX10_awaitsParts_99 : decode cX10_awaitsParts 99 = .ok (.iconst 0, 1) := by decide +kernel
theorem dX10_awaitsParts_100 : decode cX10_awaitsParts 100 = .ok (.istore_n 3, 1) := by decide +kernel
theorem dX10_awaitsParts_101 : decode cX10_awaitsParts 101 = .ok (.iload_n 3, 1) := by decide +kernel
theorem dX10_awaitsParts_102 : decode cX10_awaitsParts 102 = .ok (.iload_n 2, 1) := by decide +kernel
theorem dX10_awaitsParts_103 : decode cX10_awaitsParts 103 = .ok (.if_icmp .ge 15, 3) := by decide +kernel
theorem dX10_awaitsParts_106 : decode cX10_awaitsParts 106 = .ok (.aload_n 0, 1) := by decide +kernel
theorem dX10_awaitsParts_107 : decode cX10_awaitsParts 107 = .ok (.bipush 101, 2) := by decide +kernel
theorem dX10_awaitsParts_109 : decode cX10_awaitsParts 109 = .ok (.invokevirtual 152, 3) := by decide +kernel
theorem dX10_awaitsParts_112 : decode cX10_awaitsParts 112 = .ok (.iinc 3 1, 3) := by decide +kernel
theorem dX10_awaitsParts_115 : decode cX10_awaitsParts 115 = .ok (.goto (-14), 3) := by decide +kernel
theorem dX10_awaitsParts_118 : decode cX10_awaitsParts 118 = .ok (.iload_n 2, 1) := by decide +kernel
theorem dX10_awaitsParts_119 : decode cX10_awaitsParts 119 = .ok (.ifCond .le 7, 3) := by decide +kernel
theorem dX10_awaitsParts_122 : decode cX10_awaitsParts 122 = .ok (.iconst 1, 1) := by decide +kernel
theorem dX10_awaitsParts_123 : decode cX10_awaitsParts 123 = .ok (.goto 4, 3) := by decide +kernel
theorem dX10_awaitsParts_126 : decode cX10_awaitsParts 126 = .ok (.iconst 0, 1) := by decide +kernel
theorem dX10_awaitsParts_127 : decode cX10_awaitsParts 127 = .ok (.ireturn, 1) := by decide +kernel
theorem dX10_readsOne_0 : decode cX10_readsOne 0 = .ok (.aload_n 0, 1) := by decide +kernel
theorem dX10_readsOne_1 : decode cX10_readsOne 1 = .ok (.getfield 37, 3) := by decide +kernel
theorem dX10_readsOne_4 : decode cX10_readsOne 4 = .ok (.aload_n 0, 1) := by decide +kernel
theorem dX10_readsOne_5 : decode cX10_readsOne 5 = .ok (.getfield 159, 3) := by decide +kernel
theorem dX10_readsOne_8 : decode cX10_readsOne 8 = .ok (.iload_n 2, 1) := by decide +kernel
theorem dX10_readsOne_9 : decode cX10_readsOne 9 = .ok (.bipush 118, 2) := by decide +kernel
theorem dX10_readsOne_11 : decode cX10_readsOne 11 = .ok (.if_icmp .ne 7, 3) := by decide +kernel
theorem dX10_readsOne_14 : decode cX10_readsOne 14 = .ok (.iconst 1, 1) := by decide +kernel
theorem dX10_readsOne_15 : decode cX10_readsOne 15 = .ok (.goto 4, 3) := by decide +kernel
theorem dX10_readsOne_18 : decode cX10_readsOne 18 = .ok (.iconst 0, 1) := by decide +kernel
theorem dX10_readsOne_19 : decode cX10_readsOne 19 = .ok (.iastore, 1) := by decide +kernel
theorem dX10_readsOne_20 : decode cX10_readsOne 20 = .ok (.iload_n 2, 1) := by decide +kernel
theorem dX10_readsOne_21 : decode cX10_readsOne 21 = .ok (.bipush 118, 2) := by decide +kernel
theorem dX10_readsOne_23 : decode cX10_readsOne 23 = .ok (.if_icmp .ne 12, 3) := by decide +kernel
theorem dX10_readsOne_26 : decode cX10_readsOne 26 = .ok (.iload_n 1, 1) := by decide +kernel
theorem dX10_readsOne_27 : decode cX10_readsOne 27 = .ok (.bipush 97, 2) := by decide +kernel
theorem dX10_readsOne_29 : decode cX10_readsOne 29 = .ok (.bipush 102, 2) := by decide +kernel
theorem dX10_readsOne_31 : decode cX10_readsOne 31 = .ok (.invokestatic 134, 3) := by decide +kernel
theorem dX10_readsOne_34 : decode cX10_readsOne 34 = .ok (.ireturn, 1) := by decide +kernel
theorem dX10_readsOne_35 : decode cX10_readsOne 35 = .ok (.aload_n 0, 1) := by decide +kernel
theorem dX10_readsOne_36 : decode cX10_readsOne 36 = .ok (.iload_n 1, 1) := by decide +kernel
theorem dX10_readsOne_37 : decode cX10_readsOne 37 = .ok (.invokevirtual 162, 3) := by decide +kernel
theorem dX10_readsOne_40 : decode cX10_readsOne 40 = .ok (.ifCond .ne 5, 3) := by decide +kernel
end
section
theorem dX10_readsOne_43 : decode cX10_readsOne 43 = .ok (.iconst 0, 1) := by decide +kernel
theorem dX10_readsOne_44 : decode cX10_readsOne 44 = .ok (.ireturn, 1) := by decide +kernel
theorem dX10_readsOne_45 : decode cX10_readsOne 45 = .ok (.aload_n 0, 1) := by decide +kernel
theorem dX10_readsOne_46 : decode cX10_readsOne 46 = .ok (.getfield 166, 3) := by decide +kernel
theorem dX10_readsOne_49 : decode cX10_readsOne 49 = .ok (.ifCond .ge 36, 3) := by decide +kernel
theorem dX10_readsOne_52 : decode cX10_readsOne 52 = .ok (.aload_n 0, 1) := by decide +kernel
theorem dX10_readsOne_53 : decode cX10_readsOne 53 = .ok (.getfield 169, 3) := by decide +kernel
theorem dX10_readsOne_56 : decode cX10_readsOne 56 = .ok (.bipush 40, 2) := by decide +kernel
theorem dX10_readsOne_58 : decode cX10_readsOne 58 = .ok (.if_icmp .eq 19, 3) := by decide +kernel
theorem dX10_readsOne_61 : decode cX10_readsOne 61 = .ok (.iload_n 1, 1) := by decide +kernel
theorem dX10_readsOne_62 : decode cX10_readsOne 62 = .ok (.invokestatic 172, 3) := by decide +kernel
theorem dX10_readsOne_65 : decode cX10_readsOne 65 = .ok (.ifCond .eq 20, 3) := by decide +kernel
theorem dX10_readsOne_68 : decode cX10_readsOne 68 = .ok (.aload_n 0, 1) := by decide +kernel
theorem dX10_readsOne_69 : decode cX10_readsOne 69 = .ok (.getfield 175, 3) := by decide +kernel
theorem dX10_readsOne_72 : decode cX10_readsOne 72 = .ok (.bipush 10, 2) := by decide +kernel
theorem dX10_readsOne_74 : decode cX10_readsOne 74 = .ok (.if_icmp .ne 11, 3) := by decide +kernel
theorem dX10_readsOne_77 : decode cX10_readsOne 77 = .ok (.aload_n 0, 1) := by decide +kernel
theorem dX10_readsOne_78 : decode cX10_readsOne 78 = .ok (.aload_n 0, 1) := by decide +kernel
theorem dX10_readsOne_79 : decode cX10_readsOne 79 = .ok (.getfield 159, 3) := by decide +kernel
theorem dX10_readsOne_82 : decode cX10_readsOne 82 = .ok (.putfield 166, 3) := by decide +kernel
theorem dX10_readsOne_85 : decode cX10_readsOne 85 = .ok (.aload_n 0, 1) := by decide +kernel
theorem dX10_readsOne_86 : decode cX10_readsOne 86 = .ok (.dup, 1) := by decide +kernel
theorem dX10_readsOne_87 : decode cX10_readsOne 87 = .ok (.getfield 169, 3) := by decide +kernel
theorem dX10_readsOne_90 : decode cX10_readsOne 90 = .ok (.iconst 1, 1) := by decide +kernel
theorem dX10_readsOne_91 : decode cX10_readsOne 91 = .ok (.iadd, 1) := by decide +kernel
theorem dX10_readsOne_92 : decode cX10_readsOne 92 = .ok (.putfield 169, 3) := by decide +kernel
theorem dX10_readsOne_95 : decode cX10_readsOne 95 = .ok (.aload_n 0, 1) := by decide +kernel
theorem dX10_readsOne_96 : decode cX10_readsOne 96 = .ok (.dup, 1) := by decide +kernel
theorem dX10_readsOne_97 : decode cX10_readsOne 97 = .ok (.getfield 175, 3) := by decide +kernel
theorem dX10_readsOne_100 : decode cX10_readsOne 100 = .ok (.iload_n 1, 1) := by decide +kernel
theorem dX10_readsOne_101 : decode cX10_readsOne 101 = .ok (.invokestatic 172, 3) := by decide +kernel
theorem dX10_readsOne_104 : decode cX10_readsOne 104 = .ok (.ifCond .eq 7, 3) := by decide +kernel
theorem dX10_readsOne_107 : decode cX10_readsOne 107 = .ok (.iconst 1, 1) := by decide +kernel
theorem dX10_readsOne_108 : decode cX10_readsOne 108 = .ok (.goto 4, 3) := by decide +kernel
theorem dX10_readsOne_111 : decode cX10_readsOne 111 = .ok (.iconst 0, 1) := by decide +kernel
theorem dX10_readsOne_112 : decode cX10_readsOne 112 = .ok (.iadd, 1) := by decide +kernel
theorem dX10_readsOne_113 : decode cX10_readsOne 113 = .ok (.putfield 175, 3) := by decide +kernel
theorem dX10_readsOne_116 : decode cX10_readsOne 116 = .ok (.iconst 1, 1) := by decide +kernel
theorem dX10_readsOne_117 : decode cX10_readsOne 117 = .ok (.ireturn, 1) := by decide +kernel
theorem dX10_reads_0 : decode cX10_reads 0 = .ok (.aload_n 0, 1) := by decide +kernel
theorem dX10_reads_1 : decode cX10_reads 1 = .ok (.iconst 0, 1) := by decide +kernel
theorem dX10_reads_2 : decode cX10_reads 2 = .ok (.putfield 159, 3) := by decide +kernel
theorem dX10_reads_5 : decode cX10_reads 5 = .ok (.aload_n 0, 1) := by decide +kernel
theorem dX10_reads_6 : decode cX10_reads 6 = .ok (.iconst (-1), 1) := by decide +kernel
theorem dX10_reads_7 : decode cX10_reads 7 = .ok (.putfield 166, 3) := by decide +kernel
theorem dX10_reads_10 : decode cX10_reads 10 = .ok (.aload_n 0, 1) := by decide +kernel
theorem dX10_reads_11 : decode cX10_reads 11 = .ok (.iconst 0, 1) := by decide +kernel
theorem dX10_reads_12 : decode cX10_reads 12 = .ok (.putfield 149, 3) := by decide +kernel
theorem dX10_reads_15 : decode cX10_reads 15 = .ok (.aload_n 0, 1) := by decide +kernel
theorem dX10_reads_16 : decode cX10_reads 16 = .ok (.iconst 0, 1) := by decide +kernel
theorem dX10_reads_17 : decode cX10_reads 17 = .ok (.putfield 169, 3) := by decide +kernel
theorem dX10_reads_20 : decode cX10_reads 20 = .ok (.aload_n 0, 1) := by decide +kernel
theorem dX10_reads_21 : decode cX10_reads 21 = .ok (.iconst 0, 1) := by decide +kernel
theorem dX10_reads_22 : decode cX10_reads 22 = .ok (.putfield 175, 3) := by decide +kernel
theorem dX10_reads_25 : decode cX10_reads 25 = .ok (.aload_n 0, 1) := by decide +kernel
theorem dX10_reads_26 : decode cX10_reads 26 = .ok (.bipush 101, 2) := by decide +kernel
theorem dX10_reads_28 : decode cX10_reads 28 = .ok (.invokevirtual 152, 3) := by decide +kernel
theorem dX10_reads_31 : decode cX10_reads 31 = .ok (.aload_n 0, 1) := by decide +kernel
theorem dX10_reads_32 : decode cX10_reads 32 = .ok (.getfield 149, 3) := by decide +kernel
theorem dX10_reads_35 : decode cX10_reads 35 = .ok (.ifCond .le 64, 3) := by decide +kernel
theorem dX10_reads_38 : decode cX10_reads 38 = .ok (.aload_n 0, 1) := by decide +kernel
theorem dX10_reads_39 : decode cX10_reads 39 = .ok (.dup, 1) := by decide +kernel
theorem dX10_reads_40 : decode cX10_reads 40 = .ok (.getfield 149, 3) := by decide +kernel
theorem dX10_reads_43 : decode cX10_reads 43 = .ok (.iconst 1, 1) := by decide +kernel
theorem dX10_reads_44 : decode cX10_reads 44 = .ok (.isub, 1) := by decide +kernel
theorem dX10_reads_45 : decode cX10_reads 45 = .ok (.putfield 149, 3) := by decide +kernel
theorem dX10_reads_48 : decode cX10_reads 48 = .ok (.aload_n 0, 1) := by decide +kernel
theorem dX10_reads_49 : decode cX10_reads 49 = .ok (.getfield 159, 3) := by decide +kernel
theorem dX10_reads_52 : decode cX10_reads 52 = .ok (.aload_n 0, 1) := by decide +kernel
theorem dX10_reads_53 : decode cX10_reads 53 = .ok (.getfield 142, 3) := by decide +kernel
theorem dX10_reads_56 : decode cX10_reads 56 = .ok (.if_icmp .eq 28, 3) := by decide +kernel
theorem dX10_reads_59 : decode cX10_reads 59 = .ok (.aload_n 0, 1) := by decide +kernel
theorem dX10_reads_60 : decode cX10_reads 60 = .ok (.aload_n 0, 1) := by decide +kernel
theorem dX10_reads_61 : decode cX10_reads 61 = .ok (.getfield 28, 3) := by decide +kernel
theorem dX10_reads_64 : decode cX10_reads 64 = .ok (.aload_n 0, 1) := by decide +kernel
theorem dX10_reads_65 : decode cX10_reads 65 = .ok (.getfield 159, 3) := by decide +kernel
theorem dX10_reads_68 : decode cX10_reads 68 = .ok (.iaload, 1) := by decide +kernel
theorem dX10_reads_69 : decode cX10_reads 69 = .ok (.aload_n 0, 1) := by decide +kernel
theorem dX10_reads_70 : decode cX10_reads 70 = .ok (.getfield 40, 3) := by decide +kernel
theorem dX10_reads_73 : decode cX10_reads 73 = .ok (.aload_n 0, 1) := by decide +kernel
theorem dX10_reads_74 : decode cX10_reads 74 = .ok (.getfield 149, 3) := by decide +kernel
theorem dX10_reads_77 : decode cX10_reads 77 = .ok (.iaload, 1) := by decide +kernel
theorem dX10_reads_78 : decode cX10_reads 78 = .ok (.invokevirtual 178, 3) := by decide +kernel
theorem dX10_reads_81 : decode cX10_reads 81 = .ok (.ifCond .ne 5, 3) := by decide +kernel
theorem dX10_reads_84 : decode cX10_reads 84 = .ok (.iconst 0, 1) := by decide +kernel
theorem dX10_reads_85 : decode cX10_reads 85 = .ok (.ireturn, 1) := by decide +kernel
theorem dX10_reads_86 : decode cX10_reads 86 = .ok (.aload_n 0, 1) := by decide +kernel
theorem dX10_reads_87 : decode cX10_reads 87 = .ok (.dup, 1) := by decide +kernel
theorem dX10_reads_88 : decode cX10_reads 88 = .ok (.getfield 159, 3) := by decide +kernel
theorem dX10_reads_91 : decode cX10_reads 91 = .ok (.iconst 1, 1) := by decide +kernel
theorem dX10_reads_92 : decode cX10_reads 92 = .ok (.iadd, 1) := by decide +kernel
theorem dX10_reads_93 : decode cX10_reads 93 = .ok (.putfield 159, 3) := by decide +kernel
theorem dX10_reads_96 : decode cX10_reads 96 = .ok (.goto (-65), 3) := by decide +kernel
theorem dX10_reads_99 : decode cX10_reads 99 = .ok (.aload_n 0, 1) := by decide +kernel
theorem dX10_reads_100 : decode cX10_reads 100 = .ok (.getfield 159, 3) := by decide +kernel
theorem dX10_reads_103 : decode cX10_reads 103 = .ok (.aload_n 0, 1) := by decide +kernel
theorem dX10_reads_104 : decode cX10_reads 104 = .ok (.getfield 142, 3) := by decide +kernel
theorem dX10_reads_107 : decode cX10_reads 107 = .ok (.if_icmp .ne 7, 3) := by decide +kernel
theorem dX10_reads_110 : decode cX10_reads 110 = .ok (.iconst 1, 1) := by decide +kernel
theorem dX10_reads_111 : decode cX10_reads 111 = .ok (.goto 4, 3) := by decide +kernel
theorem dX10_reads_114 : decode cX10_reads 114 = .ok (.iconst 0, 1) := by decide +kernel
theorem dX10_reads_115 : decode cX10_reads 115 = .ok (.ireturn, 1) := by decide +kernel
theorem dX10_pops_0 : decode cX10_pops 0 = .ok (.aload_n 0, 1) := by decide +kernel
theorem dX10_pops_1 : decode cX10_pops 1 = .ok (.dup, 1) := by decide +kernel
theorem dX10_pops_2 : decode cX10_pops 2 = .ok (.getfield 182, 3) := by decide +kernel
theorem dX10_pops_5 : decode cX10_pops 5 = .ok (.iconst 1, 1) := by decide +kernel
theorem dX10_pops_6 : decode cX10_pops 6 = .ok (.isub, 1) := by decide +kernel
theorem dX10_pops_7 : decode cX10_pops 7 = .ok (.putfield 182, 3) := by decide +kernel
theorem dX10_pops_10 : decode cX10_pops 10 = .ok (.aload_n 0, 1) := by decide +kernel
theorem dX10_pops_11 : decode cX10_pops 11 = .ok (.getfield 43, 3) := by decide +kernel
theorem dX10_pops_14 : decode cX10_pops 14 = .ok (.aload_n 0, 1) := by decide +kernel
theorem dX10_pops_15 : decode cX10_pops 15 = .ok (.getfield 182, 3) := by decide +kernel
theorem dX10_pops_18 : decode cX10_pops 18 = .ok (.iaload, 1) := by decide +kernel
theorem dX10_pops_19 : decode cX10_pops 19 = .ok (.ireturn, 1) := by decide +kernel
theorem dX10_buildsOne_0 : decode cX10_buildsOne 0 = .ok (.aload_n 0, 1) := by decide +kernel
theorem dX10_buildsOne_1 : decode cX10_buildsOne 1 = .ok (.getfield 13, 3) := by decide +kernel
theorem dX10_buildsOne_4 : decode cX10_buildsOne 4 = .ok (.iload_n 2, 1) := by decide +kernel
theorem dX10_buildsOne_5 : decode cX10_buildsOne 5 = .ok (.iload_n 1, 1) := by decide +kernel
theorem dX10_buildsOne_6 : decode cX10_buildsOne 6 = .ok (.iastore, 1) := by decide +kernel
theorem dX10_buildsOne_7 : decode cX10_buildsOne 7 = .ok (.iload_n 1, 1) := by decide +kernel
theorem dX10_buildsOne_8 : decode cX10_buildsOne 8 = .ok (.bipush 76, 2) := by decide +kernel
theorem dX10_buildsOne_10 : decode cX10_buildsOne 10 = .ok (.if_icmp .eq 15, 3) := by decide +kernel
theorem dX10_buildsOne_13 : decode cX10_buildsOne 13 = .ok (.iload_n 1, 1) := by decide +kernel
theorem dX10_buildsOne_14 : decode cX10_buildsOne 14 = .ok (.bipush 83, 2) := by decide +kernel
theorem dX10_buildsOne_16 : decode cX10_buildsOne 16 = .ok (.if_icmp .eq 9, 3) := by decide +kernel
theorem dX10_buildsOne_19 : decode cX10_buildsOne 19 = .ok (.iload_n 1, 1) := by decide +kernel
theorem dX10_buildsOne_20 : decode cX10_buildsOne 20 = .ok (.bipush 70, 2) := by decide +kernel
theorem dX10_buildsOne_22 : decode cX10_buildsOne 22 = .ok (.if_icmp .ne 13, 3) := by decide +kernel
theorem dX10_buildsOne_25 : decode cX10_buildsOne 25 = .ok (.aload_n 0, 1) := by decide +kernel
theorem dX10_buildsOne_26 : decode cX10_buildsOne 26 = .ok (.getfield 25, 3) := by decide +kernel
theorem dX10_buildsOne_29 : decode cX10_buildsOne 29 = .ok (.iload_n 2, 1) := by decide +kernel
theorem dX10_buildsOne_30 : decode cX10_buildsOne 30 = .ok (.aload_n 0, 1) := by decide +kernel
theorem dX10_buildsOne_31 : decode cX10_buildsOne 31 = .ok (.invokevirtual 185, 3) := by decide +kernel
theorem dX10_buildsOne_34 : decode cX10_buildsOne 34 = .ok (.iastore, 1) := by decide +kernel
theorem dX10_buildsOne_35 : decode cX10_buildsOne 35 = .ok (.iload_n 1, 1) := by decide +kernel
theorem dX10_buildsOne_36 : decode cX10_buildsOne 36 = .ok (.bipush 48, 2) := by decide +kernel
theorem dX10_buildsOne_38 : decode cX10_buildsOne 38 = .ok (.bipush 57, 2) := by decide +kernel
theorem dX10_buildsOne_40 : decode cX10_buildsOne 40 = .ok (.invokestatic 134, 3) := by decide +kernel
theorem dX10_buildsOne_43 : decode cX10_buildsOne 43 = .ok (.ifCond .ne 14, 3) := by decide +kernel
theorem dX10_buildsOne_46 : decode cX10_buildsOne 46 = .ok (.iload_n 1, 1) := by decide +kernel
theorem dX10_buildsOne_47 : decode cX10_buildsOne 47 = .ok (.bipush 97, 2) := by decide +kernel
theorem dX10_buildsOne_49 : decode cX10_buildsOne 49 = .ok (.bipush 102, 2) := by decide +kernel
theorem dX10_buildsOne_51 : decode cX10_buildsOne 51 = .ok (.invokestatic 134, 3) := by decide +kernel
theorem dX10_buildsOne_54 : decode cX10_buildsOne 54 = .ok (.ifCond .eq 4, 3) := by decide +kernel
theorem dX10_buildsOne_57 : decode cX10_buildsOne 57 = .ok (.return_, 1) := by decide +kernel
theorem dX10_buildsOne_58 : decode cX10_buildsOne 58 = .ok (.aload_n 0, 1) := by decide +kernel
theorem dX10_buildsOne_59 : decode cX10_buildsOne 59 = .ok (.getfield 16, 3) := by decide +kernel
theorem dX10_buildsOne_62 : decode cX10_buildsOne 62 = .ok (.iload_n 2, 1) := by decide +kernel
theorem dX10_buildsOne_63 : decode cX10_buildsOne 63 = .ok (.aload_n 0, 1) := by decide +kernel
theorem dX10_buildsOne_64 : decode cX10_buildsOne 64 = .ok (.invokevirtual 185, 3) := by decide +kernel
theorem dX10_buildsOne_67 : decode cX10_buildsOne 67 = .ok (.iastore, 1) := by decide +kernel
theorem dX10_buildsOne_68 : decode cX10_buildsOne 68 = .ok (.iload_n 1, 1) := by decide +kernel
theorem dX10_buildsOne_69 : decode cX10_buildsOne 69 = .ok (.bipush 89, 2) := by decide +kernel
theorem dX10_buildsOne_71 : decode cX10_buildsOne 71 = .ok (.if_icmp .ne 13, 3) := by decide +kernel
theorem dX10_buildsOne_74 : decode cX10_buildsOne 74 = .ok (.aload_n 0, 1) := by decide +kernel
theorem dX10_buildsOne_75 : decode cX10_buildsOne 75 = .ok (.getfield 25, 3) := by decide +kernel
theorem dX10_buildsOne_78 : decode cX10_buildsOne 78 = .ok (.iload_n 2, 1) := by decide +kernel
theorem dX10_buildsOne_79 : decode cX10_buildsOne 79 = .ok (.aload_n 0, 1) := by decide +kernel
theorem dX10_buildsOne_80 : decode cX10_buildsOne 80 = .ok (.invokevirtual 185, 3) := by decide +kernel
theorem dX10_buildsOne_83 : decode cX10_buildsOne 83 = .ok (.iastore, 1) := by decide +kernel
theorem dX10_buildsOne_84 : decode cX10_buildsOne 84 = .ok (.iload_n 1, 1) := by decide +kernel
theorem dX10_buildsOne_85 : decode cX10_buildsOne 85 = .ok (.bipush 76, 2) := by decide +kernel
theorem dX10_buildsOne_87 : decode cX10_buildsOne 87 = .ok (.if_icmp .eq 17, 3) := by decide +kernel
theorem dX10_buildsOne_90 : decode cX10_buildsOne 90 = .ok (.iload_n 1, 1) := by decide +kernel
theorem dX10_buildsOne_91 : decode cX10_buildsOne 91 = .ok (.bipush 89, 2) := by decide +kernel
theorem dX10_buildsOne_93 : decode cX10_buildsOne 93 = .ok (.if_icmp .eq 11, 3) := by decide +kernel
theorem dX10_buildsOne_96 : decode cX10_buildsOne 96 = .ok (.iload_n 1, 1) := by decide +kernel
theorem dX10_buildsOne_97 : decode cX10_buildsOne 97 = .ok (.invokestatic 156, 3) := by decide +kernel
theorem dX10_buildsOne_100 : decode cX10_buildsOne 100 = .ok (.iconst 1, 1) := by decide +kernel
theorem dX10_buildsOne_101 : decode cX10_buildsOne 101 = .ok (.if_icmp .le 13, 3) := by decide +kernel
theorem dX10_buildsOne_104 : decode cX10_buildsOne 104 = .ok (.aload_n 0, 1) := by decide +kernel
theorem dX10_buildsOne_105 : decode cX10_buildsOne 105 = .ok (.getfield 19, 3) := by decide +kernel
theorem dX10_buildsOne_108 : decode cX10_buildsOne 108 = .ok (.iload_n 2, 1) := by decide +kernel
theorem dX10_buildsOne_109 : decode cX10_buildsOne 109 = .ok (.aload_n 0, 1) := by decide +kernel
theorem dX10_buildsOne_110 : decode cX10_buildsOne 110 = .ok (.invokevirtual 185, 3) := by decide +kernel
theorem dX10_buildsOne_113 : decode cX10_buildsOne 113 = .ok (.iastore, 1) := by decide +kernel
theorem dX10_buildsOne_114 : decode cX10_buildsOne 114 = .ok (.iload_n 1, 1) := by decide +kernel
theorem dX10_buildsOne_115 : decode cX10_buildsOne 115 = .ok (.bipush 63, 2) := by decide +kernel
theorem dX10_buildsOne_117 : decode cX10_buildsOne 117 = .ok (.if_icmp .ne 13, 3) := by decide +kernel
theorem dX10_buildsOne_120 : decode cX10_buildsOne 120 = .ok (.aload_n 0, 1) := by decide +kernel
theorem dX10_buildsOne_121 : decode cX10_buildsOne 121 = .ok (.getfield 22, 3) := by decide +kernel
theorem dX10_buildsOne_124 : decode cX10_buildsOne 124 = .ok (.iload_n 2, 1) := by decide +kernel
theorem dX10_buildsOne_125 : decode cX10_buildsOne 125 = .ok (.aload_n 0, 1) := by decide +kernel
theorem dX10_buildsOne_126 : decode cX10_buildsOne 126 = .ok (.invokevirtual 185, 3) := by decide +kernel
theorem dX10_buildsOne_129 : decode cX10_buildsOne 129 = .ok (.iastore, 1) := by decide +kernel
theorem dX10_buildsOne_130 : decode cX10_buildsOne 130 = .ok (.iload_n 1, 1) := by decide +kernel
theorem dX10_buildsOne_131 : decode cX10_buildsOne 131 = .ok (.invokestatic 172, 3) := by decide +kernel
theorem dX10_buildsOne_134 : decode cX10_buildsOne 134 = .ok (.ifCond .ne 4, 3) := by decide +kernel
theorem dX10_buildsOne_137 : decode cX10_buildsOne 137 = .ok (.return_, 1) := by decide +kernel
theorem dX10_buildsOne_138 : decode cX10_buildsOne 138 = .ok (.aload_n 0, 1) := by decide +kernel
theorem dX10_buildsOne_139 : decode cX10_buildsOne 139 = .ok (.dup, 1) := by decide +kernel
theorem dX10_buildsOne_140 : decode cX10_buildsOne 140 = .ok (.getfield 189, 3) := by decide +kernel
theorem dX10_buildsOne_143 : decode cX10_buildsOne 143 = .ok (.iconst 1, 1) := by decide +kernel
theorem dX10_buildsOne_144 : decode cX10_buildsOne 144 = .ok (.isub, 1) := by decide +kernel
theorem dX10_buildsOne_145 : decode cX10_buildsOne 145 = .ok (.putfield 189, 3) := by decide +kernel
theorem dX10_buildsOne_148 : decode cX10_buildsOne 148 = .ok (.aload_n 0, 1) := by decide +kernel
theorem dX10_buildsOne_149 : decode cX10_buildsOne 149 = .ok (.getfield 25, 3) := by decide +kernel
theorem dX10_buildsOne_152 : decode cX10_buildsOne 152 = .ok (.iload_n 2, 1) := by decide +kernel
theorem dX10_buildsOne_153 : decode cX10_buildsOne 153 = .ok (.aload_n 0, 1) := by decide +kernel
theorem dX10_buildsOne_154 : decode cX10_buildsOne 154 = .ok (.getfield 189, 3) := by decide +kernel
theorem dX10_buildsOne_157 : decode cX10_buildsOne 157 = .ok (.iastore, 1) := by decide +kernel
theorem dX10_buildsOne_158 : decode cX10_buildsOne 158 = .ok (.return_, 1) := by decide +kernel
theorem dX10_builds_0 : decode cX10_builds 0 = .ok (.aload_n 0, 1) := by decide +kernel
theorem dX10_builds_1 : decode cX10_builds 1 = .ok (.aload_n 0, 1) := by decide +kernel
theorem dX10_builds_2 : decode cX10_builds 2 = .ok (.getfield 192, 3) := by decide +kernel
theorem dX10_builds_5 : decode cX10_builds 5 = .ok (.putfield 189, 3) := by decide +kernel
theorem dX10_builds_8 : decode cX10_builds 8 = .ok (.aload_n 0, 1) := by decide +kernel
theorem dX10_builds_9 : decode cX10_builds 9 = .ok (.iconst 0, 1) := by decide +kernel
theorem dX10_builds_10 : decode cX10_builds 10 = .ok (.putfield 182, 3) := by decide +kernel
theorem dX10_builds_13 : decode cX10_builds 13 = .ok (.iconst 0, 1) := by decide +kernel
theorem dX10_builds_14 : decode cX10_builds 14 = .ok (.istore_n 1, 1) := by decide +kernel
theorem dX10_builds_15 : decode cX10_builds 15 = .ok (.aload_n 0, 1) := by decide +kernel
theorem dX10_builds_16 : decode cX10_builds 16 = .ok (.getfield 122, 3) := by decide +kernel
theorem dX10_builds_19 : decode cX10_builds 19 = .ok (.iconst 1, 1) := by decide +kernel
theorem dX10_builds_20 : decode cX10_builds 20 = .ok (.isub, 1) := by decide +kernel
theorem dX10_builds_21 : decode cX10_builds 21 = .ok (.istore_n 2, 1) := by decide +kernel
theorem dX10_builds_22 : decode cX10_builds 22 = .ok (.iload_n 2, 1) := by decide +kernel
theorem dX10_builds_23 : decode cX10_builds 23 = .ok (.ifCond .lt 71, 3) := by decide +kernel
theorem dX10_builds_26 : decode cX10_builds 26 = .ok (.aload_n 0, 1) := by decide +kernel
theorem dX10_builds_27 : decode cX10_builds 27 = .ok (.getfield 31, 3) := by decide +kernel
theorem dX10_builds_30 : decode cX10_builds 30 = .ok (.iload_n 2, 1) := by decide +kernel
theorem dX10_builds_31 : decode cX10_builds 31 = .ok (.iaload, 1) := by decide +kernel
theorem dX10_builds_32 : decode cX10_builds 32 = .ok (.istore_n 3, 1) := by decide +kernel
theorem dX10_builds_33 : decode cX10_builds 33 = .ok (.aload_n 0, 1) := by decide +kernel
theorem dX10_builds_34 : decode cX10_builds 34 = .ok (.getfield 34, 3) := by decide +kernel
theorem dX10_builds_37 : decode cX10_builds 37 = .ok (.iload_n 2, 1) := by decide +kernel
theorem dX10_builds_38 : decode cX10_builds 38 = .ok (.iaload, 1) := by decide +kernel
theorem dX10_builds_39 : decode cX10_builds 39 = .ok (.iconst 1, 1) := by decide +kernel
theorem dX10_builds_40 : decode cX10_builds 40 = .ok (.if_icmp .ne 19, 3) := by decide +kernel
theorem dX10_builds_43 : decode cX10_builds 43 = .ok (.aload_n 0, 1) := by decide +kernel
theorem dX10_builds_44 : decode cX10_builds 44 = .ok (.getfield 43, 3) := by decide +kernel
theorem dX10_builds_47 : decode cX10_builds 47 = .ok (.aload_n 0, 1) := by decide +kernel
theorem dX10_builds_48 : decode cX10_builds 48 = .ok (.getfield 182, 3) := by decide +kernel
theorem dX10_builds_51 : decode cX10_builds 51 = .ok (.iload_n 3, 1) := by decide +kernel
theorem dX10_builds_52 : decode cX10_builds 52 = .ok (.bipush 97, 2) := by decide +kernel
theorem dX10_builds_54 : decode cX10_builds 54 = .ok (.isub, 1) := by decide +kernel
theorem dX10_builds_55 : decode cX10_builds 55 = .ok (.iastore, 1) := by decide +kernel
theorem dX10_builds_56 : decode cX10_builds 56 = .ok (.goto 22, 3) := by decide +kernel
theorem dX10_builds_59 : decode cX10_builds 59 = .ok (.aload_n 0, 1) := by decide +kernel
theorem dX10_builds_60 : decode cX10_builds 60 = .ok (.iload_n 3, 1) := by decide +kernel
theorem dX10_builds_61 : decode cX10_builds 61 = .ok (.iload_n 1, 1) := by decide +kernel
theorem dX10_builds_62 : decode cX10_builds 62 = .ok (.invokevirtual 195, 3) := by decide +kernel
theorem dX10_builds_65 : decode cX10_builds 65 = .ok (.aload_n 0, 1) := by decide +kernel
theorem dX10_builds_66 : decode cX10_builds 66 = .ok (.getfield 43, 3) := by decide +kernel
theorem dX10_builds_69 : decode cX10_builds 69 = .ok (.aload_n 0, 1) := by decide +kernel
theorem dX10_builds_70 : decode cX10_builds 70 = .ok (.getfield 182, 3) := by decide +kernel
theorem dX10_builds_73 : decode cX10_builds 73 = .ok (.iload_n 1, 1) := by decide +kernel
theorem dX10_builds_74 : decode cX10_builds 74 = .ok (.iastore, 1) := by decide +kernel
theorem dX10_builds_75 : decode cX10_builds 75 = .ok (.iinc 1 1, 3) := by decide +kernel
theorem dX10_builds_78 : decode cX10_builds 78 = .ok (.aload_n 0, 1) := by decide +kernel
theorem dX10_builds_79 : decode cX10_builds 79 = .ok (.dup, 1) := by decide +kernel
theorem dX10_builds_80 : decode cX10_builds 80 = .ok (.getfield 182, 3) := by decide +kernel
theorem dX10_builds_83 : decode cX10_builds 83 = .ok (.iconst 1, 1) := by decide +kernel
theorem dX10_builds_84 : decode cX10_builds 84 = .ok (.iadd, 1) := by decide +kernel
theorem dX10_builds_85 : decode cX10_builds 85 = .ok (.putfield 182, 3) := by decide +kernel
theorem dX10_builds_88 : decode cX10_builds 88 = .ok (.iinc 2 (-1), 3) := by decide +kernel
theorem dX10_builds_91 : decode cX10_builds 91 = .ok (.goto (-69), 3) := by decide +kernel
theorem dX10_builds_94 : decode cX10_builds 94 = .ok (.aload_n 0, 1) := by decide +kernel
theorem dX10_builds_95 : decode cX10_builds 95 = .ok (.aload_n 0, 1) := by decide +kernel
theorem dX10_builds_96 : decode cX10_builds 96 = .ok (.invokevirtual 185, 3) := by decide +kernel
theorem dX10_builds_99 : decode cX10_builds 99 = .ok (.putfield 199, 3) := by decide +kernel
theorem dX10_builds_102 : decode cX10_builds 102 = .ok (.return_, 1) := by decide +kernel
theorem dX10_program_0 : decode cX10_program 0 = .ok (.aload_n 0, 1) := by decide +kernel
theorem dX10_program_1 : decode cX10_program 1 = .ok (.invokevirtual 202, 3) := by decide +kernel
theorem dX10_program_4 : decode cX10_program 4 = .ok (.istore_n 1, 1) := by decide +kernel
theorem dX10_program_5 : decode cX10_program 5 = .ok (.aload_n 0, 1) := by decide +kernel
theorem dX10_program_6 : decode cX10_program 6 = .ok (.getfield 142, 3) := by decide +kernel
theorem dX10_program_9 : decode cX10_program 9 = .ok (.istore_n 2, 1) := by decide +kernel
theorem dX10_program_10 : decode cX10_program 10 = .ok (.aload_n 0, 1) := by decide +kernel
theorem dX10_program_11 : decode cX10_program 11 = .ok (.iconst 0, 1) := by decide +kernel
theorem dX10_program_12 : decode cX10_program 12 = .ok (.putfield 142, 3) := by decide +kernel
theorem dX10_program_15 : decode cX10_program 15 = .ok (.iload_n 1, 1) := by decide +kernel
theorem dX10_program_16 : decode cX10_program 16 = .ok (.ifCond .ne 12, 3) := by decide +kernel
theorem dX10_program_19 : decode cX10_program 19 = .ok (.sipush (-1000), 3) := by decide +kernel
theorem dX10_program_22 : decode cX10_program 22 = .ok (.aload_n 0, 1) := by decide +kernel
theorem dX10_program_23 : decode cX10_program 23 = .ok (.getfield 159, 3) := by decide +kernel
theorem dX10_program_26 : decode cX10_program 26 = .ok (.isub, 1) := by decide +kernel
theorem dX10_program_27 : decode cX10_program 27 = .ok (.ireturn, 1) := by decide +kernel
theorem dX10_program_28 : decode cX10_program 28 = .ok (.aload_n 0, 1) := by decide +kernel
theorem dX10_program_29 : decode cX10_program 29 = .ok (.getfield 166, 3) := by decide +kernel
theorem dX10_program_32 : decode cX10_program 32 = .ok (.ifCond .lt 12, 3) := by decide +kernel
theorem dX10_program_35 : decode cX10_program 35 = .ok (.sipush (-2000), 3) := by decide +kernel
theorem dX10_program_38 : decode cX10_program 38 = .ok (.aload_n 0, 1) := by decide +kernel
theorem dX10_program_39 : decode cX10_program 39 = .ok (.getfield 166, 3) := by decide +kernel
theorem dX10_program_42 : decode cX10_program 42 = .ok (.isub, 1) := by decide +kernel
theorem dX10_program_43 : decode cX10_program 43 = .ok (.ireturn, 1) := by decide +kernel
theorem dX10_program_44 : decode cX10_program 44 = .ok (.iconst 0, 1) := by decide +kernel
theorem dX10_program_45 : decode cX10_program 45 = .ok (.istore_n 3, 1) := by decide +kernel
theorem dX10_program_46 : decode cX10_program 46 = .ok (.iload_n 3, 1) := by decide +kernel
theorem dX10_program_47 : decode cX10_program 47 = .ok (.iload_n 2, 1) := by decide +kernel
theorem dX10_program_48 : decode cX10_program 48 = .ok (.if_icmp .ge 33, 3) := by decide +kernel
theorem dX10_program_51 : decode cX10_program 51 = .ok (.aload_n 0, 1) := by decide +kernel
theorem dX10_program_52 : decode cX10_program 52 = .ok (.getfield 31, 3) := by decide +kernel
theorem dX10_program_55 : decode cX10_program 55 = .ok (.iload_n 3, 1) := by decide +kernel
theorem dX10_program_56 : decode cX10_program 56 = .ok (.aload_n 0, 1) := by decide +kernel
theorem dX10_program_57 : decode cX10_program 57 = .ok (.getfield 28, 3) := by decide +kernel
theorem dX10_program_60 : decode cX10_program 60 = .ok (.iload_n 3, 1) := by decide +kernel
theorem dX10_program_61 : decode cX10_program 61 = .ok (.iaload, 1) := by decide +kernel
theorem dX10_program_62 : decode cX10_program 62 = .ok (.iastore, 1) := by decide +kernel
theorem dX10_program_63 : decode cX10_program 63 = .ok (.aload_n 0, 1) := by decide +kernel
theorem dX10_program_64 : decode cX10_program 64 = .ok (.getfield 34, 3) := by decide +kernel
theorem dX10_program_67 : decode cX10_program 67 = .ok (.iload_n 3, 1) := by decide +kernel
theorem dX10_program_68 : decode cX10_program 68 = .ok (.aload_n 0, 1) := by decide +kernel
theorem dX10_program_69 : decode cX10_program 69 = .ok (.getfield 37, 3) := by decide +kernel
theorem dX10_program_72 : decode cX10_program 72 = .ok (.iload_n 3, 1) := by decide +kernel
theorem dX10_program_73 : decode cX10_program 73 = .ok (.iaload, 1) := by decide +kernel
theorem dX10_program_74 : decode cX10_program 74 = .ok (.iastore, 1) := by decide +kernel
theorem dX10_program_75 : decode cX10_program 75 = .ok (.iinc 3 1, 3) := by decide +kernel
theorem dX10_program_78 : decode cX10_program 78 = .ok (.goto (-32), 3) := by decide +kernel
theorem dX10_program_81 : decode cX10_program 81 = .ok (.aload_n 0, 1) := by decide +kernel
theorem dX10_program_82 : decode cX10_program 82 = .ok (.iload_n 2, 1) := by decide +kernel
theorem dX10_program_83 : decode cX10_program 83 = .ok (.putfield 122, 3) := by decide +kernel
theorem dX10_program_86 : decode cX10_program 86 = .ok (.aload_n 0, 1) := by decide +kernel
theorem dX10_program_87 : decode cX10_program 87 = .ok (.aload_n 0, 1) := by decide +kernel
theorem dX10_program_88 : decode cX10_program 88 = .ok (.getfield 169, 3) := by decide +kernel
theorem dX10_program_91 : decode cX10_program 91 = .ok (.putfield 125, 3) := by decide +kernel
theorem dX10_program_94 : decode cX10_program 94 = .ok (.aload_n 0, 1) := by decide +kernel
theorem dX10_program_95 : decode cX10_program 95 = .ok (.aload_n 0, 1) := by decide +kernel
theorem dX10_program_96 : decode cX10_program 96 = .ok (.getfield 175, 3) := by decide +kernel
theorem dX10_program_99 : decode cX10_program 99 = .ok (.putfield 192, 3) := by decide +kernel
theorem dX10_program_102 : decode cX10_program 102 = .ok (.aload_n 0, 1) := by decide +kernel
theorem dX10_program_103 : decode cX10_program 103 = .ok (.invokevirtual 128, 3) := by decide +kernel
theorem dX10_program_106 : decode cX10_program 106 = .ok (.iconst 0, 1) := by decide +kernel
theorem dX10_program_107 : decode cX10_program 107 = .ok (.istore_n 3, 1) := by decide +kernel
theorem dX10_program_108 : decode cX10_program 108 = .ok (.iload_n 3, 1) := by decide +kernel
theorem dX10_program_109 : decode cX10_program 109 = .ok (.bipush 10, 2) := by decide +kernel
theorem dX10_program_111 : decode cX10_program 111 = .ok (.if_icmp .ge 30, 3) := by decide +kernel
theorem dX10_program_114 : decode cX10_program 114 = .ok (.aload_n 0, 1) := by decide +kernel
theorem dX10_program_115 : decode cX10_program 115 = .ok (.getfield 49, 3) := by decide +kernel
theorem dX10_program_118 : decode cX10_program 118 = .ok (.iload_n 3, 1) := by decide +kernel
theorem dX10_program_119 : decode cX10_program 119 = .ok (.iconst 0, 1) := by decide +kernel
theorem dX10_program_120 : decode cX10_program 120 = .ok (.iastore, 1) := by decide +kernel
theorem dX10_program_121 : decode cX10_program 121 = .ok (.aload_n 0, 1) := by decide +kernel
theorem dX10_program_122 : decode cX10_program 122 = .ok (.getfield 52, 3) := by decide +kernel
theorem dX10_program_125 : decode cX10_program 125 = .ok (.iload_n 3, 1) := by decide +kernel
theorem dX10_program_126 : decode cX10_program 126 = .ok (.iconst 0, 1) := by decide +kernel
theorem dX10_program_127 : decode cX10_program 127 = .ok (.iastore, 1) := by decide +kernel
theorem dX10_program_128 : decode cX10_program 128 = .ok (.aload_n 0, 1) := by decide +kernel
theorem dX10_program_129 : decode cX10_program 129 = .ok (.getfield 55, 3) := by decide +kernel
theorem dX10_program_132 : decode cX10_program 132 = .ok (.iload_n 3, 1) := by decide +kernel
theorem dX10_program_133 : decode cX10_program 133 = .ok (.iconst 0, 1) := by decide +kernel
theorem dX10_program_134 : decode cX10_program 134 = .ok (.iastore, 1) := by decide +kernel
theorem dX10_program_135 : decode cX10_program 135 = .ok (.iinc 3 1, 3) := by decide +kernel
theorem dX10_program_138 : decode cX10_program 138 = .ok (.goto (-30), 3) := by decide +kernel
theorem dX10_program_141 : decode cX10_program 141 = .ok (.aload_n 0, 1) := by decide +kernel
theorem dX10_program_142 : decode cX10_program 142 = .ok (.bipush (-9), 2) := by decide +kernel
theorem dX10_program_144 : decode cX10_program 144 = .ok (.putfield 61, 3) := by decide +kernel
theorem dX10_program_147 : decode cX10_program 147 = .ok (.aload_n 0, 1) := by decide +kernel
theorem dX10_program_148 : decode cX10_program 148 = .ok (.iconst 0, 1) := by decide +kernel
theorem dX10_program_149 : decode cX10_program 149 = .ok (.putfield 206, 3) := by decide +kernel
theorem dX10_program_152 : decode cX10_program 152 = .ok (.aload_n 0, 1) := by decide +kernel
theorem dX10_program_153 : decode cX10_program 153 = .ok (.getfield 125, 3) := by decide +kernel
theorem dX10_program_156 : decode cX10_program 156 = .ok (.ireturn, 1) := by decide +kernel
theorem dX10_valueOf_0 : decode cX10_valueOf 0 = .ok (.aload_n 0, 1) := by decide +kernel
theorem dX10_valueOf_1 : decode cX10_valueOf 1 = .ok (.getfield 65, 3) := by decide +kernel
theorem dX10_valueOf_4 : decode cX10_valueOf 4 = .ok (.aload_n 0, 1) := by decide +kernel
theorem dX10_valueOf_5 : decode cX10_valueOf 5 = .ok (.getfield 209, 3) := by decide +kernel
theorem dX10_valueOf_8 : decode cX10_valueOf 8 = .ok (.iload_n 1, 1) := by decide +kernel
theorem dX10_valueOf_9 : decode cX10_valueOf 9 = .ok (.iastore, 1) := by decide +kernel
theorem dX10_valueOf_10 : decode cX10_valueOf 10 = .ok (.aload_n 0, 1) := by decide +kernel
theorem dX10_valueOf_11 : decode cX10_valueOf 11 = .ok (.getfield 68, 3) := by decide +kernel
theorem dX10_valueOf_14 : decode cX10_valueOf 14 = .ok (.aload_n 0, 1) := by decide +kernel
theorem dX10_valueOf_15 : decode cX10_valueOf 15 = .ok (.getfield 209, 3) := by decide +kernel
theorem dX10_valueOf_18 : decode cX10_valueOf 18 = .ok (.iload_n 2, 1) := by decide +kernel
theorem dX10_valueOf_19 : decode cX10_valueOf 19 = .ok (.iastore, 1) := by decide +kernel
theorem dX10_valueOf_20 : decode cX10_valueOf 20 = .ok (.aload_n 0, 1) := by decide +kernel
theorem dX10_valueOf_21 : decode cX10_valueOf 21 = .ok (.getfield 71, 3) := by decide +kernel
theorem dX10_valueOf_24 : decode cX10_valueOf 24 = .ok (.aload_n 0, 1) := by decide +kernel
theorem dX10_valueOf_25 : decode cX10_valueOf 25 = .ok (.getfield 209, 3) := by decide +kernel
theorem dX10_valueOf_28 : decode cX10_valueOf 28 = .ok (.iload_n 3, 1) := by decide +kernel
theorem dX10_valueOf_29 : decode cX10_valueOf 29 = .ok (.iastore, 1) := by decide +kernel
theorem dX10_valueOf_30 : decode cX10_valueOf 30 = .ok (.aload_n 0, 1) := by decide +kernel
theorem dX10_valueOf_31 : decode cX10_valueOf 31 = .ok (.getfield 74, 3) := by decide +kernel
theorem dX10_valueOf_34 : decode cX10_valueOf 34 = .ok (.aload_n 0, 1) := by decide +kernel
theorem dX10_valueOf_35 : decode cX10_valueOf 35 = .ok (.getfield 209, 3) := by decide +kernel
theorem dX10_valueOf_38 : decode cX10_valueOf 38 = .ok (.iload 4, 2) := by decide +kernel
theorem dX10_valueOf_40 : decode cX10_valueOf 40 = .ok (.iastore, 1) := by decide +kernel
theorem dX10_valueOf_41 : decode cX10_valueOf 41 = .ok (.aload_n 0, 1) := by decide +kernel
theorem dX10_valueOf_42 : decode cX10_valueOf 42 = .ok (.dup, 1) := by decide +kernel
theorem dX10_valueOf_43 : decode cX10_valueOf 43 = .ok (.getfield 209, 3) := by decide +kernel
theorem dX10_valueOf_46 : decode cX10_valueOf 46 = .ok (.iconst 1, 1) := by decide +kernel
theorem dX10_valueOf_47 : decode cX10_valueOf 47 = .ok (.iadd, 1) := by decide +kernel
theorem dX10_valueOf_48 : decode cX10_valueOf 48 = .ok (.putfield 209, 3) := by decide +kernel
theorem dX10_valueOf_51 : decode cX10_valueOf 51 = .ok (.aload_n 0, 1) := by decide +kernel
theorem dX10_valueOf_52 : decode cX10_valueOf 52 = .ok (.getfield 209, 3) := by decide +kernel
theorem dX10_valueOf_55 : decode cX10_valueOf 55 = .ok (.iconst 1, 1) := by decide +kernel
theorem dX10_valueOf_56 : decode cX10_valueOf 56 = .ok (.isub, 1) := by decide +kernel
theorem dX10_valueOf_57 : decode cX10_valueOf 57 = .ok (.ireturn, 1) := by decide +kernel
theorem dX10_frameWith_0 : decode cX10_frameWith 0 = .ok (.aload_n 0, 1) := by decide +kernel
theorem dX10_frameWith_1 : decode cX10_frameWith 1 = .ok (.getfield 77, 3) := by decide +kernel
theorem dX10_frameWith_4 : decode cX10_frameWith 4 = .ok (.aload_n 0, 1) := by decide +kernel
theorem dX10_frameWith_5 : decode cX10_frameWith 5 = .ok (.getfield 212, 3) := by decide +kernel
theorem dX10_frameWith_8 : decode cX10_frameWith 8 = .ok (.iload_n 2, 1) := by decide +kernel
theorem dX10_frameWith_9 : decode cX10_frameWith 9 = .ok (.iastore, 1) := by decide +kernel
theorem dX10_frameWith_10 : decode cX10_frameWith 10 = .ok (.aload_n 0, 1) := by decide +kernel
theorem dX10_frameWith_11 : decode cX10_frameWith 11 = .ok (.getfield 80, 3) := by decide +kernel
theorem dX10_frameWith_14 : decode cX10_frameWith 14 = .ok (.aload_n 0, 1) := by decide +kernel
theorem dX10_frameWith_15 : decode cX10_frameWith 15 = .ok (.getfield 215, 3) := by decide +kernel
theorem dX10_frameWith_18 : decode cX10_frameWith 18 = .ok (.iload_n 1, 1) := by decide +kernel
theorem dX10_frameWith_19 : decode cX10_frameWith 19 = .ok (.iastore, 1) := by decide +kernel
theorem dX10_frameWith_20 : decode cX10_frameWith 20 = .ok (.aload_n 0, 1) := by decide +kernel
theorem dX10_frameWith_21 : decode cX10_frameWith 21 = .ok (.getfield 83, 3) := by decide +kernel
theorem dX10_frameWith_24 : decode cX10_frameWith 24 = .ok (.aload_n 0, 1) := by decide +kernel
theorem dX10_frameWith_25 : decode cX10_frameWith 25 = .ok (.getfield 215, 3) := by decide +kernel
theorem dX10_frameWith_28 : decode cX10_frameWith 28 = .ok (.aload_n 0, 1) := by decide +kernel
theorem dX10_frameWith_29 : decode cX10_frameWith 29 = .ok (.getfield 212, 3) := by decide +kernel
theorem dX10_frameWith_32 : decode cX10_frameWith 32 = .ok (.iastore, 1) := by decide +kernel
theorem dX10_frameWith_33 : decode cX10_frameWith 33 = .ok (.aload_n 0, 1) := by decide +kernel
theorem dX10_frameWith_34 : decode cX10_frameWith 34 = .ok (.getfield 86, 3) := by decide +kernel
theorem dX10_frameWith_37 : decode cX10_frameWith 37 = .ok (.aload_n 0, 1) := by decide +kernel
theorem dX10_frameWith_38 : decode cX10_frameWith 38 = .ok (.getfield 215, 3) := by decide +kernel
theorem dX10_frameWith_41 : decode cX10_frameWith 41 = .ok (.iload_n 3, 1) := by decide +kernel
theorem dX10_frameWith_42 : decode cX10_frameWith 42 = .ok (.iastore, 1) := by decide +kernel
theorem dX10_frameWith_43 : decode cX10_frameWith 43 = .ok (.aload_n 0, 1) := by decide +kernel
theorem dX10_frameWith_44 : decode cX10_frameWith 44 = .ok (.dup, 1) := by decide +kernel
theorem dX10_frameWith_45 : decode cX10_frameWith 45 = .ok (.getfield 212, 3) := by decide +kernel
theorem dX10_frameWith_48 : decode cX10_frameWith 48 = .ok (.iconst 1, 1) := by decide +kernel
theorem dX10_frameWith_49 : decode cX10_frameWith 49 = .ok (.iadd, 1) := by decide +kernel
theorem dX10_frameWith_50 : decode cX10_frameWith 50 = .ok (.putfield 212, 3) := by decide +kernel
theorem dX10_frameWith_53 : decode cX10_frameWith 53 = .ok (.aload_n 0, 1) := by decide +kernel
theorem dX10_frameWith_54 : decode cX10_frameWith 54 = .ok (.dup, 1) := by decide +kernel
theorem dX10_frameWith_55 : decode cX10_frameWith 55 = .ok (.getfield 215, 3) := by decide +kernel
theorem dX10_frameWith_58 : decode cX10_frameWith 58 = .ok (.iconst 1, 1) := by decide +kernel
theorem dX10_frameWith_59 : decode cX10_frameWith 59 = .ok (.iadd, 1) := by decide +kernel
theorem dX10_frameWith_60 : decode cX10_frameWith 60 = .ok (.putfield 215, 3) := by decide +kernel
theorem dX10_frameWith_63 : decode cX10_frameWith 63 = .ok (.aload_n 0, 1) := by decide +kernel
theorem dX10_frameWith_64 : decode cX10_frameWith 64 = .ok (.getfield 215, 3) := by decide +kernel
theorem dX10_frameWith_67 : decode cX10_frameWith 67 = .ok (.iconst 1, 1) := by decide +kernel
theorem dX10_frameWith_68 : decode cX10_frameWith 68 = .ok (.isub, 1) := by decide +kernel
theorem dX10_frameWith_69 : decode cX10_frameWith 69 = .ok (.ireturn, 1) := by decide +kernel
theorem dX10_cellOf_0 : decode cX10_cellOf 0 = .ok (.iload_n 2, 1) := by decide +kernel
theorem dX10_cellOf_1 : decode cX10_cellOf 1 = .ok (.istore_n 3, 1) := by decide +kernel
theorem dX10_cellOf_2 : decode cX10_cellOf 2 = .ok (.iload_n 3, 1) := by decide +kernel
theorem dX10_cellOf_3 : decode cX10_cellOf 3 = .ok (.ifCond .le 23, 3) := by decide +kernel
theorem dX10_cellOf_6 : decode cX10_cellOf 6 = .ok (.aload_n 0, 1) := by decide +kernel
theorem dX10_cellOf_7 : decode cX10_cellOf 7 = .ok (.getfield 80, 3) := by decide +kernel
theorem dX10_cellOf_10 : decode cX10_cellOf 10 = .ok (.iload_n 3, 1) := by decide +kernel
theorem dX10_cellOf_11 : decode cX10_cellOf 11 = .ok (.iaload, 1) := by decide +kernel
theorem dX10_cellOf_12 : decode cX10_cellOf 12 = .ok (.iload_n 1, 1) := by decide +kernel
theorem dX10_cellOf_13 : decode cX10_cellOf 13 = .ok (.if_icmp .eq 13, 3) := by decide +kernel
theorem dX10_cellOf_16 : decode cX10_cellOf 16 = .ok (.aload_n 0, 1) := by decide +kernel
theorem dX10_cellOf_17 : decode cX10_cellOf 17 = .ok (.getfield 86, 3) := by decide +kernel
theorem dX10_cellOf_20 : decode cX10_cellOf 20 = .ok (.iload_n 3, 1) := by decide +kernel
theorem dX10_cellOf_21 : decode cX10_cellOf 21 = .ok (.iaload, 1) := by decide +kernel
theorem dX10_cellOf_22 : decode cX10_cellOf 22 = .ok (.istore_n 3, 1) := by decide +kernel
theorem dX10_cellOf_23 : decode cX10_cellOf 23 = .ok (.goto (-21), 3) := by decide +kernel
theorem dX10_cellOf_26 : decode cX10_cellOf 26 = .ok (.iload_n 3, 1) := by decide +kernel
theorem dX10_cellOf_27 : decode cX10_cellOf 27 = .ok (.ifCond .le 12, 3) := by decide +kernel
theorem dX10_cellOf_30 : decode cX10_cellOf 30 = .ok (.aload_n 0, 1) := by decide +kernel
theorem dX10_cellOf_31 : decode cX10_cellOf 31 = .ok (.getfield 83, 3) := by decide +kernel
theorem dX10_cellOf_34 : decode cX10_cellOf 34 = .ok (.iload_n 3, 1) := by decide +kernel
theorem dX10_cellOf_35 : decode cX10_cellOf 35 = .ok (.iaload, 1) := by decide +kernel
theorem dX10_cellOf_36 : decode cX10_cellOf 36 = .ok (.goto 5, 3) := by decide +kernel
theorem dX10_cellOf_39 : decode cX10_cellOf 39 = .ok (.bipush (-9), 2) := by decide +kernel
theorem dX10_cellOf_41 : decode cX10_cellOf 41 = .ok (.ireturn, 1) := by decide +kernel
theorem dX10_faultOf_0 : decode cX10_faultOf 0 = .ok (.aload_n 0, 1) := by decide +kernel
theorem dX10_faultOf_1 : decode cX10_faultOf 1 = .ok (.getfield 89, 3) := by decide +kernel
theorem dX10_faultOf_4 : decode cX10_faultOf 4 = .ok (.aload_n 0, 1) := by decide +kernel
theorem dX10_faultOf_5 : decode cX10_faultOf 5 = .ok (.getfield 218, 3) := by decide +kernel
theorem dX10_faultOf_8 : decode cX10_faultOf 8 = .ok (.iload_n 1, 1) := by decide +kernel
theorem dX10_faultOf_9 : decode cX10_faultOf 9 = .ok (.iastore, 1) := by decide +kernel
theorem dX10_faultOf_10 : decode cX10_faultOf 10 = .ok (.aload_n 0, 1) := by decide +kernel
theorem dX10_faultOf_11 : decode cX10_faultOf 11 = .ok (.getfield 92, 3) := by decide +kernel
theorem dX10_faultOf_14 : decode cX10_faultOf 14 = .ok (.aload_n 0, 1) := by decide +kernel
theorem dX10_faultOf_15 : decode cX10_faultOf 15 = .ok (.getfield 218, 3) := by decide +kernel
theorem dX10_faultOf_18 : decode cX10_faultOf 18 = .ok (.iload_n 2, 1) := by decide +kernel
theorem dX10_faultOf_19 : decode cX10_faultOf 19 = .ok (.iastore, 1) := by decide +kernel
theorem dX10_faultOf_20 : decode cX10_faultOf 20 = .ok (.aload_n 0, 1) := by decide +kernel
theorem dX10_faultOf_21 : decode cX10_faultOf 21 = .ok (.dup, 1) := by decide +kernel
theorem dX10_faultOf_22 : decode cX10_faultOf 22 = .ok (.getfield 218, 3) := by decide +kernel
theorem dX10_faultOf_25 : decode cX10_faultOf 25 = .ok (.iconst 1, 1) := by decide +kernel
theorem dX10_faultOf_26 : decode cX10_faultOf 26 = .ok (.iadd, 1) := by decide +kernel
theorem dX10_faultOf_27 : decode cX10_faultOf 27 = .ok (.putfield 218, 3) := by decide +kernel
theorem dX10_faultOf_30 : decode cX10_faultOf 30 = .ok (.aload_n 0, 1) := by decide +kernel
theorem dX10_faultOf_31 : decode cX10_faultOf 31 = .ok (.getfield 218, 3) := by decide +kernel
theorem dX10_faultOf_34 : decode cX10_faultOf 34 = .ok (.iconst 1, 1) := by decide +kernel
theorem dX10_faultOf_35 : decode cX10_faultOf 35 = .ok (.isub, 1) := by decide +kernel
theorem dX10_faultOf_36 : decode cX10_faultOf 36 = .ok (.ireturn, 1) := by decide +kernel
theorem dX10_makes_0 : decode cX10_makes 0 = .ok (.aload_n 0, 1) := by decide +kernel
theorem dX10_makes_1 : decode cX10_makes 1 = .ok (.iconst 0, 1) := by decide +kernel
theorem dX10_makes_2 : decode cX10_makes 2 = .ok (.putfield 221, 3) := by decide +kernel
theorem dX10_makes_5 : decode cX10_makes 5 = .ok (.aload_n 0, 1) := by decide +kernel
theorem dX10_makes_6 : decode cX10_makes 6 = .ok (.iload_n 1, 1) := by decide +kernel
theorem dX10_makes_7 : decode cX10_makes 7 = .ok (.putfield 224, 3) := by decide +kernel
theorem dX10_makes_10 : decode cX10_makes 10 = .ok (.aload_n 0, 1) := by decide +kernel
theorem dX10_makes_11 : decode cX10_makes 11 = .ok (.iload_n 2, 1) := by decide +kernel
theorem dX10_makes_12 : decode cX10_makes 12 = .ok (.putfield 227, 3) := by decide +kernel
theorem dX10_makes_15 : decode cX10_makes 15 = .ok (.aload_n 0, 1) := by decide +kernel
theorem dX10_makes_16 : decode cX10_makes 16 = .ok (.iload_n 3, 1) := by decide +kernel
theorem dX10_makes_17 : decode cX10_makes 17 = .ok (.putfield 230, 3) := by decide +kernel
theorem dX10_makes_20 : decode cX10_makes 20 = .ok (.return_, 1) := by decide +kernel
theorem dX10_has_0 : decode cX10_has 0 = .ok (.aload_n 0, 1) := by decide +kernel
theorem dX10_has_1 : decode cX10_has 1 = .ok (.iconst 1, 1) := by decide +kernel
theorem dX10_has_2 : decode cX10_has 2 = .ok (.putfield 221, 3) := by decide +kernel
theorem dX10_has_5 : decode cX10_has 5 = .ok (.aload_n 0, 1) := by decide +kernel
theorem dX10_has_6 : decode cX10_has 6 = .ok (.iload_n 1, 1) := by decide +kernel
theorem dX10_has_7 : decode cX10_has 7 = .ok (.putfield 233, 3) := by decide +kernel
theorem dX10_has_10 : decode cX10_has 10 = .ok (.return_, 1) := by decide +kernel
theorem dX10_fails_0 : decode cX10_fails 0 = .ok (.aload_n 0, 1) := by decide +kernel
theorem dX10_fails_1 : decode cX10_fails 1 = .ok (.iconst 2, 1) := by decide +kernel
theorem dX10_fails_2 : decode cX10_fails 2 = .ok (.putfield 221, 3) := by decide +kernel
theorem dX10_fails_5 : decode cX10_fails 5 = .ok (.aload_n 0, 1) := by decide +kernel
theorem dX10_fails_6 : decode cX10_fails 6 = .ok (.aload_n 0, 1) := by decide +kernel
theorem dX10_fails_7 : decode cX10_fails 7 = .ok (.iload_n 1, 1) := by decide +kernel
theorem dX10_fails_8 : decode cX10_fails 8 = .ok (.bipush (-9), 2) := by decide +kernel
theorem dX10_fails_10 : decode cX10_fails 10 = .ok (.invokevirtual 236, 3) := by decide +kernel
theorem dX10_fails_13 : decode cX10_fails 13 = .ok (.putfield 240, 3) := by decide +kernel
theorem dX10_fails_16 : decode cX10_fails 16 = .ok (.return_, 1) := by decide +kernel
theorem dX10_waitsFor_0 : decode cX10_waitsFor 0 = .ok (.aload_n 0, 1) := by decide +kernel
theorem dX10_waitsFor_1 : decode cX10_waitsFor 1 = .ok (.getfield 95, 3) := by decide +kernel
theorem dX10_waitsFor_4 : decode cX10_waitsFor 4 = .ok (.aload_n 0, 1) := by decide +kernel
theorem dX10_waitsFor_5 : decode cX10_waitsFor 5 = .ok (.getfield 243, 3) := by decide +kernel
theorem dX10_waitsFor_8 : decode cX10_waitsFor 8 = .ok (.iload_n 1, 1) := by decide +kernel
theorem dX10_waitsFor_9 : decode cX10_waitsFor 9 = .ok (.iastore, 1) := by decide +kernel
theorem dX10_waitsFor_10 : decode cX10_waitsFor 10 = .ok (.aload_n 0, 1) := by decide +kernel
theorem dX10_waitsFor_11 : decode cX10_waitsFor 11 = .ok (.getfield 98, 3) := by decide +kernel
theorem dX10_waitsFor_14 : decode cX10_waitsFor 14 = .ok (.aload_n 0, 1) := by decide +kernel
theorem dX10_waitsFor_15 : decode cX10_waitsFor 15 = .ok (.getfield 243, 3) := by decide +kernel
theorem dX10_waitsFor_18 : decode cX10_waitsFor 18 = .ok (.iconst 0, 1) := by decide +kernel
theorem dX10_waitsFor_19 : decode cX10_waitsFor 19 = .ok (.iastore, 1) := by decide +kernel
theorem dX10_waitsFor_20 : decode cX10_waitsFor 20 = .ok (.aload_n 0, 1) := by decide +kernel
theorem dX10_waitsFor_21 : decode cX10_waitsFor 21 = .ok (.getfield 101, 3) := by decide +kernel
theorem dX10_waitsFor_24 : decode cX10_waitsFor 24 = .ok (.aload_n 0, 1) := by decide +kernel
theorem dX10_waitsFor_25 : decode cX10_waitsFor 25 = .ok (.getfield 243, 3) := by decide +kernel
theorem dX10_waitsFor_28 : decode cX10_waitsFor 28 = .ok (.aload_n 0, 1) := by decide +kernel
theorem dX10_waitsFor_29 : decode cX10_waitsFor 29 = .ok (.getfield 227, 3) := by decide +kernel
theorem dX10_waitsFor_32 : decode cX10_waitsFor 32 = .ok (.iastore, 1) := by decide +kernel
theorem dX10_waitsFor_33 : decode cX10_waitsFor 33 = .ok (.aload_n 0, 1) := by decide +kernel
theorem dX10_waitsFor_34 : decode cX10_waitsFor 34 = .ok (.getfield 104, 3) := by decide +kernel
theorem dX10_waitsFor_37 : decode cX10_waitsFor 37 = .ok (.aload_n 0, 1) := by decide +kernel
theorem dX10_waitsFor_38 : decode cX10_waitsFor 38 = .ok (.getfield 243, 3) := by decide +kernel
theorem dX10_waitsFor_41 : decode cX10_waitsFor 41 = .ok (.aload_n 0, 1) := by decide +kernel
theorem dX10_waitsFor_42 : decode cX10_waitsFor 42 = .ok (.getfield 230, 3) := by decide +kernel
theorem dX10_waitsFor_45 : decode cX10_waitsFor 45 = .ok (.iastore, 1) := by decide +kernel
theorem dX10_waitsFor_46 : decode cX10_waitsFor 46 = .ok (.aload_n 0, 1) := by decide +kernel
theorem dX10_waitsFor_47 : decode cX10_waitsFor 47 = .ok (.dup, 1) := by decide +kernel
theorem dX10_waitsFor_48 : decode cX10_waitsFor 48 = .ok (.getfield 243, 3) := by decide +kernel
theorem dX10_waitsFor_51 : decode cX10_waitsFor 51 = .ok (.iconst 1, 1) := by decide +kernel
theorem dX10_waitsFor_52 : decode cX10_waitsFor 52 = .ok (.iadd, 1) := by decide +kernel
theorem dX10_waitsFor_53 : decode cX10_waitsFor 53 = .ok (.putfield 243, 3) := by decide +kernel
theorem dX10_waitsFor_56 : decode cX10_waitsFor 56 = .ok (.return_, 1) := by decide +kernel
theorem dX10_looksUp_0 : decode cX10_looksUp 0 = .ok (.aload_n 0, 1) := by decide +kernel
theorem dX10_looksUp_1 : decode cX10_looksUp 1 = .ok (.iload_n 1, 1) := by decide +kernel
theorem dX10_looksUp_2 : decode cX10_looksUp 2 = .ok (.aload_n 0, 1) := by decide +kernel
theorem dX10_looksUp_3 : decode cX10_looksUp 3 = .ok (.getfield 227, 3) := by decide +kernel
theorem dX10_looksUp_6 : decode cX10_looksUp 6 = .ok (.invokevirtual 246, 3) := by decide +kernel
theorem dX10_looksUp_9 : decode cX10_looksUp 9 = .ok (.istore_n 2, 1) := by decide +kernel
theorem dX10_looksUp_10 : decode cX10_looksUp 10 = .ok (.aload_n 0, 1) := by decide +kernel
theorem dX10_looksUp_11 : decode cX10_looksUp 11 = .ok (.iload_n 2, 1) := by decide +kernel
theorem dX10_looksUp_12 : decode cX10_looksUp 12 = .ok (.ifCond .ge 19, 3) := by decide +kernel
theorem dX10_looksUp_15 : decode cX10_looksUp 15 = .ok (.aload_n 0, 1) := by decide +kernel
theorem dX10_looksUp_16 : decode cX10_looksUp 16 = .ok (.iconst 0, 1) := by decide +kernel
theorem dX10_looksUp_17 : decode cX10_looksUp 17 = .ok (.aload_n 0, 1) := by decide +kernel
theorem dX10_looksUp_18 : decode cX10_looksUp 18 = .ok (.getfield 46, 3) := by decide +kernel
theorem dX10_looksUp_21 : decode cX10_looksUp 21 = .ok (.iload_n 1, 1) := by decide +kernel
theorem dX10_looksUp_22 : decode cX10_looksUp 22 = .ok (.iaload, 1) := by decide +kernel
theorem dX10_looksUp_23 : decode cX10_looksUp 23 = .ok (.iconst 0, 1) := by decide +kernel
theorem dX10_looksUp_24 : decode cX10_looksUp 24 = .ok (.iconst 0, 1) := by decide +kernel
theorem dX10_looksUp_25 : decode cX10_looksUp 25 = .ok (.invokevirtual 249, 3) := by decide +kernel
theorem dX10_looksUp_28 : decode cX10_looksUp 28 = .ok (.goto 9, 3) := by decide +kernel
theorem dX10_looksUp_31 : decode cX10_looksUp 31 = .ok (.aload_n 0, 1) := by decide +kernel
theorem dX10_looksUp_32 : decode cX10_looksUp 32 = .ok (.getfield 77, 3) := by decide +kernel
theorem dX10_looksUp_35 : decode cX10_looksUp 35 = .ok (.iload_n 2, 1) := by decide +kernel
theorem dX10_looksUp_36 : decode cX10_looksUp 36 = .ok (.iaload, 1) := by decide +kernel
theorem dX10_looksUp_37 : decode cX10_looksUp 37 = .ok (.invokevirtual 253, 3) := by decide +kernel
theorem dX10_looksUp_40 : decode cX10_looksUp 40 = .ok (.return_, 1) := by decide +kernel
theorem dX10_begins_0 : decode cX10_begins 0 = .ok (.aload_n 0, 1) := by decide +kernel
theorem dX10_begins_1 : decode cX10_begins 1 = .ok (.getfield 256, 3) := by decide +kernel
theorem dX10_begins_4 : decode cX10_begins 4 = .ok (.sipush 400, 3) := by decide +kernel
theorem dX10_begins_7 : decode cX10_begins 7 = .ok (.if_icmp .ne 10, 3) := by decide +kernel
theorem dX10_begins_10 : decode cX10_begins 10 = .ok (.aload_n 0, 1) := by decide +kernel
theorem dX10_begins_11 : decode cX10_begins 11 = .ok (.bipush 6, 2) := by decide +kernel
theorem dX10_begins_13 : decode cX10_begins 13 = .ok (.invokevirtual 259, 3) := by decide +kernel
theorem dX10_begins_16 : decode cX10_begins 16 = .ok (.return_, 1) := by decide +kernel
theorem dX10_begins_17 : decode cX10_begins 17 = .ok (.aload_n 0, 1) := by decide +kernel
theorem dX10_begins_18 : decode cX10_begins 18 = .ok (.dup, 1) := by decide +kernel
theorem dX10_begins_19 : decode cX10_begins 19 = .ok (.getfield 256, 3) := by decide +kernel
theorem dX10_begins_22 : decode cX10_begins 22 = .ok (.iconst 1, 1) := by decide +kernel
theorem dX10_begins_23 : decode cX10_begins 23 = .ok (.iadd, 1) := by decide +kernel
theorem dX10_begins_24 : decode cX10_begins 24 = .ok (.putfield 256, 3) := by decide +kernel
theorem dX10_begins_27 : decode cX10_begins 27 = .ok (.aload_n 0, 1) := by decide +kernel
theorem dX10_begins_28 : decode cX10_begins 28 = .ok (.getfield 224, 3) := by decide +kernel
theorem dX10_begins_31 : decode cX10_begins 31 = .ok (.istore_n 1, 1) := by decide +kernel
theorem dX10_begins_32 : decode cX10_begins 32 = .ok (.aload_n 0, 1) := by decide +kernel
theorem dX10_begins_33 : decode cX10_begins 33 = .ok (.getfield 13, 3) := by decide +kernel
theorem dX10_begins_36 : decode cX10_begins 36 = .ok (.iload_n 1, 1) := by decide +kernel
theorem dX10_begins_37 : decode cX10_begins 37 = .ok (.iaload, 1) := by decide +kernel
theorem dX10_begins_38 : decode cX10_begins 38 = .ok (.istore_n 2, 1) := by decide +kernel
theorem dX10_begins_39 : decode cX10_begins 39 = .ok (.iload_n 2, 1) := by decide +kernel
theorem dX10_begins_40 : decode cX10_begins 40 = .ok (.bipush 48, 2) := by decide +kernel
theorem dX10_begins_42 : decode cX10_begins 42 = .ok (.bipush 57, 2) := by decide +kernel
theorem dX10_begins_44 : decode cX10_begins 44 = .ok (.invokestatic 134, 3) := by decide +kernel
theorem dX10_begins_47 : decode cX10_begins 47 = .ok (.ifCond .eq 21, 3) := by decide +kernel
theorem dX10_begins_50 : decode cX10_begins 50 = .ok (.aload_n 0, 1) := by decide +kernel
theorem dX10_begins_51 : decode cX10_begins 51 = .ok (.aload_n 0, 1) := by decide +kernel
theorem dX10_begins_52 : decode cX10_begins 52 = .ok (.iconst 0, 1) := by decide +kernel
theorem dX10_begins_53 : decode cX10_begins 53 = .ok (.iload_n 2, 1) := by decide +kernel
theorem dX10_begins_54 : decode cX10_begins 54 = .ok (.bipush 48, 2) := by decide +kernel
theorem dX10_begins_56 : decode cX10_begins 56 = .ok (.isub, 1) := by decide +kernel
theorem dX10_begins_57 : decode cX10_begins 57 = .ok (.iconst 0, 1) := by decide +kernel
theorem dX10_begins_58 : decode cX10_begins 58 = .ok (.iconst 0, 1) := by decide +kernel
theorem dX10_begins_59 : decode cX10_begins 59 = .ok (.invokevirtual 249, 3) := by decide +kernel
theorem dX10_begins_62 : decode cX10_begins 62 = .ok (.invokevirtual 253, 3) := by decide +kernel
theorem dX10_begins_65 : decode cX10_begins 65 = .ok (.goto 79, 3) := by decide +kernel
theorem dX10_begins_68 : decode cX10_begins 68 = .ok (.iload_n 2, 1) := by decide +kernel
theorem dX10_begins_69 : decode cX10_begins 69 = .ok (.bipush 97, 2) := by decide +kernel
theorem dX10_begins_71 : decode cX10_begins 71 = .ok (.bipush 102, 2) := by decide +kernel
theorem dX10_begins_73 : decode cX10_begins 73 = .ok (.invokestatic 134, 3) := by decide +kernel
theorem dX10_begins_76 : decode cX10_begins 76 = .ok (.ifCond .eq 14, 3) := by decide +kernel
theorem dX10_begins_79 : decode cX10_begins 79 = .ok (.aload_n 0, 1) := by decide +kernel
theorem dX10_begins_80 : decode cX10_begins 80 = .ok (.iload_n 2, 1) := by decide +kernel
theorem dX10_begins_81 : decode cX10_begins 81 = .ok (.bipush 97, 2) := by decide +kernel
theorem dX10_begins_83 : decode cX10_begins 83 = .ok (.isub, 1) := by decide +kernel
theorem dX10_begins_84 : decode cX10_begins 84 = .ok (.invokevirtual 262, 3) := by decide +kernel
theorem dX10_begins_87 : decode cX10_begins 87 = .ok (.goto 57, 3) := by decide +kernel
theorem dX10_begins_90 : decode cX10_begins 90 = .ok (.iload_n 2, 1) := by decide +kernel
theorem dX10_begins_91 : decode cX10_begins 91 = .ok (.bipush 70, 2) := by decide +kernel
theorem dX10_begins_93 : decode cX10_begins 93 = .ok (.if_icmp .ne 31, 3) := by decide +kernel
theorem dX10_begins_96 : decode cX10_begins 96 = .ok (.aload_n 0, 1) := by decide +kernel
theorem dX10_begins_97 : decode cX10_begins 97 = .ok (.aload_n 0, 1) := by decide +kernel
theorem dX10_begins_98 : decode cX10_begins 98 = .ok (.iconst 1, 1) := by decide +kernel
theorem dX10_begins_99 : decode cX10_begins 99 = .ok (.aload_n 0, 1) := by decide +kernel
theorem dX10_begins_100 : decode cX10_begins 100 = .ok (.getfield 25, 3) := by decide +kernel
theorem dX10_begins_103 : decode cX10_begins 103 = .ok (.iload_n 1, 1) := by decide +kernel
theorem dX10_begins_104 : decode cX10_begins 104 = .ok (.iaload, 1) := by decide +kernel
theorem dX10_begins_105 : decode cX10_begins 105 = .ok (.aload_n 0, 1) := by decide +kernel
theorem dX10_begins_106 : decode cX10_begins 106 = .ok (.getfield 16, 3) := by decide +kernel
theorem dX10_begins_109 : decode cX10_begins 109 = .ok (.iload_n 1, 1) := by decide +kernel
theorem dX10_begins_110 : decode cX10_begins 110 = .ok (.iaload, 1) := by decide +kernel
theorem dX10_begins_111 : decode cX10_begins 111 = .ok (.aload_n 0, 1) := by decide +kernel
theorem dX10_begins_112 : decode cX10_begins 112 = .ok (.getfield 227, 3) := by decide +kernel
theorem dX10_begins_115 : decode cX10_begins 115 = .ok (.invokevirtual 249, 3) := by decide +kernel
theorem dX10_begins_118 : decode cX10_begins 118 = .ok (.invokevirtual 253, 3) := by decide +kernel
theorem dX10_begins_121 : decode cX10_begins 121 = .ok (.goto 23, 3) := by decide +kernel
theorem dX10_begins_124 : decode cX10_begins 124 = .ok (.aload_n 0, 1) := by decide +kernel
theorem dX10_begins_125 : decode cX10_begins 125 = .ok (.iload_n 1, 1) := by decide +kernel
theorem dX10_begins_126 : decode cX10_begins 126 = .ok (.invokevirtual 265, 3) := by decide +kernel
theorem dX10_begins_129 : decode cX10_begins 129 = .ok (.aload_n 0, 1) := by decide +kernel
theorem dX10_begins_130 : decode cX10_begins 130 = .ok (.aload_n 0, 1) := by decide +kernel
theorem dX10_begins_131 : decode cX10_begins 131 = .ok (.getfield 16, 3) := by decide +kernel
theorem dX10_begins_134 : decode cX10_begins 134 = .ok (.iload_n 1, 1) := by decide +kernel
theorem dX10_begins_135 : decode cX10_begins 135 = .ok (.iaload, 1) := by decide +kernel
theorem dX10_begins_136 : decode cX10_begins 136 = .ok (.aload_n 0, 1) := by decide +kernel
theorem dX10_begins_137 : decode cX10_begins 137 = .ok (.getfield 227, 3) := by decide +kernel
theorem dX10_begins_140 : decode cX10_begins 140 = .ok (.iconst 0, 1) := by decide +kernel
theorem dX10_begins_141 : decode cX10_begins 141 = .ok (.invokevirtual 268, 3) := by decide +kernel
theorem dX10_begins_144 : decode cX10_begins 144 = .ok (.return_, 1) := by decide +kernel
theorem dX10_reckons_0 : decode cX10_reckons 0 = .ok (.aload_n 0, 1) := by decide +kernel
theorem dX10_reckons_1 : decode cX10_reckons 1 = .ok (.getfield 65, 3) := by decide +kernel
theorem dX10_reckons_4 : decode cX10_reckons 4 = .ok (.iload_n 2, 1) := by decide +kernel
theorem dX10_reckons_5 : decode cX10_reckons 5 = .ok (.iaload, 1) := by decide +kernel
theorem dX10_reckons_6 : decode cX10_reckons 6 = .ok (.ifCond .ne 12, 3) := by decide +kernel
theorem dX10_reckons_9 : decode cX10_reckons 9 = .ok (.aload_n 0, 1) := by decide +kernel
theorem dX10_reckons_10 : decode cX10_reckons 10 = .ok (.getfield 65, 3) := by decide +kernel
theorem dX10_reckons_13 : decode cX10_reckons 13 = .ok (.iload_n 3, 1) := by decide +kernel
theorem dX10_reckons_14 : decode cX10_reckons 14 = .ok (.iaload, 1) := by decide +kernel
theorem dX10_reckons_15 : decode cX10_reckons 15 = .ok (.ifCond .eq 9, 3) := by decide +kernel
theorem dX10_reckons_18 : decode cX10_reckons 18 = .ok (.aload_n 0, 1) := by decide +kernel
theorem dX10_reckons_19 : decode cX10_reckons 19 = .ok (.iconst 1, 1) := by decide +kernel
theorem dX10_reckons_20 : decode cX10_reckons 20 = .ok (.invokevirtual 259, 3) := by decide +kernel
theorem dX10_reckons_23 : decode cX10_reckons 23 = .ok (.return_, 1) := by decide +kernel
theorem dX10_reckons_24 : decode cX10_reckons 24 = .ok (.aload_n 0, 1) := by decide +kernel
theorem dX10_reckons_25 : decode cX10_reckons 25 = .ok (.getfield 68, 3) := by decide +kernel
theorem dX10_reckons_28 : decode cX10_reckons 28 = .ok (.iload_n 2, 1) := by decide +kernel
theorem dX10_reckons_29 : decode cX10_reckons 29 = .ok (.iaload, 1) := by decide +kernel
theorem dX10_reckons_30 : decode cX10_reckons 30 = .ok (.istore 4, 2) := by decide +kernel
theorem dX10_reckons_32 : decode cX10_reckons 32 = .ok (.aload_n 0, 1) := by decide +kernel
theorem dX10_reckons_33 : decode cX10_reckons 33 = .ok (.getfield 68, 3) := by decide +kernel
theorem dX10_reckons_36 : decode cX10_reckons 36 = .ok (.iload_n 3, 1) := by decide +kernel
theorem dX10_reckons_37 : decode cX10_reckons 37 = .ok (.iaload, 1) := by decide +kernel
theorem dX10_reckons_38 : decode cX10_reckons 38 = .ok (.istore 5, 2) := by decide +kernel
theorem dX10_reckons_40 : decode cX10_reckons 40 = .ok (.iload_n 1, 1) := by decide +kernel
theorem dX10_reckons_41 : decode cX10_reckons 41 = .ok (.bipush 43, 2) := by decide +kernel
theorem dX10_reckons_43 : decode cX10_reckons 43 = .ok (.if_icmp .ne 11, 3) := by decide +kernel
theorem dX10_reckons_46 : decode cX10_reckons 46 = .ok (.iload 4, 2) := by decide +kernel
theorem dX10_reckons_48 : decode cX10_reckons 48 = .ok (.iload 5, 2) := by decide +kernel
theorem dX10_reckons_50 : decode cX10_reckons 50 = .ok (.iadd, 1) := by decide +kernel
theorem dX10_reckons_51 : decode cX10_reckons 51 = .ok (.goto 22, 3) := by decide +kernel
theorem dX10_reckons_54 : decode cX10_reckons 54 = .ok (.iload_n 1, 1) := by decide +kernel
theorem dX10_reckons_55 : decode cX10_reckons 55 = .ok (.bipush 45, 2) := by decide +kernel
theorem dX10_reckons_57 : decode cX10_reckons 57 = .ok (.if_icmp .ne 11, 3) := by decide +kernel
theorem dX10_reckons_60 : decode cX10_reckons 60 = .ok (.iload 4, 2) := by decide +kernel
theorem dX10_reckons_62 : decode cX10_reckons 62 = .ok (.iload 5, 2) := by decide +kernel
theorem dX10_reckons_64 : decode cX10_reckons 64 = .ok (.isub, 1) := by decide +kernel
theorem dX10_reckons_65 : decode cX10_reckons 65 = .ok (.goto 8, 3) := by decide +kernel
theorem dX10_reckons_68 : decode cX10_reckons 68 = .ok (.iload 4, 2) := by decide +kernel
theorem dX10_reckons_70 : decode cX10_reckons 70 = .ok (.iload 5, 2) := by decide +kernel
theorem dX10_reckons_72 : decode cX10_reckons 72 = .ok (.imul, 1) := by decide +kernel
theorem dX10_reckons_73 : decode cX10_reckons 73 = .ok (.istore 6, 2) := by decide +kernel
theorem dX10_reckons_75 : decode cX10_reckons 75 = .ok (.iload 6, 2) := by decide +kernel
theorem dX10_reckons_77 : decode cX10_reckons 77 = .ok (.sipush (-9999), 3) := by decide +kernel
theorem dX10_reckons_80 : decode cX10_reckons 80 = .ok (.sipush 9999, 3) := by decide +kernel
theorem dX10_reckons_83 : decode cX10_reckons 83 = .ok (.invokestatic 134, 3) := by decide +kernel
theorem dX10_reckons_86 : decode cX10_reckons 86 = .ok (.ifCond .eq 19, 3) := by decide +kernel
theorem dX10_reckons_89 : decode cX10_reckons 89 = .ok (.aload_n 0, 1) := by decide +kernel
theorem dX10_reckons_90 : decode cX10_reckons 90 = .ok (.aload_n 0, 1) := by decide +kernel
theorem dX10_reckons_91 : decode cX10_reckons 91 = .ok (.iconst 0, 1) := by decide +kernel
theorem dX10_reckons_92 : decode cX10_reckons 92 = .ok (.iload 6, 2) := by decide +kernel
theorem dX10_reckons_94 : decode cX10_reckons 94 = .ok (.iconst 0, 1) := by decide +kernel
theorem dX10_reckons_95 : decode cX10_reckons 95 = .ok (.iconst 0, 1) := by decide +kernel
theorem dX10_reckons_96 : decode cX10_reckons 96 = .ok (.invokevirtual 249, 3) := by decide +kernel
theorem dX10_reckons_99 : decode cX10_reckons 99 = .ok (.invokevirtual 253, 3) := by decide +kernel
theorem dX10_reckons_102 : decode cX10_reckons 102 = .ok (.goto 8, 3) := by decide +kernel
theorem dX10_reckons_105 : decode cX10_reckons 105 = .ok (.aload_n 0, 1) := by decide +kernel
theorem dX10_reckons_106 : decode cX10_reckons 106 = .ok (.iconst 4, 1) := by decide +kernel
theorem dX10_reckons_107 : decode cX10_reckons 107 = .ok (.invokevirtual 259, 3) := by decide +kernel
theorem dX10_reckons_110 : decode cX10_reckons 110 = .ok (.return_, 1) := by decide +kernel
theorem dX10_chooses_0 : decode cX10_chooses 0 = .ok (.aload_n 0, 1) := by decide +kernel
theorem dX10_chooses_1 : decode cX10_chooses 1 = .ok (.getfield 65, 3) := by decide +kernel
theorem dX10_chooses_4 : decode cX10_chooses 4 = .ok (.aload_n 0, 1) := by decide +kernel
theorem dX10_chooses_5 : decode cX10_chooses 5 = .ok (.getfield 233, 3) := by decide +kernel
theorem dX10_chooses_8 : decode cX10_chooses 8 = .ok (.iaload, 1) := by decide +kernel
theorem dX10_chooses_9 : decode cX10_chooses 9 = .ok (.ifCond .eq 11, 3) := by decide +kernel
theorem dX10_chooses_12 : decode cX10_chooses 12 = .ok (.aload_n 0, 1) := by decide +kernel
theorem dX10_chooses_13 : decode cX10_chooses 13 = .ok (.iconst 1, 1) := by decide +kernel
theorem dX10_chooses_14 : decode cX10_chooses 14 = .ok (.invokevirtual 259, 3) := by decide +kernel
theorem dX10_chooses_17 : decode cX10_chooses 17 = .ok (.goto 46, 3) := by decide +kernel
theorem dX10_chooses_20 : decode cX10_chooses 20 = .ok (.aload_n 0, 1) := by decide +kernel
theorem dX10_chooses_21 : decode cX10_chooses 21 = .ok (.aload_n 0, 1) := by decide +kernel
theorem dX10_chooses_22 : decode cX10_chooses 22 = .ok (.getfield 68, 3) := by decide +kernel
theorem dX10_chooses_25 : decode cX10_chooses 25 = .ok (.aload_n 0, 1) := by decide +kernel
theorem dX10_chooses_26 : decode cX10_chooses 26 = .ok (.getfield 233, 3) := by decide +kernel
theorem dX10_chooses_29 : decode cX10_chooses 29 = .ok (.iaload, 1) := by decide +kernel
theorem dX10_chooses_30 : decode cX10_chooses 30 = .ok (.ifCond .eq 12, 3) := by decide +kernel
theorem dX10_chooses_33 : decode cX10_chooses 33 = .ok (.aload_n 0, 1) := by decide +kernel
theorem dX10_chooses_34 : decode cX10_chooses 34 = .ok (.getfield 19, 3) := by decide +kernel
theorem dX10_chooses_37 : decode cX10_chooses 37 = .ok (.iload_n 1, 1) := by decide +kernel
theorem dX10_chooses_38 : decode cX10_chooses 38 = .ok (.iaload, 1) := by decide +kernel
theorem dX10_chooses_39 : decode cX10_chooses 39 = .ok (.goto 9, 3) := by decide +kernel
theorem dX10_chooses_42 : decode cX10_chooses 42 = .ok (.aload_n 0, 1) := by decide +kernel
theorem dX10_chooses_43 : decode cX10_chooses 43 = .ok (.getfield 22, 3) := by decide +kernel
theorem dX10_chooses_46 : decode cX10_chooses 46 = .ok (.iload_n 1, 1) := by decide +kernel
theorem dX10_chooses_47 : decode cX10_chooses 47 = .ok (.iaload, 1) := by decide +kernel
theorem dX10_chooses_48 : decode cX10_chooses 48 = .ok (.aload_n 0, 1) := by decide +kernel
theorem dX10_chooses_49 : decode cX10_chooses 49 = .ok (.getfield 101, 3) := by decide +kernel
theorem dX10_chooses_52 : decode cX10_chooses 52 = .ok (.iload_n 2, 1) := by decide +kernel
theorem dX10_chooses_53 : decode cX10_chooses 53 = .ok (.iaload, 1) := by decide +kernel
theorem dX10_chooses_54 : decode cX10_chooses 54 = .ok (.aload_n 0, 1) := by decide +kernel
theorem dX10_chooses_55 : decode cX10_chooses 55 = .ok (.getfield 104, 3) := by decide +kernel
theorem dX10_chooses_58 : decode cX10_chooses 58 = .ok (.iload_n 2, 1) := by decide +kernel
theorem dX10_chooses_59 : decode cX10_chooses 59 = .ok (.iaload, 1) := by decide +kernel
theorem dX10_chooses_60 : decode cX10_chooses 60 = .ok (.invokevirtual 268, 3) := by decide +kernel
theorem dX10_chooses_63 : decode cX10_chooses 63 = .ok (.return_, 1) := by decide +kernel
theorem dX10_puts_0 : decode cX10_puts 0 = .ok (.aload_n 0, 1) := by decide +kernel
theorem dX10_puts_1 : decode cX10_puts 1 = .ok (.iload_n 1, 1) := by decide +kernel
theorem dX10_puts_2 : decode cX10_puts 2 = .ok (.iload_n 2, 1) := by decide +kernel
theorem dX10_puts_3 : decode cX10_puts 3 = .ok (.invokevirtual 246, 3) := by decide +kernel
theorem dX10_puts_6 : decode cX10_puts 6 = .ok (.istore_n 3, 1) := by decide +kernel
theorem dX10_puts_7 : decode cX10_puts 7 = .ok (.iload_n 3, 1) := by decide +kernel
theorem dX10_puts_8 : decode cX10_puts 8 = .ok (.ifCond .lt 16, 3) := by decide +kernel
theorem dX10_puts_11 : decode cX10_puts 11 = .ok (.aload_n 0, 1) := by decide +kernel
theorem dX10_puts_12 : decode cX10_puts 12 = .ok (.getfield 77, 3) := by decide +kernel
theorem dX10_puts_15 : decode cX10_puts 15 = .ok (.iload_n 3, 1) := by decide +kernel
theorem dX10_puts_16 : decode cX10_puts 16 = .ok (.aload_n 0, 1) := by decide +kernel
theorem dX10_puts_17 : decode cX10_puts 17 = .ok (.getfield 233, 3) := by decide +kernel
theorem dX10_puts_20 : decode cX10_puts 20 = .ok (.iastore, 1) := by decide +kernel
theorem dX10_puts_21 : decode cX10_puts 21 = .ok (.goto 38, 3) := by decide +kernel
theorem dX10_puts_24 : decode cX10_puts 24 = .ok (.aload_n 0, 1) := by decide +kernel
theorem dX10_puts_25 : decode cX10_puts 25 = .ok (.getfield 65, 3) := by decide +kernel
theorem dX10_puts_28 : decode cX10_puts 28 = .ok (.aload_n 0, 1) := by decide +kernel
theorem dX10_puts_29 : decode cX10_puts 29 = .ok (.getfield 233, 3) := by decide +kernel
theorem dX10_puts_32 : decode cX10_puts 32 = .ok (.iaload, 1) := by decide +kernel
theorem dX10_puts_33 : decode cX10_puts 33 = .ok (.ifCond .ne 21, 3) := by decide +kernel
theorem dX10_puts_36 : decode cX10_puts 36 = .ok (.aload_n 0, 1) := by decide +kernel
theorem dX10_puts_37 : decode cX10_puts 37 = .ok (.getfield 46, 3) := by decide +kernel
theorem dX10_puts_40 : decode cX10_puts 40 = .ok (.iload_n 1, 1) := by decide +kernel
theorem dX10_puts_41 : decode cX10_puts 41 = .ok (.aload_n 0, 1) := by decide +kernel
theorem dX10_puts_42 : decode cX10_puts 42 = .ok (.getfield 68, 3) := by decide +kernel
theorem dX10_puts_45 : decode cX10_puts 45 = .ok (.aload_n 0, 1) := by decide +kernel
theorem dX10_puts_46 : decode cX10_puts 46 = .ok (.getfield 233, 3) := by decide +kernel
theorem dX10_puts_49 : decode cX10_puts 49 = .ok (.iaload, 1) := by decide +kernel
theorem dX10_puts_50 : decode cX10_puts 50 = .ok (.iastore, 1) := by decide +kernel
theorem dX10_puts_51 : decode cX10_puts 51 = .ok (.goto 8, 3) := by decide +kernel
theorem dX10_puts_54 : decode cX10_puts 54 = .ok (.aload_n 0, 1) := by decide +kernel
theorem dX10_puts_55 : decode cX10_puts 55 = .ok (.iconst 1, 1) := by decide +kernel
theorem dX10_puts_56 : decode cX10_puts 56 = .ok (.invokevirtual 259, 3) := by decide +kernel
theorem dX10_puts_59 : decode cX10_puts 59 = .ok (.return_, 1) := by decide +kernel
theorem dX10_calls_0 : decode cX10_calls 0 = .ok (.iload_n 3, 1) := by decide +kernel
theorem dX10_calls_1 : decode cX10_calls 1 = .ok (.iconst 1, 1) := by decide +kernel
theorem dX10_calls_2 : decode cX10_calls 2 = .ok (.if_icmp .ne 16, 3) := by decide +kernel
theorem dX10_calls_5 : decode cX10_calls 5 = .ok (.aload_n 0, 1) := by decide +kernel
theorem dX10_calls_6 : decode cX10_calls 6 = .ok (.dup, 1) := by decide +kernel
theorem dX10_calls_7 : decode cX10_calls 7 = .ok (.getfield 272, 3) := by decide +kernel
theorem dX10_calls_10 : decode cX10_calls 10 = .ok (.iconst 1, 1) := by decide +kernel
theorem dX10_calls_11 : decode cX10_calls 11 = .ok (.iadd, 1) := by decide +kernel
theorem dX10_calls_12 : decode cX10_calls 12 = .ok (.putfield 272, 3) := by decide +kernel
theorem dX10_calls_15 : decode cX10_calls 15 = .ok (.goto 59, 3) := by decide +kernel
theorem dX10_calls_18 : decode cX10_calls 18 = .ok (.aload_n 0, 1) := by decide +kernel
theorem dX10_calls_19 : decode cX10_calls 19 = .ok (.getfield 275, 3) := by decide +kernel
theorem dX10_calls_22 : decode cX10_calls 22 = .ok (.bipush 12, 2) := by decide +kernel
theorem dX10_calls_24 : decode cX10_calls 24 = .ok (.if_icmp .ne 9, 3) := by decide +kernel
theorem dX10_calls_27 : decode cX10_calls 27 = .ok (.aload_n 0, 1) := by decide +kernel
theorem dX10_calls_28 : decode cX10_calls 28 = .ok (.iconst 5, 1) := by decide +kernel
theorem dX10_calls_29 : decode cX10_calls 29 = .ok (.invokevirtual 259, 3) := by decide +kernel
theorem dX10_calls_32 : decode cX10_calls 32 = .ok (.return_, 1) := by decide +kernel
theorem dX10_calls_33 : decode cX10_calls 33 = .ok (.aload_n 0, 1) := by decide +kernel
theorem dX10_calls_34 : decode cX10_calls 34 = .ok (.dup, 1) := by decide +kernel
theorem dX10_calls_35 : decode cX10_calls 35 = .ok (.getfield 275, 3) := by decide +kernel
theorem dX10_calls_38 : decode cX10_calls 38 = .ok (.iconst 1, 1) := by decide +kernel
theorem dX10_calls_39 : decode cX10_calls 39 = .ok (.iadd, 1) := by decide +kernel
theorem dX10_calls_40 : decode cX10_calls 40 = .ok (.putfield 275, 3) := by decide +kernel
theorem dX10_calls_43 : decode cX10_calls 43 = .ok (.aload_n 0, 1) := by decide +kernel
theorem dX10_calls_44 : decode cX10_calls 44 = .ok (.aload_n 0, 1) := by decide +kernel
theorem dX10_calls_45 : decode cX10_calls 45 = .ok (.getfield 275, 3) := by decide +kernel
theorem dX10_calls_48 : decode cX10_calls 48 = .ok (.aload_n 0, 1) := by decide +kernel
theorem dX10_calls_49 : decode cX10_calls 49 = .ok (.getfield 278, 3) := by decide +kernel
theorem dX10_calls_52 : decode cX10_calls 52 = .ok (.if_icmp .le 10, 3) := by decide +kernel
theorem dX10_calls_55 : decode cX10_calls 55 = .ok (.aload_n 0, 1) := by decide +kernel
theorem dX10_calls_56 : decode cX10_calls 56 = .ok (.getfield 275, 3) := by decide +kernel
theorem dX10_calls_59 : decode cX10_calls 59 = .ok (.goto 7, 3) := by decide +kernel
theorem dX10_calls_62 : decode cX10_calls 62 = .ok (.aload_n 0, 1) := by decide +kernel
theorem dX10_calls_63 : decode cX10_calls 63 = .ok (.getfield 278, 3) := by decide +kernel
theorem dX10_calls_66 : decode cX10_calls 66 = .ok (.putfield 278, 3) := by decide +kernel
theorem dX10_calls_69 : decode cX10_calls 69 = .ok (.aload_n 0, 1) := by decide +kernel
theorem dX10_calls_70 : decode cX10_calls 70 = .ok (.iconst (-1), 1) := by decide +kernel
theorem dX10_calls_71 : decode cX10_calls 71 = .ok (.invokevirtual 265, 3) := by decide +kernel
theorem dX10_calls_74 : decode cX10_calls 74 = .ok (.aload_n 0, 1) := by decide +kernel
theorem dX10_calls_75 : decode cX10_calls 75 = .ok (.aload_n 0, 1) := by decide +kernel
theorem dX10_calls_76 : decode cX10_calls 76 = .ok (.getfield 71, 3) := by decide +kernel
theorem dX10_calls_79 : decode cX10_calls 79 = .ok (.iload_n 1, 1) := by decide +kernel
theorem dX10_calls_80 : decode cX10_calls 80 = .ok (.iaload, 1) := by decide +kernel
theorem dX10_calls_81 : decode cX10_calls 81 = .ok (.aload_n 0, 1) := by decide +kernel
theorem dX10_calls_82 : decode cX10_calls 82 = .ok (.aload_n 0, 1) := by decide +kernel
theorem dX10_calls_83 : decode cX10_calls 83 = .ok (.getfield 68, 3) := by decide +kernel
theorem dX10_calls_86 : decode cX10_calls 86 = .ok (.iload_n 1, 1) := by decide +kernel
theorem dX10_calls_87 : decode cX10_calls 87 = .ok (.iaload, 1) := by decide +kernel
theorem dX10_calls_88 : decode cX10_calls 88 = .ok (.iload_n 2, 1) := by decide +kernel
theorem dX10_calls_89 : decode cX10_calls 89 = .ok (.aload_n 0, 1) := by decide +kernel
theorem dX10_calls_90 : decode cX10_calls 90 = .ok (.getfield 74, 3) := by decide +kernel
theorem dX10_calls_93 : decode cX10_calls 93 = .ok (.iload_n 1, 1) := by decide +kernel
theorem dX10_calls_94 : decode cX10_calls 94 = .ok (.iaload, 1) := by decide +kernel
theorem dX10_calls_95 : decode cX10_calls 95 = .ok (.invokevirtual 281, 3) := by decide +kernel
theorem dX10_calls_98 : decode cX10_calls 98 = .ok (.iconst 1, 1) := by decide +kernel
theorem dX10_calls_99 : decode cX10_calls 99 = .ok (.invokevirtual 268, 3) := by decide +kernel
theorem dX10_calls_102 : decode cX10_calls 102 = .ok (.return_, 1) := by decide +kernel
theorem dX10_hasField_0 : decode cX10_hasField 0 = .ok (.iload_n 1, 1) := by decide +kernel
theorem dX10_hasField_1 : decode cX10_hasField 1 = .ok (.bipush 112, 2) := by decide +kernel
theorem dX10_hasField_3 : decode cX10_hasField 3 = .ok (.if_icmp .ne 16, 3) := by decide +kernel
theorem dX10_hasField_6 : decode cX10_hasField 6 = .ok (.iload_n 0, 1) := by decide +kernel
theorem dX10_hasField_7 : decode cX10_hasField 7 = .ok (.iconst 1, 1) := by decide +kernel
theorem dX10_hasField_8 : decode cX10_hasField 8 = .ok (.if_icmp .eq 7, 3) := by decide +kernel
theorem dX10_hasField_11 : decode cX10_hasField 11 = .ok (.iconst 1, 1) := by decide +kernel
theorem dX10_hasField_12 : decode cX10_hasField 12 = .ok (.goto 16, 3) := by decide +kernel
theorem dX10_hasField_15 : decode cX10_hasField 15 = .ok (.iconst 0, 1) := by decide +kernel
theorem dX10_hasField_16 : decode cX10_hasField 16 = .ok (.goto 12, 3) := by decide +kernel
theorem dX10_hasField_19 : decode cX10_hasField 19 = .ok (.iload_n 0, 1) := by decide +kernel
theorem dX10_hasField_20 : decode cX10_hasField 20 = .ok (.ifCond .eq 7, 3) := by decide +kernel
theorem dX10_hasField_23 : decode cX10_hasField 23 = .ok (.iconst 1, 1) := by decide +kernel
theorem dX10_hasField_24 : decode cX10_hasField 24 = .ok (.goto 4, 3) := by decide +kernel
theorem dX10_hasField_27 : decode cX10_hasField 27 = .ok (.iconst 0, 1) := by decide +kernel
theorem dX10_hasField_28 : decode cX10_hasField 28 = .ok (.ireturn, 1) := by decide +kernel
theorem dX10_passesCache_0 : decode cX10_passesCache 0 = .ok (.aload_n 0, 1) := by decide +kernel
theorem dX10_passesCache_1 : decode cX10_passesCache 1 = .ok (.getfield 49, 3) := by decide +kernel
theorem dX10_passesCache_4 : decode cX10_passesCache 4 = .ok (.iload_n 1, 1) := by decide +kernel
theorem dX10_passesCache_5 : decode cX10_passesCache 5 = .ok (.iaload, 1) := by decide +kernel
theorem dX10_passesCache_6 : decode cX10_passesCache 6 = .ok (.iload_n 2, 1) := by decide +kernel
theorem dX10_passesCache_7 : decode cX10_passesCache 7 = .ok (.ishr, 1) := by decide +kernel
theorem dX10_passesCache_8 : decode cX10_passesCache 8 = .ok (.iconst 1, 1) := by decide +kernel
theorem dX10_passesCache_9 : decode cX10_passesCache 9 = .ok (.iand, 1) := by decide +kernel
theorem dX10_passesCache_10 : decode cX10_passesCache 10 = .ok (.iconst 1, 1) := by decide +kernel
theorem dX10_passesCache_11 : decode cX10_passesCache 11 = .ok (.if_icmp .ne 20, 3) := by decide +kernel
theorem dX10_passesCache_14 : decode cX10_passesCache 14 = .ok (.aload_n 0, 1) := by decide +kernel
theorem dX10_passesCache_15 : decode cX10_passesCache 15 = .ok (.getfield 49, 3) := by decide +kernel
theorem dX10_passesCache_18 : decode cX10_passesCache 18 = .ok (.iload_n 1, 1) := by decide +kernel
theorem dX10_passesCache_19 : decode cX10_passesCache 19 = .ok (.iaload, 1) := by decide +kernel
theorem dX10_passesCache_20 : decode cX10_passesCache 20 = .ok (.invokestatic 284, 3) := by decide +kernel
theorem dX10_passesCache_23 : decode cX10_passesCache 23 = .ok (.iconst 2, 1) := by decide +kernel
theorem dX10_passesCache_24 : decode cX10_passesCache 24 = .ok (.if_icmp .gt 7, 3) := by decide +kernel
theorem dX10_passesCache_27 : decode cX10_passesCache 27 = .ok (.iconst 1, 1) := by decide +kernel
theorem dX10_passesCache_28 : decode cX10_passesCache 28 = .ok (.goto 4, 3) := by decide +kernel
theorem dX10_passesCache_31 : decode cX10_passesCache 31 = .ok (.iconst 0, 1) := by decide +kernel
theorem dX10_passesCache_32 : decode cX10_passesCache 32 = .ok (.istore_n 3, 1) := by decide +kernel
theorem dX10_passesCache_33 : decode cX10_passesCache 33 = .ok (.aload_n 0, 1) := by decide +kernel
theorem dX10_passesCache_34 : decode cX10_passesCache 34 = .ok (.getfield 52, 3) := by decide +kernel
theorem dX10_passesCache_37 : decode cX10_passesCache 37 = .ok (.iload_n 1, 1) := by decide +kernel
theorem dX10_passesCache_38 : decode cX10_passesCache 38 = .ok (.dup2, 1) := by decide +kernel
theorem dX10_passesCache_39 : decode cX10_passesCache 39 = .ok (.iaload, 1) := by decide +kernel
theorem dX10_passesCache_40 : decode cX10_passesCache 40 = .ok (.iload_n 3, 1) := by decide +kernel
theorem dX10_passesCache_41 : decode cX10_passesCache 41 = .ok (.ifCond .eq 7, 3) := by decide +kernel
theorem dX10_passesCache_44 : decode cX10_passesCache 44 = .ok (.iconst 1, 1) := by decide +kernel
theorem dX10_passesCache_45 : decode cX10_passesCache 45 = .ok (.goto 4, 3) := by decide +kernel
theorem dX10_passesCache_48 : decode cX10_passesCache 48 = .ok (.iconst 0, 1) := by decide +kernel
theorem dX10_passesCache_49 : decode cX10_passesCache 49 = .ok (.iadd, 1) := by decide +kernel
theorem dX10_passesCache_50 : decode cX10_passesCache 50 = .ok (.iastore, 1) := by decide +kernel
theorem dX10_passesCache_51 : decode cX10_passesCache 51 = .ok (.aload_n 0, 1) := by decide +kernel
theorem dX10_passesCache_52 : decode cX10_passesCache 52 = .ok (.getfield 55, 3) := by decide +kernel
theorem dX10_passesCache_55 : decode cX10_passesCache 55 = .ok (.iload_n 1, 1) := by decide +kernel
theorem dX10_passesCache_56 : decode cX10_passesCache 56 = .ok (.dup2, 1) := by decide +kernel
theorem dX10_passesCache_57 : decode cX10_passesCache 57 = .ok (.iaload, 1) := by decide +kernel
theorem dX10_passesCache_58 : decode cX10_passesCache 58 = .ok (.iload_n 3, 1) := by decide +kernel
theorem dX10_passesCache_59 : decode cX10_passesCache 59 = .ok (.ifCond .eq 7, 3) := by decide +kernel
theorem dX10_passesCache_62 : decode cX10_passesCache 62 = .ok (.iconst 0, 1) := by decide +kernel
theorem dX10_passesCache_63 : decode cX10_passesCache 63 = .ok (.goto 4, 3) := by decide +kernel
theorem dX10_passesCache_66 : decode cX10_passesCache 66 = .ok (.iconst 1, 1) := by decide +kernel
theorem dX10_passesCache_67 : decode cX10_passesCache 67 = .ok (.iadd, 1) := by decide +kernel
theorem dX10_passesCache_68 : decode cX10_passesCache 68 = .ok (.iastore, 1) := by decide +kernel
theorem dX10_passesCache_69 : decode cX10_passesCache 69 = .ok (.aload_n 0, 1) := by decide +kernel
theorem dX10_passesCache_70 : decode cX10_passesCache 70 = .ok (.getfield 49, 3) := by decide +kernel
theorem dX10_passesCache_73 : decode cX10_passesCache 73 = .ok (.iload_n 1, 1) := by decide +kernel
theorem dX10_passesCache_74 : decode cX10_passesCache 74 = .ok (.dup2, 1) := by decide +kernel
theorem dX10_passesCache_75 : decode cX10_passesCache 75 = .ok (.iaload, 1) := by decide +kernel
theorem dX10_passesCache_76 : decode cX10_passesCache 76 = .ok (.iconst 1, 1) := by decide +kernel
theorem dX10_passesCache_77 : decode cX10_passesCache 77 = .ok (.iload_n 2, 1) := by decide +kernel
theorem dX10_passesCache_78 : decode cX10_passesCache 78 = .ok (.ishl, 1) := by decide +kernel
theorem dX10_passesCache_79 : decode cX10_passesCache 79 = .ok (.ior, 1) := by decide +kernel
theorem dX10_passesCache_80 : decode cX10_passesCache 80 = .ok (.iastore, 1) := by decide +kernel
theorem dX10_passesCache_81 : decode cX10_passesCache 81 = .ok (.return_, 1) := by decide +kernel
theorem dX10_findsField_0 : decode cX10_findsField 0 = .ok (.aload_n 0, 1) := by decide +kernel
theorem dX10_findsField_1 : decode cX10_findsField 1 = .ok (.getfield 233, 3) := by decide +kernel
theorem dX10_findsField_4 : decode cX10_findsField 4 = .ok (.istore_n 2, 1) := by decide +kernel
theorem dX10_findsField_5 : decode cX10_findsField 5 = .ok (.aload_n 0, 1) := by decide +kernel
theorem dX10_findsField_6 : decode cX10_findsField 6 = .ok (.getfield 65, 3) := by decide +kernel
theorem dX10_findsField_9 : decode cX10_findsField 9 = .ok (.iload_n 2, 1) := by decide +kernel
theorem dX10_findsField_10 : decode cX10_findsField 10 = .ok (.iaload, 1) := by decide +kernel
theorem dX10_findsField_11 : decode cX10_findsField 11 = .ok (.iconst 2, 1) := by decide +kernel
theorem dX10_findsField_12 : decode cX10_findsField 12 = .ok (.if_icmp .ne 21, 3) := by decide +kernel
theorem dX10_findsField_15 : decode cX10_findsField 15 = .ok (.aload_n 0, 1) := by decide +kernel
theorem dX10_findsField_16 : decode cX10_findsField 16 = .ok (.getfield 68, 3) := by decide +kernel
theorem dX10_findsField_19 : decode cX10_findsField 19 = .ok (.iload_n 2, 1) := by decide +kernel
theorem dX10_findsField_20 : decode cX10_findsField 20 = .ok (.iaload, 1) := by decide +kernel
theorem dX10_findsField_21 : decode cX10_findsField 21 = .ok (.aload_n 0, 1) := by decide +kernel
theorem dX10_findsField_22 : decode cX10_findsField 22 = .ok (.getfield 13, 3) := by decide +kernel
theorem dX10_findsField_25 : decode cX10_findsField 25 = .ok (.iload_n 1, 1) := by decide +kernel
theorem dX10_findsField_26 : decode cX10_findsField 26 = .ok (.iaload, 1) := by decide +kernel
theorem dX10_findsField_27 : decode cX10_findsField 27 = .ok (.invokestatic 287, 3) := by decide +kernel
theorem dX10_findsField_30 : decode cX10_findsField 30 = .ok (.ifCond .ne 9, 3) := by decide +kernel
theorem dX10_findsField_33 : decode cX10_findsField 33 = .ok (.aload_n 0, 1) := by decide +kernel
theorem dX10_findsField_34 : decode cX10_findsField 34 = .ok (.iconst 3, 1) := by decide +kernel
theorem dX10_findsField_35 : decode cX10_findsField 35 = .ok (.invokevirtual 259, 3) := by decide +kernel
theorem dX10_findsField_38 : decode cX10_findsField 38 = .ok (.return_, 1) := by decide +kernel
theorem dX10_findsField_39 : decode cX10_findsField 39 = .ok (.aload_n 0, 1) := by decide +kernel
theorem dX10_findsField_40 : decode cX10_findsField 40 = .ok (.aload_n 0, 1) := by decide +kernel
theorem dX10_findsField_41 : decode cX10_findsField 41 = .ok (.getfield 25, 3) := by decide +kernel
theorem dX10_findsField_44 : decode cX10_findsField 44 = .ok (.iload_n 1, 1) := by decide +kernel
theorem dX10_findsField_45 : decode cX10_findsField 45 = .ok (.iaload, 1) := by decide +kernel
theorem dX10_findsField_46 : decode cX10_findsField 46 = .ok (.aload_n 0, 1) := by decide +kernel
theorem dX10_findsField_47 : decode cX10_findsField 47 = .ok (.getfield 68, 3) := by decide +kernel
theorem dX10_findsField_50 : decode cX10_findsField 50 = .ok (.iload_n 2, 1) := by decide +kernel
theorem dX10_findsField_51 : decode cX10_findsField 51 = .ok (.iaload, 1) := by decide +kernel
theorem dX10_findsField_52 : decode cX10_findsField 52 = .ok (.invokevirtual 290, 3) := by decide +kernel
theorem dX10_findsField_55 : decode cX10_findsField 55 = .ok (.aload_n 0, 1) := by decide +kernel
theorem dX10_findsField_56 : decode cX10_findsField 56 = .ok (.getfield 68, 3) := by decide +kernel
theorem dX10_findsField_59 : decode cX10_findsField 59 = .ok (.iload_n 2, 1) := by decide +kernel
theorem dX10_findsField_60 : decode cX10_findsField 60 = .ok (.iaload, 1) := by decide +kernel
theorem dX10_findsField_61 : decode cX10_findsField 61 = .ok (.iconst 2, 1) := by decide +kernel
theorem dX10_findsField_62 : decode cX10_findsField 62 = .ok (.if_icmp .lt 37, 3) := by decide +kernel
theorem dX10_findsField_65 : decode cX10_findsField 65 = .ok (.aload_n 0, 1) := by decide +kernel
theorem dX10_findsField_66 : decode cX10_findsField 66 = .ok (.getfield 68, 3) := by decide +kernel
theorem dX10_findsField_69 : decode cX10_findsField 69 = .ok (.iload_n 2, 1) := by decide +kernel
theorem dX10_findsField_70 : decode cX10_findsField 70 = .ok (.iaload, 1) := by decide +kernel
theorem dX10_findsField_71 : decode cX10_findsField 71 = .ok (.iconst 2, 1) := by decide +kernel
theorem dX10_findsField_72 : decode cX10_findsField 72 = .ok (.if_icmp .ne 7, 3) := by decide +kernel
theorem dX10_findsField_75 : decode cX10_findsField 75 = .ok (.iconst 1, 1) := by decide +kernel
theorem dX10_findsField_76 : decode cX10_findsField 76 = .ok (.goto 4, 3) := by decide +kernel
theorem dX10_findsField_79 : decode cX10_findsField 79 = .ok (.iconst 0, 1) := by decide +kernel
theorem dX10_findsField_80 : decode cX10_findsField 80 = .ok (.aload_n 0, 1) := by decide +kernel
theorem dX10_findsField_81 : decode cX10_findsField 81 = .ok (.getfield 13, 3) := by decide +kernel
theorem dX10_findsField_84 : decode cX10_findsField 84 = .ok (.iload_n 1, 1) := by decide +kernel
theorem dX10_findsField_85 : decode cX10_findsField 85 = .ok (.iaload, 1) := by decide +kernel
theorem dX10_findsField_86 : decode cX10_findsField 86 = .ok (.bipush 112, 2) := by decide +kernel
theorem dX10_findsField_88 : decode cX10_findsField 88 = .ok (.if_icmp .ne 7, 3) := by decide +kernel
theorem dX10_findsField_91 : decode cX10_findsField 91 = .ok (.iconst 1, 1) := by decide +kernel
theorem dX10_findsField_92 : decode cX10_findsField 92 = .ok (.goto 4, 3) := by decide +kernel
theorem dX10_findsField_95 : decode cX10_findsField 95 = .ok (.iconst 0, 1) := by decide +kernel
theorem dX10_findsField_96 : decode cX10_findsField 96 = .ok (.if_icmp .ne 7, 3) := by decide +kernel
theorem dX10_findsField_99 : decode cX10_findsField 99 = .ok (.iconst 1, 1) := by decide +kernel
theorem dX10_findsField_100 : decode cX10_findsField 100 = .ok (.goto 4, 3) := by decide +kernel
theorem dX10_findsField_103 : decode cX10_findsField 103 = .ok (.iconst 0, 1) := by decide +kernel
theorem dX10_findsField_104 : decode cX10_findsField 104 = .ok (.istore_n 3, 1) := by decide +kernel
theorem dX10_findsField_105 : decode cX10_findsField 105 = .ok (.aload_n 0, 1) := by decide +kernel
theorem dX10_findsField_106 : decode cX10_findsField 106 = .ok (.iload_n 3, 1) := by decide +kernel
theorem dX10_findsField_107 : decode cX10_findsField 107 = .ok (.ifCond .eq 12, 3) := by decide +kernel
theorem dX10_findsField_110 : decode cX10_findsField 110 = .ok (.aload_n 0, 1) := by decide +kernel
theorem dX10_findsField_111 : decode cX10_findsField 111 = .ok (.getfield 71, 3) := by decide +kernel
theorem dX10_findsField_114 : decode cX10_findsField 114 = .ok (.iload_n 2, 1) := by decide +kernel
theorem dX10_findsField_115 : decode cX10_findsField 115 = .ok (.iaload, 1) := by decide +kernel
theorem dX10_findsField_116 : decode cX10_findsField 116 = .ok (.goto 9, 3) := by decide +kernel
theorem dX10_findsField_119 : decode cX10_findsField 119 = .ok (.aload_n 0, 1) := by decide +kernel
theorem dX10_findsField_120 : decode cX10_findsField 120 = .ok (.getfield 74, 3) := by decide +kernel
theorem dX10_findsField_123 : decode cX10_findsField 123 = .ok (.iload_n 2, 1) := by decide +kernel
theorem dX10_findsField_124 : decode cX10_findsField 124 = .ok (.iaload, 1) := by decide +kernel
theorem dX10_findsField_125 : decode cX10_findsField 125 = .ok (.invokevirtual 253, 3) := by decide +kernel
theorem dX10_findsField_128 : decode cX10_findsField 128 = .ok (.return_, 1) := by decide +kernel
theorem dX10_throwsNow_0 : decode cX10_throwsNow 0 = .ok (.aload_n 0, 1) := by decide +kernel
theorem dX10_throwsNow_1 : decode cX10_throwsNow 1 = .ok (.getfield 65, 3) := by decide +kernel
theorem dX10_throwsNow_4 : decode cX10_throwsNow 4 = .ok (.aload_n 0, 1) := by decide +kernel
theorem dX10_throwsNow_5 : decode cX10_throwsNow 5 = .ok (.getfield 233, 3) := by decide +kernel
theorem dX10_throwsNow_8 : decode cX10_throwsNow 8 = .ok (.iaload, 1) := by decide +kernel
theorem dX10_throwsNow_9 : decode cX10_throwsNow 9 = .ok (.ifCond .eq 11, 3) := by decide +kernel
theorem dX10_throwsNow_12 : decode cX10_throwsNow 12 = .ok (.aload_n 0, 1) := by decide +kernel
theorem dX10_throwsNow_13 : decode cX10_throwsNow 13 = .ok (.iconst 1, 1) := by decide +kernel
theorem dX10_throwsNow_14 : decode cX10_throwsNow 14 = .ok (.invokevirtual 259, 3) := by decide +kernel
theorem dX10_throwsNow_17 : decode cX10_throwsNow 17 = .ok (.goto 45, 3) := by decide +kernel
theorem dX10_throwsNow_20 : decode cX10_throwsNow 20 = .ok (.aload_n 0, 1) := by decide +kernel
theorem dX10_throwsNow_21 : decode cX10_throwsNow 21 = .ok (.getfield 68, 3) := by decide +kernel
theorem dX10_throwsNow_24 : decode cX10_throwsNow 24 = .ok (.aload_n 0, 1) := by decide +kernel
theorem dX10_throwsNow_25 : decode cX10_throwsNow 25 = .ok (.getfield 233, 3) := by decide +kernel
theorem dX10_throwsNow_28 : decode cX10_throwsNow 28 = .ok (.iaload, 1) := by decide +kernel
theorem dX10_throwsNow_29 : decode cX10_throwsNow 29 = .ok (.iconst 0, 1) := by decide +kernel
theorem dX10_throwsNow_30 : decode cX10_throwsNow 30 = .ok (.bipush 9, 2) := by decide +kernel
theorem dX10_throwsNow_32 : decode cX10_throwsNow 32 = .ok (.invokestatic 134, 3) := by decide +kernel
theorem dX10_throwsNow_35 : decode cX10_throwsNow 35 = .ok (.ifCond .eq 22, 3) := by decide +kernel
theorem dX10_throwsNow_38 : decode cX10_throwsNow 38 = .ok (.aload_n 0, 1) := by decide +kernel
theorem dX10_throwsNow_39 : decode cX10_throwsNow 39 = .ok (.bipush 10, 2) := by decide +kernel
theorem dX10_throwsNow_41 : decode cX10_throwsNow 41 = .ok (.aload_n 0, 1) := by decide +kernel
theorem dX10_throwsNow_42 : decode cX10_throwsNow 42 = .ok (.getfield 68, 3) := by decide +kernel
theorem dX10_throwsNow_45 : decode cX10_throwsNow 45 = .ok (.aload_n 0, 1) := by decide +kernel
theorem dX10_throwsNow_46 : decode cX10_throwsNow 46 = .ok (.getfield 233, 3) := by decide +kernel
theorem dX10_throwsNow_49 : decode cX10_throwsNow 49 = .ok (.iaload, 1) := by decide +kernel
theorem dX10_throwsNow_50 : decode cX10_throwsNow 50 = .ok (.iadd, 1) := by decide +kernel
theorem dX10_throwsNow_51 : decode cX10_throwsNow 51 = .ok (.invokevirtual 259, 3) := by decide +kernel
theorem dX10_throwsNow_54 : decode cX10_throwsNow 54 = .ok (.goto 8, 3) := by decide +kernel
theorem dX10_throwsNow_57 : decode cX10_throwsNow 57 = .ok (.aload_n 0, 1) := by decide +kernel
theorem dX10_throwsNow_58 : decode cX10_throwsNow 58 = .ok (.iconst 4, 1) := by decide +kernel
theorem dX10_throwsNow_59 : decode cX10_throwsNow 59 = .ok (.invokevirtual 259, 3) := by decide +kernel
theorem dX10_throwsNow_62 : decode cX10_throwsNow 62 = .ok (.return_, 1) := by decide +kernel
theorem dX10_keepsFirst_0 : decode cX10_keepsFirst 0 = .ok (.aload_n 0, 1) := by decide +kernel
theorem dX10_keepsFirst_1 : decode cX10_keepsFirst 1 = .ok (.iload_n 2, 1) := by decide +kernel
theorem dX10_keepsFirst_2 : decode cX10_keepsFirst 2 = .ok (.iconst 1, 1) := by decide +kernel
theorem dX10_keepsFirst_3 : decode cX10_keepsFirst 3 = .ok (.iadd, 1) := by decide +kernel
theorem dX10_keepsFirst_4 : decode cX10_keepsFirst 4 = .ok (.putfield 243, 3) := by decide +kernel
theorem dX10_keepsFirst_7 : decode cX10_keepsFirst 7 = .ok (.aload_n 0, 1) := by decide +kernel
theorem dX10_keepsFirst_8 : decode cX10_keepsFirst 8 = .ok (.getfield 98, 3) := by decide +kernel
theorem dX10_keepsFirst_11 : decode cX10_keepsFirst 11 = .ok (.iload_n 2, 1) := by decide +kernel
theorem dX10_keepsFirst_12 : decode cX10_keepsFirst 12 = .ok (.iconst 1, 1) := by decide +kernel
theorem dX10_keepsFirst_13 : decode cX10_keepsFirst 13 = .ok (.iastore, 1) := by decide +kernel
theorem dX10_keepsFirst_14 : decode cX10_keepsFirst 14 = .ok (.aload_n 0, 1) := by decide +kernel
theorem dX10_keepsFirst_15 : decode cX10_keepsFirst 15 = .ok (.getfield 107, 3) := by decide +kernel
theorem dX10_keepsFirst_18 : decode cX10_keepsFirst 18 = .ok (.iload_n 2, 1) := by decide +kernel
theorem dX10_keepsFirst_19 : decode cX10_keepsFirst 19 = .ok (.aload_n 0, 1) := by decide +kernel
theorem dX10_keepsFirst_20 : decode cX10_keepsFirst 20 = .ok (.getfield 233, 3) := by decide +kernel
theorem dX10_keepsFirst_23 : decode cX10_keepsFirst 23 = .ok (.iastore, 1) := by decide +kernel
theorem dX10_keepsFirst_24 : decode cX10_keepsFirst 24 = .ok (.aload_n 0, 1) := by decide +kernel
theorem dX10_keepsFirst_25 : decode cX10_keepsFirst 25 = .ok (.aload_n 0, 1) := by decide +kernel
theorem dX10_keepsFirst_26 : decode cX10_keepsFirst 26 = .ok (.getfield 19, 3) := by decide +kernel
theorem dX10_keepsFirst_29 : decode cX10_keepsFirst 29 = .ok (.iload_n 1, 1) := by decide +kernel
theorem dX10_keepsFirst_30 : decode cX10_keepsFirst 30 = .ok (.iaload, 1) := by decide +kernel
theorem dX10_keepsFirst_31 : decode cX10_keepsFirst 31 = .ok (.aload_n 0, 1) := by decide +kernel
theorem dX10_keepsFirst_32 : decode cX10_keepsFirst 32 = .ok (.getfield 101, 3) := by decide +kernel
theorem dX10_keepsFirst_35 : decode cX10_keepsFirst 35 = .ok (.iload_n 2, 1) := by decide +kernel
theorem dX10_keepsFirst_36 : decode cX10_keepsFirst 36 = .ok (.iaload, 1) := by decide +kernel
theorem dX10_keepsFirst_37 : decode cX10_keepsFirst 37 = .ok (.iconst 0, 1) := by decide +kernel
theorem dX10_keepsFirst_38 : decode cX10_keepsFirst 38 = .ok (.invokevirtual 268, 3) := by decide +kernel
theorem dX10_keepsFirst_41 : decode cX10_keepsFirst 41 = .ok (.return_, 1) := by decide +kernel
theorem dX10_isFirstOfTwo_0 : decode cX10_isFirstOfTwo 0 = .ok (.aload_n 0, 1) := by decide +kernel
theorem dX10_isFirstOfTwo_1 : decode cX10_isFirstOfTwo 1 = .ok (.getfield 98, 3) := by decide +kernel
theorem dX10_isFirstOfTwo_4 : decode cX10_isFirstOfTwo 4 = .ok (.iload_n 2, 1) := by decide +kernel
theorem dX10_isFirstOfTwo_5 : decode cX10_isFirstOfTwo 5 = .ok (.iaload, 1) := by decide +kernel
theorem dX10_isFirstOfTwo_6 : decode cX10_isFirstOfTwo 6 = .ok (.ifCond .ne 43, 3) := by decide +kernel
theorem dX10_isFirstOfTwo_9 : decode cX10_isFirstOfTwo 9 = .ok (.iload_n 1, 1) := by decide +kernel
theorem dX10_isFirstOfTwo_10 : decode cX10_isFirstOfTwo 10 = .ok (.bipush 43, 2) := by decide +kernel
theorem dX10_isFirstOfTwo_12 : decode cX10_isFirstOfTwo 12 = .ok (.if_icmp .eq 33, 3) := by decide +kernel
theorem dX10_isFirstOfTwo_15 : decode cX10_isFirstOfTwo 15 = .ok (.iload_n 1, 1) := by decide +kernel
theorem dX10_isFirstOfTwo_16 : decode cX10_isFirstOfTwo 16 = .ok (.bipush 45, 2) := by decide +kernel
theorem dX10_isFirstOfTwo_18 : decode cX10_isFirstOfTwo 18 = .ok (.if_icmp .eq 27, 3) := by decide +kernel
theorem dX10_isFirstOfTwo_21 : decode cX10_isFirstOfTwo 21 = .ok (.iload_n 1, 1) := by decide +kernel
theorem dX10_isFirstOfTwo_22 : decode cX10_isFirstOfTwo 22 = .ok (.bipush 42, 2) := by decide +kernel
theorem dX10_isFirstOfTwo_24 : decode cX10_isFirstOfTwo 24 = .ok (.if_icmp .eq 21, 3) := by decide +kernel
theorem dX10_isFirstOfTwo_27 : decode cX10_isFirstOfTwo 27 = .ok (.iload_n 1, 1) := by decide +kernel
theorem dX10_isFirstOfTwo_28 : decode cX10_isFirstOfTwo 28 = .ok (.bipush 64, 2) := by decide +kernel
theorem dX10_isFirstOfTwo_30 : decode cX10_isFirstOfTwo 30 = .ok (.if_icmp .eq 15, 3) := by decide +kernel
theorem dX10_isFirstOfTwo_33 : decode cX10_isFirstOfTwo 33 = .ok (.iload_n 1, 1) := by decide +kernel
theorem dX10_isFirstOfTwo_34 : decode cX10_isFirstOfTwo 34 = .ok (.bipush 66, 2) := by decide +kernel
theorem dX10_isFirstOfTwo_36 : decode cX10_isFirstOfTwo 36 = .ok (.if_icmp .eq 9, 3) := by decide +kernel
theorem dX10_isFirstOfTwo_39 : decode cX10_isFirstOfTwo 39 = .ok (.iload_n 1, 1) := by decide +kernel
theorem dX10_isFirstOfTwo_40 : decode cX10_isFirstOfTwo 40 = .ok (.bipush 67, 2) := by decide +kernel
theorem dX10_isFirstOfTwo_42 : decode cX10_isFirstOfTwo 42 = .ok (.if_icmp .ne 7, 3) := by decide +kernel
theorem dX10_isFirstOfTwo_45 : decode cX10_isFirstOfTwo 45 = .ok (.iconst 1, 1) := by decide +kernel
theorem dX10_isFirstOfTwo_46 : decode cX10_isFirstOfTwo 46 = .ok (.goto 4, 3) := by decide +kernel
theorem dX10_isFirstOfTwo_49 : decode cX10_isFirstOfTwo 49 = .ok (.iconst 0, 1) := by decide +kernel
theorem dX10_isFirstOfTwo_50 : decode cX10_isFirstOfTwo 50 = .ok (.ireturn, 1) := by decide +kernel
theorem dX10_goesOnOf_0 : decode cX10_goesOnOf 0 = .ok (.aload_n 0, 1) := by decide +kernel
theorem dX10_goesOnOf_1 : decode cX10_goesOnOf 1 = .ok (.getfield 13, 3) := by decide +kernel
theorem dX10_goesOnOf_4 : decode cX10_goesOnOf 4 = .ok (.iload_n 1, 1) := by decide +kernel
theorem dX10_goesOnOf_5 : decode cX10_goesOnOf 5 = .ok (.iaload, 1) := by decide +kernel
theorem dX10_goesOnOf_6 : decode cX10_goesOnOf 6 = .ok (.istore_n 3, 1) := by decide +kernel
theorem dX10_goesOnOf_7 : decode cX10_goesOnOf 7 = .ok (.iload_n 3, 1) := by decide +kernel
theorem dX10_goesOnOf_8 : decode cX10_goesOnOf 8 = .ok (.lookupswitch 362 #[(42, 132), (43, 132), (44, 159), (45, 132), (63, 150), (64, 242), (66, 301), (67, 324), (76, 184), (80, 265), (81, 283), (83, 223), (88, 355), (112, 347), (113, 347)], 132) := by decide +kernel
theorem dX10_goesOnOf_140 : decode cX10_goesOnOf 140 = .ok (.aload_n 0, 1) := by decide +kernel
theorem dX10_goesOnOf_141 : decode cX10_goesOnOf 141 = .ok (.iload_n 3, 1) := by decide +kernel
theorem dX10_goesOnOf_142 : decode cX10_goesOnOf 142 = .ok (.aload_n 0, 1) := by decide +kernel
theorem dX10_goesOnOf_143 : decode cX10_goesOnOf 143 = .ok (.getfield 107, 3) := by decide +kernel
theorem dX10_goesOnOf_146 : decode cX10_goesOnOf 146 = .ok (.iload_n 2, 1) := by decide +kernel
theorem dX10_goesOnOf_147 : decode cX10_goesOnOf 147 = .ok (.iaload, 1) := by decide +kernel
theorem dX10_goesOnOf_148 : decode cX10_goesOnOf 148 = .ok (.aload_n 0, 1) := by decide +kernel
theorem dX10_goesOnOf_149 : decode cX10_goesOnOf 149 = .ok (.getfield 233, 3) := by decide +kernel
theorem dX10_goesOnOf_152 : decode cX10_goesOnOf 152 = .ok (.invokevirtual 293, 3) := by decide +kernel
theorem dX10_goesOnOf_155 : decode cX10_goesOnOf 155 = .ok (.goto 215, 3) := by decide +kernel
theorem dX10_goesOnOf_158 : decode cX10_goesOnOf 158 = .ok (.aload_n 0, 1) := by decide +kernel
theorem dX10_goesOnOf_159 : decode cX10_goesOnOf 159 = .ok (.iload_n 1, 1) := by decide +kernel
theorem dX10_goesOnOf_160 : decode cX10_goesOnOf 160 = .ok (.iload_n 2, 1) := by decide +kernel
theorem dX10_goesOnOf_161 : decode cX10_goesOnOf 161 = .ok (.invokevirtual 296, 3) := by decide +kernel
theorem dX10_goesOnOf_164 : decode cX10_goesOnOf 164 = .ok (.goto 206, 3) := by decide +kernel
theorem dX10_goesOnOf_167 : decode cX10_goesOnOf 167 = .ok (.aload_n 0, 1) := by decide +kernel
theorem dX10_goesOnOf_168 : decode cX10_goesOnOf 168 = .ok (.aload_n 0, 1) := by decide +kernel
theorem dX10_goesOnOf_169 : decode cX10_goesOnOf 169 = .ok (.getfield 19, 3) := by decide +kernel
theorem dX10_goesOnOf_172 : decode cX10_goesOnOf 172 = .ok (.iload_n 1, 1) := by decide +kernel
theorem dX10_goesOnOf_173 : decode cX10_goesOnOf 173 = .ok (.iaload, 1) := by decide +kernel
theorem dX10_goesOnOf_174 : decode cX10_goesOnOf 174 = .ok (.aload_n 0, 1) := by decide +kernel
theorem dX10_goesOnOf_175 : decode cX10_goesOnOf 175 = .ok (.getfield 101, 3) := by decide +kernel
theorem dX10_goesOnOf_178 : decode cX10_goesOnOf 178 = .ok (.iload_n 2, 1) := by decide +kernel
theorem dX10_goesOnOf_179 : decode cX10_goesOnOf 179 = .ok (.iaload, 1) := by decide +kernel
theorem dX10_goesOnOf_180 : decode cX10_goesOnOf 180 = .ok (.aload_n 0, 1) := by decide +kernel
theorem dX10_goesOnOf_181 : decode cX10_goesOnOf 181 = .ok (.getfield 104, 3) := by decide +kernel
theorem dX10_goesOnOf_184 : decode cX10_goesOnOf 184 = .ok (.iload_n 2, 1) := by decide +kernel
theorem dX10_goesOnOf_185 : decode cX10_goesOnOf 185 = .ok (.iaload, 1) := by decide +kernel
theorem dX10_goesOnOf_186 : decode cX10_goesOnOf 186 = .ok (.invokevirtual 268, 3) := by decide +kernel
theorem dX10_goesOnOf_189 : decode cX10_goesOnOf 189 = .ok (.goto 181, 3) := by decide +kernel
theorem dX10_goesOnOf_192 : decode cX10_goesOnOf 192 = .ok (.aload_n 0, 1) := by decide +kernel
theorem dX10_goesOnOf_193 : decode cX10_goesOnOf 193 = .ok (.aload_n 0, 1) := by decide +kernel
theorem dX10_goesOnOf_194 : decode cX10_goesOnOf 194 = .ok (.getfield 19, 3) := by decide +kernel
theorem dX10_goesOnOf_197 : decode cX10_goesOnOf 197 = .ok (.iload_n 1, 1) := by decide +kernel
theorem dX10_goesOnOf_198 : decode cX10_goesOnOf 198 = .ok (.iaload, 1) := by decide +kernel
theorem dX10_goesOnOf_199 : decode cX10_goesOnOf 199 = .ok (.aload_n 0, 1) := by decide +kernel
theorem dX10_goesOnOf_200 : decode cX10_goesOnOf 200 = .ok (.aload_n 0, 1) := by decide +kernel
theorem dX10_goesOnOf_201 : decode cX10_goesOnOf 201 = .ok (.getfield 25, 3) := by decide +kernel
theorem dX10_goesOnOf_204 : decode cX10_goesOnOf 204 = .ok (.iload_n 1, 1) := by decide +kernel
theorem dX10_goesOnOf_205 : decode cX10_goesOnOf 205 = .ok (.iaload, 1) := by decide +kernel
theorem dX10_goesOnOf_206 : decode cX10_goesOnOf 206 = .ok (.aload_n 0, 1) := by decide +kernel
theorem dX10_goesOnOf_207 : decode cX10_goesOnOf 207 = .ok (.getfield 233, 3) := by decide +kernel
theorem dX10_goesOnOf_210 : decode cX10_goesOnOf 210 = .ok (.aload_n 0, 1) := by decide +kernel
theorem dX10_goesOnOf_211 : decode cX10_goesOnOf 211 = .ok (.getfield 101, 3) := by decide +kernel
theorem dX10_goesOnOf_214 : decode cX10_goesOnOf 214 = .ok (.iload_n 2, 1) := by decide +kernel
theorem dX10_goesOnOf_215 : decode cX10_goesOnOf 215 = .ok (.iaload, 1) := by decide +kernel
theorem dX10_goesOnOf_216 : decode cX10_goesOnOf 216 = .ok (.invokevirtual 281, 3) := by decide +kernel
theorem dX10_goesOnOf_219 : decode cX10_goesOnOf 219 = .ok (.aload_n 0, 1) := by decide +kernel
theorem dX10_goesOnOf_220 : decode cX10_goesOnOf 220 = .ok (.getfield 104, 3) := by decide +kernel
theorem dX10_goesOnOf_223 : decode cX10_goesOnOf 223 = .ok (.iload_n 2, 1) := by decide +kernel
theorem dX10_goesOnOf_224 : decode cX10_goesOnOf 224 = .ok (.iaload, 1) := by decide +kernel
theorem dX10_goesOnOf_225 : decode cX10_goesOnOf 225 = .ok (.invokevirtual 268, 3) := by decide +kernel
theorem dX10_goesOnOf_228 : decode cX10_goesOnOf 228 = .ok (.goto 142, 3) := by decide +kernel
theorem dX10_goesOnOf_231 : decode cX10_goesOnOf 231 = .ok (.aload_n 0, 1) := by decide +kernel
theorem dX10_goesOnOf_232 : decode cX10_goesOnOf 232 = .ok (.aload_n 0, 1) := by decide +kernel
theorem dX10_goesOnOf_233 : decode cX10_goesOnOf 233 = .ok (.getfield 25, 3) := by decide +kernel
theorem dX10_goesOnOf_236 : decode cX10_goesOnOf 236 = .ok (.iload_n 1, 1) := by decide +kernel
theorem dX10_goesOnOf_237 : decode cX10_goesOnOf 237 = .ok (.iaload, 1) := by decide +kernel
theorem dX10_goesOnOf_238 : decode cX10_goesOnOf 238 = .ok (.aload_n 0, 1) := by decide +kernel
theorem dX10_goesOnOf_239 : decode cX10_goesOnOf 239 = .ok (.getfield 101, 3) := by decide +kernel
theorem dX10_goesOnOf_242 : decode cX10_goesOnOf 242 = .ok (.iload_n 2, 1) := by decide +kernel
theorem dX10_goesOnOf_243 : decode cX10_goesOnOf 243 = .ok (.iaload, 1) := by decide +kernel
theorem dX10_goesOnOf_244 : decode cX10_goesOnOf 244 = .ok (.invokevirtual 299, 3) := by decide +kernel
theorem dX10_goesOnOf_247 : decode cX10_goesOnOf 247 = .ok (.goto 123, 3) := by decide +kernel
theorem dX10_goesOnOf_250 : decode cX10_goesOnOf 250 = .ok (.aload_n 0, 1) := by decide +kernel
theorem dX10_goesOnOf_251 : decode cX10_goesOnOf 251 = .ok (.aload_n 0, 1) := by decide +kernel
theorem dX10_goesOnOf_252 : decode cX10_goesOnOf 252 = .ok (.getfield 107, 3) := by decide +kernel
theorem dX10_goesOnOf_255 : decode cX10_goesOnOf 255 = .ok (.iload_n 2, 1) := by decide +kernel
theorem dX10_goesOnOf_256 : decode cX10_goesOnOf 256 = .ok (.iaload, 1) := by decide +kernel
theorem dX10_goesOnOf_257 : decode cX10_goesOnOf 257 = .ok (.aload_n 0, 1) := by decide +kernel
theorem dX10_goesOnOf_258 : decode cX10_goesOnOf 258 = .ok (.getfield 233, 3) := by decide +kernel
theorem dX10_goesOnOf_261 : decode cX10_goesOnOf 261 = .ok (.aload_n 0, 1) := by decide +kernel
theorem dX10_goesOnOf_262 : decode cX10_goesOnOf 262 = .ok (.getfield 104, 3) := by decide +kernel
theorem dX10_goesOnOf_265 : decode cX10_goesOnOf 265 = .ok (.iload_n 2, 1) := by decide +kernel
theorem dX10_goesOnOf_266 : decode cX10_goesOnOf 266 = .ok (.iaload, 1) := by decide +kernel
theorem dX10_goesOnOf_267 : decode cX10_goesOnOf 267 = .ok (.invokevirtual 302, 3) := by decide +kernel
theorem dX10_goesOnOf_270 : decode cX10_goesOnOf 270 = .ok (.goto 100, 3) := by decide +kernel
theorem dX10_goesOnOf_273 : decode cX10_goesOnOf 273 = .ok (.aload_n 0, 1) := by decide +kernel
theorem dX10_goesOnOf_274 : decode cX10_goesOnOf 274 = .ok (.aload_n 0, 1) := by decide +kernel
theorem dX10_goesOnOf_275 : decode cX10_goesOnOf 275 = .ok (.iconst 2, 1) := by decide +kernel
theorem dX10_goesOnOf_276 : decode cX10_goesOnOf 276 = .ok (.iconst 0, 1) := by decide +kernel
theorem dX10_goesOnOf_277 : decode cX10_goesOnOf 277 = .ok (.aload_n 0, 1) := by decide +kernel
theorem dX10_goesOnOf_278 : decode cX10_goesOnOf 278 = .ok (.getfield 233, 3) := by decide +kernel
theorem dX10_goesOnOf_281 : decode cX10_goesOnOf 281 = .ok (.iconst 0, 1) := by decide +kernel
theorem dX10_goesOnOf_282 : decode cX10_goesOnOf 282 = .ok (.invokevirtual 249, 3) := by decide +kernel
theorem dX10_goesOnOf_285 : decode cX10_goesOnOf 285 = .ok (.invokevirtual 253, 3) := by decide +kernel
theorem dX10_goesOnOf_288 : decode cX10_goesOnOf 288 = .ok (.goto 82, 3) := by decide +kernel
theorem dX10_goesOnOf_291 : decode cX10_goesOnOf 291 = .ok (.aload_n 0, 1) := by decide +kernel
theorem dX10_goesOnOf_292 : decode cX10_goesOnOf 292 = .ok (.aload_n 0, 1) := by decide +kernel
theorem dX10_goesOnOf_293 : decode cX10_goesOnOf 293 = .ok (.iconst 2, 1) := by decide +kernel
theorem dX10_goesOnOf_294 : decode cX10_goesOnOf 294 = .ok (.iconst 1, 1) := by decide +kernel
theorem dX10_goesOnOf_295 : decode cX10_goesOnOf 295 = .ok (.aload_n 0, 1) := by decide +kernel
theorem dX10_goesOnOf_296 : decode cX10_goesOnOf 296 = .ok (.getfield 233, 3) := by decide +kernel
theorem dX10_goesOnOf_299 : decode cX10_goesOnOf 299 = .ok (.iconst 0, 1) := by decide +kernel
theorem dX10_goesOnOf_300 : decode cX10_goesOnOf 300 = .ok (.invokevirtual 249, 3) := by decide +kernel
theorem dX10_goesOnOf_303 : decode cX10_goesOnOf 303 = .ok (.invokevirtual 253, 3) := by decide +kernel
theorem dX10_goesOnOf_306 : decode cX10_goesOnOf 306 = .ok (.goto 64, 3) := by decide +kernel
theorem dX10_goesOnOf_309 : decode cX10_goesOnOf 309 = .ok (.aload_n 0, 1) := by decide +kernel
theorem dX10_goesOnOf_310 : decode cX10_goesOnOf 310 = .ok (.aload_n 0, 1) := by decide +kernel
theorem dX10_goesOnOf_311 : decode cX10_goesOnOf 311 = .ok (.iconst 2, 1) := by decide +kernel
theorem dX10_goesOnOf_312 : decode cX10_goesOnOf 312 = .ok (.iconst 2, 1) := by decide +kernel
theorem dX10_goesOnOf_313 : decode cX10_goesOnOf 313 = .ok (.aload_n 0, 1) := by decide +kernel
theorem dX10_goesOnOf_314 : decode cX10_goesOnOf 314 = .ok (.getfield 107, 3) := by decide +kernel
theorem dX10_goesOnOf_317 : decode cX10_goesOnOf 317 = .ok (.iload_n 2, 1) := by decide +kernel
theorem dX10_goesOnOf_318 : decode cX10_goesOnOf 318 = .ok (.iaload, 1) := by decide +kernel
theorem dX10_goesOnOf_319 : decode cX10_goesOnOf 319 = .ok (.aload_n 0, 1) := by decide +kernel
theorem dX10_goesOnOf_320 : decode cX10_goesOnOf 320 = .ok (.getfield 233, 3) := by decide +kernel
theorem dX10_goesOnOf_323 : decode cX10_goesOnOf 323 = .ok (.invokevirtual 249, 3) := by decide +kernel
theorem dX10_goesOnOf_326 : decode cX10_goesOnOf 326 = .ok (.invokevirtual 253, 3) := by decide +kernel
theorem dX10_goesOnOf_329 : decode cX10_goesOnOf 329 = .ok (.goto 41, 3) := by decide +kernel
theorem dX10_goesOnOf_332 : decode cX10_goesOnOf 332 = .ok (.aload_n 0, 1) := by decide +kernel
theorem dX10_goesOnOf_333 : decode cX10_goesOnOf 333 = .ok (.aload_n 0, 1) := by decide +kernel
theorem dX10_goesOnOf_334 : decode cX10_goesOnOf 334 = .ok (.iconst 2, 1) := by decide +kernel
theorem dX10_goesOnOf_335 : decode cX10_goesOnOf 335 = .ok (.iconst 3, 1) := by decide +kernel
theorem dX10_goesOnOf_336 : decode cX10_goesOnOf 336 = .ok (.aload_n 0, 1) := by decide +kernel
theorem dX10_goesOnOf_337 : decode cX10_goesOnOf 337 = .ok (.getfield 107, 3) := by decide +kernel
theorem dX10_goesOnOf_340 : decode cX10_goesOnOf 340 = .ok (.iload_n 2, 1) := by decide +kernel
theorem dX10_goesOnOf_341 : decode cX10_goesOnOf 341 = .ok (.iaload, 1) := by decide +kernel
theorem dX10_goesOnOf_342 : decode cX10_goesOnOf 342 = .ok (.aload_n 0, 1) := by decide +kernel
theorem dX10_goesOnOf_343 : decode cX10_goesOnOf 343 = .ok (.getfield 233, 3) := by decide +kernel
theorem dX10_goesOnOf_346 : decode cX10_goesOnOf 346 = .ok (.invokevirtual 249, 3) := by decide +kernel
theorem dX10_goesOnOf_349 : decode cX10_goesOnOf 349 = .ok (.invokevirtual 253, 3) := by decide +kernel
theorem dX10_goesOnOf_352 : decode cX10_goesOnOf 352 = .ok (.goto 18, 3) := by decide +kernel
theorem dX10_goesOnOf_355 : decode cX10_goesOnOf 355 = .ok (.aload_n 0, 1) := by decide +kernel
theorem dX10_goesOnOf_356 : decode cX10_goesOnOf 356 = .ok (.iload_n 1, 1) := by decide +kernel
theorem dX10_goesOnOf_357 : decode cX10_goesOnOf 357 = .ok (.invokevirtual 305, 3) := by decide +kernel
theorem dX10_goesOnOf_360 : decode cX10_goesOnOf 360 = .ok (.goto 10, 3) := by decide +kernel
theorem dX10_goesOnOf_363 : decode cX10_goesOnOf 363 = .ok (.aload_n 0, 1) := by decide +kernel
theorem dX10_goesOnOf_364 : decode cX10_goesOnOf 364 = .ok (.invokevirtual 308, 3) := by decide +kernel
theorem dX10_goesOnOf_367 : decode cX10_goesOnOf 367 = .ok (.goto 3, 3) := by decide +kernel
theorem dX10_goesOnOf_370 : decode cX10_goesOnOf 370 = .ok (.return_, 1) := by decide +kernel
theorem dX10_goesOn_0 : decode cX10_goesOn 0 = .ok (.aload_n 0, 1) := by decide +kernel
theorem dX10_goesOn_1 : decode cX10_goesOn 1 = .ok (.dup, 1) := by decide +kernel
theorem dX10_goesOn_2 : decode cX10_goesOn 2 = .ok (.getfield 243, 3) := by decide +kernel
theorem dX10_goesOn_5 : decode cX10_goesOn 5 = .ok (.iconst 1, 1) := by decide +kernel
theorem dX10_goesOn_6 : decode cX10_goesOn 6 = .ok (.isub, 1) := by decide +kernel
theorem dX10_goesOn_7 : decode cX10_goesOn 7 = .ok (.putfield 243, 3) := by decide +kernel
theorem dX10_goesOn_10 : decode cX10_goesOn 10 = .ok (.aload_n 0, 1) := by decide +kernel
theorem dX10_goesOn_11 : decode cX10_goesOn 11 = .ok (.getfield 243, 3) := by decide +kernel
theorem dX10_goesOn_14 : decode cX10_goesOn 14 = .ok (.istore_n 1, 1) := by decide +kernel
theorem dX10_goesOn_15 : decode cX10_goesOn 15 = .ok (.aload_n 0, 1) := by decide +kernel
theorem dX10_goesOn_16 : decode cX10_goesOn 16 = .ok (.getfield 95, 3) := by decide +kernel
theorem dX10_goesOn_19 : decode cX10_goesOn 19 = .ok (.iload_n 1, 1) := by decide +kernel
theorem dX10_goesOn_20 : decode cX10_goesOn 20 = .ok (.iaload, 1) := by decide +kernel
theorem dX10_goesOn_21 : decode cX10_goesOn 21 = .ok (.istore_n 2, 1) := by decide +kernel
theorem dX10_goesOn_22 : decode cX10_goesOn 22 = .ok (.iload_n 2, 1) := by decide +kernel
theorem dX10_goesOn_23 : decode cX10_goesOn 23 = .ok (.iconst (-1), 1) := by decide +kernel
theorem dX10_goesOn_24 : decode cX10_goesOn 24 = .ok (.if_icmp .ne 16, 3) := by decide +kernel
theorem dX10_goesOn_27 : decode cX10_goesOn 27 = .ok (.aload_n 0, 1) := by decide +kernel
theorem dX10_goesOn_28 : decode cX10_goesOn 28 = .ok (.dup, 1) := by decide +kernel
theorem dX10_goesOn_29 : decode cX10_goesOn 29 = .ok (.getfield 275, 3) := by decide +kernel
theorem dX10_goesOn_32 : decode cX10_goesOn 32 = .ok (.iconst 1, 1) := by decide +kernel
theorem dX10_goesOn_33 : decode cX10_goesOn 33 = .ok (.isub, 1) := by decide +kernel
theorem dX10_goesOn_34 : decode cX10_goesOn 34 = .ok (.putfield 275, 3) := by decide +kernel
theorem dX10_goesOn_37 : decode cX10_goesOn 37 = .ok (.goto 73, 3) := by decide +kernel
theorem dX10_goesOn_40 : decode cX10_goesOn 40 = .ok (.aload_n 0, 1) := by decide +kernel
theorem dX10_goesOn_41 : decode cX10_goesOn 41 = .ok (.getfield 13, 3) := by decide +kernel
theorem dX10_goesOn_44 : decode cX10_goesOn 44 = .ok (.iload_n 2, 1) := by decide +kernel
theorem dX10_goesOn_45 : decode cX10_goesOn 45 = .ok (.iaload, 1) := by decide +kernel
theorem dX10_goesOn_46 : decode cX10_goesOn 46 = .ok (.bipush 64, 2) := by decide +kernel
theorem dX10_goesOn_48 : decode cX10_goesOn 48 = .ok (.if_icmp .ne 33, 3) := by decide +kernel
theorem dX10_goesOn_51 : decode cX10_goesOn 51 = .ok (.aload_n 0, 1) := by decide +kernel
theorem dX10_goesOn_52 : decode cX10_goesOn 52 = .ok (.getfield 98, 3) := by decide +kernel
theorem dX10_goesOn_55 : decode cX10_goesOn 55 = .ok (.iload_n 1, 1) := by decide +kernel
theorem dX10_goesOn_56 : decode cX10_goesOn 56 = .ok (.iaload, 1) := by decide +kernel
theorem dX10_goesOn_57 : decode cX10_goesOn 57 = .ok (.ifCond .ne 24, 3) := by decide +kernel
theorem dX10_goesOn_60 : decode cX10_goesOn 60 = .ok (.aload_n 0, 1) := by decide +kernel
theorem dX10_goesOn_61 : decode cX10_goesOn 61 = .ok (.getfield 65, 3) := by decide +kernel
theorem dX10_goesOn_64 : decode cX10_goesOn 64 = .ok (.aload_n 0, 1) := by decide +kernel
theorem dX10_goesOn_65 : decode cX10_goesOn 65 = .ok (.getfield 233, 3) := by decide +kernel
theorem dX10_goesOn_68 : decode cX10_goesOn 68 = .ok (.iaload, 1) := by decide +kernel
theorem dX10_goesOn_69 : decode cX10_goesOn 69 = .ok (.iconst 1, 1) := by decide +kernel
theorem dX10_goesOn_70 : decode cX10_goesOn 70 = .ok (.if_icmp .eq 11, 3) := by decide +kernel
theorem dX10_goesOn_73 : decode cX10_goesOn 73 = .ok (.aload_n 0, 1) := by decide +kernel
theorem dX10_goesOn_74 : decode cX10_goesOn 74 = .ok (.iconst 2, 1) := by decide +kernel
theorem dX10_goesOn_75 : decode cX10_goesOn 75 = .ok (.invokevirtual 259, 3) := by decide +kernel
theorem dX10_goesOn_78 : decode cX10_goesOn 78 = .ok (.goto 32, 3) := by decide +kernel
theorem dX10_goesOn_81 : decode cX10_goesOn 81 = .ok (.aload_n 0, 1) := by decide +kernel
theorem dX10_goesOn_82 : decode cX10_goesOn 82 = .ok (.aload_n 0, 1) := by decide +kernel
theorem dX10_goesOn_83 : decode cX10_goesOn 83 = .ok (.getfield 13, 3) := by decide +kernel
theorem dX10_goesOn_86 : decode cX10_goesOn 86 = .ok (.iload_n 2, 1) := by decide +kernel
theorem dX10_goesOn_87 : decode cX10_goesOn 87 = .ok (.iaload, 1) := by decide +kernel
theorem dX10_goesOn_88 : decode cX10_goesOn 88 = .ok (.iload_n 1, 1) := by decide +kernel
theorem dX10_goesOn_89 : decode cX10_goesOn 89 = .ok (.invokevirtual 311, 3) := by decide +kernel
theorem dX10_goesOn_92 : decode cX10_goesOn 92 = .ok (.ifCond .eq 12, 3) := by decide +kernel
theorem dX10_goesOn_95 : decode cX10_goesOn 95 = .ok (.aload_n 0, 1) := by decide +kernel
theorem dX10_goesOn_96 : decode cX10_goesOn 96 = .ok (.iload_n 2, 1) := by decide +kernel
theorem dX10_goesOn_97 : decode cX10_goesOn 97 = .ok (.iload_n 1, 1) := by decide +kernel
theorem dX10_goesOn_98 : decode cX10_goesOn 98 = .ok (.invokevirtual 314, 3) := by decide +kernel
theorem dX10_goesOn_101 : decode cX10_goesOn 101 = .ok (.goto 9, 3) := by decide +kernel
theorem dX10_goesOn_104 : decode cX10_goesOn 104 = .ok (.aload_n 0, 1) := by decide +kernel
theorem dX10_goesOn_105 : decode cX10_goesOn 105 = .ok (.iload_n 2, 1) := by decide +kernel
theorem dX10_goesOn_106 : decode cX10_goesOn 106 = .ok (.iload_n 1, 1) := by decide +kernel
theorem dX10_goesOn_107 : decode cX10_goesOn 107 = .ok (.invokevirtual 317, 3) := by decide +kernel
theorem dX10_goesOn_110 : decode cX10_goesOn 110 = .ok (.return_, 1) := by decide +kernel
theorem dX10_falls_0 : decode cX10_falls 0 = .ok (.aload_n 0, 1) := by decide +kernel
theorem dX10_falls_1 : decode cX10_falls 1 = .ok (.dup, 1) := by decide +kernel
theorem dX10_falls_2 : decode cX10_falls 2 = .ok (.getfield 243, 3) := by decide +kernel
theorem dX10_falls_5 : decode cX10_falls 5 = .ok (.iconst 1, 1) := by decide +kernel
theorem dX10_falls_6 : decode cX10_falls 6 = .ok (.isub, 1) := by decide +kernel
theorem dX10_falls_7 : decode cX10_falls 7 = .ok (.putfield 243, 3) := by decide +kernel
theorem dX10_falls_10 : decode cX10_falls 10 = .ok (.aload_n 0, 1) := by decide +kernel
theorem dX10_falls_11 : decode cX10_falls 11 = .ok (.getfield 95, 3) := by decide +kernel
theorem dX10_falls_14 : decode cX10_falls 14 = .ok (.aload_n 0, 1) := by decide +kernel
theorem dX10_falls_15 : decode cX10_falls 15 = .ok (.getfield 243, 3) := by decide +kernel
theorem dX10_falls_18 : decode cX10_falls 18 = .ok (.iaload, 1) := by decide +kernel
theorem dX10_falls_19 : decode cX10_falls 19 = .ok (.istore_n 1, 1) := by decide +kernel
theorem dX10_falls_20 : decode cX10_falls 20 = .ok (.iload_n 1, 1) := by decide +kernel
theorem dX10_falls_21 : decode cX10_falls 21 = .ok (.iconst (-1), 1) := by decide +kernel
theorem dX10_falls_22 : decode cX10_falls 22 = .ok (.if_icmp .ne 14, 3) := by decide +kernel
theorem dX10_falls_25 : decode cX10_falls 25 = .ok (.aload_n 0, 1) := by decide +kernel
theorem dX10_falls_26 : decode cX10_falls 26 = .ok (.dup, 1) := by decide +kernel
theorem dX10_falls_27 : decode cX10_falls 27 = .ok (.getfield 275, 3) := by decide +kernel
theorem dX10_falls_30 : decode cX10_falls 30 = .ok (.iconst 1, 1) := by decide +kernel
theorem dX10_falls_31 : decode cX10_falls 31 = .ok (.isub, 1) := by decide +kernel
theorem dX10_falls_32 : decode cX10_falls 32 = .ok (.putfield 275, 3) := by decide +kernel
theorem dX10_falls_35 : decode cX10_falls 35 = .ok (.return_, 1) := by decide +kernel
theorem dX10_falls_36 : decode cX10_falls 36 = .ok (.aload_n 0, 1) := by decide +kernel
theorem dX10_falls_37 : decode cX10_falls 37 = .ok (.getfield 89, 3) := by decide +kernel
theorem dX10_falls_40 : decode cX10_falls 40 = .ok (.aload_n 0, 1) := by decide +kernel
theorem dX10_falls_41 : decode cX10_falls 41 = .ok (.getfield 240, 3) := by decide +kernel
theorem dX10_falls_44 : decode cX10_falls 44 = .ok (.iaload, 1) := by decide +kernel
theorem dX10_falls_45 : decode cX10_falls 45 = .ok (.istore_n 2, 1) := by decide +kernel
theorem dX10_falls_46 : decode cX10_falls 46 = .ok (.aload_n 0, 1) := by decide +kernel
theorem dX10_falls_47 : decode cX10_falls 47 = .ok (.getfield 13, 3) := by decide +kernel
theorem dX10_falls_50 : decode cX10_falls 50 = .ok (.iload_n 1, 1) := by decide +kernel
theorem dX10_falls_51 : decode cX10_falls 51 = .ok (.iaload, 1) := by decide +kernel
theorem dX10_falls_52 : decode cX10_falls 52 = .ok (.bipush 87, 2) := by decide +kernel
theorem dX10_falls_54 : decode cX10_falls 54 = .ok (.if_icmp .ne 17, 3) := by decide +kernel
theorem dX10_falls_57 : decode cX10_falls 57 = .ok (.aload_n 0, 1) := by decide +kernel
theorem dX10_falls_58 : decode cX10_falls 58 = .ok (.aload_n 0, 1) := by decide +kernel
theorem dX10_falls_59 : decode cX10_falls 59 = .ok (.bipush 7, 2) := by decide +kernel
theorem dX10_falls_61 : decode cX10_falls 61 = .ok (.aload_n 0, 1) := by decide +kernel
theorem dX10_falls_62 : decode cX10_falls 62 = .ok (.getfield 240, 3) := by decide +kernel
theorem dX10_falls_65 : decode cX10_falls 65 = .ok (.invokevirtual 236, 3) := by decide +kernel
theorem dX10_falls_68 : decode cX10_falls 68 = .ok (.putfield 240, 3) := by decide +kernel
theorem dX10_falls_71 : decode cX10_falls 71 = .ok (.aload_n 0, 1) := by decide +kernel
theorem dX10_falls_72 : decode cX10_falls 72 = .ok (.getfield 13, 3) := by decide +kernel
theorem dX10_falls_75 : decode cX10_falls 75 = .ok (.iload_n 1, 1) := by decide +kernel
theorem dX10_falls_76 : decode cX10_falls 76 = .ok (.iaload, 1) := by decide +kernel
theorem dX10_falls_77 : decode cX10_falls 77 = .ok (.bipush 89, 2) := by decide +kernel
theorem dX10_falls_79 : decode cX10_falls 79 = .ok (.if_icmp .ne 14, 3) := by decide +kernel
theorem dX10_falls_82 : decode cX10_falls 82 = .ok (.iload_n 2, 1) := by decide +kernel
theorem dX10_falls_83 : decode cX10_falls 83 = .ok (.iconst 5, 1) := by decide +kernel
theorem dX10_falls_84 : decode cX10_falls 84 = .ok (.if_icmp .eq 9, 3) := by decide +kernel
theorem dX10_falls_87 : decode cX10_falls 87 = .ok (.iload_n 2, 1) := by decide +kernel
theorem dX10_falls_88 : decode cX10_falls 88 = .ok (.bipush 6, 2) := by decide +kernel
theorem dX10_falls_90 : decode cX10_falls 90 = .ok (.if_icmp .ne 4, 3) := by decide +kernel
theorem dX10_falls_93 : decode cX10_falls 93 = .ok (.return_, 1) := by decide +kernel
theorem dX10_falls_94 : decode cX10_falls 94 = .ok (.aload_n 0, 1) := by decide +kernel
theorem dX10_falls_95 : decode cX10_falls 95 = .ok (.aload_n 0, 1) := by decide +kernel
theorem dX10_falls_96 : decode cX10_falls 96 = .ok (.getfield 19, 3) := by decide +kernel
theorem dX10_falls_99 : decode cX10_falls 99 = .ok (.iload_n 1, 1) := by decide +kernel
theorem dX10_falls_100 : decode cX10_falls 100 = .ok (.iaload, 1) := by decide +kernel
theorem dX10_falls_101 : decode cX10_falls 101 = .ok (.aload_n 0, 1) := by decide +kernel
theorem dX10_falls_102 : decode cX10_falls 102 = .ok (.aload_n 0, 1) := by decide +kernel
theorem dX10_falls_103 : decode cX10_falls 103 = .ok (.getfield 25, 3) := by decide +kernel
theorem dX10_falls_106 : decode cX10_falls 106 = .ok (.iload_n 1, 1) := by decide +kernel
theorem dX10_falls_107 : decode cX10_falls 107 = .ok (.iaload, 1) := by decide +kernel
theorem dX10_falls_108 : decode cX10_falls 108 = .ok (.aload_n 0, 1) := by decide +kernel
theorem dX10_falls_109 : decode cX10_falls 109 = .ok (.iconst 0, 1) := by decide +kernel
theorem dX10_falls_110 : decode cX10_falls 110 = .ok (.iload_n 2, 1) := by decide +kernel
theorem dX10_falls_111 : decode cX10_falls 111 = .ok (.iconst 0, 1) := by decide +kernel
theorem dX10_falls_112 : decode cX10_falls 112 = .ok (.iconst 0, 1) := by decide +kernel
theorem dX10_falls_113 : decode cX10_falls 113 = .ok (.invokevirtual 249, 3) := by decide +kernel
theorem dX10_falls_116 : decode cX10_falls 116 = .ok (.aload_n 0, 1) := by decide +kernel
theorem dX10_falls_117 : decode cX10_falls 117 = .ok (.getfield 101, 3) := by decide +kernel
theorem dX10_falls_120 : decode cX10_falls 120 = .ok (.aload_n 0, 1) := by decide +kernel
theorem dX10_falls_121 : decode cX10_falls 121 = .ok (.getfield 243, 3) := by decide +kernel
theorem dX10_falls_124 : decode cX10_falls 124 = .ok (.iaload, 1) := by decide +kernel
theorem dX10_falls_125 : decode cX10_falls 125 = .ok (.invokevirtual 281, 3) := by decide +kernel
theorem dX10_falls_128 : decode cX10_falls 128 = .ok (.aload_n 0, 1) := by decide +kernel
theorem dX10_falls_129 : decode cX10_falls 129 = .ok (.getfield 104, 3) := by decide +kernel
theorem dX10_falls_132 : decode cX10_falls 132 = .ok (.aload_n 0, 1) := by decide +kernel
theorem dX10_falls_133 : decode cX10_falls 133 = .ok (.getfield 243, 3) := by decide +kernel
theorem dX10_falls_136 : decode cX10_falls 136 = .ok (.iaload, 1) := by decide +kernel
theorem dX10_falls_137 : decode cX10_falls 137 = .ok (.invokevirtual 268, 3) := by decide +kernel
theorem dX10_falls_140 : decode cX10_falls 140 = .ok (.return_, 1) := by decide +kernel
theorem dX10_goes_0 : decode cX10_goes 0 = .ok (.aload_n 0, 1) := by decide +kernel
theorem dX10_goes_1 : decode cX10_goes 1 = .ok (.iconst 0, 1) := by decide +kernel
theorem dX10_goes_2 : decode cX10_goes 2 = .ok (.putfield 209, 3) := by decide +kernel
theorem dX10_goes_5 : decode cX10_goes 5 = .ok (.aload_n 0, 1) := by decide +kernel
theorem dX10_goes_6 : decode cX10_goes 6 = .ok (.iconst 0, 1) := by decide +kernel
theorem dX10_goes_7 : decode cX10_goes 7 = .ok (.putfield 212, 3) := by decide +kernel
theorem dX10_goes_10 : decode cX10_goes 10 = .ok (.aload_n 0, 1) := by decide +kernel
theorem dX10_goes_11 : decode cX10_goes 11 = .ok (.iconst 1, 1) := by decide +kernel
theorem dX10_goes_12 : decode cX10_goes 12 = .ok (.putfield 215, 3) := by decide +kernel
theorem dX10_goes_15 : decode cX10_goes 15 = .ok (.aload_n 0, 1) := by decide +kernel
theorem dX10_goes_16 : decode cX10_goes 16 = .ok (.iconst 0, 1) := by decide +kernel
theorem dX10_goes_17 : decode cX10_goes 17 = .ok (.putfield 218, 3) := by decide +kernel
theorem dX10_goes_20 : decode cX10_goes 20 = .ok (.aload_n 0, 1) := by decide +kernel
theorem dX10_goes_21 : decode cX10_goes 21 = .ok (.iconst 0, 1) := by decide +kernel
theorem dX10_goes_22 : decode cX10_goes 22 = .ok (.putfield 243, 3) := by decide +kernel
theorem dX10_goes_25 : decode cX10_goes 25 = .ok (.aload_n 0, 1) := by decide +kernel
theorem dX10_goes_26 : decode cX10_goes 26 = .ok (.iconst 0, 1) := by decide +kernel
theorem dX10_goes_27 : decode cX10_goes 27 = .ok (.putfield 256, 3) := by decide +kernel
theorem dX10_goes_30 : decode cX10_goes 30 = .ok (.aload_n 0, 1) := by decide +kernel
theorem dX10_goes_31 : decode cX10_goes 31 = .ok (.iconst 0, 1) := by decide +kernel
theorem dX10_goes_32 : decode cX10_goes 32 = .ok (.putfield 275, 3) := by decide +kernel
theorem dX10_goes_35 : decode cX10_goes 35 = .ok (.aload_n 0, 1) := by decide +kernel
theorem dX10_goes_36 : decode cX10_goes 36 = .ok (.iconst 0, 1) := by decide +kernel
theorem dX10_goes_37 : decode cX10_goes 37 = .ok (.putfield 278, 3) := by decide +kernel
theorem dX10_goes_40 : decode cX10_goes 40 = .ok (.aload_n 0, 1) := by decide +kernel
theorem dX10_goes_41 : decode cX10_goes 41 = .ok (.iconst 0, 1) := by decide +kernel
theorem dX10_goes_42 : decode cX10_goes 42 = .ok (.putfield 272, 3) := by decide +kernel
theorem dX10_goes_45 : decode cX10_goes 45 = .ok (.aload_n 0, 1) := by decide +kernel
theorem dX10_goes_46 : decode cX10_goes 46 = .ok (.aload_n 0, 1) := by decide +kernel
theorem dX10_goes_47 : decode cX10_goes 47 = .ok (.getfield 199, 3) := by decide +kernel
theorem dX10_goes_50 : decode cX10_goes 50 = .ok (.iconst 0, 1) := by decide +kernel
theorem dX10_goes_51 : decode cX10_goes 51 = .ok (.iconst 0, 1) := by decide +kernel
theorem dX10_goes_52 : decode cX10_goes 52 = .ok (.invokevirtual 268, 3) := by decide +kernel
theorem dX10_goes_55 : decode cX10_goes 55 = .ok (.aload_n 0, 1) := by decide +kernel
theorem dX10_goes_56 : decode cX10_goes 56 = .ok (.getfield 221, 3) := by decide +kernel
theorem dX10_goes_59 : decode cX10_goes 59 = .ok (.ifCond .eq 10, 3) := by decide +kernel
theorem dX10_goes_62 : decode cX10_goes 62 = .ok (.aload_n 0, 1) := by decide +kernel
theorem dX10_goes_63 : decode cX10_goes 63 = .ok (.getfield 243, 3) := by decide +kernel
theorem dX10_goes_66 : decode cX10_goes 66 = .ok (.ifCond .le 39, 3) := by decide +kernel
theorem dX10_goes_69 : decode cX10_goes 69 = .ok (.aload_n 0, 1) := by decide +kernel
theorem dX10_goes_70 : decode cX10_goes 70 = .ok (.getfield 221, 3) := by decide +kernel
theorem dX10_goes_73 : decode cX10_goes 73 = .ok (.ifCond .ne 10, 3) := by decide +kernel
theorem dX10_goes_76 : decode cX10_goes 76 = .ok (.aload_n 0, 1) := by decide +kernel
theorem dX10_goes_77 : decode cX10_goes 77 = .ok (.invokevirtual 320, 3) := by decide +kernel
theorem dX10_goes_80 : decode cX10_goes 80 = .ok (.goto (-25), 3) := by decide +kernel
theorem dX10_goes_83 : decode cX10_goes 83 = .ok (.aload_n 0, 1) := by decide +kernel
theorem dX10_goes_84 : decode cX10_goes 84 = .ok (.getfield 221, 3) := by decide +kernel
theorem dX10_goes_87 : decode cX10_goes 87 = .ok (.iconst 1, 1) := by decide +kernel
theorem dX10_goes_88 : decode cX10_goes 88 = .ok (.if_icmp .ne 10, 3) := by decide +kernel
theorem dX10_goes_91 : decode cX10_goes 91 = .ok (.aload_n 0, 1) := by decide +kernel
theorem dX10_goes_92 : decode cX10_goes 92 = .ok (.invokevirtual 323, 3) := by decide +kernel
theorem dX10_goes_95 : decode cX10_goes 95 = .ok (.goto (-40), 3) := by decide +kernel
theorem dX10_goes_98 : decode cX10_goes 98 = .ok (.aload_n 0, 1) := by decide +kernel
theorem dX10_goes_99 : decode cX10_goes 99 = .ok (.invokevirtual 326, 3) := by decide +kernel
theorem dX10_goes_102 : decode cX10_goes 102 = .ok (.goto (-47), 3) := by decide +kernel
theorem dX10_goes_105 : decode cX10_goes 105 = .ok (.return_, 1) := by decide +kernel
theorem dX10_howNow_0 : decode cX10_howNow 0 = .ok (.aload_n 0, 1) := by decide +kernel
theorem dX10_howNow_1 : decode cX10_howNow 1 = .ok (.getfield 221, 3) := by decide +kernel
theorem dX10_howNow_4 : decode cX10_howNow 4 = .ok (.iconst 2, 1) := by decide +kernel
theorem dX10_howNow_5 : decode cX10_howNow 5 = .ok (.if_icmp .ne 7, 3) := by decide +kernel
theorem dX10_howNow_8 : decode cX10_howNow 8 = .ok (.iconst 3, 1) := by decide +kernel
theorem dX10_howNow_9 : decode cX10_howNow 9 = .ok (.goto 12, 3) := by decide +kernel
theorem dX10_howNow_12 : decode cX10_howNow 12 = .ok (.aload_n 0, 1) := by decide +kernel
theorem dX10_howNow_13 : decode cX10_howNow 13 = .ok (.getfield 65, 3) := by decide +kernel
theorem dX10_howNow_16 : decode cX10_howNow 16 = .ok (.aload_n 0, 1) := by decide +kernel
theorem dX10_howNow_17 : decode cX10_howNow 17 = .ok (.getfield 233, 3) := by decide +kernel
theorem dX10_howNow_20 : decode cX10_howNow 20 = .ok (.iaload, 1) := by decide +kernel
theorem dX10_howNow_21 : decode cX10_howNow 21 = .ok (.ireturn, 1) := by decide +kernel
theorem dX10_numberNow_0 : decode cX10_numberNow 0 = .ok (.aload_n 0, 1) := by decide +kernel
theorem dX10_numberNow_1 : decode cX10_numberNow 1 = .ok (.getfield 221, 3) := by decide +kernel
theorem dX10_numberNow_4 : decode cX10_numberNow 4 = .ok (.iconst 2, 1) := by decide +kernel
theorem dX10_numberNow_5 : decode cX10_numberNow 5 = .ok (.if_icmp .ne 15, 3) := by decide +kernel
theorem dX10_numberNow_8 : decode cX10_numberNow 8 = .ok (.aload_n 0, 1) := by decide +kernel
theorem dX10_numberNow_9 : decode cX10_numberNow 9 = .ok (.getfield 89, 3) := by decide +kernel
theorem dX10_numberNow_12 : decode cX10_numberNow 12 = .ok (.aload_n 0, 1) := by decide +kernel
theorem dX10_numberNow_13 : decode cX10_numberNow 13 = .ok (.getfield 240, 3) := by decide +kernel
theorem dX10_numberNow_16 : decode cX10_numberNow 16 = .ok (.iaload, 1) := by decide +kernel
theorem dX10_numberNow_17 : decode cX10_numberNow 17 = .ok (.goto 12, 3) := by decide +kernel
theorem dX10_numberNow_20 : decode cX10_numberNow 20 = .ok (.aload_n 0, 1) := by decide +kernel
theorem dX10_numberNow_21 : decode cX10_numberNow 21 = .ok (.getfield 68, 3) := by decide +kernel
theorem dX10_numberNow_24 : decode cX10_numberNow 24 = .ok (.aload_n 0, 1) := by decide +kernel
theorem dX10_numberNow_25 : decode cX10_numberNow 25 = .ok (.getfield 233, 3) := by decide +kernel
theorem dX10_numberNow_28 : decode cX10_numberNow 28 = .ok (.iaload, 1) := by decide +kernel
theorem dX10_numberNow_29 : decode cX10_numberNow 29 = .ok (.ireturn, 1) := by decide +kernel
theorem dX10_causesNow_0 : decode cX10_causesNow 0 = .ok (.iconst 0, 1) := by decide +kernel
theorem dX10_causesNow_1 : decode cX10_causesNow 1 = .ok (.istore_n 1, 1) := by decide +kernel
theorem dX10_causesNow_2 : decode cX10_causesNow 2 = .ok (.aload_n 0, 1) := by decide +kernel
theorem dX10_causesNow_3 : decode cX10_causesNow 3 = .ok (.getfield 221, 3) := by decide +kernel
theorem dX10_causesNow_6 : decode cX10_causesNow 6 = .ok (.iconst 2, 1) := by decide +kernel
theorem dX10_causesNow_7 : decode cX10_causesNow 7 = .ok (.if_icmp .ne 15, 3) := by decide +kernel
theorem dX10_causesNow_10 : decode cX10_causesNow 10 = .ok (.aload_n 0, 1) := by decide +kernel
theorem dX10_causesNow_11 : decode cX10_causesNow 11 = .ok (.getfield 92, 3) := by decide +kernel
theorem dX10_causesNow_14 : decode cX10_causesNow 14 = .ok (.aload_n 0, 1) := by decide +kernel
theorem dX10_causesNow_15 : decode cX10_causesNow 15 = .ok (.getfield 240, 3) := by decide +kernel
theorem dX10_causesNow_18 : decode cX10_causesNow 18 = .ok (.iaload, 1) := by decide +kernel
theorem dX10_causesNow_19 : decode cX10_causesNow 19 = .ok (.goto 5, 3) := by decide +kernel
theorem dX10_causesNow_22 : decode cX10_causesNow 22 = .ok (.bipush (-9), 2) := by decide +kernel
theorem dX10_causesNow_24 : decode cX10_causesNow 24 = .ok (.istore_n 2, 1) := by decide +kernel
theorem dX10_causesNow_25 : decode cX10_causesNow 25 = .ok (.iload_n 2, 1) := by decide +kernel
theorem dX10_causesNow_26 : decode cX10_causesNow 26 = .ok (.ifCond .lt 16, 3) := by decide +kernel
theorem dX10_causesNow_29 : decode cX10_causesNow 29 = .ok (.iinc 1 1, 3) := by decide +kernel
theorem dX10_causesNow_32 : decode cX10_causesNow 32 = .ok (.aload_n 0, 1) := by decide +kernel
theorem dX10_causesNow_33 : decode cX10_causesNow 33 = .ok (.getfield 92, 3) := by decide +kernel
theorem dX10_causesNow_36 : decode cX10_causesNow 36 = .ok (.iload_n 2, 1) := by decide +kernel
theorem dX10_causesNow_37 : decode cX10_causesNow 37 = .ok (.iaload, 1) := by decide +kernel
theorem dX10_causesNow_38 : decode cX10_causesNow 38 = .ok (.istore_n 2, 1) := by decide +kernel
theorem dX10_causesNow_39 : decode cX10_causesNow 39 = .ok (.goto (-14), 3) := by decide +kernel
theorem dX10_causesNow_42 : decode cX10_causesNow 42 = .ok (.iload_n 1, 1) := by decide +kernel
theorem dX10_causesNow_43 : decode cX10_causesNow 43 = .ok (.ireturn, 1) := by decide +kernel
theorem dX10_endedNow_0 : decode cX10_endedNow 0 = .ok (.iload_n 1, 1) := by decide +kernel
theorem dX10_endedNow_1 : decode cX10_endedNow 1 = .ok (.tableswitch 60 0 4 #[35, 40, 45, 50, 55], 35) := by decide +kernel
theorem dX10_endedNow_36 : decode cX10_endedNow 36 = .ok (.aload_n 0, 1) := by decide +kernel
theorem dX10_endedNow_37 : decode cX10_endedNow 37 = .ok (.invokevirtual 329, 3) := by decide +kernel
theorem dX10_endedNow_40 : decode cX10_endedNow 40 = .ok (.ireturn, 1) := by decide +kernel
theorem dX10_endedNow_41 : decode cX10_endedNow 41 = .ok (.aload_n 0, 1) := by decide +kernel
theorem dX10_endedNow_42 : decode cX10_endedNow 42 = .ok (.invokevirtual 332, 3) := by decide +kernel
theorem dX10_endedNow_45 : decode cX10_endedNow 45 = .ok (.ireturn, 1) := by decide +kernel
theorem dX10_endedNow_46 : decode cX10_endedNow 46 = .ok (.aload_n 0, 1) := by decide +kernel
theorem dX10_endedNow_47 : decode cX10_endedNow 47 = .ok (.getfield 256, 3) := by decide +kernel
theorem dX10_endedNow_50 : decode cX10_endedNow 50 = .ok (.ireturn, 1) := by decide +kernel
theorem dX10_endedNow_51 : decode cX10_endedNow 51 = .ok (.aload_n 0, 1) := by decide +kernel
theorem dX10_endedNow_52 : decode cX10_endedNow 52 = .ok (.getfield 278, 3) := by decide +kernel
theorem dX10_endedNow_55 : decode cX10_endedNow 55 = .ok (.ireturn, 1) := by decide +kernel
theorem dX10_endedNow_56 : decode cX10_endedNow 56 = .ok (.aload_n 0, 1) := by decide +kernel
theorem dX10_endedNow_57 : decode cX10_endedNow 57 = .ok (.getfield 272, 3) := by decide +kernel
theorem dX10_endedNow_60 : decode cX10_endedNow 60 = .ok (.ireturn, 1) := by decide +kernel
theorem dX10_endedNow_61 : decode cX10_endedNow 61 = .ok (.aload_n 0, 1) := by decide +kernel
theorem dX10_endedNow_62 : decode cX10_endedNow 62 = .ok (.invokevirtual 335, 3) := by decide +kernel
theorem dX10_endedNow_65 : decode cX10_endedNow 65 = .ok (.ireturn, 1) := by decide +kernel
theorem dX10_tellsLast_0 : decode cX10_tellsLast 0 = .ok (.aload_n 0, 1) := by decide +kernel
theorem dX10_tellsLast_1 : decode cX10_tellsLast 1 = .ok (.aload_n 0, 1) := by decide +kernel
theorem dX10_tellsLast_2 : decode cX10_tellsLast 2 = .ok (.invokevirtual 329, 3) := by decide +kernel
theorem dX10_tellsLast_5 : decode cX10_tellsLast 5 = .ok (.putfield 61, 3) := by decide +kernel
theorem dX10_tellsLast_8 : decode cX10_tellsLast 8 = .ok (.aload_n 0, 1) := by decide +kernel
theorem dX10_tellsLast_9 : decode cX10_tellsLast 9 = .ok (.aload_n 0, 1) := by decide +kernel
theorem dX10_tellsLast_10 : decode cX10_tellsLast 10 = .ok (.invokevirtual 332, 3) := by decide +kernel
theorem dX10_tellsLast_13 : decode cX10_tellsLast 13 = .ok (.putfield 338, 3) := by decide +kernel
theorem dX10_tellsLast_16 : decode cX10_tellsLast 16 = .ok (.aload_n 0, 1) := by decide +kernel
theorem dX10_tellsLast_17 : decode cX10_tellsLast 17 = .ok (.aload_n 0, 1) := by decide +kernel
theorem dX10_tellsLast_18 : decode cX10_tellsLast 18 = .ok (.getfield 256, 3) := by decide +kernel
theorem dX10_tellsLast_21 : decode cX10_tellsLast 21 = .ok (.putfield 341, 3) := by decide +kernel
theorem dX10_tellsLast_24 : decode cX10_tellsLast 24 = .ok (.aload_n 0, 1) := by decide +kernel
theorem dX10_tellsLast_25 : decode cX10_tellsLast 25 = .ok (.aload_n 0, 1) := by decide +kernel
theorem dX10_tellsLast_26 : decode cX10_tellsLast 26 = .ok (.getfield 278, 3) := by decide +kernel
theorem dX10_tellsLast_29 : decode cX10_tellsLast 29 = .ok (.putfield 344, 3) := by decide +kernel
theorem dX10_tellsLast_32 : decode cX10_tellsLast 32 = .ok (.aload_n 0, 1) := by decide +kernel
theorem dX10_tellsLast_33 : decode cX10_tellsLast 33 = .ok (.aload_n 0, 1) := by decide +kernel
theorem dX10_tellsLast_34 : decode cX10_tellsLast 34 = .ok (.getfield 272, 3) := by decide +kernel
theorem dX10_tellsLast_37 : decode cX10_tellsLast 37 = .ok (.putfield 347, 3) := by decide +kernel
theorem dX10_tellsLast_40 : decode cX10_tellsLast 40 = .ok (.aload_n 0, 1) := by decide +kernel
theorem dX10_tellsLast_41 : decode cX10_tellsLast 41 = .ok (.aload_n 0, 1) := by decide +kernel
theorem dX10_tellsLast_42 : decode cX10_tellsLast 42 = .ok (.invokevirtual 335, 3) := by decide +kernel
theorem dX10_tellsLast_45 : decode cX10_tellsLast 45 = .ok (.putfield 350, 3) := by decide +kernel
theorem dX10_tellsLast_48 : decode cX10_tellsLast 48 = .ok (.iconst 0, 1) := by decide +kernel
theorem dX10_tellsLast_49 : decode cX10_tellsLast 49 = .ok (.istore_n 1, 1) := by decide +kernel
theorem dX10_tellsLast_50 : decode cX10_tellsLast 50 = .ok (.aload_n 0, 1) := by decide +kernel
theorem dX10_tellsLast_51 : decode cX10_tellsLast 51 = .ok (.getfield 221, 3) := by decide +kernel
theorem dX10_tellsLast_54 : decode cX10_tellsLast 54 = .ok (.iconst 2, 1) := by decide +kernel
theorem dX10_tellsLast_55 : decode cX10_tellsLast 55 = .ok (.if_icmp .ne 10, 3) := by decide +kernel
theorem dX10_tellsLast_58 : decode cX10_tellsLast 58 = .ok (.aload_n 0, 1) := by decide +kernel
theorem dX10_tellsLast_59 : decode cX10_tellsLast 59 = .ok (.getfield 240, 3) := by decide +kernel
theorem dX10_tellsLast_62 : decode cX10_tellsLast 62 = .ok (.goto 5, 3) := by decide +kernel
theorem dX10_tellsLast_65 : decode cX10_tellsLast 65 = .ok (.bipush (-9), 2) := by decide +kernel
theorem dX10_tellsLast_67 : decode cX10_tellsLast 67 = .ok (.istore_n 2, 1) := by decide +kernel
theorem dX10_tellsLast_68 : decode cX10_tellsLast 68 = .ok (.iload_n 2, 1) := by decide +kernel
theorem dX10_tellsLast_69 : decode cX10_tellsLast 69 = .ok (.ifCond .lt 28, 3) := by decide +kernel
theorem dX10_tellsLast_72 : decode cX10_tellsLast 72 = .ok (.aload_n 0, 1) := by decide +kernel
theorem dX10_tellsLast_73 : decode cX10_tellsLast 73 = .ok (.getfield 58, 3) := by decide +kernel
theorem dX10_tellsLast_76 : decode cX10_tellsLast 76 = .ok (.iload_n 1, 1) := by decide +kernel
theorem dX10_tellsLast_77 : decode cX10_tellsLast 77 = .ok (.aload_n 0, 1) := by decide +kernel
theorem dX10_tellsLast_78 : decode cX10_tellsLast 78 = .ok (.getfield 89, 3) := by decide +kernel
theorem dX10_tellsLast_81 : decode cX10_tellsLast 81 = .ok (.iload_n 2, 1) := by decide +kernel
theorem dX10_tellsLast_82 : decode cX10_tellsLast 82 = .ok (.iaload, 1) := by decide +kernel
theorem dX10_tellsLast_83 : decode cX10_tellsLast 83 = .ok (.iastore, 1) := by decide +kernel
theorem dX10_tellsLast_84 : decode cX10_tellsLast 84 = .ok (.iinc 1 1, 3) := by decide +kernel
theorem dX10_tellsLast_87 : decode cX10_tellsLast 87 = .ok (.aload_n 0, 1) := by decide +kernel
theorem dX10_tellsLast_88 : decode cX10_tellsLast 88 = .ok (.getfield 92, 3) := by decide +kernel
theorem dX10_tellsLast_91 : decode cX10_tellsLast 91 = .ok (.iload_n 2, 1) := by decide +kernel
theorem dX10_tellsLast_92 : decode cX10_tellsLast 92 = .ok (.iaload, 1) := by decide +kernel
theorem dX10_tellsLast_93 : decode cX10_tellsLast 93 = .ok (.istore_n 2, 1) := by decide +kernel
theorem dX10_tellsLast_94 : decode cX10_tellsLast 94 = .ok (.goto (-26), 3) := by decide +kernel
theorem dX10_tellsLast_97 : decode cX10_tellsLast 97 = .ok (.return_, 1) := by decide +kernel
theorem dX10_run_0 : decode cX10_run 0 = .ok (.aload_n 0, 1) := by decide +kernel
theorem dX10_run_1 : decode cX10_run 1 = .ok (.invokevirtual 353, 3) := by decide +kernel
theorem dX10_run_4 : decode cX10_run 4 = .ok (.aload_n 0, 1) := by decide +kernel
theorem dX10_run_5 : decode cX10_run 5 = .ok (.invokevirtual 356, 3) := by decide +kernel
theorem dX10_run_8 : decode cX10_run 8 = .ok (.aload_n 0, 1) := by decide +kernel
theorem dX10_run_9 : decode cX10_run 9 = .ok (.aload_n 0, 1) := by decide +kernel
theorem dX10_run_10 : decode cX10_run 10 = .ok (.getfield 206, 3) := by decide +kernel
theorem dX10_run_13 : decode cX10_run 13 = .ok (.bipush 99, 2) := by decide +kernel
theorem dX10_run_15 : decode cX10_run 15 = .ok (.if_icmp .ge 12, 3) := by decide +kernel
theorem dX10_run_18 : decode cX10_run 18 = .ok (.aload_n 0, 1) := by decide +kernel
theorem dX10_run_19 : decode cX10_run 19 = .ok (.getfield 206, 3) := by decide +kernel
theorem dX10_run_22 : decode cX10_run 22 = .ok (.iconst 1, 1) := by decide +kernel
theorem dX10_run_23 : decode cX10_run 23 = .ok (.iadd, 1) := by decide +kernel
theorem dX10_run_24 : decode cX10_run 24 = .ok (.goto 7, 3) := by decide +kernel
theorem dX10_run_27 : decode cX10_run 27 = .ok (.aload_n 0, 1) := by decide +kernel
theorem dX10_run_28 : decode cX10_run 28 = .ok (.getfield 206, 3) := by decide +kernel
theorem dX10_run_31 : decode cX10_run 31 = .ok (.putfield 206, 3) := by decide +kernel
theorem dX10_run_34 : decode cX10_run 34 = .ok (.aload_n 0, 1) := by decide +kernel
theorem dX10_run_35 : decode cX10_run 35 = .ok (.getfield 61, 3) := by decide +kernel
theorem dX10_run_38 : decode cX10_run 38 = .ok (.ireturn, 1) := by decide +kernel
theorem dX10_ended_0 : decode cX10_ended 0 = .ok (.iload_n 1, 1) := by decide +kernel
theorem dX10_ended_1 : decode cX10_ended 1 = .ok (.iconst 0, 1) := by decide +kernel
theorem dX10_ended_2 : decode cX10_ended 2 = .ok (.iconst 5, 1) := by decide +kernel
theorem dX10_ended_3 : decode cX10_ended 3 = .ok (.invokestatic 134, 3) := by decide +kernel
theorem dX10_ended_6 : decode cX10_ended 6 = .ok (.ifCond .ne 8, 3) := by decide +kernel
theorem dX10_ended_9 : decode cX10_ended 9 = .ok (.bipush (-2), 2) := by decide +kernel
theorem dX10_ended_11 : decode cX10_ended 11 = .ok (.goto 16, 3) := by decide +kernel
theorem dX10_ended_14 : decode cX10_ended 14 = .ok (.aload_n 0, 1) := by decide +kernel
theorem dX10_ended_15 : decode cX10_ended 15 = .ok (.getfield 61, 3) := by decide +kernel
theorem dX10_ended_18 : decode cX10_ended 18 = .ok (.ifCond .ge 8, 3) := by decide +kernel
theorem dX10_ended_21 : decode cX10_ended 21 = .ok (.bipush (-3), 2) := by decide +kernel
theorem dX10_ended_23 : decode cX10_ended 23 = .ok (.goto 4, 3) := by decide +kernel
theorem dX10_ended_26 : decode cX10_ended 26 = .ok (.iconst 0, 1) := by decide +kernel
theorem dX10_ended_27 : decode cX10_ended 27 = .ok (.istore_n 2, 1) := by decide +kernel
theorem dX10_ended_28 : decode cX10_ended 28 = .ok (.iload_n 2, 1) := by decide +kernel
theorem dX10_ended_29 : decode cX10_ended 29 = .ok (.ifCond .eq 9, 3) := by decide +kernel
theorem dX10_ended_32 : decode cX10_ended 32 = .ok (.aload_n 0, 1) := by decide +kernel
theorem dX10_ended_33 : decode cX10_ended 33 = .ok (.iload_n 2, 1) := by decide +kernel
theorem dX10_ended_34 : decode cX10_ended 34 = .ok (.invokevirtual 359, 3) := by decide +kernel
theorem dX10_ended_37 : decode cX10_ended 37 = .ok (.ireturn, 1) := by decide +kernel
theorem dX10_ended_38 : decode cX10_ended 38 = .ok (.aload_n 0, 1) := by decide +kernel
theorem dX10_ended_39 : decode cX10_ended 39 = .ok (.getfield 110, 3) := by decide +kernel
theorem dX10_ended_42 : decode cX10_ended 42 = .ok (.astore_n 3, 1) := by decide +kernel
theorem dX10_ended_43 : decode cX10_ended 43 = .ok (.aload_n 3, 1) := by decide +kernel
theorem dX10_ended_44 : decode cX10_ended 44 = .ok (.iconst 0, 1) := by decide +kernel
theorem dX10_ended_45 : decode cX10_ended 45 = .ok (.aload_n 0, 1) := by decide +kernel
theorem dX10_ended_46 : decode cX10_ended 46 = .ok (.getfield 61, 3) := by decide +kernel
theorem dX10_ended_49 : decode cX10_ended 49 = .ok (.iastore, 1) := by decide +kernel
theorem dX10_ended_50 : decode cX10_ended 50 = .ok (.aload_n 3, 1) := by decide +kernel
theorem dX10_ended_51 : decode cX10_ended 51 = .ok (.iconst 1, 1) := by decide +kernel
theorem dX10_ended_52 : decode cX10_ended 52 = .ok (.aload_n 0, 1) := by decide +kernel
theorem dX10_ended_53 : decode cX10_ended 53 = .ok (.getfield 338, 3) := by decide +kernel
theorem dX10_ended_56 : decode cX10_ended 56 = .ok (.iastore, 1) := by decide +kernel
theorem dX10_ended_57 : decode cX10_ended 57 = .ok (.aload_n 3, 1) := by decide +kernel
theorem dX10_ended_58 : decode cX10_ended 58 = .ok (.iconst 2, 1) := by decide +kernel
theorem dX10_ended_59 : decode cX10_ended 59 = .ok (.aload_n 0, 1) := by decide +kernel
theorem dX10_ended_60 : decode cX10_ended 60 = .ok (.getfield 341, 3) := by decide +kernel
theorem dX10_ended_63 : decode cX10_ended 63 = .ok (.iastore, 1) := by decide +kernel
theorem dX10_ended_64 : decode cX10_ended 64 = .ok (.aload_n 3, 1) := by decide +kernel
theorem dX10_ended_65 : decode cX10_ended 65 = .ok (.iconst 3, 1) := by decide +kernel
theorem dX10_ended_66 : decode cX10_ended 66 = .ok (.aload_n 0, 1) := by decide +kernel
theorem dX10_ended_67 : decode cX10_ended 67 = .ok (.getfield 344, 3) := by decide +kernel
theorem dX10_ended_70 : decode cX10_ended 70 = .ok (.iastore, 1) := by decide +kernel
theorem dX10_ended_71 : decode cX10_ended 71 = .ok (.aload_n 3, 1) := by decide +kernel
theorem dX10_ended_72 : decode cX10_ended 72 = .ok (.iconst 4, 1) := by decide +kernel
theorem dX10_ended_73 : decode cX10_ended 73 = .ok (.aload_n 0, 1) := by decide +kernel
theorem dX10_ended_74 : decode cX10_ended 74 = .ok (.getfield 347, 3) := by decide +kernel
theorem dX10_ended_77 : decode cX10_ended 77 = .ok (.iastore, 1) := by decide +kernel
theorem dX10_ended_78 : decode cX10_ended 78 = .ok (.aload_n 3, 1) := by decide +kernel
theorem dX10_ended_79 : decode cX10_ended 79 = .ok (.iconst 5, 1) := by decide +kernel
theorem dX10_ended_80 : decode cX10_ended 80 = .ok (.aload_n 0, 1) := by decide +kernel
theorem dX10_ended_81 : decode cX10_ended 81 = .ok (.getfield 350, 3) := by decide +kernel
theorem dX10_ended_84 : decode cX10_ended 84 = .ok (.iastore, 1) := by decide +kernel
theorem dX10_ended_85 : decode cX10_ended 85 = .ok (.aload_n 3, 1) := by decide +kernel
theorem dX10_ended_86 : decode cX10_ended 86 = .ok (.iload_n 1, 1) := by decide +kernel
theorem dX10_ended_87 : decode cX10_ended 87 = .ok (.iaload, 1) := by decide +kernel
theorem dX10_ended_88 : decode cX10_ended 88 = .ok (.ireturn, 1) := by decide +kernel
theorem dX10_code_0 : decode cX10_code 0 = .ok (.aload_n 0, 1) := by decide +kernel
theorem dX10_code_1 : decode cX10_code 1 = .ok (.getfield 61, 3) := by decide +kernel
theorem dX10_code_4 : decode cX10_code 4 = .ok (.iconst 3, 1) := by decide +kernel
theorem dX10_code_5 : decode cX10_code 5 = .ok (.if_icmp .eq 10, 3) := by decide +kernel
theorem dX10_code_8 : decode cX10_code 8 = .ok (.aload_n 0, 1) := by decide +kernel
theorem dX10_code_9 : decode cX10_code 9 = .ok (.bipush (-3), 2) := by decide +kernel
theorem dX10_code_11 : decode cX10_code 11 = .ok (.invokevirtual 145, 3) := by decide +kernel
theorem dX10_code_14 : decode cX10_code 14 = .ok (.ireturn, 1) := by decide +kernel
theorem dX10_code_15 : decode cX10_code 15 = .ok (.iload_n 1, 1) := by decide +kernel
theorem dX10_code_16 : decode cX10_code 16 = .ok (.iconst 0, 1) := by decide +kernel
theorem dX10_code_17 : decode cX10_code 17 = .ok (.aload_n 0, 1) := by decide +kernel
theorem dX10_code_18 : decode cX10_code 18 = .ok (.getfield 350, 3) := by decide +kernel
theorem dX10_code_21 : decode cX10_code 21 = .ok (.invokestatic 134, 3) := by decide +kernel
theorem dX10_code_24 : decode cX10_code 24 = .ok (.ifCond .eq 12, 3) := by decide +kernel
theorem dX10_code_27 : decode cX10_code 27 = .ok (.aload_n 0, 1) := by decide +kernel
theorem dX10_code_28 : decode cX10_code 28 = .ok (.getfield 58, 3) := by decide +kernel
theorem dX10_code_31 : decode cX10_code 31 = .ok (.iload_n 1, 1) := by decide +kernel
theorem dX10_code_32 : decode cX10_code 32 = .ok (.iaload, 1) := by decide +kernel
theorem dX10_code_33 : decode cX10_code 33 = .ok (.goto 8, 3) := by decide +kernel
theorem dX10_code_36 : decode cX10_code 36 = .ok (.aload_n 0, 1) := by decide +kernel
theorem dX10_code_37 : decode cX10_code 37 = .ok (.iconst (-1), 1) := by decide +kernel
theorem dX10_code_38 : decode cX10_code 38 = .ok (.invokevirtual 145, 3) := by decide +kernel
theorem dX10_code_41 : decode cX10_code 41 = .ok (.ireturn, 1) := by decide +kernel
theorem dX10_global_0 : decode cX10_global 0 = .ok (.iload_n 1, 1) := by decide +kernel
theorem dX10_global_1 : decode cX10_global 1 = .ok (.invokestatic 362, 3) := by decide +kernel
theorem dX10_global_4 : decode cX10_global 4 = .ok (.ifCond .eq 12, 3) := by decide +kernel
theorem dX10_global_7 : decode cX10_global 7 = .ok (.aload_n 0, 1) := by decide +kernel
theorem dX10_global_8 : decode cX10_global 8 = .ok (.getfield 46, 3) := by decide +kernel
theorem dX10_global_11 : decode cX10_global 11 = .ok (.iload_n 1, 1) := by decide +kernel
theorem dX10_global_12 : decode cX10_global 12 = .ok (.iaload, 1) := by decide +kernel
theorem dX10_global_13 : decode cX10_global 13 = .ok (.goto 8, 3) := by decide +kernel
theorem dX10_global_16 : decode cX10_global 16 = .ok (.aload_n 0, 1) := by decide +kernel
theorem dX10_global_17 : decode cX10_global 17 = .ok (.iconst (-1), 1) := by decide +kernel
theorem dX10_global_18 : decode cX10_global 18 = .ok (.invokevirtual 359, 3) := by decide +kernel
theorem dX10_global_21 : decode cX10_global 21 = .ok (.ireturn, 1) := by decide +kernel
theorem dX10_sets_0 : decode cX10_sets 0 = .ok (.iload_n 1, 1) := by decide +kernel
theorem dX10_sets_1 : decode cX10_sets 1 = .ok (.invokestatic 362, 3) := by decide +kernel
theorem dX10_sets_4 : decode cX10_sets 4 = .ok (.ifCond .ne 7, 3) := by decide +kernel
theorem dX10_sets_7 : decode cX10_sets 7 = .ok (.iconst (-1), 1) := by decide +kernel
theorem dX10_sets_8 : decode cX10_sets 8 = .ok (.goto 13, 3) := by decide +kernel
theorem dX10_sets_11 : decode cX10_sets 11 = .ok (.iload_n 2, 1) := by decide +kernel
theorem dX10_sets_12 : decode cX10_sets 12 = .ok (.sipush (-9999), 3) := by decide +kernel
theorem dX10_sets_15 : decode cX10_sets 15 = .ok (.sipush 9999, 3) := by decide +kernel
theorem dX10_sets_18 : decode cX10_sets 18 = .ok (.invokestatic 138, 3) := by decide +kernel
theorem dX10_sets_21 : decode cX10_sets 21 = .ok (.istore_n 3, 1) := by decide +kernel
theorem dX10_sets_22 : decode cX10_sets 22 = .ok (.iload_n 3, 1) := by decide +kernel
theorem dX10_sets_23 : decode cX10_sets 23 = .ok (.ifCond .eq 9, 3) := by decide +kernel
theorem dX10_sets_26 : decode cX10_sets 26 = .ok (.aload_n 0, 1) := by decide +kernel
theorem dX10_sets_27 : decode cX10_sets 27 = .ok (.iload_n 3, 1) := by decide +kernel
theorem dX10_sets_28 : decode cX10_sets 28 = .ok (.invokevirtual 359, 3) := by decide +kernel
theorem dX10_sets_31 : decode cX10_sets 31 = .ok (.ireturn, 1) := by decide +kernel
theorem dX10_sets_32 : decode cX10_sets 32 = .ok (.aload_n 0, 1) := by decide +kernel
theorem dX10_sets_33 : decode cX10_sets 33 = .ok (.getfield 46, 3) := by decide +kernel
theorem dX10_sets_36 : decode cX10_sets 36 = .ok (.iload_n 1, 1) := by decide +kernel
theorem dX10_sets_37 : decode cX10_sets 37 = .ok (.iaload, 1) := by decide +kernel
theorem dX10_sets_38 : decode cX10_sets 38 = .ok (.istore 4, 2) := by decide +kernel
theorem dX10_sets_40 : decode cX10_sets 40 = .ok (.aload_n 0, 1) := by decide +kernel
theorem dX10_sets_41 : decode cX10_sets 41 = .ok (.getfield 46, 3) := by decide +kernel
theorem dX10_sets_44 : decode cX10_sets 44 = .ok (.iload_n 1, 1) := by decide +kernel
theorem dX10_sets_45 : decode cX10_sets 45 = .ok (.iload_n 2, 1) := by decide +kernel
theorem dX10_sets_46 : decode cX10_sets 46 = .ok (.iastore, 1) := by decide +kernel
theorem dX10_sets_47 : decode cX10_sets 47 = .ok (.iload 4, 2) := by decide +kernel
theorem dX10_sets_49 : decode cX10_sets 49 = .ok (.ireturn, 1) := by decide +kernel
theorem dX10_stateOf_0 : decode cX10_stateOf 0 = .ok (.aload_n 0, 1) := by decide +kernel
theorem dX10_stateOf_1 : decode cX10_stateOf 1 = .ok (.getfield 49, 3) := by decide +kernel
theorem dX10_stateOf_4 : decode cX10_stateOf 4 = .ok (.iload_n 1, 1) := by decide +kernel
theorem dX10_stateOf_5 : decode cX10_stateOf 5 = .ok (.iaload, 1) := by decide +kernel
theorem dX10_stateOf_6 : decode cX10_stateOf 6 = .ok (.invokestatic 284, 3) := by decide +kernel
theorem dX10_stateOf_9 : decode cX10_stateOf 9 = .ok (.iconst 3, 1) := by decide +kernel
theorem dX10_stateOf_10 : decode cX10_stateOf 10 = .ok (.if_icmp .le 7, 3) := by decide +kernel
theorem dX10_stateOf_13 : decode cX10_stateOf 13 = .ok (.iconst 3, 1) := by decide +kernel
theorem dX10_stateOf_14 : decode cX10_stateOf 14 = .ok (.goto 12, 3) := by decide +kernel
theorem dX10_stateOf_17 : decode cX10_stateOf 17 = .ok (.aload_n 0, 1) := by decide +kernel
theorem dX10_stateOf_18 : decode cX10_stateOf 18 = .ok (.getfield 49, 3) := by decide +kernel
theorem dX10_stateOf_21 : decode cX10_stateOf 21 = .ok (.iload_n 1, 1) := by decide +kernel
theorem dX10_stateOf_22 : decode cX10_stateOf 22 = .ok (.iaload, 1) := by decide +kernel
theorem dX10_stateOf_23 : decode cX10_stateOf 23 = .ok (.invokestatic 284, 3) := by decide +kernel
theorem dX10_stateOf_26 : decode cX10_stateOf 26 = .ok (.ireturn, 1) := by decide +kernel
theorem dX10_cache_0 : decode cX10_cache 0 = .ok (.iload_n 1, 1) := by decide +kernel
theorem dX10_cache_1 : decode cX10_cache 1 = .ok (.iconst 0, 1) := by decide +kernel
theorem dX10_cache_2 : decode cX10_cache 2 = .ok (.aload_n 0, 1) := by decide +kernel
theorem dX10_cache_3 : decode cX10_cache 3 = .ok (.getfield 192, 3) := by decide +kernel
theorem dX10_cache_6 : decode cX10_cache 6 = .ok (.iconst 1, 1) := by decide +kernel
theorem dX10_cache_7 : decode cX10_cache 7 = .ok (.isub, 1) := by decide +kernel
theorem dX10_cache_8 : decode cX10_cache 8 = .ok (.invokestatic 134, 3) := by decide +kernel
theorem dX10_cache_11 : decode cX10_cache 11 = .ok (.ifCond .ne 9, 3) := by decide +kernel
theorem dX10_cache_14 : decode cX10_cache 14 = .ok (.aload_n 0, 1) := by decide +kernel
theorem dX10_cache_15 : decode cX10_cache 15 = .ok (.iconst (-1), 1) := by decide +kernel
theorem dX10_cache_16 : decode cX10_cache 16 = .ok (.invokevirtual 145, 3) := by decide +kernel
theorem dX10_cache_19 : decode cX10_cache 19 = .ok (.ireturn, 1) := by decide +kernel
theorem dX10_cache_20 : decode cX10_cache 20 = .ok (.iload_n 2, 1) := by decide +kernel
theorem dX10_cache_21 : decode cX10_cache 21 = .ok (.tableswitch 58 0 3 #[31, 37, 44, 51], 31) := by decide +kernel
theorem dX10_cache_52 : decode cX10_cache 52 = .ok (.aload_n 0, 1) := by decide +kernel
theorem dX10_cache_53 : decode cX10_cache 53 = .ok (.iload_n 1, 1) := by decide +kernel
theorem dX10_cache_54 : decode cX10_cache 54 = .ok (.invokevirtual 365, 3) := by decide +kernel
theorem dX10_cache_57 : decode cX10_cache 57 = .ok (.ireturn, 1) := by decide +kernel
theorem dX10_cache_58 : decode cX10_cache 58 = .ok (.aload_n 0, 1) := by decide +kernel
theorem dX10_cache_59 : decode cX10_cache 59 = .ok (.getfield 49, 3) := by decide +kernel
theorem dX10_cache_62 : decode cX10_cache 62 = .ok (.iload_n 1, 1) := by decide +kernel
theorem dX10_cache_63 : decode cX10_cache 63 = .ok (.iaload, 1) := by decide +kernel
theorem dX10_cache_64 : decode cX10_cache 64 = .ok (.ireturn, 1) := by decide +kernel
theorem dX10_cache_65 : decode cX10_cache 65 = .ok (.aload_n 0, 1) := by decide +kernel
theorem dX10_cache_66 : decode cX10_cache 66 = .ok (.getfield 52, 3) := by decide +kernel
theorem dX10_cache_69 : decode cX10_cache 69 = .ok (.iload_n 1, 1) := by decide +kernel
theorem dX10_cache_70 : decode cX10_cache 70 = .ok (.iaload, 1) := by decide +kernel
theorem dX10_cache_71 : decode cX10_cache 71 = .ok (.ireturn, 1) := by decide +kernel
theorem dX10_cache_72 : decode cX10_cache 72 = .ok (.aload_n 0, 1) := by decide +kernel
theorem dX10_cache_73 : decode cX10_cache 73 = .ok (.getfield 55, 3) := by decide +kernel
theorem dX10_cache_76 : decode cX10_cache 76 = .ok (.iload_n 1, 1) := by decide +kernel
theorem dX10_cache_77 : decode cX10_cache 77 = .ok (.iaload, 1) := by decide +kernel
theorem dX10_cache_78 : decode cX10_cache 78 = .ok (.ireturn, 1) := by decide +kernel
theorem dX10_cache_79 : decode cX10_cache 79 = .ok (.aload_n 0, 1) := by decide +kernel
theorem dX10_cache_80 : decode cX10_cache 80 = .ok (.bipush (-2), 2) := by decide +kernel
theorem dX10_cache_82 : decode cX10_cache 82 = .ok (.invokevirtual 145, 3) := by decide +kernel
theorem dX10_cache_85 : decode cX10_cache 85 = .ok (.ireturn, 1) := by decide +kernel
theorem dX10_minds_0 : decode cX10_minds 0 = .ok (.iconst 0, 1) := by decide +kernel
theorem dX10_minds_1 : decode cX10_minds 1 = .ok (.istore_n 1, 1) := by decide +kernel
theorem dX10_minds_2 : decode cX10_minds 2 = .ok (.iload_n 1, 1) := by decide +kernel
theorem dX10_minds_3 : decode cX10_minds 3 = .ok (.bipush 6, 2) := by decide +kernel
theorem dX10_minds_5 : decode cX10_minds 5 = .ok (.if_icmp .ge 21, 3) := by decide +kernel
theorem dX10_minds_8 : decode cX10_minds 8 = .ok (.aload_n 0, 1) := by decide +kernel
theorem dX10_minds_9 : decode cX10_minds 9 = .ok (.getfield 113, 3) := by decide +kernel
theorem dX10_minds_12 : decode cX10_minds 12 = .ok (.iload_n 1, 1) := by decide +kernel
theorem dX10_minds_13 : decode cX10_minds 13 = .ok (.aload_n 0, 1) := by decide +kernel
theorem dX10_minds_14 : decode cX10_minds 14 = .ok (.getfield 46, 3) := by decide +kernel
theorem dX10_minds_17 : decode cX10_minds 17 = .ok (.iload_n 1, 1) := by decide +kernel
theorem dX10_minds_18 : decode cX10_minds 18 = .ok (.iaload, 1) := by decide +kernel
theorem dX10_minds_19 : decode cX10_minds 19 = .ok (.iastore, 1) := by decide +kernel
theorem dX10_minds_20 : decode cX10_minds 20 = .ok (.iinc 1 1, 3) := by decide +kernel
theorem dX10_minds_23 : decode cX10_minds 23 = .ok (.goto (-21), 3) := by decide +kernel
theorem dX10_minds_26 : decode cX10_minds 26 = .ok (.iconst 0, 1) := by decide +kernel
theorem dX10_minds_27 : decode cX10_minds 27 = .ok (.istore_n 1, 1) := by decide +kernel
theorem dX10_minds_28 : decode cX10_minds 28 = .ok (.iload_n 1, 1) := by decide +kernel
theorem dX10_minds_29 : decode cX10_minds 29 = .ok (.bipush 10, 2) := by decide +kernel
theorem dX10_minds_31 : decode cX10_minds 31 = .ok (.if_icmp .ge 54, 3) := by decide +kernel
theorem dX10_minds_34 : decode cX10_minds 34 = .ok (.aload_n 0, 1) := by decide +kernel
theorem dX10_minds_35 : decode cX10_minds 35 = .ok (.getfield 113, 3) := by decide +kernel
theorem dX10_minds_38 : decode cX10_minds 38 = .ok (.bipush 6, 2) := by decide +kernel
theorem dX10_minds_40 : decode cX10_minds 40 = .ok (.iload_n 1, 1) := by decide +kernel
theorem dX10_minds_41 : decode cX10_minds 41 = .ok (.iadd, 1) := by decide +kernel
theorem dX10_minds_42 : decode cX10_minds 42 = .ok (.aload_n 0, 1) := by decide +kernel
theorem dX10_minds_43 : decode cX10_minds 43 = .ok (.getfield 49, 3) := by decide +kernel
theorem dX10_minds_46 : decode cX10_minds 46 = .ok (.iload_n 1, 1) := by decide +kernel
theorem dX10_minds_47 : decode cX10_minds 47 = .ok (.iaload, 1) := by decide +kernel
theorem dX10_minds_48 : decode cX10_minds 48 = .ok (.iastore, 1) := by decide +kernel
theorem dX10_minds_49 : decode cX10_minds 49 = .ok (.aload_n 0, 1) := by decide +kernel
theorem dX10_minds_50 : decode cX10_minds 50 = .ok (.getfield 113, 3) := by decide +kernel
theorem dX10_minds_53 : decode cX10_minds 53 = .ok (.bipush 16, 2) := by decide +kernel
theorem dX10_minds_55 : decode cX10_minds 55 = .ok (.iload_n 1, 1) := by decide +kernel
theorem dX10_minds_56 : decode cX10_minds 56 = .ok (.iadd, 1) := by decide +kernel
theorem dX10_minds_57 : decode cX10_minds 57 = .ok (.aload_n 0, 1) := by decide +kernel
theorem dX10_minds_58 : decode cX10_minds 58 = .ok (.getfield 52, 3) := by decide +kernel
theorem dX10_minds_61 : decode cX10_minds 61 = .ok (.iload_n 1, 1) := by decide +kernel
theorem dX10_minds_62 : decode cX10_minds 62 = .ok (.iaload, 1) := by decide +kernel
theorem dX10_minds_63 : decode cX10_minds 63 = .ok (.iastore, 1) := by decide +kernel
theorem dX10_minds_64 : decode cX10_minds 64 = .ok (.aload_n 0, 1) := by decide +kernel
theorem dX10_minds_65 : decode cX10_minds 65 = .ok (.getfield 113, 3) := by decide +kernel
theorem dX10_minds_68 : decode cX10_minds 68 = .ok (.bipush 26, 2) := by decide +kernel
theorem dX10_minds_70 : decode cX10_minds 70 = .ok (.iload_n 1, 1) := by decide +kernel
theorem dX10_minds_71 : decode cX10_minds 71 = .ok (.iadd, 1) := by decide +kernel
theorem dX10_minds_72 : decode cX10_minds 72 = .ok (.aload_n 0, 1) := by decide +kernel
theorem dX10_minds_73 : decode cX10_minds 73 = .ok (.getfield 55, 3) := by decide +kernel
theorem dX10_minds_76 : decode cX10_minds 76 = .ok (.iload_n 1, 1) := by decide +kernel
theorem dX10_minds_77 : decode cX10_minds 77 = .ok (.iaload, 1) := by decide +kernel
theorem dX10_minds_78 : decode cX10_minds 78 = .ok (.iastore, 1) := by decide +kernel
theorem dX10_minds_79 : decode cX10_minds 79 = .ok (.iinc 1 1, 3) := by decide +kernel
theorem dX10_minds_82 : decode cX10_minds 82 = .ok (.goto (-54), 3) := by decide +kernel
theorem dX10_minds_85 : decode cX10_minds 85 = .ok (.return_, 1) := by decide +kernel
theorem dX10_forgets_0 : decode cX10_forgets 0 = .ok (.iconst 0, 1) := by decide +kernel
theorem dX10_forgets_1 : decode cX10_forgets 1 = .ok (.istore_n 1, 1) := by decide +kernel
theorem dX10_forgets_2 : decode cX10_forgets 2 = .ok (.iload_n 1, 1) := by decide +kernel
theorem dX10_forgets_3 : decode cX10_forgets 3 = .ok (.bipush 6, 2) := by decide +kernel
theorem dX10_forgets_5 : decode cX10_forgets 5 = .ok (.if_icmp .ge 21, 3) := by decide +kernel
theorem dX10_forgets_8 : decode cX10_forgets 8 = .ok (.aload_n 0, 1) := by decide +kernel
theorem dX10_forgets_9 : decode cX10_forgets 9 = .ok (.getfield 46, 3) := by decide +kernel
theorem dX10_forgets_12 : decode cX10_forgets 12 = .ok (.iload_n 1, 1) := by decide +kernel
theorem dX10_forgets_13 : decode cX10_forgets 13 = .ok (.aload_n 0, 1) := by decide +kernel
theorem dX10_forgets_14 : decode cX10_forgets 14 = .ok (.getfield 113, 3) := by decide +kernel
theorem dX10_forgets_17 : decode cX10_forgets 17 = .ok (.iload_n 1, 1) := by decide +kernel
theorem dX10_forgets_18 : decode cX10_forgets 18 = .ok (.iaload, 1) := by decide +kernel
theorem dX10_forgets_19 : decode cX10_forgets 19 = .ok (.iastore, 1) := by decide +kernel
theorem dX10_forgets_20 : decode cX10_forgets 20 = .ok (.iinc 1 1, 3) := by decide +kernel
theorem dX10_forgets_23 : decode cX10_forgets 23 = .ok (.goto (-21), 3) := by decide +kernel
theorem dX10_forgets_26 : decode cX10_forgets 26 = .ok (.iconst 0, 1) := by decide +kernel
theorem dX10_forgets_27 : decode cX10_forgets 27 = .ok (.istore_n 1, 1) := by decide +kernel
end
section
theorem dX10_forgets_28 : decode cX10_forgets 28 = .ok (.iload_n 1, 1) := by decide +kernel
theorem dX10_forgets_29 : decode cX10_forgets 29 = .ok (.bipush 10, 2) := by decide +kernel
theorem dX10_forgets_31 : decode cX10_forgets 31 = .ok (.if_icmp .ge 54, 3) := by decide +kernel
theorem dX10_forgets_34 : decode cX10_forgets 34 = .ok (.aload_n 0, 1) := by decide +kernel
theorem dX10_forgets_35 : decode cX10_forgets 35 = .ok (.getfield 49, 3) := by decide +kernel
theorem dX10_forgets_38 : decode cX10_forgets 38 = .ok (.iload_n 1, 1) := by decide +kernel
theorem dX10_forgets_39 : decode cX10_forgets 39 = .ok (.aload_n 0, 1) := by decide +kernel
theorem dX10_forgets_40 : decode cX10_forgets 40 = .ok (.getfield 113, 3) := by decide +kernel
theorem dX10_forgets_43 : decode cX10_forgets 43 = .ok (.bipush 6, 2) := by decide +kernel
theorem dX10_forgets_45 : decode cX10_forgets 45 = .ok (.iload_n 1, 1) := by decide +kernel
theorem dX10_forgets_46 : decode cX10_forgets 46 = .ok (.iadd, 1) := by decide +kernel
theorem dX10_forgets_47 : decode cX10_forgets 47 = .ok (.iaload, 1) := by decide +kernel
theorem dX10_forgets_48 : decode cX10_forgets 48 = .ok (.iastore, 1) := by decide +kernel
theorem dX10_forgets_49 : decode cX10_forgets 49 = .ok (.aload_n 0, 1) := by decide +kernel
theorem dX10_forgets_50 : decode cX10_forgets 50 = .ok (.getfield 52, 3) := by decide +kernel
theorem dX10_forgets_53 : decode cX10_forgets 53 = .ok (.iload_n 1, 1) := by decide +kernel
theorem dX10_forgets_54 : decode cX10_forgets 54 = .ok (.aload_n 0, 1) := by decide +kernel
theorem dX10_forgets_55 : decode cX10_forgets 55 = .ok (.getfield 113, 3) := by decide +kernel
theorem dX10_forgets_58 : decode cX10_forgets 58 = .ok (.bipush 16, 2) := by decide +kernel
theorem dX10_forgets_60 : decode cX10_forgets 60 = .ok (.iload_n 1, 1) := by decide +kernel
theorem dX10_forgets_61 : decode cX10_forgets 61 = .ok (.iadd, 1) := by decide +kernel
theorem dX10_forgets_62 : decode cX10_forgets 62 = .ok (.iaload, 1) := by decide +kernel
theorem dX10_forgets_63 : decode cX10_forgets 63 = .ok (.iastore, 1) := by decide +kernel
theorem dX10_forgets_64 : decode cX10_forgets 64 = .ok (.aload_n 0, 1) := by decide +kernel
theorem dX10_forgets_65 : decode cX10_forgets 65 = .ok (.getfield 55, 3) := by decide +kernel
theorem dX10_forgets_68 : decode cX10_forgets 68 = .ok (.iload_n 1, 1) := by decide +kernel
theorem dX10_forgets_69 : decode cX10_forgets 69 = .ok (.aload_n 0, 1) := by decide +kernel
theorem dX10_forgets_70 : decode cX10_forgets 70 = .ok (.getfield 113, 3) := by decide +kernel
theorem dX10_forgets_73 : decode cX10_forgets 73 = .ok (.bipush 26, 2) := by decide +kernel
theorem dX10_forgets_75 : decode cX10_forgets 75 = .ok (.iload_n 1, 1) := by decide +kernel
theorem dX10_forgets_76 : decode cX10_forgets 76 = .ok (.iadd, 1) := by decide +kernel
theorem dX10_forgets_77 : decode cX10_forgets 77 = .ok (.iaload, 1) := by decide +kernel
theorem dX10_forgets_78 : decode cX10_forgets 78 = .ok (.iastore, 1) := by decide +kernel
theorem dX10_forgets_79 : decode cX10_forgets 79 = .ok (.iinc 1 1, 3) := by decide +kernel
theorem dX10_forgets_82 : decode cX10_forgets 82 = .ok (.goto (-54), 3) := by decide +kernel
theorem dX10_forgets_85 : decode cX10_forgets 85 = .ok (.return_, 1) := by decide +kernel
theorem dX10_goesWith_0 : decode cX10_goesWith 0 = .ok (.aload_n 0, 1) := by decide +kernel
theorem dX10_goesWith_1 : decode cX10_goesWith 1 = .ok (.invokevirtual 368, 3) := by decide +kernel
theorem dX10_goesWith_4 : decode cX10_goesWith 4 = .ok (.aload_n 0, 1) := by decide +kernel
theorem dX10_goesWith_5 : decode cX10_goesWith 5 = .ok (.getfield 46, 3) := by decide +kernel
theorem dX10_goesWith_8 : decode cX10_goesWith 8 = .ok (.iload_n 1, 1) := by decide +kernel
theorem dX10_goesWith_9 : decode cX10_goesWith 9 = .ok (.iload_n 2, 1) := by decide +kernel
theorem dX10_goesWith_10 : decode cX10_goesWith 10 = .ok (.iastore, 1) := by decide +kernel
theorem dX10_goesWith_11 : decode cX10_goesWith 11 = .ok (.aload_n 0, 1) := by decide +kernel
theorem dX10_goesWith_12 : decode cX10_goesWith 12 = .ok (.invokevirtual 353, 3) := by decide +kernel
theorem dX10_goesWith_15 : decode cX10_goesWith 15 = .ok (.aload_n 0, 1) := by decide +kernel
theorem dX10_goesWith_16 : decode cX10_goesWith 16 = .ok (.invokevirtual 371, 3) := by decide +kernel
theorem dX10_goesWith_19 : decode cX10_goesWith 19 = .ok (.return_, 1) := by decide +kernel
theorem dX10_thinks_0 : decode cX10_thinks 0 = .ok (.iload_n 1, 1) := by decide +kernel
theorem dX10_thinks_1 : decode cX10_thinks 1 = .ok (.iconst 0, 1) := by decide +kernel
theorem dX10_thinks_2 : decode cX10_thinks 2 = .ok (.iconst 5, 1) := by decide +kernel
theorem dX10_thinks_3 : decode cX10_thinks 3 = .ok (.invokestatic 134, 3) := by decide +kernel
theorem dX10_thinks_6 : decode cX10_thinks 6 = .ok (.ifCond .ne 10, 3) := by decide +kernel
theorem dX10_thinks_9 : decode cX10_thinks 9 = .ok (.aload_n 0, 1) := by decide +kernel
theorem dX10_thinks_10 : decode cX10_thinks 10 = .ok (.bipush (-2), 2) := by decide +kernel
theorem dX10_thinks_12 : decode cX10_thinks 12 = .ok (.invokevirtual 359, 3) := by decide +kernel
theorem dX10_thinks_15 : decode cX10_thinks 15 = .ok (.ireturn, 1) := by decide +kernel
theorem dX10_thinks_16 : decode cX10_thinks 16 = .ok (.aload_n 0, 1) := by decide +kernel
theorem dX10_thinks_17 : decode cX10_thinks 17 = .ok (.iconst 0, 1) := by decide +kernel
theorem dX10_thinks_18 : decode cX10_thinks 18 = .ok (.aload_n 0, 1) := by decide +kernel
theorem dX10_thinks_19 : decode cX10_thinks 19 = .ok (.getfield 46, 3) := by decide +kernel
theorem dX10_thinks_22 : decode cX10_thinks 22 = .ok (.iconst 0, 1) := by decide +kernel
theorem dX10_thinks_23 : decode cX10_thinks 23 = .ok (.iaload, 1) := by decide +kernel
theorem dX10_thinks_24 : decode cX10_thinks 24 = .ok (.invokevirtual 374, 3) := by decide +kernel
theorem dX10_thinks_27 : decode cX10_thinks 27 = .ok (.aload_n 0, 1) := by decide +kernel
theorem dX10_thinks_28 : decode cX10_thinks 28 = .ok (.iload_n 1, 1) := by decide +kernel
theorem dX10_thinks_29 : decode cX10_thinks 29 = .ok (.invokevirtual 377, 3) := by decide +kernel
theorem dX10_thinks_32 : decode cX10_thinks 32 = .ok (.ireturn, 1) := by decide +kernel
theorem dX10_with_0 : decode cX10_with 0 = .ok (.iload_n 1, 1) := by decide +kernel
theorem dX10_with_1 : decode cX10_with 1 = .ok (.invokestatic 362, 3) := by decide +kernel
theorem dX10_with_4 : decode cX10_with 4 = .ok (.ifCond .ne 7, 3) := by decide +kernel
theorem dX10_with_7 : decode cX10_with 7 = .ok (.iconst (-1), 1) := by decide +kernel
theorem dX10_with_8 : decode cX10_with 8 = .ok (.goto 13, 3) := by decide +kernel
theorem dX10_with_11 : decode cX10_with 11 = .ok (.iload_n 2, 1) := by decide +kernel
theorem dX10_with_12 : decode cX10_with 12 = .ok (.sipush (-9999), 3) := by decide +kernel
theorem dX10_with_15 : decode cX10_with 15 = .ok (.sipush 9999, 3) := by decide +kernel
theorem dX10_with_18 : decode cX10_with 18 = .ok (.invokestatic 138, 3) := by decide +kernel
theorem dX10_with_21 : decode cX10_with 21 = .ok (.istore 4, 2) := by decide +kernel
theorem dX10_with_23 : decode cX10_with 23 = .ok (.iload 4, 2) := by decide +kernel
theorem dX10_with_25 : decode cX10_with 25 = .ok (.ifCond .ne 16, 3) := by decide +kernel
theorem dX10_with_28 : decode cX10_with 28 = .ok (.iload_n 3, 1) := by decide +kernel
theorem dX10_with_29 : decode cX10_with 29 = .ok (.iconst 0, 1) := by decide +kernel
theorem dX10_with_30 : decode cX10_with 30 = .ok (.iconst 5, 1) := by decide +kernel
theorem dX10_with_31 : decode cX10_with 31 = .ok (.invokestatic 134, 3) := by decide +kernel
theorem dX10_with_34 : decode cX10_with 34 = .ok (.ifCond .ne 7, 3) := by decide +kernel
theorem dX10_with_37 : decode cX10_with 37 = .ok (.bipush (-2), 2) := by decide +kernel
theorem dX10_with_39 : decode cX10_with 39 = .ok (.istore 4, 2) := by decide +kernel
theorem dX10_with_41 : decode cX10_with 41 = .ok (.iload 4, 2) := by decide +kernel
theorem dX10_with_43 : decode cX10_with 43 = .ok (.ifCond .eq 10, 3) := by decide +kernel
theorem dX10_with_46 : decode cX10_with 46 = .ok (.aload_n 0, 1) := by decide +kernel
theorem dX10_with_47 : decode cX10_with 47 = .ok (.iload 4, 2) := by decide +kernel
theorem dX10_with_49 : decode cX10_with 49 = .ok (.invokevirtual 359, 3) := by decide +kernel
theorem dX10_with_52 : decode cX10_with 52 = .ok (.ireturn, 1) := by decide +kernel
theorem dX10_with_53 : decode cX10_with 53 = .ok (.aload_n 0, 1) := by decide +kernel
theorem dX10_with_54 : decode cX10_with 54 = .ok (.iload_n 1, 1) := by decide +kernel
theorem dX10_with_55 : decode cX10_with 55 = .ok (.iload_n 2, 1) := by decide +kernel
theorem dX10_with_56 : decode cX10_with 56 = .ok (.invokevirtual 374, 3) := by decide +kernel
theorem dX10_with_59 : decode cX10_with 59 = .ok (.aload_n 0, 1) := by decide +kernel
theorem dX10_with_60 : decode cX10_with 60 = .ok (.iload_n 3, 1) := by decide +kernel
theorem dX10_with_61 : decode cX10_with 61 = .ok (.invokevirtual 377, 3) := by decide +kernel
theorem dX10_with_64 : decode cX10_with 64 = .ok (.ireturn, 1) := by decide +kernel
theorem dX10_solve_0 : decode cX10_solve 0 = .ok (.iload_n 1, 1) := by decide +kernel
theorem dX10_solve_1 : decode cX10_solve 1 = .ok (.invokestatic 362, 3) := by decide +kernel
theorem dX10_solve_4 : decode cX10_solve 4 = .ok (.ifCond .ne 7, 3) := by decide +kernel
theorem dX10_solve_7 : decode cX10_solve 7 = .ok (.iconst (-1), 1) := by decide +kernel
theorem dX10_solve_8 : decode cX10_solve 8 = .ok (.goto 13, 3) := by decide +kernel
theorem dX10_solve_11 : decode cX10_solve 11 = .ok (.iload_n 2, 1) := by decide +kernel
theorem dX10_solve_12 : decode cX10_solve 12 = .ok (.sipush (-9999), 3) := by decide +kernel
theorem dX10_solve_15 : decode cX10_solve 15 = .ok (.sipush 9999, 3) := by decide +kernel
theorem dX10_solve_18 : decode cX10_solve 18 = .ok (.invokestatic 138, 3) := by decide +kernel
theorem dX10_solve_21 : decode cX10_solve 21 = .ok (.istore_n 3, 1) := by decide +kernel
theorem dX10_solve_22 : decode cX10_solve 22 = .ok (.iload_n 3, 1) := by decide +kernel
theorem dX10_solve_23 : decode cX10_solve 23 = .ok (.ifCond .eq 9, 3) := by decide +kernel
theorem dX10_solve_26 : decode cX10_solve 26 = .ok (.aload_n 0, 1) := by decide +kernel
theorem dX10_solve_27 : decode cX10_solve 27 = .ok (.iload_n 3, 1) := by decide +kernel
theorem dX10_solve_28 : decode cX10_solve 28 = .ok (.invokevirtual 359, 3) := by decide +kernel
theorem dX10_solve_31 : decode cX10_solve 31 = .ok (.ireturn, 1) := by decide +kernel
theorem dX10_solve_32 : decode cX10_solve 32 = .ok (.bipush (-20), 2) := by decide +kernel
theorem dX10_solve_34 : decode cX10_solve 34 = .ok (.istore 4, 2) := by decide +kernel
theorem dX10_solve_36 : decode cX10_solve 36 = .ok (.iload 4, 2) := by decide +kernel
theorem dX10_solve_38 : decode cX10_solve 38 = .ok (.bipush 20, 2) := by decide +kernel
theorem dX10_solve_40 : decode cX10_solve 40 = .ok (.if_icmp .gt 34, 3) := by decide +kernel
theorem dX10_solve_43 : decode cX10_solve 43 = .ok (.aload_n 0, 1) := by decide +kernel
theorem dX10_solve_44 : decode cX10_solve 44 = .ok (.iload_n 1, 1) := by decide +kernel
theorem dX10_solve_45 : decode cX10_solve 45 = .ok (.iload 4, 2) := by decide +kernel
theorem dX10_solve_47 : decode cX10_solve 47 = .ok (.invokevirtual 374, 3) := by decide +kernel
theorem dX10_solve_50 : decode cX10_solve 50 = .ok (.aload_n 0, 1) := by decide +kernel
theorem dX10_solve_51 : decode cX10_solve 51 = .ok (.invokevirtual 329, 3) := by decide +kernel
theorem dX10_solve_54 : decode cX10_solve 54 = .ok (.ifCond .ne 14, 3) := by decide +kernel
theorem dX10_solve_57 : decode cX10_solve 57 = .ok (.aload_n 0, 1) := by decide +kernel
theorem dX10_solve_58 : decode cX10_solve 58 = .ok (.invokevirtual 332, 3) := by decide +kernel
theorem dX10_solve_61 : decode cX10_solve 61 = .ok (.iload_n 2, 1) := by decide +kernel
theorem dX10_solve_62 : decode cX10_solve 62 = .ok (.if_icmp .ne 6, 3) := by decide +kernel
theorem dX10_solve_65 : decode cX10_solve 65 = .ok (.iload 4, 2) := by decide +kernel
theorem dX10_solve_67 : decode cX10_solve 67 = .ok (.ireturn, 1) := by decide +kernel
theorem dX10_solve_68 : decode cX10_solve 68 = .ok (.iinc 4 1, 3) := by decide +kernel
theorem dX10_solve_71 : decode cX10_solve 71 = .ok (.goto (-35), 3) := by decide +kernel
theorem dX10_solve_74 : decode cX10_solve 74 = .ok (.ldc_w 380, 3) := by decide +kernel
theorem dX10_solve_77 : decode cX10_solve 77 = .ok (.ireturn, 1) := by decide +kernel
theorem dX10_fewest_0 : decode cX10_fewest 0 = .ok (.iload_n 1, 1) := by decide +kernel
theorem dX10_fewest_1 : decode cX10_fewest 1 = .ok (.invokestatic 362, 3) := by decide +kernel
theorem dX10_fewest_4 : decode cX10_fewest 4 = .ok (.ifCond .ne 7, 3) := by decide +kernel
theorem dX10_fewest_7 : decode cX10_fewest 7 = .ok (.iconst (-1), 1) := by decide +kernel
theorem dX10_fewest_8 : decode cX10_fewest 8 = .ok (.goto 18, 3) := by decide +kernel
theorem dX10_fewest_11 : decode cX10_fewest 11 = .ok (.iload_n 2, 1) := by decide +kernel
theorem dX10_fewest_12 : decode cX10_fewest 12 = .ok (.iconst 0, 1) := by decide +kernel
theorem dX10_fewest_13 : decode cX10_fewest 13 = .ok (.iconst 1, 1) := by decide +kernel
theorem dX10_fewest_14 : decode cX10_fewest 14 = .ok (.invokestatic 134, 3) := by decide +kernel
theorem dX10_fewest_17 : decode cX10_fewest 17 = .ok (.ifCond .ne 8, 3) := by decide +kernel
theorem dX10_fewest_20 : decode cX10_fewest 20 = .ok (.bipush (-2), 2) := by decide +kernel
theorem dX10_fewest_22 : decode cX10_fewest 22 = .ok (.goto 4, 3) := by decide +kernel
theorem dX10_fewest_25 : decode cX10_fewest 25 = .ok (.iconst 0, 1) := by decide +kernel
theorem dX10_fewest_26 : decode cX10_fewest 26 = .ok (.istore_n 3, 1) := by decide +kernel
theorem dX10_fewest_27 : decode cX10_fewest 27 = .ok (.iload_n 3, 1) := by decide +kernel
theorem dX10_fewest_28 : decode cX10_fewest 28 = .ok (.ifCond .eq 9, 3) := by decide +kernel
theorem dX10_fewest_31 : decode cX10_fewest 31 = .ok (.aload_n 0, 1) := by decide +kernel
theorem dX10_fewest_32 : decode cX10_fewest 32 = .ok (.iload_n 3, 1) := by decide +kernel
theorem dX10_fewest_33 : decode cX10_fewest 33 = .ok (.invokevirtual 359, 3) := by decide +kernel
theorem dX10_fewest_36 : decode cX10_fewest 36 = .ok (.ireturn, 1) := by decide +kernel
theorem dX10_fewest_37 : decode cX10_fewest 37 = .ok (.ldc_w 380, 3) := by decide +kernel
theorem dX10_fewest_40 : decode cX10_fewest 40 = .ok (.istore 4, 2) := by decide +kernel
theorem dX10_fewest_42 : decode cX10_fewest 42 = .ok (.ldc_w 380, 3) := by decide +kernel
theorem dX10_fewest_45 : decode cX10_fewest 45 = .ok (.istore 5, 2) := by decide +kernel
theorem dX10_fewest_47 : decode cX10_fewest 47 = .ok (.bipush (-20), 2) := by decide +kernel
theorem dX10_fewest_49 : decode cX10_fewest 49 = .ok (.istore 6, 2) := by decide +kernel
theorem dX10_fewest_51 : decode cX10_fewest 51 = .ok (.iload 6, 2) := by decide +kernel
theorem dX10_fewest_53 : decode cX10_fewest 53 = .ok (.bipush 20, 2) := by decide +kernel
theorem dX10_fewest_55 : decode cX10_fewest 55 = .ok (.if_icmp .gt 46, 3) := by decide +kernel
theorem dX10_fewest_58 : decode cX10_fewest 58 = .ok (.aload_n 0, 1) := by decide +kernel
theorem dX10_fewest_59 : decode cX10_fewest 59 = .ok (.iload_n 1, 1) := by decide +kernel
theorem dX10_fewest_60 : decode cX10_fewest 60 = .ok (.iload 6, 2) := by decide +kernel
theorem dX10_fewest_62 : decode cX10_fewest 62 = .ok (.invokevirtual 374, 3) := by decide +kernel
theorem dX10_fewest_65 : decode cX10_fewest 65 = .ok (.aload_n 0, 1) := by decide +kernel
theorem dX10_fewest_66 : decode cX10_fewest 66 = .ok (.invokevirtual 329, 3) := by decide +kernel
theorem dX10_fewest_69 : decode cX10_fewest 69 = .ok (.iconst 3, 1) := by decide +kernel
theorem dX10_fewest_70 : decode cX10_fewest 70 = .ok (.if_icmp .eq 25, 3) := by decide +kernel
theorem dX10_fewest_73 : decode cX10_fewest 73 = .ok (.aload_n 0, 1) := by decide +kernel
theorem dX10_fewest_74 : decode cX10_fewest 74 = .ok (.getfield 256, 3) := by decide +kernel
theorem dX10_fewest_77 : decode cX10_fewest 77 = .ok (.iload 5, 2) := by decide +kernel
theorem dX10_fewest_79 : decode cX10_fewest 79 = .ok (.if_icmp .lt 6, 3) := by decide +kernel
theorem dX10_fewest_82 : decode cX10_fewest 82 = .ok (.goto 13, 3) := by decide +kernel
theorem dX10_fewest_85 : decode cX10_fewest 85 = .ok (.iload 6, 2) := by decide +kernel
theorem dX10_fewest_87 : decode cX10_fewest 87 = .ok (.istore 4, 2) := by decide +kernel
theorem dX10_fewest_89 : decode cX10_fewest 89 = .ok (.aload_n 0, 1) := by decide +kernel
theorem dX10_fewest_90 : decode cX10_fewest 90 = .ok (.getfield 256, 3) := by decide +kernel
theorem dX10_fewest_93 : decode cX10_fewest 93 = .ok (.istore 5, 2) := by decide +kernel
theorem dX10_fewest_95 : decode cX10_fewest 95 = .ok (.iinc 6 1, 3) := by decide +kernel
theorem dX10_fewest_98 : decode cX10_fewest 98 = .ok (.goto (-47), 3) := by decide +kernel
theorem dX10_fewest_101 : decode cX10_fewest 101 = .ok (.iload_n 2, 1) := by decide +kernel
theorem dX10_fewest_102 : decode cX10_fewest 102 = .ok (.ifCond .ne 8, 3) := by decide +kernel
theorem dX10_fewest_105 : decode cX10_fewest 105 = .ok (.iload 4, 2) := by decide +kernel
theorem dX10_fewest_107 : decode cX10_fewest 107 = .ok (.goto 5, 3) := by decide +kernel
theorem dX10_fewest_110 : decode cX10_fewest 110 = .ok (.iload 5, 2) := by decide +kernel
theorem dX10_fewest_112 : decode cX10_fewest 112 = .ok (.ireturn, 1) := by decide +kernel
theorem dX10_pure_0 : decode cX10_pure 0 = .ok (.aload_n 0, 1) := by decide +kernel
theorem dX10_pure_1 : decode cX10_pure 1 = .ok (.invokevirtual 368, 3) := by decide +kernel
theorem dX10_pure_4 : decode cX10_pure 4 = .ok (.aload_n 0, 1) := by decide +kernel
theorem dX10_pure_5 : decode cX10_pure 5 = .ok (.invokevirtual 353, 3) := by decide +kernel
theorem dX10_pure_8 : decode cX10_pure 8 = .ok (.aload_n 0, 1) := by decide +kernel
theorem dX10_pure_9 : decode cX10_pure 9 = .ok (.invokevirtual 329, 3) := by decide +kernel
theorem dX10_pure_12 : decode cX10_pure 12 = .ok (.istore_n 1, 1) := by decide +kernel
theorem dX10_pure_13 : decode cX10_pure 13 = .ok (.aload_n 0, 1) := by decide +kernel
theorem dX10_pure_14 : decode cX10_pure 14 = .ok (.invokevirtual 332, 3) := by decide +kernel
theorem dX10_pure_17 : decode cX10_pure 17 = .ok (.istore_n 2, 1) := by decide +kernel
theorem dX10_pure_18 : decode cX10_pure 18 = .ok (.aload_n 0, 1) := by decide +kernel
theorem dX10_pure_19 : decode cX10_pure 19 = .ok (.invokevirtual 353, 3) := by decide +kernel
theorem dX10_pure_22 : decode cX10_pure 22 = .ok (.iload_n 1, 1) := by decide +kernel
theorem dX10_pure_23 : decode cX10_pure 23 = .ok (.aload_n 0, 1) := by decide +kernel
theorem dX10_pure_24 : decode cX10_pure 24 = .ok (.invokevirtual 329, 3) := by decide +kernel
theorem dX10_pure_27 : decode cX10_pure 27 = .ok (.if_icmp .ne 15, 3) := by decide +kernel
theorem dX10_pure_30 : decode cX10_pure 30 = .ok (.iload_n 2, 1) := by decide +kernel
theorem dX10_pure_31 : decode cX10_pure 31 = .ok (.aload_n 0, 1) := by decide +kernel
theorem dX10_pure_32 : decode cX10_pure 32 = .ok (.invokevirtual 332, 3) := by decide +kernel
theorem dX10_pure_35 : decode cX10_pure 35 = .ok (.if_icmp .ne 7, 3) := by decide +kernel
theorem dX10_pure_38 : decode cX10_pure 38 = .ok (.iconst 1, 1) := by decide +kernel
theorem dX10_pure_39 : decode cX10_pure 39 = .ok (.goto 4, 3) := by decide +kernel
theorem dX10_pure_42 : decode cX10_pure 42 = .ok (.iconst 0, 1) := by decide +kernel
theorem dX10_pure_43 : decode cX10_pure 43 = .ok (.istore_n 3, 1) := by decide +kernel
theorem dX10_pure_44 : decode cX10_pure 44 = .ok (.iconst 0, 1) := by decide +kernel
theorem dX10_pure_45 : decode cX10_pure 45 = .ok (.istore 4, 2) := by decide +kernel
theorem dX10_pure_47 : decode cX10_pure 47 = .ok (.iload 4, 2) := by decide +kernel
theorem dX10_pure_49 : decode cX10_pure 49 = .ok (.bipush 6, 2) := by decide +kernel
theorem dX10_pure_51 : decode cX10_pure 51 = .ok (.if_icmp .ge 36, 3) := by decide +kernel
theorem dX10_pure_54 : decode cX10_pure 54 = .ok (.iload_n 3, 1) := by decide +kernel
theorem dX10_pure_55 : decode cX10_pure 55 = .ok (.ifCond .eq 24, 3) := by decide +kernel
theorem dX10_pure_58 : decode cX10_pure 58 = .ok (.aload_n 0, 1) := by decide +kernel
theorem dX10_pure_59 : decode cX10_pure 59 = .ok (.getfield 46, 3) := by decide +kernel
theorem dX10_pure_62 : decode cX10_pure 62 = .ok (.iload 4, 2) := by decide +kernel
theorem dX10_pure_64 : decode cX10_pure 64 = .ok (.iaload, 1) := by decide +kernel
theorem dX10_pure_65 : decode cX10_pure 65 = .ok (.aload_n 0, 1) := by decide +kernel
theorem dX10_pure_66 : decode cX10_pure 66 = .ok (.getfield 113, 3) := by decide +kernel
theorem dX10_pure_69 : decode cX10_pure 69 = .ok (.iload 4, 2) := by decide +kernel
theorem dX10_pure_71 : decode cX10_pure 71 = .ok (.iaload, 1) := by decide +kernel
theorem dX10_pure_72 : decode cX10_pure 72 = .ok (.if_icmp .ne 7, 3) := by decide +kernel
theorem dX10_pure_75 : decode cX10_pure 75 = .ok (.iconst 1, 1) := by decide +kernel
theorem dX10_pure_76 : decode cX10_pure 76 = .ok (.goto 4, 3) := by decide +kernel
theorem dX10_pure_79 : decode cX10_pure 79 = .ok (.iconst 0, 1) := by decide +kernel
theorem dX10_pure_80 : decode cX10_pure 80 = .ok (.istore_n 3, 1) := by decide +kernel
theorem dX10_pure_81 : decode cX10_pure 81 = .ok (.iinc 4 1, 3) := by decide +kernel
theorem dX10_pure_84 : decode cX10_pure 84 = .ok (.goto (-37), 3) := by decide +kernel
theorem dX10_pure_87 : decode cX10_pure 87 = .ok (.aload_n 0, 1) := by decide +kernel
theorem dX10_pure_88 : decode cX10_pure 88 = .ok (.invokevirtual 371, 3) := by decide +kernel
theorem dX10_pure_91 : decode cX10_pure 91 = .ok (.iload_n 3, 1) := by decide +kernel
theorem dX10_pure_92 : decode cX10_pure 92 = .ok (.ifCond .eq 7, 3) := by decide +kernel
theorem dX10_pure_95 : decode cX10_pure 95 = .ok (.iconst 1, 1) := by decide +kernel
theorem dX10_pure_96 : decode cX10_pure 96 = .ok (.goto 4, 3) := by decide +kernel
theorem dX10_pure_99 : decode cX10_pure 99 = .ok (.iconst 0, 1) := by decide +kernel
theorem dX10_pure_100 : decode cX10_pure 100 = .ok (.ireturn, 1) := by decide +kernel
theorem dX10_changes_0 : decode cX10_changes 0 = .ok (.aload_n 0, 1) := by decide +kernel
theorem dX10_changes_1 : decode cX10_changes 1 = .ok (.invokevirtual 368, 3) := by decide +kernel
theorem dX10_changes_4 : decode cX10_changes 4 = .ok (.aload_n 0, 1) := by decide +kernel
theorem dX10_changes_5 : decode cX10_changes 5 = .ok (.invokevirtual 353, 3) := by decide +kernel
theorem dX10_changes_8 : decode cX10_changes 8 = .ok (.iconst 0, 1) := by decide +kernel
theorem dX10_changes_9 : decode cX10_changes 9 = .ok (.istore_n 1, 1) := by decide +kernel
theorem dX10_changes_10 : decode cX10_changes 10 = .ok (.iconst 0, 1) := by decide +kernel
theorem dX10_changes_11 : decode cX10_changes 11 = .ok (.istore_n 2, 1) := by decide +kernel
theorem dX10_changes_12 : decode cX10_changes 12 = .ok (.iload_n 2, 1) := by decide +kernel
theorem dX10_changes_13 : decode cX10_changes 13 = .ok (.aload_n 0, 1) := by decide +kernel
theorem dX10_changes_14 : decode cX10_changes 14 = .ok (.getfield 192, 3) := by decide +kernel
theorem dX10_changes_17 : decode cX10_changes 17 = .ok (.if_icmp .ge 47, 3) := by decide +kernel
theorem dX10_changes_20 : decode cX10_changes 20 = .ok (.aload_n 0, 1) := by decide +kernel
theorem dX10_changes_21 : decode cX10_changes 21 = .ok (.iload_n 2, 1) := by decide +kernel
theorem dX10_changes_22 : decode cX10_changes 22 = .ok (.invokevirtual 365, 3) := by decide +kernel
theorem dX10_changes_25 : decode cX10_changes 25 = .ok (.istore_n 3, 1) := by decide +kernel
theorem dX10_changes_26 : decode cX10_changes 26 = .ok (.aload_n 0, 1) := by decide +kernel
theorem dX10_changes_27 : decode cX10_changes 27 = .ok (.getfield 49, 3) := by decide +kernel
theorem dX10_changes_30 : decode cX10_changes 30 = .ok (.iload_n 2, 1) := by decide +kernel
theorem dX10_changes_31 : decode cX10_changes 31 = .ok (.aload_n 0, 1) := by decide +kernel
theorem dX10_changes_32 : decode cX10_changes 32 = .ok (.getfield 113, 3) := by decide +kernel
theorem dX10_changes_35 : decode cX10_changes 35 = .ok (.bipush 6, 2) := by decide +kernel
theorem dX10_changes_37 : decode cX10_changes 37 = .ok (.iload_n 2, 1) := by decide +kernel
theorem dX10_changes_38 : decode cX10_changes 38 = .ok (.iadd, 1) := by decide +kernel
theorem dX10_changes_39 : decode cX10_changes 39 = .ok (.iaload, 1) := by decide +kernel
theorem dX10_changes_40 : decode cX10_changes 40 = .ok (.iastore, 1) := by decide +kernel
theorem dX10_changes_41 : decode cX10_changes 41 = .ok (.iload_n 1, 1) := by decide +kernel
theorem dX10_changes_42 : decode cX10_changes 42 = .ok (.iload_n 3, 1) := by decide +kernel
theorem dX10_changes_43 : decode cX10_changes 43 = .ok (.aload_n 0, 1) := by decide +kernel
theorem dX10_changes_44 : decode cX10_changes 44 = .ok (.iload_n 2, 1) := by decide +kernel
theorem dX10_changes_45 : decode cX10_changes 45 = .ok (.invokevirtual 365, 3) := by decide +kernel
theorem dX10_changes_48 : decode cX10_changes 48 = .ok (.if_icmp .ne 7, 3) := by decide +kernel
theorem dX10_changes_51 : decode cX10_changes 51 = .ok (.iconst 0, 1) := by decide +kernel
theorem dX10_changes_52 : decode cX10_changes 52 = .ok (.goto 4, 3) := by decide +kernel
theorem dX10_changes_55 : decode cX10_changes 55 = .ok (.iconst 1, 1) := by decide +kernel
theorem dX10_changes_56 : decode cX10_changes 56 = .ok (.iadd, 1) := by decide +kernel
theorem dX10_changes_57 : decode cX10_changes 57 = .ok (.istore_n 1, 1) := by decide +kernel
theorem dX10_changes_58 : decode cX10_changes 58 = .ok (.iinc 2 1, 3) := by decide +kernel
theorem dX10_changes_61 : decode cX10_changes 61 = .ok (.goto (-49), 3) := by decide +kernel
theorem dX10_changes_64 : decode cX10_changes 64 = .ok (.aload_n 0, 1) := by decide +kernel
theorem dX10_changes_65 : decode cX10_changes 65 = .ok (.invokevirtual 371, 3) := by decide +kernel
theorem dX10_changes_68 : decode cX10_changes 68 = .ok (.iload_n 1, 1) := by decide +kernel
theorem dX10_changes_69 : decode cX10_changes 69 = .ok (.ireturn, 1) := by decide +kernel
theorem dX10_again_0 : decode cX10_again 0 = .ok (.iload_n 1, 1) := by decide +kernel
theorem dX10_again_1 : decode cX10_again 1 = .ok (.iconst 1, 1) := by decide +kernel
theorem dX10_again_2 : decode cX10_again 2 = .ok (.bipush 20, 2) := by decide +kernel
theorem dX10_again_4 : decode cX10_again 4 = .ok (.invokestatic 138, 3) := by decide +kernel
theorem dX10_again_7 : decode cX10_again 7 = .ok (.istore_n 3, 1) := by decide +kernel
theorem dX10_again_8 : decode cX10_again 8 = .ok (.iload_n 3, 1) := by decide +kernel
theorem dX10_again_9 : decode cX10_again 9 = .ok (.ifCond .ne 15, 3) := by decide +kernel
theorem dX10_again_12 : decode cX10_again 12 = .ok (.iload_n 2, 1) := by decide +kernel
theorem dX10_again_13 : decode cX10_again 13 = .ok (.iconst 0, 1) := by decide +kernel
theorem dX10_again_14 : decode cX10_again 14 = .ok (.iconst 1, 1) := by decide +kernel
theorem dX10_again_15 : decode cX10_again 15 = .ok (.invokestatic 134, 3) := by decide +kernel
theorem dX10_again_18 : decode cX10_again 18 = .ok (.ifCond .ne 6, 3) := by decide +kernel
theorem dX10_again_21 : decode cX10_again 21 = .ok (.bipush (-2), 2) := by decide +kernel
theorem dX10_again_23 : decode cX10_again 23 = .ok (.istore_n 3, 1) := by decide +kernel
theorem dX10_again_24 : decode cX10_again 24 = .ok (.iload_n 3, 1) := by decide +kernel
theorem dX10_again_25 : decode cX10_again 25 = .ok (.ifCond .eq 9, 3) := by decide +kernel
theorem dX10_again_28 : decode cX10_again 28 = .ok (.aload_n 0, 1) := by decide +kernel
theorem dX10_again_29 : decode cX10_again 29 = .ok (.iload_n 3, 1) := by decide +kernel
theorem dX10_again_30 : decode cX10_again 30 = .ok (.invokevirtual 359, 3) := by decide +kernel
theorem dX10_again_33 : decode cX10_again 33 = .ok (.ireturn, 1) := by decide +kernel
theorem dX10_again_34 : decode cX10_again 34 = .ok (.aload_n 0, 1) := by decide +kernel
theorem dX10_again_35 : decode cX10_again 35 = .ok (.invokevirtual 368, 3) := by decide +kernel
theorem dX10_again_38 : decode cX10_again 38 = .ok (.iconst 0, 1) := by decide +kernel
theorem dX10_again_39 : decode cX10_again 39 = .ok (.istore 4, 2) := by decide +kernel
theorem dX10_again_41 : decode cX10_again 41 = .ok (.iconst 0, 1) := by decide +kernel
theorem dX10_again_42 : decode cX10_again 42 = .ok (.istore 5, 2) := by decide +kernel
theorem dX10_again_44 : decode cX10_again 44 = .ok (.iload 5, 2) := by decide +kernel
theorem dX10_again_46 : decode cX10_again 46 = .ok (.iload_n 1, 1) := by decide +kernel
theorem dX10_again_47 : decode cX10_again 47 = .ok (.if_icmp .ge 31, 3) := by decide +kernel
theorem dX10_again_50 : decode cX10_again 50 = .ok (.aload_n 0, 1) := by decide +kernel
theorem dX10_again_51 : decode cX10_again 51 = .ok (.invokevirtual 353, 3) := by decide +kernel
theorem dX10_again_54 : decode cX10_again 54 = .ok (.iload 4, 2) := by decide +kernel
theorem dX10_again_56 : decode cX10_again 56 = .ok (.aload_n 0, 1) := by decide +kernel
theorem dX10_again_57 : decode cX10_again 57 = .ok (.invokevirtual 329, 3) := by decide +kernel
theorem dX10_again_60 : decode cX10_again 60 = .ok (.iconst 3, 1) := by decide +kernel
theorem dX10_again_61 : decode cX10_again 61 = .ok (.if_icmp .ne 7, 3) := by decide +kernel
theorem dX10_again_64 : decode cX10_again 64 = .ok (.iconst 1, 1) := by decide +kernel
theorem dX10_again_65 : decode cX10_again 65 = .ok (.goto 4, 3) := by decide +kernel
theorem dX10_again_68 : decode cX10_again 68 = .ok (.iconst 0, 1) := by decide +kernel
theorem dX10_again_69 : decode cX10_again 69 = .ok (.iadd, 1) := by decide +kernel
theorem dX10_again_70 : decode cX10_again 70 = .ok (.istore 4, 2) := by decide +kernel
theorem dX10_again_72 : decode cX10_again 72 = .ok (.iinc 5 1, 3) := by decide +kernel
theorem dX10_again_75 : decode cX10_again 75 = .ok (.goto (-31), 3) := by decide +kernel
theorem dX10_again_78 : decode cX10_again 78 = .ok (.iload_n 2, 1) := by decide +kernel
theorem dX10_again_79 : decode cX10_again 79 = .ok (.ifCond .ne 8, 3) := by decide +kernel
theorem dX10_again_82 : decode cX10_again 82 = .ok (.iload 4, 2) := by decide +kernel
theorem dX10_again_84 : decode cX10_again 84 = .ok (.goto 9, 3) := by decide +kernel
theorem dX10_again_87 : decode cX10_again 87 = .ok (.aload_n 0, 1) := by decide +kernel
theorem dX10_again_88 : decode cX10_again 88 = .ok (.getfield 46, 3) := by decide +kernel
theorem dX10_again_91 : decode cX10_again 91 = .ok (.iconst 0, 1) := by decide +kernel
theorem dX10_again_92 : decode cX10_again 92 = .ok (.iaload, 1) := by decide +kernel
theorem dX10_again_93 : decode cX10_again 93 = .ok (.istore 5, 2) := by decide +kernel
theorem dX10_again_95 : decode cX10_again 95 = .ok (.aload_n 0, 1) := by decide +kernel
theorem dX10_again_96 : decode cX10_again 96 = .ok (.invokevirtual 371, 3) := by decide +kernel
theorem dX10_again_99 : decode cX10_again 99 = .ok (.iload 5, 2) := by decide +kernel
theorem dX10_again_101 : decode cX10_again 101 = .ok (.ireturn, 1) := by decide +kernel
theorem dX10_divisor_0 : decode cX10_divisor 0 = .ok (.lload_n 0, 1) := by decide +kernel
theorem dX10_divisor_1 : decode cX10_divisor 1 = .ok (.lstore 4, 2) := by decide +kernel
theorem dX10_divisor_3 : decode cX10_divisor 3 = .ok (.lload_n 2, 1) := by decide +kernel
theorem dX10_divisor_4 : decode cX10_divisor 4 = .ok (.lstore 6, 2) := by decide +kernel
theorem dX10_divisor_6 : decode cX10_divisor 6 = .ok (.lload 6, 2) := by decide +kernel
theorem dX10_divisor_8 : decode cX10_divisor 8 = .ok (.lconst 0, 1) := by decide +kernel
theorem dX10_divisor_9 : decode cX10_divisor 9 = .ok (.lcmp, 1) := by decide +kernel
theorem dX10_divisor_10 : decode cX10_divisor 10 = .ok (.ifCond .eq 21, 3) := by decide +kernel
theorem dX10_divisor_13 : decode cX10_divisor 13 = .ok (.lload 4, 2) := by decide +kernel
theorem dX10_divisor_15 : decode cX10_divisor 15 = .ok (.lload 6, 2) := by decide +kernel
theorem dX10_divisor_17 : decode cX10_divisor 17 = .ok (.lrem, 1) := by decide +kernel
theorem dX10_divisor_18 : decode cX10_divisor 18 = .ok (.lstore 8, 2) := by decide +kernel
theorem dX10_divisor_20 : decode cX10_divisor 20 = .ok (.lload 6, 2) := by decide +kernel
theorem dX10_divisor_22 : decode cX10_divisor 22 = .ok (.lstore 4, 2) := by decide +kernel
theorem dX10_divisor_24 : decode cX10_divisor 24 = .ok (.lload 8, 2) := by decide +kernel
theorem dX10_divisor_26 : decode cX10_divisor 26 = .ok (.lstore 6, 2) := by decide +kernel
theorem dX10_divisor_28 : decode cX10_divisor 28 = .ok (.goto (-22), 3) := by decide +kernel
theorem dX10_divisor_31 : decode cX10_divisor 31 = .ok (.lload 4, 2) := by decide +kernel
theorem dX10_divisor_33 : decode cX10_divisor 33 = .ok (.lreturn, 1) := by decide +kernel
theorem dX10_partOf_0 : decode cX10_partOf 0 = .ok (.iload 4, 2) := by decide +kernel
theorem dX10_partOf_2 : decode cX10_partOf 2 = .ok (.ifCond .ne 7, 3) := by decide +kernel
theorem dX10_partOf_5 : decode cX10_partOf 5 = .ok (.lload_n 0, 1) := by decide +kernel
theorem dX10_partOf_6 : decode cX10_partOf 6 = .ok (.goto 4, 3) := by decide +kernel
theorem dX10_partOf_9 : decode cX10_partOf 9 = .ok (.lload_n 2, 1) := by decide +kernel
theorem dX10_partOf_10 : decode cX10_partOf 10 = .ok (.lload_n 0, 1) := by decide +kernel
theorem dX10_partOf_11 : decode cX10_partOf 11 = .ok (.lload_n 2, 1) := by decide +kernel
theorem dX10_partOf_12 : decode cX10_partOf 12 = .ok (.invokestatic 381, 3) := by decide +kernel
theorem dX10_partOf_15 : decode cX10_partOf 15 = .ok (.ldiv, 1) := by decide +kernel
theorem dX10_partOf_16 : decode cX10_partOf 16 = .ok (.lreturn, 1) := by decide +kernel
theorem dX10_likely_0 : decode cX10_likely 0 = .ok (.iload_n 1, 1) := by decide +kernel
theorem dX10_likely_1 : decode cX10_likely 1 = .ok (.iconst 2, 1) := by decide +kernel
theorem dX10_likely_2 : decode cX10_likely 2 = .ok (.bipush 20, 2) := by decide +kernel
theorem dX10_likely_4 : decode cX10_likely 4 = .ok (.invokestatic 138, 3) := by decide +kernel
theorem dX10_likely_7 : decode cX10_likely 7 = .ok (.istore_n 3, 1) := by decide +kernel
theorem dX10_likely_8 : decode cX10_likely 8 = .ok (.iload_n 3, 1) := by decide +kernel
theorem dX10_likely_9 : decode cX10_likely 9 = .ok (.ifCond .ne 15, 3) := by decide +kernel
theorem dX10_likely_12 : decode cX10_likely 12 = .ok (.iload_n 2, 1) := by decide +kernel
theorem dX10_likely_13 : decode cX10_likely 13 = .ok (.iconst 0, 1) := by decide +kernel
theorem dX10_likely_14 : decode cX10_likely 14 = .ok (.iconst 1, 1) := by decide +kernel
theorem dX10_likely_15 : decode cX10_likely 15 = .ok (.invokestatic 134, 3) := by decide +kernel
theorem dX10_likely_18 : decode cX10_likely 18 = .ok (.ifCond .ne 6, 3) := by decide +kernel
theorem dX10_likely_21 : decode cX10_likely 21 = .ok (.bipush (-2), 2) := by decide +kernel
theorem dX10_likely_23 : decode cX10_likely 23 = .ok (.istore_n 3, 1) := by decide +kernel
theorem dX10_likely_24 : decode cX10_likely 24 = .ok (.iload_n 3, 1) := by decide +kernel
theorem dX10_likely_25 : decode cX10_likely 25 = .ok (.ifCond .eq 9, 3) := by decide +kernel
theorem dX10_likely_28 : decode cX10_likely 28 = .ok (.aload_n 0, 1) := by decide +kernel
theorem dX10_likely_29 : decode cX10_likely 29 = .ok (.iload_n 3, 1) := by decide +kernel
theorem dX10_likely_30 : decode cX10_likely 30 = .ok (.invokevirtual 385, 3) := by decide +kernel
theorem dX10_likely_33 : decode cX10_likely 33 = .ok (.lreturn, 1) := by decide +kernel
theorem dX10_likely_34 : decode cX10_likely 34 = .ok (.lconst 0, 1) := by decide +kernel
theorem dX10_likely_35 : decode cX10_likely 35 = .ok (.lstore 4, 2) := by decide +kernel
theorem dX10_likely_37 : decode cX10_likely 37 = .ok (.iconst 0, 1) := by decide +kernel
theorem dX10_likely_38 : decode cX10_likely 38 = .ok (.istore 6, 2) := by decide +kernel
theorem dX10_likely_40 : decode cX10_likely 40 = .ok (.iload 6, 2) := by decide +kernel
theorem dX10_likely_42 : decode cX10_likely 42 = .ok (.bipush 8, 2) := by decide +kernel
theorem dX10_likely_44 : decode cX10_likely 44 = .ok (.if_icmp .ge 96, 3) := by decide +kernel
theorem dX10_likely_47 : decode cX10_likely 47 = .ok (.lconst 1, 1) := by decide +kernel
theorem dX10_likely_48 : decode cX10_likely 48 = .ok (.lstore 7, 2) := by decide +kernel
theorem dX10_likely_50 : decode cX10_likely 50 = .ok (.aload_n 0, 1) := by decide +kernel
theorem dX10_likely_51 : decode cX10_likely 51 = .ok (.invokevirtual 368, 3) := by decide +kernel
theorem dX10_likely_54 : decode cX10_likely 54 = .ok (.iconst 0, 1) := by decide +kernel
theorem dX10_likely_55 : decode cX10_likely 55 = .ok (.istore 9, 2) := by decide +kernel
theorem dX10_likely_57 : decode cX10_likely 57 = .ok (.iload 9, 2) := by decide +kernel
theorem dX10_likely_59 : decode cX10_likely 59 = .ok (.iconst 3, 1) := by decide +kernel
theorem dX10_likely_60 : decode cX10_likely 60 = .ok (.if_icmp .ge 47, 3) := by decide +kernel
theorem dX10_likely_63 : decode cX10_likely 63 = .ok (.aload_n 0, 1) := by decide +kernel
theorem dX10_likely_64 : decode cX10_likely 64 = .ok (.getfield 46, 3) := by decide +kernel
theorem dX10_likely_67 : decode cX10_likely 67 = .ok (.iload 9, 2) := by decide +kernel
theorem dX10_likely_69 : decode cX10_likely 69 = .ok (.iload 6, 2) := by decide +kernel
theorem dX10_likely_71 : decode cX10_likely 71 = .ok (.iload 9, 2) := by decide +kernel
theorem dX10_likely_73 : decode cX10_likely 73 = .ok (.ishr, 1) := by decide +kernel
theorem dX10_likely_74 : decode cX10_likely 74 = .ok (.iconst 1, 1) := by decide +kernel
theorem dX10_likely_75 : decode cX10_likely 75 = .ok (.iand, 1) := by decide +kernel
theorem dX10_likely_76 : decode cX10_likely 76 = .ok (.iastore, 1) := by decide +kernel
theorem dX10_likely_77 : decode cX10_likely 77 = .ok (.lload 7, 2) := by decide +kernel
theorem dX10_likely_79 : decode cX10_likely 79 = .ok (.aload_n 0, 1) := by decide +kernel
theorem dX10_likely_80 : decode cX10_likely 80 = .ok (.getfield 46, 3) := by decide +kernel
theorem dX10_likely_83 : decode cX10_likely 83 = .ok (.iload 9, 2) := by decide +kernel
theorem dX10_likely_85 : decode cX10_likely 85 = .ok (.iaload, 1) := by decide +kernel
theorem dX10_likely_86 : decode cX10_likely 86 = .ok (.iconst 1, 1) := by decide +kernel
theorem dX10_likely_87 : decode cX10_likely 87 = .ok (.if_icmp .ne 7, 3) := by decide +kernel
theorem dX10_likely_90 : decode cX10_likely 90 = .ok (.lconst 1, 1) := by decide +kernel
theorem dX10_likely_91 : decode cX10_likely 91 = .ok (.goto 7, 3) := by decide +kernel
theorem dX10_likely_94 : decode cX10_likely 94 = .ok (.iload_n 1, 1) := by decide +kernel
theorem dX10_likely_95 : decode cX10_likely 95 = .ok (.iconst 1, 1) := by decide +kernel
theorem dX10_likely_96 : decode cX10_likely 96 = .ok (.isub, 1) := by decide +kernel
theorem dX10_likely_97 : decode cX10_likely 97 = .ok (.i2l, 1) := by decide +kernel
theorem dX10_likely_98 : decode cX10_likely 98 = .ok (.lmul, 1) := by decide +kernel
theorem dX10_likely_99 : decode cX10_likely 99 = .ok (.lstore 7, 2) := by decide +kernel
theorem dX10_likely_101 : decode cX10_likely 101 = .ok (.iinc 9 1, 3) := by decide +kernel
theorem dX10_likely_104 : decode cX10_likely 104 = .ok (.goto (-47), 3) := by decide +kernel
theorem dX10_likely_107 : decode cX10_likely 107 = .ok (.aload_n 0, 1) := by decide +kernel
theorem dX10_likely_108 : decode cX10_likely 108 = .ok (.invokevirtual 353, 3) := by decide +kernel
theorem dX10_likely_111 : decode cX10_likely 111 = .ok (.lload 4, 2) := by decide +kernel
theorem dX10_likely_113 : decode cX10_likely 113 = .ok (.aload_n 0, 1) := by decide +kernel
theorem dX10_likely_114 : decode cX10_likely 114 = .ok (.invokevirtual 329, 3) := by decide +kernel
theorem dX10_likely_117 : decode cX10_likely 117 = .ok (.iconst 3, 1) := by decide +kernel
theorem dX10_likely_118 : decode cX10_likely 118 = .ok (.if_icmp .ne 7, 3) := by decide +kernel
theorem dX10_likely_121 : decode cX10_likely 121 = .ok (.lconst 0, 1) := by decide +kernel
theorem dX10_likely_122 : decode cX10_likely 122 = .ok (.goto 5, 3) := by decide +kernel
theorem dX10_likely_125 : decode cX10_likely 125 = .ok (.lload 7, 2) := by decide +kernel
theorem dX10_likely_127 : decode cX10_likely 127 = .ok (.ladd, 1) := by decide +kernel
theorem dX10_likely_128 : decode cX10_likely 128 = .ok (.lstore 4, 2) := by decide +kernel
theorem dX10_likely_130 : decode cX10_likely 130 = .ok (.aload_n 0, 1) := by decide +kernel
theorem dX10_likely_131 : decode cX10_likely 131 = .ok (.invokevirtual 371, 3) := by decide +kernel
theorem dX10_likely_134 : decode cX10_likely 134 = .ok (.iinc 6 1, 3) := by decide +kernel
theorem dX10_likely_137 : decode cX10_likely 137 = .ok (.goto (-97), 3) := by decide +kernel
theorem dX10_likely_140 : decode cX10_likely 140 = .ok (.lload 4, 2) := by decide +kernel
theorem dX10_likely_142 : decode cX10_likely 142 = .ok (.iload_n 1, 1) := by decide +kernel
theorem dX10_likely_143 : decode cX10_likely 143 = .ok (.i2l, 1) := by decide +kernel
theorem dX10_likely_144 : decode cX10_likely 144 = .ok (.iload_n 1, 1) := by decide +kernel
theorem dX10_likely_145 : decode cX10_likely 145 = .ok (.i2l, 1) := by decide +kernel
theorem dX10_likely_146 : decode cX10_likely 146 = .ok (.lmul, 1) := by decide +kernel
theorem dX10_likely_147 : decode cX10_likely 147 = .ok (.iload_n 1, 1) := by decide +kernel
theorem dX10_likely_148 : decode cX10_likely 148 = .ok (.i2l, 1) := by decide +kernel
theorem dX10_likely_149 : decode cX10_likely 149 = .ok (.lmul, 1) := by decide +kernel
theorem dX10_likely_150 : decode cX10_likely 150 = .ok (.iload_n 2, 1) := by decide +kernel
theorem dX10_likely_151 : decode cX10_likely 151 = .ok (.invokestatic 389, 3) := by decide +kernel
theorem dX10_likely_154 : decode cX10_likely 154 = .ok (.lreturn, 1) := by decide +kernel
theorem dX10_mean_0 : decode cX10_mean 0 = .ok (.iload_n 1, 1) := by decide +kernel
theorem dX10_mean_1 : decode cX10_mean 1 = .ok (.invokestatic 362, 3) := by decide +kernel
theorem dX10_mean_4 : decode cX10_mean 4 = .ok (.ifCond .ne 7, 3) := by decide +kernel
theorem dX10_mean_7 : decode cX10_mean 7 = .ok (.iconst (-1), 1) := by decide +kernel
theorem dX10_mean_8 : decode cX10_mean 8 = .ok (.goto 18, 3) := by decide +kernel
theorem dX10_mean_11 : decode cX10_mean 11 = .ok (.iload_n 2, 1) := by decide +kernel
theorem dX10_mean_12 : decode cX10_mean 12 = .ok (.iconst 0, 1) := by decide +kernel
theorem dX10_mean_13 : decode cX10_mean 13 = .ok (.iconst 1, 1) := by decide +kernel
theorem dX10_mean_14 : decode cX10_mean 14 = .ok (.invokestatic 134, 3) := by decide +kernel
theorem dX10_mean_17 : decode cX10_mean 17 = .ok (.ifCond .ne 8, 3) := by decide +kernel
theorem dX10_mean_20 : decode cX10_mean 20 = .ok (.bipush (-2), 2) := by decide +kernel
theorem dX10_mean_22 : decode cX10_mean 22 = .ok (.goto 4, 3) := by decide +kernel
theorem dX10_mean_25 : decode cX10_mean 25 = .ok (.iconst 0, 1) := by decide +kernel
theorem dX10_mean_26 : decode cX10_mean 26 = .ok (.istore_n 3, 1) := by decide +kernel
theorem dX10_mean_27 : decode cX10_mean 27 = .ok (.iload_n 3, 1) := by decide +kernel
theorem dX10_mean_28 : decode cX10_mean 28 = .ok (.ifCond .eq 9, 3) := by decide +kernel
theorem dX10_mean_31 : decode cX10_mean 31 = .ok (.aload_n 0, 1) := by decide +kernel
theorem dX10_mean_32 : decode cX10_mean 32 = .ok (.iload_n 3, 1) := by decide +kernel
theorem dX10_mean_33 : decode cX10_mean 33 = .ok (.invokevirtual 385, 3) := by decide +kernel
theorem dX10_mean_36 : decode cX10_mean 36 = .ok (.lreturn, 1) := by decide +kernel
theorem dX10_mean_37 : decode cX10_mean 37 = .ok (.iconst 0, 1) := by decide +kernel
theorem dX10_mean_38 : decode cX10_mean 38 = .ok (.istore 4, 2) := by decide +kernel
theorem dX10_mean_40 : decode cX10_mean 40 = .ok (.iconst 0, 1) := by decide +kernel
theorem dX10_mean_41 : decode cX10_mean 41 = .ok (.istore 5, 2) := by decide +kernel
theorem dX10_mean_43 : decode cX10_mean 43 = .ok (.iload 5, 2) := by decide +kernel
theorem dX10_mean_45 : decode cX10_mean 45 = .ok (.bipush 10, 2) := by decide +kernel
theorem dX10_mean_47 : decode cX10_mean 47 = .ok (.if_icmp .ge 25, 3) := by decide +kernel
theorem dX10_mean_50 : decode cX10_mean 50 = .ok (.aload_n 0, 1) := by decide +kernel
theorem dX10_mean_51 : decode cX10_mean 51 = .ok (.iload_n 1, 1) := by decide +kernel
theorem dX10_mean_52 : decode cX10_mean 52 = .ok (.iload 5, 2) := by decide +kernel
theorem dX10_mean_54 : decode cX10_mean 54 = .ok (.invokevirtual 374, 3) := by decide +kernel
theorem dX10_mean_57 : decode cX10_mean 57 = .ok (.iload 4, 2) := by decide +kernel
theorem dX10_mean_59 : decode cX10_mean 59 = .ok (.aload_n 0, 1) := by decide +kernel
theorem dX10_mean_60 : decode cX10_mean 60 = .ok (.getfield 256, 3) := by decide +kernel
theorem dX10_mean_63 : decode cX10_mean 63 = .ok (.iadd, 1) := by decide +kernel
theorem dX10_mean_64 : decode cX10_mean 64 = .ok (.istore 4, 2) := by decide +kernel
theorem dX10_mean_66 : decode cX10_mean 66 = .ok (.iinc 5 1, 3) := by decide +kernel
theorem dX10_mean_69 : decode cX10_mean 69 = .ok (.goto (-26), 3) := by decide +kernel
theorem dX10_mean_72 : decode cX10_mean 72 = .ok (.iload 4, 2) := by decide +kernel
theorem dX10_mean_74 : decode cX10_mean 74 = .ok (.i2l, 1) := by decide +kernel
theorem dX10_mean_75 : decode cX10_mean 75 = .ok (.ldc2_w 393, 3) := by decide +kernel
theorem dX10_mean_78 : decode cX10_mean 78 = .ok (.iload_n 2, 1) := by decide +kernel
theorem dX10_mean_79 : decode cX10_mean 79 = .ok (.invokestatic 389, 3) := by decide +kernel
theorem dX10_mean_82 : decode cX10_mean 82 = .ok (.lreturn, 1) := by decide +kernel
theorem dX10_endsSo_0 : decode cX10_endsSo 0 = .ok (.iconst 0, 1) := by decide +kernel
theorem dX10_endsSo_1 : decode cX10_endsSo 1 = .ok (.istore_n 3, 1) := by decide +kernel
theorem dX10_endsSo_2 : decode cX10_endsSo 2 = .ok (.iload_n 3, 1) := by decide +kernel
theorem dX10_endsSo_3 : decode cX10_endsSo 3 = .ok (.aload_n 0, 1) := by decide +kernel
theorem dX10_endsSo_4 : decode cX10_endsSo 4 = .ok (.getfield 395, 3) := by decide +kernel
theorem dX10_endsSo_7 : decode cX10_endsSo 7 = .ok (.if_icmp .ge 32, 3) := by decide +kernel
theorem dX10_endsSo_10 : decode cX10_endsSo 10 = .ok (.aload_n 0, 1) := by decide +kernel
theorem dX10_endsSo_11 : decode cX10_endsSo 11 = .ok (.iload_n 1, 1) := by decide +kernel
theorem dX10_endsSo_12 : decode cX10_endsSo 12 = .ok (.iload_n 2, 1) := by decide +kernel
theorem dX10_endsSo_13 : decode cX10_endsSo 13 = .ok (.iload_n 3, 1) := by decide +kernel
theorem dX10_endsSo_14 : decode cX10_endsSo 14 = .ok (.iadd, 1) := by decide +kernel
theorem dX10_endsSo_15 : decode cX10_endsSo 15 = .ok (.invokevirtual 374, 3) := by decide +kernel
theorem dX10_endsSo_18 : decode cX10_endsSo 18 = .ok (.aload_n 0, 1) := by decide +kernel
theorem dX10_endsSo_19 : decode cX10_endsSo 19 = .ok (.invokevirtual 329, 3) := by decide +kernel
theorem dX10_endsSo_22 : decode cX10_endsSo 22 = .ok (.aload_n 0, 1) := by decide +kernel
theorem dX10_endsSo_23 : decode cX10_endsSo 23 = .ok (.getfield 116, 3) := by decide +kernel
theorem dX10_endsSo_26 : decode cX10_endsSo 26 = .ok (.iload_n 3, 1) := by decide +kernel
theorem dX10_endsSo_27 : decode cX10_endsSo 27 = .ok (.iaload, 1) := by decide +kernel
theorem dX10_endsSo_28 : decode cX10_endsSo 28 = .ok (.if_icmp .eq 5, 3) := by decide +kernel
theorem dX10_endsSo_31 : decode cX10_endsSo 31 = .ok (.iconst 0, 1) := by decide +kernel
theorem dX10_endsSo_32 : decode cX10_endsSo 32 = .ok (.ireturn, 1) := by decide +kernel
theorem dX10_endsSo_33 : decode cX10_endsSo 33 = .ok (.iinc 3 1, 3) := by decide +kernel
theorem dX10_endsSo_36 : decode cX10_endsSo 36 = .ok (.goto (-34), 3) := by decide +kernel
theorem dX10_endsSo_39 : decode cX10_endsSo 39 = .ok (.iconst 1, 1) := by decide +kernel
theorem dX10_endsSo_40 : decode cX10_endsSo 40 = .ok (.ireturn, 1) := by decide +kernel
theorem dX10_whatIs_0 : decode cX10_whatIs 0 = .ok (.iload_n 1, 1) := by decide +kernel
theorem dX10_whatIs_1 : decode cX10_whatIs 1 = .ok (.invokestatic 362, 3) := by decide +kernel
theorem dX10_whatIs_4 : decode cX10_whatIs 4 = .ok (.ifCond .ne 9, 3) := by decide +kernel
theorem dX10_whatIs_7 : decode cX10_whatIs 7 = .ok (.aload_n 0, 1) := by decide +kernel
theorem dX10_whatIs_8 : decode cX10_whatIs 8 = .ok (.iconst (-1), 1) := by decide +kernel
theorem dX10_whatIs_9 : decode cX10_whatIs 9 = .ok (.invokevirtual 145, 3) := by decide +kernel
theorem dX10_whatIs_12 : decode cX10_whatIs 12 = .ok (.ireturn, 1) := by decide +kernel
theorem dX10_whatIs_13 : decode cX10_whatIs 13 = .ok (.iconst 0, 1) := by decide +kernel
theorem dX10_whatIs_14 : decode cX10_whatIs 14 = .ok (.istore_n 2, 1) := by decide +kernel
theorem dX10_whatIs_15 : decode cX10_whatIs 15 = .ok (.iconst 0, 1) := by decide +kernel
theorem dX10_whatIs_16 : decode cX10_whatIs 16 = .ok (.istore_n 3, 1) := by decide +kernel
theorem dX10_whatIs_17 : decode cX10_whatIs 17 = .ok (.iload_n 3, 1) := by decide +kernel
theorem dX10_whatIs_18 : decode cX10_whatIs 18 = .ok (.bipush 16, 2) := by decide +kernel
theorem dX10_whatIs_20 : decode cX10_whatIs 20 = .ok (.if_icmp .ge 28, 3) := by decide +kernel
theorem dX10_whatIs_23 : decode cX10_whatIs 23 = .ok (.iload_n 2, 1) := by decide +kernel
theorem dX10_whatIs_24 : decode cX10_whatIs 24 = .ok (.aload_n 0, 1) := by decide +kernel
theorem dX10_whatIs_25 : decode cX10_whatIs 25 = .ok (.iload_n 1, 1) := by decide +kernel
theorem dX10_whatIs_26 : decode cX10_whatIs 26 = .ok (.iload_n 3, 1) := by decide +kernel
theorem dX10_whatIs_27 : decode cX10_whatIs 27 = .ok (.invokevirtual 398, 3) := by decide +kernel
theorem dX10_whatIs_30 : decode cX10_whatIs 30 = .ok (.ifCond .eq 9, 3) := by decide +kernel
theorem dX10_whatIs_33 : decode cX10_whatIs 33 = .ok (.iconst 1, 1) := by decide +kernel
theorem dX10_whatIs_34 : decode cX10_whatIs 34 = .ok (.iload_n 3, 1) := by decide +kernel
theorem dX10_whatIs_35 : decode cX10_whatIs 35 = .ok (.ishl, 1) := by decide +kernel
theorem dX10_whatIs_36 : decode cX10_whatIs 36 = .ok (.goto 4, 3) := by decide +kernel
theorem dX10_whatIs_39 : decode cX10_whatIs 39 = .ok (.iconst 0, 1) := by decide +kernel
theorem dX10_whatIs_40 : decode cX10_whatIs 40 = .ok (.ior, 1) := by decide +kernel
theorem dX10_whatIs_41 : decode cX10_whatIs 41 = .ok (.istore_n 2, 1) := by decide +kernel
theorem dX10_whatIs_42 : decode cX10_whatIs 42 = .ok (.iinc 3 1, 3) := by decide +kernel
theorem dX10_whatIs_45 : decode cX10_whatIs 45 = .ok (.goto (-28), 3) := by decide +kernel
theorem dX10_whatIs_48 : decode cX10_whatIs 48 = .ok (.iload_n 2, 1) := by decide +kernel
theorem dX10_whatIs_49 : decode cX10_whatIs 49 = .ok (.ireturn, 1) := by decide +kernel
theorem dX10_row_0 : decode cX10_row 0 = .ok (.iload_n 1, 1) := by decide +kernel
theorem dX10_row_1 : decode cX10_row 1 = .ok (.iconst 0, 1) := by decide +kernel
theorem dX10_row_2 : decode cX10_row 2 = .ok (.bipush 99, 2) := by decide +kernel
theorem dX10_row_4 : decode cX10_row 4 = .ok (.invokestatic 138, 3) := by decide +kernel
theorem dX10_row_7 : decode cX10_row 7 = .ok (.istore_n 2, 1) := by decide +kernel
theorem dX10_row_8 : decode cX10_row 8 = .ok (.iload_n 2, 1) := by decide +kernel
theorem dX10_row_9 : decode cX10_row 9 = .ok (.ifCond .ne 15, 3) := by decide +kernel
theorem dX10_row_12 : decode cX10_row 12 = .ok (.aload_n 0, 1) := by decide +kernel
theorem dX10_row_13 : decode cX10_row 13 = .ok (.getfield 395, 3) := by decide +kernel
theorem dX10_row_16 : decode cX10_row 16 = .ok (.bipush 16, 2) := by decide +kernel
theorem dX10_row_18 : decode cX10_row 18 = .ok (.if_icmp .ne 6, 3) := by decide +kernel
theorem dX10_row_21 : decode cX10_row 21 = .ok (.bipush (-6), 2) := by decide +kernel
theorem dX10_row_23 : decode cX10_row 23 = .ok (.istore_n 2, 1) := by decide +kernel
theorem dX10_row_24 : decode cX10_row 24 = .ok (.iload_n 2, 1) := by decide +kernel
theorem dX10_row_25 : decode cX10_row 25 = .ok (.ifCond .eq 9, 3) := by decide +kernel
theorem dX10_row_28 : decode cX10_row 28 = .ok (.aload_n 0, 1) := by decide +kernel
theorem dX10_row_29 : decode cX10_row 29 = .ok (.iload_n 2, 1) := by decide +kernel
theorem dX10_row_30 : decode cX10_row 30 = .ok (.invokevirtual 145, 3) := by decide +kernel
theorem dX10_row_33 : decode cX10_row 33 = .ok (.ireturn, 1) := by decide +kernel
theorem dX10_row_34 : decode cX10_row 34 = .ok (.aload_n 0, 1) := by decide +kernel
theorem dX10_row_35 : decode cX10_row 35 = .ok (.getfield 116, 3) := by decide +kernel
theorem dX10_row_38 : decode cX10_row 38 = .ok (.aload_n 0, 1) := by decide +kernel
theorem dX10_row_39 : decode cX10_row 39 = .ok (.getfield 395, 3) := by decide +kernel
theorem dX10_row_42 : decode cX10_row 42 = .ok (.iload_n 1, 1) := by decide +kernel
theorem dX10_row_43 : decode cX10_row 43 = .ok (.iastore, 1) := by decide +kernel
theorem dX10_row_44 : decode cX10_row 44 = .ok (.aload_n 0, 1) := by decide +kernel
theorem dX10_row_45 : decode cX10_row 45 = .ok (.dup, 1) := by decide +kernel
theorem dX10_row_46 : decode cX10_row 46 = .ok (.getfield 395, 3) := by decide +kernel
theorem dX10_row_49 : decode cX10_row 49 = .ok (.iconst 1, 1) := by decide +kernel
theorem dX10_row_50 : decode cX10_row 50 = .ok (.iadd, 1) := by decide +kernel
theorem dX10_row_51 : decode cX10_row 51 = .ok (.putfield 395, 3) := by decide +kernel
theorem dX10_row_54 : decode cX10_row 54 = .ok (.aload_n 0, 1) := by decide +kernel
theorem dX10_row_55 : decode cX10_row 55 = .ok (.getfield 395, 3) := by decide +kernel
theorem dX10_row_58 : decode cX10_row 58 = .ok (.ireturn, 1) := by decide +kernel
theorem dX10_judge_0 : decode cX10_judge 0 = .ok (.aload_n 0, 1) := by decide +kernel
theorem dX10_judge_1 : decode cX10_judge 1 = .ok (.getfield 395, 3) := by decide +kernel
theorem dX10_judge_4 : decode cX10_judge 4 = .ok (.istore_n 1, 1) := by decide +kernel
theorem dX10_judge_5 : decode cX10_judge 5 = .ok (.aload_n 0, 1) := by decide +kernel
theorem dX10_judge_6 : decode cX10_judge 6 = .ok (.iconst 0, 1) := by decide +kernel
theorem dX10_judge_7 : decode cX10_judge 7 = .ok (.putfield 395, 3) := by decide +kernel
theorem dX10_judge_10 : decode cX10_judge 10 = .ok (.iconst 0, 1) := by decide +kernel
theorem dX10_judge_11 : decode cX10_judge 11 = .ok (.istore_n 2, 1) := by decide +kernel
theorem dX10_judge_12 : decode cX10_judge 12 = .ok (.iload_n 2, 1) := by decide +kernel
theorem dX10_judge_13 : decode cX10_judge 13 = .ok (.iload_n 1, 1) := by decide +kernel
theorem dX10_judge_14 : decode cX10_judge 14 = .ok (.if_icmp .ge 37, 3) := by decide +kernel
theorem dX10_judge_17 : decode cX10_judge 17 = .ok (.aload_n 0, 1) := by decide +kernel
theorem dX10_judge_18 : decode cX10_judge 18 = .ok (.iconst 0, 1) := by decide +kernel
theorem dX10_judge_19 : decode cX10_judge 19 = .ok (.iload_n 2, 1) := by decide +kernel
theorem dX10_judge_20 : decode cX10_judge 20 = .ok (.invokevirtual 374, 3) := by decide +kernel
theorem dX10_judge_23 : decode cX10_judge 23 = .ok (.aload_n 0, 1) := by decide +kernel
theorem dX10_judge_24 : decode cX10_judge 24 = .ok (.invokevirtual 329, 3) := by decide +kernel
theorem dX10_judge_27 : decode cX10_judge 27 = .ok (.ifCond .ne 16, 3) := by decide +kernel
theorem dX10_judge_30 : decode cX10_judge 30 = .ok (.aload_n 0, 1) := by decide +kernel
theorem dX10_judge_31 : decode cX10_judge 31 = .ok (.invokevirtual 332, 3) := by decide +kernel
theorem dX10_judge_34 : decode cX10_judge 34 = .ok (.aload_n 0, 1) := by decide +kernel
theorem dX10_judge_35 : decode cX10_judge 35 = .ok (.getfield 116, 3) := by decide +kernel
theorem dX10_judge_38 : decode cX10_judge 38 = .ok (.iload_n 2, 1) := by decide +kernel
theorem dX10_judge_39 : decode cX10_judge 39 = .ok (.iaload, 1) := by decide +kernel
theorem dX10_judge_40 : decode cX10_judge 40 = .ok (.if_icmp .eq 5, 3) := by decide +kernel
theorem dX10_judge_43 : decode cX10_judge 43 = .ok (.iload_n 2, 1) := by decide +kernel
theorem dX10_judge_44 : decode cX10_judge 44 = .ok (.ireturn, 1) := by decide +kernel
theorem dX10_judge_45 : decode cX10_judge 45 = .ok (.iinc 2 1, 3) := by decide +kernel
theorem dX10_judge_48 : decode cX10_judge 48 = .ok (.goto (-36), 3) := by decide +kernel
theorem dX10_judge_51 : decode cX10_judge 51 = .ok (.bipush (-9), 2) := by decide +kernel
theorem dX10_judge_53 : decode cX10_judge 53 = .ok (.ireturn, 1) := by decide +kernel
theorem dX10_clear_0 : decode cX10_clear 0 = .ok (.aload_n 0, 1) := by decide +kernel
theorem dX10_clear_1 : decode cX10_clear 1 = .ok (.getfield 395, 3) := by decide +kernel
theorem dX10_clear_4 : decode cX10_clear 4 = .ok (.istore_n 1, 1) := by decide +kernel
theorem dX10_clear_5 : decode cX10_clear 5 = .ok (.aload_n 0, 1) := by decide +kernel
theorem dX10_clear_6 : decode cX10_clear 6 = .ok (.iconst 0, 1) := by decide +kernel
theorem dX10_clear_7 : decode cX10_clear 7 = .ok (.putfield 395, 3) := by decide +kernel
theorem dX10_clear_10 : decode cX10_clear 10 = .ok (.iload_n 1, 1) := by decide +kernel
theorem dX10_clear_11 : decode cX10_clear 11 = .ok (.ireturn, 1) := by decide +kernel
theorem dX10_draw_0 : decode cX10_draw 0 = .ok (.aload_n 0, 1) := by decide +kernel
theorem dX10_draw_1 : decode cX10_draw 1 = .ok (.aload_n 0, 1) := by decide +kernel
theorem dX10_draw_2 : decode cX10_draw 2 = .ok (.getfield 401, 3) := by decide +kernel
theorem dX10_draw_5 : decode cX10_draw 5 = .ok (.ldc_w 404, 3) := by decide +kernel
theorem dX10_draw_8 : decode cX10_draw 8 = .ok (.imul, 1) := by decide +kernel
theorem dX10_draw_9 : decode cX10_draw 9 = .ok (.ldc_w 405, 3) := by decide +kernel
theorem dX10_draw_12 : decode cX10_draw 12 = .ok (.iadd, 1) := by decide +kernel
theorem dX10_draw_13 : decode cX10_draw 13 = .ok (.putfield 401, 3) := by decide +kernel
theorem dX10_draw_16 : decode cX10_draw 16 = .ok (.aload_n 0, 1) := by decide +kernel
theorem dX10_draw_17 : decode cX10_draw 17 = .ok (.getfield 401, 3) := by decide +kernel
theorem dX10_draw_20 : decode cX10_draw 20 = .ok (.ldc_w 406, 3) := by decide +kernel
theorem dX10_draw_23 : decode cX10_draw 23 = .ok (.iand, 1) := by decide +kernel
theorem dX10_draw_24 : decode cX10_draw 24 = .ok (.sipush 256, 3) := by decide +kernel
theorem dX10_draw_27 : decode cX10_draw 27 = .ok (.idiv, 1) := by decide +kernel
theorem dX10_draw_28 : decode cX10_draw 28 = .ok (.iload_n 1, 1) := by decide +kernel
theorem dX10_draw_29 : decode cX10_draw 29 = .ok (.irem, 1) := by decide +kernel
theorem dX10_draw_30 : decode cX10_draw 30 = .ok (.ireturn, 1) := by decide +kernel
theorem dX10_lots_0 : decode cX10_lots 0 = .ok (.iload_n 1, 1) := by decide +kernel
theorem dX10_lots_1 : decode cX10_lots 1 = .ok (.iconst 1, 1) := by decide +kernel
theorem dX10_lots_2 : decode cX10_lots 2 = .ok (.bipush 20, 2) := by decide +kernel
theorem dX10_lots_4 : decode cX10_lots 4 = .ok (.invokestatic 138, 3) := by decide +kernel
theorem dX10_lots_7 : decode cX10_lots 7 = .ok (.istore 4, 2) := by decide +kernel
theorem dX10_lots_9 : decode cX10_lots 9 = .ok (.iload 4, 2) := by decide +kernel
theorem dX10_lots_11 : decode cX10_lots 11 = .ok (.ifCond .ne 16, 3) := by decide +kernel
theorem dX10_lots_14 : decode cX10_lots 14 = .ok (.iload_n 3, 1) := by decide +kernel
theorem dX10_lots_15 : decode cX10_lots 15 = .ok (.iconst 0, 1) := by decide +kernel
theorem dX10_lots_16 : decode cX10_lots 16 = .ok (.iconst 1, 1) := by decide +kernel
theorem dX10_lots_17 : decode cX10_lots 17 = .ok (.invokestatic 134, 3) := by decide +kernel
theorem dX10_lots_20 : decode cX10_lots 20 = .ok (.ifCond .ne 7, 3) := by decide +kernel
theorem dX10_lots_23 : decode cX10_lots 23 = .ok (.bipush (-2), 2) := by decide +kernel
theorem dX10_lots_25 : decode cX10_lots 25 = .ok (.istore 4, 2) := by decide +kernel
theorem dX10_lots_27 : decode cX10_lots 27 = .ok (.iload 4, 2) := by decide +kernel
theorem dX10_lots_29 : decode cX10_lots 29 = .ok (.ifCond .eq 10, 3) := by decide +kernel
theorem dX10_lots_32 : decode cX10_lots 32 = .ok (.aload_n 0, 1) := by decide +kernel
theorem dX10_lots_33 : decode cX10_lots 33 = .ok (.iload 4, 2) := by decide +kernel
theorem dX10_lots_35 : decode cX10_lots 35 = .ok (.invokevirtual 359, 3) := by decide +kernel
theorem dX10_lots_38 : decode cX10_lots 38 = .ok (.ireturn, 1) := by decide +kernel
theorem dX10_lots_39 : decode cX10_lots 39 = .ok (.aload_n 0, 1) := by decide +kernel
theorem dX10_lots_40 : decode cX10_lots 40 = .ok (.iload_n 2, 1) := by decide +kernel
theorem dX10_lots_41 : decode cX10_lots 41 = .ok (.putfield 401, 3) := by decide +kernel
theorem dX10_lots_44 : decode cX10_lots 44 = .ok (.iconst 0, 1) := by decide +kernel
theorem dX10_lots_45 : decode cX10_lots 45 = .ok (.istore 5, 2) := by decide +kernel
theorem dX10_lots_47 : decode cX10_lots 47 = .ok (.iconst 0, 1) := by decide +kernel
theorem dX10_lots_48 : decode cX10_lots 48 = .ok (.istore 6, 2) := by decide +kernel
theorem dX10_lots_50 : decode cX10_lots 50 = .ok (.iload 6, 2) := by decide +kernel
theorem dX10_lots_52 : decode cX10_lots 52 = .ok (.iload_n 1, 1) := by decide +kernel
theorem dX10_lots_53 : decode cX10_lots 53 = .ok (.if_icmp .ge 96, 3) := by decide +kernel
theorem dX10_lots_56 : decode cX10_lots 56 = .ok (.aload_n 0, 1) := by decide +kernel
theorem dX10_lots_57 : decode cX10_lots 57 = .ok (.invokevirtual 368, 3) := by decide +kernel
theorem dX10_lots_60 : decode cX10_lots 60 = .ok (.iconst 0, 1) := by decide +kernel
theorem dX10_lots_61 : decode cX10_lots 61 = .ok (.istore 7, 2) := by decide +kernel
theorem dX10_lots_63 : decode cX10_lots 63 = .ok (.iload 7, 2) := by decide +kernel
theorem dX10_lots_65 : decode cX10_lots 65 = .ok (.bipush 6, 2) := by decide +kernel
theorem dX10_lots_67 : decode cX10_lots 67 = .ok (.if_icmp .ge 22, 3) := by decide +kernel
theorem dX10_lots_70 : decode cX10_lots 70 = .ok (.aload_n 0, 1) := by decide +kernel
theorem dX10_lots_71 : decode cX10_lots 71 = .ok (.getfield 46, 3) := by decide +kernel
theorem dX10_lots_74 : decode cX10_lots 74 = .ok (.iload 7, 2) := by decide +kernel
theorem dX10_lots_76 : decode cX10_lots 76 = .ok (.aload_n 0, 1) := by decide +kernel
theorem dX10_lots_77 : decode cX10_lots 77 = .ok (.bipush 10, 2) := by decide +kernel
theorem dX10_lots_79 : decode cX10_lots 79 = .ok (.invokevirtual 407, 3) := by decide +kernel
theorem dX10_lots_82 : decode cX10_lots 82 = .ok (.iastore, 1) := by decide +kernel
theorem dX10_lots_83 : decode cX10_lots 83 = .ok (.iinc 7 1, 3) := by decide +kernel
theorem dX10_lots_86 : decode cX10_lots 86 = .ok (.goto (-23), 3) := by decide +kernel
theorem dX10_lots_89 : decode cX10_lots 89 = .ok (.aload_n 0, 1) := by decide +kernel
theorem dX10_lots_90 : decode cX10_lots 90 = .ok (.invokevirtual 353, 3) := by decide +kernel
theorem dX10_lots_93 : decode cX10_lots 93 = .ok (.iload_n 3, 1) := by decide +kernel
theorem dX10_lots_94 : decode cX10_lots 94 = .ok (.iconst 1, 1) := by decide +kernel
theorem dX10_lots_95 : decode cX10_lots 95 = .ok (.if_icmp .ne 24, 3) := by decide +kernel
theorem dX10_lots_98 : decode cX10_lots 98 = .ok (.iload 5, 2) := by decide +kernel
theorem dX10_lots_100 : decode cX10_lots 100 = .ok (.aload_n 0, 1) := by decide +kernel
theorem dX10_lots_101 : decode cX10_lots 101 = .ok (.invokevirtual 329, 3) := by decide +kernel
theorem dX10_lots_104 : decode cX10_lots 104 = .ok (.iconst 3, 1) := by decide +kernel
theorem dX10_lots_105 : decode cX10_lots 105 = .ok (.if_icmp .ne 7, 3) := by decide +kernel
theorem dX10_lots_108 : decode cX10_lots 108 = .ok (.iconst 1, 1) := by decide +kernel
theorem dX10_lots_109 : decode cX10_lots 109 = .ok (.goto 4, 3) := by decide +kernel
theorem dX10_lots_112 : decode cX10_lots 112 = .ok (.iconst 0, 1) := by decide +kernel
theorem dX10_lots_113 : decode cX10_lots 113 = .ok (.iadd, 1) := by decide +kernel
theorem dX10_lots_114 : decode cX10_lots 114 = .ok (.istore 5, 2) := by decide +kernel
theorem dX10_lots_116 : decode cX10_lots 116 = .ok (.goto 23, 3) := by decide +kernel
theorem dX10_lots_119 : decode cX10_lots 119 = .ok (.iload 5, 2) := by decide +kernel
theorem dX10_lots_121 : decode cX10_lots 121 = .ok (.aload_n 0, 1) := by decide +kernel
theorem dX10_lots_122 : decode cX10_lots 122 = .ok (.invokevirtual 329, 3) := by decide +kernel
theorem dX10_lots_125 : decode cX10_lots 125 = .ok (.ifCond .ne 10, 3) := by decide +kernel
theorem dX10_lots_128 : decode cX10_lots 128 = .ok (.aload_n 0, 1) := by decide +kernel
theorem dX10_lots_129 : decode cX10_lots 129 = .ok (.invokevirtual 332, 3) := by decide +kernel
theorem dX10_lots_132 : decode cX10_lots 132 = .ok (.goto 4, 3) := by decide +kernel
theorem dX10_lots_135 : decode cX10_lots 135 = .ok (.iconst 0, 1) := by decide +kernel
theorem dX10_lots_136 : decode cX10_lots 136 = .ok (.iadd, 1) := by decide +kernel
theorem dX10_lots_137 : decode cX10_lots 137 = .ok (.istore 5, 2) := by decide +kernel
theorem dX10_lots_139 : decode cX10_lots 139 = .ok (.aload_n 0, 1) := by decide +kernel
theorem dX10_lots_140 : decode cX10_lots 140 = .ok (.invokevirtual 371, 3) := by decide +kernel
theorem dX10_lots_143 : decode cX10_lots 143 = .ok (.iinc 6 1, 3) := by decide +kernel
theorem dX10_lots_146 : decode cX10_lots 146 = .ok (.goto (-96), 3) := by decide +kernel
theorem dX10_lots_149 : decode cX10_lots 149 = .ok (.iload 5, 2) := by decide +kernel
theorem dX10_lots_151 : decode cX10_lots 151 = .ok (.ireturn, 1) := by decide +kernel
theorem dX10_passes_0 : decode cX10_passes 0 = .ok (.iconst 0, 1) := by decide +kernel
theorem dX10_passes_1 : decode cX10_passes 1 = .ok (.istore_n 2, 1) := by decide +kernel
theorem dX10_passes_2 : decode cX10_passes 2 = .ok (.iload_n 2, 1) := by decide +kernel
theorem dX10_passes_3 : decode cX10_passes 3 = .ok (.aload_n 1, 1) := by decide +kernel
theorem dX10_passes_4 : decode cX10_passes 4 = .ok (.arraylength, 1) := by decide +kernel
theorem dX10_passes_5 : decode cX10_passes 5 = .ok (.if_icmp .ge 53, 3) := by decide +kernel
theorem dX10_passes_8 : decode cX10_passes 8 = .ok (.aload_n 0, 1) := by decide +kernel
theorem dX10_passes_9 : decode cX10_passes 9 = .ok (.getfield 410, 3) := by decide +kernel
theorem dX10_passes_12 : decode cX10_passes 12 = .ok (.ifCond .eq 18, 3) := by decide +kernel
theorem dX10_passes_15 : decode cX10_passes 15 = .ok (.aload_n 0, 1) := by decide +kernel
theorem dX10_passes_16 : decode cX10_passes 16 = .ok (.getfield 119, 3) := by decide +kernel
theorem dX10_passes_19 : decode cX10_passes 19 = .ok (.aload_n 0, 1) := by decide +kernel
theorem dX10_passes_20 : decode cX10_passes 20 = .ok (.getfield 414, 3) := by decide +kernel
theorem dX10_passes_23 : decode cX10_passes 23 = .ok (.aload_n 1, 1) := by decide +kernel
theorem dX10_passes_24 : decode cX10_passes 24 = .ok (.iload_n 2, 1) := by decide +kernel
theorem dX10_passes_25 : decode cX10_passes 25 = .ok (.iaload, 1) := by decide +kernel
theorem dX10_passes_26 : decode cX10_passes 26 = .ok (.iastore, 1) := by decide +kernel
theorem dX10_passes_27 : decode cX10_passes 27 = .ok (.goto 15, 3) := by decide +kernel
theorem dX10_passes_30 : decode cX10_passes 30 = .ok (.aload_n 1, 1) := by decide +kernel
theorem dX10_passes_31 : decode cX10_passes 31 = .ok (.iload_n 2, 1) := by decide +kernel
theorem dX10_passes_32 : decode cX10_passes 32 = .ok (.aload_n 0, 1) := by decide +kernel
theorem dX10_passes_33 : decode cX10_passes 33 = .ok (.getfield 119, 3) := by decide +kernel
theorem dX10_passes_36 : decode cX10_passes 36 = .ok (.aload_n 0, 1) := by decide +kernel
theorem dX10_passes_37 : decode cX10_passes 37 = .ok (.getfield 414, 3) := by decide +kernel
theorem dX10_passes_40 : decode cX10_passes 40 = .ok (.iaload, 1) := by decide +kernel
theorem dX10_passes_41 : decode cX10_passes 41 = .ok (.iastore, 1) := by decide +kernel
theorem dX10_passes_42 : decode cX10_passes 42 = .ok (.aload_n 0, 1) := by decide +kernel
theorem dX10_passes_43 : decode cX10_passes 43 = .ok (.dup, 1) := by decide +kernel
theorem dX10_passes_44 : decode cX10_passes 44 = .ok (.getfield 414, 3) := by decide +kernel
theorem dX10_passes_47 : decode cX10_passes 47 = .ok (.iconst 1, 1) := by decide +kernel
theorem dX10_passes_48 : decode cX10_passes 48 = .ok (.iadd, 1) := by decide +kernel
theorem dX10_passes_49 : decode cX10_passes 49 = .ok (.putfield 414, 3) := by decide +kernel
theorem dX10_passes_52 : decode cX10_passes 52 = .ok (.iinc 2 1, 3) := by decide +kernel
theorem dX10_passes_55 : decode cX10_passes 55 = .ok (.goto (-53), 3) := by decide +kernel
theorem dX10_passes_58 : decode cX10_passes 58 = .ok (.return_, 1) := by decide +kernel
theorem dX10_passOne_0 : decode cX10_passOne 0 = .ok (.aload_n 0, 1) := by decide +kernel
theorem dX10_passOne_1 : decode cX10_passOne 1 = .ok (.getfield 410, 3) := by decide +kernel
theorem dX10_passOne_4 : decode cX10_passOne 4 = .ok (.ifCond .eq 7, 3) := by decide +kernel
theorem dX10_passOne_7 : decode cX10_passOne 7 = .ok (.iload_n 1, 1) := by decide +kernel
theorem dX10_passOne_8 : decode cX10_passOne 8 = .ok (.goto 12, 3) := by decide +kernel
theorem dX10_passOne_11 : decode cX10_passOne 11 = .ok (.aload_n 0, 1) := by decide +kernel
theorem dX10_passOne_12 : decode cX10_passOne 12 = .ok (.getfield 119, 3) := by decide +kernel
theorem dX10_passOne_15 : decode cX10_passOne 15 = .ok (.aload_n 0, 1) := by decide +kernel
theorem dX10_passOne_16 : decode cX10_passOne 16 = .ok (.getfield 414, 3) := by decide +kernel
theorem dX10_passOne_19 : decode cX10_passOne 19 = .ok (.iaload, 1) := by decide +kernel
theorem dX10_passOne_20 : decode cX10_passOne 20 = .ok (.istore_n 2, 1) := by decide +kernel
theorem dX10_passOne_21 : decode cX10_passOne 21 = .ok (.aload_n 0, 1) := by decide +kernel
theorem dX10_passOne_22 : decode cX10_passOne 22 = .ok (.getfield 410, 3) := by decide +kernel
theorem dX10_passOne_25 : decode cX10_passOne 25 = .ok (.ifCond .eq 13, 3) := by decide +kernel
theorem dX10_passOne_28 : decode cX10_passOne 28 = .ok (.aload_n 0, 1) := by decide +kernel
theorem dX10_passOne_29 : decode cX10_passOne 29 = .ok (.getfield 119, 3) := by decide +kernel
theorem dX10_passOne_32 : decode cX10_passOne 32 = .ok (.aload_n 0, 1) := by decide +kernel
theorem dX10_passOne_33 : decode cX10_passOne 33 = .ok (.getfield 414, 3) := by decide +kernel
theorem dX10_passOne_36 : decode cX10_passOne 36 = .ok (.iload_n 1, 1) := by decide +kernel
theorem dX10_passOne_37 : decode cX10_passOne 37 = .ok (.iastore, 1) := by decide +kernel
theorem dX10_passOne_38 : decode cX10_passOne 38 = .ok (.aload_n 0, 1) := by decide +kernel
theorem dX10_passOne_39 : decode cX10_passOne 39 = .ok (.dup, 1) := by decide +kernel
theorem dX10_passOne_40 : decode cX10_passOne 40 = .ok (.getfield 414, 3) := by decide +kernel
theorem dX10_passOne_43 : decode cX10_passOne 43 = .ok (.iconst 1, 1) := by decide +kernel
theorem dX10_passOne_44 : decode cX10_passOne 44 = .ok (.iadd, 1) := by decide +kernel
theorem dX10_passOne_45 : decode cX10_passOne 45 = .ok (.putfield 414, 3) := by decide +kernel
theorem dX10_passOne_48 : decode cX10_passOne 48 = .ok (.iload_n 2, 1) := by decide +kernel
theorem dX10_passOne_49 : decode cX10_passOne 49 = .ok (.ireturn, 1) := by decide +kernel
theorem dX10_passesAll_0 : decode cX10_passesAll 0 = .ok (.aload_n 0, 1) := by decide +kernel
theorem dX10_passesAll_1 : decode cX10_passesAll 1 = .ok (.iconst 0, 1) := by decide +kernel
theorem dX10_passesAll_2 : decode cX10_passesAll 2 = .ok (.putfield 414, 3) := by decide +kernel
theorem dX10_passesAll_5 : decode cX10_passesAll 5 = .ok (.aload_n 0, 1) := by decide +kernel
theorem dX10_passesAll_6 : decode cX10_passesAll 6 = .ok (.iload_n 1, 1) := by decide +kernel
theorem dX10_passesAll_7 : decode cX10_passesAll 7 = .ok (.putfield 410, 3) := by decide +kernel
theorem dX10_passesAll_10 : decode cX10_passesAll 10 = .ok (.aload_n 0, 1) := by decide +kernel
theorem dX10_passesAll_11 : decode cX10_passesAll 11 = .ok (.aload_n 0, 1) := by decide +kernel
theorem dX10_passesAll_12 : decode cX10_passesAll 12 = .ok (.getfield 31, 3) := by decide +kernel
theorem dX10_passesAll_15 : decode cX10_passesAll 15 = .ok (.invokevirtual 417, 3) := by decide +kernel
theorem dX10_passesAll_18 : decode cX10_passesAll 18 = .ok (.aload_n 0, 1) := by decide +kernel
theorem dX10_passesAll_19 : decode cX10_passesAll 19 = .ok (.aload_n 0, 1) := by decide +kernel
theorem dX10_passesAll_20 : decode cX10_passesAll 20 = .ok (.getfield 34, 3) := by decide +kernel
theorem dX10_passesAll_23 : decode cX10_passesAll 23 = .ok (.invokevirtual 417, 3) := by decide +kernel
theorem dX10_passesAll_26 : decode cX10_passesAll 26 = .ok (.aload_n 0, 1) := by decide +kernel
theorem dX10_passesAll_27 : decode cX10_passesAll 27 = .ok (.aload_n 0, 1) := by decide +kernel
theorem dX10_passesAll_28 : decode cX10_passesAll 28 = .ok (.getfield 46, 3) := by decide +kernel
theorem dX10_passesAll_31 : decode cX10_passesAll 31 = .ok (.invokevirtual 417, 3) := by decide +kernel
theorem dX10_passesAll_34 : decode cX10_passesAll 34 = .ok (.aload_n 0, 1) := by decide +kernel
theorem dX10_passesAll_35 : decode cX10_passesAll 35 = .ok (.aload_n 0, 1) := by decide +kernel
theorem dX10_passesAll_36 : decode cX10_passesAll 36 = .ok (.getfield 49, 3) := by decide +kernel
theorem dX10_passesAll_39 : decode cX10_passesAll 39 = .ok (.invokevirtual 417, 3) := by decide +kernel
theorem dX10_passesAll_42 : decode cX10_passesAll 42 = .ok (.aload_n 0, 1) := by decide +kernel
theorem dX10_passesAll_43 : decode cX10_passesAll 43 = .ok (.aload_n 0, 1) := by decide +kernel
theorem dX10_passesAll_44 : decode cX10_passesAll 44 = .ok (.getfield 52, 3) := by decide +kernel
theorem dX10_passesAll_47 : decode cX10_passesAll 47 = .ok (.invokevirtual 417, 3) := by decide +kernel
theorem dX10_passesAll_50 : decode cX10_passesAll 50 = .ok (.aload_n 0, 1) := by decide +kernel
theorem dX10_passesAll_51 : decode cX10_passesAll 51 = .ok (.aload_n 0, 1) := by decide +kernel
theorem dX10_passesAll_52 : decode cX10_passesAll 52 = .ok (.getfield 55, 3) := by decide +kernel
theorem dX10_passesAll_55 : decode cX10_passesAll 55 = .ok (.invokevirtual 417, 3) := by decide +kernel
theorem dX10_passesAll_58 : decode cX10_passesAll 58 = .ok (.aload_n 0, 1) := by decide +kernel
theorem dX10_passesAll_59 : decode cX10_passesAll 59 = .ok (.aload_n 0, 1) := by decide +kernel
theorem dX10_passesAll_60 : decode cX10_passesAll 60 = .ok (.getfield 58, 3) := by decide +kernel
theorem dX10_passesAll_63 : decode cX10_passesAll 63 = .ok (.invokevirtual 417, 3) := by decide +kernel
theorem dX10_passesAll_66 : decode cX10_passesAll 66 = .ok (.aload_n 0, 1) := by decide +kernel
theorem dX10_passesAll_67 : decode cX10_passesAll 67 = .ok (.aload_n 0, 1) := by decide +kernel
theorem dX10_passesAll_68 : decode cX10_passesAll 68 = .ok (.aload_n 0, 1) := by decide +kernel
theorem dX10_passesAll_69 : decode cX10_passesAll 69 = .ok (.getfield 122, 3) := by decide +kernel
theorem dX10_passesAll_72 : decode cX10_passesAll 72 = .ok (.invokevirtual 421, 3) := by decide +kernel
theorem dX10_passesAll_75 : decode cX10_passesAll 75 = .ok (.putfield 122, 3) := by decide +kernel
theorem dX10_passesAll_78 : decode cX10_passesAll 78 = .ok (.aload_n 0, 1) := by decide +kernel
theorem dX10_passesAll_79 : decode cX10_passesAll 79 = .ok (.aload_n 0, 1) := by decide +kernel
theorem dX10_passesAll_80 : decode cX10_passesAll 80 = .ok (.aload_n 0, 1) := by decide +kernel
theorem dX10_passesAll_81 : decode cX10_passesAll 81 = .ok (.getfield 125, 3) := by decide +kernel
theorem dX10_passesAll_84 : decode cX10_passesAll 84 = .ok (.invokevirtual 421, 3) := by decide +kernel
theorem dX10_passesAll_87 : decode cX10_passesAll 87 = .ok (.putfield 125, 3) := by decide +kernel
theorem dX10_passesAll_90 : decode cX10_passesAll 90 = .ok (.aload_n 0, 1) := by decide +kernel
theorem dX10_passesAll_91 : decode cX10_passesAll 91 = .ok (.aload_n 0, 1) := by decide +kernel
theorem dX10_passesAll_92 : decode cX10_passesAll 92 = .ok (.aload_n 0, 1) := by decide +kernel
theorem dX10_passesAll_93 : decode cX10_passesAll 93 = .ok (.getfield 192, 3) := by decide +kernel
theorem dX10_passesAll_96 : decode cX10_passesAll 96 = .ok (.invokevirtual 421, 3) := by decide +kernel
theorem dX10_passesAll_99 : decode cX10_passesAll 99 = .ok (.putfield 192, 3) := by decide +kernel
theorem dX10_passesAll_102 : decode cX10_passesAll 102 = .ok (.aload_n 0, 1) := by decide +kernel
theorem dX10_passesAll_103 : decode cX10_passesAll 103 = .ok (.aload_n 0, 1) := by decide +kernel
theorem dX10_passesAll_104 : decode cX10_passesAll 104 = .ok (.aload_n 0, 1) := by decide +kernel
theorem dX10_passesAll_105 : decode cX10_passesAll 105 = .ok (.getfield 61, 3) := by decide +kernel
theorem dX10_passesAll_108 : decode cX10_passesAll 108 = .ok (.invokevirtual 421, 3) := by decide +kernel
theorem dX10_passesAll_111 : decode cX10_passesAll 111 = .ok (.putfield 61, 3) := by decide +kernel
theorem dX10_passesAll_114 : decode cX10_passesAll 114 = .ok (.aload_n 0, 1) := by decide +kernel
theorem dX10_passesAll_115 : decode cX10_passesAll 115 = .ok (.aload_n 0, 1) := by decide +kernel
theorem dX10_passesAll_116 : decode cX10_passesAll 116 = .ok (.aload_n 0, 1) := by decide +kernel
theorem dX10_passesAll_117 : decode cX10_passesAll 117 = .ok (.getfield 338, 3) := by decide +kernel
theorem dX10_passesAll_120 : decode cX10_passesAll 120 = .ok (.invokevirtual 421, 3) := by decide +kernel
theorem dX10_passesAll_123 : decode cX10_passesAll 123 = .ok (.putfield 338, 3) := by decide +kernel
theorem dX10_passesAll_126 : decode cX10_passesAll 126 = .ok (.aload_n 0, 1) := by decide +kernel
theorem dX10_passesAll_127 : decode cX10_passesAll 127 = .ok (.aload_n 0, 1) := by decide +kernel
theorem dX10_passesAll_128 : decode cX10_passesAll 128 = .ok (.aload_n 0, 1) := by decide +kernel
theorem dX10_passesAll_129 : decode cX10_passesAll 129 = .ok (.getfield 341, 3) := by decide +kernel
theorem dX10_passesAll_132 : decode cX10_passesAll 132 = .ok (.invokevirtual 421, 3) := by decide +kernel
theorem dX10_passesAll_135 : decode cX10_passesAll 135 = .ok (.putfield 341, 3) := by decide +kernel
theorem dX10_passesAll_138 : decode cX10_passesAll 138 = .ok (.aload_n 0, 1) := by decide +kernel
theorem dX10_passesAll_139 : decode cX10_passesAll 139 = .ok (.aload_n 0, 1) := by decide +kernel
theorem dX10_passesAll_140 : decode cX10_passesAll 140 = .ok (.aload_n 0, 1) := by decide +kernel
theorem dX10_passesAll_141 : decode cX10_passesAll 141 = .ok (.getfield 344, 3) := by decide +kernel
theorem dX10_passesAll_144 : decode cX10_passesAll 144 = .ok (.invokevirtual 421, 3) := by decide +kernel
theorem dX10_passesAll_147 : decode cX10_passesAll 147 = .ok (.putfield 344, 3) := by decide +kernel
theorem dX10_passesAll_150 : decode cX10_passesAll 150 = .ok (.aload_n 0, 1) := by decide +kernel
theorem dX10_passesAll_151 : decode cX10_passesAll 151 = .ok (.aload_n 0, 1) := by decide +kernel
theorem dX10_passesAll_152 : decode cX10_passesAll 152 = .ok (.aload_n 0, 1) := by decide +kernel
theorem dX10_passesAll_153 : decode cX10_passesAll 153 = .ok (.getfield 347, 3) := by decide +kernel
theorem dX10_passesAll_156 : decode cX10_passesAll 156 = .ok (.invokevirtual 421, 3) := by decide +kernel
theorem dX10_passesAll_159 : decode cX10_passesAll 159 = .ok (.putfield 347, 3) := by decide +kernel
theorem dX10_passesAll_162 : decode cX10_passesAll 162 = .ok (.aload_n 0, 1) := by decide +kernel
theorem dX10_passesAll_163 : decode cX10_passesAll 163 = .ok (.aload_n 0, 1) := by decide +kernel
theorem dX10_passesAll_164 : decode cX10_passesAll 164 = .ok (.aload_n 0, 1) := by decide +kernel
theorem dX10_passesAll_165 : decode cX10_passesAll 165 = .ok (.getfield 350, 3) := by decide +kernel
theorem dX10_passesAll_168 : decode cX10_passesAll 168 = .ok (.invokevirtual 421, 3) := by decide +kernel
theorem dX10_passesAll_171 : decode cX10_passesAll 171 = .ok (.putfield 350, 3) := by decide +kernel
theorem dX10_passesAll_174 : decode cX10_passesAll 174 = .ok (.aload_n 0, 1) := by decide +kernel
theorem dX10_passesAll_175 : decode cX10_passesAll 175 = .ok (.aload_n 0, 1) := by decide +kernel
theorem dX10_passesAll_176 : decode cX10_passesAll 176 = .ok (.aload_n 0, 1) := by decide +kernel
theorem dX10_passesAll_177 : decode cX10_passesAll 177 = .ok (.getfield 206, 3) := by decide +kernel
theorem dX10_passesAll_180 : decode cX10_passesAll 180 = .ok (.invokevirtual 421, 3) := by decide +kernel
theorem dX10_passesAll_183 : decode cX10_passesAll 183 = .ok (.putfield 206, 3) := by decide +kernel
theorem dX10_passesAll_186 : decode cX10_passesAll 186 = .ok (.return_, 1) := by decide +kernel
theorem dX10_image_0 : decode cX10_image 0 = .ok (.aload_n 0, 1) := by decide +kernel
theorem dX10_image_1 : decode cX10_image 1 = .ok (.iconst 1, 1) := by decide +kernel
theorem dX10_image_2 : decode cX10_image 2 = .ok (.putfield 424, 3) := by decide +kernel
theorem dX10_image_5 : decode cX10_image 5 = .ok (.aload_n 0, 1) := by decide +kernel
theorem dX10_image_6 : decode cX10_image 6 = .ok (.iconst 1, 1) := by decide +kernel
theorem dX10_image_7 : decode cX10_image 7 = .ok (.invokevirtual 427, 3) := by decide +kernel
theorem dX10_image_10 : decode cX10_image 10 = .ok (.aload_n 0, 1) := by decide +kernel
theorem dX10_image_11 : decode cX10_image 11 = .ok (.getfield 125, 3) := by decide +kernel
theorem dX10_image_14 : decode cX10_image 14 = .ok (.ireturn, 1) := by decide +kernel
theorem dX10_on_0 : decode cX10_on 0 = .ok (.aload_n 0, 1) := by decide +kernel
theorem dX10_on_1 : decode cX10_on 1 = .ok (.getfield 424, 3) := by decide +kernel
theorem dX10_on_4 : decode cX10_on 4 = .ok (.ifCond .ne 10, 3) := by decide +kernel
theorem dX10_on_7 : decode cX10_on 7 = .ok (.aload_n 0, 1) := by decide +kernel
theorem dX10_on_8 : decode cX10_on 8 = .ok (.bipush (-3), 2) := by decide +kernel
theorem dX10_on_10 : decode cX10_on 10 = .ok (.invokevirtual 145, 3) := by decide +kernel
theorem dX10_on_13 : decode cX10_on 13 = .ok (.ireturn, 1) := by decide +kernel
theorem dX10_on_14 : decode cX10_on 14 = .ok (.aload_n 0, 1) := by decide +kernel
theorem dX10_on_15 : decode cX10_on 15 = .ok (.iconst 0, 1) := by decide +kernel
theorem dX10_on_16 : decode cX10_on 16 = .ok (.invokevirtual 427, 3) := by decide +kernel
theorem dX10_on_19 : decode cX10_on 19 = .ok (.aload_n 0, 1) := by decide +kernel
theorem dX10_on_20 : decode cX10_on 20 = .ok (.invokevirtual 128, 3) := by decide +kernel
theorem dX10_on_23 : decode cX10_on 23 = .ok (.aload_n 0, 1) := by decide +kernel
theorem dX10_on_24 : decode cX10_on 24 = .ok (.getfield 125, 3) := by decide +kernel
theorem dX10_on_27 : decode cX10_on 27 = .ok (.ireturn, 1) := by decide +kernel
theorem dX10_allOf_0 : decode cX10_allOf 0 = .ok (.iconst 0, 1) := by decide +kernel
theorem dX10_allOf_1 : decode cX10_allOf 1 = .ok (.istore_n 1, 1) := by decide +kernel
theorem dX10_allOf_2 : decode cX10_allOf 2 = .ok (.aload_n 0, 1) := by decide +kernel
theorem dX10_allOf_3 : decode cX10_allOf 3 = .ok (.astore_n 2, 1) := by decide +kernel
theorem dX10_allOf_4 : decode cX10_allOf 4 = .ok (.aload_n 2, 1) := by decide +kernel
theorem dX10_allOf_5 : decode cX10_allOf 5 = .ok (.arraylength, 1) := by decide +kernel
theorem dX10_allOf_6 : decode cX10_allOf 6 = .ok (.istore_n 3, 1) := by decide +kernel
theorem dX10_allOf_7 : decode cX10_allOf 7 = .ok (.iconst 0, 1) := by decide +kernel
theorem dX10_allOf_8 : decode cX10_allOf 8 = .ok (.istore 4, 2) := by decide +kernel
theorem dX10_allOf_10 : decode cX10_allOf 10 = .ok (.iload 4, 2) := by decide +kernel
theorem dX10_allOf_12 : decode cX10_allOf 12 = .ok (.iload_n 3, 1) := by decide +kernel
theorem dX10_allOf_13 : decode cX10_allOf 13 = .ok (.if_icmp .ge 20, 3) := by decide +kernel
theorem dX10_allOf_16 : decode cX10_allOf 16 = .ok (.aload_n 2, 1) := by decide +kernel
theorem dX10_allOf_17 : decode cX10_allOf 17 = .ok (.iload 4, 2) := by decide +kernel
theorem dX10_allOf_19 : decode cX10_allOf 19 = .ok (.iaload, 1) := by decide +kernel
theorem dX10_allOf_20 : decode cX10_allOf 20 = .ok (.istore 5, 2) := by decide +kernel
theorem dX10_allOf_22 : decode cX10_allOf 22 = .ok (.iload_n 1, 1) := by decide +kernel
theorem dX10_allOf_23 : decode cX10_allOf 23 = .ok (.iload 5, 2) := by decide +kernel
theorem dX10_allOf_25 : decode cX10_allOf 25 = .ok (.iadd, 1) := by decide +kernel
theorem dX10_allOf_26 : decode cX10_allOf 26 = .ok (.istore_n 1, 1) := by decide +kernel
theorem dX10_allOf_27 : decode cX10_allOf 27 = .ok (.iinc 4 1, 3) := by decide +kernel
theorem dX10_allOf_30 : decode cX10_allOf 30 = .ok (.goto (-20), 3) := by decide +kernel
theorem dX10_allOf_33 : decode cX10_allOf 33 = .ok (.iload_n 1, 1) := by decide +kernel
theorem dX10_allOf_34 : decode cX10_allOf 34 = .ok (.ireturn, 1) := by decide +kernel
theorem dX10_count_0 : decode cX10_count 0 = .ok (.iload_n 1, 1) := by decide +kernel
theorem dX10_count_1 : decode cX10_count 1 = .ok (.bipush 11, 2) := by decide +kernel
theorem dX10_count_3 : decode cX10_count 3 = .ok (.bipush 16, 2) := by decide +kernel
theorem dX10_count_5 : decode cX10_count 5 = .ok (.invokestatic 134, 3) := by decide +kernel
theorem dX10_count_8 : decode cX10_count 8 = .ok (.ifCond .eq 13, 3) := by decide +kernel
theorem dX10_count_11 : decode cX10_count 11 = .ok (.aload_n 0, 1) := by decide +kernel
theorem dX10_count_12 : decode cX10_count 12 = .ok (.getfield 7, 3) := by decide +kernel
theorem dX10_count_15 : decode cX10_count 15 = .ok (.iload_n 1, 1) := by decide +kernel
theorem dX10_count_16 : decode cX10_count 16 = .ok (.bipush 10, 2) := by decide +kernel
theorem dX10_count_18 : decode cX10_count 18 = .ok (.isub, 1) := by decide +kernel
theorem dX10_count_19 : decode cX10_count 19 = .ok (.iaload, 1) := by decide +kernel
theorem dX10_count_20 : decode cX10_count 20 = .ok (.ireturn, 1) := by decide +kernel
theorem dX10_count_21 : decode cX10_count 21 = .ok (.iload_n 1, 1) := by decide +kernel
theorem dX10_count_22 : decode cX10_count 22 = .ok (.tableswitch 100 0 7 #[46, 51, 56, 69, 77, 85, 90, 95], 46) := by decide +kernel
theorem dX10_count_68 : decode cX10_count 68 = .ok (.aload_n 0, 1) := by decide +kernel
theorem dX10_count_69 : decode cX10_count 69 = .ok (.getfield 125, 3) := by decide +kernel
theorem dX10_count_72 : decode cX10_count 72 = .ok (.ireturn, 1) := by decide +kernel
theorem dX10_count_73 : decode cX10_count 73 = .ok (.aload_n 0, 1) := by decide +kernel
theorem dX10_count_74 : decode cX10_count 74 = .ok (.getfield 192, 3) := by decide +kernel
theorem dX10_count_77 : decode cX10_count 77 = .ok (.ireturn, 1) := by decide +kernel
theorem dX10_count_78 : decode cX10_count 78 = .ok (.aload_n 0, 1) := by decide +kernel
theorem dX10_count_79 : decode cX10_count 79 = .ok (.getfield 61, 3) := by decide +kernel
theorem dX10_count_82 : decode cX10_count 82 = .ok (.ifCond .ge 7, 3) := by decide +kernel
theorem dX10_count_85 : decode cX10_count 85 = .ok (.iconst 0, 1) := by decide +kernel
theorem dX10_count_86 : decode cX10_count 86 = .ok (.goto 4, 3) := by decide +kernel
theorem dX10_count_89 : decode cX10_count 89 = .ok (.iconst 1, 1) := by decide +kernel
theorem dX10_count_90 : decode cX10_count 90 = .ok (.ireturn, 1) := by decide +kernel
theorem dX10_count_91 : decode cX10_count 91 = .ok (.aload_n 0, 1) := by decide +kernel
theorem dX10_count_92 : decode cX10_count 92 = .ok (.getfield 52, 3) := by decide +kernel
theorem dX10_count_95 : decode cX10_count 95 = .ok (.invokestatic 431, 3) := by decide +kernel
theorem dX10_count_98 : decode cX10_count 98 = .ok (.ireturn, 1) := by decide +kernel
theorem dX10_count_99 : decode cX10_count 99 = .ok (.aload_n 0, 1) := by decide +kernel
theorem dX10_count_100 : decode cX10_count 100 = .ok (.getfield 55, 3) := by decide +kernel
theorem dX10_count_103 : decode cX10_count 103 = .ok (.invokestatic 431, 3) := by decide +kernel
theorem dX10_count_106 : decode cX10_count 106 = .ok (.ireturn, 1) := by decide +kernel
theorem dX10_count_107 : decode cX10_count 107 = .ok (.aload_n 0, 1) := by decide +kernel
theorem dX10_count_108 : decode cX10_count 108 = .ok (.getfield 206, 3) := by decide +kernel
theorem dX10_count_111 : decode cX10_count 111 = .ok (.ireturn, 1) := by decide +kernel
theorem dX10_count_112 : decode cX10_count 112 = .ok (.aload_n 0, 1) := by decide +kernel
theorem dX10_count_113 : decode cX10_count 113 = .ok (.getfield 395, 3) := by decide +kernel
theorem dX10_count_116 : decode cX10_count 116 = .ok (.ireturn, 1) := by decide +kernel
theorem dX10_count_117 : decode cX10_count 117 = .ok (.aload_n 0, 1) := by decide +kernel
theorem dX10_count_118 : decode cX10_count 118 = .ok (.getfield 142, 3) := by decide +kernel
theorem dX10_count_121 : decode cX10_count 121 = .ok (.ireturn, 1) := by decide +kernel
theorem dX10_count_122 : decode cX10_count 122 = .ok (.bipush (-9), 2) := by decide +kernel
theorem dX10_count_124 : decode cX10_count 124 = .ok (.ireturn, 1) := by decide +kernel
theorem dJ6_bitCount_0f7a4_0 : decode cJ6_bitCount_0f7a4 0 = .ok (.iload_n 0, 1) := by decide +kernel
theorem dJ6_bitCount_0f7a4_1 : decode cJ6_bitCount_0f7a4 1 = .ok (.iload_n 0, 1) := by decide +kernel
theorem dJ6_bitCount_0f7a4_2 : decode cJ6_bitCount_0f7a4 2 = .ok (.iconst 1, 1) := by decide +kernel
theorem dJ6_bitCount_0f7a4_3 : decode cJ6_bitCount_0f7a4 3 = .ok (.iushr, 1) := by decide +kernel
theorem dJ6_bitCount_0f7a4_4 : decode cJ6_bitCount_0f7a4 4 = .ok (.ldc_w 265, 3) := by decide +kernel
theorem dJ6_bitCount_0f7a4_7 : decode cJ6_bitCount_0f7a4 7 = .ok (.iand, 1) := by decide +kernel
theorem dJ6_bitCount_0f7a4_8 : decode cJ6_bitCount_0f7a4 8 = .ok (.isub, 1) := by decide +kernel
theorem dJ6_bitCount_0f7a4_9 : decode cJ6_bitCount_0f7a4 9 = .ok (.istore_n 0, 1) := by decide +kernel
theorem dJ6_bitCount_0f7a4_10 : decode cJ6_bitCount_0f7a4 10 = .ok (.iload_n 0, 1) := by decide +kernel
theorem dJ6_bitCount_0f7a4_11 : decode cJ6_bitCount_0f7a4 11 = .ok (.ldc_w 266, 3) := by decide +kernel
theorem dJ6_bitCount_0f7a4_14 : decode cJ6_bitCount_0f7a4 14 = .ok (.iand, 1) := by decide +kernel
theorem dJ6_bitCount_0f7a4_15 : decode cJ6_bitCount_0f7a4 15 = .ok (.iload_n 0, 1) := by decide +kernel
theorem dJ6_bitCount_0f7a4_16 : decode cJ6_bitCount_0f7a4 16 = .ok (.iconst 2, 1) := by decide +kernel
theorem dJ6_bitCount_0f7a4_17 : decode cJ6_bitCount_0f7a4 17 = .ok (.iushr, 1) := by decide +kernel
theorem dJ6_bitCount_0f7a4_18 : decode cJ6_bitCount_0f7a4 18 = .ok (.ldc_w 266, 3) := by decide +kernel
theorem dJ6_bitCount_0f7a4_21 : decode cJ6_bitCount_0f7a4 21 = .ok (.iand, 1) := by decide +kernel
theorem dJ6_bitCount_0f7a4_22 : decode cJ6_bitCount_0f7a4 22 = .ok (.iadd, 1) := by decide +kernel
theorem dJ6_bitCount_0f7a4_23 : decode cJ6_bitCount_0f7a4 23 = .ok (.istore_n 0, 1) := by decide +kernel
theorem dJ6_bitCount_0f7a4_24 : decode cJ6_bitCount_0f7a4 24 = .ok (.iload_n 0, 1) := by decide +kernel
theorem dJ6_bitCount_0f7a4_25 : decode cJ6_bitCount_0f7a4 25 = .ok (.iload_n 0, 1) := by decide +kernel
theorem dJ6_bitCount_0f7a4_26 : decode cJ6_bitCount_0f7a4 26 = .ok (.iconst 4, 1) := by decide +kernel
theorem dJ6_bitCount_0f7a4_27 : decode cJ6_bitCount_0f7a4 27 = .ok (.iushr, 1) := by decide +kernel
theorem dJ6_bitCount_0f7a4_28 : decode cJ6_bitCount_0f7a4 28 = .ok (.iadd, 1) := by decide +kernel
theorem dJ6_bitCount_0f7a4_29 : decode cJ6_bitCount_0f7a4 29 = .ok (.ldc_w 267, 3) := by decide +kernel
theorem dJ6_bitCount_0f7a4_32 : decode cJ6_bitCount_0f7a4 32 = .ok (.iand, 1) := by decide +kernel
theorem dJ6_bitCount_0f7a4_33 : decode cJ6_bitCount_0f7a4 33 = .ok (.istore_n 0, 1) := by decide +kernel
theorem dJ6_bitCount_0f7a4_34 : decode cJ6_bitCount_0f7a4 34 = .ok (.iload_n 0, 1) := by decide +kernel
theorem dJ6_bitCount_0f7a4_35 : decode cJ6_bitCount_0f7a4 35 = .ok (.iload_n 0, 1) := by decide +kernel
theorem dJ6_bitCount_0f7a4_36 : decode cJ6_bitCount_0f7a4 36 = .ok (.bipush 8, 2) := by decide +kernel
theorem dJ6_bitCount_0f7a4_38 : decode cJ6_bitCount_0f7a4 38 = .ok (.iushr, 1) := by decide +kernel
theorem dJ6_bitCount_0f7a4_39 : decode cJ6_bitCount_0f7a4 39 = .ok (.iadd, 1) := by decide +kernel
theorem dJ6_bitCount_0f7a4_40 : decode cJ6_bitCount_0f7a4 40 = .ok (.istore_n 0, 1) := by decide +kernel
theorem dJ6_bitCount_0f7a4_41 : decode cJ6_bitCount_0f7a4 41 = .ok (.iload_n 0, 1) := by decide +kernel
theorem dJ6_bitCount_0f7a4_42 : decode cJ6_bitCount_0f7a4 42 = .ok (.iload_n 0, 1) := by decide +kernel
theorem dJ6_bitCount_0f7a4_43 : decode cJ6_bitCount_0f7a4 43 = .ok (.bipush 16, 2) := by decide +kernel
theorem dJ6_bitCount_0f7a4_45 : decode cJ6_bitCount_0f7a4 45 = .ok (.iushr, 1) := by decide +kernel
theorem dJ6_bitCount_0f7a4_46 : decode cJ6_bitCount_0f7a4 46 = .ok (.iadd, 1) := by decide +kernel
theorem dJ6_bitCount_0f7a4_47 : decode cJ6_bitCount_0f7a4 47 = .ok (.istore_n 0, 1) := by decide +kernel
theorem dJ6_bitCount_0f7a4_48 : decode cJ6_bitCount_0f7a4 48 = .ok (.iload_n 0, 1) := by decide +kernel
theorem dJ6_bitCount_0f7a4_49 : decode cJ6_bitCount_0f7a4 49 = .ok (.bipush 63, 2) := by decide +kernel
theorem dJ6_bitCount_0f7a4_51 : decode cJ6_bitCount_0f7a4 51 = .ok (.iand, 1) := by decide +kernel
theorem dJ6_bitCount_0f7a4_52 : decode cJ6_bitCount_0f7a4 52 = .ok (.ireturn, 1) := by decide +kernel
theorem dJ9_max_7cf53_0 : decode cJ9_max_7cf53 0 = .ok (.iload_n 0, 1) := by decide +kernel
theorem dJ9_max_7cf53_1 : decode cJ9_max_7cf53 1 = .ok (.iload_n 1, 1) := by decide +kernel
theorem dJ9_max_7cf53_2 : decode cJ9_max_7cf53 2 = .ok (.if_icmp .lt 7, 3) := by decide +kernel
theorem dJ9_max_7cf53_5 : decode cJ9_max_7cf53 5 = .ok (.iload_n 0, 1) := by decide +kernel
theorem dJ9_max_7cf53_6 : decode cJ9_max_7cf53 6 = .ok (.goto 4, 3) := by decide +kernel
theorem dJ9_max_7cf53_9 : decode cJ9_max_7cf53 9 = .ok (.iload_n 1, 1) := by decide +kernel
theorem dJ9_max_7cf53_10 : decode cJ9_max_7cf53 10 = .ok (.ireturn, 1) := by decide +kernel
theorem dJ9_min_7cf53_0 : decode cJ9_min_7cf53 0 = .ok (.iload_n 0, 1) := by decide +kernel
theorem dJ9_min_7cf53_1 : decode cJ9_min_7cf53 1 = .ok (.iload_n 1, 1) := by decide +kernel
theorem dJ9_min_7cf53_2 : decode cJ9_min_7cf53 2 = .ok (.if_icmp .gt 7, 3) := by decide +kernel
theorem dJ9_min_7cf53_5 : decode cJ9_min_7cf53 5 = .ok (.iload_n 0, 1) := by decide +kernel
theorem dJ9_min_7cf53_6 : decode cJ9_min_7cf53 6 = .ok (.goto 4, 3) := by decide +kernel
theorem dJ9_min_7cf53_9 : decode cJ9_min_7cf53 9 = .ok (.iload_n 1, 1) := by decide +kernel
theorem dJ9_min_7cf53_10 : decode cJ9_min_7cf53 10 = .ok (.ireturn, 1) := by decide +kernel
theorem dJ0_length_8abf5_0 : decode cJ0_length_8abf5 0 = .ok (.aload_n 0, 1) := by decide +kernel
theorem dJ0_length_8abf5_1 : decode cJ0_length_8abf5 1 = .ok (.getfield 9, 3) := by decide +kernel
theorem dJ0_length_8abf5_4 : decode cJ0_length_8abf5 4 = .ok (.arraylength, 1) := by decide +kernel
theorem dJ0_length_8abf5_5 : decode cJ0_length_8abf5 5 = .ok (.aload_n 0, 1) := by decide +kernel
theorem dJ0_length_8abf5_6 : decode cJ0_length_8abf5 6 = .ok (.invokevirtual 335, 3) := by decide +kernel
theorem dJ0_length_8abf5_9 : decode cJ0_length_8abf5 9 = .ok (.ishr, 1) := by decide +kernel
theorem dJ0_length_8abf5_10 : decode cJ0_length_8abf5 10 = .ok (.ireturn, 1) := by decide +kernel
theorem dJ0_isEmpty_aae02_0 : decode cJ0_isEmpty_aae02 0 = .ok (.aload_n 0, 1) := by decide +kernel
theorem dJ0_isEmpty_aae02_1 : decode cJ0_isEmpty_aae02 1 = .ok (.getfield 9, 3) := by decide +kernel
theorem dJ0_isEmpty_aae02_4 : decode cJ0_isEmpty_aae02 4 = .ok (.arraylength, 1) := by decide +kernel
theorem dJ0_isEmpty_aae02_5 : decode cJ0_isEmpty_aae02 5 = .ok (.ifCond .ne 7, 3) := by decide +kernel
theorem dJ0_isEmpty_aae02_8 : decode cJ0_isEmpty_aae02 8 = .ok (.iconst 1, 1) := by decide +kernel
theorem dJ0_isEmpty_aae02_9 : decode cJ0_isEmpty_aae02 9 = .ok (.goto 4, 3) := by decide +kernel
theorem dJ0_isEmpty_aae02_12 : decode cJ0_isEmpty_aae02 12 = .ok (.iconst 0, 1) := by decide +kernel
theorem dJ0_isEmpty_aae02_13 : decode cJ0_isEmpty_aae02 13 = .ok (.ireturn, 1) := by decide +kernel
theorem dJ0_charAt_5068e_0 : decode cJ0_charAt_5068e 0 = .ok (.aload_n 0, 1) := by decide +kernel
theorem dJ0_charAt_5068e_1 : decode cJ0_charAt_5068e 1 = .ok (.invokevirtual 492, 3) := by decide +kernel
theorem dJ0_charAt_5068e_4 : decode cJ0_charAt_5068e 4 = .ok (.ifCond .eq 12, 3) := by decide +kernel
theorem dJ0_charAt_5068e_7 : decode cJ0_charAt_5068e 7 = .ok (.aload_n 0, 1) := by decide +kernel
theorem dJ0_charAt_5068e_8 : decode cJ0_charAt_5068e 8 = .ok (.getfield 9, 3) := by decide +kernel
theorem dJ0_charAt_5068e_11 : decode cJ0_charAt_5068e 11 = .ok (.iload_n 1, 1) := by decide +kernel
theorem dJ0_charAt_5068e_12 : decode cJ0_charAt_5068e 12 = .ok (.invokestatic 495, 3) := by decide +kernel
theorem dJ0_charAt_5068e_15 : decode cJ0_charAt_5068e 15 = .ok (.ireturn, 1) := by decide +kernel
theorem dJ0_charAt_5068e_16 : decode cJ0_charAt_5068e 16 = .ok (.aload_n 0, 1) := by decide +kernel
theorem dJ0_charAt_5068e_17 : decode cJ0_charAt_5068e 17 = .ok (.getfield 9, 3) := by decide +kernel
theorem dJ0_charAt_5068e_20 : decode cJ0_charAt_5068e 20 = .ok (.iload_n 1, 1) := by decide +kernel
theorem dJ0_charAt_5068e_21 : decode cJ0_charAt_5068e 21 = .ok (.invokestatic 498, 3) := by decide +kernel
theorem dJ0_charAt_5068e_24 : decode cJ0_charAt_5068e 24 = .ok (.ireturn, 1) := by decide +kernel
theorem dJ0_coder_7d493_0 : decode cJ0_coder_7d493 0 = .ok (.getstatic 38, 3) := by decide +kernel
theorem dJ0_coder_7d493_3 : decode cJ0_coder_7d493 3 = .ok (.ifCond .eq 10, 3) := by decide +kernel
theorem dJ0_coder_7d493_6 : decode cJ0_coder_7d493 6 = .ok (.aload_n 0, 1) := by decide +kernel
theorem dJ0_coder_7d493_7 : decode cJ0_coder_7d493 7 = .ok (.getfield 15, 3) := by decide +kernel
theorem dJ0_coder_7d493_10 : decode cJ0_coder_7d493 10 = .ok (.goto 4, 3) := by decide +kernel
theorem dJ0_coder_7d493_13 : decode cJ0_coder_7d493 13 = .ok (.iconst 1, 1) := by decide +kernel
theorem dJ0_coder_7d493_14 : decode cJ0_coder_7d493 14 = .ok (.ireturn, 1) := by decide +kernel
theorem dJ0_isLatin1_aae02_0 : decode cJ0_isLatin1_aae02 0 = .ok (.getstatic 38, 3) := by decide +kernel
theorem dJ0_isLatin1_aae02_3 : decode cJ0_isLatin1_aae02 3 = .ok (.ifCond .eq 14, 3) := by decide +kernel
theorem dJ0_isLatin1_aae02_6 : decode cJ0_isLatin1_aae02 6 = .ok (.aload_n 0, 1) := by decide +kernel
theorem dJ0_isLatin1_aae02_7 : decode cJ0_isLatin1_aae02 7 = .ok (.getfield 15, 3) := by decide +kernel
theorem dJ0_isLatin1_aae02_10 : decode cJ0_isLatin1_aae02 10 = .ok (.ifCond .ne 7, 3) := by decide +kernel
theorem dJ0_isLatin1_aae02_13 : decode cJ0_isLatin1_aae02 13 = .ok (.iconst 1, 1) := by decide +kernel
theorem dJ0_isLatin1_aae02_14 : decode cJ0_isLatin1_aae02 14 = .ok (.goto 4, 3) := by decide +kernel
theorem dJ0_isLatin1_aae02_17 : decode cJ0_isLatin1_aae02 17 = .ok (.iconst 0, 1) := by decide +kernel
theorem dJ0_isLatin1_aae02_18 : decode cJ0_isLatin1_aae02 18 = .ok (.ireturn, 1) := by decide +kernel
theorem dJ0_checkIndex_df160_0 : decode cJ0_checkIndex_df160 0 = .ok (.iload_n 0, 1) := by decide +kernel
theorem dJ0_checkIndex_df160_1 : decode cJ0_checkIndex_df160 1 = .ok (.iload_n 1, 1) := by decide +kernel
theorem dJ0_checkIndex_df160_2 : decode cJ0_checkIndex_df160 2 = .ok (.getstatic 1053, 3) := by decide +kernel
theorem dJ0_checkIndex_df160_5 : decode cJ0_checkIndex_df160 5 = .ok (.invokestatic 1059, 3) := by decide +kernel
theorem dJ0_checkIndex_df160_8 : decode cJ0_checkIndex_df160 8 = .ok (.pop, 1) := by decide +kernel
theorem dJ0_checkIndex_df160_9 : decode cJ0_checkIndex_df160 9 = .ok (.return_, 1) := by decide +kernel
theorem dJ1_charAt_3b067_0 : decode cJ1_charAt_3b067 0 = .ok (.iload_n 1, 1) := by decide +kernel
theorem dJ1_charAt_3b067_1 : decode cJ1_charAt_3b067 1 = .ok (.aload_n 0, 1) := by decide +kernel
theorem dJ1_charAt_3b067_2 : decode cJ1_charAt_3b067 2 = .ok (.arraylength, 1) := by decide +kernel
theorem dJ1_charAt_3b067_3 : decode cJ1_charAt_3b067 3 = .ok (.invokestatic 9, 3) := by decide +kernel
theorem dJ1_charAt_3b067_6 : decode cJ1_charAt_3b067 6 = .ok (.aload_n 0, 1) := by decide +kernel
theorem dJ1_charAt_3b067_7 : decode cJ1_charAt_3b067 7 = .ok (.iload_n 1, 1) := by decide +kernel
theorem dJ1_charAt_3b067_8 : decode cJ1_charAt_3b067 8 = .ok (.baload, 1) := by decide +kernel
theorem dJ1_charAt_3b067_9 : decode cJ1_charAt_3b067 9 = .ok (.sipush 255, 3) := by decide +kernel
theorem dJ1_charAt_3b067_12 : decode cJ1_charAt_3b067 12 = .ok (.iand, 1) := by decide +kernel
theorem dJ1_charAt_3b067_13 : decode cJ1_charAt_3b067 13 = .ok (.i2c, 1) := by decide +kernel
theorem dJ1_charAt_3b067_14 : decode cJ1_charAt_3b067 14 = .ok (.ireturn, 1) := by decide +kernel
theorem dJ2_getChar_3b067_0 : decode cJ2_getChar_3b067 0 = .ok (.getstatic 44, 3) := by decide +kernel
theorem dJ2_getChar_3b067_3 : decode cJ2_getChar_3b067 3 = .ok (.ifCond .ne 25, 3) := by decide +kernel
theorem dJ2_getChar_3b067_6 : decode cJ2_getChar_3b067 6 = .ok (.iload_n 1, 1) := by decide +kernel
theorem dJ2_getChar_3b067_7 : decode cJ2_getChar_3b067 7 = .ok (.ifCond .lt 11, 3) := by decide +kernel
theorem dJ2_getChar_3b067_10 : decode cJ2_getChar_3b067 10 = .ok (.iload_n 1, 1) := by decide +kernel
theorem dJ2_getChar_3b067_11 : decode cJ2_getChar_3b067 11 = .ok (.aload_n 0, 1) := by decide +kernel
theorem dJ2_getChar_3b067_12 : decode cJ2_getChar_3b067 12 = .ok (.invokestatic 48, 3) := by decide +kernel
theorem dJ2_getChar_3b067_15 : decode cJ2_getChar_3b067 15 = .ok (.if_icmp .lt 13, 3) := by decide +kernel
theorem dJ2_getChar_3b067_18 : decode cJ2_getChar_3b067 18 = .ok (.new 52, 3) := by decide +kernel
theorem dJ2_getChar_3b067_21 : decode cJ2_getChar_3b067 21 = .ok (.dup, 1) := by decide +kernel
theorem dJ2_getChar_3b067_22 : decode cJ2_getChar_3b067 22 = .ok (.ldc 54, 2) := by decide +kernel
theorem dJ2_getChar_3b067_24 : decode cJ2_getChar_3b067 24 = .ok (.invokespecial 56, 3) := by decide +kernel
theorem dJ2_getChar_3b067_27 : decode cJ2_getChar_3b067 27 = .ok (.athrow, 1) := by decide +kernel
theorem dJ2_getChar_3b067_28 : decode cJ2_getChar_3b067 28 = .ok (.iload_n 1, 1) := by decide +kernel
theorem dJ2_getChar_3b067_29 : decode cJ2_getChar_3b067 29 = .ok (.iconst 1, 1) := by decide +kernel
theorem dJ2_getChar_3b067_30 : decode cJ2_getChar_3b067 30 = .ok (.ishl, 1) := by decide +kernel
theorem dJ2_getChar_3b067_31 : decode cJ2_getChar_3b067 31 = .ok (.istore_n 1, 1) := by decide +kernel
theorem dJ2_getChar_3b067_32 : decode cJ2_getChar_3b067 32 = .ok (.aload_n 0, 1) := by decide +kernel
theorem dJ2_getChar_3b067_33 : decode cJ2_getChar_3b067 33 = .ok (.iload_n 1, 1) := by decide +kernel
theorem dJ2_getChar_3b067_34 : decode cJ2_getChar_3b067 34 = .ok (.iinc 1 1, 3) := by decide +kernel
theorem dJ2_getChar_3b067_37 : decode cJ2_getChar_3b067 37 = .ok (.baload, 1) := by decide +kernel
theorem dJ2_getChar_3b067_38 : decode cJ2_getChar_3b067 38 = .ok (.sipush 255, 3) := by decide +kernel
theorem dJ2_getChar_3b067_41 : decode cJ2_getChar_3b067 41 = .ok (.iand, 1) := by decide +kernel
theorem dJ2_getChar_3b067_42 : decode cJ2_getChar_3b067 42 = .ok (.getstatic 59, 3) := by decide +kernel
theorem dJ2_getChar_3b067_45 : decode cJ2_getChar_3b067 45 = .ok (.ishl, 1) := by decide +kernel
theorem dJ2_getChar_3b067_46 : decode cJ2_getChar_3b067 46 = .ok (.aload_n 0, 1) := by decide +kernel
theorem dJ2_getChar_3b067_47 : decode cJ2_getChar_3b067 47 = .ok (.iload_n 1, 1) := by decide +kernel
theorem dJ2_getChar_3b067_48 : decode cJ2_getChar_3b067 48 = .ok (.baload, 1) := by decide +kernel
theorem dJ2_getChar_3b067_49 : decode cJ2_getChar_3b067 49 = .ok (.sipush 255, 3) := by decide +kernel
theorem dJ2_getChar_3b067_52 : decode cJ2_getChar_3b067 52 = .ok (.iand, 1) := by decide +kernel
theorem dJ2_getChar_3b067_53 : decode cJ2_getChar_3b067 53 = .ok (.getstatic 63, 3) := by decide +kernel
theorem dJ2_getChar_3b067_56 : decode cJ2_getChar_3b067 56 = .ok (.ishl, 1) := by decide +kernel
theorem dJ2_getChar_3b067_57 : decode cJ2_getChar_3b067 57 = .ok (.ior, 1) := by decide +kernel
theorem dJ2_getChar_3b067_58 : decode cJ2_getChar_3b067 58 = .ok (.i2c, 1) := by decide +kernel
theorem dJ2_getChar_3b067_59 : decode cJ2_getChar_3b067 59 = .ok (.ireturn, 1) := by decide +kernel
theorem dJ2_length_9d52b_0 : decode cJ2_length_9d52b 0 = .ok (.aload_n 0, 1) := by decide +kernel
theorem dJ2_length_9d52b_1 : decode cJ2_length_9d52b 1 = .ok (.arraylength, 1) := by decide +kernel
theorem dJ2_length_9d52b_2 : decode cJ2_length_9d52b 2 = .ok (.iconst 1, 1) := by decide +kernel
theorem dJ2_length_9d52b_3 : decode cJ2_length_9d52b 3 = .ok (.ishr, 1) := by decide +kernel
theorem dJ2_length_9d52b_4 : decode cJ2_length_9d52b 4 = .ok (.ireturn, 1) := by decide +kernel
theorem dJ2_charAt_3b067_0 : decode cJ2_charAt_3b067 0 = .ok (.iload_n 1, 1) := by decide +kernel
theorem dJ2_charAt_3b067_1 : decode cJ2_charAt_3b067 1 = .ok (.aload_n 0, 1) := by decide +kernel
theorem dJ2_charAt_3b067_2 : decode cJ2_charAt_3b067 2 = .ok (.invokestatic 67, 3) := by decide +kernel
theorem dJ2_charAt_3b067_5 : decode cJ2_charAt_3b067 5 = .ok (.aload_n 0, 1) := by decide +kernel
theorem dJ2_charAt_3b067_6 : decode cJ2_charAt_3b067 6 = .ok (.iload_n 1, 1) := by decide +kernel
theorem dJ2_charAt_3b067_7 : decode cJ2_charAt_3b067 7 = .ok (.invokestatic 71, 3) := by decide +kernel
theorem dJ2_charAt_3b067_10 : decode cJ2_charAt_3b067 10 = .ok (.ireturn, 1) := by decide +kernel
theorem dJ2_checkIndex_2214a_0 : decode cJ2_checkIndex_2214a 0 = .ok (.iload_n 0, 1) := by decide +kernel
theorem dJ2_checkIndex_2214a_1 : decode cJ2_checkIndex_2214a 1 = .ok (.aload_n 1, 1) := by decide +kernel
theorem dJ2_checkIndex_2214a_2 : decode cJ2_checkIndex_2214a 2 = .ok (.invokestatic 48, 3) := by decide +kernel
theorem dJ2_checkIndex_2214a_5 : decode cJ2_checkIndex_2214a 5 = .ok (.invokestatic 414, 3) := by decide +kernel
theorem dJ2_checkIndex_2214a_8 : decode cJ2_checkIndex_2214a 8 = .ok (.return_, 1) := by decide +kernel
theorem dJ3_checkIndex_8e157_0 : decode cJ3_checkIndex_8e157 0 = .ok (.iload_n 0, 1) := by decide +kernel
theorem dJ3_checkIndex_8e157_1 : decode cJ3_checkIndex_8e157 1 = .ok (.ifCond .lt 8, 3) := by decide +kernel
theorem dJ3_checkIndex_8e157_4 : decode cJ3_checkIndex_8e157 4 = .ok (.iload_n 0, 1) := by decide +kernel
theorem dJ3_checkIndex_8e157_5 : decode cJ3_checkIndex_8e157 5 = .ok (.iload_n 1, 1) := by decide +kernel
theorem dJ3_checkIndex_8e157_6 : decode cJ3_checkIndex_8e157 6 = .ok (.if_icmp .lt 10, 3) := by decide +kernel
theorem dJ3_checkIndex_8e157_9 : decode cJ3_checkIndex_8e157 9 = .ok (.aload_n 2, 1) := by decide +kernel
theorem dJ3_checkIndex_8e157_10 : decode cJ3_checkIndex_8e157 10 = .ok (.iload_n 0, 1) := by decide +kernel
theorem dJ3_checkIndex_8e157_11 : decode cJ3_checkIndex_8e157 11 = .ok (.iload_n 1, 1) := by decide +kernel
theorem dJ3_checkIndex_8e157_12 : decode cJ3_checkIndex_8e157 12 = .ok (.invokestatic 95, 3) := by decide +kernel
theorem dJ3_checkIndex_8e157_15 : decode cJ3_checkIndex_8e157 15 = .ok (.athrow, 1) := by decide +kernel
theorem dJ3_checkIndex_8e157_16 : decode cJ3_checkIndex_8e157 16 = .ok (.iload_n 0, 1) := by decide +kernel
theorem dJ3_checkIndex_8e157_17 : decode cJ3_checkIndex_8e157 17 = .ok (.ireturn, 1) := by decide +kernel
theorem dL_law_0 : decode cL_law 0 = .ok (.new 7, 3) := by decide +kernel
theorem dL_law_3 : decode cL_law 3 = .ok (.dup, 1) := by decide +kernel
theorem dL_law_4 : decode cL_law 4 = .ok (.invokespecial 9, 3) := by decide +kernel
theorem dL_law_7 : decode cL_law 7 = .ok (.astore_n 1, 1) := by decide +kernel
theorem dL_law_8 : decode cL_law 8 = .ok (.new 10, 3) := by decide +kernel
theorem dL_law_11 : decode cL_law 11 = .ok (.dup, 1) := by decide +kernel
theorem dL_law_12 : decode cL_law 12 = .ok (.invokespecial 12, 3) := by decide +kernel
theorem dL_law_15 : decode cL_law 15 = .ok (.astore_n 2, 1) := by decide +kernel
theorem dL_law_16 : decode cL_law 16 = .ok (.iconst 0, 1) := by decide +kernel
theorem dL_law_17 : decode cL_law 17 = .ok (.istore_n 3, 1) := by decide +kernel
theorem dL_law_18 : decode cL_law 18 = .ok (.iload_n 3, 1) := by decide +kernel
theorem dL_law_19 : decode cL_law 19 = .ok (.aload_n 0, 1) := by decide +kernel
theorem dL_law_20 : decode cL_law 20 = .ok (.arraylength, 1) := by decide +kernel
theorem dL_law_21 : decode cL_law 21 = .ok (.iconst 4, 1) := by decide +kernel
theorem dL_law_22 : decode cL_law 22 = .ok (.isub, 1) := by decide +kernel
theorem dL_law_23 : decode cL_law 23 = .ok (.if_icmp .gt 738, 3) := by decide +kernel
theorem dL_law_26 : decode cL_law 26 = .ok (.aload_n 0, 1) := by decide +kernel
theorem dL_law_27 : decode cL_law 27 = .ok (.iload_n 3, 1) := by decide +kernel
theorem dL_law_28 : decode cL_law 28 = .ok (.iaload, 1) := by decide +kernel
theorem dL_law_29 : decode cL_law 29 = .ok (.bipush 31, 2) := by decide +kernel
theorem dL_law_31 : decode cL_law 31 = .ok (.iand, 1) := by decide +kernel
theorem dL_law_32 : decode cL_law 32 = .ok (.tableswitch 723 0 24 #[116, 139, 152, 175, 208, 221, 244, 267, 300, 323, 366, 399, 432, 445, 458, 491, 525, 559, 582, 605, 618, 631, 674, 687, 700], 116) := by decide +kernel
theorem dL_law_148 : decode cL_law 148 = .ok (.aload_n 1, 1) := by decide +kernel
theorem dL_law_149 : decode cL_law 149 = .ok (.aload_n 0, 1) := by decide +kernel
theorem dL_law_150 : decode cL_law 150 = .ok (.iload_n 3, 1) := by decide +kernel
theorem dL_law_151 : decode cL_law 151 = .ok (.iconst 1, 1) := by decide +kernel
theorem dL_law_152 : decode cL_law 152 = .ok (.iadd, 1) := by decide +kernel
theorem dL_law_153 : decode cL_law 153 = .ok (.iaload, 1) := by decide +kernel
theorem dL_law_154 : decode cL_law 154 = .ok (.invokevirtual 13, 3) := by decide +kernel
theorem dL_law_157 : decode cL_law 157 = .ok (.aload_n 2, 1) := by decide +kernel
theorem dL_law_158 : decode cL_law 158 = .ok (.aload_n 0, 1) := by decide +kernel
theorem dL_law_159 : decode cL_law 159 = .ok (.iload_n 3, 1) := by decide +kernel
theorem dL_law_160 : decode cL_law 160 = .ok (.iconst 1, 1) := by decide +kernel
theorem dL_law_161 : decode cL_law 161 = .ok (.iadd, 1) := by decide +kernel
theorem dL_law_162 : decode cL_law 162 = .ok (.iaload, 1) := by decide +kernel
theorem dL_law_163 : decode cL_law 163 = .ok (.invokevirtual 17, 3) := by decide +kernel
theorem dL_law_166 : decode cL_law 166 = .ok (.if_icmp .eq 589, 3) := by decide +kernel
theorem dL_law_169 : decode cL_law 169 = .ok (.iconst 0, 1) := by decide +kernel
theorem dL_law_170 : decode cL_law 170 = .ok (.ireturn, 1) := by decide +kernel
theorem dL_law_171 : decode cL_law 171 = .ok (.aload_n 1, 1) := by decide +kernel
theorem dL_law_172 : decode cL_law 172 = .ok (.invokevirtual 18, 3) := by decide +kernel
theorem dL_law_175 : decode cL_law 175 = .ok (.aload_n 2, 1) := by decide +kernel
theorem dL_law_176 : decode cL_law 176 = .ok (.invokevirtual 22, 3) := by decide +kernel
theorem dL_law_179 : decode cL_law 179 = .ok (.if_icmp .eq 576, 3) := by decide +kernel
theorem dL_law_182 : decode cL_law 182 = .ok (.iconst 0, 1) := by decide +kernel
theorem dL_law_183 : decode cL_law 183 = .ok (.ireturn, 1) := by decide +kernel
theorem dL_law_184 : decode cL_law 184 = .ok (.aload_n 1, 1) := by decide +kernel
theorem dL_law_185 : decode cL_law 185 = .ok (.aload_n 0, 1) := by decide +kernel
theorem dL_law_186 : decode cL_law 186 = .ok (.iload_n 3, 1) := by decide +kernel
theorem dL_law_187 : decode cL_law 187 = .ok (.iconst 1, 1) := by decide +kernel
theorem dL_law_188 : decode cL_law 188 = .ok (.iadd, 1) := by decide +kernel
theorem dL_law_189 : decode cL_law 189 = .ok (.iaload, 1) := by decide +kernel
theorem dL_law_190 : decode cL_law 190 = .ok (.invokevirtual 23, 3) := by decide +kernel
theorem dL_law_193 : decode cL_law 193 = .ok (.aload_n 2, 1) := by decide +kernel
theorem dL_law_194 : decode cL_law 194 = .ok (.aload_n 0, 1) := by decide +kernel
theorem dL_law_195 : decode cL_law 195 = .ok (.iload_n 3, 1) := by decide +kernel
theorem dL_law_196 : decode cL_law 196 = .ok (.iconst 1, 1) := by decide +kernel
theorem dL_law_197 : decode cL_law 197 = .ok (.iadd, 1) := by decide +kernel
theorem dL_law_198 : decode cL_law 198 = .ok (.iaload, 1) := by decide +kernel
theorem dL_law_199 : decode cL_law 199 = .ok (.invokevirtual 26, 3) := by decide +kernel
theorem dL_law_202 : decode cL_law 202 = .ok (.if_icmp .eq 553, 3) := by decide +kernel
theorem dL_law_205 : decode cL_law 205 = .ok (.iconst 0, 1) := by decide +kernel
theorem dL_law_206 : decode cL_law 206 = .ok (.ireturn, 1) := by decide +kernel
theorem dL_law_207 : decode cL_law 207 = .ok (.aload_n 1, 1) := by decide +kernel
theorem dL_law_208 : decode cL_law 208 = .ok (.aload_n 0, 1) := by decide +kernel
theorem dL_law_209 : decode cL_law 209 = .ok (.iload_n 3, 1) := by decide +kernel
theorem dL_law_210 : decode cL_law 210 = .ok (.iconst 1, 1) := by decide +kernel
theorem dL_law_211 : decode cL_law 211 = .ok (.iadd, 1) := by decide +kernel
theorem dL_law_212 : decode cL_law 212 = .ok (.iaload, 1) := by decide +kernel
theorem dL_law_213 : decode cL_law 213 = .ok (.aload_n 0, 1) := by decide +kernel
theorem dL_law_214 : decode cL_law 214 = .ok (.iload_n 3, 1) := by decide +kernel
theorem dL_law_215 : decode cL_law 215 = .ok (.iconst 2, 1) := by decide +kernel
theorem dL_law_216 : decode cL_law 216 = .ok (.iadd, 1) := by decide +kernel
theorem dL_law_217 : decode cL_law 217 = .ok (.iaload, 1) := by decide +kernel
theorem dL_law_218 : decode cL_law 218 = .ok (.invokevirtual 27, 3) := by decide +kernel
theorem dL_law_221 : decode cL_law 221 = .ok (.aload_n 2, 1) := by decide +kernel
theorem dL_law_222 : decode cL_law 222 = .ok (.aload_n 0, 1) := by decide +kernel
theorem dL_law_223 : decode cL_law 223 = .ok (.iload_n 3, 1) := by decide +kernel
theorem dL_law_224 : decode cL_law 224 = .ok (.iconst 1, 1) := by decide +kernel
theorem dL_law_225 : decode cL_law 225 = .ok (.iadd, 1) := by decide +kernel
theorem dL_law_226 : decode cL_law 226 = .ok (.iaload, 1) := by decide +kernel
theorem dL_law_227 : decode cL_law 227 = .ok (.aload_n 0, 1) := by decide +kernel
theorem dL_law_228 : decode cL_law 228 = .ok (.iload_n 3, 1) := by decide +kernel
theorem dL_law_229 : decode cL_law 229 = .ok (.iconst 2, 1) := by decide +kernel
theorem dL_law_230 : decode cL_law 230 = .ok (.iadd, 1) := by decide +kernel
theorem dL_law_231 : decode cL_law 231 = .ok (.iaload, 1) := by decide +kernel
theorem dL_law_232 : decode cL_law 232 = .ok (.invokevirtual 31, 3) := by decide +kernel
theorem dL_law_235 : decode cL_law 235 = .ok (.if_icmp .eq 520, 3) := by decide +kernel
theorem dL_law_238 : decode cL_law 238 = .ok (.iconst 0, 1) := by decide +kernel
theorem dL_law_239 : decode cL_law 239 = .ok (.ireturn, 1) := by decide +kernel
theorem dL_law_240 : decode cL_law 240 = .ok (.aload_n 1, 1) := by decide +kernel
theorem dL_law_241 : decode cL_law 241 = .ok (.invokevirtual 32, 3) := by decide +kernel
theorem dL_law_244 : decode cL_law 244 = .ok (.aload_n 2, 1) := by decide +kernel
theorem dL_law_245 : decode cL_law 245 = .ok (.invokevirtual 35, 3) := by decide +kernel
theorem dL_law_248 : decode cL_law 248 = .ok (.if_icmp .eq 507, 3) := by decide +kernel
theorem dL_law_251 : decode cL_law 251 = .ok (.iconst 0, 1) := by decide +kernel
theorem dL_law_252 : decode cL_law 252 = .ok (.ireturn, 1) := by decide +kernel
theorem dL_law_253 : decode cL_law 253 = .ok (.aload_n 1, 1) := by decide +kernel
theorem dL_law_254 : decode cL_law 254 = .ok (.aload_n 0, 1) := by decide +kernel
theorem dL_law_255 : decode cL_law 255 = .ok (.iload_n 3, 1) := by decide +kernel
theorem dL_law_256 : decode cL_law 256 = .ok (.iconst 1, 1) := by decide +kernel
theorem dL_law_257 : decode cL_law 257 = .ok (.iadd, 1) := by decide +kernel
theorem dL_law_258 : decode cL_law 258 = .ok (.iaload, 1) := by decide +kernel
theorem dL_law_259 : decode cL_law 259 = .ok (.invokevirtual 36, 3) := by decide +kernel
theorem dL_law_262 : decode cL_law 262 = .ok (.aload_n 2, 1) := by decide +kernel
theorem dL_law_263 : decode cL_law 263 = .ok (.aload_n 0, 1) := by decide +kernel
theorem dL_law_264 : decode cL_law 264 = .ok (.iload_n 3, 1) := by decide +kernel
theorem dL_law_265 : decode cL_law 265 = .ok (.iconst 1, 1) := by decide +kernel
theorem dL_law_266 : decode cL_law 266 = .ok (.iadd, 1) := by decide +kernel
theorem dL_law_267 : decode cL_law 267 = .ok (.iaload, 1) := by decide +kernel
theorem dL_law_268 : decode cL_law 268 = .ok (.invokevirtual 39, 3) := by decide +kernel
theorem dL_law_271 : decode cL_law 271 = .ok (.if_icmp .eq 484, 3) := by decide +kernel
theorem dL_law_274 : decode cL_law 274 = .ok (.iconst 0, 1) := by decide +kernel
theorem dL_law_275 : decode cL_law 275 = .ok (.ireturn, 1) := by decide +kernel
theorem dL_law_276 : decode cL_law 276 = .ok (.aload_n 1, 1) := by decide +kernel
theorem dL_law_277 : decode cL_law 277 = .ok (.aload_n 0, 1) := by decide +kernel
theorem dL_law_278 : decode cL_law 278 = .ok (.iload_n 3, 1) := by decide +kernel
theorem dL_law_279 : decode cL_law 279 = .ok (.iconst 1, 1) := by decide +kernel
theorem dL_law_280 : decode cL_law 280 = .ok (.iadd, 1) := by decide +kernel
theorem dL_law_281 : decode cL_law 281 = .ok (.iaload, 1) := by decide +kernel
theorem dL_law_282 : decode cL_law 282 = .ok (.invokevirtual 40, 3) := by decide +kernel
theorem dL_law_285 : decode cL_law 285 = .ok (.aload_n 2, 1) := by decide +kernel
theorem dL_law_286 : decode cL_law 286 = .ok (.aload_n 0, 1) := by decide +kernel
theorem dL_law_287 : decode cL_law 287 = .ok (.iload_n 3, 1) := by decide +kernel
theorem dL_law_288 : decode cL_law 288 = .ok (.iconst 1, 1) := by decide +kernel
theorem dL_law_289 : decode cL_law 289 = .ok (.iadd, 1) := by decide +kernel
theorem dL_law_290 : decode cL_law 290 = .ok (.iaload, 1) := by decide +kernel
theorem dL_law_291 : decode cL_law 291 = .ok (.invokevirtual 43, 3) := by decide +kernel
theorem dL_law_294 : decode cL_law 294 = .ok (.if_icmp .eq 461, 3) := by decide +kernel
theorem dL_law_297 : decode cL_law 297 = .ok (.iconst 0, 1) := by decide +kernel
theorem dL_law_298 : decode cL_law 298 = .ok (.ireturn, 1) := by decide +kernel
theorem dL_law_299 : decode cL_law 299 = .ok (.aload_n 1, 1) := by decide +kernel
theorem dL_law_300 : decode cL_law 300 = .ok (.aload_n 0, 1) := by decide +kernel
theorem dL_law_301 : decode cL_law 301 = .ok (.iload_n 3, 1) := by decide +kernel
theorem dL_law_302 : decode cL_law 302 = .ok (.iconst 1, 1) := by decide +kernel
theorem dL_law_303 : decode cL_law 303 = .ok (.iadd, 1) := by decide +kernel
theorem dL_law_304 : decode cL_law 304 = .ok (.iaload, 1) := by decide +kernel
theorem dL_law_305 : decode cL_law 305 = .ok (.aload_n 0, 1) := by decide +kernel
theorem dL_law_306 : decode cL_law 306 = .ok (.iload_n 3, 1) := by decide +kernel
theorem dL_law_307 : decode cL_law 307 = .ok (.iconst 2, 1) := by decide +kernel
theorem dL_law_308 : decode cL_law 308 = .ok (.iadd, 1) := by decide +kernel
theorem dL_law_309 : decode cL_law 309 = .ok (.iaload, 1) := by decide +kernel
theorem dL_law_310 : decode cL_law 310 = .ok (.invokevirtual 44, 3) := by decide +kernel
theorem dL_law_313 : decode cL_law 313 = .ok (.aload_n 2, 1) := by decide +kernel
theorem dL_law_314 : decode cL_law 314 = .ok (.aload_n 0, 1) := by decide +kernel
theorem dL_law_315 : decode cL_law 315 = .ok (.iload_n 3, 1) := by decide +kernel
theorem dL_law_316 : decode cL_law 316 = .ok (.iconst 1, 1) := by decide +kernel
theorem dL_law_317 : decode cL_law 317 = .ok (.iadd, 1) := by decide +kernel
theorem dL_law_318 : decode cL_law 318 = .ok (.iaload, 1) := by decide +kernel
theorem dL_law_319 : decode cL_law 319 = .ok (.aload_n 0, 1) := by decide +kernel
theorem dL_law_320 : decode cL_law 320 = .ok (.iload_n 3, 1) := by decide +kernel
theorem dL_law_321 : decode cL_law 321 = .ok (.iconst 2, 1) := by decide +kernel
theorem dL_law_322 : decode cL_law 322 = .ok (.iadd, 1) := by decide +kernel
theorem dL_law_323 : decode cL_law 323 = .ok (.iaload, 1) := by decide +kernel
theorem dL_law_324 : decode cL_law 324 = .ok (.invokevirtual 47, 3) := by decide +kernel
theorem dL_law_327 : decode cL_law 327 = .ok (.if_icmp .eq 428, 3) := by decide +kernel
theorem dL_law_330 : decode cL_law 330 = .ok (.iconst 0, 1) := by decide +kernel
theorem dL_law_331 : decode cL_law 331 = .ok (.ireturn, 1) := by decide +kernel
theorem dL_law_332 : decode cL_law 332 = .ok (.aload_n 1, 1) := by decide +kernel
theorem dL_law_333 : decode cL_law 333 = .ok (.aload_n 0, 1) := by decide +kernel
theorem dL_law_334 : decode cL_law 334 = .ok (.iload_n 3, 1) := by decide +kernel
theorem dL_law_335 : decode cL_law 335 = .ok (.iconst 1, 1) := by decide +kernel
theorem dL_law_336 : decode cL_law 336 = .ok (.iadd, 1) := by decide +kernel
theorem dL_law_337 : decode cL_law 337 = .ok (.iaload, 1) := by decide +kernel
theorem dL_law_338 : decode cL_law 338 = .ok (.invokevirtual 48, 3) := by decide +kernel
theorem dL_law_341 : decode cL_law 341 = .ok (.aload_n 2, 1) := by decide +kernel
theorem dL_law_342 : decode cL_law 342 = .ok (.aload_n 0, 1) := by decide +kernel
theorem dL_law_343 : decode cL_law 343 = .ok (.iload_n 3, 1) := by decide +kernel
theorem dL_law_344 : decode cL_law 344 = .ok (.iconst 1, 1) := by decide +kernel
theorem dL_law_345 : decode cL_law 345 = .ok (.iadd, 1) := by decide +kernel
theorem dL_law_346 : decode cL_law 346 = .ok (.iaload, 1) := by decide +kernel
theorem dL_law_347 : decode cL_law 347 = .ok (.invokevirtual 51, 3) := by decide +kernel
theorem dL_law_350 : decode cL_law 350 = .ok (.if_icmp .eq 405, 3) := by decide +kernel
theorem dL_law_353 : decode cL_law 353 = .ok (.iconst 0, 1) := by decide +kernel
theorem dL_law_354 : decode cL_law 354 = .ok (.ireturn, 1) := by decide +kernel
theorem dL_law_355 : decode cL_law 355 = .ok (.aload_n 1, 1) := by decide +kernel
theorem dL_law_356 : decode cL_law 356 = .ok (.aload_n 0, 1) := by decide +kernel
theorem dL_law_357 : decode cL_law 357 = .ok (.iload_n 3, 1) := by decide +kernel
theorem dL_law_358 : decode cL_law 358 = .ok (.iconst 1, 1) := by decide +kernel
theorem dL_law_359 : decode cL_law 359 = .ok (.iadd, 1) := by decide +kernel
theorem dL_law_360 : decode cL_law 360 = .ok (.iaload, 1) := by decide +kernel
theorem dL_law_361 : decode cL_law 361 = .ok (.aload_n 0, 1) := by decide +kernel
theorem dL_law_362 : decode cL_law 362 = .ok (.iload_n 3, 1) := by decide +kernel
theorem dL_law_363 : decode cL_law 363 = .ok (.iconst 2, 1) := by decide +kernel
theorem dL_law_364 : decode cL_law 364 = .ok (.iadd, 1) := by decide +kernel
theorem dL_law_365 : decode cL_law 365 = .ok (.iaload, 1) := by decide +kernel
theorem dL_law_366 : decode cL_law 366 = .ok (.aload_n 0, 1) := by decide +kernel
theorem dL_law_367 : decode cL_law 367 = .ok (.iload_n 3, 1) := by decide +kernel
theorem dL_law_368 : decode cL_law 368 = .ok (.iconst 3, 1) := by decide +kernel
theorem dL_law_369 : decode cL_law 369 = .ok (.iadd, 1) := by decide +kernel
theorem dL_law_370 : decode cL_law 370 = .ok (.iaload, 1) := by decide +kernel
theorem dL_law_371 : decode cL_law 371 = .ok (.invokevirtual 52, 3) := by decide +kernel
theorem dL_law_374 : decode cL_law 374 = .ok (.aload_n 2, 1) := by decide +kernel
theorem dL_law_375 : decode cL_law 375 = .ok (.aload_n 0, 1) := by decide +kernel
theorem dL_law_376 : decode cL_law 376 = .ok (.iload_n 3, 1) := by decide +kernel
theorem dL_law_377 : decode cL_law 377 = .ok (.iconst 1, 1) := by decide +kernel
theorem dL_law_378 : decode cL_law 378 = .ok (.iadd, 1) := by decide +kernel
theorem dL_law_379 : decode cL_law 379 = .ok (.iaload, 1) := by decide +kernel
theorem dL_law_380 : decode cL_law 380 = .ok (.aload_n 0, 1) := by decide +kernel
theorem dL_law_381 : decode cL_law 381 = .ok (.iload_n 3, 1) := by decide +kernel
theorem dL_law_382 : decode cL_law 382 = .ok (.iconst 2, 1) := by decide +kernel
theorem dL_law_383 : decode cL_law 383 = .ok (.iadd, 1) := by decide +kernel
theorem dL_law_384 : decode cL_law 384 = .ok (.iaload, 1) := by decide +kernel
theorem dL_law_385 : decode cL_law 385 = .ok (.aload_n 0, 1) := by decide +kernel
theorem dL_law_386 : decode cL_law 386 = .ok (.iload_n 3, 1) := by decide +kernel
theorem dL_law_387 : decode cL_law 387 = .ok (.iconst 3, 1) := by decide +kernel
theorem dL_law_388 : decode cL_law 388 = .ok (.iadd, 1) := by decide +kernel
theorem dL_law_389 : decode cL_law 389 = .ok (.iaload, 1) := by decide +kernel
theorem dL_law_390 : decode cL_law 390 = .ok (.invokevirtual 56, 3) := by decide +kernel
theorem dL_law_393 : decode cL_law 393 = .ok (.if_icmp .eq 362, 3) := by decide +kernel
theorem dL_law_396 : decode cL_law 396 = .ok (.iconst 0, 1) := by decide +kernel
theorem dL_law_397 : decode cL_law 397 = .ok (.ireturn, 1) := by decide +kernel
theorem dL_law_398 : decode cL_law 398 = .ok (.aload_n 1, 1) := by decide +kernel
theorem dL_law_399 : decode cL_law 399 = .ok (.aload_n 0, 1) := by decide +kernel
theorem dL_law_400 : decode cL_law 400 = .ok (.iload_n 3, 1) := by decide +kernel
theorem dL_law_401 : decode cL_law 401 = .ok (.iconst 1, 1) := by decide +kernel
theorem dL_law_402 : decode cL_law 402 = .ok (.iadd, 1) := by decide +kernel
theorem dL_law_403 : decode cL_law 403 = .ok (.iaload, 1) := by decide +kernel
theorem dL_law_404 : decode cL_law 404 = .ok (.aload_n 0, 1) := by decide +kernel
theorem dL_law_405 : decode cL_law 405 = .ok (.iload_n 3, 1) := by decide +kernel
theorem dL_law_406 : decode cL_law 406 = .ok (.iconst 2, 1) := by decide +kernel
theorem dL_law_407 : decode cL_law 407 = .ok (.iadd, 1) := by decide +kernel
theorem dL_law_408 : decode cL_law 408 = .ok (.iaload, 1) := by decide +kernel
theorem dL_law_409 : decode cL_law 409 = .ok (.invokevirtual 57, 3) := by decide +kernel
theorem dL_law_412 : decode cL_law 412 = .ok (.aload_n 2, 1) := by decide +kernel
theorem dL_law_413 : decode cL_law 413 = .ok (.aload_n 0, 1) := by decide +kernel
theorem dL_law_414 : decode cL_law 414 = .ok (.iload_n 3, 1) := by decide +kernel
theorem dL_law_415 : decode cL_law 415 = .ok (.iconst 1, 1) := by decide +kernel
theorem dL_law_416 : decode cL_law 416 = .ok (.iadd, 1) := by decide +kernel
theorem dL_law_417 : decode cL_law 417 = .ok (.iaload, 1) := by decide +kernel
theorem dL_law_418 : decode cL_law 418 = .ok (.aload_n 0, 1) := by decide +kernel
theorem dL_law_419 : decode cL_law 419 = .ok (.iload_n 3, 1) := by decide +kernel
theorem dL_law_420 : decode cL_law 420 = .ok (.iconst 2, 1) := by decide +kernel
theorem dL_law_421 : decode cL_law 421 = .ok (.iadd, 1) := by decide +kernel
theorem dL_law_422 : decode cL_law 422 = .ok (.iaload, 1) := by decide +kernel
theorem dL_law_423 : decode cL_law 423 = .ok (.invokevirtual 60, 3) := by decide +kernel
theorem dL_law_426 : decode cL_law 426 = .ok (.if_icmp .eq 329, 3) := by decide +kernel
theorem dL_law_429 : decode cL_law 429 = .ok (.iconst 0, 1) := by decide +kernel
theorem dL_law_430 : decode cL_law 430 = .ok (.ireturn, 1) := by decide +kernel
theorem dL_law_431 : decode cL_law 431 = .ok (.aload_n 1, 1) := by decide +kernel
theorem dL_law_432 : decode cL_law 432 = .ok (.aload_n 0, 1) := by decide +kernel
theorem dL_law_433 : decode cL_law 433 = .ok (.iload_n 3, 1) := by decide +kernel
theorem dL_law_434 : decode cL_law 434 = .ok (.iconst 1, 1) := by decide +kernel
theorem dL_law_435 : decode cL_law 435 = .ok (.iadd, 1) := by decide +kernel
theorem dL_law_436 : decode cL_law 436 = .ok (.iaload, 1) := by decide +kernel
theorem dL_law_437 : decode cL_law 437 = .ok (.aload_n 0, 1) := by decide +kernel
theorem dL_law_438 : decode cL_law 438 = .ok (.iload_n 3, 1) := by decide +kernel
theorem dL_law_439 : decode cL_law 439 = .ok (.iconst 2, 1) := by decide +kernel
theorem dL_law_440 : decode cL_law 440 = .ok (.iadd, 1) := by decide +kernel
theorem dL_law_441 : decode cL_law 441 = .ok (.iaload, 1) := by decide +kernel
theorem dL_law_442 : decode cL_law 442 = .ok (.invokevirtual 61, 3) := by decide +kernel
theorem dL_law_445 : decode cL_law 445 = .ok (.aload_n 2, 1) := by decide +kernel
theorem dL_law_446 : decode cL_law 446 = .ok (.aload_n 0, 1) := by decide +kernel
theorem dL_law_447 : decode cL_law 447 = .ok (.iload_n 3, 1) := by decide +kernel
theorem dL_law_448 : decode cL_law 448 = .ok (.iconst 1, 1) := by decide +kernel
theorem dL_law_449 : decode cL_law 449 = .ok (.iadd, 1) := by decide +kernel
theorem dL_law_450 : decode cL_law 450 = .ok (.iaload, 1) := by decide +kernel
theorem dL_law_451 : decode cL_law 451 = .ok (.aload_n 0, 1) := by decide +kernel
theorem dL_law_452 : decode cL_law 452 = .ok (.iload_n 3, 1) := by decide +kernel
theorem dL_law_453 : decode cL_law 453 = .ok (.iconst 2, 1) := by decide +kernel
theorem dL_law_454 : decode cL_law 454 = .ok (.iadd, 1) := by decide +kernel
theorem dL_law_455 : decode cL_law 455 = .ok (.iaload, 1) := by decide +kernel
theorem dL_law_456 : decode cL_law 456 = .ok (.invokevirtual 64, 3) := by decide +kernel
theorem dL_law_459 : decode cL_law 459 = .ok (.if_icmp .eq 296, 3) := by decide +kernel
theorem dL_law_462 : decode cL_law 462 = .ok (.iconst 0, 1) := by decide +kernel
theorem dL_law_463 : decode cL_law 463 = .ok (.ireturn, 1) := by decide +kernel
theorem dL_law_464 : decode cL_law 464 = .ok (.aload_n 1, 1) := by decide +kernel
theorem dL_law_465 : decode cL_law 465 = .ok (.invokevirtual 65, 3) := by decide +kernel
theorem dL_law_468 : decode cL_law 468 = .ok (.aload_n 2, 1) := by decide +kernel
theorem dL_law_469 : decode cL_law 469 = .ok (.invokevirtual 68, 3) := by decide +kernel
theorem dL_law_472 : decode cL_law 472 = .ok (.if_icmp .eq 283, 3) := by decide +kernel
theorem dL_law_475 : decode cL_law 475 = .ok (.iconst 0, 1) := by decide +kernel
theorem dL_law_476 : decode cL_law 476 = .ok (.ireturn, 1) := by decide +kernel
theorem dL_law_477 : decode cL_law 477 = .ok (.aload_n 1, 1) := by decide +kernel
theorem dL_law_478 : decode cL_law 478 = .ok (.invokevirtual 69, 3) := by decide +kernel
theorem dL_law_481 : decode cL_law 481 = .ok (.aload_n 2, 1) := by decide +kernel
theorem dL_law_482 : decode cL_law 482 = .ok (.invokevirtual 72, 3) := by decide +kernel
theorem dL_law_485 : decode cL_law 485 = .ok (.if_icmp .eq 270, 3) := by decide +kernel
theorem dL_law_488 : decode cL_law 488 = .ok (.iconst 0, 1) := by decide +kernel
theorem dL_law_489 : decode cL_law 489 = .ok (.ireturn, 1) := by decide +kernel
theorem dL_law_490 : decode cL_law 490 = .ok (.aload_n 1, 1) := by decide +kernel
theorem dL_law_491 : decode cL_law 491 = .ok (.aload_n 0, 1) := by decide +kernel
theorem dL_law_492 : decode cL_law 492 = .ok (.iload_n 3, 1) := by decide +kernel
theorem dL_law_493 : decode cL_law 493 = .ok (.iconst 1, 1) := by decide +kernel
theorem dL_law_494 : decode cL_law 494 = .ok (.iadd, 1) := by decide +kernel
theorem dL_law_495 : decode cL_law 495 = .ok (.iaload, 1) := by decide +kernel
theorem dL_law_496 : decode cL_law 496 = .ok (.aload_n 0, 1) := by decide +kernel
theorem dL_law_497 : decode cL_law 497 = .ok (.iload_n 3, 1) := by decide +kernel
theorem dL_law_498 : decode cL_law 498 = .ok (.iconst 2, 1) := by decide +kernel
theorem dL_law_499 : decode cL_law 499 = .ok (.iadd, 1) := by decide +kernel
theorem dL_law_500 : decode cL_law 500 = .ok (.iaload, 1) := by decide +kernel
theorem dL_law_501 : decode cL_law 501 = .ok (.invokevirtual 73, 3) := by decide +kernel
theorem dL_law_504 : decode cL_law 504 = .ok (.aload_n 2, 1) := by decide +kernel
theorem dL_law_505 : decode cL_law 505 = .ok (.aload_n 0, 1) := by decide +kernel
theorem dL_law_506 : decode cL_law 506 = .ok (.iload_n 3, 1) := by decide +kernel
theorem dL_law_507 : decode cL_law 507 = .ok (.iconst 1, 1) := by decide +kernel
theorem dL_law_508 : decode cL_law 508 = .ok (.iadd, 1) := by decide +kernel
theorem dL_law_509 : decode cL_law 509 = .ok (.iaload, 1) := by decide +kernel
theorem dL_law_510 : decode cL_law 510 = .ok (.aload_n 0, 1) := by decide +kernel
theorem dL_law_511 : decode cL_law 511 = .ok (.iload_n 3, 1) := by decide +kernel
theorem dL_law_512 : decode cL_law 512 = .ok (.iconst 2, 1) := by decide +kernel
theorem dL_law_513 : decode cL_law 513 = .ok (.iadd, 1) := by decide +kernel
theorem dL_law_514 : decode cL_law 514 = .ok (.iaload, 1) := by decide +kernel
theorem dL_law_515 : decode cL_law 515 = .ok (.invokevirtual 76, 3) := by decide +kernel
theorem dL_law_518 : decode cL_law 518 = .ok (.if_icmp .eq 237, 3) := by decide +kernel
theorem dL_law_521 : decode cL_law 521 = .ok (.iconst 0, 1) := by decide +kernel
theorem dL_law_522 : decode cL_law 522 = .ok (.ireturn, 1) := by decide +kernel
theorem dL_law_523 : decode cL_law 523 = .ok (.aload_n 1, 1) := by decide +kernel
theorem dL_law_524 : decode cL_law 524 = .ok (.aload_n 0, 1) := by decide +kernel
theorem dL_law_525 : decode cL_law 525 = .ok (.iload_n 3, 1) := by decide +kernel
theorem dL_law_526 : decode cL_law 526 = .ok (.iconst 1, 1) := by decide +kernel
theorem dL_law_527 : decode cL_law 527 = .ok (.iadd, 1) := by decide +kernel
theorem dL_law_528 : decode cL_law 528 = .ok (.iaload, 1) := by decide +kernel
theorem dL_law_529 : decode cL_law 529 = .ok (.aload_n 0, 1) := by decide +kernel
theorem dL_law_530 : decode cL_law 530 = .ok (.iload_n 3, 1) := by decide +kernel
theorem dL_law_531 : decode cL_law 531 = .ok (.iconst 2, 1) := by decide +kernel
theorem dL_law_532 : decode cL_law 532 = .ok (.iadd, 1) := by decide +kernel
theorem dL_law_533 : decode cL_law 533 = .ok (.iaload, 1) := by decide +kernel
theorem dL_law_534 : decode cL_law 534 = .ok (.invokevirtual 77, 3) := by decide +kernel
theorem dL_law_537 : decode cL_law 537 = .ok (.aload_n 2, 1) := by decide +kernel
theorem dL_law_538 : decode cL_law 538 = .ok (.aload_n 0, 1) := by decide +kernel
theorem dL_law_539 : decode cL_law 539 = .ok (.iload_n 3, 1) := by decide +kernel
theorem dL_law_540 : decode cL_law 540 = .ok (.iconst 1, 1) := by decide +kernel
theorem dL_law_541 : decode cL_law 541 = .ok (.iadd, 1) := by decide +kernel
theorem dL_law_542 : decode cL_law 542 = .ok (.iaload, 1) := by decide +kernel
theorem dL_law_543 : decode cL_law 543 = .ok (.aload_n 0, 1) := by decide +kernel
theorem dL_law_544 : decode cL_law 544 = .ok (.iload_n 3, 1) := by decide +kernel
theorem dL_law_545 : decode cL_law 545 = .ok (.iconst 2, 1) := by decide +kernel
theorem dL_law_546 : decode cL_law 546 = .ok (.iadd, 1) := by decide +kernel
theorem dL_law_547 : decode cL_law 547 = .ok (.iaload, 1) := by decide +kernel
theorem dL_law_548 : decode cL_law 548 = .ok (.invokevirtual 81, 3) := by decide +kernel
theorem dL_law_551 : decode cL_law 551 = .ok (.lcmp, 1) := by decide +kernel
theorem dL_law_552 : decode cL_law 552 = .ok (.ifCond .eq 203, 3) := by decide +kernel
theorem dL_law_555 : decode cL_law 555 = .ok (.iconst 0, 1) := by decide +kernel
theorem dL_law_556 : decode cL_law 556 = .ok (.ireturn, 1) := by decide +kernel
theorem dL_law_557 : decode cL_law 557 = .ok (.aload_n 1, 1) := by decide +kernel
theorem dL_law_558 : decode cL_law 558 = .ok (.aload_n 0, 1) := by decide +kernel
theorem dL_law_559 : decode cL_law 559 = .ok (.iload_n 3, 1) := by decide +kernel
theorem dL_law_560 : decode cL_law 560 = .ok (.iconst 1, 1) := by decide +kernel
theorem dL_law_561 : decode cL_law 561 = .ok (.iadd, 1) := by decide +kernel
theorem dL_law_562 : decode cL_law 562 = .ok (.iaload, 1) := by decide +kernel
theorem dL_law_563 : decode cL_law 563 = .ok (.aload_n 0, 1) := by decide +kernel
theorem dL_law_564 : decode cL_law 564 = .ok (.iload_n 3, 1) := by decide +kernel
theorem dL_law_565 : decode cL_law 565 = .ok (.iconst 2, 1) := by decide +kernel
theorem dL_law_566 : decode cL_law 566 = .ok (.iadd, 1) := by decide +kernel
theorem dL_law_567 : decode cL_law 567 = .ok (.iaload, 1) := by decide +kernel
theorem dL_law_568 : decode cL_law 568 = .ok (.invokevirtual 82, 3) := by decide +kernel
theorem dL_law_571 : decode cL_law 571 = .ok (.aload_n 2, 1) := by decide +kernel
theorem dL_law_572 : decode cL_law 572 = .ok (.aload_n 0, 1) := by decide +kernel
theorem dL_law_573 : decode cL_law 573 = .ok (.iload_n 3, 1) := by decide +kernel
theorem dL_law_574 : decode cL_law 574 = .ok (.iconst 1, 1) := by decide +kernel
theorem dL_law_575 : decode cL_law 575 = .ok (.iadd, 1) := by decide +kernel
theorem dL_law_576 : decode cL_law 576 = .ok (.iaload, 1) := by decide +kernel
theorem dL_law_577 : decode cL_law 577 = .ok (.aload_n 0, 1) := by decide +kernel
theorem dL_law_578 : decode cL_law 578 = .ok (.iload_n 3, 1) := by decide +kernel
theorem dL_law_579 : decode cL_law 579 = .ok (.iconst 2, 1) := by decide +kernel
theorem dL_law_580 : decode cL_law 580 = .ok (.iadd, 1) := by decide +kernel
theorem dL_law_581 : decode cL_law 581 = .ok (.iaload, 1) := by decide +kernel
theorem dL_law_582 : decode cL_law 582 = .ok (.invokevirtual 85, 3) := by decide +kernel
theorem dL_law_585 : decode cL_law 585 = .ok (.lcmp, 1) := by decide +kernel
theorem dL_law_586 : decode cL_law 586 = .ok (.ifCond .eq 169, 3) := by decide +kernel
theorem dL_law_589 : decode cL_law 589 = .ok (.iconst 0, 1) := by decide +kernel
theorem dL_law_590 : decode cL_law 590 = .ok (.ireturn, 1) := by decide +kernel
theorem dL_law_591 : decode cL_law 591 = .ok (.aload_n 1, 1) := by decide +kernel
theorem dL_law_592 : decode cL_law 592 = .ok (.aload_n 0, 1) := by decide +kernel
theorem dL_law_593 : decode cL_law 593 = .ok (.iload_n 3, 1) := by decide +kernel
theorem dL_law_594 : decode cL_law 594 = .ok (.iconst 1, 1) := by decide +kernel
theorem dL_law_595 : decode cL_law 595 = .ok (.iadd, 1) := by decide +kernel
theorem dL_law_596 : decode cL_law 596 = .ok (.iaload, 1) := by decide +kernel
theorem dL_law_597 : decode cL_law 597 = .ok (.invokevirtual 86, 3) := by decide +kernel
theorem dL_law_600 : decode cL_law 600 = .ok (.aload_n 2, 1) := by decide +kernel
theorem dL_law_601 : decode cL_law 601 = .ok (.aload_n 0, 1) := by decide +kernel
theorem dL_law_602 : decode cL_law 602 = .ok (.iload_n 3, 1) := by decide +kernel
theorem dL_law_603 : decode cL_law 603 = .ok (.iconst 1, 1) := by decide +kernel
theorem dL_law_604 : decode cL_law 604 = .ok (.iadd, 1) := by decide +kernel
theorem dL_law_605 : decode cL_law 605 = .ok (.iaload, 1) := by decide +kernel
theorem dL_law_606 : decode cL_law 606 = .ok (.invokevirtual 89, 3) := by decide +kernel
theorem dL_law_609 : decode cL_law 609 = .ok (.if_icmp .eq 146, 3) := by decide +kernel
theorem dL_law_612 : decode cL_law 612 = .ok (.iconst 0, 1) := by decide +kernel
theorem dL_law_613 : decode cL_law 613 = .ok (.ireturn, 1) := by decide +kernel
theorem dL_law_614 : decode cL_law 614 = .ok (.aload_n 1, 1) := by decide +kernel
theorem dL_law_615 : decode cL_law 615 = .ok (.aload_n 0, 1) := by decide +kernel
theorem dL_law_616 : decode cL_law 616 = .ok (.iload_n 3, 1) := by decide +kernel
theorem dL_law_617 : decode cL_law 617 = .ok (.iconst 1, 1) := by decide +kernel
theorem dL_law_618 : decode cL_law 618 = .ok (.iadd, 1) := by decide +kernel
theorem dL_law_619 : decode cL_law 619 = .ok (.iaload, 1) := by decide +kernel
theorem dL_law_620 : decode cL_law 620 = .ok (.invokevirtual 90, 3) := by decide +kernel
theorem dL_law_623 : decode cL_law 623 = .ok (.aload_n 2, 1) := by decide +kernel
theorem dL_law_624 : decode cL_law 624 = .ok (.aload_n 0, 1) := by decide +kernel
theorem dL_law_625 : decode cL_law 625 = .ok (.iload_n 3, 1) := by decide +kernel
theorem dL_law_626 : decode cL_law 626 = .ok (.iconst 1, 1) := by decide +kernel
theorem dL_law_627 : decode cL_law 627 = .ok (.iadd, 1) := by decide +kernel
theorem dL_law_628 : decode cL_law 628 = .ok (.iaload, 1) := by decide +kernel
theorem dL_law_629 : decode cL_law 629 = .ok (.invokevirtual 93, 3) := by decide +kernel
theorem dL_law_632 : decode cL_law 632 = .ok (.if_icmp .eq 123, 3) := by decide +kernel
theorem dL_law_635 : decode cL_law 635 = .ok (.iconst 0, 1) := by decide +kernel
theorem dL_law_636 : decode cL_law 636 = .ok (.ireturn, 1) := by decide +kernel
theorem dL_law_637 : decode cL_law 637 = .ok (.aload_n 1, 1) := by decide +kernel
theorem dL_law_638 : decode cL_law 638 = .ok (.invokevirtual 94, 3) := by decide +kernel
theorem dL_law_641 : decode cL_law 641 = .ok (.aload_n 2, 1) := by decide +kernel
theorem dL_law_642 : decode cL_law 642 = .ok (.invokevirtual 97, 3) := by decide +kernel
theorem dL_law_645 : decode cL_law 645 = .ok (.if_icmp .eq 110, 3) := by decide +kernel
theorem dL_law_648 : decode cL_law 648 = .ok (.iconst 0, 1) := by decide +kernel
theorem dL_law_649 : decode cL_law 649 = .ok (.ireturn, 1) := by decide +kernel
theorem dL_law_650 : decode cL_law 650 = .ok (.aload_n 1, 1) := by decide +kernel
theorem dL_law_651 : decode cL_law 651 = .ok (.invokevirtual 98, 3) := by decide +kernel
theorem dL_law_654 : decode cL_law 654 = .ok (.aload_n 2, 1) := by decide +kernel
theorem dL_law_655 : decode cL_law 655 = .ok (.invokevirtual 101, 3) := by decide +kernel
theorem dL_law_658 : decode cL_law 658 = .ok (.if_icmp .eq 97, 3) := by decide +kernel
theorem dL_law_661 : decode cL_law 661 = .ok (.iconst 0, 1) := by decide +kernel
theorem dL_law_662 : decode cL_law 662 = .ok (.ireturn, 1) := by decide +kernel
theorem dL_law_663 : decode cL_law 663 = .ok (.aload_n 1, 1) := by decide +kernel
theorem dL_law_664 : decode cL_law 664 = .ok (.aload_n 0, 1) := by decide +kernel
theorem dL_law_665 : decode cL_law 665 = .ok (.iload_n 3, 1) := by decide +kernel
theorem dL_law_666 : decode cL_law 666 = .ok (.iconst 1, 1) := by decide +kernel
theorem dL_law_667 : decode cL_law 667 = .ok (.iadd, 1) := by decide +kernel
theorem dL_law_668 : decode cL_law 668 = .ok (.iaload, 1) := by decide +kernel
theorem dL_law_669 : decode cL_law 669 = .ok (.aload_n 0, 1) := by decide +kernel
theorem dL_law_670 : decode cL_law 670 = .ok (.iload_n 3, 1) := by decide +kernel
theorem dL_law_671 : decode cL_law 671 = .ok (.iconst 2, 1) := by decide +kernel
theorem dL_law_672 : decode cL_law 672 = .ok (.iadd, 1) := by decide +kernel
theorem dL_law_673 : decode cL_law 673 = .ok (.iaload, 1) := by decide +kernel
theorem dL_law_674 : decode cL_law 674 = .ok (.aload_n 0, 1) := by decide +kernel
theorem dL_law_675 : decode cL_law 675 = .ok (.iload_n 3, 1) := by decide +kernel
theorem dL_law_676 : decode cL_law 676 = .ok (.iconst 3, 1) := by decide +kernel
theorem dL_law_677 : decode cL_law 677 = .ok (.iadd, 1) := by decide +kernel
theorem dL_law_678 : decode cL_law 678 = .ok (.iaload, 1) := by decide +kernel
theorem dL_law_679 : decode cL_law 679 = .ok (.invokevirtual 102, 3) := by decide +kernel
theorem dL_law_682 : decode cL_law 682 = .ok (.aload_n 2, 1) := by decide +kernel
theorem dL_law_683 : decode cL_law 683 = .ok (.aload_n 0, 1) := by decide +kernel
theorem dL_law_684 : decode cL_law 684 = .ok (.iload_n 3, 1) := by decide +kernel
theorem dL_law_685 : decode cL_law 685 = .ok (.iconst 1, 1) := by decide +kernel
theorem dL_law_686 : decode cL_law 686 = .ok (.iadd, 1) := by decide +kernel
theorem dL_law_687 : decode cL_law 687 = .ok (.iaload, 1) := by decide +kernel
theorem dL_law_688 : decode cL_law 688 = .ok (.aload_n 0, 1) := by decide +kernel
theorem dL_law_689 : decode cL_law 689 = .ok (.iload_n 3, 1) := by decide +kernel
theorem dL_law_690 : decode cL_law 690 = .ok (.iconst 2, 1) := by decide +kernel
theorem dL_law_691 : decode cL_law 691 = .ok (.iadd, 1) := by decide +kernel
theorem dL_law_692 : decode cL_law 692 = .ok (.iaload, 1) := by decide +kernel
theorem dL_law_693 : decode cL_law 693 = .ok (.aload_n 0, 1) := by decide +kernel
theorem dL_law_694 : decode cL_law 694 = .ok (.iload_n 3, 1) := by decide +kernel
theorem dL_law_695 : decode cL_law 695 = .ok (.iconst 3, 1) := by decide +kernel
theorem dL_law_696 : decode cL_law 696 = .ok (.iadd, 1) := by decide +kernel
theorem dL_law_697 : decode cL_law 697 = .ok (.iaload, 1) := by decide +kernel
theorem dL_law_698 : decode cL_law 698 = .ok (.invokevirtual 105, 3) := by decide +kernel
theorem dL_law_701 : decode cL_law 701 = .ok (.if_icmp .eq 54, 3) := by decide +kernel
theorem dL_law_704 : decode cL_law 704 = .ok (.iconst 0, 1) := by decide +kernel
theorem dL_law_705 : decode cL_law 705 = .ok (.ireturn, 1) := by decide +kernel
theorem dL_law_706 : decode cL_law 706 = .ok (.aload_n 1, 1) := by decide +kernel
theorem dL_law_707 : decode cL_law 707 = .ok (.invokevirtual 106, 3) := by decide +kernel
theorem dL_law_710 : decode cL_law 710 = .ok (.aload_n 2, 1) := by decide +kernel
theorem dL_law_711 : decode cL_law 711 = .ok (.invokevirtual 109, 3) := by decide +kernel
theorem dL_law_714 : decode cL_law 714 = .ok (.if_icmp .eq 41, 3) := by decide +kernel
theorem dL_law_717 : decode cL_law 717 = .ok (.iconst 0, 1) := by decide +kernel
theorem dL_law_718 : decode cL_law 718 = .ok (.ireturn, 1) := by decide +kernel
theorem dL_law_719 : decode cL_law 719 = .ok (.aload_n 1, 1) := by decide +kernel
theorem dL_law_720 : decode cL_law 720 = .ok (.invokevirtual 110, 3) := by decide +kernel
theorem dL_law_723 : decode cL_law 723 = .ok (.aload_n 2, 1) := by decide +kernel
theorem dL_law_724 : decode cL_law 724 = .ok (.invokevirtual 113, 3) := by decide +kernel
theorem dL_law_727 : decode cL_law 727 = .ok (.if_icmp .eq 28, 3) := by decide +kernel
theorem dL_law_730 : decode cL_law 730 = .ok (.iconst 0, 1) := by decide +kernel
theorem dL_law_731 : decode cL_law 731 = .ok (.ireturn, 1) := by decide +kernel
theorem dL_law_732 : decode cL_law 732 = .ok (.aload_n 1, 1) := by decide +kernel
theorem dL_law_733 : decode cL_law 733 = .ok (.aload_n 0, 1) := by decide +kernel
theorem dL_law_734 : decode cL_law 734 = .ok (.iload_n 3, 1) := by decide +kernel
theorem dL_law_735 : decode cL_law 735 = .ok (.iconst 1, 1) := by decide +kernel
theorem dL_law_736 : decode cL_law 736 = .ok (.iadd, 1) := by decide +kernel
theorem dL_law_737 : decode cL_law 737 = .ok (.iaload, 1) := by decide +kernel
theorem dL_law_738 : decode cL_law 738 = .ok (.invokevirtual 114, 3) := by decide +kernel
theorem dL_law_741 : decode cL_law 741 = .ok (.aload_n 2, 1) := by decide +kernel
theorem dL_law_742 : decode cL_law 742 = .ok (.aload_n 0, 1) := by decide +kernel
theorem dL_law_743 : decode cL_law 743 = .ok (.iload_n 3, 1) := by decide +kernel
theorem dL_law_744 : decode cL_law 744 = .ok (.iconst 1, 1) := by decide +kernel
theorem dL_law_745 : decode cL_law 745 = .ok (.iadd, 1) := by decide +kernel
theorem dL_law_746 : decode cL_law 746 = .ok (.iaload, 1) := by decide +kernel
theorem dL_law_747 : decode cL_law 747 = .ok (.invokevirtual 117, 3) := by decide +kernel
theorem dL_law_750 : decode cL_law 750 = .ok (.if_icmp .eq 5, 3) := by decide +kernel
theorem dL_law_753 : decode cL_law 753 = .ok (.iconst 0, 1) := by decide +kernel
theorem dL_law_754 : decode cL_law 754 = .ok (.ireturn, 1) := by decide +kernel
theorem dL_law_755 : decode cL_law 755 = .ok (.iinc 3 4, 3) := by decide +kernel
theorem dL_law_758 : decode cL_law 758 = .ok (.goto (-740), 3) := by decide +kernel
theorem dL_law_761 : decode cL_law 761 = .ok (.iconst 1, 1) := by decide +kernel
theorem dL_law_762 : decode cL_law 762 = .ok (.ireturn, 1) := by decide +kernel
end
section
/-! the pool: 102 cells, 0..64 the class, 65..101 the reference; a state gives the int at (cell, place) -/
abbrev St : Type := Nat → Nat → Int32
def z_kdL : List Nat := [9, 6, 5, 11, 11, 11, 11, 11, 11, 11, 0, 11, 11, 11, 2, 6, 5, 11, 11, 11, 11, 11, 11, 11, 0, 11, 11, 11, 2, 4, 11, 0, 11, 11, 11, 2, 1, 11, 11, 11, 7, 11, 11, 11, 8, 11, 11, 11, 11, 5, 11, 11, 11, 11, 11, 11, 3, 11, 11, 11, 11, 11, 11, 11, 11, 10, 11, 11, 11, 11, 11, 11, 11, 11, 11, 11, 11, 11, 11, 11, 11, 11, 11, 11, 11, 11, 11, 11, 11, 11, 11, 11, 11, 11, 11, 11, 11, 11, 11, 11, 11, 11]
def z_lnL : List Nat := [0, 0, 0, 40, 40, 40, 40, 40, 40, 6, 0, 10, 10, 10, 0, 0, 0, 40, 40, 40, 40, 40, 40, 6, 0, 10, 10, 10, 0, 0, 6, 0, 10, 10, 10, 0, 0, 400, 400, 400, 0, 400, 400, 400, 0, 400, 400, 400, 400, 0, 40, 40, 40, 40, 40, 40, 0, 96, 96, 96, 193, 193, 16, 7, 32, 0, 7, 41, 41, 41, 41, 41, 96, 96, 96, 96, 300, 100, 6, 10, 10, 10, 460, 2000, 2000, 2000, 2000, 1000, 1000, 1000, 1000, 1000, 1000, 800, 800, 800, 800, 800, 6, 36, 16, 800]
def z_rfL : List (List Nat) := [[1, 15, 29, 56, 62, 63, 64, 0, 0], [2, 9, 10, 14, 0, 0], [3, 4, 5, 6, 7, 8, 0, 0], [], [], [], [], [], [], [], [11, 12, 13], [], [], [], [0, 0, 0, 0, 0, 0, 0], [16, 23, 24, 28, 0, 0], [17, 18, 19, 20, 21, 22, 0, 0], [], [], [], [], [], [], [], [25, 26, 27], [], [], [], [0, 0, 0, 0, 0, 0, 0], [30, 31, 35, 36, 40, 44, 49, 0, 0, 0, 0, 0, 0], [], [32, 33, 34], [], [], [], [0, 0, 0, 0, 0, 0, 0], [37, 38, 39, 0], [], [], [], [41, 42, 43, 0], [], [], [], [45, 46, 47, 48, 0], [], [], [], [], [50, 51, 52, 53, 54, 55, 0, 0], [], [], [], [], [], [], [57, 58, 59, 60, 61, 0, 0, 0], [], [], [], [], [], [], [], [], [66, 67, 68, 69, 70, 71, 0, 0, 0, 72, 73, 74, 75, 76, 77, 0, 0, 0, 0, 0, 0, 0, 0, 0, 78, 79, 80, 81, 82, 0, 0, 0, 0, 0, 0, 0, 83, 84, 85, 86, 87, 88, 89, 90, 91, 92, 0, 0, 0, 0, 93, 94, 95, 96, 97, 0, 0, 0, 0, 0, 0, 0, 0, 0, 0, 0, 98, 99, 100, 0, 0, 101, 0, 0, 0], [], [], [], [], [], [], [], [], [], [], [], [], [], [], [], [], [], [], [], [], [], [], [], [], [], [], [], [], [], [], [], [], [], [], [], []]
def z_irL : List (List Bool) := [[true, true, true], [true, true, true, false], [false, false, false, false, false, false, false], [true, true, true, true, true, false, false, false], [true, true, true, true, true, true, true, false, false, false, false, false, false], [true, true, true, true, true, true, false, false], [true, true, true, true, false, false], [true, true, true, false], [true, true, true, true, false], [true, true, true, true, true, true, true, false, false], [true, true, true, true, true, true, false, false, false, true, true, true, true, true, true, false, false, false, false, false, false, false, false, false, true, true, true, true, true, false, false, false, false, false, false, false, true, true, true, true, true, true, true, true, true, true, false, false, false, false, true, true, true, true, true, false, false, false, false, false, false, false, false, false, false, false, true, true, true, false, false, true, false, false, false]]
def z_nfL : List Nat := [3, 4, 7, 8, 13, 8, 6, 4, 5, 9, 75]
def z_kd (o : Nat) : Nat := z_kdL.getD o 99
def z_ln (o : Nat) : Nat := z_lnL.getD o 0
def z_nf (c : Nat) : Nat := z_nfL.getD c 0
def z_isR (c k : Nat) : Bool := (z_irL.getD c []).getD k false
def z_rfS (o k : Nat) : Nat := (z_rfL.getD o []).getD k 0
/-- where a reference field points: fixed, but for the machine's program (0: its own, else the situation's) -/
def z_rf (S : St) (o k : Nat) : Nat := if o = 29 then (if k = 6 then (if S 29 6 = 0 then 49 else 2) else z_rfS o k) else z_rfS o k
def z_wr (S : St) (o k : Nat) (v : Int32) : St := fun a b => if a = o then (if b = k then v else S a b) else S a b
def z_cb (X M : St) : St := fun o => if o < 65 then X o else M o
def z_fv (q : Nat → Nat) (S : St) (o k : Nat) : Value := if z_isR (z_kd o) k = true then .ref (q (z_rf S o k)) else .int (S o k)
def z_en (q : Nat → Nat) (cy : ClassId) (S : St) (o : Nat) : va_E := if z_kd o = 11 then .inl (cy, z_ln o, .inl (S o)) else .inr (z_kd o, (List.range (z_nf (z_kd o))).map (z_fv q S o))
def z_ce (q : Nat → Nat) (cy : ClassId) (S : St) (o : Nat) : Nat × va_E := (q o, z_en q cy S o)
def z_wd (q : Nat → Nat) (cy : ClassId) (S : St) : va_W := (List.range 102).map (z_ce q cy S)
def z_inj (q : Nat → Nat) : Prop := ∀ i j, i < 102 → j < 102 → q i = q j → i = j
def z_Aq (q : Nat → Nat) : Nat → Prop := fun a => ∃ k, k < 102 ∧ q k = a
theorem z_wr_s {S : St} {o k : Nat} {v : Int32} : z_wr S o k v o k = v := by simp [z_wr]
theorem z_wr_k {S : St} {o k b : Nat} {v : Int32} (h : b ≠ k) : z_wr S o k v o b = S o b := by simp [z_wr, h]
theorem z_wr_o {S : St} {o k a : Nat} {v : Int32} (h : a ≠ o) : z_wr S o k v a = S a := by funext b; simp [z_wr, h]
theorem z_cbX {X M : St} {o : Nat} (h : o < 65) : z_cb X M o = X o := if_pos h
theorem z_cbM {X M : St} {o : Nat} (h : 65 ≤ o) : z_cb X M o = M o := if_neg (by omega)
theorem z_cbwX {X M : St} {o k : Nat} {v : Int32} (h : o < 65) : z_wr (z_cb X M) o k v = z_cb (z_wr X o k v) M := by
  funext a b
  by_cases ha : a = o
  · subst ha; simp [z_wr, z_cb, h]
  · rw [z_wr_o ha]; unfold z_cb; rw [z_wr_o ha]
theorem z_cbwM {X M : St} {o k : Nat} {v : Int32} (h : 65 ≤ o) : z_wr (z_cb X M) o k v = z_cb X (z_wr M o k v) := by
  have h2 : ¬ o < 65 := by omega
  funext a b
  by_cases ha : a = o
  · subst ha; simp [z_wr, z_cb, h2]
  · rw [z_wr_o ha]; unfold z_cb; rw [z_wr_o ha]
theorem z_get {q : Nat → Nat} {cy : ClassId} {S : St} {o : Nat} (h : o < 102) : (z_wd q cy S)[o]? = some (q o, z_en q cy S o) := by
  simp [z_wd, z_ce, List.getElem?_map, List.getElem?_range h]
theorem z_len {q : Nat → Nat} {cy : ClassId} {S : St} : (z_wd q cy S).length = 102 := by simp [z_wd]
theorem z_none {q : Nat → Nat} {cy : ClassId} {S : St} {o : Nat} (h : ¬ o < 102) : (z_wd q cy S)[o]? = none := by
  apply List.getElem?_eq_none
  rw [z_len]; omega
theorem z_set {q : Nat → Nat} {cy : ClassId} {S S' : St} {o : Nat} {x : va_E} (ho : o < 102) (hx : x = z_en q cy S' o) (hn : ∀ a, a ≠ o → z_en q cy S' a = z_en q cy S a) : (z_wd q cy S).set o (q o, x) = z_wd q cy S' := by
  subst hx
  apply List.ext_getElem?
  intro i
  by_cases hi : i < 102
  · rw [z_get hi, List.getElem?_set]
    by_cases h : o = i
    · subst h
      rw [if_pos rfl, z_len, if_pos ho]
    · rw [if_neg h, z_get hi, hn i (fun e => h e.symm)]
  · rw [z_none hi, List.getElem?_set, z_none hi, z_len]
    rw [if_neg (by omega)]
theorem z_en_o {q : Nat → Nat} {cy : ClassId} {S : St} {o k a : Nat} {v : Int32} (h : a ≠ o) : z_en q cy (z_wr S o k v) a = z_en q cy S a := by
  have hf : ∀ j, z_fv q (z_wr S o k v) a j = z_fv q S a j := by
    intro j
    unfold z_fv z_rf
    by_cases ha : a = 29
    · subst ha; rw [z_wr_o h]
    · rw [if_neg ha, if_neg ha, z_wr_o h]
  unfold z_en
  rw [z_wr_o h, funext hf]
theorem z_D {q : Nat → Nat} {cy : ClassId} {S : St} (h : z_inj q) : va_D (z_Aq q) (z_wd q cy S) := by
  refine ⟨fun i j x y hi hj e => ?_, fun k x hk => ?_⟩
  · by_cases h1 : i < 102
    · by_cases h2 : j < 102
      · rw [z_get h1] at hi
        rw [z_get h2] at hj
        cases hi; cases hj
        exact h i j h1 h2 e
      · rw [z_none h2] at hj; cases hj
    · rw [z_none h1] at hi; cases hi
  · by_cases h1 : k < 102
    · rw [z_get h1] at hk
      cases hk
      exact ⟨k, h1, rfl⟩
    · rw [z_none h1] at hk; cases hk
theorem z_kd_lt {o : Nat} (h : z_kd o < 99) : o < 102 := by
  by_cases h2 : o < 102
  · exact h2
  · have e : z_kd o = 99 := by
      have hl : z_kdL.length = 102 := by decide +kernel
      have e : z_kdL[o]? = none := List.getElem?_eq_none (by omega)
      unfold z_kd
      simp [List.getD, e]
    omega
theorem z_dec {P : Nat → Prop} {c : Nat} (d : ∀ o, o < 102 → z_kd o = c → P o) (hc : c < 99) {o : Nat} (h : z_kd o = c) : P o := d o (z_kd_lt (by omega)) h
theorem z_x65 {o : Nat} (h : z_kd o < 10) : o < 65 := by
  have d : ∀ o, o < 102 → z_kd o < 10 → o < 65 := by decide +kernel
  exact d o (z_kd_lt (by omega)) h
theorem z_rf_S {S : St} {o k : Nat} (h : z_kd o ≠ 4) : z_rf S o k = z_rfS o k := by
  unfold z_rf
  rw [if_neg]
  intro e; subst e; exact h (by decide)
/-- an object's row of fields -/
theorem z_en_r {q : Nat → Nat} {cy : ClassId} {S : St} {o c : Nat} (h : z_kd o = c) (hc : c < 11) : z_en q cy S o = .inr (c, (List.range (z_nf c)).map (z_fv q S o)) := by
  unfold z_en
  rw [if_neg (by omega), h]
theorem z_en_l {q : Nat → Nat} {cy : ClassId} {S : St} {o : Nat} (h : z_kd o = 11) : z_en q cy S o = .inl (cy, z_ln o, .inl (S o)) := by
  unfold z_en
  rw [if_pos h]
theorem z_fld {q : Nat → Nat} {S : St} {o N k : Nat} (h : k < N) : ((List.range N).map (z_fv q S o))[k]? = some (z_fv q S o k) := by
  simp [List.getElem?_map, List.getElem?_range h]
theorem z_fset {q : Nat → Nat} {S S' : St} {o N k : Nat} {x : Value} (h : k < N) (hx : x = z_fv q S' o k) (hn : ∀ j, j ≠ k → z_fv q S' o j = z_fv q S o j) : ((List.range N).map (z_fv q S o)).set k x = (List.range N).map (z_fv q S' o) := by
  subst hx
  apply List.ext_getElem?
  intro i
  rw [List.getElem?_set]
  by_cases hi : i < N
  · rw [z_fld hi]
    by_cases e : k = i
    · subst e; simp [h]
    · rw [if_neg e, z_fld hi, hn i (fun z => e z.symm)]
  · have h1 : ((List.range N).map (z_fv q S o))[i]? = none := by apply List.getElem?_eq_none; simp; omega
    have h2 : ((List.range N).map (z_fv q S' o))[i]? = none := by apply List.getElem?_eq_none; simp; omega
    rw [h1, h2, if_neg (by omega)]
/-! the context: tables' numbers, addresses, the class of int arrays, the texts -/
abbrev Cx : Type := va_G × (Nat → Nat) × ClassId × (Nat → Nat) × (Nat → Nat)
abbrev gq (G : Cx) : Nat → Nat := G.2.1
abbrev gy (G : Cx) : ClassId := G.2.2.1
end
section
/-! what a method may take as given beside the pool; contracts; rows over the pool -/
def z_lens : List Nat := [2, 3, 3, 2, 1, 3, 0]
def z_byts : List (List Int32) := [[49, 50], [49, 50, 51], [118, 49, 50], [118, 49], [49], [49, 118, 50], []]
def z_six : List Nat := [97, 99, 101, 103, 105, 107, 109]
def z_stx : List String := ["12", "123", "v12", "v1", "1", "1v2", ""]
def z_sW (G : Cx) (U : State) (H : Heap) : Prop := vk_S 7 z_lens z_byts G.2.2.2.1 G.2.2.2.2 (z_Aq (gq G)) U H ∧ va_Z "java/lang/String" "COMPACT_STRINGS" "Z" (.int 1) (z_Aq (gq G)) U H ∧ va_Zq "jdk/internal/util/Preconditions" "SIOOBE_FORMATTER" "Ljava/util/function/BiFunction;" (z_Aq (gq G)) U H
def z_kW (G : Cx) (U : State) : Prop := va_K G.1 vwC [(gy G, .int)] U ∧ (∀ w ∈ lw_nest, va_Nw w U) ∧ z_sW G U U.heap ∧ ∀ i, i < 7 → vk_R RX3 (z_six.getD i 0) (z_stx.getD i "") (G.2.2.2.1 i) U
def z_isN : Cond → Bool
  | .methodLinkNest _ _ _ _ => true
  | _ => false
theorem z_nestw {w : Cond} (h : w ∈ lw_nest) : ∃ a i x b, w = .methodLinkNest a i x b := by
  have h1 := List.all_eq_true.mp (by decide +kernel : lw_nest.all z_isN = true) w h
  cases w <;> first | exact ⟨_, _, _, _, rfl⟩ | cases h1
theorem z_sW.step {G : Cx} {u U : State} {H H1 : Heap} (h : z_sW G u H) (hv : u.vm.Alike U.vm) (hq : ∀ a : Nat, a < H.size → ¬ z_Aq (gq G) a → H1[a]? = H[a]?) : z_sW G U H1 := by
  refine ⟨(vk_S.moved hv h.1).kept hq, (va_Z.moved hv h.2.1).kept hq, ?_⟩
  rcases h.2.2 with h3 | ⟨t, h3⟩
  · exact Or.inl ((va_Z.moved hv h3).kept hq)
  · exact Or.inr ⟨t, (va_Z.moved hv h3).kept hq⟩
/-- behind a step of a method whose start was u -/
theorem z_kW.warm {G : Cx} {u U : State} {locs : List Loc} (h : z_kW G u) (hW : u.WarmedH U.vm) (hS : va_S (z_Aq (gq G)) u.heap U.heap locs) : z_kW G U := by
  refine ⟨va_K.moved hW.alike h.1, fun w hw => ?_, h.2.2.1.step hW.alike hS.2.1, fun i hi => (h.2.2.2 i hi).warm hW⟩
  obtain ⟨a, i, x, b, rfl⟩ := z_nestw hw
  exact (h.2.1 _ hw).warmM hW
theorem z_kW.blind {G : Cx} {U : State} (g : JFrame) (mk : MethodId) (a : Array Value) (h : z_kW G U) : z_kW G (U.calling g mk a) := by
  refine ⟨va_K.moved (u := U) (U := U.calling g mk a) (Vm.Alike.refl U.vm) h.1, fun w hw => ?_, h.2.2.1.step (U := U.calling g mk a) (Vm.Alike.refl U.vm) (fun _ _ _ => rfl), fun i hi => vk_R.same (u := U) rfl (h.2.2.2 i hi)⟩
  obtain ⟨x1, x2, x3, x4, rfl⟩ := z_nestw hw
  exact va_Nw.same rfl (u := U) rfl (h.2.1 _ hw)
abbrev z_P (G : Cx) (X M : St) (H : Heap) : Prop := va_P G.1 vwC (z_wd (gq G) (gy G) (z_cb X M)) H
abbrev z_S (G : Cx) (H0 H : Heap) (locs : List Loc) : Prop := va_S (z_Aq (gq G)) H0 H locs
def z_pre (G : Cx) (X M : St) : State → Prop := fun U => z_P G X M U.heap ∧ z_kW G U
theorem z_blind {G : Cx} {X M : St} {as : List Value} : FrameBlind (va_Pc as (z_pre G X M)) := fun a U g mk h => ⟨h.1, h.2.1, h.2.2.blind g mk a⟩
abbrev z_rm (f t : Nat) : Room := { frames := f, cells := 0, slots := 0, locals := t }
abbrev z_QI (G : Cx) (X M : St) (r : Int32) : Array Value → State → Outcome → State → Prop := va_Qi (fun x (_ : Unit) => x = r) (fun _ t => z_P G X M t.heap) (z_Aq (gq G))
abbrev z_QL (G : Cx) (X M : St) (r : Int64) : Array Value → State → Outcome → State → Prop := va_Ql (fun x (_ : Unit) => x = r) (fun _ t => z_P G X M t.heap) (z_Aq (gq G))
abbrev z_QV (G : Cx) (X M : St) : Array Value → State → Outcome → State → Prop := va_Qv (fun (_ : Unit) => True) (fun _ t => z_P G X M t.heap) (z_Aq (gq G))
abbrev z_QR (G : Cx) (X M : St) (r : Nat) : Array Value → State → Outcome → State → Prop := va_Qr (fun (_ : Unit) => True) (fun _ a t => a = r ∧ z_P G X M t.heap) (z_Aq (gq G))
/-- a contract over the pool: from (X, M) with these arguments, Q -/
def z_Ct (l : Launch) (y : MethodName) (cc : ByteArray) (n : Nat) (rt : Option FieldType) (f t : Nat) (G : Cx) (X M : St) (as : List Value) (Q : Array Value → State → Outcome → State → Prop) : Prop :=
  Met l y (Cond.code y cc n rt :: lw_good) (z_rm f t) (va_Pc as (z_pre G X M)) Q 0 0 (z_Aq (gq G))
theorem z_start {l : Launch} {y : MethodName} {cc : ByteArray} {n : Nat} {rt : Option FieldType} {f t : Nat} {G : Cx} {X M : St} {as : List Value} {Q : Array Value → State → Outcome → State → Prop} (hy : plainName y.cls = true) (hn : (lg_sl as).length ≤ n)
    (body : ∀ (p : Program) (e : Env) (s : State) (m : MethodId) (below : List Frame) (meth : Method) (c : Code) (ls : Array Slot), CallFix p m c cc n s as.toArray lw_good y.cls → meth.sig.returnType = rt → meth.locks = false → z_kW G s → z_P G X M s.heap → z_S G s.heap s.heap [] → lv_has ls n (lv_args 0 as) →
      W p l e (z_rm f t) s m as.toArray below meth c s.heap [] 0 0 (MQ below Q as.toArray s 0 0 (z_Aq (gq G))) (F0 m 0 ls [])) : z_Ct l y cc n rt f t G X M as Q := by
  refine Met.ofW (cc := cc) (maxL := n) (ret := rt) hy rfl ?_
  intro p e s m args below meth c s₁ B hml hv
  obtain ⟨rfl, hP, hK⟩ := hv
  have hts := atoms_spec (ws := Cond.code y cc n rt :: lw_good) B.pre
  have hl := lv_entry as (n := n) hn
  rw [lg_entry_eq]
  exact body p e s m below meth c _ ⟨B.exec, B.bytes, hml, findClass_of_methodNamed B.named, fun w h => hts w (List.mem_cons_of_mem _ h)⟩ B.returns B.notSynchronized hK hP va_S.rf hl
theorem z_goodIn {y : MethodName} {bytes : ByteArray} {maxL : Nat} {rt : Option FieldType} (h : Cond.code y bytes maxL rt ∈ lw_good) : GoodIn lw_good (Cond.code y bytes maxL rt :: lw_good) := by
  intro w hw
  have hm : w ∈ lw_good := by
    rcases List.mem_cons.mp hw with e | e
    · rw [e]; exact h
    · exact e
  exact ⟨hm, good_of_word (List.mem_filter.mp hm).2⟩
/-- what the tables say of a callee -/
def z_cv (y : MethodName) (bytes : ByteArray) (maxL : Nat) (rt : Option FieldType) (C : String) (n : Nat) : Prop := (Cond.instanceMethod y ∈ lw_good ∧ Cond.selects C y y ∈ lw_good) ∧ Cond.code y bytes maxL rt ∈ lw_good ∧ Cond.initialized y.cls ∈ lw_good ∧ (y.cls ≠ "java/lang/invoke/MethodHandle" ∧ y.cls ≠ "java/lang/invoke/VarHandle" ∧ (parseMethodDescriptor y.desc).map (fun d => d.parameters.length) = some n)
def z_cs (y : MethodName) (bytes : ByteArray) (maxL : Nat) (rt : Option FieldType) (n : Nat) : Prop := Cond.static y ∈ lw_good ∧ Cond.code y bytes maxL rt ∈ lw_good ∧ Cond.initialized y.cls ∈ lw_good ∧ (y.cls ≠ "java/lang/invoke/MethodHandle" ∧ y.cls ≠ "java/lang/invoke/VarHandle" ∧ (parseMethodDescriptor y.desc).map (fun d => d.parameters.length) = some n)
section ZR
variable {p : Program} {l : Launch} {e : Env} {R : Room} {s : State} {m : MethodId} {args : Array Value} {below : List Frame} {meth : Method} {c : Code} {H : Heap} {locs : List Loc} {cells slots : Nat} {Q : State → Prop}
variable {cc : ByteArray} {nL pc : Nat} {ls : Array Slot} {rest : List Value} {G : Cx} {X M X' M' : St} {own : String} {H0 : Heap}
/-- a call's run, by its kind -/
theorem z_runV (E : CallFix p m c cc nL s args lw_good own) (hK : z_kW G s) (hP : z_P G X M H) (hS : z_S G s.heap H locs) {y : MethodName} {bytes : ByteArray} {maxL n f t index ci o : Nat} {rt : Option FieldType} {C : String} {T : u_T} {N : Nat} {As : List Value} {Qc : Array Value → State → Outcome → State → Prop}
    (hM : z_Ct l y bytes maxL rt f t G X M (.ref (gq G o) :: As) Qc) (hv : z_cv y bytes maxL rt C n) (hlink : Cond.methodLink own index y ∈ lw_good) (ho : z_kd o = ci) (hlt : ci < 11) (hc : vwC[ci]? = some (C, T, N)) (hn : As.length = n) (hR : f + 1 ≤ R.frames ∧ 8 + (maxL + 11) + t ≤ R.locals) (hf : cells + 0 ≤ R.cells ∧ slots + 0 ≤ R.slots) (hls : ls.size = nL) (hrest : (rest.map fun v => v.category).sum ≤ 8) {st0 : List Value} (hst : st0 = As.reverse ++ .ref (gq G o) :: rest) (hdg : decode cc pc = .ok (.invokevirtual index, 3)) :
    va_Run p l e R s m args below meth c H locs cells slots 0 0 (F0 m pc ls st0) rest (Qc (Value.ref (gq G o) :: As).toArray) (z_Aq (gq G)) := by
  obtain ⟨⟨hi, hse⟩, hco, hini, hd⟩ := hv
  have ht := E.2.2.2.2
  refine va_runV E hM ⟨callB_of n ht (z_goodIn hco) rfl rfl rfl (ht _ hini) (ht _ hlink) hd hR, ht _ hi, ht _ hse⟩ ⟨z_blind, va_recv hK.1 hP hc (q0 := o) (by rw [z_get (z_kd_lt (by omega)), z_en_r ho hlt]), fun U hU hW => ⟨rfl, by rw [hU]; exact hP, hK.warm (locs := locs) hW (by rw [hU]; exact hS)⟩⟩ rfl hn hls (by rw [← hst]) (lv_room hrest) hdg hf
theorem z_runS (E : CallFix p m c cc nL s args lw_good own) (hK : z_kW G s) (hP : z_P G X M H) (hS : z_S G s.heap H locs) {y : MethodName} {bytes : ByteArray} {maxL n f t index : Nat} {rt : Option FieldType} {As : List Value} {Qc : Array Value → State → Outcome → State → Prop}
    (hM : z_Ct l y bytes maxL rt f t G X M As Qc) (hv : z_cs y bytes maxL rt n) (hlink : Cond.methodLink own index y ∈ lw_good) (hn : As.length = n) (hR : f + 1 ≤ R.frames ∧ 8 + (maxL + 11) + t ≤ R.locals) (hf : cells + 0 ≤ R.cells ∧ slots + 0 ≤ R.slots) (hls : ls.size = nL) (hrest : (rest.map fun v => v.category).sum ≤ 8) {st0 : List Value} (hst : st0 = As.reverse ++ rest) (hdg : decode cc pc = .ok (.invokestatic index, 3)) :
    va_Run p l e R s m args below meth c H locs cells slots 0 0 (F0 m pc ls st0) rest (Qc As.toArray) (z_Aq (gq G)) := by
  obtain ⟨hi, hco, hini, hd⟩ := hv
  have ht := E.2.2.2.2
  refine va_runS E hM ⟨callB_of n ht (z_goodIn hco) rfl rfl rfl (ht _ hini) (ht _ hlink) hd hR, ht _ hi⟩ ⟨z_blind, fun U hU hW => ⟨rfl, by rw [hU]; exact hP, hK.warm (locs := locs) hW (by rw [hU]; exact hS)⟩⟩ rfl hn hls (by rw [← hst]) (lv_room hrest) hdg hf
theorem z_runSN (E : CallFix p m c cc nL s args lw_good own) (hK : z_kW G s) (hP : z_P G X M H) (hS : z_S G s.heap H locs) {y : MethodName} {bytes : ByteArray} {maxL n f t index : Nat} {rt : Option FieldType} {As : List Value} {Qc : Array Value → State → Outcome → State → Prop} {host : String}
    (hM : z_Ct l y bytes maxL rt f t G X M As Qc) (hv : z_cs y bytes maxL rt n) (hlink : Cond.methodLinkNest own index y host ∈ lw_nest) (hn : As.length = n) (hR : f + 1 ≤ R.frames ∧ 8 + (maxL + 11) + t ≤ R.locals) (hf : cells + 0 ≤ R.cells ∧ slots + 0 ≤ R.slots) (hls : ls.size = nL) (hrest : (rest.map fun v => v.category).sum ≤ 8) {st0 : List Value} (hst : st0 = As.reverse ++ rest) (hdg : decode cc pc = .ok (.invokestatic index, 3)) :
    va_Run p l e R s m args below meth c H locs cells slots 0 0 (F0 m pc ls st0) rest (Qc As.toArray) (z_Aq (gq G)) := by
  obtain ⟨hi, hco, hini, hd⟩ := hv
  have ht := E.2.2.2.2
  refine va_runSN E hM ⟨va_cnB (host := host) n ht (z_goodIn hco) rfl rfl rfl (hK.2.1 _ hlink) (ht _ hini) hd hR, ht _ hi, trivial⟩ ⟨z_blind, fun U hU hW => ⟨rfl, by rw [hU]; exact hP, hK.warm (locs := locs) hW (by rw [hU]; exact hS)⟩⟩ rfl hn hls (by rw [← hst]) (lv_room hrest) hdg hf
/-- behind a call, by its answer's kind -/
theorem z_ci {st0 : List Value} {a : Array Value} {r : Int32} (hr : va_Run p l e R s m args below meth c H locs cells slots 0 0 (F0 m pc ls st0) rest (z_QI G X' M' r a) (z_Aq (gq G))) (hS : z_S G s.heap H locs) (kk : ∀ (H1 : Heap) (locs1 : List Loc), z_P G X' M' H1 → z_S G s.heap H1 locs1 → W p l e R s m args below meth c H1 locs1 cells slots Q (F0 m (pc + 3) ls (.int r :: rest))) : W p l e R s m args below meth c H locs cells slots Q (F0 m pc ls st0) :=
  va_calli hr hS (fun _ _ h => h) (fun _ h => h) (fun r' _ t H1 locs1 ht _ hp hB _ _ hS1 => by subst hp; subst ht; exact kk _ _ hB hS1)
theorem z_cl {st0 : List Value} {a : Array Value} {r : Int64} (hr : va_Run p l e R s m args below meth c H locs cells slots 0 0 (F0 m pc ls st0) rest (z_QL G X' M' r a) (z_Aq (gq G))) (hS : z_S G s.heap H locs) (kk : ∀ (H1 : Heap) (locs1 : List Loc), z_P G X' M' H1 → z_S G s.heap H1 locs1 → W p l e R s m args below meth c H1 locs1 cells slots Q (F0 m (pc + 3) ls (.long r :: rest))) : W p l e R s m args below meth c H locs cells slots Q (F0 m pc ls st0) :=
  va_calll hr hS (fun _ _ h => h) (fun _ h => h) (fun r' _ t H1 locs1 ht _ hp hB _ _ hS1 => by subst hp; subst ht; exact kk _ _ hB hS1)
theorem z_cvo {st0 : List Value} {a : Array Value} (hr : va_Run p l e R s m args below meth c H locs cells slots 0 0 (F0 m pc ls st0) rest (z_QV G X' M' a) (z_Aq (gq G))) (hS : z_S G s.heap H locs) (kk : ∀ (H1 : Heap) (locs1 : List Loc), z_P G X' M' H1 → z_S G s.heap H1 locs1 → W p l e R s m args below meth c H1 locs1 cells slots Q (F0 m (pc + 3) ls rest)) : W p l e R s m args below meth c H locs cells slots Q (F0 m pc ls st0) :=
  va_callv hr hS (fun _ _ h => h) (fun _ h => h) (fun _ t H1 locs1 ht _ hp hB _ _ hS1 => by subst ht; exact kk _ _ hB hS1)
theorem z_cr {st0 : List Value} {a : Array Value} {r : Nat} (hr : va_Run p l e R s m args below meth c H locs cells slots 0 0 (F0 m pc ls st0) rest (z_QR G X' M' r a) (z_Aq (gq G))) (hS : z_S G s.heap H locs) (kk : ∀ (H1 : Heap) (locs1 : List Loc), z_P G X' M' H1 → z_S G s.heap H1 locs1 → W p l e R s m args below meth c H1 locs1 cells slots Q (F0 m (pc + 3) ls (.ref r :: rest))) : W p l e R s m args below meth c H locs cells slots Q (F0 m pc ls st0) :=
  va_callr hr hS (fun _ _ h => h) (fun _ h => h) (fun _ ra t H1 locs1 ht _ hp hB _ _ hS1 => by obtain ⟨rfl, hB⟩ := hB; subst ht; exact kk _ _ hB hS1)
/-- ends -/
theorem z_reti {r : Int32} {as : Array Value} (hx : p.tables.exec = Jvm.exec) (hb : c.code = cc) (hr : meth.sig.returnType = some .int) (hlk : meth.locks = false) (hP : z_P G X M H) (hS : z_S G s.heap H locs) (hdg : decode cc pc = .ok (.ireturn, 1)) : W p l e R s m as below meth c H locs 0 0 (MQ below (z_QI G X M r) as s 0 0 (z_Aq (gq G))) (F0 m pc ls [.int r]) :=
  W.iret hx hb hr (fun t ht _ => ⟨⟨r, (), rfl, rfl, by show z_P G X M t.heap; rw [ht]; exact hP⟩, hS.F ht⟩) hS.2.2 hdg hlk
theorem z_retz {r : Int32} {as : Array Value} {ty : FieldType} (hx : p.tables.exec = Jvm.exec) (hb : c.code = cc) (hr : meth.sig.returnType = some ty) (hlk : meth.locks = false) (hn : narrow ty (.int r) = .int r) (hP : z_P G X M H) (hS : z_S G s.heap H locs) (hdg : decode cc pc = .ok (.ireturn, 1)) : W p l e R s m as below meth c H locs 0 0 (MQ below (z_QI G X M r) as s 0 0 (z_Aq (gq G))) (F0 m pc ls [.int r]) :=
  W.zret hx hb hr hn (fun t ht _ => ⟨⟨r, (), rfl, rfl, by show z_P G X M t.heap; rw [ht]; exact hP⟩, hS.F ht⟩) hS.2.2 hdg hlk
theorem z_retl {r : Int64} {as : Array Value} (hx : p.tables.exec = Jvm.exec) (hb : c.code = cc) (hr : meth.sig.returnType = some .long) (hlk : meth.locks = false) (hP : z_P G X M H) (hS : z_S G s.heap H locs) (hdg : decode cc pc = .ok (.lreturn, 1)) : W p l e R s m as below meth c H locs 0 0 (MQ below (z_QL G X M r) as s 0 0 (z_Aq (gq G))) (F0 m pc ls [.long r]) :=
  W.lret hx hb hr (fun t ht _ => ⟨⟨r, (), rfl, rfl, by show z_P G X M t.heap; rw [ht]; exact hP⟩, hS.F ht⟩) hS.2.2 hdg hlk
theorem z_retv {as : Array Value} (hx : p.tables.exec = Jvm.exec) (hb : c.code = cc) (hr : meth.sig.returnType = none) (hlk : meth.locks = false) (hP : z_P G X M H) (hS : z_S G s.heap H locs) (hdg : decode cc pc = .ok (.return_, 1)) : W p l e R s m as below meth c H locs 0 0 (MQ below (z_QV G X M) as s 0 0 (z_Aq (gq G))) (F0 m pc ls []) :=
  W.vret hx hb hr (fun t ht _ => ⟨⟨(), rfl, trivial, by show z_P G X M t.heap; rw [ht]; exact hP⟩, hS.F ht⟩) hS.2.2 hdg hlk
theorem z_retr {a : Nat} {as : Array Value} {nm : String} (hx : p.tables.exec = Jvm.exec) (hb : c.code = cc) (hr : meth.sig.returnType = some (.object nm)) (hlk : meth.locks = false) (hP : z_P G X M H) (hS : z_S G s.heap H locs) (hdg : decode cc pc = .ok (.areturn, 1)) : W p l e R s m as below meth c H locs 0 0 (MQ below (z_QR G X M a) as s 0 0 (z_Aq (gq G))) (F0 m pc ls [.ref a]) :=
  W.aret hx hb hr (Or.inl ⟨_, rfl⟩) (Or.inr ⟨_, rfl⟩) (fun t ht _ => ⟨⟨(), a, rfl, trivial, rfl, by show z_P G X M t.heap; rw [ht]; exact hP⟩, hS.F ht⟩) hS.2.2 hdg hlk
/-- fields -/
theorem z_getI (E : CallFix p m c cc nL s args lw_good own) (hK : z_kW G s) {S : St} (hP : va_P G.1 vwC (z_wd (gq G) (gy G) S) H) {C : String} {T : u_T} {N ci k o index : Nat} (hin : ∀ w ∈ u_ws C T N, w ∈ lw_good) (hc : vwC[ci]? = some (C, T, N)) (hN : z_nf ci = N) (hlt : ci < 11) (hk : k < N) (hi : z_isR ci k = false) (ho : z_kd o = ci) (hlink : Cond.fieldLink own index (T k).1 (T k).2.1 (T k).2.2.1 ∈ lw_good) (hdg : decode cc pc = .ok (.getfield index, 3))
    (kk : W p l e R s m args below meth c H locs cells slots Q (F0 m (pc + 3) ls (.int (S o k) :: rest))) : W p l e R s m args below meth c H locs cells slots Q (F0 m pc ls (.ref (gq G o) :: rest)) := by
  refine va_get E.1 E.2.1 E.2.2.2.2 hin E.2.2.2.1 hK.1 hP o (by rw [z_get (z_kd_lt (by omega)), z_en_r ho hlt]) hc k hk (E.2.2.2.2 _ hlink) (fun _ h9 => h9) (v := .int (S o k)) ?_ hdg kk
  rw [hN, z_fld hk]
  simp [z_fv, ho, hi]
theorem z_getR (E : CallFix p m c cc nL s args lw_good own) (hK : z_kW G s) {S : St} (hP : va_P G.1 vwC (z_wd (gq G) (gy G) S) H) {C : String} {T : u_T} {N ci k o index : Nat} (t : Nat) (hin : ∀ w ∈ u_ws C T N, w ∈ lw_good) (hc : vwC[ci]? = some (C, T, N)) (hN : z_nf ci = N) (hlt : ci < 11) (hk : k < N) (hi : z_isR ci k = true) (ho : z_kd o = ci) (ht : z_rf S o k = t) (hlink : Cond.fieldLink own index (T k).1 (T k).2.1 (T k).2.2.1 ∈ lw_good) (hdg : decode cc pc = .ok (.getfield index, 3))
    (kk : W p l e R s m args below meth c H locs cells slots Q (F0 m (pc + 3) ls (.ref (gq G t) :: rest))) : W p l e R s m args below meth c H locs cells slots Q (F0 m pc ls (.ref (gq G o) :: rest)) := by
  refine va_get E.1 E.2.1 E.2.2.2.2 hin E.2.2.2.1 hK.1 hP o (by rw [z_get (z_kd_lt (by omega)), z_en_r ho hlt]) hc k hk (E.2.2.2.2 _ hlink) (fun _ h9 => h9) (v := .ref (gq G t)) ?_ hdg kk
  rw [hN, z_fld hk]
  simp [z_fv, ho, hi, ht]
theorem z_fv_wr {q : Nat → Nat} {S : St} {o k j : Nat} {v : Int32} (hi : z_isR (z_kd o) k = false) (h : j ≠ k) : z_fv q (z_wr S o k v) o j = z_fv q S o j := by
  unfold z_fv z_rf
  rw [z_wr_k h]
  by_cases h29 : o = 29
  · subst h29
    have h6 : (6 : Nat) ≠ k := by intro e; subst e; revert hi; decide
    rw [z_wr_k h6]
  · rw [if_neg h29, if_neg h29]
theorem z_putI (E : CallFix p m c cc nL s args lw_good own) (hK : z_kW G s) (hq : z_inj (gq G)) {S : St} (hP : va_P G.1 vwC (z_wd (gq G) (gy G) S) H) (hS : z_S G s.heap H locs) {C : String} {T : u_T} {N ci k o index : Nat} {v : Int32} {ty : FieldType} (hin : ∀ w ∈ u_ws C T N, w ∈ lw_good) (ty0 : Nat → FieldType) (hty : ∀ k, k < N → parseFieldDescriptor (T k).2.2.1 = some (ty0 k)) (hnm : ∀ a, a < N → ∀ b, b < N → a ≠ b → (T a).2.1 ≠ (T b).2.1) (hc : vwC[ci]? = some (C, T, N)) (hN : z_nf ci = N) (hlt : ci < 11) (hk : k < N) (hi : z_isR ci k = false) (ho : z_kd o = ci) (hfin : (T k).2.2.2 = false) (hd : parseFieldDescriptor (T k).2.2.1 = some ty) (hn : narrow ty (.int v) = .int v) (hfit : fits ty (.int v) = true) (hlink : Cond.fieldLink own index (T k).1 (T k).2.1 (T k).2.2.1 ∈ lw_good) (hdg : decode cc pc = .ok (.putfield index, 3))
    (kk : ∀ (H1 : Heap) (locs1 : List Loc), va_P G.1 vwC (z_wd (gq G) (gy G) (z_wr S o k v)) H1 → z_S G s.heap H1 locs1 → W p l e R s m args below meth c H1 locs1 cells slots Q (F0 m (pc + 3) ls rest)) : W p l e R s m args below meth c H locs cells slots Q (F0 m pc ls (.int v :: .ref (gq G o) :: rest)) := by
  refine va_put E.1 E.2.1 E.2.2.2.2 hin ty0 hty hnm E.2.2.2.1 hK.1 hP (z_D hq) hS o (by rw [z_get (z_kd_lt (by omega)), z_en_r ho hlt]) hc k hk (E.2.2.2.2 _ hlink) (fun _ h9 => h9) hfin hd hn hfit (by simp; omega) hdg (fun H1 locs1 hP1 _ hS1 => kk H1 locs1 ?_ hS1)
  rw [z_set (S' := z_wr S o k v) (z_kd_lt (by omega)) ?_ (fun a ha => z_en_o ha)] at hP1
  · exact hP1
  · rw [z_en_r ho hlt, z_fset (S' := z_wr S o k v) (by omega) ?_ (fun j hj => z_fv_wr (by rw [ho]; exact hi) hj)]
    simp [z_fv, ho, hi, z_wr_s]
/-- the machine takes up the situation's program -/
theorem z_putP (E : CallFix p m c cc nL s args lw_good own) (hK : z_kW G s) (hq : z_inj (gq G)) {S : St} (hP : va_P G.1 vwC (z_wd (gq G) (gy G) S) H) (hS : z_S G s.heap H locs) {index : Nat} (hlink : Cond.fieldLink own index (TX4 6).1 (TX4 6).2.1 (TX4 6).2.2.1 ∈ lw_good) (hdg : decode cc pc = .ok (.putfield index, 3))
    (kk : ∀ (H1 : Heap) (locs1 : List Loc), va_P G.1 vwC (z_wd (gq G) (gy G) (z_wr S 29 6 1)) H1 → z_S G s.heap H1 locs1 → W p l e R s m args below meth c H1 locs1 cells slots Q (F0 m (pc + 3) ls rest)) : W p l e R s m args below meth c H locs cells slots Q (F0 m pc ls (.ref (gq G 2) :: .ref (gq G 29) :: rest)) := by
  have ho : z_kd 29 = 4 := by decide
  refine va_put (C := RX4) (T := TX4) (N := 13) (ci := 4) (ty := .object "ClosuresThatBounce$Program") E.1 E.2.1 E.2.2.2.2 iwX4 tyX4 tyX4_ok nmX4 E.2.2.2.1 hK.1 hP (z_D hq) hS 29 (by rw [z_get (by decide), z_en_r ho (by decide)]) rfl 6 (by decide) (E.2.2.2.2 _ hlink) (fun _ h9 => h9) rfl (by decide +kernel) rfl rfl (by simp [z_nf, z_nfL]) hdg (fun H1 locs1 hP1 _ hS1 => kk H1 locs1 ?_ hS1)
  rw [z_set (S' := z_wr S 29 6 1) (by decide) ?_ (fun a ha => z_en_o ha)] at hP1
  · exact hP1
  · rw [z_en_r ho (by decide), z_fset (S' := z_wr S 29 6 1) (by decide) ?_ ?_]
    · simp [z_fv, ho, z_rf, z_wr_s]
      decide
    · intro j hj
      unfold z_fv z_rf
      rw [z_wr_k hj]
      simp [hj]
/-- arrays of ints -/
theorem z_ald (E : CallFix p m c cc nL s args lw_good own) (hK : z_kW G s) {S : St} (hP : va_P G.1 vwC (z_wd (gq G) (gy G) S) H) {o : Nat} {i : Int32} (ho : z_kd o = 11) (hin : vp_in i (z_ln o)) (hdg : decode cc pc = .ok (.iaload, 1))
    (kk : W p l e R s m args below meth c H locs cells slots Q (F0 m (pc + 1) ls (.int (S o i.toNatClampNeg) :: rest))) : W p l e R s m args below meth c H locs cells slots Q (F0 m pc ls (.int i :: .ref (gq G o) :: rest)) :=
  va_iald E.1 E.2.1 hK.1 hP o 0 (by rw [z_get (z_kd_lt (by omega)), z_en_l ho]) rfl hin hdg kk
theorem z_ast (E : CallFix p m c cc nL s args lw_good own) (hK : z_kW G s) (hq : z_inj (gq G)) {S : St} (hP : va_P G.1 vwC (z_wd (gq G) (gy G) S) H) (hS : z_S G s.heap H locs) {o : Nat} {i x : Int32} (ho : z_kd o = 11) (hin : vp_in i (z_ln o)) (hdg : decode cc pc = .ok (.iastore, 1))
    (kk : ∀ (H1 : Heap) (locs1 : List Loc), va_P G.1 vwC (z_wd (gq G) (gy G) (z_wr S o i.toNatClampNeg x)) H1 → z_S G s.heap H1 locs1 → W p l e R s m args below meth c H1 locs1 cells slots Q (F0 m (pc + 1) ls rest)) : W p l e R s m args below meth c H locs cells slots Q (F0 m pc ls (.int x :: .int i :: .ref (gq G o) :: rest)) := by
  refine va_iast E.1 E.2.1 hK.1 hP (z_D hq) hS o 0 (by rw [z_get (z_kd_lt (by omega)), z_en_l ho]) rfl hin hdg (fun H1 locs1 hP1 _ hS1 => kk H1 locs1 ?_ hS1)
  rw [z_set (S' := z_wr S o i.toNatClampNeg x) (z_kd_lt (by omega)) ?_ (fun a ha => z_en_o ha)] at hP1
  · exact hP1
  · rw [z_en_l ho]
    congr 4
    funext j
    simp [z_wr, upd]
theorem z_aln (E : CallFix p m c cc nL s args lw_good own) (hK : z_kW G s) {S : St} (hP : va_P G.1 vwC (z_wd (gq G) (gy G) S) H) {o : Nat} (ho : z_kd o = 11) (hdg : decode cc pc = .ok (.arraylength, 1))
    (kk : W p l e R s m args below meth c H locs cells slots Q (F0 m (pc + 1) ls (.int (nI (z_ln o)) :: rest))) : W p l e R s m args below meth c H locs cells slots Q (F0 m pc ls (.ref (gq G o) :: rest)) :=
  va_alen E.1 E.2.1 hK.1 hP o 0 (x := (z_ln o, .inl (S o))) (by rw [z_get (z_kd_lt (by omega)), z_en_l ho]) rfl rfl hdg kk
end ZR
end
section
/-! rows of the class's half (x_) and of the reference's half (m_) -/
def z_pr (X : St) : Nat := if X 29 6 = 0 then 49 else 2
theorem z_pr_kd {X : St} : z_kd (z_pr X) = 5 := by unfold z_pr; split <;> decide
theorem z_pr_65 {X : St} : z_pr X < 65 := by unfold z_pr; split <;> decide
theorem z_rf_pr {X M : St} : z_rf (z_cb X M) 29 6 = z_pr X := rfl
theorem z_bz {v : Int32} (h : v = 0 ∨ v = 1) : narrow .boolean (.int v) = .int v ∧ fits .boolean (.int v) = true := by
  rcases h with rfl | rfl <;> exact ⟨rfl, rfl⟩
/-- what a function answers -/
def z_bd {α β : Type} (x : Option (α × St)) (k : α → St → Option β) : Option β := match x with
  | none => none
  | some (a, S) => k a S
def z_bv {β : Type} (x : Option St) (k : St → Option β) : Option β := match x with
  | none => none
  | some S => k S
theorem z_bd_some {α β : Type} {x : Option (α × St)} {k : α → St → Option β} {y : β} (h : z_bd x k = some y) : ∃ a S, x = some (a, S) ∧ k a S = some y := by
  cases x with
  | none => cases h
  | some z => exact ⟨z.1, z.2, rfl, h⟩
theorem z_bv_some {β : Type} {x : Option St} {k : St → Option β} {y : β} (h : z_bv x k = some y) : ∃ S, x = some S ∧ k S = some y := by
  cases x with
  | none => cases h
  | some z => exact ⟨z, rfl, h⟩
/-- a guard: else the function has no answer -/
def z_gd {β : Type} (c : Prop) [Decidable c] (k : Option β) : Option β := if c then k else none
theorem z_gd_some {β : Type} {c : Prop} [Decidable c] {k : Option β} {y : β} (h : z_gd c k = some y) : c ∧ k = some y := by
  unfold z_gd at h
  by_cases hc : c
  · rw [if_pos hc] at h; exact ⟨hc, h⟩
  · rw [if_neg hc] at h; cases h
/-- an index in its row -/
def z_in (i : Int32) (n : Nat) : Prop := 0 ≤ i ∧ i.toNatClampNeg < n
theorem z_in_vp {i : Int32} {n : Nat} (h : z_in i n) : vp_in i n := by
  intro q
  rcases q with q | q
  · exact absurd h.1 (Int32.not_le.mpr q)
  · exact absurd h.2 (Nat.not_lt.mpr q)
theorem z_cpy_ok (n : Int32) (a b : Nat) (h : ¬ n < 0 ∧ n.toNatClampNeg ≤ a ∧ n.toNatClampNeg ≤ b) : True := trivial
/-- n ints of cell a over those of cell b -/
def z_cp (S : St) (a b n : Nat) : St := fun o k => if o = b then (if k < n then S a k else S b k) else S o k
section ZXM
variable {p : Program} {l : Launch} {e : Env} {R : Room} {s : State} {m : MethodId} {args : Array Value} {below : List Frame} {meth : Method} {c : Code} {H : Heap} {locs : List Loc} {cells slots : Nat} {Q : State → Prop}
variable {cc : ByteArray} {nL pc : Nat} {ls : Array Slot} {rest : List Value} {G : Cx} {X M X' M' : St} {own : String} {H0 : Heap}
theorem x_getI (E : CallFix p m c cc nL s args lw_good own) (hK : z_kW G s) (hP : z_P G X M H) {C : String} {T : u_T} {N ci k o index : Nat} (hin : ∀ w ∈ u_ws C T N, w ∈ lw_good) (hc : vwC[ci]? = some (C, T, N)) (hN : z_nf ci = N) (hlt : ci < 11) (hk : k < N) (hi : z_isR ci k = false) (ho : z_kd o = ci) (h65 : o < 65) (hlink : Cond.fieldLink own index (T k).1 (T k).2.1 (T k).2.2.1 ∈ lw_good) (hdg : decode cc pc = .ok (.getfield index, 3))
    (kk : W p l e R s m args below meth c H locs cells slots Q (F0 m (pc + 3) ls (.int (X o k) :: rest))) : W p l e R s m args below meth c H locs cells slots Q (F0 m pc ls (.ref (gq G o) :: rest)) :=
  z_getI E hK hP hin hc hN hlt hk hi ho hlink hdg (by rw [z_cbX h65]; exact kk)
theorem x_putI (E : CallFix p m c cc nL s args lw_good own) (hK : z_kW G s) (hq : z_inj (gq G)) (hP : z_P G X M H) (hS : z_S G s.heap H locs) {C : String} {T : u_T} {N ci k o index : Nat} {v : Int32} {ty : FieldType} (hin : ∀ w ∈ u_ws C T N, w ∈ lw_good) (ty0 : Nat → FieldType) (hty : ∀ k, k < N → parseFieldDescriptor (T k).2.2.1 = some (ty0 k)) (hnm : ∀ a, a < N → ∀ b, b < N → a ≠ b → (T a).2.1 ≠ (T b).2.1) (hc : vwC[ci]? = some (C, T, N)) (hN : z_nf ci = N) (hlt : ci < 11) (hk : k < N) (hi : z_isR ci k = false) (ho : z_kd o = ci) (h65 : o < 65) (hfin : (T k).2.2.2 = false) (hd : parseFieldDescriptor (T k).2.2.1 = some ty) (hnf : narrow ty (.int v) = .int v ∧ fits ty (.int v) = true) (hlink : Cond.fieldLink own index (T k).1 (T k).2.1 (T k).2.2.1 ∈ lw_good) (hdg : decode cc pc = .ok (.putfield index, 3))
    (kk : ∀ (H1 : Heap) (locs1 : List Loc), z_P G (z_wr X o k v) M H1 → z_S G s.heap H1 locs1 → W p l e R s m args below meth c H1 locs1 cells slots Q (F0 m (pc + 3) ls rest)) : W p l e R s m args below meth c H locs cells slots Q (F0 m pc ls (.int v :: .ref (gq G o) :: rest)) :=
  z_putI E hK hq hP hS hin ty0 hty hnm hc hN hlt hk hi ho hfin hd hnf.1 hnf.2 hlink hdg (fun H1 locs1 hP1 hS1 => kk H1 locs1 (by rw [z_cbwX h65] at hP1; exact hP1) hS1)
theorem x_ald (E : CallFix p m c cc nL s args lw_good own) (hK : z_kW G s) (hP : z_P G X M H) {o : Nat} {i : Int32} (ho : z_kd o = 11) (h65 : o < 65) (hin : z_in i (z_ln o)) (hdg : decode cc pc = .ok (.iaload, 1))
    (kk : W p l e R s m args below meth c H locs cells slots Q (F0 m (pc + 1) ls (.int (X o i.toNatClampNeg) :: rest))) : W p l e R s m args below meth c H locs cells slots Q (F0 m pc ls (.int i :: .ref (gq G o) :: rest)) :=
  z_ald E hK hP ho (z_in_vp hin) hdg (by rw [z_cbX h65]; exact kk)
theorem x_ast (E : CallFix p m c cc nL s args lw_good own) (hK : z_kW G s) (hq : z_inj (gq G)) (hP : z_P G X M H) (hS : z_S G s.heap H locs) {o : Nat} {i v : Int32} (ho : z_kd o = 11) (h65 : o < 65) (hin : z_in i (z_ln o)) (hdg : decode cc pc = .ok (.iastore, 1))
    (kk : ∀ (H1 : Heap) (locs1 : List Loc), z_P G (z_wr X o i.toNatClampNeg v) M H1 → z_S G s.heap H1 locs1 → W p l e R s m args below meth c H1 locs1 cells slots Q (F0 m (pc + 1) ls rest)) : W p l e R s m args below meth c H locs cells slots Q (F0 m pc ls (.int v :: .int i :: .ref (gq G o) :: rest)) :=
  z_ast E hK hq hP hS ho (z_in_vp hin) hdg (fun H1 locs1 hP1 hS1 => kk H1 locs1 (by rw [z_cbwX h65] at hP1; exact hP1) hS1)
theorem m_getI (E : CallFix p m c cc nL s args lw_good own) (hK : z_kW G s) (hP : z_P G X M H) {C : String} {T : u_T} {N ci k o index : Nat} (hin : ∀ w ∈ u_ws C T N, w ∈ lw_good) (hc : vwC[ci]? = some (C, T, N)) (hN : z_nf ci = N) (hlt : ci < 11) (hk : k < N) (hi : z_isR ci k = false) (ho : z_kd o = ci) (h65 : 65 ≤ o) (hlink : Cond.fieldLink own index (T k).1 (T k).2.1 (T k).2.2.1 ∈ lw_good) (hdg : decode cc pc = .ok (.getfield index, 3))
    (kk : W p l e R s m args below meth c H locs cells slots Q (F0 m (pc + 3) ls (.int (M o k) :: rest))) : W p l e R s m args below meth c H locs cells slots Q (F0 m pc ls (.ref (gq G o) :: rest)) :=
  z_getI E hK hP hin hc hN hlt hk hi ho hlink hdg (by rw [z_cbM h65]; exact kk)
theorem m_putI (E : CallFix p m c cc nL s args lw_good own) (hK : z_kW G s) (hq : z_inj (gq G)) (hP : z_P G X M H) (hS : z_S G s.heap H locs) {C : String} {T : u_T} {N ci k o index : Nat} {v : Int32} {ty : FieldType} (hin : ∀ w ∈ u_ws C T N, w ∈ lw_good) (ty0 : Nat → FieldType) (hty : ∀ k, k < N → parseFieldDescriptor (T k).2.2.1 = some (ty0 k)) (hnm : ∀ a, a < N → ∀ b, b < N → a ≠ b → (T a).2.1 ≠ (T b).2.1) (hc : vwC[ci]? = some (C, T, N)) (hN : z_nf ci = N) (hlt : ci < 11) (hk : k < N) (hi : z_isR ci k = false) (ho : z_kd o = ci) (h65 : 65 ≤ o) (hfin : (T k).2.2.2 = false) (hd : parseFieldDescriptor (T k).2.2.1 = some ty) (hnf : narrow ty (.int v) = .int v ∧ fits ty (.int v) = true) (hlink : Cond.fieldLink own index (T k).1 (T k).2.1 (T k).2.2.1 ∈ lw_good) (hdg : decode cc pc = .ok (.putfield index, 3))
    (kk : ∀ (H1 : Heap) (locs1 : List Loc), z_P G X (z_wr M o k v) H1 → z_S G s.heap H1 locs1 → W p l e R s m args below meth c H1 locs1 cells slots Q (F0 m (pc + 3) ls rest)) : W p l e R s m args below meth c H locs cells slots Q (F0 m pc ls (.int v :: .ref (gq G o) :: rest)) :=
  z_putI E hK hq hP hS hin ty0 hty hnm hc hN hlt hk hi ho hfin hd hnf.1 hnf.2 hlink hdg (fun H1 locs1 hP1 hS1 => kk H1 locs1 (by rw [z_cbwM h65] at hP1; exact hP1) hS1)
theorem m_ald (E : CallFix p m c cc nL s args lw_good own) (hK : z_kW G s) (hP : z_P G X M H) {o : Nat} {i : Int32} (ho : z_kd o = 11) (h65 : 65 ≤ o) (hin : z_in i (z_ln o)) (hdg : decode cc pc = .ok (.iaload, 1))
    (kk : W p l e R s m args below meth c H locs cells slots Q (F0 m (pc + 1) ls (.int (M o i.toNatClampNeg) :: rest))) : W p l e R s m args below meth c H locs cells slots Q (F0 m pc ls (.int i :: .ref (gq G o) :: rest)) :=
  z_ald E hK hP ho (z_in_vp hin) hdg (by rw [z_cbM h65]; exact kk)
theorem m_ast (E : CallFix p m c cc nL s args lw_good own) (hK : z_kW G s) (hq : z_inj (gq G)) (hP : z_P G X M H) (hS : z_S G s.heap H locs) {o : Nat} {i v : Int32} (ho : z_kd o = 11) (h65 : 65 ≤ o) (hin : z_in i (z_ln o)) (hdg : decode cc pc = .ok (.iastore, 1))
    (kk : ∀ (H1 : Heap) (locs1 : List Loc), z_P G X (z_wr M o i.toNatClampNeg v) H1 → z_S G s.heap H1 locs1 → W p l e R s m args below meth c H1 locs1 cells slots Q (F0 m (pc + 1) ls rest)) : W p l e R s m args below meth c H locs cells slots Q (F0 m pc ls (.int v :: .int i :: .ref (gq G o) :: rest)) :=
  z_ast E hK hq hP hS ho (z_in_vp hin) hdg (fun H1 locs1 hP1 hS1 => kk H1 locs1 (by rw [z_cbwM h65] at hP1; exact hP1) hS1)
theorem x_putP (E : CallFix p m c cc nL s args lw_good own) (hK : z_kW G s) (hq : z_inj (gq G)) (hP : z_P G X M H) (hS : z_S G s.heap H locs) {index : Nat} (hlink : Cond.fieldLink own index (TX4 6).1 (TX4 6).2.1 (TX4 6).2.2.1 ∈ lw_good) (hdg : decode cc pc = .ok (.putfield index, 3))
    (kk : ∀ (H1 : Heap) (locs1 : List Loc), z_P G (z_wr X 29 6 1) M H1 → z_S G s.heap H1 locs1 → W p l e R s m args below meth c H1 locs1 cells slots Q (F0 m (pc + 3) ls rest)) : W p l e R s m args below meth c H locs cells slots Q (F0 m pc ls (.ref (gq G 2) :: .ref (gq G 29) :: rest)) :=
  z_putP E hK hq hP hS hlink hdg (fun H1 locs1 hP1 hS1 => kk H1 locs1 (by rw [z_cbwX (by decide)] at hP1; exact hP1) hS1)
theorem z_en_cp {q : Nat → Nat} {cy : ClassId} {S : St} {a b n o : Nat} (h : o ≠ b) (hb : z_kd b = 11) : z_en q cy (z_cp S a b n) o = z_en q cy S o := by
  have e : ∀ j, j ≠ b → z_cp S a b n j = S j := fun j hj => by funext k; simp [z_cp, hj]
  have hf : ∀ j, z_fv q (z_cp S a b n) o j = z_fv q S o j := by
    intro j
    unfold z_fv z_rf
    rw [e o h, e 29 (by intro z; subst z; revert hb; decide)]
  unfold z_en
  rw [e o h, funext hf]
theorem x_cpy (E : CallFix p m c cc nL s args lw_good own) (hls : ls.size = nL) (hK : z_kW G s) (hq : z_inj (gq G)) (hP : z_P G X M H) (hS : z_S G s.heap H locs) {index a b : Nat} {n : Int32} (ha : z_kd a = 11) (hb : z_kd b = 11) (ha5 : a < 65) (hb5 : b < 65) (hn : ¬ n < 0 ∧ n.toNatClampNeg ≤ z_ln a ∧ n.toNatClampNeg ≤ z_ln b) (hlink : Cond.methodLink own index arraycopyName ∈ lw_good) (hnat : Cond.native arraycopyName ∈ lw_good) (hstat : Cond.static arraycopyName ∈ lw_good) (hini : Cond.initialized "java/lang/System" ∈ lw_good) (hfr : 1 ≤ R.frames) (hlo : (rest.map fun v => v.category).sum + (nativeFrameWords "java/lang/System" "arraycopy" 5 + 11) ≤ R.locals) (hdg : decode cc pc = .ok (.invokestatic index, 3))
    (kk : ∀ (H1 : Heap) (locs1 : List Loc), z_P G (z_cp X a b n.toNatClampNeg) M H1 → z_S G s.heap H1 locs1 → W p l e R s m args below meth c H1 locs1 cells slots Q (F0 m (pc + 3) ls rest)) : W p l e R s m args below meth c H locs cells slots Q (F0 m pc ls (.int n :: .int 0 :: .ref (gq G b) :: .int 0 :: .ref (gq G a) :: rest)) := by
  have ht := E.2.2.2.2
  refine va_copyi E.1 E.2.1 (by rw [hls]; exact E.2.2.1) E.2.2.2.1 (ht _ hlink) (ht _ hnat) (ht _ hstat) (ht _ hini) hK.1 hP (z_D hq) hS a b 0 0 (by rw [z_get (z_kd_lt (by omega)), z_en_l ha]) (by rw [z_get (z_kd_lt (by omega)), z_en_l hb]) rfl rfl rfl (by decide) (by decide) hn.1 (by have e : (0 : Int32).toNatClampNeg = 0 := rfl; rw [e, Nat.zero_add]; exact hn.2.1) (by have e : (0 : Int32).toNatClampNeg = 0 := rfl; rw [e, Nat.zero_add]; exact hn.2.2) (fun _ _ => rfl) hfr hlo hdg (fun H1 locs1 hP1 _ hS1 => kk H1 locs1 ?_ hS1)
  have e : z_cp (z_cb X M) a b n.toNatClampNeg = z_cb (z_cp X a b n.toNatClampNeg) M := by
    funext o k
    by_cases h : o = b
    · subst h; simp [z_cp, z_cb, ha5, hb5]
    · have e1 : z_cp X a b n.toNatClampNeg o = X o := by funext j; simp [z_cp, h]
      have e2 : z_cp (z_cb X M) a b n.toNatClampNeg o = z_cb X M o := by funext j; simp [z_cp, h]
      rw [e2]
      unfold z_cb
      rw [e1]
  rw [z_set (S' := z_cp (z_cb X M) a b n.toNatClampNeg) (z_kd_lt (by omega)) ?_ (fun o ho => z_en_cp ho hb), e] at hP1
  · exact hP1
  · rw [z_en_l hb]
    congr 4
    funext j
    simp [z_cp, va_cpy]
end ZXM
end

section
-- ===== PART A: goes FIRST, ahead of the names: the tables' words, and 'selects' of the private methods out of them =====
/-- a private method of a class that the tables say can be made, by its rows of tables_1 -/
def lw_okq (q : MethodName × Nat) : Prop := (q.1.cls ≠ "java/lang/invoke/MethodHandle" ∧ q.1.cls ≠ "java/lang/invoke/VarHandle") ∧ Cond.instantiable q.1.cls q.2 ∈ tables_1 ∧ Cond.privateMethod q.1 ∈ tables_1 ∧ Cond.instanceMethod q.1 ∈ tables_1
theorem lw_p0 : lw_okq (⟨"FaithRails", "finding", "(I)I"⟩, 8) := ⟨⟨by decide +kernel, by decide +kernel⟩, List.mem_of_getElem? (i := 15) (by decide +kernel), List.mem_of_getElem? (i := 184) (by decide +kernel), List.mem_of_getElem? (i := 185) (by decide +kernel)⟩
theorem lw_p1 : lw_okq (⟨"FaithRails$Prairie", "companions", "(I)I"⟩, 16) := ⟨⟨by decide +kernel, by decide +kernel⟩, List.mem_of_getElem? (i := 23) (by decide +kernel), List.mem_of_getElem? (i := 207) (by decide +kernel), List.mem_of_getElem? (i := 208) (by decide +kernel)⟩
theorem lw_p2 : lw_okq (⟨"FaithRails", "isPerson", "(I)Z"⟩, 8) := ⟨⟨by decide +kernel, by decide +kernel⟩, List.mem_of_getElem? (i := 15) (by decide +kernel), List.mem_of_getElem? (i := 235) (by decide +kernel), List.mem_of_getElem? (i := 236) (by decide +kernel)⟩
theorem lw_p3 : lw_okq (⟨"FaithRails$Prairie", "moveBeliefsAboard", "(I)V"⟩, 16) := ⟨⟨by decide +kernel, by decide +kernel⟩, List.mem_of_getElem? (i := 23) (by decide +kernel), List.mem_of_getElem? (i := 276) (by decide +kernel), List.mem_of_getElem? (i := 277) (by decide +kernel)⟩
theorem lw_p4 : lw_okq (⟨"FaithRails$Prairie", "sway", "()V"⟩, 16) := ⟨⟨by decide +kernel, by decide +kernel⟩, List.mem_of_getElem? (i := 23) (by decide +kernel), List.mem_of_getElem? (i := 281) (by decide +kernel), List.mem_of_getElem? (i := 282) (by decide +kernel)⟩
theorem lw_p5 : lw_okq (⟨"FaithRails$Prairie", "anyBeliefMoved", "()Z"⟩, 16) := ⟨⟨by decide +kernel, by decide +kernel⟩, List.mem_of_getElem? (i := 23) (by decide +kernel), List.mem_of_getElem? (i := 285) (by decide +kernel), List.mem_of_getElem? (i := 286) (by decide +kernel)⟩
theorem lw_p6 : lw_okq (⟨"FaithRails", "setsOfPeople", "()I"⟩, 8) := ⟨⟨by decide +kernel, by decide +kernel⟩, List.mem_of_getElem? (i := 15) (by decide +kernel), List.mem_of_getElem? (i := 351) (by decide +kernel), List.mem_of_getElem? (i := 352) (by decide +kernel)⟩
theorem lw_p7 : lw_okq (⟨"FaithRails", "trialWith", "(I)LFaithRails$Prairie;"⟩, 8) := ⟨⟨by decide +kernel, by decide +kernel⟩, List.mem_of_getElem? (i := 15) (by decide +kernel), List.mem_of_getElem? (i := 355) (by decide +kernel), List.mem_of_getElem? (i := 356) (by decide +kernel)⟩
theorem lw_p8 : lw_okq (⟨"FaithRails", "trialBelieving", "(II)LFaithRails$Prairie;"⟩, 8) := ⟨⟨by decide +kernel, by decide +kernel⟩, List.mem_of_getElem? (i := 15) (by decide +kernel), List.mem_of_getElem? (i := 388) (by decide +kernel), List.mem_of_getElem? (i := 389) (by decide +kernel)⟩
theorem lw_p9 : lw_okq (⟨"FaithRails", "greatestSumMet", "(II)I"⟩, 8) := ⟨⟨by decide +kernel, by decide +kernel⟩, List.mem_of_getElem? (i := 15) (by decide +kernel), List.mem_of_getElem? (i := 396) (by decide +kernel), List.mem_of_getElem? (i := 397) (by decide +kernel)⟩
theorem lw_p10 : lw_okq (⟨"FaithRails", "sheetAt", "(I)LFaithRails$Sheet;"⟩, 8) := ⟨⟨by decide +kernel, by decide +kernel⟩, List.mem_of_getElem? (i := 15) (by decide +kernel), List.mem_of_getElem? (i := 411) (by decide +kernel), List.mem_of_getElem? (i := 412) (by decide +kernel)⟩
theorem lw_p11 : lw_okq (⟨"FaithRails", "noteWhatIsBrought", "()V"⟩, 8) := ⟨⟨by decide +kernel, by decide +kernel⟩, List.mem_of_getElem? (i := 15) (by decide +kernel), List.mem_of_getElem? (i := 440) (by decide +kernel), List.mem_of_getElem? (i := 441) (by decide +kernel)⟩
theorem lw_p12 : lw_okq (⟨"FaithRails", "endsAll", "(II)Z"⟩, 8) := ⟨⟨by decide +kernel, by decide +kernel⟩, List.mem_of_getElem? (i := 15) (by decide +kernel), List.mem_of_getElem? (i := 444) (by decide +kernel), List.mem_of_getElem? (i := 445) (by decide +kernel)⟩
theorem lw_p13 : lw_okq (⟨"FaithRails$Tape", "advance", "()V"⟩, 6) := ⟨⟨by decide +kernel, by decide +kernel⟩, List.mem_of_getElem? (i := 101) (by decide +kernel), List.mem_of_getElem? (i := 488) (by decide +kernel), List.mem_of_getElem? (i := 489) (by decide +kernel)⟩
theorem lw_p14 : lw_okq (⟨"FaithRails$Tape", "item", "(LFaithRails$Prairie;)Z"⟩, 6) := ⟨⟨by decide +kernel, by decide +kernel⟩, List.mem_of_getElem? (i := 101) (by decide +kernel), List.mem_of_getElem? (i := 499) (by decide +kernel), List.mem_of_getElem? (i := 500) (by decide +kernel)⟩
theorem lw_p15 : lw_okq (⟨"FaithRails$Tape", "kindNamed", "()I"⟩, 6) := ⟨⟨by decide +kernel, by decide +kernel⟩, List.mem_of_getElem? (i := 101) (by decide +kernel), List.mem_of_getElem? (i := 503) (by decide +kernel), List.mem_of_getElem? (i := 504) (by decide +kernel)⟩
def lw_privs_1 : List (MethodName × Nat) := [(⟨"FaithRails", "finding", "(I)I"⟩, 8), (⟨"FaithRails$Prairie", "companions", "(I)I"⟩, 16), (⟨"FaithRails", "isPerson", "(I)Z"⟩, 8), (⟨"FaithRails$Prairie", "moveBeliefsAboard", "(I)V"⟩, 16), (⟨"FaithRails$Prairie", "sway", "()V"⟩, 16), (⟨"FaithRails$Prairie", "anyBeliefMoved", "()Z"⟩, 16), (⟨"FaithRails", "setsOfPeople", "()I"⟩, 8), (⟨"FaithRails", "trialWith", "(I)LFaithRails$Prairie;"⟩, 8), (⟨"FaithRails", "trialBelieving", "(II)LFaithRails$Prairie;"⟩, 8), (⟨"FaithRails", "greatestSumMet", "(II)I"⟩, 8), (⟨"FaithRails", "sheetAt", "(I)LFaithRails$Sheet;"⟩, 8), (⟨"FaithRails", "noteWhatIsBrought", "()V"⟩, 8), (⟨"FaithRails", "endsAll", "(II)Z"⟩, 8), (⟨"FaithRails$Tape", "advance", "()V"⟩, 6), (⟨"FaithRails$Tape", "item", "(LFaithRails$Prairie;)Z"⟩, 6), (⟨"FaithRails$Tape", "kindNamed", "()I"⟩, 6)]
theorem lw_r1 : ∀ q ∈ lw_privs_1, lw_okq q := List.forall_mem_cons.mpr ⟨lw_p0, List.forall_mem_cons.mpr ⟨lw_p1, List.forall_mem_cons.mpr ⟨lw_p2, List.forall_mem_cons.mpr ⟨lw_p3, List.forall_mem_cons.mpr ⟨lw_p4, List.forall_mem_cons.mpr ⟨lw_p5, List.forall_mem_cons.mpr ⟨lw_p6, List.forall_mem_cons.mpr ⟨lw_p7, List.forall_mem_cons.mpr ⟨lw_p8, List.forall_mem_cons.mpr ⟨lw_p9, List.forall_mem_cons.mpr ⟨lw_p10, List.forall_mem_cons.mpr ⟨lw_p11, List.forall_mem_cons.mpr ⟨lw_p12, List.forall_mem_cons.mpr ⟨lw_p13, List.forall_mem_cons.mpr ⟨lw_p14, List.forall_mem_cons.mpr ⟨lw_p15, fun _ h => absurd h List.not_mem_nil⟩⟩⟩⟩⟩⟩⟩⟩⟩⟩⟩⟩⟩⟩⟩⟩
theorem lw_p16 : lw_okq (⟨"FaithRails$Tape", "isWord", "(Ljava/lang/String;)Z"⟩, 6) := ⟨⟨by decide +kernel, by decide +kernel⟩, List.mem_of_getElem? (i := 101) (by decide +kernel), List.mem_of_getElem? (i := 508) (by decide +kernel), List.mem_of_getElem? (i := 509) (by decide +kernel)⟩
theorem lw_p17 : lw_okq (⟨"FaithRails$Tape", "newcomer", "(LFaithRails$Prairie;I)Z"⟩, 6) := ⟨⟨by decide +kernel, by decide +kernel⟩, List.mem_of_getElem? (i := 101) (by decide +kernel), List.mem_of_getElem? (i := 566) (by decide +kernel), List.mem_of_getElem? (i := 567) (by decide +kernel)⟩
theorem lw_p18 : lw_okq (⟨"FaithRails$Tape", "numberFollows", "(I)Z"⟩, 6) := ⟨⟨by decide +kernel, by decide +kernel⟩, List.mem_of_getElem? (i := 101) (by decide +kernel), List.mem_of_getElem? (i := 571) (by decide +kernel), List.mem_of_getElem? (i := 572) (by decide +kernel)⟩
theorem lw_p19 : lw_okq (⟨"FaithRails$Tape", "needOfStretch", "(LFaithRails$Prairie;)Z"⟩, 6) := ⟨⟨by decide +kernel, by decide +kernel⟩, List.mem_of_getElem? (i := 101) (by decide +kernel), List.mem_of_getElem? (i := 578) (by decide +kernel), List.mem_of_getElem? (i := 579) (by decide +kernel)⟩
theorem lw_p20 : lw_okq (⟨"FaithRailsModel", "becomes", "(II)I"⟩, 17) := ⟨⟨by decide +kernel, by decide +kernel⟩, List.mem_of_getElem? (i := 663) (by decide +kernel), List.mem_of_getElem? (i := 731) (by decide +kernel), List.mem_of_getElem? (i := 732) (by decide +kernel)⟩
theorem lw_p21 : lw_okq (⟨"FaithRailsModel", "finds", "(I)I"⟩, 17) := ⟨⟨by decide +kernel, by decide +kernel⟩, List.mem_of_getElem? (i := 663) (by decide +kernel), List.mem_of_getElem? (i := 736) (by decide +kernel), List.mem_of_getElem? (i := 737) (by decide +kernel)⟩
theorem lw_p22 : lw_okq (⟨"FaithRailsModel", "sumAt", "(I)I"⟩, 17) := ⟨⟨by decide +kernel, by decide +kernel⟩, List.mem_of_getElem? (i := 663) (by decide +kernel), List.mem_of_getElem? (i := 744) (by decide +kernel), List.mem_of_getElem? (i := 745) (by decide +kernel)⟩
theorem lw_p23 : lw_okq (⟨"FaithRailsModel", "brings", "(II)I"⟩, 17) := ⟨⟨by decide +kernel, by decide +kernel⟩, List.mem_of_getElem? (i := 663) (by decide +kernel), List.mem_of_getElem? (i := 748) (by decide +kernel), List.mem_of_getElem? (i := 749) (by decide +kernel)⟩
theorem lw_p24 : lw_okq (⟨"FaithRailsModel", "faithOf", "(I)I"⟩, 17) := ⟨⟨by decide +kernel, by decide +kernel⟩, List.mem_of_getElem? (i := 663) (by decide +kernel), List.mem_of_getElem? (i := 752) (by decide +kernel), List.mem_of_getElem? (i := 753) (by decide +kernel)⟩
theorem lw_p25 : lw_okq (⟨"FaithRailsModel", "told", "(II)I"⟩, 17) := ⟨⟨by decide +kernel, by decide +kernel⟩, List.mem_of_getElem? (i := 663) (by decide +kernel), List.mem_of_getElem? (i := 756) (by decide +kernel), List.mem_of_getElem? (i := 757) (by decide +kernel)⟩
theorem lw_p26 : lw_okq (⟨"FaithRailsModel", "othersWith", "(I)I"⟩, 17) := ⟨⟨by decide +kernel, by decide +kernel⟩, List.mem_of_getElem? (i := 663) (by decide +kernel), List.mem_of_getElem? (i := 763) (by decide +kernel), List.mem_of_getElem? (i := 764) (by decide +kernel)⟩
theorem lw_p27 : lw_okq (⟨"FaithRailsModel", "isThere", "(I)Z"⟩, 17) := ⟨⟨by decide +kernel, by decide +kernel⟩, List.mem_of_getElem? (i := 663) (by decide +kernel), List.mem_of_getElem? (i := 771) (by decide +kernel), List.mem_of_getElem? (i := 772) (by decide +kernel)⟩
theorem lw_p28 : lw_okq (⟨"FaithRailsModel", "comes", "(III)I"⟩, 17) := ⟨⟨by decide +kernel, by decide +kernel⟩, List.mem_of_getElem? (i := 663) (by decide +kernel), List.mem_of_getElem? (i := 780) (by decide +kernel), List.mem_of_getElem? (i := 781) (by decide +kernel)⟩
theorem lw_p29 : lw_okq (⟨"FaithRailsModel", "put", "(III)V"⟩, 17) := ⟨⟨by decide +kernel, by decide +kernel⟩, List.mem_of_getElem? (i := 663) (by decide +kernel), List.mem_of_getElem? (i := 784) (by decide +kernel), List.mem_of_getElem? (i := 785) (by decide +kernel)⟩
theorem lw_p30 : lw_okq (⟨"FaithRailsModel", "isOne", "(I)Z"⟩, 17) := ⟨⟨by decide +kernel, by decide +kernel⟩, List.mem_of_getElem? (i := 663) (by decide +kernel), List.mem_of_getElem? (i := 792) (by decide +kernel), List.mem_of_getElem? (i := 793) (by decide +kernel)⟩
theorem lw_p31 : lw_okq (⟨"FaithRailsModel", "goesOn", "(I)V"⟩, 17) := ⟨⟨by decide +kernel, by decide +kernel⟩, List.mem_of_getElem? (i := 663) (by decide +kernel), List.mem_of_getElem? (i := 820) (by decide +kernel), List.mem_of_getElem? (i := 821) (by decide +kernel)⟩
def lw_privs_2 : List (MethodName × Nat) := [(⟨"FaithRails$Tape", "isWord", "(Ljava/lang/String;)Z"⟩, 6), (⟨"FaithRails$Tape", "newcomer", "(LFaithRails$Prairie;I)Z"⟩, 6), (⟨"FaithRails$Tape", "numberFollows", "(I)Z"⟩, 6), (⟨"FaithRails$Tape", "needOfStretch", "(LFaithRails$Prairie;)Z"⟩, 6), (⟨"FaithRailsModel", "becomes", "(II)I"⟩, 17), (⟨"FaithRailsModel", "finds", "(I)I"⟩, 17), (⟨"FaithRailsModel", "sumAt", "(I)I"⟩, 17), (⟨"FaithRailsModel", "brings", "(II)I"⟩, 17), (⟨"FaithRailsModel", "faithOf", "(I)I"⟩, 17), (⟨"FaithRailsModel", "told", "(II)I"⟩, 17), (⟨"FaithRailsModel", "othersWith", "(I)I"⟩, 17), (⟨"FaithRailsModel", "isThere", "(I)Z"⟩, 17), (⟨"FaithRailsModel", "comes", "(III)I"⟩, 17), (⟨"FaithRailsModel", "put", "(III)V"⟩, 17), (⟨"FaithRailsModel", "isOne", "(I)Z"⟩, 17), (⟨"FaithRailsModel", "goesOn", "(I)V"⟩, 17)]
theorem lw_r2 : ∀ q ∈ lw_privs_2, lw_okq q := List.forall_mem_cons.mpr ⟨lw_p16, List.forall_mem_cons.mpr ⟨lw_p17, List.forall_mem_cons.mpr ⟨lw_p18, List.forall_mem_cons.mpr ⟨lw_p19, List.forall_mem_cons.mpr ⟨lw_p20, List.forall_mem_cons.mpr ⟨lw_p21, List.forall_mem_cons.mpr ⟨lw_p22, List.forall_mem_cons.mpr ⟨lw_p23, List.forall_mem_cons.mpr ⟨lw_p24, List.forall_mem_cons.mpr ⟨lw_p25, List.forall_mem_cons.mpr ⟨lw_p26, List.forall_mem_cons.mpr ⟨lw_p27, List.forall_mem_cons.mpr ⟨lw_p28, List.forall_mem_cons.mpr ⟨lw_p29, List.forall_mem_cons.mpr ⟨lw_p30, List.forall_mem_cons.mpr ⟨lw_p31, fun _ h => absurd h List.not_mem_nil⟩⟩⟩⟩⟩⟩⟩⟩⟩⟩⟩⟩⟩⟩⟩⟩
theorem lw_p32 : lw_okq (⟨"FaithRailsModel", "hour", "()V"⟩, 17) := ⟨⟨by decide +kernel, by decide +kernel⟩, List.mem_of_getElem? (i := 663) (by decide +kernel), List.mem_of_getElem? (i := 824) (by decide +kernel), List.mem_of_getElem? (i := 825) (by decide +kernel)⟩
theorem lw_p33 : lw_okq (⟨"FaithRailsModel", "willFall", "()Z"⟩, 17) := ⟨⟨by decide +kernel, by decide +kernel⟩, List.mem_of_getElem? (i := 663) (by decide +kernel), List.mem_of_getElem? (i := 828) (by decide +kernel), List.mem_of_getElem? (i := 829) (by decide +kernel)⟩
theorem lw_p34 : lw_okq (⟨"FaithRailsModel", "sways", "()V"⟩, 17) := ⟨⟨by decide +kernel, by decide +kernel⟩, List.mem_of_getElem? (i := 663) (by decide +kernel), List.mem_of_getElem? (i := 832) (by decide +kernel), List.mem_of_getElem? (i := 833) (by decide +kernel)⟩
theorem lw_p35 : lw_okq (⟨"FaithRailsModel", "meanWith", "(I)I"⟩, 17) := ⟨⟨by decide +kernel, by decide +kernel⟩, List.mem_of_getElem? (i := 663) (by decide +kernel), List.mem_of_getElem? (i := 836) (by decide +kernel), List.mem_of_getElem? (i := 837) (by decide +kernel)⟩
theorem lw_p36 : lw_okq (⟨"FaithRailsModel", "aboard", "()I"⟩, 17) := ⟨⟨by decide +kernel, by decide +kernel⟩, List.mem_of_getElem? (i := 663) (by decide +kernel), List.mem_of_getElem? (i := 844) (by decide +kernel), List.mem_of_getElem? (i := 845) (by decide +kernel)⟩
theorem lw_p37 : lw_okq (⟨"FaithRailsModel", "allThere", "()I"⟩, 17) := ⟨⟨by decide +kernel, by decide +kernel⟩, List.mem_of_getElem? (i := 663) (by decide +kernel), List.mem_of_getElem? (i := 848) (by decide +kernel), List.mem_of_getElem? (i := 849) (by decide +kernel)⟩
theorem lw_p38 : lw_okq (⟨"FaithRailsModel", "allBelief", "()I"⟩, 17) := ⟨⟨by decide +kernel, by decide +kernel⟩, List.mem_of_getElem? (i := 663) (by decide +kernel), List.mem_of_getElem? (i := 852) (by decide +kernel), List.mem_of_getElem? (i := 853) (by decide +kernel)⟩
theorem lw_p39 : lw_okq (⟨"FaithRailsModel", "thinks", "()V"⟩, 17) := ⟨⟨by decide +kernel, by decide +kernel⟩, List.mem_of_getElem? (i := 663) (by decide +kernel), List.mem_of_getElem? (i := 860) (by decide +kernel), List.mem_of_getElem? (i := 861) (by decide +kernel)⟩
theorem lw_p40 : lw_okq (⟨"FaithRailsModel", "getsTo", "(I)I"⟩, 17) := ⟨⟨by decide +kernel, by decide +kernel⟩, List.mem_of_getElem? (i := 663) (by decide +kernel), List.mem_of_getElem? (i := 867) (by decide +kernel), List.mem_of_getElem? (i := 868) (by decide +kernel)⟩
theorem lw_p41 : lw_okq (⟨"FaithRailsModel", "putsBack", "()V"⟩, 17) := ⟨⟨by decide +kernel, by decide +kernel⟩, List.mem_of_getElem? (i := 663) (by decide +kernel), List.mem_of_getElem? (i := 871) (by decide +kernel), List.mem_of_getElem? (i := 872) (by decide +kernel)⟩
theorem lw_p42 : lw_okq (⟨"FaithRailsModel", "isSettled", "()Z"⟩, 17) := ⟨⟨by decide +kernel, by decide +kernel⟩, List.mem_of_getElem? (i := 663) (by decide +kernel), List.mem_of_getElem? (i := 895) (by decide +kernel), List.mem_of_getElem? (i := 896) (by decide +kernel)⟩
theorem lw_p43 : lw_okq (⟨"FaithRailsModel", "farthestBy", "(III)I"⟩, 17) := ⟨⟨by decide +kernel, by decide +kernel⟩, List.mem_of_getElem? (i := 663) (by decide +kernel), List.mem_of_getElem? (i := 907) (by decide +kernel), List.mem_of_getElem? (i := 908) (by decide +kernel)⟩
theorem lw_p44 : lw_okq (⟨"FaithRailsModel", "getsWith", "(II)I"⟩, 17) := ⟨⟨by decide +kernel, by decide +kernel⟩, List.mem_of_getElem? (i := 663) (by decide +kernel), List.mem_of_getElem? (i := 915) (by decide +kernel), List.mem_of_getElem? (i := 916) (by decide +kernel)⟩
theorem lw_p45 : lw_okq (⟨"FaithRailsModel", "orNone", "(I)I"⟩, 17) := ⟨⟨by decide +kernel, by decide +kernel⟩, List.mem_of_getElem? (i := 663) (by decide +kernel), List.mem_of_getElem? (i := 926) (by decide +kernel), List.mem_of_getElem? (i := 927) (by decide +kernel)⟩
theorem lw_p46 : lw_okq (⟨"FaithRailsModel", "notAsked", "(II)I"⟩, 17) := ⟨⟨by decide +kernel, by decide +kernel⟩, List.mem_of_getElem? (i := 663) (by decide +kernel), List.mem_of_getElem? (i := 954) (by decide +kernel), List.mem_of_getElem? (i := 955) (by decide +kernel)⟩
theorem lw_p47 : lw_okq (⟨"FaithRailsModel", "notThere", "(I)I"⟩, 17) := ⟨⟨by decide +kernel, by decide +kernel⟩, List.mem_of_getElem? (i := 663) (by decide +kernel), List.mem_of_getElem? (i := 958) (by decide +kernel), List.mem_of_getElem? (i := 959) (by decide +kernel)⟩
def lw_privs_3 : List (MethodName × Nat) := [(⟨"FaithRailsModel", "hour", "()V"⟩, 17), (⟨"FaithRailsModel", "willFall", "()Z"⟩, 17), (⟨"FaithRailsModel", "sways", "()V"⟩, 17), (⟨"FaithRailsModel", "meanWith", "(I)I"⟩, 17), (⟨"FaithRailsModel", "aboard", "()I"⟩, 17), (⟨"FaithRailsModel", "allThere", "()I"⟩, 17), (⟨"FaithRailsModel", "allBelief", "()I"⟩, 17), (⟨"FaithRailsModel", "thinks", "()V"⟩, 17), (⟨"FaithRailsModel", "getsTo", "(I)I"⟩, 17), (⟨"FaithRailsModel", "putsBack", "()V"⟩, 17), (⟨"FaithRailsModel", "isSettled", "()Z"⟩, 17), (⟨"FaithRailsModel", "farthestBy", "(III)I"⟩, 17), (⟨"FaithRailsModel", "getsWith", "(II)I"⟩, 17), (⟨"FaithRailsModel", "orNone", "(I)I"⟩, 17), (⟨"FaithRailsModel", "notAsked", "(II)I"⟩, 17), (⟨"FaithRailsModel", "notThere", "(I)I"⟩, 17)]
theorem lw_r3 : ∀ q ∈ lw_privs_3, lw_okq q := List.forall_mem_cons.mpr ⟨lw_p32, List.forall_mem_cons.mpr ⟨lw_p33, List.forall_mem_cons.mpr ⟨lw_p34, List.forall_mem_cons.mpr ⟨lw_p35, List.forall_mem_cons.mpr ⟨lw_p36, List.forall_mem_cons.mpr ⟨lw_p37, List.forall_mem_cons.mpr ⟨lw_p38, List.forall_mem_cons.mpr ⟨lw_p39, List.forall_mem_cons.mpr ⟨lw_p40, List.forall_mem_cons.mpr ⟨lw_p41, List.forall_mem_cons.mpr ⟨lw_p42, List.forall_mem_cons.mpr ⟨lw_p43, List.forall_mem_cons.mpr ⟨lw_p44, List.forall_mem_cons.mpr ⟨lw_p45, List.forall_mem_cons.mpr ⟨lw_p46, List.forall_mem_cons.mpr ⟨lw_p47, fun _ h => absurd h List.not_mem_nil⟩⟩⟩⟩⟩⟩⟩⟩⟩⟩⟩⟩⟩⟩⟩⟩
theorem lw_p48 : lw_okq (⟨"FaithRailsModel", "wrongIn", "(IZ)I"⟩, 17) := ⟨⟨by decide +kernel, by decide +kernel⟩, List.mem_of_getElem? (i := 663) (by decide +kernel), List.mem_of_getElem? (i := 966) (by decide +kernel), List.mem_of_getElem? (i := 967) (by decide +kernel)⟩
theorem lw_p49 : lw_okq (⟨"FaithRailsModel", "isRun", "(I)Z"⟩, 17) := ⟨⟨by decide +kernel, by decide +kernel⟩, List.mem_of_getElem? (i := 663) (by decide +kernel), List.mem_of_getElem? (i := 990) (by decide +kernel), List.mem_of_getElem? (i := 991) (by decide +kernel)⟩
theorem lw_p50 : lw_okq (⟨"FaithRailsModel", "draw", "()I"⟩, 17) := ⟨⟨by decide +kernel, by decide +kernel⟩, List.mem_of_getElem? (i := 663) (by decide +kernel), List.mem_of_getElem? (i := 998) (by decide +kernel), List.mem_of_getElem? (i := 999) (by decide +kernel)⟩
theorem lw_p51 : lw_okq (⟨"FaithRailsModel", "reads", "()V"⟩, 17) := ⟨⟨by decide +kernel, by decide +kernel⟩, List.mem_of_getElem? (i := 663) (by decide +kernel), List.mem_of_getElem? (i := 1025) (by decide +kernel), List.mem_of_getElem? (i := 1026) (by decide +kernel)⟩
theorem lw_p52 : lw_okq (⟨"FaithRailsModel", "isByte", "(III)Z"⟩, 17) := ⟨⟨by decide +kernel, by decide +kernel⟩, List.mem_of_getElem? (i := 663) (by decide +kernel), List.mem_of_getElem? (i := 1029) (by decide +kernel), List.mem_of_getElem? (i := 1030) (by decide +kernel)⟩
theorem lw_p53 : lw_okq (⟨"FaithRailsModel", "wordHere", "()I"⟩, 17) := ⟨⟨by decide +kernel, by decide +kernel⟩, List.mem_of_getElem? (i := 663) (by decide +kernel), List.mem_of_getElem? (i := 1033) (by decide +kernel), List.mem_of_getElem? (i := 1034) (by decide +kernel)⟩
theorem lw_p54 : lw_okq (⟨"FaithRailsModel", "isName", "(II)Z"⟩, 17) := ⟨⟨by decide +kernel, by decide +kernel⟩, List.mem_of_getElem? (i := 663) (by decide +kernel), List.mem_of_getElem? (i := 1037) (by decide +kernel), List.mem_of_getElem? (i := 1038) (by decide +kernel)⟩
theorem lw_p55 : lw_okq (⟨"FaithRailsModel", "item", "()V"⟩, 17) := ⟨⟨by decide +kernel, by decide +kernel⟩, List.mem_of_getElem? (i := 663) (by decide +kernel), List.mem_of_getElem? (i := 1043) (by decide +kernel), List.mem_of_getElem? (i := 1044) (by decide +kernel)⟩
theorem lw_p56 : lw_okq (⟨"FaithRailsModel", "oneItem", "()V"⟩, 17) := ⟨⟨by decide +kernel, by decide +kernel⟩, List.mem_of_getElem? (i := 663) (by decide +kernel), List.mem_of_getElem? (i := 1047) (by decide +kernel), List.mem_of_getElem? (i := 1048) (by decide +kernel)⟩
theorem lw_p57 : lw_okq (⟨"FaithRailsModel", "perhaps", "(IIII)I"⟩, 17) := ⟨⟨by decide +kernel, by decide +kernel⟩, List.mem_of_getElem? (i := 663) (by decide +kernel), List.mem_of_getElem? (i := 1051) (by decide +kernel), List.mem_of_getElem? (i := 1052) (by decide +kernel)⟩
theorem lw_p58 : lw_okq (⟨"FaithRailsModel", "takes", "(I)Z"⟩, 17) := ⟨⟨by decide +kernel, by decide +kernel⟩, List.mem_of_getElem? (i := 663) (by decide +kernel), List.mem_of_getElem? (i := 1055) (by decide +kernel), List.mem_of_getElem? (i := 1056) (by decide +kernel)⟩
theorem lw_p59 : lw_okq (⟨"FaithRailsModel", "number", "(II)I"⟩, 17) := ⟨⟨by decide +kernel, by decide +kernel⟩, List.mem_of_getElem? (i := 663) (by decide +kernel), List.mem_of_getElem? (i := 1059) (by decide +kernel), List.mem_of_getElem? (i := 1060) (by decide +kernel)⟩
theorem lw_p60 : lw_okq (⟨"FaithRailsModel", "needItem", "()V"⟩, 17) := ⟨⟨by decide +kernel, by decide +kernel⟩, List.mem_of_getElem? (i := 663) (by decide +kernel), List.mem_of_getElem? (i := 1063) (by decide +kernel), List.mem_of_getElem? (i := 1064) (by decide +kernel)⟩
theorem lw_p61 : lw_okq (⟨"FaithRailsModel", "notCopied", "(IIIII)I"⟩, 17) := ⟨⟨by decide +kernel, by decide +kernel⟩, List.mem_of_getElem? (i := 663) (by decide +kernel), List.mem_of_getElem? (i := 1092) (by decide +kernel), List.mem_of_getElem? (i := 1093) (by decide +kernel)⟩
theorem lw_p62 : lw_okq (⟨"FaithRailsModel", "manyHeld", "()I"⟩, 17) := ⟨⟨by decide +kernel, by decide +kernel⟩, List.mem_of_getElem? (i := 663) (by decide +kernel), List.mem_of_getElem? (i := 1120) (by decide +kernel), List.mem_of_getElem? (i := 1121) (by decide +kernel)⟩
def lw_privs_4 : List (MethodName × Nat) := [(⟨"FaithRailsModel", "wrongIn", "(IZ)I"⟩, 17), (⟨"FaithRailsModel", "isRun", "(I)Z"⟩, 17), (⟨"FaithRailsModel", "draw", "()I"⟩, 17), (⟨"FaithRailsModel", "reads", "()V"⟩, 17), (⟨"FaithRailsModel", "isByte", "(III)Z"⟩, 17), (⟨"FaithRailsModel", "wordHere", "()I"⟩, 17), (⟨"FaithRailsModel", "isName", "(II)Z"⟩, 17), (⟨"FaithRailsModel", "item", "()V"⟩, 17), (⟨"FaithRailsModel", "oneItem", "()V"⟩, 17), (⟨"FaithRailsModel", "perhaps", "(IIII)I"⟩, 17), (⟨"FaithRailsModel", "takes", "(I)Z"⟩, 17), (⟨"FaithRailsModel", "number", "(II)I"⟩, 17), (⟨"FaithRailsModel", "needItem", "()V"⟩, 17), (⟨"FaithRailsModel", "notCopied", "(IIIII)I"⟩, 17), (⟨"FaithRailsModel", "manyHeld", "()I"⟩, 17)]
theorem lw_r4 : ∀ q ∈ lw_privs_4, lw_okq q := List.forall_mem_cons.mpr ⟨lw_p48, List.forall_mem_cons.mpr ⟨lw_p49, List.forall_mem_cons.mpr ⟨lw_p50, List.forall_mem_cons.mpr ⟨lw_p51, List.forall_mem_cons.mpr ⟨lw_p52, List.forall_mem_cons.mpr ⟨lw_p53, List.forall_mem_cons.mpr ⟨lw_p54, List.forall_mem_cons.mpr ⟨lw_p55, List.forall_mem_cons.mpr ⟨lw_p56, List.forall_mem_cons.mpr ⟨lw_p57, List.forall_mem_cons.mpr ⟨lw_p58, List.forall_mem_cons.mpr ⟨lw_p59, List.forall_mem_cons.mpr ⟨lw_p60, List.forall_mem_cons.mpr ⟨lw_p61, List.forall_mem_cons.mpr ⟨lw_p62, fun _ h => absurd h List.not_mem_nil⟩⟩⟩⟩⟩⟩⟩⟩⟩⟩⟩⟩⟩⟩⟩
def lw_privs : List (MethodName × Nat) := lw_privs_1 ++ (lw_privs_2 ++ (lw_privs_3 ++ (lw_privs_4)))
def lw_tbl : List Cond := k2_sels lw_privs ++ tables_1
theorem lw_privs_ok : ∀ q ∈ lw_privs, lw_okq q := by
  show ∀ q ∈ lw_privs_1 ++ (lw_privs_2 ++ (lw_privs_3 ++ (lw_privs_4))), lw_okq q
  exact List.forall_mem_append.mpr ⟨lw_r1, List.forall_mem_append.mpr ⟨lw_r2, List.forall_mem_append.mpr ⟨lw_r3, lw_r4⟩⟩⟩
end
section
/-! names: the classes' fields, the methods, the words of the tables by their places (by program out of the printed claim) -/
def RX0 : String := "FaithRails$Prairie"
def TX0 : u_T := fun k => match k with
  | 0 => ("FaithRails$Prairie", "needs", "[I", true)
  | 1 => ("FaithRails$Prairie", "kindOf", "[I", true)
  | 2 => ("FaithRails$Prairie", "whereOf", "[I", true)
  | 3 => ("FaithRails$Prairie", "beliefOf", "[I", true)
  | 4 => ("FaithRails$Prairie", "spots", "[I", true)
  | 5 => ("FaithRails$Prairie", "people", "I", false)
  | 6 => ("FaithRails$Prairie", "train", "I", false)
  | 7 => ("FaithRails$Prairie", "night", "I", false)
  | 8 => ("FaithRails$Prairie", "gain", "I", false)
  | 9 => ("FaithRails$Prairie", "loss", "I", false)
  | 10 => ("FaithRails$Prairie", "fallen", "I", false)
  | 11 => ("FaithRails$Prairie", "hours", "I", false)
  | 12 => ("FaithRails$Prairie", "z", "I", false)
  | 13 => ("FaithRails$Prairie", "beliefBefore", "[I", true)
  | 14 => ("FaithRails$Prairie", "beliefsTogether", "[I", true)
  | _ => ("FaithRails$Prairie", "headsTogether", "[I", true)
def tyX0 : Nat → FieldType := fun k => match k with
  | 0 => .array .int
  | 1 => .array .int
  | 2 => .array .int
  | 3 => .array .int
  | 4 => .array .int
  | 5 => .int
  | 6 => .int
  | 7 => .int
  | 8 => .int
  | 9 => .int
  | 10 => .int
  | 11 => .int
  | 12 => .int
  | 13 => .array .int
  | 14 => .array .int
  | _ => .array .int
theorem nmX0 : ∀ a, a < 16 → ∀ b, b < 16 → a ≠ b → (TX0 a).2.1 ≠ (TX0 b).2.1 := by decide +kernel
theorem tyX0_ok : ∀ k, k < 16 → parseFieldDescriptor (TX0 k).2.2.1 = some (tyX0 k) := by decide +kernel
def RX1 : String := "FaithRails$Sheet"
def TX1 : u_T := fun k => match k with
  | 0 => ("FaithRails$Sheet", "bits", "I", false)
  | 1 => ("FaithRails$Sheet", "length", "I", false)
  | _ => ("FaithRails$Sheet", "numbers", "[I", true)
def tyX1 : Nat → FieldType := fun k => match k with
  | 0 => .int
  | 1 => .int
  | _ => .array .int
theorem nmX1 : ∀ a, a < 3 → ∀ b, b < 3 → a ≠ b → (TX1 a).2.1 ≠ (TX1 b).2.1 := by decide +kernel
theorem tyX1_ok : ∀ k, k < 3 → parseFieldDescriptor (TX1 k).2.2.1 = some (tyX1 k) := by decide +kernel
def RX2 : String := "FaithRails$Tape"
def TX2 : u_T := fun k => match k with
  | 0 => ("FaithRails$Tape", "bytes", "[B", true)
  | 1 => ("FaithRails$Tape", "length", "I", false)
  | 2 => ("FaithRails$Tape", "token", "I", false)
  | 3 => ("FaithRails$Tape", "begin", "I", false)
  | 4 => ("FaithRails$Tape", "end", "I", false)
  | _ => ("FaithRails$Tape", "value", "I", false)
def tyX2 : Nat → FieldType := fun k => match k with
  | 0 => .array .byte
  | 1 => .int
  | 2 => .int
  | 3 => .int
  | 4 => .int
  | _ => .int
theorem nmX2 : ∀ a, a < 6 → ∀ b, b < 6 → a ≠ b → (TX2 a).2.1 ≠ (TX2 b).2.1 := by decide +kernel
theorem tyX2_ok : ∀ k, k < 6 → parseFieldDescriptor (TX2 k).2.2.1 = some (tyX2 k) := by decide +kernel
def RX3 : String := "FaithRails"
def TX3 : u_T := fun k => match k with
  | 0 => ("FaithRails", "line", "LFaithRails$Prairie;", true)
  | 1 => ("FaithRails", "trial", "LFaithRails$Prairie;", true)
  | 2 => ("FaithRails", "kept", "LFaithRails$Prairie;", true)
  | 3 => ("FaithRails", "keeps", "Z", false)
  | 4 => ("FaithRails", "tape", "LFaithRails$Tape;", true)
  | 5 => ("FaithRails", "sheets", "[LFaithRails$Sheet;", true)
  | 6 => ("FaithRails", "brought", "[I", true)
  | _ => ("FaithRails", "findings", "[I", true)
def tyX3 : Nat → FieldType := fun k => match k with
  | 0 => .object "FaithRails$Prairie"
  | 1 => .object "FaithRails$Prairie"
  | 2 => .object "FaithRails$Prairie"
  | 3 => .boolean
  | 4 => .object "FaithRails$Tape"
  | 5 => .array (.object "FaithRails$Sheet")
  | 6 => .array .int
  | _ => .array .int
theorem nmX3 : ∀ a, a < 8 → ∀ b, b < 8 → a ≠ b → (TX3 a).2.1 ≠ (TX3 b).2.1 := by decide +kernel
theorem tyX3_ok : ∀ k, k < 8 → parseFieldDescriptor (TX3 k).2.2.1 = some (tyX3 k) := by decide +kernel
def RX4 : String := "FaithRailsModel"
def TX4 : u_T := fun k => match k with
  | 0 => ("FaithRailsModel", "m", "[I", true)
  | 1 => ("FaithRailsModel", "kept", "[I", true)
  | 2 => ("FaithRailsModel", "was", "[I", true)
  | 3 => ("FaithRailsModel", "isKept", "Z", false)
  | 4 => ("FaithRailsModel", "found", "[I", true)
  | 5 => ("FaithRailsModel", "then", "[I", true)
  | 6 => ("FaithRailsModel", "earlier", "[I", true)
  | 7 => ("FaithRailsModel", "bitsOf", "[I", true)
  | 8 => ("FaithRailsModel", "sizeOf", "[I", true)
  | 9 => ("FaithRailsModel", "cells", "[I", true)
  | 10 => ("FaithRailsModel", "tape", "[I", true)
  | 11 => ("FaithRailsModel", "taped", "I", false)
  | 12 => ("FaithRailsModel", "token", "I", false)
  | 13 => ("FaithRailsModel", "begin", "I", false)
  | 14 => ("FaithRailsModel", "at", "I", false)
  | 15 => ("FaithRailsModel", "value", "I", false)
  | _ => ("FaithRailsModel", "bad", "Z", false)
def tyX4 : Nat → FieldType := fun k => match k with
  | 0 => .array .int
  | 1 => .array .int
  | 2 => .array .int
  | 3 => .boolean
  | 4 => .array .int
  | 5 => .array .int
  | 6 => .array .int
  | 7 => .array .int
  | 8 => .array .int
  | 9 => .array .int
  | 10 => .array .int
  | 11 => .int
  | 12 => .int
  | 13 => .int
  | 14 => .int
  | 15 => .int
  | _ => .boolean
theorem nmX4 : ∀ a, a < 17 → ∀ b, b < 17 → a ≠ b → (TX4 a).2.1 ≠ (TX4 b).2.1 := by decide +kernel
theorem tyX4_ok : ∀ k, k < 17 → parseFieldDescriptor (TX4 k).2.2.1 = some (tyX4 k) := by decide +kernel
def RX5 : String := "FaithRailsLaw"
abbrev x_cl : List vw_C := [(RX0, TX0, 16), (RX1, TX1, 3), (RX2, TX2, 6), (RX3, TX3, 8), (RX4, TX4, 17)]
abbrev x_M : Type := MethodName × ByteArray × Nat × Option FieldType × Nat × Nat
def yX0_init : MethodName := ⟨RX0, "<init>", "()V"⟩
def yX0_becomes : MethodName := ⟨RX0, "becomes", "(LFaithRails$Prairie;)V"⟩
def yX0_newcomer : MethodName := ⟨RX0, "newcomer", "(III)I"⟩
def yX0_letRide : MethodName := ⟨RX0, "letRide", "(I)V"⟩
def yX0_faith : MethodName := ⟨RX0, "faith", "(I)I"⟩
def yX0_companions : MethodName := ⟨RX0, "companions", "(I)I"⟩
def yX0_brings : MethodName := ⟨RX0, "brings", "(II)I"⟩
def yX0_sumAt : MethodName := ⟨RX0, "sumAt", "(I)I"⟩
def yX0_isThere : MethodName := ⟨RX0, "isThere", "(I)Z"⟩
def yX0_thereSet : MethodName := ⟨RX0, "thereSet", "()I"⟩
def yX0_aboardSet : MethodName := ⟨RX0, "aboardSet", "()I"⟩
def yX0_beliefOfAll : MethodName := ⟨RX0, "beliefOfAll", "()I"⟩
def yX0_spotsInUse : MethodName := ⟨RX0, "spotsInUse", "()I"⟩
def yX0_nextDraw : MethodName := ⟨RX0, "nextDraw", "()I"⟩
def yX0_passHours : MethodName := ⟨RX0, "passHours", "(I)V"⟩
def yX0_yardBehind : MethodName := ⟨RX0, "yardBehind", "(I)I"⟩
def yX0_passHour : MethodName := ⟨RX0, "passHour", "()Z"⟩
def yX0_moveBeliefsAboard : MethodName := ⟨RX0, "moveBeliefsAboard", "(I)V"⟩
def yX0_sway : MethodName := ⟨RX0, "sway", "()V"⟩
def yX0_anyBeliefMoved : MethodName := ⟨RX0, "anyBeliefMoved", "()Z"⟩
def yX1_init : MethodName := ⟨RX1, "<init>", "()V"⟩
def yX1_begin : MethodName := ⟨RX1, "begin", "(II)V"⟩
def yX1_lowest : MethodName := ⟨RX1, "lowest", "(I)I"⟩
def yX1_hasRow : MethodName := ⟨RX1, "hasRow", "(II)Z"⟩
def yX2_init : MethodName := ⟨RX2, "<init>", "()V"⟩
def yX2_append : MethodName := ⟨RX2, "append", "(II)V"⟩
def yX2_tellAll : MethodName := ⟨RX2, "tellAll", "(LFaithRails$Prairie;)I"⟩
def yX2_item : MethodName := ⟨RX2, "item", "(LFaithRails$Prairie;)Z"⟩
def yX2_kindNamed : MethodName := ⟨RX2, "kindNamed", "()I"⟩
def yX2_newcomer : MethodName := ⟨RX2, "newcomer", "(LFaithRails$Prairie;I)Z"⟩
def yX2_needOfStretch : MethodName := ⟨RX2, "needOfStretch", "(LFaithRails$Prairie;)Z"⟩
def yX2_numberFollows : MethodName := ⟨RX2, "numberFollows", "(I)Z"⟩
def yX2_isWord : MethodName := ⟨RX2, "isWord", "(Ljava/lang/String;)Z"⟩
def yX2_advance : MethodName := ⟨RX2, "advance", "()V"⟩
def yX2_isLetter : MethodName := ⟨RX2, "isLetter", "(I)Z"⟩
def yX2_isDigit : MethodName := ⟨RX2, "isDigit", "(I)Z"⟩
def yX3_init : MethodName := ⟨RX3, "<init>", "()V"⟩
def yX3_need : MethodName := ⟨RX3, "need", "(II)I"⟩
def yX3_stretch : MethodName := ⟨RX3, "stretch", "(II)I"⟩
def yX3_person : MethodName := ⟨RX3, "person", "(II)I"⟩
def yX3_of : MethodName := ⟨RX3, "of", "(II)I"⟩
def yX3_change : MethodName := ⟨RX3, "change", "(III)I"⟩
def yX3_set : MethodName := ⟨RX3, "set", "(II)I"⟩
def yX3_board : MethodName := ⟨RX3, "board", "(I)I"⟩
def yX3_leave : MethodName := ⟨RX3, "leave", "(I)I"⟩
def yX3_go : MethodName := ⟨RX3, "go", "(I)I"⟩
def yX3_now : MethodName := ⟨RX3, "now", "(I)I"⟩
def yX3_ahead : MethodName := ⟨RX3, "ahead", "(I)I"⟩
def yX3_believes : MethodName := ⟨RX3, "believes", "(II)I"⟩
def yX3_when : MethodName := ⟨RX3, "when", "(I)I"⟩
def yX3_falls : MethodName := ⟨RX3, "falls", "()I"⟩
def yX3_settles : MethodName := ⟨RX3, "settles", "()I"⟩
def yX3_there : MethodName := ⟨RX3, "there", "(I)I"⟩
def yX3_kindFor : MethodName := ⟨RX3, "kindFor", "(II)I"⟩
def yX3_with : MethodName := ⟨RX3, "with", "(II)I"⟩
def yX3_fewest : MethodName := ⟨RX3, "fewest", "(II)I"⟩
def yX3_farthest : MethodName := ⟨RX3, "farthest", "(I)I"⟩
def yX3_without : MethodName := ⟨RX3, "without", "(I)I"⟩
def yX3_persuade : MethodName := ⟨RX3, "persuade", "(III)I"⟩
def yX3_bears : MethodName := ⟨RX3, "bears", "(II)I"⟩
def yX3_seat : MethodName := ⟨RX3, "seat", "(II)I"⟩
def yX3_greatestSumMet : MethodName := ⟨RX3, "greatestSumMet", "(II)I"⟩
def yX3_trialWith : MethodName := ⟨RX3, "trialWith", "(I)LFaithRails$Prairie;"⟩
def yX3_trialBelieving : MethodName := ⟨RX3, "trialBelieving", "(II)LFaithRails$Prairie;"⟩
def yX3_kinds : MethodName := ⟨RX3, "kinds", "(II)I"⟩
def yX3_beliefs : MethodName := ⟨RX3, "beliefs", "(II)I"⟩
def yX3_least : MethodName := ⟨RX3, "least", "(II)I"⟩
def yX3_firstWrong : MethodName := ⟨RX3, "firstWrong", "(LFaithRails$Prairie;LFaithRails$Sheet;Z)I"⟩
def yX3_worth : MethodName := ⟨RX3, "worth", "()I"⟩
def yX3_hangs : MethodName := ⟨RX3, "hangs", "(I)I"⟩
def yX3_run : MethodName := ⟨RX3, "run", "()I"⟩
def yX3_noteWhatIsBrought : MethodName := ⟨RX3, "noteWhatIsBrought", "()V"⟩
def yX3_endsAll : MethodName := ⟨RX3, "endsAll", "(II)Z"⟩
def yX3_gold : MethodName := ⟨RX3, "gold", "(I)I"⟩
def yX3_odds : MethodName := ⟨RX3, "odds", "(II)J"⟩
def yX3_seed : MethodName := ⟨RX3, "seed", "(I)I"⟩
def yX3_feed : MethodName := ⟨RX3, "feed", "(II)I"⟩
def yX3_wipe : MethodName := ⟨RX3, "wipe", "()I"⟩
def yX3_text : MethodName := ⟨RX3, "text", "()I"⟩
def yX3_hold : MethodName := ⟨RX3, "hold", "(II)I"⟩
def yX3_as : MethodName := ⟨RX3, "as", "(II)I"⟩
def yX3_sheet : MethodName := ⟨RX3, "sheet", "(III)I"⟩
def yX3_write : MethodName := ⟨RX3, "write", "(III)I"⟩
def yX3_copy : MethodName := ⟨RX3, "copy", "(IIIII)I"⟩
def yX3_load : MethodName := ⟨RX3, "load", "(I)I"⟩
def yX3_judge : MethodName := ⟨RX3, "judge", "(I)I"⟩
def yX3_image : MethodName := ⟨RX3, "image", "()I"⟩
def yX3_undo : MethodName := ⟨RX3, "undo", "()I"⟩
def yX3_tear : MethodName := ⟨RX3, "tear", "()I"⟩
def yX3_count : MethodName := ⟨RX3, "count", "(I)I"⟩
def yX3_status : MethodName := ⟨RX3, "status", "(I)I"⟩
def yX3_finding : MethodName := ⟨RX3, "finding", "(I)I"⟩
def yX3_isWithin : MethodName := ⟨RX3, "isWithin", "(III)Z"⟩
def yX3_isStretch : MethodName := ⟨RX3, "isStretch", "(I)Z"⟩
def yX3_isYard : MethodName := ⟨RX3, "isYard", "(I)Z"⟩
def yX3_isKind : MethodName := ⟨RX3, "isKind", "(I)Z"⟩
def yX3_isRide : MethodName := ⟨RX3, "isRide", "(I)Z"⟩
def yX3_isSpot : MethodName := ⟨RX3, "isSpot", "(I)Z"⟩
def yX3_isPerson : MethodName := ⟨RX3, "isPerson", "(I)Z"⟩
def yX3_setsOfPeople : MethodName := ⟨RX3, "setsOfPeople", "()I"⟩
def yX3_sheetAt : MethodName := ⟨RX3, "sheetAt", "(I)LFaithRails$Sheet;"⟩
def yX3_has : MethodName := ⟨RX3, "has", "(II)Z"⟩
def yX3_isUnder : MethodName := ⟨RX3, "isUnder", "(II)Z"⟩
def yX4_init : MethodName := ⟨RX4, "<init>", "()V"⟩
def yX4_finds : MethodName := ⟨RX4, "finds", "(I)I"⟩
def yX4_orNone : MethodName := ⟨RX4, "orNone", "(I)I"⟩
def yX4_in : MethodName := ⟨RX4, "in", "(III)Z"⟩
def yX4_held : MethodName := ⟨RX4, "held", "(III)I"⟩
def yX4_copyAll : MethodName := ⟨RX4, "copyAll", "([I[I)V"⟩
def yX4_becomes : MethodName := ⟨RX4, "becomes", "(II)I"⟩
def yX4_isOne : MethodName := ⟨RX4, "isOne", "(I)Z"⟩
def yX4_isStretch : MethodName := ⟨RX4, "isStretch", "(I)Z"⟩
def yX4_isYard : MethodName := ⟨RX4, "isYard", "(I)Z"⟩
def yX4_told : MethodName := ⟨RX4, "told", "(II)I"⟩
def yX4_put : MethodName := ⟨RX4, "put", "(III)V"⟩
def yX4_bits : MethodName := ⟨RX4, "bits", "(I)I"⟩
def yX4_othersWith : MethodName := ⟨RX4, "othersWith", "(I)I"⟩
def yX4_faithOf : MethodName := ⟨RX4, "faithOf", "(I)I"⟩
def yX4_farFrom : MethodName := ⟨RX4, "farFrom", "(II)I"⟩
def yX4_brings : MethodName := ⟨RX4, "brings", "(II)I"⟩
def yX4_sumAt : MethodName := ⟨RX4, "sumAt", "(I)I"⟩
def yX4_isThere : MethodName := ⟨RX4, "isThere", "(I)Z"⟩
def yX4_allThere : MethodName := ⟨RX4, "allThere", "()I"⟩
def yX4_need : MethodName := ⟨RX4, "need", "(II)I"⟩
def yX4_stretch : MethodName := ⟨RX4, "stretch", "(II)I"⟩
def yX4_comes : MethodName := ⟨RX4, "comes", "(III)I"⟩
def yX4_person : MethodName := ⟨RX4, "person", "(II)I"⟩
def yX4_of : MethodName := ⟨RX4, "of", "(II)I"⟩
def yX4_mayBe : MethodName := ⟨RX4, "mayBe", "(II)Z"⟩
def yX4_change : MethodName := ⟨RX4, "change", "(III)I"⟩
def yX4_set : MethodName := ⟨RX4, "set", "(II)I"⟩
def yX4_board : MethodName := ⟨RX4, "board", "(I)I"⟩
def yX4_leave : MethodName := ⟨RX4, "leave", "(I)I"⟩
def yX4_meanWith : MethodName := ⟨RX4, "meanWith", "(I)I"⟩
def yX4_sways : MethodName := ⟨RX4, "sways", "()V"⟩
def yX4_willFall : MethodName := ⟨RX4, "willFall", "()Z"⟩
def yX4_hour : MethodName := ⟨RX4, "hour", "()V"⟩
def yX4_goesOn : MethodName := ⟨RX4, "goesOn", "(I)V"⟩
def yX4_aboard : MethodName := ⟨RX4, "aboard", "()I"⟩
def yX4_allBelief : MethodName := ⟨RX4, "allBelief", "()I"⟩
def yX4_go : MethodName := ⟨RX4, "go", "(I)I"⟩
def yX4_now : MethodName := ⟨RX4, "now", "(I)I"⟩
def yX4_thinks : MethodName := ⟨RX4, "thinks", "()V"⟩
def yX4_putsBack : MethodName := ⟨RX4, "putsBack", "()V"⟩
def yX4_getsTo : MethodName := ⟨RX4, "getsTo", "(I)I"⟩
def yX4_ahead : MethodName := ⟨RX4, "ahead", "(I)I"⟩
def yX4_believes : MethodName := ⟨RX4, "believes", "(II)I"⟩
def yX4_when : MethodName := ⟨RX4, "when", "(I)I"⟩
def yX4_falls : MethodName := ⟨RX4, "falls", "()I"⟩
def yX4_isSettled : MethodName := ⟨RX4, "isSettled", "()Z"⟩
def yX4_settles : MethodName := ⟨RX4, "settles", "()I"⟩
def yX4_there : MethodName := ⟨RX4, "there", "(I)I"⟩
def yX4_farthestBy : MethodName := ⟨RX4, "farthestBy", "(III)I"⟩
def yX4_kindFor : MethodName := ⟨RX4, "kindFor", "(II)I"⟩
def yX4_getsWith : MethodName := ⟨RX4, "getsWith", "(II)I"⟩
def yX4_with : MethodName := ⟨RX4, "with", "(II)I"⟩
def yX4_fewest : MethodName := ⟨RX4, "fewest", "(II)I"⟩
def yX4_farthest : MethodName := ⟨RX4, "farthest", "(I)I"⟩
def yX4_without : MethodName := ⟨RX4, "without", "(I)I"⟩
def yX4_persuade : MethodName := ⟨RX4, "persuade", "(III)I"⟩
def yX4_bears : MethodName := ⟨RX4, "bears", "(II)I"⟩
def yX4_seat : MethodName := ⟨RX4, "seat", "(II)I"⟩
def yX4_isSheet : MethodName := ⟨RX4, "isSheet", "(I)Z"⟩
def yX4_notThere : MethodName := ⟨RX4, "notThere", "(I)I"⟩
def yX4_wrongIn : MethodName := ⟨RX4, "wrongIn", "(IZ)I"⟩
def yX4_notAsked : MethodName := ⟨RX4, "notAsked", "(II)I"⟩
def yX4_kinds : MethodName := ⟨RX4, "kinds", "(II)I"⟩
def yX4_beliefs : MethodName := ⟨RX4, "beliefs", "(II)I"⟩
def yX4_least : MethodName := ⟨RX4, "least", "(II)I"⟩
def yX4_worth : MethodName := ⟨RX4, "worth", "()I"⟩
def yX4_hangs : MethodName := ⟨RX4, "hangs", "(I)I"⟩
def yX4_isRun : MethodName := ⟨RX4, "isRun", "(I)Z"⟩
def yX4_run : MethodName := ⟨RX4, "run", "()I"⟩
def yX4_draw : MethodName := ⟨RX4, "draw", "()I"⟩
def yX4_gold : MethodName := ⟨RX4, "gold", "(I)I"⟩
def yX4_odds : MethodName := ⟨RX4, "odds", "(II)J"⟩
def yX4_seed : MethodName := ⟨RX4, "seed", "(I)I"⟩
def yX4_feed : MethodName := ⟨RX4, "feed", "(II)I"⟩
def yX4_wipe : MethodName := ⟨RX4, "wipe", "()I"⟩
def yX4_isByte : MethodName := ⟨RX4, "isByte", "(III)Z"⟩
def yX4_isName : MethodName := ⟨RX4, "isName", "(II)Z"⟩
def yX4_wordHere : MethodName := ⟨RX4, "wordHere", "()I"⟩
def yX4_reads : MethodName := ⟨RX4, "reads", "()V"⟩
def yX4_takes : MethodName := ⟨RX4, "takes", "(I)Z"⟩
def yX4_number : MethodName := ⟨RX4, "number", "(II)I"⟩
def yX4_perhaps : MethodName := ⟨RX4, "perhaps", "(IIII)I"⟩
def yX4_oneItem : MethodName := ⟨RX4, "oneItem", "()V"⟩
def yX4_needItem : MethodName := ⟨RX4, "needItem", "()V"⟩
def yX4_item : MethodName := ⟨RX4, "item", "()V"⟩
def yX4_text : MethodName := ⟨RX4, "text", "()I"⟩
def yX4_hold : MethodName := ⟨RX4, "hold", "(II)I"⟩
def yX4_isUnder : MethodName := ⟨RX4, "isUnder", "(II)Z"⟩
def yX4_as : MethodName := ⟨RX4, "as", "(II)I"⟩
def yX4_sheet : MethodName := ⟨RX4, "sheet", "(III)I"⟩
def yX4_write : MethodName := ⟨RX4, "write", "(III)I"⟩
def yX4_notCopied : MethodName := ⟨RX4, "notCopied", "(IIIII)I"⟩
def yX4_copy : MethodName := ⟨RX4, "copy", "(IIIII)I"⟩
def yX4_load : MethodName := ⟨RX4, "load", "(I)I"⟩
def yX4_judge : MethodName := ⟨RX4, "judge", "(I)I"⟩
def yX4_image : MethodName := ⟨RX4, "image", "()I"⟩
def yX4_undo : MethodName := ⟨RX4, "undo", "()I"⟩
def yX4_tear : MethodName := ⟨RX4, "tear", "()I"⟩
def yX4_manyHeld : MethodName := ⟨RX4, "manyHeld", "()I"⟩
def yX4_count : MethodName := ⟨RX4, "count", "(I)I"⟩
def yX4_status : MethodName := ⟨RX4, "status", "(I)I"⟩
def x_tbl : List Cond := lw_tbl.filter goodWord
theorem x_in {w : Cond} (i : Nat) (h : lw_tbl[i]? = some w) (hg : goodWord w = true) : w ∈ x_tbl := List.mem_filter.mpr ⟨List.mem_of_getElem? h, hg⟩
theorem x_good : ∀ w ∈ x_tbl, goodWord w = true := fun w h => (List.mem_filter.mp h).2
theorem q16 : Cond.methodLink "FaithRailsLaw" 9 yX3_init ∈ x_tbl := x_in 79 (by decide +kernel) (by decide +kernel)
theorem q19 : Cond.methodLink "FaithRails" 3 ⟨"java/lang/Object", "<init>", "()V"⟩ ∈ x_tbl := x_in 82 (by decide +kernel) (by decide +kernel)
theorem q24 : Cond.methodLink "FaithRails" 11 yX0_init ∈ x_tbl := x_in 87 (by decide +kernel) (by decide +kernel)
theorem q27 : Cond.methodLink "FaithRails$Prairie" 3 ⟨"java/lang/Object", "<init>", "()V"⟩ ∈ x_tbl := x_in 90 (by decide +kernel) (by decide +kernel)
theorem q28 : Cond.methodLink "FaithRails$Prairie" 61 ⟨"java/util/Arrays", "fill", "([II)V"⟩ ∈ x_tbl := x_in 91 (by decide +kernel) (by decide +kernel)
theorem q105 : Cond.methodLink "FaithRails$Tape" 3 ⟨"java/lang/Object", "<init>", "()V"⟩ ∈ x_tbl := x_in 168 (by decide +kernel) (by decide +kernel)
theorem q133 : Cond.methodLink "FaithRails$Sheet" 3 ⟨"java/lang/Object", "<init>", "()V"⟩ ∈ x_tbl := x_in 196 (by decide +kernel) (by decide +kernel)
theorem q172 : Cond.methodLink "FaithRailsLaw" 13 yX3_need ∈ x_tbl := x_in 235 (by decide +kernel) (by decide +kernel)
theorem q176 : Cond.methodLink "FaithRails" 47 yX3_isStretch ∈ x_tbl := x_in 239 (by decide +kernel) (by decide +kernel)
theorem q179 : Cond.methodLink "FaithRails" 51 yX3_isWithin ∈ x_tbl := x_in 242 (by decide +kernel) (by decide +kernel)
theorem q183 : Cond.methodLink "FaithRails" 56 yX3_finding ∈ x_tbl := x_in 246 (by decide +kernel) (by decide +kernel)
theorem q187 : Cond.methodLink "FaithRailsLaw" 18 yX3_stretch ∈ x_tbl := x_in 250 (by decide +kernel) (by decide +kernel)
theorem q191 : Cond.methodLink "FaithRails" 63 yX0_sumAt ∈ x_tbl := x_in 254 (by decide +kernel) (by decide +kernel)
theorem q195 : Cond.methodLink "FaithRails$Prairie" 93 yX0_brings ∈ x_tbl := x_in 258 (by decide +kernel) (by decide +kernel)
theorem q199 : Cond.methodLink "FaithRails$Prairie" 87 yX0_faith ∈ x_tbl := x_in 262 (by decide +kernel) (by decide +kernel)
theorem q203 : Cond.methodLink "FaithRails$Prairie" 77 ⟨"java/lang/Math", "min", "(II)I"⟩ ∈ x_tbl := x_in 266 (by decide +kernel) (by decide +kernel)
theorem q206 : Cond.methodLink "FaithRails$Prairie" 83 yX0_companions ∈ x_tbl := x_in 269 (by decide +kernel) (by decide +kernel)
theorem q210 : Cond.methodLink "FaithRails$Prairie" 90 ⟨"java/lang/Math", "max", "(II)I"⟩ ∈ x_tbl := x_in 273 (by decide +kernel) (by decide +kernel)
theorem q213 : Cond.methodLink "FaithRails" 66 yX0_isThere ∈ x_tbl := x_in 276 (by decide +kernel) (by decide +kernel)
theorem q217 : Cond.methodLink "FaithRails$Prairie" 96 yX0_sumAt ∈ x_tbl := x_in 280 (by decide +kernel) (by decide +kernel)
theorem q218 : Cond.methodLink "FaithRailsLaw" 22 yX3_person ∈ x_tbl := x_in 281 (by decide +kernel) (by decide +kernel)
theorem q222 : Cond.methodLink "FaithRails" 69 yX3_isKind ∈ x_tbl := x_in 285 (by decide +kernel) (by decide +kernel)
theorem q226 : Cond.methodLink "FaithRails" 77 yX0_newcomer ∈ x_tbl := x_in 289 (by decide +kernel) (by decide +kernel)
theorem q230 : Cond.methodLink "FaithRailsLaw" 26 yX3_of ∈ x_tbl := x_in 293 (by decide +kernel) (by decide +kernel)
theorem q234 : Cond.methodLink "FaithRails" 81 yX3_isPerson ∈ x_tbl := x_in 297 (by decide +kernel) (by decide +kernel)
theorem q238 : Cond.methodLink "FaithRails" 93 yX0_faith ∈ x_tbl := x_in 301 (by decide +kernel) (by decide +kernel)
theorem q239 : Cond.methodLink "FaithRailsLaw" 30 yX3_change ∈ x_tbl := x_in 302 (by decide +kernel) (by decide +kernel)
theorem q243 : Cond.methodLink "FaithRailsLaw" 35 yX3_set ∈ x_tbl := x_in 306 (by decide +kernel) (by decide +kernel)
theorem q247 : Cond.methodLink "FaithRails" 96 yX3_isYard ∈ x_tbl := x_in 310 (by decide +kernel) (by decide +kernel)
theorem q250 : Cond.methodLink "FaithRailsLaw" 39 yX3_board ∈ x_tbl := x_in 313 (by decide +kernel) (by decide +kernel)
theorem q255 : Cond.methodLink "FaithRailsLaw" 44 yX3_leave ∈ x_tbl := x_in 318 (by decide +kernel) (by decide +kernel)
theorem q259 : Cond.methodLink "FaithRailsLaw" 48 yX3_go ∈ x_tbl := x_in 322 (by decide +kernel) (by decide +kernel)
theorem q264 : Cond.methodLink "FaithRails" 116 yX0_passHours ∈ x_tbl := x_in 327 (by decide +kernel) (by decide +kernel)
theorem q268 : Cond.methodLink "FaithRails$Prairie" 104 yX0_passHour ∈ x_tbl := x_in 331 (by decide +kernel) (by decide +kernel)
theorem q272 : Cond.methodLink "FaithRails$Prairie" 67 ⟨"java/lang/System", "arraycopy", "(Ljava/lang/Object;ILjava/lang/Object;II)V"⟩ ∈ x_tbl := x_in 335 (by decide +kernel) (by decide +kernel)
theorem q275 : Cond.methodLink "FaithRails$Prairie" 108 yX0_moveBeliefsAboard ∈ x_tbl := x_in 338 (by decide +kernel) (by decide +kernel)
theorem q280 : Cond.methodLink "FaithRails$Prairie" 113 yX0_sway ∈ x_tbl := x_in 343 (by decide +kernel) (by decide +kernel)
theorem q284 : Cond.methodLink "FaithRails$Prairie" 116 yX0_anyBeliefMoved ∈ x_tbl := x_in 347 (by decide +kernel) (by decide +kernel)
theorem q288 : Cond.methodLink "FaithRailsLaw" 52 yX3_now ∈ x_tbl := x_in 351 (by decide +kernel) (by decide +kernel)
theorem q292 : Cond.methodLink "FaithRails" 120 yX0_aboardSet ∈ x_tbl := x_in 355 (by decide +kernel) (by decide +kernel)
theorem q296 : Cond.methodLink "FaithRails" 124 yX0_thereSet ∈ x_tbl := x_in 359 (by decide +kernel) (by decide +kernel)
theorem q300 : Cond.methodLink "FaithRails$Prairie" 99 yX0_isThere ∈ x_tbl := x_in 363 (by decide +kernel) (by decide +kernel)
theorem q301 : Cond.methodLink "FaithRails" 130 yX0_beliefOfAll ∈ x_tbl := x_in 364 (by decide +kernel) (by decide +kernel)
theorem q305 : Cond.methodLink "FaithRailsLaw" 56 yX3_ahead ∈ x_tbl := x_in 368 (by decide +kernel) (by decide +kernel)
theorem q309 : Cond.methodLink "FaithRails" 133 yX0_becomes ∈ x_tbl := x_in 372 (by decide +kernel) (by decide +kernel)
theorem q313 : Cond.methodLink "FaithRails" 137 yX0_yardBehind ∈ x_tbl := x_in 376 (by decide +kernel) (by decide +kernel)
theorem q317 : Cond.methodLink "FaithRailsLaw" 60 yX3_believes ∈ x_tbl := x_in 380 (by decide +kernel) (by decide +kernel)
theorem q321 : Cond.methodLink "FaithRailsLaw" 64 yX3_when ∈ x_tbl := x_in 384 (by decide +kernel) (by decide +kernel)
theorem q325 : Cond.methodLink "FaithRails" 140 yX0_passHour ∈ x_tbl := x_in 388 (by decide +kernel) (by decide +kernel)
theorem q327 : Cond.methodLink "FaithRailsLaw" 68 yX3_falls ∈ x_tbl := x_in 390 (by decide +kernel) (by decide +kernel)
theorem q331 : Cond.methodLink "FaithRailsLaw" 73 yX3_settles ∈ x_tbl := x_in 394 (by decide +kernel) (by decide +kernel)
theorem q335 : Cond.methodLink "FaithRailsLaw" 77 yX3_there ∈ x_tbl := x_in 398 (by decide +kernel) (by decide +kernel)
theorem q339 : Cond.methodLink "FaithRailsLaw" 81 yX3_kindFor ∈ x_tbl := x_in 402 (by decide +kernel) (by decide +kernel)
theorem q343 : Cond.methodLink "FaithRails" 145 yX3_isRide ∈ x_tbl := x_in 406 (by decide +kernel) (by decide +kernel)
theorem q346 : Cond.methodLink "FaithRailsLaw" 85 yX3_with ∈ x_tbl := x_in 409 (by decide +kernel) (by decide +kernel)
theorem q350 : Cond.methodLink "FaithRails" 148 yX3_setsOfPeople ∈ x_tbl := x_in 413 (by decide +kernel) (by decide +kernel)
theorem q354 : Cond.methodLink "FaithRails" 151 yX3_trialWith ∈ x_tbl := x_in 417 (by decide +kernel) (by decide +kernel)
theorem q358 : Cond.methodLink "FaithRails" 177 yX0_letRide ∈ x_tbl := x_in 421 (by decide +kernel) (by decide +kernel)
theorem q365 : Cond.methodLink "FaithRailsLaw" 89 yX3_fewest ∈ x_tbl := x_in 428 (by decide +kernel) (by decide +kernel)
theorem q369 : Cond.methodLink "FaithRails" 155 ⟨"java/lang/Integer", "bitCount", "(I)I"⟩ ∈ x_tbl := x_in 432 (by decide +kernel) (by decide +kernel)
theorem q375 : Cond.methodLink "FaithRailsLaw" 93 yX3_farthest ∈ x_tbl := x_in 438 (by decide +kernel) (by decide +kernel)
theorem q379 : Cond.methodLink "FaithRailsLaw" 97 yX3_without ∈ x_tbl := x_in 442 (by decide +kernel) (by decide +kernel)
theorem q383 : Cond.methodLink "FaithRailsLaw" 101 yX3_persuade ∈ x_tbl := x_in 446 (by decide +kernel) (by decide +kernel)
theorem q387 : Cond.methodLink "FaithRails" 160 yX3_trialBelieving ∈ x_tbl := x_in 450 (by decide +kernel) (by decide +kernel)
theorem q391 : Cond.methodLink "FaithRailsLaw" 105 yX3_bears ∈ x_tbl := x_in 454 (by decide +kernel) (by decide +kernel)
theorem q395 : Cond.methodLink "FaithRails" 164 yX3_greatestSumMet ∈ x_tbl := x_in 458 (by decide +kernel) (by decide +kernel)
theorem q400 : Cond.methodLink "FaithRails" 174 ⟨"java/lang/Math", "max", "(II)I"⟩ ∈ x_tbl := x_in 463 (by decide +kernel) (by decide +kernel)
theorem q401 : Cond.methodLink "FaithRails" 168 ⟨"java/lang/Math", "min", "(II)I"⟩ ∈ x_tbl := x_in 464 (by decide +kernel) (by decide +kernel)
theorem q402 : Cond.methodLink "FaithRailsLaw" 109 yX3_seat ∈ x_tbl := x_in 465 (by decide +kernel) (by decide +kernel)
theorem q406 : Cond.methodLink "FaithRailsLaw" 113 yX3_kinds ∈ x_tbl := x_in 469 (by decide +kernel) (by decide +kernel)
theorem q410 : Cond.methodLink "FaithRails" 180 yX3_sheetAt ∈ x_tbl := x_in 473 (by decide +kernel) (by decide +kernel)
theorem q415 : Cond.methodLink "FaithRails" 188 yX3_firstWrong ∈ x_tbl := x_in 478 (by decide +kernel) (by decide +kernel)
theorem q418 : Cond.methodLink "FaithRailsLaw" 117 yX3_beliefs ∈ x_tbl := x_in 481 (by decide +kernel) (by decide +kernel)
theorem q422 : Cond.methodLink "FaithRailsLaw" 121 yX3_least ∈ x_tbl := x_in 485 (by decide +kernel) (by decide +kernel)
theorem q426 : Cond.methodLink "FaithRailsLaw" 125 yX3_worth ∈ x_tbl := x_in 489 (by decide +kernel) (by decide +kernel)
theorem q430 : Cond.methodLink "FaithRailsLaw" 129 yX3_hangs ∈ x_tbl := x_in 493 (by decide +kernel) (by decide +kernel)
theorem q434 : Cond.methodLink "FaithRails" 198 yX0_brings ∈ x_tbl := x_in 497 (by decide +kernel) (by decide +kernel)
theorem q435 : Cond.methodLink "FaithRailsLaw" 133 yX3_run ∈ x_tbl := x_in 498 (by decide +kernel) (by decide +kernel)
theorem q439 : Cond.methodLink "FaithRails" 201 yX3_noteWhatIsBrought ∈ x_tbl := x_in 502 (by decide +kernel) (by decide +kernel)
theorem q443 : Cond.methodLink "FaithRails" 204 yX3_endsAll ∈ x_tbl := x_in 506 (by decide +kernel) (by decide +kernel)
theorem q447 : Cond.methodLink "FaithRails" 208 yX3_has ∈ x_tbl := x_in 510 (by decide +kernel) (by decide +kernel)
theorem q448 : Cond.methodLink "FaithRailsLaw" 137 yX3_gold ∈ x_tbl := x_in 511 (by decide +kernel) (by decide +kernel)
theorem q452 : Cond.methodLink "FaithRails" 211 yX0_nextDraw ∈ x_tbl := x_in 515 (by decide +kernel) (by decide +kernel)
theorem q457 : Cond.methodLink "FaithRailsLaw" 141 yX3_odds ∈ x_tbl := x_in 520 (by decide +kernel) (by decide +kernel)
theorem q463 : Cond.methodLink "FaithRailsLaw" 146 yX3_seed ∈ x_tbl := x_in 526 (by decide +kernel) (by decide +kernel)
theorem q467 : Cond.methodLink "FaithRailsLaw" 150 yX3_feed ∈ x_tbl := x_in 530 (by decide +kernel) (by decide +kernel)
theorem q471 : Cond.methodLink "FaithRails" 222 yX2_append ∈ x_tbl := x_in 534 (by decide +kernel) (by decide +kernel)
theorem q475 : Cond.methodLink "FaithRailsLaw" 154 yX3_wipe ∈ x_tbl := x_in 538 (by decide +kernel) (by decide +kernel)
theorem q479 : Cond.methodLink "FaithRailsLaw" 158 yX3_text ∈ x_tbl := x_in 542 (by decide +kernel) (by decide +kernel)
theorem q483 : Cond.methodLink "FaithRails" 226 yX2_tellAll ∈ x_tbl := x_in 546 (by decide +kernel) (by decide +kernel)
theorem q487 : Cond.methodLink "FaithRails$Tape" 31 yX2_advance ∈ x_tbl := x_in 550 (by decide +kernel) (by decide +kernel)
theorem q491 : Cond.methodLink "FaithRails$Tape" 115 yX2_isLetter ∈ x_tbl := x_in 554 (by decide +kernel) (by decide +kernel)
theorem q494 : Cond.methodLink "FaithRails$Tape" 118 yX2_isDigit ∈ x_tbl := x_in 557 (by decide +kernel) (by decide +kernel)
theorem q497 : Cond.methodLink "FaithRails$Tape" 121 ⟨"java/lang/Math", "min", "(II)I"⟩ ∈ x_tbl := x_in 560 (by decide +kernel) (by decide +kernel)
theorem q498 : Cond.methodLink "FaithRails$Tape" 34 yX2_item ∈ x_tbl := x_in 561 (by decide +kernel) (by decide +kernel)
theorem q502 : Cond.methodLink "FaithRails$Tape" 38 yX2_kindNamed ∈ x_tbl := x_in 565 (by decide +kernel) (by decide +kernel)
theorem q507 : Cond.methodLink "FaithRails$Tape" 48 yX2_isWord ∈ x_tbl := x_in 570 (by decide +kernel) (by decide +kernel)
theorem q511 : Cond.methodLink "FaithRails$Tape" 107 ⟨"java/lang/String", "length", "()I"⟩ ∈ x_tbl := x_in 574 (by decide +kernel) (by decide +kernel)
theorem q515 : Cond.methodLink "java/lang/String" 335 ⟨"java/lang/String", "coder", "()B"⟩ ∈ x_tbl := x_in 578 (by decide +kernel) (by decide +kernel)
theorem q521 : Cond.methodLink "FaithRails$Tape" 111 ⟨"java/lang/String", "charAt", "(I)C"⟩ ∈ x_tbl := x_in 584 (by decide +kernel) (by decide +kernel)
theorem q525 : Cond.methodLink "java/lang/String" 492 ⟨"java/lang/String", "isLatin1", "()Z"⟩ ∈ x_tbl := x_in 588 (by decide +kernel) (by decide +kernel)
theorem q529 : Cond.methodLink "java/lang/String" 495 ⟨"java/lang/StringLatin1", "charAt", "([BI)C"⟩ ∈ x_tbl := x_in 592 (by decide +kernel) (by decide +kernel)
theorem q532 : Cond.methodLink "java/lang/StringLatin1" 9 ⟨"java/lang/String", "checkIndex", "(II)V"⟩ ∈ x_tbl := x_in 595 (by decide +kernel) (by decide +kernel)
theorem q537 : Cond.methodLink "java/lang/String" 1059 ⟨"jdk/internal/util/Preconditions", "checkIndex", "(IILjava/util/function/BiFunction;)I"⟩ ∈ x_tbl := x_in 600 (by decide +kernel) (by decide +kernel)
theorem q540 : Cond.methodLink "java/lang/String" 498 ⟨"java/lang/StringUTF16", "charAt", "([BI)C"⟩ ∈ x_tbl := x_in 603 (by decide +kernel) (by decide +kernel)
theorem q543 : Cond.methodLink "java/lang/StringUTF16" 67 ⟨"java/lang/StringUTF16", "checkIndex", "(I[B)V"⟩ ∈ x_tbl := x_in 606 (by decide +kernel) (by decide +kernel)
theorem q546 : Cond.methodLink "java/lang/StringUTF16" 48 ⟨"java/lang/StringUTF16", "length", "([B)I"⟩ ∈ x_tbl := x_in 609 (by decide +kernel) (by decide +kernel)
theorem q549 : Cond.methodLink "java/lang/StringUTF16" 414 ⟨"java/lang/String", "checkIndex", "(II)V"⟩ ∈ x_tbl := x_in 612 (by decide +kernel) (by decide +kernel)
theorem q550 : Cond.methodLink "java/lang/StringUTF16" 71 ⟨"java/lang/StringUTF16", "getChar", "([BI)C"⟩ ∈ x_tbl := x_in 613 (by decide +kernel) (by decide +kernel)
theorem q565 : Cond.methodLink "FaithRails$Tape" 42 yX2_newcomer ∈ x_tbl := x_in 628 (by decide +kernel) (by decide +kernel)
theorem q570 : Cond.methodLink "FaithRails$Tape" 57 yX2_numberFollows ∈ x_tbl := x_in 633 (by decide +kernel) (by decide +kernel)
theorem q575 : Cond.methodLink "FaithRails$Tape" 100 yX0_newcomer ∈ x_tbl := x_in 638 (by decide +kernel) (by decide +kernel)
theorem q577 : Cond.methodLink "FaithRails$Tape" 52 yX2_needOfStretch ∈ x_tbl := x_in 640 (by decide +kernel) (by decide +kernel)
theorem q586 : Cond.methodLink "FaithRailsLaw" 162 yX3_hold ∈ x_tbl := x_in 649 (by decide +kernel) (by decide +kernel)
theorem q590 : Cond.methodLink "FaithRails" 230 yX3_isSpot ∈ x_tbl := x_in 653 (by decide +kernel) (by decide +kernel)
theorem q593 : Cond.methodLink "FaithRailsLaw" 166 yX3_as ∈ x_tbl := x_in 656 (by decide +kernel) (by decide +kernel)
theorem q597 : Cond.methodLink "FaithRails" 236 yX3_isUnder ∈ x_tbl := x_in 660 (by decide +kernel) (by decide +kernel)
theorem q603 : Cond.methodLink "FaithRailsLaw" 170 yX3_sheet ∈ x_tbl := x_in 666 (by decide +kernel) (by decide +kernel)
theorem q608 : Cond.methodLink "FaithRails" 241 yX1_begin ∈ x_tbl := x_in 671 (by decide +kernel) (by decide +kernel)
theorem q612 : Cond.methodLink "FaithRails$Sheet" 22 ⟨"java/util/Arrays", "fill", "([II)V"⟩ ∈ x_tbl := x_in 675 (by decide +kernel) (by decide +kernel)
theorem q613 : Cond.methodLink "FaithRailsLaw" 174 yX3_write ∈ x_tbl := x_in 676 (by decide +kernel) (by decide +kernel)
theorem q617 : Cond.methodLink "FaithRails" 244 yX1_lowest ∈ x_tbl := x_in 680 (by decide +kernel) (by decide +kernel)
theorem q621 : Cond.methodLink "FaithRailsLaw" 178 yX3_copy ∈ x_tbl := x_in 684 (by decide +kernel) (by decide +kernel)
theorem q625 : Cond.methodLink "FaithRails" 247 yX1_hasRow ∈ x_tbl := x_in 688 (by decide +kernel) (by decide +kernel)
theorem q629 : Cond.methodLink "FaithRails" 250 ⟨"java/lang/System", "arraycopy", "(Ljava/lang/Object;ILjava/lang/Object;II)V"⟩ ∈ x_tbl := x_in 692 (by decide +kernel) (by decide +kernel)
theorem q630 : Cond.methodLink "FaithRailsLaw" 183 yX3_load ∈ x_tbl := x_in 693 (by decide +kernel) (by decide +kernel)
theorem q634 : Cond.methodLink "FaithRailsLaw" 187 yX3_judge ∈ x_tbl := x_in 697 (by decide +kernel) (by decide +kernel)
theorem q638 : Cond.methodLink "FaithRailsLaw" 191 yX3_image ∈ x_tbl := x_in 701 (by decide +kernel) (by decide +kernel)
theorem q642 : Cond.methodLink "FaithRailsLaw" 195 yX3_undo ∈ x_tbl := x_in 705 (by decide +kernel) (by decide +kernel)
theorem q646 : Cond.methodLink "FaithRailsLaw" 199 yX3_tear ∈ x_tbl := x_in 709 (by decide +kernel) (by decide +kernel)
theorem q650 : Cond.methodLink "FaithRailsLaw" 203 yX3_count ∈ x_tbl := x_in 713 (by decide +kernel) (by decide +kernel)
theorem q654 : Cond.methodLink "FaithRails" 256 yX0_spotsInUse ∈ x_tbl := x_in 717 (by decide +kernel) (by decide +kernel)
theorem q658 : Cond.methodLink "FaithRailsLaw" 207 yX3_status ∈ x_tbl := x_in 721 (by decide +kernel) (by decide +kernel)
theorem q664 : Cond.methodLink "FaithRailsLaw" 12 yX4_init ∈ x_tbl := x_in 727 (by decide +kernel) (by decide +kernel)
theorem q667 : Cond.methodLink "FaithRailsModel" 3 ⟨"java/lang/Object", "<init>", "()V"⟩ ∈ x_tbl := x_in 730 (by decide +kernel) (by decide +kernel)
theorem q720 : Cond.methodLink "FaithRailsLaw" 17 yX4_need ∈ x_tbl := x_in 783 (by decide +kernel) (by decide +kernel)
theorem q724 : Cond.methodLink "FaithRailsModel" 78 yX4_isStretch ∈ x_tbl := x_in 787 (by decide +kernel) (by decide +kernel)
theorem q727 : Cond.methodLink "FaithRailsModel" 46 yX4_in ∈ x_tbl := x_in 790 (by decide +kernel) (by decide +kernel)
theorem q730 : Cond.methodLink "FaithRailsModel" 81 yX4_becomes ∈ x_tbl := x_in 793 (by decide +kernel) (by decide +kernel)
theorem q735 : Cond.methodLink "FaithRailsModel" 42 yX4_finds ∈ x_tbl := x_in 798 (by decide +kernel) (by decide +kernel)
theorem q739 : Cond.methodLink "FaithRailsLaw" 21 yX4_stretch ∈ x_tbl := x_in 802 (by decide +kernel) (by decide +kernel)
theorem q743 : Cond.methodLink "FaithRailsModel" 71 yX4_sumAt ∈ x_tbl := x_in 806 (by decide +kernel) (by decide +kernel)
theorem q747 : Cond.methodLink "FaithRailsModel" 68 yX4_brings ∈ x_tbl := x_in 810 (by decide +kernel) (by decide +kernel)
theorem q751 : Cond.methodLink "FaithRailsModel" 61 yX4_faithOf ∈ x_tbl := x_in 814 (by decide +kernel) (by decide +kernel)
theorem q755 : Cond.methodLink "FaithRailsModel" 50 yX4_told ∈ x_tbl := x_in 818 (by decide +kernel) (by decide +kernel)
theorem q759 : Cond.methodLink "FaithRailsModel" 54 yX4_held ∈ x_tbl := x_in 822 (by decide +kernel) (by decide +kernel)
theorem q762 : Cond.methodLink "FaithRailsModel" 58 yX4_othersWith ∈ x_tbl := x_in 825 (by decide +kernel) (by decide +kernel)
theorem q766 : Cond.methodLink "FaithRailsModel" 64 yX4_farFrom ∈ x_tbl := x_in 829 (by decide +kernel) (by decide +kernel)
theorem q770 : Cond.methodLink "FaithRailsModel" 74 yX4_isThere ∈ x_tbl := x_in 833 (by decide +kernel) (by decide +kernel)
theorem q774 : Cond.methodLink "FaithRailsLaw" 25 yX4_person ∈ x_tbl := x_in 837 (by decide +kernel) (by decide +kernel)
theorem q779 : Cond.methodLink "FaithRailsModel" 89 yX4_comes ∈ x_tbl := x_in 842 (by decide +kernel) (by decide +kernel)
theorem q783 : Cond.methodLink "FaithRailsModel" 84 yX4_put ∈ x_tbl := x_in 846 (by decide +kernel) (by decide +kernel)
theorem q787 : Cond.methodLink "FaithRailsLaw" 29 yX4_of ∈ x_tbl := x_in 850 (by decide +kernel) (by decide +kernel)
theorem q791 : Cond.methodLink "FaithRailsModel" 92 yX4_isOne ∈ x_tbl := x_in 854 (by decide +kernel) (by decide +kernel)
theorem q795 : Cond.methodLink "FaithRailsLaw" 34 yX4_change ∈ x_tbl := x_in 858 (by decide +kernel) (by decide +kernel)
theorem q799 : Cond.methodLink "FaithRailsModel" 95 yX4_mayBe ∈ x_tbl := x_in 862 (by decide +kernel) (by decide +kernel)
theorem q802 : Cond.methodLink "FaithRailsLaw" 38 yX4_set ∈ x_tbl := x_in 865 (by decide +kernel) (by decide +kernel)
theorem q806 : Cond.methodLink "FaithRailsLaw" 43 yX4_board ∈ x_tbl := x_in 869 (by decide +kernel) (by decide +kernel)
theorem q811 : Cond.methodLink "FaithRailsLaw" 47 yX4_leave ∈ x_tbl := x_in 874 (by decide +kernel) (by decide +kernel)
theorem q815 : Cond.methodLink "FaithRailsLaw" 51 yX4_go ∈ x_tbl := x_in 878 (by decide +kernel) (by decide +kernel)
theorem q819 : Cond.methodLink "FaithRailsModel" 113 yX4_goesOn ∈ x_tbl := x_in 882 (by decide +kernel) (by decide +kernel)
theorem q823 : Cond.methodLink "FaithRailsModel" 110 yX4_hour ∈ x_tbl := x_in 886 (by decide +kernel) (by decide +kernel)
theorem q827 : Cond.methodLink "FaithRailsModel" 103 yX4_willFall ∈ x_tbl := x_in 890 (by decide +kernel) (by decide +kernel)
theorem q831 : Cond.methodLink "FaithRailsModel" 107 yX4_sways ∈ x_tbl := x_in 894 (by decide +kernel) (by decide +kernel)
theorem q835 : Cond.methodLink "FaithRailsModel" 100 yX4_meanWith ∈ x_tbl := x_in 898 (by decide +kernel) (by decide +kernel)
theorem q839 : Cond.methodLink "FaithRailsLaw" 55 yX4_now ∈ x_tbl := x_in 902 (by decide +kernel) (by decide +kernel)
theorem q843 : Cond.methodLink "FaithRailsModel" 117 yX4_aboard ∈ x_tbl := x_in 906 (by decide +kernel) (by decide +kernel)
theorem q847 : Cond.methodLink "FaithRailsModel" 121 yX4_allThere ∈ x_tbl := x_in 910 (by decide +kernel) (by decide +kernel)
theorem q851 : Cond.methodLink "FaithRailsModel" 124 yX4_allBelief ∈ x_tbl := x_in 914 (by decide +kernel) (by decide +kernel)
theorem q855 : Cond.methodLink "FaithRailsLaw" 59 yX4_ahead ∈ x_tbl := x_in 918 (by decide +kernel) (by decide +kernel)
theorem q859 : Cond.methodLink "FaithRailsModel" 134 yX4_thinks ∈ x_tbl := x_in 922 (by decide +kernel) (by decide +kernel)
theorem q863 : Cond.methodLink "FaithRailsModel" 127 yX4_copyAll ∈ x_tbl := x_in 926 (by decide +kernel) (by decide +kernel)
theorem q866 : Cond.methodLink "FaithRailsModel" 137 yX4_getsTo ∈ x_tbl := x_in 929 (by decide +kernel) (by decide +kernel)
theorem q870 : Cond.methodLink "FaithRailsModel" 131 yX4_putsBack ∈ x_tbl := x_in 933 (by decide +kernel) (by decide +kernel)
theorem q874 : Cond.methodLink "FaithRailsLaw" 63 yX4_believes ∈ x_tbl := x_in 937 (by decide +kernel) (by decide +kernel)
theorem q878 : Cond.methodLink "FaithRailsLaw" 67 yX4_when ∈ x_tbl := x_in 941 (by decide +kernel) (by decide +kernel)
theorem q882 : Cond.methodLink "FaithRailsModel" 140 yX4_isYard ∈ x_tbl := x_in 945 (by decide +kernel) (by decide +kernel)
theorem q886 : Cond.methodLink "FaithRailsLaw" 72 yX4_falls ∈ x_tbl := x_in 949 (by decide +kernel) (by decide +kernel)
theorem q890 : Cond.methodLink "FaithRailsLaw" 76 yX4_settles ∈ x_tbl := x_in 953 (by decide +kernel) (by decide +kernel)
theorem q894 : Cond.methodLink "FaithRailsModel" 143 yX4_isSettled ∈ x_tbl := x_in 957 (by decide +kernel) (by decide +kernel)
theorem q898 : Cond.methodLink "FaithRailsLaw" 80 yX4_there ∈ x_tbl := x_in 961 (by decide +kernel) (by decide +kernel)
theorem q902 : Cond.methodLink "FaithRailsLaw" 84 yX4_kindFor ∈ x_tbl := x_in 965 (by decide +kernel) (by decide +kernel)
theorem q906 : Cond.methodLink "FaithRailsModel" 146 yX4_farthestBy ∈ x_tbl := x_in 969 (by decide +kernel) (by decide +kernel)
theorem q910 : Cond.methodLink "FaithRailsLaw" 88 yX4_with ∈ x_tbl := x_in 973 (by decide +kernel) (by decide +kernel)
theorem q914 : Cond.methodLink "FaithRailsModel" 149 yX4_getsWith ∈ x_tbl := x_in 977 (by decide +kernel) (by decide +kernel)
theorem q918 : Cond.methodLink "FaithRailsLaw" 92 yX4_fewest ∈ x_tbl := x_in 981 (by decide +kernel) (by decide +kernel)
theorem q922 : Cond.methodLink "FaithRailsModel" 152 yX4_bits ∈ x_tbl := x_in 985 (by decide +kernel) (by decide +kernel)
theorem q925 : Cond.methodLink "FaithRailsModel" 155 yX4_orNone ∈ x_tbl := x_in 988 (by decide +kernel) (by decide +kernel)
theorem q929 : Cond.methodLink "FaithRailsLaw" 96 yX4_farthest ∈ x_tbl := x_in 992 (by decide +kernel) (by decide +kernel)
theorem q933 : Cond.methodLink "FaithRailsLaw" 100 yX4_without ∈ x_tbl := x_in 996 (by decide +kernel) (by decide +kernel)
theorem q937 : Cond.methodLink "FaithRailsLaw" 104 yX4_persuade ∈ x_tbl := x_in 1000 (by decide +kernel) (by decide +kernel)
theorem q941 : Cond.methodLink "FaithRailsLaw" 108 yX4_bears ∈ x_tbl := x_in 1004 (by decide +kernel) (by decide +kernel)
theorem q945 : Cond.methodLink "FaithRailsLaw" 112 yX4_seat ∈ x_tbl := x_in 1008 (by decide +kernel) (by decide +kernel)
theorem q949 : Cond.methodLink "FaithRailsLaw" 116 yX4_kinds ∈ x_tbl := x_in 1012 (by decide +kernel) (by decide +kernel)
theorem q953 : Cond.methodLink "FaithRailsModel" 165 yX4_notAsked ∈ x_tbl := x_in 1016 (by decide +kernel) (by decide +kernel)
theorem q957 : Cond.methodLink "FaithRailsModel" 162 yX4_notThere ∈ x_tbl := x_in 1020 (by decide +kernel) (by decide +kernel)
theorem q961 : Cond.methodLink "FaithRailsModel" 158 yX4_isSheet ∈ x_tbl := x_in 1024 (by decide +kernel) (by decide +kernel)
theorem q965 : Cond.methodLink "FaithRailsModel" 168 yX4_wrongIn ∈ x_tbl := x_in 1028 (by decide +kernel) (by decide +kernel)
theorem q969 : Cond.methodLink "FaithRailsLaw" 120 yX4_beliefs ∈ x_tbl := x_in 1032 (by decide +kernel) (by decide +kernel)
theorem q973 : Cond.methodLink "FaithRailsLaw" 124 yX4_least ∈ x_tbl := x_in 1036 (by decide +kernel) (by decide +kernel)
theorem q977 : Cond.methodLink "FaithRailsLaw" 128 yX4_worth ∈ x_tbl := x_in 1040 (by decide +kernel) (by decide +kernel)
theorem q981 : Cond.methodLink "FaithRailsLaw" 132 yX4_hangs ∈ x_tbl := x_in 1044 (by decide +kernel) (by decide +kernel)
theorem q985 : Cond.methodLink "FaithRailsLaw" 136 yX4_run ∈ x_tbl := x_in 1048 (by decide +kernel) (by decide +kernel)
theorem q989 : Cond.methodLink "FaithRailsModel" 172 yX4_isRun ∈ x_tbl := x_in 1052 (by decide +kernel) (by decide +kernel)
theorem q993 : Cond.methodLink "FaithRailsLaw" 140 yX4_gold ∈ x_tbl := x_in 1056 (by decide +kernel) (by decide +kernel)
theorem q997 : Cond.methodLink "FaithRailsModel" 176 yX4_draw ∈ x_tbl := x_in 1060 (by decide +kernel) (by decide +kernel)
theorem q1002 : Cond.methodLink "FaithRailsLaw" 145 yX4_odds ∈ x_tbl := x_in 1065 (by decide +kernel) (by decide +kernel)
theorem q1008 : Cond.methodLink "FaithRailsLaw" 149 yX4_seed ∈ x_tbl := x_in 1071 (by decide +kernel) (by decide +kernel)
theorem q1012 : Cond.methodLink "FaithRailsLaw" 153 yX4_feed ∈ x_tbl := x_in 1075 (by decide +kernel) (by decide +kernel)
theorem q1016 : Cond.methodLink "FaithRailsLaw" 157 yX4_wipe ∈ x_tbl := x_in 1079 (by decide +kernel) (by decide +kernel)
theorem q1020 : Cond.methodLink "FaithRailsLaw" 161 yX4_text ∈ x_tbl := x_in 1083 (by decide +kernel) (by decide +kernel)
theorem q1024 : Cond.methodLink "FaithRailsModel" 215 yX4_reads ∈ x_tbl := x_in 1087 (by decide +kernel) (by decide +kernel)
theorem q1028 : Cond.methodLink "FaithRailsModel" 199 yX4_isByte ∈ x_tbl := x_in 1091 (by decide +kernel) (by decide +kernel)
theorem q1032 : Cond.methodLink "FaithRailsModel" 208 yX4_wordHere ∈ x_tbl := x_in 1095 (by decide +kernel) (by decide +kernel)
theorem q1036 : Cond.methodLink "FaithRailsModel" 196 yX4_isName ∈ x_tbl := x_in 1099 (by decide +kernel) (by decide +kernel)
theorem q1042 : Cond.methodLink "FaithRailsModel" 234 yX4_item ∈ x_tbl := x_in 1105 (by decide +kernel) (by decide +kernel)
theorem q1046 : Cond.methodLink "FaithRailsModel" 228 yX4_oneItem ∈ x_tbl := x_in 1109 (by decide +kernel) (by decide +kernel)
theorem q1050 : Cond.methodLink "FaithRailsModel" 224 yX4_perhaps ∈ x_tbl := x_in 1113 (by decide +kernel) (by decide +kernel)
theorem q1054 : Cond.methodLink "FaithRailsModel" 218 yX4_takes ∈ x_tbl := x_in 1117 (by decide +kernel) (by decide +kernel)
theorem q1058 : Cond.methodLink "FaithRailsModel" 221 yX4_number ∈ x_tbl := x_in 1121 (by decide +kernel) (by decide +kernel)
theorem q1062 : Cond.methodLink "FaithRailsModel" 231 yX4_needItem ∈ x_tbl := x_in 1125 (by decide +kernel) (by decide +kernel)
theorem q1066 : Cond.methodLink "FaithRailsLaw" 165 yX4_hold ∈ x_tbl := x_in 1129 (by decide +kernel) (by decide +kernel)
theorem q1070 : Cond.methodLink "FaithRailsLaw" 169 yX4_as ∈ x_tbl := x_in 1133 (by decide +kernel) (by decide +kernel)
theorem q1074 : Cond.methodLink "FaithRailsModel" 237 yX4_isUnder ∈ x_tbl := x_in 1137 (by decide +kernel) (by decide +kernel)
theorem q1078 : Cond.methodLink "FaithRailsLaw" 173 yX4_sheet ∈ x_tbl := x_in 1141 (by decide +kernel) (by decide +kernel)
theorem q1083 : Cond.methodLink "FaithRailsLaw" 177 yX4_write ∈ x_tbl := x_in 1146 (by decide +kernel) (by decide +kernel)
theorem q1087 : Cond.methodLink "FaithRailsLaw" 182 yX4_copy ∈ x_tbl := x_in 1150 (by decide +kernel) (by decide +kernel)
theorem q1091 : Cond.methodLink "FaithRailsModel" 242 yX4_notCopied ∈ x_tbl := x_in 1154 (by decide +kernel) (by decide +kernel)
theorem q1095 : Cond.methodLink "FaithRailsLaw" 186 yX4_load ∈ x_tbl := x_in 1158 (by decide +kernel) (by decide +kernel)
theorem q1099 : Cond.methodLink "FaithRailsLaw" 190 yX4_judge ∈ x_tbl := x_in 1162 (by decide +kernel) (by decide +kernel)
theorem q1103 : Cond.methodLink "FaithRailsLaw" 194 yX4_image ∈ x_tbl := x_in 1166 (by decide +kernel) (by decide +kernel)
theorem q1107 : Cond.methodLink "FaithRailsLaw" 198 yX4_undo ∈ x_tbl := x_in 1170 (by decide +kernel) (by decide +kernel)
theorem q1111 : Cond.methodLink "FaithRailsLaw" 202 yX4_tear ∈ x_tbl := x_in 1174 (by decide +kernel) (by decide +kernel)
theorem q1115 : Cond.methodLink "FaithRailsLaw" 206 yX4_count ∈ x_tbl := x_in 1178 (by decide +kernel) (by decide +kernel)
theorem q1119 : Cond.methodLink "FaithRailsModel" 249 yX4_manyHeld ∈ x_tbl := x_in 1182 (by decide +kernel) (by decide +kernel)
theorem q1123 : Cond.methodLink "FaithRailsLaw" 210 yX4_status ∈ x_tbl := x_in 1186 (by decide +kernel) (by decide +kernel)
theorem q102 : Cond.methodLinkNest "FaithRails" 28 yX2_init "FaithRails" ∈ lw_tbl := List.mem_of_getElem? (i := 165) (by decide +kernel)
theorem q130 : Cond.methodLinkNest "FaithRails" 46 yX1_init "FaithRails" ∈ lw_tbl := List.mem_of_getElem? (i := 193) (by decide +kernel)
theorem q362 : Cond.methodLinkNest "FaithRails$Prairie" 73 yX3_has "FaithRails" ∈ lw_tbl := List.mem_of_getElem? (i := 425) (by decide +kernel)
theorem q18 : Cond.code yX3_init prog_1_method_1_code 2 (none) ∈ x_tbl := x_in 81 (by decide +kernel) (by decide +kernel)
theorem q21 : Cond.code ⟨"java/lang/Object", "<init>", "()V"⟩ object_method_1_code 1 (none) ∈ x_tbl := x_in 84 (by decide +kernel) (by decide +kernel)
theorem q26 : Cond.code yX0_init prog_2_method_1_code 1 (none) ∈ x_tbl := x_in 89 (by decide +kernel) (by decide +kernel)
theorem q30 : Cond.code ⟨"java/util/Arrays", "fill", "([II)V"⟩ prog_13_method_103_code 4 (none) ∈ x_tbl := x_in 93 (by decide +kernel) (by decide +kernel)
theorem q104 : Cond.code yX2_init prog_4_method_1_code 1 (none) ∈ x_tbl := x_in 167 (by decide +kernel) (by decide +kernel)
theorem q132 : Cond.code yX1_init prog_3_method_1_code 1 (none) ∈ x_tbl := x_in 195 (by decide +kernel) (by decide +kernel)
theorem q175 : Cond.code yX3_need prog_1_method_2_code 4 (some FieldType.int) ∈ x_tbl := x_in 238 (by decide +kernel) (by decide +kernel)
theorem q178 : Cond.code yX3_isStretch prog_1_method_58_code 1 (some FieldType.boolean) ∈ x_tbl := x_in 241 (by decide +kernel) (by decide +kernel)
theorem q181 : Cond.code yX3_isWithin prog_1_method_57_code 3 (some FieldType.boolean) ∈ x_tbl := x_in 244 (by decide +kernel) (by decide +kernel)
theorem q186 : Cond.code yX3_finding prog_1_method_56_code 3 (some FieldType.int) ∈ x_tbl := x_in 249 (by decide +kernel) (by decide +kernel)
theorem q190 : Cond.code yX3_stretch prog_1_method_3_code 3 (some FieldType.int) ∈ x_tbl := x_in 253 (by decide +kernel) (by decide +kernel)
theorem q194 : Cond.code yX0_sumAt prog_2_method_8_code 4 (some FieldType.int) ∈ x_tbl := x_in 257 (by decide +kernel) (by decide +kernel)
theorem q198 : Cond.code yX0_brings prog_2_method_7_code 5 (some FieldType.int) ∈ x_tbl := x_in 261 (by decide +kernel) (by decide +kernel)
theorem q202 : Cond.code yX0_faith prog_2_method_5_code 5 (some FieldType.int) ∈ x_tbl := x_in 265 (by decide +kernel) (by decide +kernel)
theorem q205 : Cond.code ⟨"java/lang/Math", "min", "(II)I"⟩ prog_8_method_69_code 2 (some FieldType.int) ∈ x_tbl := x_in 268 (by decide +kernel) (by decide +kernel)
theorem q209 : Cond.code yX0_companions prog_2_method_6_code 4 (some FieldType.int) ∈ x_tbl := x_in 272 (by decide +kernel) (by decide +kernel)
theorem q212 : Cond.code ⟨"java/lang/Math", "max", "(II)I"⟩ prog_8_method_65_code 2 (some FieldType.int) ∈ x_tbl := x_in 275 (by decide +kernel) (by decide +kernel)
theorem q216 : Cond.code yX0_isThere prog_2_method_9_code 2 (some FieldType.boolean) ∈ x_tbl := x_in 279 (by decide +kernel) (by decide +kernel)
theorem q221 : Cond.code yX3_person prog_1_method_4_code 3 (some FieldType.int) ∈ x_tbl := x_in 284 (by decide +kernel) (by decide +kernel)
theorem q224 : Cond.code yX3_isKind prog_1_method_60_code 1 (some FieldType.boolean) ∈ x_tbl := x_in 287 (by decide +kernel) (by decide +kernel)
theorem q229 : Cond.code yX0_newcomer prog_2_method_3_code 5 (some FieldType.int) ∈ x_tbl := x_in 292 (by decide +kernel) (by decide +kernel)
theorem q233 : Cond.code yX3_of prog_1_method_5_code 3 (some FieldType.int) ∈ x_tbl := x_in 296 (by decide +kernel) (by decide +kernel)
theorem q237 : Cond.code yX3_isPerson prog_1_method_63_code 2 (some FieldType.boolean) ∈ x_tbl := x_in 300 (by decide +kernel) (by decide +kernel)
theorem q242 : Cond.code yX3_change prog_1_method_6_code 5 (some FieldType.int) ∈ x_tbl := x_in 305 (by decide +kernel) (by decide +kernel)
theorem q246 : Cond.code yX3_set prog_1_method_7_code 4 (some FieldType.int) ∈ x_tbl := x_in 309 (by decide +kernel) (by decide +kernel)
theorem q249 : Cond.code yX3_isYard prog_1_method_59_code 1 (some FieldType.boolean) ∈ x_tbl := x_in 312 (by decide +kernel) (by decide +kernel)
theorem q253 : Cond.code yX3_board prog_1_method_8_code 2 (some FieldType.int) ∈ x_tbl := x_in 316 (by decide +kernel) (by decide +kernel)
theorem q258 : Cond.code yX3_leave prog_1_method_9_code 2 (some FieldType.int) ∈ x_tbl := x_in 321 (by decide +kernel) (by decide +kernel)
theorem q262 : Cond.code yX3_go prog_1_method_10_code 2 (some FieldType.int) ∈ x_tbl := x_in 325 (by decide +kernel) (by decide +kernel)
theorem q267 : Cond.code yX0_passHours prog_2_method_15_code 3 (none) ∈ x_tbl := x_in 330 (by decide +kernel) (by decide +kernel)
theorem q271 : Cond.code yX0_passHour prog_2_method_17_code 2 (some FieldType.boolean) ∈ x_tbl := x_in 334 (by decide +kernel) (by decide +kernel)
theorem q278 : Cond.code yX0_moveBeliefsAboard prog_2_method_18_code 3 (none) ∈ x_tbl := x_in 341 (by decide +kernel) (by decide +kernel)
theorem q283 : Cond.code yX0_sway prog_2_method_19_code 4 (none) ∈ x_tbl := x_in 346 (by decide +kernel) (by decide +kernel)
theorem q287 : Cond.code yX0_anyBeliefMoved prog_2_method_20_code 2 (some FieldType.boolean) ∈ x_tbl := x_in 350 (by decide +kernel) (by decide +kernel)
theorem q291 : Cond.code yX3_now prog_1_method_11_code 2 (some FieldType.int) ∈ x_tbl := x_in 354 (by decide +kernel) (by decide +kernel)
theorem q295 : Cond.code yX0_aboardSet prog_2_method_11_code 3 (some FieldType.int) ∈ x_tbl := x_in 358 (by decide +kernel) (by decide +kernel)
theorem q299 : Cond.code yX0_thereSet prog_2_method_10_code 3 (some FieldType.int) ∈ x_tbl := x_in 362 (by decide +kernel) (by decide +kernel)
theorem q304 : Cond.code yX0_beliefOfAll prog_2_method_12_code 3 (some FieldType.int) ∈ x_tbl := x_in 367 (by decide +kernel) (by decide +kernel)
theorem q308 : Cond.code yX3_ahead prog_1_method_12_code 2 (some FieldType.int) ∈ x_tbl := x_in 371 (by decide +kernel) (by decide +kernel)
theorem q312 : Cond.code yX0_becomes prog_2_method_2_code 2 (none) ∈ x_tbl := x_in 375 (by decide +kernel) (by decide +kernel)
theorem q316 : Cond.code yX0_yardBehind prog_2_method_16_code 4 (some FieldType.int) ∈ x_tbl := x_in 379 (by decide +kernel) (by decide +kernel)
theorem q320 : Cond.code yX3_believes prog_1_method_13_code 3 (some FieldType.int) ∈ x_tbl := x_in 383 (by decide +kernel) (by decide +kernel)
theorem q324 : Cond.code yX3_when prog_1_method_14_code 3 (some FieldType.int) ∈ x_tbl := x_in 387 (by decide +kernel) (by decide +kernel)
theorem q330 : Cond.code yX3_falls prog_1_method_15_code 2 (some FieldType.int) ∈ x_tbl := x_in 393 (by decide +kernel) (by decide +kernel)
theorem q334 : Cond.code yX3_settles prog_1_method_16_code 3 (some FieldType.int) ∈ x_tbl := x_in 397 (by decide +kernel) (by decide +kernel)
theorem q338 : Cond.code yX3_there prog_1_method_17_code 2 (some FieldType.int) ∈ x_tbl := x_in 401 (by decide +kernel) (by decide +kernel)
theorem q342 : Cond.code yX3_kindFor prog_1_method_18_code 7 (some FieldType.int) ∈ x_tbl := x_in 405 (by decide +kernel) (by decide +kernel)
theorem q345 : Cond.code yX3_isRide prog_1_method_61_code 1 (some FieldType.boolean) ∈ x_tbl := x_in 408 (by decide +kernel) (by decide +kernel)
theorem q349 : Cond.code yX3_with prog_1_method_19_code 3 (some FieldType.int) ∈ x_tbl := x_in 412 (by decide +kernel) (by decide +kernel)
theorem q353 : Cond.code yX3_setsOfPeople prog_1_method_64_code 1 (some FieldType.int) ∈ x_tbl := x_in 416 (by decide +kernel) (by decide +kernel)
theorem q357 : Cond.code yX3_trialWith prog_1_method_27_code 2 (some (FieldType.object "FaithRails$Prairie")) ∈ x_tbl := x_in 420 (by decide +kernel) (by decide +kernel)
theorem q361 : Cond.code yX0_letRide prog_2_method_4_code 3 (none) ∈ x_tbl := x_in 424 (by decide +kernel) (by decide +kernel)
theorem q364 : Cond.code yX3_has prog_1_method_66_code 2 (some FieldType.boolean) ∈ x_tbl := x_in 427 (by decide +kernel) (by decide +kernel)
theorem q368 : Cond.code yX3_fewest prog_1_method_20_code 6 (some FieldType.int) ∈ x_tbl := x_in 431 (by decide +kernel) (by decide +kernel)
theorem q371 : Cond.code ⟨"java/lang/Integer", "bitCount", "(I)I"⟩ prog_7_method_49_code 1 (some FieldType.int) ∈ x_tbl := x_in 434 (by decide +kernel) (by decide +kernel)
theorem q378 : Cond.code yX3_farthest prog_1_method_21_code 7 (some FieldType.int) ∈ x_tbl := x_in 441 (by decide +kernel) (by decide +kernel)
theorem q382 : Cond.code yX3_without prog_1_method_22_code 6 (some FieldType.int) ∈ x_tbl := x_in 445 (by decide +kernel) (by decide +kernel)
theorem q386 : Cond.code yX3_persuade prog_1_method_23_code 5 (some FieldType.int) ∈ x_tbl := x_in 449 (by decide +kernel) (by decide +kernel)
theorem q390 : Cond.code yX3_trialBelieving prog_1_method_28_code 3 (some (FieldType.object "FaithRails$Prairie")) ∈ x_tbl := x_in 453 (by decide +kernel) (by decide +kernel)
theorem q394 : Cond.code yX3_bears prog_1_method_24_code 4 (some FieldType.int) ∈ x_tbl := x_in 457 (by decide +kernel) (by decide +kernel)
theorem q398 : Cond.code yX3_greatestSumMet prog_1_method_26_code 5 (some FieldType.int) ∈ x_tbl := x_in 461 (by decide +kernel) (by decide +kernel)
theorem q405 : Cond.code yX3_seat prog_1_method_25_code 7 (some FieldType.int) ∈ x_tbl := x_in 468 (by decide +kernel) (by decide +kernel)
theorem q409 : Cond.code yX3_kinds prog_1_method_29_code 6 (some FieldType.int) ∈ x_tbl := x_in 472 (by decide +kernel) (by decide +kernel)
theorem q413 : Cond.code yX3_sheetAt prog_1_method_65_code 2 (some (FieldType.object "FaithRails$Sheet")) ∈ x_tbl := x_in 476 (by decide +kernel) (by decide +kernel)
theorem q417 : Cond.code yX3_firstWrong prog_1_method_32_code 6 (some FieldType.int) ∈ x_tbl := x_in 480 (by decide +kernel) (by decide +kernel)
theorem q421 : Cond.code yX3_beliefs prog_1_method_30_code 6 (some FieldType.int) ∈ x_tbl := x_in 484 (by decide +kernel) (by decide +kernel)
theorem q425 : Cond.code yX3_least prog_1_method_31_code 5 (some FieldType.int) ∈ x_tbl := x_in 488 (by decide +kernel) (by decide +kernel)
theorem q429 : Cond.code yX3_worth prog_1_method_33_code 3 (some FieldType.int) ∈ x_tbl := x_in 492 (by decide +kernel) (by decide +kernel)
theorem q433 : Cond.code yX3_hangs prog_1_method_34_code 6 (some FieldType.int) ∈ x_tbl := x_in 496 (by decide +kernel) (by decide +kernel)
theorem q438 : Cond.code yX3_run prog_1_method_35_code 5 (some FieldType.int) ∈ x_tbl := x_in 501 (by decide +kernel) (by decide +kernel)
theorem q442 : Cond.code yX3_noteWhatIsBrought prog_1_method_36_code 3 (none) ∈ x_tbl := x_in 505 (by decide +kernel) (by decide +kernel)
theorem q446 : Cond.code yX3_endsAll prog_1_method_37_code 6 (some FieldType.boolean) ∈ x_tbl := x_in 509 (by decide +kernel) (by decide +kernel)
theorem q451 : Cond.code yX3_gold prog_1_method_38_code 4 (some FieldType.int) ∈ x_tbl := x_in 514 (by decide +kernel) (by decide +kernel)
theorem q455 : Cond.code yX0_nextDraw prog_2_method_14_code 1 (some FieldType.int) ∈ x_tbl := x_in 518 (by decide +kernel) (by decide +kernel)
theorem q460 : Cond.code yX3_odds prog_1_method_39_code 12 (some FieldType.long) ∈ x_tbl := x_in 523 (by decide +kernel) (by decide +kernel)
theorem q466 : Cond.code yX3_seed prog_1_method_40_code 3 (some FieldType.int) ∈ x_tbl := x_in 529 (by decide +kernel) (by decide +kernel)
theorem q470 : Cond.code yX3_feed prog_1_method_41_code 3 (some FieldType.int) ∈ x_tbl := x_in 533 (by decide +kernel) (by decide +kernel)
theorem q474 : Cond.code yX2_append prog_4_method_2_code 4 (none) ∈ x_tbl := x_in 537 (by decide +kernel) (by decide +kernel)
theorem q478 : Cond.code yX3_wipe prog_1_method_42_code 2 (some FieldType.int) ∈ x_tbl := x_in 541 (by decide +kernel) (by decide +kernel)
theorem q482 : Cond.code yX3_text prog_1_method_43_code 2 (some FieldType.int) ∈ x_tbl := x_in 545 (by decide +kernel) (by decide +kernel)
theorem q486 : Cond.code yX2_tellAll prog_4_method_3_code 3 (some FieldType.int) ∈ x_tbl := x_in 549 (by decide +kernel) (by decide +kernel)
theorem q490 : Cond.code yX2_advance prog_4_method_10_code 2 (none) ∈ x_tbl := x_in 553 (by decide +kernel) (by decide +kernel)
theorem q493 : Cond.code yX2_isLetter prog_4_method_11_code 1 (some FieldType.boolean) ∈ x_tbl := x_in 556 (by decide +kernel) (by decide +kernel)
theorem q496 : Cond.code yX2_isDigit prog_4_method_12_code 1 (some FieldType.boolean) ∈ x_tbl := x_in 559 (by decide +kernel) (by decide +kernel)
theorem q501 : Cond.code yX2_item prog_4_method_4_code 3 (some FieldType.boolean) ∈ x_tbl := x_in 564 (by decide +kernel) (by decide +kernel)
theorem q505 : Cond.code yX2_kindNamed prog_4_method_5_code 2 (some FieldType.int) ∈ x_tbl := x_in 568 (by decide +kernel) (by decide +kernel)
theorem q510 : Cond.code yX2_isWord prog_4_method_9_code 3 (some FieldType.boolean) ∈ x_tbl := x_in 573 (by decide +kernel) (by decide +kernel)
theorem q514 : Cond.code ⟨"java/lang/String", "length", "()I"⟩ prog_9_method_54_code 1 (some FieldType.int) ∈ x_tbl := x_in 577 (by decide +kernel) (by decide +kernel)
theorem q518 : Cond.code ⟨"java/lang/String", "coder", "()B"⟩ prog_9_method_152_code 1 (some FieldType.byte) ∈ x_tbl := x_in 581 (by decide +kernel) (by decide +kernel)
theorem q524 : Cond.code ⟨"java/lang/String", "charAt", "(I)C"⟩ prog_9_method_56_code 2 (some FieldType.char) ∈ x_tbl := x_in 587 (by decide +kernel) (by decide +kernel)
theorem q528 : Cond.code ⟨"java/lang/String", "isLatin1", "()Z"⟩ prog_9_method_154_code 1 (some FieldType.boolean) ∈ x_tbl := x_in 591 (by decide +kernel) (by decide +kernel)
theorem q531 : Cond.code ⟨"java/lang/StringLatin1", "charAt", "([BI)C"⟩ prog_10_method_2_code 2 (some FieldType.char) ∈ x_tbl := x_in 594 (by decide +kernel) (by decide +kernel)
theorem q534 : Cond.code ⟨"java/lang/String", "checkIndex", "(II)V"⟩ prog_9_method_155_code 2 (none) ∈ x_tbl := x_in 597 (by decide +kernel) (by decide +kernel)
theorem q539 : Cond.code ⟨"jdk/internal/util/Preconditions", "checkIndex", "(IILjava/util/function/BiFunction;)I"⟩ prog_14_method_11_code 3 (some FieldType.int) ∈ x_tbl := x_in 602 (by decide +kernel) (by decide +kernel)
theorem q542 : Cond.code ⟨"java/lang/StringUTF16", "charAt", "([BI)C"⟩ prog_11_method_83_code 2 (some FieldType.char) ∈ x_tbl := x_in 605 (by decide +kernel) (by decide +kernel)
theorem q545 : Cond.code ⟨"java/lang/StringUTF16", "checkIndex", "(I[B)V"⟩ prog_11_method_91_code 2 (none) ∈ x_tbl := x_in 608 (by decide +kernel) (by decide +kernel)
theorem q548 : Cond.code ⟨"java/lang/StringUTF16", "length", "([B)I"⟩ prog_11_method_6_code 1 (some FieldType.int) ∈ x_tbl := x_in 611 (by decide +kernel) (by decide +kernel)
theorem q552 : Cond.code ⟨"java/lang/StringUTF16", "getChar", "([BI)C"⟩ prog_11_method_5_code 2 (some FieldType.char) ∈ x_tbl := x_in 615 (by decide +kernel) (by decide +kernel)
theorem q568 : Cond.code yX2_newcomer prog_4_method_6_code 5 (some FieldType.boolean) ∈ x_tbl := x_in 631 (by decide +kernel) (by decide +kernel)
theorem q573 : Cond.code yX2_numberFollows prog_4_method_8_code 2 (some FieldType.boolean) ∈ x_tbl := x_in 636 (by decide +kernel) (by decide +kernel)
theorem q580 : Cond.code yX2_needOfStretch prog_4_method_7_code 3 (some FieldType.boolean) ∈ x_tbl := x_in 643 (by decide +kernel) (by decide +kernel)
theorem q589 : Cond.code yX3_hold prog_1_method_44_code 3 (some FieldType.int) ∈ x_tbl := x_in 652 (by decide +kernel) (by decide +kernel)
theorem q592 : Cond.code yX3_isSpot prog_1_method_62_code 1 (some FieldType.boolean) ∈ x_tbl := x_in 655 (by decide +kernel) (by decide +kernel)
theorem q596 : Cond.code yX3_as prog_1_method_45_code 4 (some FieldType.int) ∈ x_tbl := x_in 659 (by decide +kernel) (by decide +kernel)
theorem q599 : Cond.code yX3_isUnder prog_1_method_67_code 4 (some FieldType.boolean) ∈ x_tbl := x_in 662 (by decide +kernel) (by decide +kernel)
theorem q606 : Cond.code yX3_sheet prog_1_method_46_code 5 (some FieldType.int) ∈ x_tbl := x_in 669 (by decide +kernel) (by decide +kernel)
theorem q611 : Cond.code yX1_begin prog_3_method_2_code 3 (none) ∈ x_tbl := x_in 674 (by decide +kernel) (by decide +kernel)
theorem q616 : Cond.code yX3_write prog_1_method_47_code 5 (some FieldType.int) ∈ x_tbl := x_in 679 (by decide +kernel) (by decide +kernel)
theorem q620 : Cond.code yX1_lowest prog_3_method_3_code 2 (some FieldType.int) ∈ x_tbl := x_in 683 (by decide +kernel) (by decide +kernel)
theorem q624 : Cond.code yX3_copy prog_1_method_48_code 8 (some FieldType.int) ∈ x_tbl := x_in 687 (by decide +kernel) (by decide +kernel)
theorem q628 : Cond.code yX1_hasRow prog_3_method_4_code 3 (some FieldType.boolean) ∈ x_tbl := x_in 691 (by decide +kernel) (by decide +kernel)
theorem q633 : Cond.code yX3_load prog_1_method_49_code 5 (some FieldType.int) ∈ x_tbl := x_in 696 (by decide +kernel) (by decide +kernel)
theorem q637 : Cond.code yX3_judge prog_1_method_50_code 4 (some FieldType.int) ∈ x_tbl := x_in 700 (by decide +kernel) (by decide +kernel)
theorem q641 : Cond.code yX3_image prog_1_method_51_code 1 (some FieldType.int) ∈ x_tbl := x_in 704 (by decide +kernel) (by decide +kernel)
theorem q645 : Cond.code yX3_undo prog_1_method_52_code 1 (some FieldType.int) ∈ x_tbl := x_in 708 (by decide +kernel) (by decide +kernel)
theorem q649 : Cond.code yX3_tear prog_1_method_53_code 2 (some FieldType.int) ∈ x_tbl := x_in 712 (by decide +kernel) (by decide +kernel)
theorem q653 : Cond.code yX3_count prog_1_method_54_code 2 (some FieldType.int) ∈ x_tbl := x_in 716 (by decide +kernel) (by decide +kernel)
theorem q657 : Cond.code yX0_spotsInUse prog_2_method_13_code 3 (some FieldType.int) ∈ x_tbl := x_in 720 (by decide +kernel) (by decide +kernel)
theorem q661 : Cond.code yX3_status prog_1_method_55_code 4 (some FieldType.int) ∈ x_tbl := x_in 724 (by decide +kernel) (by decide +kernel)
theorem q666 : Cond.code yX4_init prog_6_method_1_code 2 (none) ∈ x_tbl := x_in 729 (by decide +kernel) (by decide +kernel)
theorem q723 : Cond.code yX4_need prog_6_method_21_code 3 (some FieldType.int) ∈ x_tbl := x_in 786 (by decide +kernel) (by decide +kernel)
theorem q726 : Cond.code yX4_isStretch prog_6_method_9_code 1 (some FieldType.boolean) ∈ x_tbl := x_in 789 (by decide +kernel) (by decide +kernel)
theorem q729 : Cond.code yX4_in prog_6_method_4_code 3 (some FieldType.boolean) ∈ x_tbl := x_in 792 (by decide +kernel) (by decide +kernel)
theorem q733 : Cond.code yX4_becomes prog_6_method_7_code 4 (some FieldType.int) ∈ x_tbl := x_in 796 (by decide +kernel) (by decide +kernel)
theorem q738 : Cond.code yX4_finds prog_6_method_2_code 2 (some FieldType.int) ∈ x_tbl := x_in 801 (by decide +kernel) (by decide +kernel)
theorem q742 : Cond.code yX4_stretch prog_6_method_22_code 3 (some FieldType.int) ∈ x_tbl := x_in 805 (by decide +kernel) (by decide +kernel)
theorem q746 : Cond.code yX4_sumAt prog_6_method_18_code 4 (some FieldType.int) ∈ x_tbl := x_in 809 (by decide +kernel) (by decide +kernel)
theorem q750 : Cond.code yX4_brings prog_6_method_17_code 4 (some FieldType.int) ∈ x_tbl := x_in 813 (by decide +kernel) (by decide +kernel)
theorem q754 : Cond.code yX4_faithOf prog_6_method_15_code 5 (some FieldType.int) ∈ x_tbl := x_in 817 (by decide +kernel) (by decide +kernel)
theorem q758 : Cond.code yX4_told prog_6_method_11_code 3 (some FieldType.int) ∈ x_tbl := x_in 821 (by decide +kernel) (by decide +kernel)
theorem q761 : Cond.code yX4_held prog_6_method_5_code 3 (some FieldType.int) ∈ x_tbl := x_in 824 (by decide +kernel) (by decide +kernel)
theorem q765 : Cond.code yX4_othersWith prog_6_method_14_code 4 (some FieldType.int) ∈ x_tbl := x_in 828 (by decide +kernel) (by decide +kernel)
theorem q768 : Cond.code yX4_farFrom prog_6_method_16_code 2 (some FieldType.int) ∈ x_tbl := x_in 831 (by decide +kernel) (by decide +kernel)
theorem q773 : Cond.code yX4_isThere prog_6_method_19_code 2 (some FieldType.boolean) ∈ x_tbl := x_in 836 (by decide +kernel) (by decide +kernel)
theorem q777 : Cond.code yX4_person prog_6_method_24_code 3 (some FieldType.int) ∈ x_tbl := x_in 840 (by decide +kernel) (by decide +kernel)
theorem q782 : Cond.code yX4_comes prog_6_method_23_code 5 (some FieldType.int) ∈ x_tbl := x_in 845 (by decide +kernel) (by decide +kernel)
theorem q786 : Cond.code yX4_put prog_6_method_12_code 4 (none) ∈ x_tbl := x_in 849 (by decide +kernel) (by decide +kernel)
theorem q790 : Cond.code yX4_of prog_6_method_25_code 3 (some FieldType.int) ∈ x_tbl := x_in 853 (by decide +kernel) (by decide +kernel)
theorem q794 : Cond.code yX4_isOne prog_6_method_8_code 2 (some FieldType.boolean) ∈ x_tbl := x_in 857 (by decide +kernel) (by decide +kernel)
theorem q798 : Cond.code yX4_change prog_6_method_27_code 4 (some FieldType.int) ∈ x_tbl := x_in 861 (by decide +kernel) (by decide +kernel)
theorem q801 : Cond.code yX4_mayBe prog_6_method_26_code 2 (some FieldType.boolean) ∈ x_tbl := x_in 864 (by decide +kernel) (by decide +kernel)
theorem q805 : Cond.code yX4_set prog_6_method_28_code 4 (some FieldType.int) ∈ x_tbl := x_in 868 (by decide +kernel) (by decide +kernel)
theorem q809 : Cond.code yX4_board prog_6_method_29_code 2 (some FieldType.int) ∈ x_tbl := x_in 872 (by decide +kernel) (by decide +kernel)
theorem q814 : Cond.code yX4_leave prog_6_method_30_code 2 (some FieldType.int) ∈ x_tbl := x_in 877 (by decide +kernel) (by decide +kernel)
theorem q818 : Cond.code yX4_go prog_6_method_38_code 2 (some FieldType.int) ∈ x_tbl := x_in 881 (by decide +kernel) (by decide +kernel)
theorem q822 : Cond.code yX4_goesOn prog_6_method_35_code 3 (none) ∈ x_tbl := x_in 885 (by decide +kernel) (by decide +kernel)
theorem q826 : Cond.code yX4_hour prog_6_method_34_code 4 (none) ∈ x_tbl := x_in 889 (by decide +kernel) (by decide +kernel)
theorem q830 : Cond.code yX4_willFall prog_6_method_33_code 1 (some FieldType.boolean) ∈ x_tbl := x_in 893 (by decide +kernel) (by decide +kernel)
theorem q834 : Cond.code yX4_sways prog_6_method_32_code 4 (none) ∈ x_tbl := x_in 897 (by decide +kernel) (by decide +kernel)
theorem q838 : Cond.code yX4_meanWith prog_6_method_31_code 6 (some FieldType.int) ∈ x_tbl := x_in 901 (by decide +kernel) (by decide +kernel)
theorem q842 : Cond.code yX4_now prog_6_method_39_code 2 (some FieldType.int) ∈ x_tbl := x_in 905 (by decide +kernel) (by decide +kernel)
theorem q846 : Cond.code yX4_aboard prog_6_method_36_code 3 (some FieldType.int) ∈ x_tbl := x_in 909 (by decide +kernel) (by decide +kernel)
theorem q850 : Cond.code yX4_allThere prog_6_method_20_code 3 (some FieldType.int) ∈ x_tbl := x_in 913 (by decide +kernel) (by decide +kernel)
theorem q854 : Cond.code yX4_allBelief prog_6_method_37_code 3 (some FieldType.int) ∈ x_tbl := x_in 917 (by decide +kernel) (by decide +kernel)
theorem q858 : Cond.code yX4_ahead prog_6_method_43_code 2 (some FieldType.int) ∈ x_tbl := x_in 921 (by decide +kernel) (by decide +kernel)
theorem q862 : Cond.code yX4_thinks prog_6_method_40_code 1 (none) ∈ x_tbl := x_in 925 (by decide +kernel) (by decide +kernel)
theorem q865 : Cond.code yX4_copyAll prog_6_method_6_code 3 (none) ∈ x_tbl := x_in 928 (by decide +kernel) (by decide +kernel)
theorem q869 : Cond.code yX4_getsTo prog_6_method_42_code 3 (some FieldType.int) ∈ x_tbl := x_in 932 (by decide +kernel) (by decide +kernel)
theorem q873 : Cond.code yX4_putsBack prog_6_method_41_code 1 (none) ∈ x_tbl := x_in 936 (by decide +kernel) (by decide +kernel)
theorem q877 : Cond.code yX4_believes prog_6_method_44_code 4 (some FieldType.int) ∈ x_tbl := x_in 940 (by decide +kernel) (by decide +kernel)
theorem q881 : Cond.code yX4_when prog_6_method_45_code 3 (some FieldType.int) ∈ x_tbl := x_in 944 (by decide +kernel) (by decide +kernel)
theorem q884 : Cond.code yX4_isYard prog_6_method_10_code 1 (some FieldType.boolean) ∈ x_tbl := x_in 947 (by decide +kernel) (by decide +kernel)
theorem q889 : Cond.code yX4_falls prog_6_method_46_code 2 (some FieldType.int) ∈ x_tbl := x_in 952 (by decide +kernel) (by decide +kernel)
theorem q893 : Cond.code yX4_settles prog_6_method_48_code 2 (some FieldType.int) ∈ x_tbl := x_in 956 (by decide +kernel) (by decide +kernel)
theorem q897 : Cond.code yX4_isSettled prog_6_method_47_code 3 (some FieldType.boolean) ∈ x_tbl := x_in 960 (by decide +kernel) (by decide +kernel)
theorem q901 : Cond.code yX4_there prog_6_method_49_code 3 (some FieldType.int) ∈ x_tbl := x_in 964 (by decide +kernel) (by decide +kernel)
theorem q905 : Cond.code yX4_kindFor prog_6_method_51_code 3 (some FieldType.int) ∈ x_tbl := x_in 968 (by decide +kernel) (by decide +kernel)
theorem q909 : Cond.code yX4_farthestBy prog_6_method_50_code 8 (some FieldType.int) ∈ x_tbl := x_in 972 (by decide +kernel) (by decide +kernel)
theorem q913 : Cond.code yX4_with prog_6_method_53_code 3 (some FieldType.int) ∈ x_tbl := x_in 976 (by decide +kernel) (by decide +kernel)
theorem q917 : Cond.code yX4_getsWith prog_6_method_52_code 4 (some FieldType.int) ∈ x_tbl := x_in 980 (by decide +kernel) (by decide +kernel)
theorem q921 : Cond.code yX4_fewest prog_6_method_54_code 5 (some FieldType.int) ∈ x_tbl := x_in 984 (by decide +kernel) (by decide +kernel)
theorem q924 : Cond.code yX4_bits prog_6_method_13_code 3 (some FieldType.int) ∈ x_tbl := x_in 987 (by decide +kernel) (by decide +kernel)
theorem q928 : Cond.code yX4_orNone prog_6_method_3_code 2 (some FieldType.int) ∈ x_tbl := x_in 991 (by decide +kernel) (by decide +kernel)
theorem q932 : Cond.code yX4_farthest prog_6_method_55_code 6 (some FieldType.int) ∈ x_tbl := x_in 995 (by decide +kernel) (by decide +kernel)
theorem q936 : Cond.code yX4_without prog_6_method_56_code 6 (some FieldType.int) ∈ x_tbl := x_in 999 (by decide +kernel) (by decide +kernel)
theorem q940 : Cond.code yX4_persuade prog_6_method_57_code 5 (some FieldType.int) ∈ x_tbl := x_in 1003 (by decide +kernel) (by decide +kernel)
theorem q944 : Cond.code yX4_bears prog_6_method_58_code 4 (some FieldType.int) ∈ x_tbl := x_in 1007 (by decide +kernel) (by decide +kernel)
theorem q948 : Cond.code yX4_seat prog_6_method_59_code 3 (some FieldType.int) ∈ x_tbl := x_in 1011 (by decide +kernel) (by decide +kernel)
theorem q952 : Cond.code yX4_kinds prog_6_method_64_code 6 (some FieldType.int) ∈ x_tbl := x_in 1015 (by decide +kernel) (by decide +kernel)
theorem q956 : Cond.code yX4_notAsked prog_6_method_63_code 4 (some FieldType.int) ∈ x_tbl := x_in 1019 (by decide +kernel) (by decide +kernel)
theorem q960 : Cond.code yX4_notThere prog_6_method_61_code 2 (some FieldType.int) ∈ x_tbl := x_in 1023 (by decide +kernel) (by decide +kernel)
theorem q963 : Cond.code yX4_isSheet prog_6_method_60_code 1 (some FieldType.boolean) ∈ x_tbl := x_in 1026 (by decide +kernel) (by decide +kernel)
theorem q968 : Cond.code yX4_wrongIn prog_6_method_62_code 6 (some FieldType.int) ∈ x_tbl := x_in 1031 (by decide +kernel) (by decide +kernel)
theorem q972 : Cond.code yX4_beliefs prog_6_method_65_code 6 (some FieldType.int) ∈ x_tbl := x_in 1035 (by decide +kernel) (by decide +kernel)
theorem q976 : Cond.code yX4_least prog_6_method_66_code 5 (some FieldType.int) ∈ x_tbl := x_in 1039 (by decide +kernel) (by decide +kernel)
theorem q980 : Cond.code yX4_worth prog_6_method_67_code 3 (some FieldType.int) ∈ x_tbl := x_in 1043 (by decide +kernel) (by decide +kernel)
theorem q984 : Cond.code yX4_hangs prog_6_method_68_code 4 (some FieldType.int) ∈ x_tbl := x_in 1047 (by decide +kernel) (by decide +kernel)
theorem q988 : Cond.code yX4_run prog_6_method_70_code 4 (some FieldType.int) ∈ x_tbl := x_in 1051 (by decide +kernel) (by decide +kernel)
theorem q992 : Cond.code yX4_isRun prog_6_method_69_code 6 (some FieldType.boolean) ∈ x_tbl := x_in 1055 (by decide +kernel) (by decide +kernel)
theorem q996 : Cond.code yX4_gold prog_6_method_72_code 4 (some FieldType.int) ∈ x_tbl := x_in 1059 (by decide +kernel) (by decide +kernel)
theorem q1000 : Cond.code yX4_draw prog_6_method_71_code 1 (some FieldType.int) ∈ x_tbl := x_in 1063 (by decide +kernel) (by decide +kernel)
theorem q1005 : Cond.code yX4_odds prog_6_method_73_code 10 (some FieldType.long) ∈ x_tbl := x_in 1068 (by decide +kernel) (by decide +kernel)
theorem q1011 : Cond.code yX4_seed prog_6_method_74_code 2 (some FieldType.int) ∈ x_tbl := x_in 1074 (by decide +kernel) (by decide +kernel)
theorem q1015 : Cond.code yX4_feed prog_6_method_75_code 4 (some FieldType.int) ∈ x_tbl := x_in 1078 (by decide +kernel) (by decide +kernel)
theorem q1019 : Cond.code yX4_wipe prog_6_method_76_code 2 (some FieldType.int) ∈ x_tbl := x_in 1082 (by decide +kernel) (by decide +kernel)
theorem q1023 : Cond.code yX4_text prog_6_method_87_code 2 (some FieldType.int) ∈ x_tbl := x_in 1086 (by decide +kernel) (by decide +kernel)
theorem q1027 : Cond.code yX4_reads prog_6_method_80_code 1 (none) ∈ x_tbl := x_in 1090 (by decide +kernel) (by decide +kernel)
theorem q1031 : Cond.code yX4_isByte prog_6_method_77_code 4 (some FieldType.boolean) ∈ x_tbl := x_in 1094 (by decide +kernel) (by decide +kernel)
theorem q1035 : Cond.code yX4_wordHere prog_6_method_79_code 2 (some FieldType.int) ∈ x_tbl := x_in 1098 (by decide +kernel) (by decide +kernel)
theorem q1039 : Cond.code yX4_isName prog_6_method_78_code 5 (some FieldType.boolean) ∈ x_tbl := x_in 1102 (by decide +kernel) (by decide +kernel)
theorem q1045 : Cond.code yX4_item prog_6_method_86_code 1 (none) ∈ x_tbl := x_in 1108 (by decide +kernel) (by decide +kernel)
theorem q1049 : Cond.code yX4_oneItem prog_6_method_84_code 4 (none) ∈ x_tbl := x_in 1112 (by decide +kernel) (by decide +kernel)
theorem q1053 : Cond.code yX4_perhaps prog_6_method_83_code 5 (some FieldType.int) ∈ x_tbl := x_in 1116 (by decide +kernel) (by decide +kernel)
theorem q1057 : Cond.code yX4_takes prog_6_method_81_code 2 (some FieldType.boolean) ∈ x_tbl := x_in 1120 (by decide +kernel) (by decide +kernel)
theorem q1061 : Cond.code yX4_number prog_6_method_82_code 4 (some FieldType.int) ∈ x_tbl := x_in 1124 (by decide +kernel) (by decide +kernel)
theorem q1065 : Cond.code yX4_needItem prog_6_method_85_code 3 (none) ∈ x_tbl := x_in 1128 (by decide +kernel) (by decide +kernel)
theorem q1069 : Cond.code yX4_hold prog_6_method_88_code 3 (some FieldType.int) ∈ x_tbl := x_in 1132 (by decide +kernel) (by decide +kernel)
theorem q1073 : Cond.code yX4_as prog_6_method_90_code 4 (some FieldType.int) ∈ x_tbl := x_in 1136 (by decide +kernel) (by decide +kernel)
theorem q1076 : Cond.code yX4_isUnder prog_6_method_89_code 3 (some FieldType.boolean) ∈ x_tbl := x_in 1139 (by decide +kernel) (by decide +kernel)
theorem q1081 : Cond.code yX4_sheet prog_6_method_91_code 5 (some FieldType.int) ∈ x_tbl := x_in 1144 (by decide +kernel) (by decide +kernel)
theorem q1086 : Cond.code yX4_write prog_6_method_92_code 5 (some FieldType.int) ∈ x_tbl := x_in 1149 (by decide +kernel) (by decide +kernel)
theorem q1090 : Cond.code yX4_copy prog_6_method_94_code 9 (some FieldType.int) ∈ x_tbl := x_in 1153 (by decide +kernel) (by decide +kernel)
theorem q1094 : Cond.code yX4_notCopied prog_6_method_93_code 7 (some FieldType.int) ∈ x_tbl := x_in 1157 (by decide +kernel) (by decide +kernel)
theorem q1098 : Cond.code yX4_load prog_6_method_95_code 4 (some FieldType.int) ∈ x_tbl := x_in 1161 (by decide +kernel) (by decide +kernel)
theorem q1102 : Cond.code yX4_judge prog_6_method_96_code 3 (some FieldType.int) ∈ x_tbl := x_in 1165 (by decide +kernel) (by decide +kernel)
theorem q1106 : Cond.code yX4_image prog_6_method_97_code 1 (some FieldType.int) ∈ x_tbl := x_in 1169 (by decide +kernel) (by decide +kernel)
theorem q1110 : Cond.code yX4_undo prog_6_method_98_code 1 (some FieldType.int) ∈ x_tbl := x_in 1173 (by decide +kernel) (by decide +kernel)
theorem q1114 : Cond.code yX4_tear prog_6_method_99_code 2 (some FieldType.int) ∈ x_tbl := x_in 1177 (by decide +kernel) (by decide +kernel)
theorem q1118 : Cond.code yX4_count prog_6_method_101_code 2 (some FieldType.int) ∈ x_tbl := x_in 1181 (by decide +kernel) (by decide +kernel)
theorem q1122 : Cond.code yX4_manyHeld prog_6_method_100_code 3 (some FieldType.int) ∈ x_tbl := x_in 1185 (by decide +kernel) (by decide +kernel)
theorem q1126 : Cond.code yX4_status prog_6_method_102_code 4 (some FieldType.int) ∈ x_tbl := x_in 1189 (by decide +kernel) (by decide +kernel)
theorem q17 : Cond.instanceMethod yX3_init ∈ x_tbl := x_in 80 (by decide +kernel) (by decide +kernel)
theorem q20 : Cond.instanceMethod ⟨"java/lang/Object", "<init>", "()V"⟩ ∈ x_tbl := x_in 83 (by decide +kernel) (by decide +kernel)
theorem q25 : Cond.instanceMethod yX0_init ∈ x_tbl := x_in 88 (by decide +kernel) (by decide +kernel)
theorem q103 : Cond.instanceMethod yX2_init ∈ x_tbl := x_in 166 (by decide +kernel) (by decide +kernel)
theorem q131 : Cond.instanceMethod yX1_init ∈ x_tbl := x_in 194 (by decide +kernel) (by decide +kernel)
theorem q173 : Cond.instanceMethod yX3_need ∈ x_tbl := x_in 236 (by decide +kernel) (by decide +kernel)
theorem q185 : Cond.instanceMethod yX3_finding ∈ x_tbl := x_in 248 (by decide +kernel) (by decide +kernel)
theorem q188 : Cond.instanceMethod yX3_stretch ∈ x_tbl := x_in 251 (by decide +kernel) (by decide +kernel)
theorem q192 : Cond.instanceMethod yX0_sumAt ∈ x_tbl := x_in 255 (by decide +kernel) (by decide +kernel)
theorem q196 : Cond.instanceMethod yX0_brings ∈ x_tbl := x_in 259 (by decide +kernel) (by decide +kernel)
theorem q200 : Cond.instanceMethod yX0_faith ∈ x_tbl := x_in 263 (by decide +kernel) (by decide +kernel)
theorem q208 : Cond.instanceMethod yX0_companions ∈ x_tbl := x_in 271 (by decide +kernel) (by decide +kernel)
theorem q214 : Cond.instanceMethod yX0_isThere ∈ x_tbl := x_in 277 (by decide +kernel) (by decide +kernel)
theorem q219 : Cond.instanceMethod yX3_person ∈ x_tbl := x_in 282 (by decide +kernel) (by decide +kernel)
theorem q227 : Cond.instanceMethod yX0_newcomer ∈ x_tbl := x_in 290 (by decide +kernel) (by decide +kernel)
theorem q231 : Cond.instanceMethod yX3_of ∈ x_tbl := x_in 294 (by decide +kernel) (by decide +kernel)
theorem q236 : Cond.instanceMethod yX3_isPerson ∈ x_tbl := x_in 299 (by decide +kernel) (by decide +kernel)
theorem q240 : Cond.instanceMethod yX3_change ∈ x_tbl := x_in 303 (by decide +kernel) (by decide +kernel)
theorem q244 : Cond.instanceMethod yX3_set ∈ x_tbl := x_in 307 (by decide +kernel) (by decide +kernel)
theorem q251 : Cond.instanceMethod yX3_board ∈ x_tbl := x_in 314 (by decide +kernel) (by decide +kernel)
theorem q256 : Cond.instanceMethod yX3_leave ∈ x_tbl := x_in 319 (by decide +kernel) (by decide +kernel)
theorem q260 : Cond.instanceMethod yX3_go ∈ x_tbl := x_in 323 (by decide +kernel) (by decide +kernel)
theorem q265 : Cond.instanceMethod yX0_passHours ∈ x_tbl := x_in 328 (by decide +kernel) (by decide +kernel)
theorem q269 : Cond.instanceMethod yX0_passHour ∈ x_tbl := x_in 332 (by decide +kernel) (by decide +kernel)
theorem q277 : Cond.instanceMethod yX0_moveBeliefsAboard ∈ x_tbl := x_in 340 (by decide +kernel) (by decide +kernel)
theorem q282 : Cond.instanceMethod yX0_sway ∈ x_tbl := x_in 345 (by decide +kernel) (by decide +kernel)
theorem q286 : Cond.instanceMethod yX0_anyBeliefMoved ∈ x_tbl := x_in 349 (by decide +kernel) (by decide +kernel)
theorem q289 : Cond.instanceMethod yX3_now ∈ x_tbl := x_in 352 (by decide +kernel) (by decide +kernel)
theorem q293 : Cond.instanceMethod yX0_aboardSet ∈ x_tbl := x_in 356 (by decide +kernel) (by decide +kernel)
theorem q297 : Cond.instanceMethod yX0_thereSet ∈ x_tbl := x_in 360 (by decide +kernel) (by decide +kernel)
theorem q302 : Cond.instanceMethod yX0_beliefOfAll ∈ x_tbl := x_in 365 (by decide +kernel) (by decide +kernel)
theorem q306 : Cond.instanceMethod yX3_ahead ∈ x_tbl := x_in 369 (by decide +kernel) (by decide +kernel)
theorem q310 : Cond.instanceMethod yX0_becomes ∈ x_tbl := x_in 373 (by decide +kernel) (by decide +kernel)
theorem q314 : Cond.instanceMethod yX0_yardBehind ∈ x_tbl := x_in 377 (by decide +kernel) (by decide +kernel)
theorem q318 : Cond.instanceMethod yX3_believes ∈ x_tbl := x_in 381 (by decide +kernel) (by decide +kernel)
theorem q322 : Cond.instanceMethod yX3_when ∈ x_tbl := x_in 385 (by decide +kernel) (by decide +kernel)
theorem q328 : Cond.instanceMethod yX3_falls ∈ x_tbl := x_in 391 (by decide +kernel) (by decide +kernel)
theorem q332 : Cond.instanceMethod yX3_settles ∈ x_tbl := x_in 395 (by decide +kernel) (by decide +kernel)
theorem q336 : Cond.instanceMethod yX3_there ∈ x_tbl := x_in 399 (by decide +kernel) (by decide +kernel)
theorem q340 : Cond.instanceMethod yX3_kindFor ∈ x_tbl := x_in 403 (by decide +kernel) (by decide +kernel)
theorem q347 : Cond.instanceMethod yX3_with ∈ x_tbl := x_in 410 (by decide +kernel) (by decide +kernel)
theorem q352 : Cond.instanceMethod yX3_setsOfPeople ∈ x_tbl := x_in 415 (by decide +kernel) (by decide +kernel)
theorem q356 : Cond.instanceMethod yX3_trialWith ∈ x_tbl := x_in 419 (by decide +kernel) (by decide +kernel)
theorem q359 : Cond.instanceMethod yX0_letRide ∈ x_tbl := x_in 422 (by decide +kernel) (by decide +kernel)
theorem q366 : Cond.instanceMethod yX3_fewest ∈ x_tbl := x_in 429 (by decide +kernel) (by decide +kernel)
theorem q376 : Cond.instanceMethod yX3_farthest ∈ x_tbl := x_in 439 (by decide +kernel) (by decide +kernel)
theorem q380 : Cond.instanceMethod yX3_without ∈ x_tbl := x_in 443 (by decide +kernel) (by decide +kernel)
theorem q384 : Cond.instanceMethod yX3_persuade ∈ x_tbl := x_in 447 (by decide +kernel) (by decide +kernel)
theorem q389 : Cond.instanceMethod yX3_trialBelieving ∈ x_tbl := x_in 452 (by decide +kernel) (by decide +kernel)
theorem q392 : Cond.instanceMethod yX3_bears ∈ x_tbl := x_in 455 (by decide +kernel) (by decide +kernel)
theorem q397 : Cond.instanceMethod yX3_greatestSumMet ∈ x_tbl := x_in 460 (by decide +kernel) (by decide +kernel)
theorem q403 : Cond.instanceMethod yX3_seat ∈ x_tbl := x_in 466 (by decide +kernel) (by decide +kernel)
theorem q407 : Cond.instanceMethod yX3_kinds ∈ x_tbl := x_in 470 (by decide +kernel) (by decide +kernel)
theorem q412 : Cond.instanceMethod yX3_sheetAt ∈ x_tbl := x_in 475 (by decide +kernel) (by decide +kernel)
theorem q419 : Cond.instanceMethod yX3_beliefs ∈ x_tbl := x_in 482 (by decide +kernel) (by decide +kernel)
theorem q423 : Cond.instanceMethod yX3_least ∈ x_tbl := x_in 486 (by decide +kernel) (by decide +kernel)
theorem q427 : Cond.instanceMethod yX3_worth ∈ x_tbl := x_in 490 (by decide +kernel) (by decide +kernel)
theorem q431 : Cond.instanceMethod yX3_hangs ∈ x_tbl := x_in 494 (by decide +kernel) (by decide +kernel)
theorem q436 : Cond.instanceMethod yX3_run ∈ x_tbl := x_in 499 (by decide +kernel) (by decide +kernel)
theorem q441 : Cond.instanceMethod yX3_noteWhatIsBrought ∈ x_tbl := x_in 504 (by decide +kernel) (by decide +kernel)
theorem q445 : Cond.instanceMethod yX3_endsAll ∈ x_tbl := x_in 508 (by decide +kernel) (by decide +kernel)
theorem q449 : Cond.instanceMethod yX3_gold ∈ x_tbl := x_in 512 (by decide +kernel) (by decide +kernel)
theorem q453 : Cond.instanceMethod yX0_nextDraw ∈ x_tbl := x_in 516 (by decide +kernel) (by decide +kernel)
theorem q458 : Cond.instanceMethod yX3_odds ∈ x_tbl := x_in 521 (by decide +kernel) (by decide +kernel)
theorem q464 : Cond.instanceMethod yX3_seed ∈ x_tbl := x_in 527 (by decide +kernel) (by decide +kernel)
theorem q468 : Cond.instanceMethod yX3_feed ∈ x_tbl := x_in 531 (by decide +kernel) (by decide +kernel)
theorem q472 : Cond.instanceMethod yX2_append ∈ x_tbl := x_in 535 (by decide +kernel) (by decide +kernel)
theorem q476 : Cond.instanceMethod yX3_wipe ∈ x_tbl := x_in 539 (by decide +kernel) (by decide +kernel)
theorem q480 : Cond.instanceMethod yX3_text ∈ x_tbl := x_in 543 (by decide +kernel) (by decide +kernel)
theorem q484 : Cond.instanceMethod yX2_tellAll ∈ x_tbl := x_in 547 (by decide +kernel) (by decide +kernel)
theorem q489 : Cond.instanceMethod yX2_advance ∈ x_tbl := x_in 552 (by decide +kernel) (by decide +kernel)
theorem q500 : Cond.instanceMethod yX2_item ∈ x_tbl := x_in 563 (by decide +kernel) (by decide +kernel)
theorem q504 : Cond.instanceMethod yX2_kindNamed ∈ x_tbl := x_in 567 (by decide +kernel) (by decide +kernel)
theorem q509 : Cond.instanceMethod yX2_isWord ∈ x_tbl := x_in 572 (by decide +kernel) (by decide +kernel)
theorem q512 : Cond.instanceMethod ⟨"java/lang/String", "length", "()I"⟩ ∈ x_tbl := x_in 575 (by decide +kernel) (by decide +kernel)
theorem q516 : Cond.instanceMethod ⟨"java/lang/String", "coder", "()B"⟩ ∈ x_tbl := x_in 579 (by decide +kernel) (by decide +kernel)
theorem q522 : Cond.instanceMethod ⟨"java/lang/String", "charAt", "(I)C"⟩ ∈ x_tbl := x_in 585 (by decide +kernel) (by decide +kernel)
theorem q526 : Cond.instanceMethod ⟨"java/lang/String", "isLatin1", "()Z"⟩ ∈ x_tbl := x_in 589 (by decide +kernel) (by decide +kernel)
theorem q567 : Cond.instanceMethod yX2_newcomer ∈ x_tbl := x_in 630 (by decide +kernel) (by decide +kernel)
theorem q572 : Cond.instanceMethod yX2_numberFollows ∈ x_tbl := x_in 635 (by decide +kernel) (by decide +kernel)
theorem q579 : Cond.instanceMethod yX2_needOfStretch ∈ x_tbl := x_in 642 (by decide +kernel) (by decide +kernel)
theorem q587 : Cond.instanceMethod yX3_hold ∈ x_tbl := x_in 650 (by decide +kernel) (by decide +kernel)
theorem q594 : Cond.instanceMethod yX3_as ∈ x_tbl := x_in 657 (by decide +kernel) (by decide +kernel)
theorem q604 : Cond.instanceMethod yX3_sheet ∈ x_tbl := x_in 667 (by decide +kernel) (by decide +kernel)
theorem q609 : Cond.instanceMethod yX1_begin ∈ x_tbl := x_in 672 (by decide +kernel) (by decide +kernel)
theorem q614 : Cond.instanceMethod yX3_write ∈ x_tbl := x_in 677 (by decide +kernel) (by decide +kernel)
theorem q618 : Cond.instanceMethod yX1_lowest ∈ x_tbl := x_in 681 (by decide +kernel) (by decide +kernel)
theorem q622 : Cond.instanceMethod yX3_copy ∈ x_tbl := x_in 685 (by decide +kernel) (by decide +kernel)
theorem q626 : Cond.instanceMethod yX1_hasRow ∈ x_tbl := x_in 689 (by decide +kernel) (by decide +kernel)
theorem q631 : Cond.instanceMethod yX3_load ∈ x_tbl := x_in 694 (by decide +kernel) (by decide +kernel)
theorem q635 : Cond.instanceMethod yX3_judge ∈ x_tbl := x_in 698 (by decide +kernel) (by decide +kernel)
theorem q639 : Cond.instanceMethod yX3_image ∈ x_tbl := x_in 702 (by decide +kernel) (by decide +kernel)
theorem q643 : Cond.instanceMethod yX3_undo ∈ x_tbl := x_in 706 (by decide +kernel) (by decide +kernel)
theorem q647 : Cond.instanceMethod yX3_tear ∈ x_tbl := x_in 710 (by decide +kernel) (by decide +kernel)
theorem q651 : Cond.instanceMethod yX3_count ∈ x_tbl := x_in 714 (by decide +kernel) (by decide +kernel)
theorem q655 : Cond.instanceMethod yX0_spotsInUse ∈ x_tbl := x_in 718 (by decide +kernel) (by decide +kernel)
theorem q659 : Cond.instanceMethod yX3_status ∈ x_tbl := x_in 722 (by decide +kernel) (by decide +kernel)
theorem q665 : Cond.instanceMethod yX4_init ∈ x_tbl := x_in 728 (by decide +kernel) (by decide +kernel)
theorem q721 : Cond.instanceMethod yX4_need ∈ x_tbl := x_in 784 (by decide +kernel) (by decide +kernel)
theorem q732 : Cond.instanceMethod yX4_becomes ∈ x_tbl := x_in 795 (by decide +kernel) (by decide +kernel)
theorem q737 : Cond.instanceMethod yX4_finds ∈ x_tbl := x_in 800 (by decide +kernel) (by decide +kernel)
theorem q740 : Cond.instanceMethod yX4_stretch ∈ x_tbl := x_in 803 (by decide +kernel) (by decide +kernel)
theorem q745 : Cond.instanceMethod yX4_sumAt ∈ x_tbl := x_in 808 (by decide +kernel) (by decide +kernel)
theorem q749 : Cond.instanceMethod yX4_brings ∈ x_tbl := x_in 812 (by decide +kernel) (by decide +kernel)
theorem q753 : Cond.instanceMethod yX4_faithOf ∈ x_tbl := x_in 816 (by decide +kernel) (by decide +kernel)
theorem q757 : Cond.instanceMethod yX4_told ∈ x_tbl := x_in 820 (by decide +kernel) (by decide +kernel)
theorem q764 : Cond.instanceMethod yX4_othersWith ∈ x_tbl := x_in 827 (by decide +kernel) (by decide +kernel)
theorem q772 : Cond.instanceMethod yX4_isThere ∈ x_tbl := x_in 835 (by decide +kernel) (by decide +kernel)
theorem q775 : Cond.instanceMethod yX4_person ∈ x_tbl := x_in 838 (by decide +kernel) (by decide +kernel)
theorem q781 : Cond.instanceMethod yX4_comes ∈ x_tbl := x_in 844 (by decide +kernel) (by decide +kernel)
theorem q785 : Cond.instanceMethod yX4_put ∈ x_tbl := x_in 848 (by decide +kernel) (by decide +kernel)
theorem q788 : Cond.instanceMethod yX4_of ∈ x_tbl := x_in 851 (by decide +kernel) (by decide +kernel)
theorem q793 : Cond.instanceMethod yX4_isOne ∈ x_tbl := x_in 856 (by decide +kernel) (by decide +kernel)
theorem q796 : Cond.instanceMethod yX4_change ∈ x_tbl := x_in 859 (by decide +kernel) (by decide +kernel)
theorem q803 : Cond.instanceMethod yX4_set ∈ x_tbl := x_in 866 (by decide +kernel) (by decide +kernel)
theorem q807 : Cond.instanceMethod yX4_board ∈ x_tbl := x_in 870 (by decide +kernel) (by decide +kernel)
theorem q812 : Cond.instanceMethod yX4_leave ∈ x_tbl := x_in 875 (by decide +kernel) (by decide +kernel)
theorem q816 : Cond.instanceMethod yX4_go ∈ x_tbl := x_in 879 (by decide +kernel) (by decide +kernel)
theorem q821 : Cond.instanceMethod yX4_goesOn ∈ x_tbl := x_in 884 (by decide +kernel) (by decide +kernel)
theorem q825 : Cond.instanceMethod yX4_hour ∈ x_tbl := x_in 888 (by decide +kernel) (by decide +kernel)
theorem q829 : Cond.instanceMethod yX4_willFall ∈ x_tbl := x_in 892 (by decide +kernel) (by decide +kernel)
theorem q833 : Cond.instanceMethod yX4_sways ∈ x_tbl := x_in 896 (by decide +kernel) (by decide +kernel)
theorem q837 : Cond.instanceMethod yX4_meanWith ∈ x_tbl := x_in 900 (by decide +kernel) (by decide +kernel)
theorem q840 : Cond.instanceMethod yX4_now ∈ x_tbl := x_in 903 (by decide +kernel) (by decide +kernel)
theorem q845 : Cond.instanceMethod yX4_aboard ∈ x_tbl := x_in 908 (by decide +kernel) (by decide +kernel)
theorem q849 : Cond.instanceMethod yX4_allThere ∈ x_tbl := x_in 912 (by decide +kernel) (by decide +kernel)
theorem q853 : Cond.instanceMethod yX4_allBelief ∈ x_tbl := x_in 916 (by decide +kernel) (by decide +kernel)
theorem q856 : Cond.instanceMethod yX4_ahead ∈ x_tbl := x_in 919 (by decide +kernel) (by decide +kernel)
theorem q861 : Cond.instanceMethod yX4_thinks ∈ x_tbl := x_in 924 (by decide +kernel) (by decide +kernel)
theorem q868 : Cond.instanceMethod yX4_getsTo ∈ x_tbl := x_in 931 (by decide +kernel) (by decide +kernel)
theorem q872 : Cond.instanceMethod yX4_putsBack ∈ x_tbl := x_in 935 (by decide +kernel) (by decide +kernel)
theorem q875 : Cond.instanceMethod yX4_believes ∈ x_tbl := x_in 938 (by decide +kernel) (by decide +kernel)
theorem q879 : Cond.instanceMethod yX4_when ∈ x_tbl := x_in 942 (by decide +kernel) (by decide +kernel)
theorem q887 : Cond.instanceMethod yX4_falls ∈ x_tbl := x_in 950 (by decide +kernel) (by decide +kernel)
theorem q891 : Cond.instanceMethod yX4_settles ∈ x_tbl := x_in 954 (by decide +kernel) (by decide +kernel)
theorem q896 : Cond.instanceMethod yX4_isSettled ∈ x_tbl := x_in 959 (by decide +kernel) (by decide +kernel)
theorem q899 : Cond.instanceMethod yX4_there ∈ x_tbl := x_in 962 (by decide +kernel) (by decide +kernel)
theorem q903 : Cond.instanceMethod yX4_kindFor ∈ x_tbl := x_in 966 (by decide +kernel) (by decide +kernel)
theorem q908 : Cond.instanceMethod yX4_farthestBy ∈ x_tbl := x_in 971 (by decide +kernel) (by decide +kernel)
theorem q911 : Cond.instanceMethod yX4_with ∈ x_tbl := x_in 974 (by decide +kernel) (by decide +kernel)
theorem q916 : Cond.instanceMethod yX4_getsWith ∈ x_tbl := x_in 979 (by decide +kernel) (by decide +kernel)
theorem q919 : Cond.instanceMethod yX4_fewest ∈ x_tbl := x_in 982 (by decide +kernel) (by decide +kernel)
theorem q927 : Cond.instanceMethod yX4_orNone ∈ x_tbl := x_in 990 (by decide +kernel) (by decide +kernel)
theorem q930 : Cond.instanceMethod yX4_farthest ∈ x_tbl := x_in 993 (by decide +kernel) (by decide +kernel)
theorem q934 : Cond.instanceMethod yX4_without ∈ x_tbl := x_in 997 (by decide +kernel) (by decide +kernel)
theorem q938 : Cond.instanceMethod yX4_persuade ∈ x_tbl := x_in 1001 (by decide +kernel) (by decide +kernel)
theorem q942 : Cond.instanceMethod yX4_bears ∈ x_tbl := x_in 1005 (by decide +kernel) (by decide +kernel)
theorem q946 : Cond.instanceMethod yX4_seat ∈ x_tbl := x_in 1009 (by decide +kernel) (by decide +kernel)
theorem q950 : Cond.instanceMethod yX4_kinds ∈ x_tbl := x_in 1013 (by decide +kernel) (by decide +kernel)
theorem q955 : Cond.instanceMethod yX4_notAsked ∈ x_tbl := x_in 1018 (by decide +kernel) (by decide +kernel)
theorem q959 : Cond.instanceMethod yX4_notThere ∈ x_tbl := x_in 1022 (by decide +kernel) (by decide +kernel)
theorem q967 : Cond.instanceMethod yX4_wrongIn ∈ x_tbl := x_in 1030 (by decide +kernel) (by decide +kernel)
theorem q970 : Cond.instanceMethod yX4_beliefs ∈ x_tbl := x_in 1033 (by decide +kernel) (by decide +kernel)
theorem q974 : Cond.instanceMethod yX4_least ∈ x_tbl := x_in 1037 (by decide +kernel) (by decide +kernel)
theorem q978 : Cond.instanceMethod yX4_worth ∈ x_tbl := x_in 1041 (by decide +kernel) (by decide +kernel)
theorem q982 : Cond.instanceMethod yX4_hangs ∈ x_tbl := x_in 1045 (by decide +kernel) (by decide +kernel)
theorem q986 : Cond.instanceMethod yX4_run ∈ x_tbl := x_in 1049 (by decide +kernel) (by decide +kernel)
theorem q991 : Cond.instanceMethod yX4_isRun ∈ x_tbl := x_in 1054 (by decide +kernel) (by decide +kernel)
theorem q994 : Cond.instanceMethod yX4_gold ∈ x_tbl := x_in 1057 (by decide +kernel) (by decide +kernel)
theorem q999 : Cond.instanceMethod yX4_draw ∈ x_tbl := x_in 1062 (by decide +kernel) (by decide +kernel)
theorem q1003 : Cond.instanceMethod yX4_odds ∈ x_tbl := x_in 1066 (by decide +kernel) (by decide +kernel)
theorem q1009 : Cond.instanceMethod yX4_seed ∈ x_tbl := x_in 1072 (by decide +kernel) (by decide +kernel)
theorem q1013 : Cond.instanceMethod yX4_feed ∈ x_tbl := x_in 1076 (by decide +kernel) (by decide +kernel)
theorem q1017 : Cond.instanceMethod yX4_wipe ∈ x_tbl := x_in 1080 (by decide +kernel) (by decide +kernel)
theorem q1021 : Cond.instanceMethod yX4_text ∈ x_tbl := x_in 1084 (by decide +kernel) (by decide +kernel)
theorem q1026 : Cond.instanceMethod yX4_reads ∈ x_tbl := x_in 1089 (by decide +kernel) (by decide +kernel)
theorem q1030 : Cond.instanceMethod yX4_isByte ∈ x_tbl := x_in 1093 (by decide +kernel) (by decide +kernel)
theorem q1034 : Cond.instanceMethod yX4_wordHere ∈ x_tbl := x_in 1097 (by decide +kernel) (by decide +kernel)
theorem q1038 : Cond.instanceMethod yX4_isName ∈ x_tbl := x_in 1101 (by decide +kernel) (by decide +kernel)
theorem q1044 : Cond.instanceMethod yX4_item ∈ x_tbl := x_in 1107 (by decide +kernel) (by decide +kernel)
theorem q1048 : Cond.instanceMethod yX4_oneItem ∈ x_tbl := x_in 1111 (by decide +kernel) (by decide +kernel)
theorem q1052 : Cond.instanceMethod yX4_perhaps ∈ x_tbl := x_in 1115 (by decide +kernel) (by decide +kernel)
theorem q1056 : Cond.instanceMethod yX4_takes ∈ x_tbl := x_in 1119 (by decide +kernel) (by decide +kernel)
theorem q1060 : Cond.instanceMethod yX4_number ∈ x_tbl := x_in 1123 (by decide +kernel) (by decide +kernel)
theorem q1064 : Cond.instanceMethod yX4_needItem ∈ x_tbl := x_in 1127 (by decide +kernel) (by decide +kernel)
theorem q1067 : Cond.instanceMethod yX4_hold ∈ x_tbl := x_in 1130 (by decide +kernel) (by decide +kernel)
theorem q1071 : Cond.instanceMethod yX4_as ∈ x_tbl := x_in 1134 (by decide +kernel) (by decide +kernel)
theorem q1079 : Cond.instanceMethod yX4_sheet ∈ x_tbl := x_in 1142 (by decide +kernel) (by decide +kernel)
theorem q1084 : Cond.instanceMethod yX4_write ∈ x_tbl := x_in 1147 (by decide +kernel) (by decide +kernel)
theorem q1088 : Cond.instanceMethod yX4_copy ∈ x_tbl := x_in 1151 (by decide +kernel) (by decide +kernel)
theorem q1093 : Cond.instanceMethod yX4_notCopied ∈ x_tbl := x_in 1156 (by decide +kernel) (by decide +kernel)
theorem q1096 : Cond.instanceMethod yX4_load ∈ x_tbl := x_in 1159 (by decide +kernel) (by decide +kernel)
theorem q1100 : Cond.instanceMethod yX4_judge ∈ x_tbl := x_in 1163 (by decide +kernel) (by decide +kernel)
theorem q1104 : Cond.instanceMethod yX4_image ∈ x_tbl := x_in 1167 (by decide +kernel) (by decide +kernel)
theorem q1108 : Cond.instanceMethod yX4_undo ∈ x_tbl := x_in 1171 (by decide +kernel) (by decide +kernel)
theorem q1112 : Cond.instanceMethod yX4_tear ∈ x_tbl := x_in 1175 (by decide +kernel) (by decide +kernel)
theorem q1116 : Cond.instanceMethod yX4_count ∈ x_tbl := x_in 1179 (by decide +kernel) (by decide +kernel)
theorem q1121 : Cond.instanceMethod yX4_manyHeld ∈ x_tbl := x_in 1184 (by decide +kernel) (by decide +kernel)
theorem q1124 : Cond.instanceMethod yX4_status ∈ x_tbl := x_in 1187 (by decide +kernel) (by decide +kernel)
theorem q29 : Cond.static ⟨"java/util/Arrays", "fill", "([II)V"⟩ ∈ x_tbl := x_in 92 (by decide +kernel) (by decide +kernel)
theorem q177 : Cond.static yX3_isStretch ∈ x_tbl := x_in 240 (by decide +kernel) (by decide +kernel)
theorem q180 : Cond.static yX3_isWithin ∈ x_tbl := x_in 243 (by decide +kernel) (by decide +kernel)
theorem q204 : Cond.static ⟨"java/lang/Math", "min", "(II)I"⟩ ∈ x_tbl := x_in 267 (by decide +kernel) (by decide +kernel)
theorem q211 : Cond.static ⟨"java/lang/Math", "max", "(II)I"⟩ ∈ x_tbl := x_in 274 (by decide +kernel) (by decide +kernel)
theorem q223 : Cond.static yX3_isKind ∈ x_tbl := x_in 286 (by decide +kernel) (by decide +kernel)
theorem q248 : Cond.static yX3_isYard ∈ x_tbl := x_in 311 (by decide +kernel) (by decide +kernel)
theorem q273 : Cond.static ⟨"java/lang/System", "arraycopy", "(Ljava/lang/Object;ILjava/lang/Object;II)V"⟩ ∈ x_tbl := x_in 336 (by decide +kernel) (by decide +kernel)
theorem q344 : Cond.static yX3_isRide ∈ x_tbl := x_in 407 (by decide +kernel) (by decide +kernel)
theorem q363 : Cond.static yX3_has ∈ x_tbl := x_in 426 (by decide +kernel) (by decide +kernel)
theorem q370 : Cond.static ⟨"java/lang/Integer", "bitCount", "(I)I"⟩ ∈ x_tbl := x_in 433 (by decide +kernel) (by decide +kernel)
theorem q416 : Cond.static yX3_firstWrong ∈ x_tbl := x_in 479 (by decide +kernel) (by decide +kernel)
theorem q492 : Cond.static yX2_isLetter ∈ x_tbl := x_in 555 (by decide +kernel) (by decide +kernel)
theorem q495 : Cond.static yX2_isDigit ∈ x_tbl := x_in 558 (by decide +kernel) (by decide +kernel)
theorem q530 : Cond.static ⟨"java/lang/StringLatin1", "charAt", "([BI)C"⟩ ∈ x_tbl := x_in 593 (by decide +kernel) (by decide +kernel)
theorem q533 : Cond.static ⟨"java/lang/String", "checkIndex", "(II)V"⟩ ∈ x_tbl := x_in 596 (by decide +kernel) (by decide +kernel)
theorem q538 : Cond.static ⟨"jdk/internal/util/Preconditions", "checkIndex", "(IILjava/util/function/BiFunction;)I"⟩ ∈ x_tbl := x_in 601 (by decide +kernel) (by decide +kernel)
theorem q541 : Cond.static ⟨"java/lang/StringUTF16", "charAt", "([BI)C"⟩ ∈ x_tbl := x_in 604 (by decide +kernel) (by decide +kernel)
theorem q544 : Cond.static ⟨"java/lang/StringUTF16", "checkIndex", "(I[B)V"⟩ ∈ x_tbl := x_in 607 (by decide +kernel) (by decide +kernel)
theorem q547 : Cond.static ⟨"java/lang/StringUTF16", "length", "([B)I"⟩ ∈ x_tbl := x_in 610 (by decide +kernel) (by decide +kernel)
theorem q551 : Cond.static ⟨"java/lang/StringUTF16", "getChar", "([BI)C"⟩ ∈ x_tbl := x_in 614 (by decide +kernel) (by decide +kernel)
theorem q591 : Cond.static yX3_isSpot ∈ x_tbl := x_in 654 (by decide +kernel) (by decide +kernel)
theorem q598 : Cond.static yX3_isUnder ∈ x_tbl := x_in 661 (by decide +kernel) (by decide +kernel)
theorem q725 : Cond.static yX4_isStretch ∈ x_tbl := x_in 788 (by decide +kernel) (by decide +kernel)
theorem q728 : Cond.static yX4_in ∈ x_tbl := x_in 791 (by decide +kernel) (by decide +kernel)
theorem q760 : Cond.static yX4_held ∈ x_tbl := x_in 823 (by decide +kernel) (by decide +kernel)
theorem q767 : Cond.static yX4_farFrom ∈ x_tbl := x_in 830 (by decide +kernel) (by decide +kernel)
theorem q800 : Cond.static yX4_mayBe ∈ x_tbl := x_in 863 (by decide +kernel) (by decide +kernel)
theorem q864 : Cond.static yX4_copyAll ∈ x_tbl := x_in 927 (by decide +kernel) (by decide +kernel)
theorem q883 : Cond.static yX4_isYard ∈ x_tbl := x_in 946 (by decide +kernel) (by decide +kernel)
theorem q923 : Cond.static yX4_bits ∈ x_tbl := x_in 986 (by decide +kernel) (by decide +kernel)
theorem q962 : Cond.static yX4_isSheet ∈ x_tbl := x_in 1025 (by decide +kernel) (by decide +kernel)
theorem q1075 : Cond.static yX4_isUnder ∈ x_tbl := x_in 1138 (by decide +kernel) (by decide +kernel)
theorem q174 : Cond.selects "FaithRails" yX3_need yX3_need ∈ x_tbl := x_in 237 (by decide +kernel) (by decide +kernel)
theorem q189 : Cond.selects "FaithRails" yX3_stretch yX3_stretch ∈ x_tbl := x_in 252 (by decide +kernel) (by decide +kernel)
theorem q193 : Cond.selects "FaithRails$Prairie" yX0_sumAt yX0_sumAt ∈ x_tbl := x_in 256 (by decide +kernel) (by decide +kernel)
theorem q197 : Cond.selects "FaithRails$Prairie" yX0_brings yX0_brings ∈ x_tbl := x_in 260 (by decide +kernel) (by decide +kernel)
theorem q201 : Cond.selects "FaithRails$Prairie" yX0_faith yX0_faith ∈ x_tbl := x_in 264 (by decide +kernel) (by decide +kernel)
theorem q215 : Cond.selects "FaithRails$Prairie" yX0_isThere yX0_isThere ∈ x_tbl := x_in 278 (by decide +kernel) (by decide +kernel)
theorem q220 : Cond.selects "FaithRails" yX3_person yX3_person ∈ x_tbl := x_in 283 (by decide +kernel) (by decide +kernel)
theorem q228 : Cond.selects "FaithRails$Prairie" yX0_newcomer yX0_newcomer ∈ x_tbl := x_in 291 (by decide +kernel) (by decide +kernel)
theorem q232 : Cond.selects "FaithRails" yX3_of yX3_of ∈ x_tbl := x_in 295 (by decide +kernel) (by decide +kernel)
theorem q241 : Cond.selects "FaithRails" yX3_change yX3_change ∈ x_tbl := x_in 304 (by decide +kernel) (by decide +kernel)
theorem q245 : Cond.selects "FaithRails" yX3_set yX3_set ∈ x_tbl := x_in 308 (by decide +kernel) (by decide +kernel)
theorem q252 : Cond.selects "FaithRails" yX3_board yX3_board ∈ x_tbl := x_in 315 (by decide +kernel) (by decide +kernel)
theorem q257 : Cond.selects "FaithRails" yX3_leave yX3_leave ∈ x_tbl := x_in 320 (by decide +kernel) (by decide +kernel)
theorem q261 : Cond.selects "FaithRails" yX3_go yX3_go ∈ x_tbl := x_in 324 (by decide +kernel) (by decide +kernel)
theorem q266 : Cond.selects "FaithRails$Prairie" yX0_passHours yX0_passHours ∈ x_tbl := x_in 329 (by decide +kernel) (by decide +kernel)
theorem q270 : Cond.selects "FaithRails$Prairie" yX0_passHour yX0_passHour ∈ x_tbl := x_in 333 (by decide +kernel) (by decide +kernel)
theorem q290 : Cond.selects "FaithRails" yX3_now yX3_now ∈ x_tbl := x_in 353 (by decide +kernel) (by decide +kernel)
theorem q294 : Cond.selects "FaithRails$Prairie" yX0_aboardSet yX0_aboardSet ∈ x_tbl := x_in 357 (by decide +kernel) (by decide +kernel)
theorem q298 : Cond.selects "FaithRails$Prairie" yX0_thereSet yX0_thereSet ∈ x_tbl := x_in 361 (by decide +kernel) (by decide +kernel)
theorem q303 : Cond.selects "FaithRails$Prairie" yX0_beliefOfAll yX0_beliefOfAll ∈ x_tbl := x_in 366 (by decide +kernel) (by decide +kernel)
theorem q307 : Cond.selects "FaithRails" yX3_ahead yX3_ahead ∈ x_tbl := x_in 370 (by decide +kernel) (by decide +kernel)
theorem q311 : Cond.selects "FaithRails$Prairie" yX0_becomes yX0_becomes ∈ x_tbl := x_in 374 (by decide +kernel) (by decide +kernel)
theorem q315 : Cond.selects "FaithRails$Prairie" yX0_yardBehind yX0_yardBehind ∈ x_tbl := x_in 378 (by decide +kernel) (by decide +kernel)
theorem q319 : Cond.selects "FaithRails" yX3_believes yX3_believes ∈ x_tbl := x_in 382 (by decide +kernel) (by decide +kernel)
theorem q323 : Cond.selects "FaithRails" yX3_when yX3_when ∈ x_tbl := x_in 386 (by decide +kernel) (by decide +kernel)
theorem q329 : Cond.selects "FaithRails" yX3_falls yX3_falls ∈ x_tbl := x_in 392 (by decide +kernel) (by decide +kernel)
theorem q333 : Cond.selects "FaithRails" yX3_settles yX3_settles ∈ x_tbl := x_in 396 (by decide +kernel) (by decide +kernel)
theorem q337 : Cond.selects "FaithRails" yX3_there yX3_there ∈ x_tbl := x_in 400 (by decide +kernel) (by decide +kernel)
theorem q341 : Cond.selects "FaithRails" yX3_kindFor yX3_kindFor ∈ x_tbl := x_in 404 (by decide +kernel) (by decide +kernel)
theorem q348 : Cond.selects "FaithRails" yX3_with yX3_with ∈ x_tbl := x_in 411 (by decide +kernel) (by decide +kernel)
theorem q360 : Cond.selects "FaithRails$Prairie" yX0_letRide yX0_letRide ∈ x_tbl := x_in 423 (by decide +kernel) (by decide +kernel)
theorem q367 : Cond.selects "FaithRails" yX3_fewest yX3_fewest ∈ x_tbl := x_in 430 (by decide +kernel) (by decide +kernel)
theorem q377 : Cond.selects "FaithRails" yX3_farthest yX3_farthest ∈ x_tbl := x_in 440 (by decide +kernel) (by decide +kernel)
theorem q381 : Cond.selects "FaithRails" yX3_without yX3_without ∈ x_tbl := x_in 444 (by decide +kernel) (by decide +kernel)
theorem q385 : Cond.selects "FaithRails" yX3_persuade yX3_persuade ∈ x_tbl := x_in 448 (by decide +kernel) (by decide +kernel)
theorem q393 : Cond.selects "FaithRails" yX3_bears yX3_bears ∈ x_tbl := x_in 456 (by decide +kernel) (by decide +kernel)
theorem q404 : Cond.selects "FaithRails" yX3_seat yX3_seat ∈ x_tbl := x_in 467 (by decide +kernel) (by decide +kernel)
theorem q408 : Cond.selects "FaithRails" yX3_kinds yX3_kinds ∈ x_tbl := x_in 471 (by decide +kernel) (by decide +kernel)
theorem q420 : Cond.selects "FaithRails" yX3_beliefs yX3_beliefs ∈ x_tbl := x_in 483 (by decide +kernel) (by decide +kernel)
theorem q424 : Cond.selects "FaithRails" yX3_least yX3_least ∈ x_tbl := x_in 487 (by decide +kernel) (by decide +kernel)
theorem q428 : Cond.selects "FaithRails" yX3_worth yX3_worth ∈ x_tbl := x_in 491 (by decide +kernel) (by decide +kernel)
theorem q432 : Cond.selects "FaithRails" yX3_hangs yX3_hangs ∈ x_tbl := x_in 495 (by decide +kernel) (by decide +kernel)
theorem q437 : Cond.selects "FaithRails" yX3_run yX3_run ∈ x_tbl := x_in 500 (by decide +kernel) (by decide +kernel)
theorem q450 : Cond.selects "FaithRails" yX3_gold yX3_gold ∈ x_tbl := x_in 513 (by decide +kernel) (by decide +kernel)
theorem q454 : Cond.selects "FaithRails$Prairie" yX0_nextDraw yX0_nextDraw ∈ x_tbl := x_in 517 (by decide +kernel) (by decide +kernel)
theorem q459 : Cond.selects "FaithRails" yX3_odds yX3_odds ∈ x_tbl := x_in 522 (by decide +kernel) (by decide +kernel)
theorem q465 : Cond.selects "FaithRails" yX3_seed yX3_seed ∈ x_tbl := x_in 528 (by decide +kernel) (by decide +kernel)
theorem q469 : Cond.selects "FaithRails" yX3_feed yX3_feed ∈ x_tbl := x_in 532 (by decide +kernel) (by decide +kernel)
theorem q473 : Cond.selects "FaithRails$Tape" yX2_append yX2_append ∈ x_tbl := x_in 536 (by decide +kernel) (by decide +kernel)
theorem q477 : Cond.selects "FaithRails" yX3_wipe yX3_wipe ∈ x_tbl := x_in 540 (by decide +kernel) (by decide +kernel)
theorem q481 : Cond.selects "FaithRails" yX3_text yX3_text ∈ x_tbl := x_in 544 (by decide +kernel) (by decide +kernel)
theorem q485 : Cond.selects "FaithRails$Tape" yX2_tellAll yX2_tellAll ∈ x_tbl := x_in 548 (by decide +kernel) (by decide +kernel)
theorem q513 : Cond.selects "java/lang/String" ⟨"java/lang/String", "length", "()I"⟩ ⟨"java/lang/String", "length", "()I"⟩ ∈ x_tbl := x_in 576 (by decide +kernel) (by decide +kernel)
theorem q517 : Cond.selects "java/lang/String" ⟨"java/lang/String", "coder", "()B"⟩ ⟨"java/lang/String", "coder", "()B"⟩ ∈ x_tbl := x_in 580 (by decide +kernel) (by decide +kernel)
theorem q523 : Cond.selects "java/lang/String" ⟨"java/lang/String", "charAt", "(I)C"⟩ ⟨"java/lang/String", "charAt", "(I)C"⟩ ∈ x_tbl := x_in 586 (by decide +kernel) (by decide +kernel)
theorem q527 : Cond.selects "java/lang/String" ⟨"java/lang/String", "isLatin1", "()Z"⟩ ⟨"java/lang/String", "isLatin1", "()Z"⟩ ∈ x_tbl := x_in 590 (by decide +kernel) (by decide +kernel)
theorem q588 : Cond.selects "FaithRails" yX3_hold yX3_hold ∈ x_tbl := x_in 651 (by decide +kernel) (by decide +kernel)
theorem q595 : Cond.selects "FaithRails" yX3_as yX3_as ∈ x_tbl := x_in 658 (by decide +kernel) (by decide +kernel)
theorem q605 : Cond.selects "FaithRails" yX3_sheet yX3_sheet ∈ x_tbl := x_in 668 (by decide +kernel) (by decide +kernel)
theorem q610 : Cond.selects "FaithRails$Sheet" yX1_begin yX1_begin ∈ x_tbl := x_in 673 (by decide +kernel) (by decide +kernel)
theorem q615 : Cond.selects "FaithRails" yX3_write yX3_write ∈ x_tbl := x_in 678 (by decide +kernel) (by decide +kernel)
theorem q619 : Cond.selects "FaithRails$Sheet" yX1_lowest yX1_lowest ∈ x_tbl := x_in 682 (by decide +kernel) (by decide +kernel)
theorem q623 : Cond.selects "FaithRails" yX3_copy yX3_copy ∈ x_tbl := x_in 686 (by decide +kernel) (by decide +kernel)
theorem q627 : Cond.selects "FaithRails$Sheet" yX1_hasRow yX1_hasRow ∈ x_tbl := x_in 690 (by decide +kernel) (by decide +kernel)
theorem q632 : Cond.selects "FaithRails" yX3_load yX3_load ∈ x_tbl := x_in 695 (by decide +kernel) (by decide +kernel)
theorem q636 : Cond.selects "FaithRails" yX3_judge yX3_judge ∈ x_tbl := x_in 699 (by decide +kernel) (by decide +kernel)
theorem q640 : Cond.selects "FaithRails" yX3_image yX3_image ∈ x_tbl := x_in 703 (by decide +kernel) (by decide +kernel)
theorem q644 : Cond.selects "FaithRails" yX3_undo yX3_undo ∈ x_tbl := x_in 707 (by decide +kernel) (by decide +kernel)
theorem q648 : Cond.selects "FaithRails" yX3_tear yX3_tear ∈ x_tbl := x_in 711 (by decide +kernel) (by decide +kernel)
theorem q652 : Cond.selects "FaithRails" yX3_count yX3_count ∈ x_tbl := x_in 715 (by decide +kernel) (by decide +kernel)
theorem q656 : Cond.selects "FaithRails$Prairie" yX0_spotsInUse yX0_spotsInUse ∈ x_tbl := x_in 719 (by decide +kernel) (by decide +kernel)
theorem q660 : Cond.selects "FaithRails" yX3_status yX3_status ∈ x_tbl := x_in 723 (by decide +kernel) (by decide +kernel)
theorem q722 : Cond.selects "FaithRailsModel" yX4_need yX4_need ∈ x_tbl := x_in 785 (by decide +kernel) (by decide +kernel)
theorem q741 : Cond.selects "FaithRailsModel" yX4_stretch yX4_stretch ∈ x_tbl := x_in 804 (by decide +kernel) (by decide +kernel)
theorem q776 : Cond.selects "FaithRailsModel" yX4_person yX4_person ∈ x_tbl := x_in 839 (by decide +kernel) (by decide +kernel)
theorem q789 : Cond.selects "FaithRailsModel" yX4_of yX4_of ∈ x_tbl := x_in 852 (by decide +kernel) (by decide +kernel)
theorem q797 : Cond.selects "FaithRailsModel" yX4_change yX4_change ∈ x_tbl := x_in 860 (by decide +kernel) (by decide +kernel)
theorem q804 : Cond.selects "FaithRailsModel" yX4_set yX4_set ∈ x_tbl := x_in 867 (by decide +kernel) (by decide +kernel)
theorem q808 : Cond.selects "FaithRailsModel" yX4_board yX4_board ∈ x_tbl := x_in 871 (by decide +kernel) (by decide +kernel)
theorem q813 : Cond.selects "FaithRailsModel" yX4_leave yX4_leave ∈ x_tbl := x_in 876 (by decide +kernel) (by decide +kernel)
theorem q817 : Cond.selects "FaithRailsModel" yX4_go yX4_go ∈ x_tbl := x_in 880 (by decide +kernel) (by decide +kernel)
theorem q841 : Cond.selects "FaithRailsModel" yX4_now yX4_now ∈ x_tbl := x_in 904 (by decide +kernel) (by decide +kernel)
theorem q857 : Cond.selects "FaithRailsModel" yX4_ahead yX4_ahead ∈ x_tbl := x_in 920 (by decide +kernel) (by decide +kernel)
theorem q876 : Cond.selects "FaithRailsModel" yX4_believes yX4_believes ∈ x_tbl := x_in 939 (by decide +kernel) (by decide +kernel)
theorem q880 : Cond.selects "FaithRailsModel" yX4_when yX4_when ∈ x_tbl := x_in 943 (by decide +kernel) (by decide +kernel)
theorem q888 : Cond.selects "FaithRailsModel" yX4_falls yX4_falls ∈ x_tbl := x_in 951 (by decide +kernel) (by decide +kernel)
theorem q892 : Cond.selects "FaithRailsModel" yX4_settles yX4_settles ∈ x_tbl := x_in 955 (by decide +kernel) (by decide +kernel)
theorem q900 : Cond.selects "FaithRailsModel" yX4_there yX4_there ∈ x_tbl := x_in 963 (by decide +kernel) (by decide +kernel)
theorem q904 : Cond.selects "FaithRailsModel" yX4_kindFor yX4_kindFor ∈ x_tbl := x_in 967 (by decide +kernel) (by decide +kernel)
theorem q912 : Cond.selects "FaithRailsModel" yX4_with yX4_with ∈ x_tbl := x_in 975 (by decide +kernel) (by decide +kernel)
theorem q920 : Cond.selects "FaithRailsModel" yX4_fewest yX4_fewest ∈ x_tbl := x_in 983 (by decide +kernel) (by decide +kernel)
theorem q931 : Cond.selects "FaithRailsModel" yX4_farthest yX4_farthest ∈ x_tbl := x_in 994 (by decide +kernel) (by decide +kernel)
theorem q935 : Cond.selects "FaithRailsModel" yX4_without yX4_without ∈ x_tbl := x_in 998 (by decide +kernel) (by decide +kernel)
theorem q939 : Cond.selects "FaithRailsModel" yX4_persuade yX4_persuade ∈ x_tbl := x_in 1002 (by decide +kernel) (by decide +kernel)
theorem q943 : Cond.selects "FaithRailsModel" yX4_bears yX4_bears ∈ x_tbl := x_in 1006 (by decide +kernel) (by decide +kernel)
theorem q947 : Cond.selects "FaithRailsModel" yX4_seat yX4_seat ∈ x_tbl := x_in 1010 (by decide +kernel) (by decide +kernel)
theorem q951 : Cond.selects "FaithRailsModel" yX4_kinds yX4_kinds ∈ x_tbl := x_in 1014 (by decide +kernel) (by decide +kernel)
theorem q971 : Cond.selects "FaithRailsModel" yX4_beliefs yX4_beliefs ∈ x_tbl := x_in 1034 (by decide +kernel) (by decide +kernel)
theorem q975 : Cond.selects "FaithRailsModel" yX4_least yX4_least ∈ x_tbl := x_in 1038 (by decide +kernel) (by decide +kernel)
theorem q979 : Cond.selects "FaithRailsModel" yX4_worth yX4_worth ∈ x_tbl := x_in 1042 (by decide +kernel) (by decide +kernel)
theorem q983 : Cond.selects "FaithRailsModel" yX4_hangs yX4_hangs ∈ x_tbl := x_in 1046 (by decide +kernel) (by decide +kernel)
theorem q987 : Cond.selects "FaithRailsModel" yX4_run yX4_run ∈ x_tbl := x_in 1050 (by decide +kernel) (by decide +kernel)
theorem q995 : Cond.selects "FaithRailsModel" yX4_gold yX4_gold ∈ x_tbl := x_in 1058 (by decide +kernel) (by decide +kernel)
theorem q1004 : Cond.selects "FaithRailsModel" yX4_odds yX4_odds ∈ x_tbl := x_in 1067 (by decide +kernel) (by decide +kernel)
theorem q1010 : Cond.selects "FaithRailsModel" yX4_seed yX4_seed ∈ x_tbl := x_in 1073 (by decide +kernel) (by decide +kernel)
theorem q1014 : Cond.selects "FaithRailsModel" yX4_feed yX4_feed ∈ x_tbl := x_in 1077 (by decide +kernel) (by decide +kernel)
theorem q1018 : Cond.selects "FaithRailsModel" yX4_wipe yX4_wipe ∈ x_tbl := x_in 1081 (by decide +kernel) (by decide +kernel)
theorem q1022 : Cond.selects "FaithRailsModel" yX4_text yX4_text ∈ x_tbl := x_in 1085 (by decide +kernel) (by decide +kernel)
theorem q1068 : Cond.selects "FaithRailsModel" yX4_hold yX4_hold ∈ x_tbl := x_in 1131 (by decide +kernel) (by decide +kernel)
theorem q1072 : Cond.selects "FaithRailsModel" yX4_as yX4_as ∈ x_tbl := x_in 1135 (by decide +kernel) (by decide +kernel)
theorem q1080 : Cond.selects "FaithRailsModel" yX4_sheet yX4_sheet ∈ x_tbl := x_in 1143 (by decide +kernel) (by decide +kernel)
theorem q1085 : Cond.selects "FaithRailsModel" yX4_write yX4_write ∈ x_tbl := x_in 1148 (by decide +kernel) (by decide +kernel)
theorem q1089 : Cond.selects "FaithRailsModel" yX4_copy yX4_copy ∈ x_tbl := x_in 1152 (by decide +kernel) (by decide +kernel)
theorem q1097 : Cond.selects "FaithRailsModel" yX4_load yX4_load ∈ x_tbl := x_in 1160 (by decide +kernel) (by decide +kernel)
theorem q1101 : Cond.selects "FaithRailsModel" yX4_judge yX4_judge ∈ x_tbl := x_in 1164 (by decide +kernel) (by decide +kernel)
theorem q1105 : Cond.selects "FaithRailsModel" yX4_image yX4_image ∈ x_tbl := x_in 1168 (by decide +kernel) (by decide +kernel)
theorem q1109 : Cond.selects "FaithRailsModel" yX4_undo yX4_undo ∈ x_tbl := x_in 1172 (by decide +kernel) (by decide +kernel)
theorem q1113 : Cond.selects "FaithRailsModel" yX4_tear yX4_tear ∈ x_tbl := x_in 1176 (by decide +kernel) (by decide +kernel)
theorem q1117 : Cond.selects "FaithRailsModel" yX4_count yX4_count ∈ x_tbl := x_in 1180 (by decide +kernel) (by decide +kernel)
theorem q1125 : Cond.selects "FaithRailsModel" yX4_status yX4_status ∈ x_tbl := x_in 1188 (by decide +kernel) (by decide +kernel)
theorem q31 : Cond.fieldLink "FaithRails$Prairie" 9 "FaithRails$Prairie" "needs" "[I" ∈ x_tbl := x_in 94 (by decide +kernel) (by decide +kernel)
theorem q32 : Cond.fieldLink "FaithRails" 60 "FaithRails$Prairie" "needs" "[I" ∈ x_tbl := x_in 95 (by decide +kernel) (by decide +kernel)
theorem q33 : Cond.fieldLink "FaithRails$Tape" 103 "FaithRails$Prairie" "needs" "[I" ∈ x_tbl := x_in 96 (by decide +kernel) (by decide +kernel)
theorem q34 : Cond.fieldLink "FaithRails$Prairie" 15 "FaithRails$Prairie" "kindOf" "[I" ∈ x_tbl := x_in 97 (by decide +kernel) (by decide +kernel)
theorem q35 : Cond.fieldLink "FaithRails" 84 "FaithRails$Prairie" "kindOf" "[I" ∈ x_tbl := x_in 98 (by decide +kernel) (by decide +kernel)
theorem q36 : Cond.fieldLink "FaithRails$Prairie" 18 "FaithRails$Prairie" "whereOf" "[I" ∈ x_tbl := x_in 99 (by decide +kernel) (by decide +kernel)
theorem q37 : Cond.fieldLink "FaithRails" 87 "FaithRails$Prairie" "whereOf" "[I" ∈ x_tbl := x_in 100 (by decide +kernel) (by decide +kernel)
theorem q38 : Cond.fieldLink "FaithRails$Prairie" 21 "FaithRails$Prairie" "beliefOf" "[I" ∈ x_tbl := x_in 101 (by decide +kernel) (by decide +kernel)
theorem q39 : Cond.fieldLink "FaithRails" 90 "FaithRails$Prairie" "beliefOf" "[I" ∈ x_tbl := x_in 102 (by decide +kernel) (by decide +kernel)
theorem q40 : Cond.fieldLink "FaithRails$Prairie" 24 "FaithRails$Prairie" "spots" "[I" ∈ x_tbl := x_in 103 (by decide +kernel) (by decide +kernel)
theorem q41 : Cond.fieldLink "FaithRails" 233 "FaithRails$Prairie" "spots" "[I" ∈ x_tbl := x_in 104 (by decide +kernel) (by decide +kernel)
theorem q42 : Cond.fieldLink "FaithRails$Prairie" 27 "FaithRails$Prairie" "people" "I" ∈ x_tbl := x_in 105 (by decide +kernel) (by decide +kernel)
theorem q43 : Cond.fieldLink "FaithRails" 72 "FaithRails$Prairie" "people" "I" ∈ x_tbl := x_in 106 (by decide +kernel) (by decide +kernel)
theorem q44 : Cond.fieldLink "FaithRails$Tape" 93 "FaithRails$Prairie" "people" "I" ∈ x_tbl := x_in 107 (by decide +kernel) (by decide +kernel)
theorem q45 : Cond.fieldLink "FaithRails$Prairie" 31 "FaithRails$Prairie" "train" "I" ∈ x_tbl := x_in 108 (by decide +kernel) (by decide +kernel)
theorem q46 : Cond.fieldLink "FaithRails$Tape" 61 "FaithRails$Prairie" "train" "I" ∈ x_tbl := x_in 109 (by decide +kernel) (by decide +kernel)
theorem q47 : Cond.fieldLink "FaithRails" 99 "FaithRails$Prairie" "train" "I" ∈ x_tbl := x_in 110 (by decide +kernel) (by decide +kernel)
theorem q48 : Cond.fieldLink "FaithRails$Prairie" 34 "FaithRails$Prairie" "night" "I" ∈ x_tbl := x_in 111 (by decide +kernel) (by decide +kernel)
theorem q49 : Cond.fieldLink "FaithRails$Tape" 75 "FaithRails$Prairie" "night" "I" ∈ x_tbl := x_in 112 (by decide +kernel) (by decide +kernel)
theorem q50 : Cond.fieldLink "FaithRails" 102 "FaithRails$Prairie" "night" "I" ∈ x_tbl := x_in 113 (by decide +kernel) (by decide +kernel)
theorem q51 : Cond.fieldLink "FaithRails$Prairie" 37 "FaithRails$Prairie" "gain" "I" ∈ x_tbl := x_in 114 (by decide +kernel) (by decide +kernel)
theorem q52 : Cond.fieldLink "FaithRails$Tape" 67 "FaithRails$Prairie" "gain" "I" ∈ x_tbl := x_in 115 (by decide +kernel) (by decide +kernel)
theorem q53 : Cond.fieldLink "FaithRails" 105 "FaithRails$Prairie" "gain" "I" ∈ x_tbl := x_in 116 (by decide +kernel) (by decide +kernel)
theorem q54 : Cond.fieldLink "FaithRails$Prairie" 40 "FaithRails$Prairie" "loss" "I" ∈ x_tbl := x_in 117 (by decide +kernel) (by decide +kernel)
theorem q55 : Cond.fieldLink "FaithRails$Tape" 71 "FaithRails$Prairie" "loss" "I" ∈ x_tbl := x_in 118 (by decide +kernel) (by decide +kernel)
theorem q56 : Cond.fieldLink "FaithRails" 108 "FaithRails$Prairie" "loss" "I" ∈ x_tbl := x_in 119 (by decide +kernel) (by decide +kernel)
theorem q57 : Cond.fieldLink "FaithRails$Prairie" 43 "FaithRails$Prairie" "fallen" "I" ∈ x_tbl := x_in 120 (by decide +kernel) (by decide +kernel)
theorem q58 : Cond.fieldLink "FaithRails" 127 "FaithRails$Prairie" "fallen" "I" ∈ x_tbl := x_in 121 (by decide +kernel) (by decide +kernel)
theorem q59 : Cond.fieldLink "FaithRails$Prairie" 46 "FaithRails$Prairie" "hours" "I" ∈ x_tbl := x_in 122 (by decide +kernel) (by decide +kernel)
theorem q60 : Cond.fieldLink "FaithRails" 112 "FaithRails$Prairie" "hours" "I" ∈ x_tbl := x_in 123 (by decide +kernel) (by decide +kernel)
theorem q61 : Cond.fieldLink "FaithRails$Prairie" 49 "FaithRails$Prairie" "z" "I" ∈ x_tbl := x_in 124 (by decide +kernel) (by decide +kernel)
theorem q62 : Cond.fieldLink "FaithRails" 218 "FaithRails$Prairie" "z" "I" ∈ x_tbl := x_in 125 (by decide +kernel) (by decide +kernel)
theorem q63 : Cond.fieldLink "FaithRails$Prairie" 52 "FaithRails$Prairie" "beliefBefore" "[I" ∈ x_tbl := x_in 126 (by decide +kernel) (by decide +kernel)
theorem q64 : Cond.fieldLink "FaithRails$Prairie" 55 "FaithRails$Prairie" "beliefsTogether" "[I" ∈ x_tbl := x_in 127 (by decide +kernel) (by decide +kernel)
theorem q65 : Cond.fieldLink "FaithRails$Prairie" 58 "FaithRails$Prairie" "headsTogether" "[I" ∈ x_tbl := x_in 128 (by decide +kernel) (by decide +kernel)
theorem q106 : Cond.fieldLink "FaithRails$Tape" 9 "FaithRails$Tape" "bytes" "[B" ∈ x_tbl := x_in 169 (by decide +kernel) (by decide +kernel)
theorem q107 : Cond.fieldLink "FaithRails$Tape" 15 "FaithRails$Tape" "length" "I" ∈ x_tbl := x_in 170 (by decide +kernel) (by decide +kernel)
theorem q108 : Cond.fieldLink "FaithRails" 221 "FaithRails$Tape" "length" "I" ∈ x_tbl := x_in 171 (by decide +kernel) (by decide +kernel)
theorem q109 : Cond.fieldLink "FaithRails$Tape" 19 "FaithRails$Tape" "token" "I" ∈ x_tbl := x_in 172 (by decide +kernel) (by decide +kernel)
theorem q110 : Cond.fieldLink "FaithRails$Tape" 22 "FaithRails$Tape" "begin" "I" ∈ x_tbl := x_in 173 (by decide +kernel) (by decide +kernel)
theorem q111 : Cond.fieldLink "FaithRails$Tape" 25 "FaithRails$Tape" "end" "I" ∈ x_tbl := x_in 174 (by decide +kernel) (by decide +kernel)
theorem q112 : Cond.fieldLink "FaithRails$Tape" 28 "FaithRails$Tape" "value" "I" ∈ x_tbl := x_in 175 (by decide +kernel) (by decide +kernel)
theorem q134 : Cond.fieldLink "FaithRails$Sheet" 9 "FaithRails$Sheet" "bits" "I" ∈ x_tbl := x_in 197 (by decide +kernel) (by decide +kernel)
theorem q135 : Cond.fieldLink "FaithRails" 184 "FaithRails$Sheet" "bits" "I" ∈ x_tbl := x_in 198 (by decide +kernel) (by decide +kernel)
theorem q136 : Cond.fieldLink "FaithRails$Sheet" 15 "FaithRails$Sheet" "length" "I" ∈ x_tbl := x_in 199 (by decide +kernel) (by decide +kernel)
theorem q137 : Cond.fieldLink "FaithRails" 192 "FaithRails$Sheet" "length" "I" ∈ x_tbl := x_in 200 (by decide +kernel) (by decide +kernel)
theorem q138 : Cond.fieldLink "FaithRails$Sheet" 18 "FaithRails$Sheet" "numbers" "[I" ∈ x_tbl := x_in 201 (by decide +kernel) (by decide +kernel)
theorem q139 : Cond.fieldLink "FaithRails" 195 "FaithRails$Sheet" "numbers" "[I" ∈ x_tbl := x_in 202 (by decide +kernel) (by decide +kernel)
theorem q147 : Cond.fieldLink "FaithRails" 12 "FaithRails" "line" "LFaithRails$Prairie;" ∈ x_tbl := x_in 210 (by decide +kernel) (by decide +kernel)
theorem q148 : Cond.fieldLink "FaithRails" 16 "FaithRails" "trial" "LFaithRails$Prairie;" ∈ x_tbl := x_in 211 (by decide +kernel) (by decide +kernel)
theorem q149 : Cond.fieldLink "FaithRails" 19 "FaithRails" "kept" "LFaithRails$Prairie;" ∈ x_tbl := x_in 212 (by decide +kernel) (by decide +kernel)
theorem q150 : Cond.fieldLink "FaithRails" 22 "FaithRails" "keeps" "Z" ∈ x_tbl := x_in 213 (by decide +kernel) (by decide +kernel)
theorem q151 : Cond.fieldLink "FaithRails" 29 "FaithRails" "tape" "LFaithRails$Tape;" ∈ x_tbl := x_in 214 (by decide +kernel) (by decide +kernel)
theorem q152 : Cond.fieldLink "FaithRails" 35 "FaithRails" "sheets" "[LFaithRails$Sheet;" ∈ x_tbl := x_in 215 (by decide +kernel) (by decide +kernel)
theorem q153 : Cond.fieldLink "FaithRails" 39 "FaithRails" "brought" "[I" ∈ x_tbl := x_in 216 (by decide +kernel) (by decide +kernel)
theorem q154 : Cond.fieldLink "FaithRails" 43 "FaithRails" "findings" "[I" ∈ x_tbl := x_in 217 (by decide +kernel) (by decide +kernel)
theorem q519 : Cond.fieldLink "java/lang/String" 38 "java/lang/String" "COMPACT_STRINGS" "Z" ∈ x_tbl := x_in 582 (by decide +kernel) (by decide +kernel)
theorem q535 : Cond.fieldLink "java/lang/String" 1053 "jdk/internal/util/Preconditions" "SIOOBE_FORMATTER" "Ljava/util/function/BiFunction;" ∈ x_tbl := x_in 598 (by decide +kernel) (by decide +kernel)
theorem q553 : Cond.fieldLink "java/lang/StringUTF16" 44 "java/lang/StringUTF16" "$assertionsDisabled" "Z" ∈ x_tbl := x_in 616 (by decide +kernel) (by decide +kernel)
theorem q555 : Cond.fieldLink "java/lang/StringUTF16" 59 "java/lang/StringUTF16" "HI_BYTE_SHIFT" "I" ∈ x_tbl := x_in 618 (by decide +kernel) (by decide +kernel)
theorem q557 : Cond.fieldLink "java/lang/StringUTF16" 63 "java/lang/StringUTF16" "LO_BYTE_SHIFT" "I" ∈ x_tbl := x_in 620 (by decide +kernel) (by decide +kernel)
theorem q600 : Cond.fieldLink "FaithRails" 259 "FaithRails" "KIND_ABOVE" "[I" ∈ x_tbl := x_in 663 (by decide +kernel) (by decide +kernel)
theorem q668 : Cond.fieldLink "FaithRailsModel" 9 "FaithRailsModel" "m" "[I" ∈ x_tbl := x_in 731 (by decide +kernel) (by decide +kernel)
theorem q669 : Cond.fieldLink "FaithRailsModel" 13 "FaithRailsModel" "kept" "[I" ∈ x_tbl := x_in 732 (by decide +kernel) (by decide +kernel)
theorem q670 : Cond.fieldLink "FaithRailsModel" 16 "FaithRailsModel" "was" "[I" ∈ x_tbl := x_in 733 (by decide +kernel) (by decide +kernel)
theorem q671 : Cond.fieldLink "FaithRailsModel" 246 "FaithRailsModel" "isKept" "Z" ∈ x_tbl := x_in 734 (by decide +kernel) (by decide +kernel)
theorem q672 : Cond.fieldLink "FaithRailsModel" 19 "FaithRailsModel" "found" "[I" ∈ x_tbl := x_in 735 (by decide +kernel) (by decide +kernel)
theorem q673 : Cond.fieldLink "FaithRailsModel" 22 "FaithRailsModel" "then" "[I" ∈ x_tbl := x_in 736 (by decide +kernel) (by decide +kernel)
theorem q674 : Cond.fieldLink "FaithRailsModel" 25 "FaithRailsModel" "earlier" "[I" ∈ x_tbl := x_in 737 (by decide +kernel) (by decide +kernel)
theorem q675 : Cond.fieldLink "FaithRailsModel" 28 "FaithRailsModel" "bitsOf" "[I" ∈ x_tbl := x_in 738 (by decide +kernel) (by decide +kernel)
theorem q676 : Cond.fieldLink "FaithRailsModel" 31 "FaithRailsModel" "sizeOf" "[I" ∈ x_tbl := x_in 739 (by decide +kernel) (by decide +kernel)
theorem q677 : Cond.fieldLink "FaithRailsModel" 34 "FaithRailsModel" "cells" "[I" ∈ x_tbl := x_in 740 (by decide +kernel) (by decide +kernel)
theorem q678 : Cond.fieldLink "FaithRailsModel" 37 "FaithRailsModel" "tape" "[I" ∈ x_tbl := x_in 741 (by decide +kernel) (by decide +kernel)
theorem q679 : Cond.fieldLink "FaithRailsModel" 183 "FaithRailsModel" "taped" "I" ∈ x_tbl := x_in 742 (by decide +kernel) (by decide +kernel)
theorem q680 : Cond.fieldLink "FaithRailsModel" 205 "FaithRailsModel" "token" "I" ∈ x_tbl := x_in 743 (by decide +kernel) (by decide +kernel)
theorem q681 : Cond.fieldLink "FaithRailsModel" 190 "FaithRailsModel" "begin" "I" ∈ x_tbl := x_in 744 (by decide +kernel) (by decide +kernel)
theorem q682 : Cond.fieldLink "FaithRailsModel" 193 "FaithRailsModel" "at" "I" ∈ x_tbl := x_in 745 (by decide +kernel) (by decide +kernel)
theorem q683 : Cond.fieldLink "FaithRailsModel" 202 "FaithRailsModel" "value" "I" ∈ x_tbl := x_in 746 (by decide +kernel) (by decide +kernel)
theorem q684 : Cond.fieldLink "FaithRailsModel" 211 "FaithRailsModel" "bad" "Z" ∈ x_tbl := x_in 747 (by decide +kernel) (by decide +kernel)
theorem q1040 : Cond.fieldLink "FaithRailsModel" 187 "FaithRailsModel" "NAMES" "[I" ∈ x_tbl := x_in 1103 (by decide +kernel) (by decide +kernel)
theorem q1127 : Cond.fieldLink "java/lang/String" 9 "java/lang/String" "value" "[B" ∈ x_tbl := x_in 1190 (by decide +kernel) (by decide +kernel)
theorem q1128 : Cond.fieldLink "java/lang/String" 15 "java/lang/String" "coder" "B" ∈ x_tbl := x_in 1191 (by decide +kernel) (by decide +kernel)
theorem q0 : Cond.initialized "FaithRailsLaw" ∈ x_tbl := x_in 63 (by decide +kernel) (by decide +kernel)
theorem q1 : Cond.initialized "FaithRails" ∈ x_tbl := x_in 64 (by decide +kernel) (by decide +kernel)
theorem q2 : Cond.initialized "FaithRails$Prairie" ∈ x_tbl := x_in 65 (by decide +kernel) (by decide +kernel)
theorem q3 : Cond.initialized "java/util/Arrays" ∈ x_tbl := x_in 66 (by decide +kernel) (by decide +kernel)
theorem q4 : Cond.initialized "FaithRails$Tape" ∈ x_tbl := x_in 67 (by decide +kernel) (by decide +kernel)
theorem q5 : Cond.initialized "FaithRails$Sheet" ∈ x_tbl := x_in 68 (by decide +kernel) (by decide +kernel)
theorem q6 : Cond.initialized "FaithRailsModel" ∈ x_tbl := x_in 69 (by decide +kernel) (by decide +kernel)
theorem q7 : Cond.initialized "java/lang/Math" ∈ x_tbl := x_in 70 (by decide +kernel) (by decide +kernel)
theorem q8 : Cond.initialized "java/lang/System" ∈ x_tbl := x_in 71 (by decide +kernel) (by decide +kernel)
theorem q9 : Cond.initialized "java/lang/Integer" ∈ x_tbl := x_in 72 (by decide +kernel) (by decide +kernel)
theorem q10 : Cond.initialized "java/lang/String" ∈ x_tbl := x_in 73 (by decide +kernel) (by decide +kernel)
theorem q11 : Cond.initialized "java/lang/StringLatin1" ∈ x_tbl := x_in 74 (by decide +kernel) (by decide +kernel)
theorem q12 : Cond.initialized "jdk/internal/util/Preconditions" ∈ x_tbl := x_in 75 (by decide +kernel) (by decide +kernel)
theorem q13 : Cond.initialized "java/lang/StringUTF16" ∈ x_tbl := x_in 76 (by decide +kernel) (by decide +kernel)
theorem q182 : Cond.constant "FaithRails" 55 (-1000001 : Int32) ∈ x_tbl := x_in 245 (by decide +kernel) (by decide +kernel)
theorem q225 : Cond.constant "FaithRails" 76 (-1000002 : Int32) ∈ x_tbl := x_in 288 (by decide +kernel) (by decide +kernel)
theorem q254 : Cond.constant "FaithRails" 111 (-1000005 : Int32) ∈ x_tbl := x_in 317 (by decide +kernel) (by decide +kernel)
theorem q263 : Cond.constant "FaithRails" 115 (99999 : Int32) ∈ x_tbl := x_in 326 (by decide +kernel) (by decide +kernel)
theorem q279 : Cond.constant "FaithRails$Prairie" 112 (99999 : Int32) ∈ x_tbl := x_in 342 (by decide +kernel) (by decide +kernel)
theorem q326 : Cond.constant "FaithRails" 144 (-1000004 : Int32) ∈ x_tbl := x_in 389 (by decide +kernel) (by decide +kernel)
theorem q372 : Cond.constant "java/lang/Integer" 265 (1431655765 : Int32) ∈ x_tbl := x_in 435 (by decide +kernel) (by decide +kernel)
theorem q373 : Cond.constant "java/lang/Integer" 266 (858993459 : Int32) ∈ x_tbl := x_in 436 (by decide +kernel) (by decide +kernel)
theorem q374 : Cond.constant "java/lang/Integer" 267 (252645135 : Int32) ∈ x_tbl := x_in 437 (by decide +kernel) (by decide +kernel)
theorem q399 : Cond.constant "FaithRails" 173 (2147483647 : Int32) ∈ x_tbl := x_in 462 (by decide +kernel) (by decide +kernel)
theorem q414 : Cond.constant "FaithRails" 187 (-1000006 : Int32) ∈ x_tbl := x_in 477 (by decide +kernel) (by decide +kernel)
theorem q456 : Cond.constant "FaithRails$Prairie" 103 (1103515245 : Int32) ∈ x_tbl := x_in 519 (by decide +kernel) (by decide +kernel)
theorem q602 : Cond.constant "FaithRails" 239 (-1000003 : Int32) ∈ x_tbl := x_in 665 (by decide +kernel) (by decide +kernel)
theorem q607 : Cond.constant "FaithRails" 240 (-1000007 : Int32) ∈ x_tbl := x_in 670 (by decide +kernel) (by decide +kernel)
theorem q734 : Cond.constant "FaithRailsModel" 40 (-1000001 : Int32) ∈ x_tbl := x_in 797 (by decide +kernel) (by decide +kernel)
theorem q769 : Cond.constant "FaithRailsModel" 67 (99999 : Int32) ∈ x_tbl := x_in 832 (by decide +kernel) (by decide +kernel)
theorem q778 : Cond.constant "FaithRailsModel" 88 (-1000002 : Int32) ∈ x_tbl := x_in 841 (by decide +kernel) (by decide +kernel)
theorem q810 : Cond.constant "FaithRailsModel" 99 (-1000005 : Int32) ∈ x_tbl := x_in 873 (by decide +kernel) (by decide +kernel)
theorem q885 : Cond.constant "FaithRailsModel" 41 (-1000004 : Int32) ∈ x_tbl := x_in 948 (by decide +kernel) (by decide +kernel)
theorem q964 : Cond.constant "FaithRailsModel" 161 (-1000006 : Int32) ∈ x_tbl := x_in 1027 (by decide +kernel) (by decide +kernel)
theorem q1001 : Cond.constant "FaithRailsModel" 175 (1103515245 : Int32) ∈ x_tbl := x_in 1064 (by decide +kernel) (by decide +kernel)
theorem q1077 : Cond.constant "FaithRailsModel" 240 (-1000003 : Int32) ∈ x_tbl := x_in 1140 (by decide +kernel) (by decide +kernel)
theorem q1082 : Cond.constant "FaithRailsModel" 241 (-1000007 : Int32) ∈ x_tbl := x_in 1145 (by decide +kernel) (by decide +kernel)
theorem q461 : Cond.constantLong "FaithRails" 214 (16 : Int64) ∈ x_tbl := x_in 524 (by decide +kernel) (by decide +kernel)
theorem q462 : Cond.constantLong "FaithRails" 216 (2 : Int64) ∈ x_tbl := x_in 525 (by decide +kernel) (by decide +kernel)
theorem q1006 : Cond.constantLong "FaithRailsModel" 179 (16 : Int64) ∈ x_tbl := x_in 1069 (by decide +kernel) (by decide +kernel)
theorem q1007 : Cond.constantLong "FaithRailsModel" 181 (2 : Int64) ∈ x_tbl := x_in 1070 (by decide +kernel) (by decide +kernel)
theorem q14 : Cond.classLink "FaithRailsLaw" 7 "FaithRails" ∈ x_tbl := x_in 77 (by decide +kernel) (by decide +kernel)
theorem q22 : Cond.classLink "FaithRails" 9 "FaithRails$Prairie" ∈ x_tbl := x_in 85 (by decide +kernel) (by decide +kernel)
theorem q100 : Cond.classLink "FaithRails" 26 "FaithRails$Tape" ∈ x_tbl := x_in 163 (by decide +kernel) (by decide +kernel)
theorem q127 : Cond.classLink "FaithRails" 33 "FaithRails$Sheet" ∈ x_tbl := x_in 190 (by decide +kernel) (by decide +kernel)
theorem q662 : Cond.classLink "FaithRailsLaw" 10 "FaithRailsModel" ∈ x_tbl := x_in 725 (by decide +kernel) (by decide +kernel)
theorem q15 : Cond.instantiable "FaithRails" 8 ∈ x_tbl := x_in 78 (by decide +kernel) (by decide +kernel)
theorem q23 : Cond.instantiable "FaithRails$Prairie" 16 ∈ x_tbl := x_in 86 (by decide +kernel) (by decide +kernel)
theorem q101 : Cond.instantiable "FaithRails$Tape" 6 ∈ x_tbl := x_in 164 (by decide +kernel) (by decide +kernel)
theorem q129 : Cond.instantiable "FaithRails$Sheet" 3 ∈ x_tbl := x_in 192 (by decide +kernel) (by decide +kernel)
theorem q663 : Cond.instantiable "FaithRailsModel" 17 ∈ x_tbl := x_in 726 (by decide +kernel) (by decide +kernel)
theorem q274 : Cond.native ⟨"java/lang/System", "arraycopy", "(Ljava/lang/Object;ILjava/lang/Object;II)V"⟩ ∈ x_tbl := x_in 337 (by decide +kernel) (by decide +kernel)
theorem q520 : Cond.laysStatic "java/lang/String" "COMPACT_STRINGS" "Z" ∈ lw_tbl := List.mem_of_getElem? (i := 583) (by decide +kernel)
theorem q536 : Cond.laysStatic "jdk/internal/util/Preconditions" "SIOOBE_FORMATTER" "Ljava/util/function/BiFunction;" ∈ lw_tbl := List.mem_of_getElem? (i := 599) (by decide +kernel)
theorem q554 : Cond.laysStatic "java/lang/StringUTF16" "$assertionsDisabled" "Z" ∈ lw_tbl := List.mem_of_getElem? (i := 617) (by decide +kernel)
theorem q556 : Cond.laysStatic "java/lang/StringUTF16" "HI_BYTE_SHIFT" "I" ∈ lw_tbl := List.mem_of_getElem? (i := 619) (by decide +kernel)
theorem q558 : Cond.laysStatic "java/lang/StringUTF16" "LO_BYTE_SHIFT" "I" ∈ lw_tbl := List.mem_of_getElem? (i := 621) (by decide +kernel)
theorem q601 : Cond.laysStatic "FaithRails" "KIND_ABOVE" "[I" ∈ lw_tbl := List.mem_of_getElem? (i := 664) (by decide +kernel)
theorem q1041 : Cond.laysStatic "FaithRailsModel" "NAMES" "[I" ∈ lw_tbl := List.mem_of_getElem? (i := 1104) (by decide +kernel)
theorem q76 : Cond.lays "FaithRails$Prairie" "FaithRails$Prairie" "people" "I" ∈ x_tbl := x_in 139 (by decide +kernel) (by decide +kernel)
theorem q78 : Cond.lays "FaithRails$Prairie" "FaithRails$Prairie" "train" "I" ∈ x_tbl := x_in 141 (by decide +kernel) (by decide +kernel)
theorem q80 : Cond.lays "FaithRails$Prairie" "FaithRails$Prairie" "night" "I" ∈ x_tbl := x_in 143 (by decide +kernel) (by decide +kernel)
theorem q82 : Cond.lays "FaithRails$Prairie" "FaithRails$Prairie" "gain" "I" ∈ x_tbl := x_in 145 (by decide +kernel) (by decide +kernel)
theorem q84 : Cond.lays "FaithRails$Prairie" "FaithRails$Prairie" "loss" "I" ∈ x_tbl := x_in 147 (by decide +kernel) (by decide +kernel)
theorem q86 : Cond.lays "FaithRails$Prairie" "FaithRails$Prairie" "fallen" "I" ∈ x_tbl := x_in 149 (by decide +kernel) (by decide +kernel)
theorem q88 : Cond.lays "FaithRails$Prairie" "FaithRails$Prairie" "hours" "I" ∈ x_tbl := x_in 151 (by decide +kernel) (by decide +kernel)
theorem q90 : Cond.lays "FaithRails$Prairie" "FaithRails$Prairie" "z" "I" ∈ x_tbl := x_in 153 (by decide +kernel) (by decide +kernel)
theorem q115 : Cond.lays "FaithRails$Tape" "FaithRails$Tape" "length" "I" ∈ x_tbl := x_in 178 (by decide +kernel) (by decide +kernel)
theorem q117 : Cond.lays "FaithRails$Tape" "FaithRails$Tape" "token" "I" ∈ x_tbl := x_in 180 (by decide +kernel) (by decide +kernel)
theorem q119 : Cond.lays "FaithRails$Tape" "FaithRails$Tape" "begin" "I" ∈ x_tbl := x_in 182 (by decide +kernel) (by decide +kernel)
theorem q121 : Cond.lays "FaithRails$Tape" "FaithRails$Tape" "end" "I" ∈ x_tbl := x_in 184 (by decide +kernel) (by decide +kernel)
theorem q123 : Cond.lays "FaithRails$Tape" "FaithRails$Tape" "value" "I" ∈ x_tbl := x_in 186 (by decide +kernel) (by decide +kernel)
theorem q140 : Cond.lays "FaithRails$Sheet" "FaithRails$Sheet" "bits" "I" ∈ x_tbl := x_in 203 (by decide +kernel) (by decide +kernel)
theorem q142 : Cond.lays "FaithRails$Sheet" "FaithRails$Sheet" "length" "I" ∈ x_tbl := x_in 205 (by decide +kernel) (by decide +kernel)
theorem q161 : Cond.lays "FaithRails" "FaithRails" "keeps" "Z" ∈ x_tbl := x_in 224 (by decide +kernel) (by decide +kernel)
theorem q691 : Cond.lays "FaithRailsModel" "FaithRailsModel" "isKept" "Z" ∈ x_tbl := x_in 754 (by decide +kernel) (by decide +kernel)
theorem q707 : Cond.lays "FaithRailsModel" "FaithRailsModel" "taped" "I" ∈ x_tbl := x_in 770 (by decide +kernel) (by decide +kernel)
theorem q709 : Cond.lays "FaithRailsModel" "FaithRailsModel" "token" "I" ∈ x_tbl := x_in 772 (by decide +kernel) (by decide +kernel)
theorem q711 : Cond.lays "FaithRailsModel" "FaithRailsModel" "begin" "I" ∈ x_tbl := x_in 774 (by decide +kernel) (by decide +kernel)
theorem q713 : Cond.lays "FaithRailsModel" "FaithRailsModel" "at" "I" ∈ x_tbl := x_in 776 (by decide +kernel) (by decide +kernel)
theorem q715 : Cond.lays "FaithRailsModel" "FaithRailsModel" "value" "I" ∈ x_tbl := x_in 778 (by decide +kernel) (by decide +kernel)
theorem q717 : Cond.lays "FaithRailsModel" "FaithRailsModel" "bad" "Z" ∈ x_tbl := x_in 780 (by decide +kernel) (by decide +kernel)
theorem q66 : Cond.laysFinal "FaithRails$Prairie" "FaithRails$Prairie" "needs" "[I" ∈ x_tbl := x_in 129 (by decide +kernel) (by decide +kernel)
theorem q68 : Cond.laysFinal "FaithRails$Prairie" "FaithRails$Prairie" "kindOf" "[I" ∈ x_tbl := x_in 131 (by decide +kernel) (by decide +kernel)
theorem q70 : Cond.laysFinal "FaithRails$Prairie" "FaithRails$Prairie" "whereOf" "[I" ∈ x_tbl := x_in 133 (by decide +kernel) (by decide +kernel)
theorem q72 : Cond.laysFinal "FaithRails$Prairie" "FaithRails$Prairie" "beliefOf" "[I" ∈ x_tbl := x_in 135 (by decide +kernel) (by decide +kernel)
theorem q74 : Cond.laysFinal "FaithRails$Prairie" "FaithRails$Prairie" "spots" "[I" ∈ x_tbl := x_in 137 (by decide +kernel) (by decide +kernel)
theorem q92 : Cond.laysFinal "FaithRails$Prairie" "FaithRails$Prairie" "beliefBefore" "[I" ∈ x_tbl := x_in 155 (by decide +kernel) (by decide +kernel)
theorem q94 : Cond.laysFinal "FaithRails$Prairie" "FaithRails$Prairie" "beliefsTogether" "[I" ∈ x_tbl := x_in 157 (by decide +kernel) (by decide +kernel)
theorem q96 : Cond.laysFinal "FaithRails$Prairie" "FaithRails$Prairie" "headsTogether" "[I" ∈ x_tbl := x_in 159 (by decide +kernel) (by decide +kernel)
theorem q113 : Cond.laysFinal "FaithRails$Tape" "FaithRails$Tape" "bytes" "[B" ∈ x_tbl := x_in 176 (by decide +kernel) (by decide +kernel)
theorem q144 : Cond.laysFinal "FaithRails$Sheet" "FaithRails$Sheet" "numbers" "[I" ∈ x_tbl := x_in 207 (by decide +kernel) (by decide +kernel)
theorem q155 : Cond.laysFinal "FaithRails" "FaithRails" "line" "LFaithRails$Prairie;" ∈ x_tbl := x_in 218 (by decide +kernel) (by decide +kernel)
theorem q157 : Cond.laysFinal "FaithRails" "FaithRails" "trial" "LFaithRails$Prairie;" ∈ x_tbl := x_in 220 (by decide +kernel) (by decide +kernel)
theorem q159 : Cond.laysFinal "FaithRails" "FaithRails" "kept" "LFaithRails$Prairie;" ∈ x_tbl := x_in 222 (by decide +kernel) (by decide +kernel)
theorem q163 : Cond.laysFinal "FaithRails" "FaithRails" "tape" "LFaithRails$Tape;" ∈ x_tbl := x_in 226 (by decide +kernel) (by decide +kernel)
theorem q165 : Cond.laysFinal "FaithRails" "FaithRails" "sheets" "[LFaithRails$Sheet;" ∈ x_tbl := x_in 228 (by decide +kernel) (by decide +kernel)
theorem q167 : Cond.laysFinal "FaithRails" "FaithRails" "brought" "[I" ∈ x_tbl := x_in 230 (by decide +kernel) (by decide +kernel)
theorem q169 : Cond.laysFinal "FaithRails" "FaithRails" "findings" "[I" ∈ x_tbl := x_in 232 (by decide +kernel) (by decide +kernel)
theorem q685 : Cond.laysFinal "FaithRailsModel" "FaithRailsModel" "m" "[I" ∈ x_tbl := x_in 748 (by decide +kernel) (by decide +kernel)
theorem q687 : Cond.laysFinal "FaithRailsModel" "FaithRailsModel" "kept" "[I" ∈ x_tbl := x_in 750 (by decide +kernel) (by decide +kernel)
theorem q689 : Cond.laysFinal "FaithRailsModel" "FaithRailsModel" "was" "[I" ∈ x_tbl := x_in 752 (by decide +kernel) (by decide +kernel)
theorem q693 : Cond.laysFinal "FaithRailsModel" "FaithRailsModel" "found" "[I" ∈ x_tbl := x_in 756 (by decide +kernel) (by decide +kernel)
theorem q695 : Cond.laysFinal "FaithRailsModel" "FaithRailsModel" "then" "[I" ∈ x_tbl := x_in 758 (by decide +kernel) (by decide +kernel)
theorem q697 : Cond.laysFinal "FaithRailsModel" "FaithRailsModel" "earlier" "[I" ∈ x_tbl := x_in 760 (by decide +kernel) (by decide +kernel)
theorem q699 : Cond.laysFinal "FaithRailsModel" "FaithRailsModel" "bitsOf" "[I" ∈ x_tbl := x_in 762 (by decide +kernel) (by decide +kernel)
theorem q701 : Cond.laysFinal "FaithRailsModel" "FaithRailsModel" "sizeOf" "[I" ∈ x_tbl := x_in 764 (by decide +kernel) (by decide +kernel)
theorem q703 : Cond.laysFinal "FaithRailsModel" "FaithRailsModel" "cells" "[I" ∈ x_tbl := x_in 766 (by decide +kernel) (by decide +kernel)
theorem q705 : Cond.laysFinal "FaithRailsModel" "FaithRailsModel" "tape" "[I" ∈ x_tbl := x_in 768 (by decide +kernel) (by decide +kernel)
theorem qs0 : Cond.selects "FaithRails" yX3_finding yX3_finding ∈ x_tbl := x_in 0 (by decide +kernel) (by decide +kernel)
theorem qs1 : Cond.selects "FaithRails$Prairie" yX0_companions yX0_companions ∈ x_tbl := x_in 1 (by decide +kernel) (by decide +kernel)
theorem qs2 : Cond.selects "FaithRails" yX3_isPerson yX3_isPerson ∈ x_tbl := x_in 2 (by decide +kernel) (by decide +kernel)
theorem qs3 : Cond.selects "FaithRails$Prairie" yX0_moveBeliefsAboard yX0_moveBeliefsAboard ∈ x_tbl := x_in 3 (by decide +kernel) (by decide +kernel)
theorem qs4 : Cond.selects "FaithRails$Prairie" yX0_sway yX0_sway ∈ x_tbl := x_in 4 (by decide +kernel) (by decide +kernel)
theorem qs5 : Cond.selects "FaithRails$Prairie" yX0_anyBeliefMoved yX0_anyBeliefMoved ∈ x_tbl := x_in 5 (by decide +kernel) (by decide +kernel)
theorem qs6 : Cond.selects "FaithRails" yX3_setsOfPeople yX3_setsOfPeople ∈ x_tbl := x_in 6 (by decide +kernel) (by decide +kernel)
theorem qs7 : Cond.selects "FaithRails" yX3_trialWith yX3_trialWith ∈ x_tbl := x_in 7 (by decide +kernel) (by decide +kernel)
theorem qs8 : Cond.selects "FaithRails" yX3_trialBelieving yX3_trialBelieving ∈ x_tbl := x_in 8 (by decide +kernel) (by decide +kernel)
theorem qs9 : Cond.selects "FaithRails" yX3_greatestSumMet yX3_greatestSumMet ∈ x_tbl := x_in 9 (by decide +kernel) (by decide +kernel)
theorem qs10 : Cond.selects "FaithRails" yX3_sheetAt yX3_sheetAt ∈ x_tbl := x_in 10 (by decide +kernel) (by decide +kernel)
theorem qs11 : Cond.selects "FaithRails" yX3_noteWhatIsBrought yX3_noteWhatIsBrought ∈ x_tbl := x_in 11 (by decide +kernel) (by decide +kernel)
theorem qs12 : Cond.selects "FaithRails" yX3_endsAll yX3_endsAll ∈ x_tbl := x_in 12 (by decide +kernel) (by decide +kernel)
theorem qs13 : Cond.selects "FaithRails$Tape" yX2_advance yX2_advance ∈ x_tbl := x_in 13 (by decide +kernel) (by decide +kernel)
theorem qs14 : Cond.selects "FaithRails$Tape" yX2_item yX2_item ∈ x_tbl := x_in 14 (by decide +kernel) (by decide +kernel)
theorem qs15 : Cond.selects "FaithRails$Tape" yX2_kindNamed yX2_kindNamed ∈ x_tbl := x_in 15 (by decide +kernel) (by decide +kernel)
theorem qs16 : Cond.selects "FaithRails$Tape" yX2_isWord yX2_isWord ∈ x_tbl := x_in 16 (by decide +kernel) (by decide +kernel)
theorem qs17 : Cond.selects "FaithRails$Tape" yX2_newcomer yX2_newcomer ∈ x_tbl := x_in 17 (by decide +kernel) (by decide +kernel)
theorem qs18 : Cond.selects "FaithRails$Tape" yX2_numberFollows yX2_numberFollows ∈ x_tbl := x_in 18 (by decide +kernel) (by decide +kernel)
theorem qs19 : Cond.selects "FaithRails$Tape" yX2_needOfStretch yX2_needOfStretch ∈ x_tbl := x_in 19 (by decide +kernel) (by decide +kernel)
theorem qs20 : Cond.selects "FaithRailsModel" yX4_becomes yX4_becomes ∈ x_tbl := x_in 20 (by decide +kernel) (by decide +kernel)
theorem qs21 : Cond.selects "FaithRailsModel" yX4_finds yX4_finds ∈ x_tbl := x_in 21 (by decide +kernel) (by decide +kernel)
theorem qs22 : Cond.selects "FaithRailsModel" yX4_sumAt yX4_sumAt ∈ x_tbl := x_in 22 (by decide +kernel) (by decide +kernel)
theorem qs23 : Cond.selects "FaithRailsModel" yX4_brings yX4_brings ∈ x_tbl := x_in 23 (by decide +kernel) (by decide +kernel)
theorem qs24 : Cond.selects "FaithRailsModel" yX4_faithOf yX4_faithOf ∈ x_tbl := x_in 24 (by decide +kernel) (by decide +kernel)
theorem qs25 : Cond.selects "FaithRailsModel" yX4_told yX4_told ∈ x_tbl := x_in 25 (by decide +kernel) (by decide +kernel)
theorem qs26 : Cond.selects "FaithRailsModel" yX4_othersWith yX4_othersWith ∈ x_tbl := x_in 26 (by decide +kernel) (by decide +kernel)
theorem qs27 : Cond.selects "FaithRailsModel" yX4_isThere yX4_isThere ∈ x_tbl := x_in 27 (by decide +kernel) (by decide +kernel)
theorem qs28 : Cond.selects "FaithRailsModel" yX4_comes yX4_comes ∈ x_tbl := x_in 28 (by decide +kernel) (by decide +kernel)
theorem qs29 : Cond.selects "FaithRailsModel" yX4_put yX4_put ∈ x_tbl := x_in 29 (by decide +kernel) (by decide +kernel)
theorem qs30 : Cond.selects "FaithRailsModel" yX4_isOne yX4_isOne ∈ x_tbl := x_in 30 (by decide +kernel) (by decide +kernel)
theorem qs31 : Cond.selects "FaithRailsModel" yX4_goesOn yX4_goesOn ∈ x_tbl := x_in 31 (by decide +kernel) (by decide +kernel)
theorem qs32 : Cond.selects "FaithRailsModel" yX4_hour yX4_hour ∈ x_tbl := x_in 32 (by decide +kernel) (by decide +kernel)
theorem qs33 : Cond.selects "FaithRailsModel" yX4_willFall yX4_willFall ∈ x_tbl := x_in 33 (by decide +kernel) (by decide +kernel)
theorem qs34 : Cond.selects "FaithRailsModel" yX4_sways yX4_sways ∈ x_tbl := x_in 34 (by decide +kernel) (by decide +kernel)
theorem qs35 : Cond.selects "FaithRailsModel" yX4_meanWith yX4_meanWith ∈ x_tbl := x_in 35 (by decide +kernel) (by decide +kernel)
theorem qs36 : Cond.selects "FaithRailsModel" yX4_aboard yX4_aboard ∈ x_tbl := x_in 36 (by decide +kernel) (by decide +kernel)
theorem qs37 : Cond.selects "FaithRailsModel" yX4_allThere yX4_allThere ∈ x_tbl := x_in 37 (by decide +kernel) (by decide +kernel)
theorem qs38 : Cond.selects "FaithRailsModel" yX4_allBelief yX4_allBelief ∈ x_tbl := x_in 38 (by decide +kernel) (by decide +kernel)
theorem qs39 : Cond.selects "FaithRailsModel" yX4_thinks yX4_thinks ∈ x_tbl := x_in 39 (by decide +kernel) (by decide +kernel)
theorem qs40 : Cond.selects "FaithRailsModel" yX4_getsTo yX4_getsTo ∈ x_tbl := x_in 40 (by decide +kernel) (by decide +kernel)
theorem qs41 : Cond.selects "FaithRailsModel" yX4_putsBack yX4_putsBack ∈ x_tbl := x_in 41 (by decide +kernel) (by decide +kernel)
theorem qs42 : Cond.selects "FaithRailsModel" yX4_isSettled yX4_isSettled ∈ x_tbl := x_in 42 (by decide +kernel) (by decide +kernel)
theorem qs43 : Cond.selects "FaithRailsModel" yX4_farthestBy yX4_farthestBy ∈ x_tbl := x_in 43 (by decide +kernel) (by decide +kernel)
theorem qs44 : Cond.selects "FaithRailsModel" yX4_getsWith yX4_getsWith ∈ x_tbl := x_in 44 (by decide +kernel) (by decide +kernel)
theorem qs45 : Cond.selects "FaithRailsModel" yX4_orNone yX4_orNone ∈ x_tbl := x_in 45 (by decide +kernel) (by decide +kernel)
theorem qs46 : Cond.selects "FaithRailsModel" yX4_notAsked yX4_notAsked ∈ x_tbl := x_in 46 (by decide +kernel) (by decide +kernel)
theorem qs47 : Cond.selects "FaithRailsModel" yX4_notThere yX4_notThere ∈ x_tbl := x_in 47 (by decide +kernel) (by decide +kernel)
theorem qs48 : Cond.selects "FaithRailsModel" yX4_wrongIn yX4_wrongIn ∈ x_tbl := x_in 48 (by decide +kernel) (by decide +kernel)
theorem qs49 : Cond.selects "FaithRailsModel" yX4_isRun yX4_isRun ∈ x_tbl := x_in 49 (by decide +kernel) (by decide +kernel)
theorem qs50 : Cond.selects "FaithRailsModel" yX4_draw yX4_draw ∈ x_tbl := x_in 50 (by decide +kernel) (by decide +kernel)
theorem qs51 : Cond.selects "FaithRailsModel" yX4_reads yX4_reads ∈ x_tbl := x_in 51 (by decide +kernel) (by decide +kernel)
theorem qs52 : Cond.selects "FaithRailsModel" yX4_isByte yX4_isByte ∈ x_tbl := x_in 52 (by decide +kernel) (by decide +kernel)
theorem qs53 : Cond.selects "FaithRailsModel" yX4_wordHere yX4_wordHere ∈ x_tbl := x_in 53 (by decide +kernel) (by decide +kernel)
theorem qs54 : Cond.selects "FaithRailsModel" yX4_isName yX4_isName ∈ x_tbl := x_in 54 (by decide +kernel) (by decide +kernel)
theorem qs55 : Cond.selects "FaithRailsModel" yX4_item yX4_item ∈ x_tbl := x_in 55 (by decide +kernel) (by decide +kernel)
theorem qs56 : Cond.selects "FaithRailsModel" yX4_oneItem yX4_oneItem ∈ x_tbl := x_in 56 (by decide +kernel) (by decide +kernel)
theorem qs57 : Cond.selects "FaithRailsModel" yX4_perhaps yX4_perhaps ∈ x_tbl := x_in 57 (by decide +kernel) (by decide +kernel)
theorem qs58 : Cond.selects "FaithRailsModel" yX4_takes yX4_takes ∈ x_tbl := x_in 58 (by decide +kernel) (by decide +kernel)
theorem qs59 : Cond.selects "FaithRailsModel" yX4_number yX4_number ∈ x_tbl := x_in 59 (by decide +kernel) (by decide +kernel)
theorem qs60 : Cond.selects "FaithRailsModel" yX4_needItem yX4_needItem ∈ x_tbl := x_in 60 (by decide +kernel) (by decide +kernel)
theorem qs61 : Cond.selects "FaithRailsModel" yX4_notCopied yX4_notCopied ∈ x_tbl := x_in 61 (by decide +kernel) (by decide +kernel)
theorem qs62 : Cond.selects "FaithRailsModel" yX4_manyHeld yX4_manyHeld ∈ x_tbl := x_in 62 (by decide +kernel) (by decide +kernel)
end
section
/-! BASE: one flat memory for all objects of the class and of the reference (they are made once, side by side), one judgement x_G, a row an instruction. -/
abbrev x_Mem : Type := Nat → Nat → Int32
/-- where the block begins; classes and slots; array classes (0 int, 1 byte, 2 Sheet); the static tables' cells; the string constants' cells -/
abbrev x_E : Type := Nat × va_G × (Nat → ClassId) × Nat × Nat × (Nat → Nat) × (Nat → Nat)
def x_A (E : x_E) : Nat → Prop := fun q => E.1 ≤ q
/-- what each cell is: 0 int array, 1 byte array, 2 array of sheets, 3 + i an object of class i -/
def x_kds : List Nat := [6, 3, 0, 0, 0, 0, 0, 0, 0, 0, 3, 0, 0, 0, 0, 0, 0, 0, 0, 3, 0, 0, 0, 0, 0, 0, 0, 0, 5, 1, 2, 0, 0, 4, 0, 4, 0, 4, 0, 4, 0, 7, 0, 0, 0, 0, 0, 0, 0, 0, 0, 0]
def x_lns : List Nat := [0, 0, 16, 8, 8, 8, 10, 8, 18, 18, 0, 16, 8, 8, 8, 10, 8, 18, 18, 0, 16, 8, 8, 8, 10, 8, 18, 18, 0, 120, 4, 128, 7, 0, 40, 0, 40, 0, 40, 0, 40, 0, 58, 58, 58, 7, 8, 58, 4, 4, 160, 120]
def x_kd (k : Nat) : Nat := x_kds.getD k 9
def x_ln (k : Nat) : Nat := x_lns.getD k 0
def x_rfX (j : Nat) : Option Nat := [some 1, some 10, some 19, none, some 28, some 30, some 31, some 32].getD j none
def x_rfM (j : Nat) : Option Nat := [some 42, some 43, some 44, none, some 45, some 46, some 47, some 48, some 49, some 50, some 51].getD j none
/-- the cell that a reference's place names -/
def x_rf (k j : Nat) : Option Nat :=
  if x_kd k = 3 then (if j < 5 then some (k + 1 + j) else if j < 13 then none else some (k + j - 7))
  else if x_kd k = 4 then (if j = 2 then some (k + 1) else none)
  else if x_kd k = 5 then (if j = 0 then some 29 else none)
  else if x_kd k = 6 then x_rfX j
  else if x_kd k = 7 then x_rfM j
  else if x_kd k = 2 then some (33 + 2 * j)
  else none
def x_val (E : x_E) (μ : x_Mem) (k j : Nat) : Value := match x_rf k j with
  | some t => .ref (E.1 + t)
  | none => .int (μ k j)
def x_at (E : x_E) (μ : x_Mem) (k : Nat) (H : Heap) : Prop :=
  if 3 ≤ x_kd k then ∃ r : vw_C, x_cl[x_kd k - 3]? = some r ∧ t_OB (E.1 + k) (E.2.1.1 (x_kd k - 3)) r.2.2 (E.2.1.2 (x_kd k - 3)) H (x_val E μ k)
  else H[E.1 + k]? = some (arrV (E.2.2.1 (x_kd k)) (x_ln k) (x_val E μ k))
def x_P (E : x_E) (μ : x_Mem) (H : Heap) : Prop := ∀ k : Nat, k < 52 → x_at E μ k H
abbrev x_tys (E : x_E) : List (ClassId × FieldType) := [(E.2.2.1 0, .int), (E.2.2.1 1, .byte), (E.2.2.1 2, .object RX1)]
def x_K (E : x_E) (U : State) : Prop := va_K E.2.1 x_cl (x_tys E) U
-- static tables and string constants
def x_above : List Int32 := [-1, 0, 0, 2, 3, 0, 1]
def x_names : List Int32 := [114, 105, 100, 101, 114, 0, 0, 0, 100, 111, 117, 98, 116, 101, 114, 0, 112, 114, 111, 112, 104, 101, 116, 0, 98, 97, 110, 107, 101, 114, 0, 0, 115, 101, 108, 108, 101, 114, 0, 0, 99, 104, 105, 108, 100, 0, 0, 0, 115, 99, 101, 112, 116, 105, 99, 0, 119, 97, 105, 116, 115, 0, 0, 0, 98, 101, 108, 105, 101, 118, 101, 115, 110, 101, 101, 100, 0, 0, 0, 0, 116, 114, 97, 105, 110, 0, 0, 0, 103, 97, 105, 110, 0, 0, 0, 0, 108, 111, 115, 115, 0, 0, 0, 0, 110, 105, 103, 104, 116, 0, 0, 0, 100, 97, 121, 0, 0, 0, 0, 0]
def x_sbyt : List (List Int32) := [[114, 105, 100, 101, 114], [100, 111, 117, 98, 116, 101, 114], [112, 114, 111, 112, 104, 101, 116], [98, 97, 110, 107, 101, 114], [115, 101, 108, 108, 101, 114], [99, 104, 105, 108, 100], [115, 99, 101, 112, 116, 105, 99], [119, 97, 105, 116, 115], [98, 101, 108, 105, 101, 118, 101, 115], [110, 101, 101, 100], [116, 114, 97, 105, 110], [103, 97, 105, 110], [108, 111, 115, 115], [110, 105, 103, 104, 116], [100, 97, 121]]
def x_slen : List Nat := x_sbyt.map List.length
def x_sidx : List Nat := [79, 81, 83, 85, 87, 89, 91, 96, 98, 46, 55, 65, 69, 73, 77]
def x_stx : List String := ["rider", "doubter", "prophet", "banker", "seller", "child", "sceptic", "waits", "believes", "need", "train", "gain", "loss", "night", "day"]
def x_Z (E : x_E) (U : State) (H : Heap) : Prop :=
  (va_Z "FaithRails" "KIND_ABOVE" "[I" (.ref E.2.2.2.1) (x_A E) U H ∧ va_T .int E.2.2.2.1 7 (fun j => .int (x_above.getD j 0)) (x_A E) U H) ∧
  (va_Z "FaithRailsModel" "NAMES" "[I" (.ref E.2.2.2.2.1) (x_A E) U H ∧ va_T .int E.2.2.2.2.1 120 (fun j => .int (x_names.getD j 0)) (x_A E) U H) ∧
  vk_S 15 x_slen x_sbyt E.2.2.2.2.2.1 E.2.2.2.2.2.2 (x_A E) U H ∧
  (∀ i : Nat, i < 15 → vk_R "FaithRails$Tape" (x_sidx.getD i 0) (x_stx.getD i "") (E.2.2.2.2.2.1 i) U) ∧
  va_Z "java/lang/String" "COMPACT_STRINGS" "Z" (.int 1) (x_A E) U H ∧
  va_Zq "jdk/internal/util/Preconditions" "SIOOBE_FORMATTER" "Ljava/util/function/BiFunction;" (x_A E) U H ∧
  va_Nw (.methodLinkNest "FaithRails$Prairie" 73 yX3_has "FaithRails") U
theorem x_Z.warm {E : x_E} {s U : State} {H : Heap} (hW : s.WarmedH U.vm) (h : x_Z E s H) : x_Z E U H := by
  obtain ⟨⟨a1, a2⟩, ⟨b1, b2⟩, c1, c2, d1, d2, d3⟩ := h
  have hv := hW.alike
  exact ⟨⟨va_Z.moved hv a1, va_T.moved hv a2⟩, ⟨va_Z.moved hv b1, va_T.moved hv b2⟩, vk_S.moved hv c1, fun i hi => vk_R.warm hW (c2 i hi), va_Z.moved hv d1, va_Zq.moved hv d2, va_Nw.warmM hW d3⟩
theorem x_Z.same {E : x_E} {s U : State} {H : Heap} (hW : U.vm = s.vm) (h : x_Z E s H) : x_Z E U H := by
  obtain ⟨⟨a1, a2⟩, ⟨b1, b2⟩, c1, c2, d1, d2, d3⟩ := h
  have hv : s.vm.Alike U.vm := by rw [hW]; exact Vm.Alike.refl s.vm
  exact ⟨⟨va_Z.moved hv a1, va_T.moved hv a2⟩, ⟨va_Z.moved hv b1, va_T.moved hv b2⟩, vk_S.moved hv c1, fun i hi => vk_R.same hW (c2 i hi), va_Z.moved hv d1, va_Zq.moved hv d2, va_Nw.same rfl hW.symm d3⟩
theorem x_Z.kept {E : x_E} {U : State} {H H1 : Heap} (h : x_Z E U H) (hq : ∀ a : Nat, a < H.size → ¬ x_A E a → H1[a]? = H[a]?) : x_Z E U H1 := by
  obtain ⟨⟨a1, a2⟩, ⟨b1, b2⟩, c1, c2, d1, d2, d3⟩ := h
  exact ⟨⟨a1.kept hq, a2.kept hq⟩, ⟨b1.kept hq, b2.kept hq⟩, c1.kept hq, c2, d1.kept hq, d2.kept hq, d3⟩
/-- a method's words: its own code, and the tables' -/
def x_ws (y : x_M) : List Cond := Cond.code y.1 y.2.1 y.2.2.1 y.2.2.2.1 :: x_tbl
def x_rm (y : x_M) : Room := { frames := y.2.2.2.2.1, cells := 0, slots := 0, locals := y.2.2.2.2.2 }
/-- room, cells and slots so far, what else is known of the start, the end that is wanted -/
abbrev x_V : Type := Room × Nat × Nat × (State → Array Value → Prop) × (List Frame → Array Value → State → State → Prop)
def x_F (E : x_E) (y : x_M) (v : x_V) (p : Program) (s : State) (m : MethodId) (args : Array Value) (meth : Method) (c : Code) : Prop :=
  p.tables.exec = Jvm.exec ∧ c.code = y.2.1 ∧ meth.sig.returnType = y.2.2.2.1 ∧ meth.locks = false ∧ c.maxLocals = y.2.2.1 ∧ s.vm.findClass y.1.cls = some m.cls ∧ (∀ w ∈ x_tbl, w.before args s = true) ∧ x_K E s ∧ x_Z E s s.heap ∧ v.2.1 ≤ v.1.cells ∧ v.2.2.1 ≤ v.1.slots ∧ v.2.2.2.1 s args
def x_G (l : Launch) (E : x_E) (y : x_M) (v : x_V) (μ : x_Mem) (pc : Nat) (lv : List (Nat × Value)) (st : List Value) : Prop :=
  ∀ (p : Program) (e : Env) (s : State) (m : MethodId) (args : Array Value) (below : List Frame) (meth : Method) (c : Code) (H : Heap) (ls : Array Slot) (locs : List Loc),
    x_F E y v p s m args meth c → x_P E μ H → lv_has ls y.2.2.1 lv → va_S (x_A E) s.heap H locs →
    W p l e v.1 s m args below meth c H locs v.2.1 v.2.2.1 (v.2.2.2.2 below args s) (F0 m pc ls st)
def x_Q (E : x_E) (Po : Option Value → x_Mem → Prop) : Array Value → State → Outcome → State → Prop := fun _ st o t =>
  ∃ (r : Option Value) (μ : x_Mem), o = .returned r ∧ Po r μ ∧ x_P E μ t.heap ∧ va_F (x_A E) st t
def x_mv (E : x_E) (y : x_M) (Po : Option Value → x_Mem → Prop) : x_V := (x_rm y, 0, 0, (fun _ _ => True), fun below args s => MQ below (x_Q E Po) args s 0 0 (x_A E))
def x_Pre (E : x_E) (μ : x_Mem) (U : State) : Prop := x_P E μ U.heap ∧ x_K E U ∧ x_Z E U U.heap
/-- a method's contract: with these arguments, from this memory, an answer and a memory with Po -/
def x_Met (l : Launch) (y : x_M) (E : x_E) (as : List Value) (μ : x_Mem) (Po : Option Value → x_Mem → Prop) : Prop :=
  Met l y.1 (x_ws y) (x_rm y) (va_Pc as (x_Pre E μ)) (x_Q E Po) 0 0 (x_A E)
def x_dec (y : x_M) (pc : Nat) (i : Instr) (len nx : Nat) : Prop := decode y.2.1 pc = .ok (i, len) ∧ pc + len = nx
theorem x_enter {l : Launch} {E : x_E} {y : x_M} {as : List Value} {μ : x_Mem} {Po : Option Value → x_Mem → Prop} {lv : List (Nat × Value)} (hy : plainName y.1.cls = true) (hlen : (lg_sl as).length ≤ y.2.2.1) (hlv : lv_args 0 as = lv)
    (k : x_G l E y (x_mv E y Po) μ 0 lv []) : x_Met l y E as μ Po := by
  subst hlv
  refine Met.ofW (cc := y.2.1) (maxL := y.2.2.1) (ret := y.2.2.2.1) hy rfl ?_
  intro p e s m args below meth c s₁ B hml hv
  obtain ⟨rfl, hP, hK, hZ⟩ := hv
  have hts : ∀ w ∈ x_tbl, w.before as.toArray s = true := fun w hw => atoms_spec (ws := x_ws y) B.pre w (List.mem_cons_of_mem _ hw)
  have hown : s.vm.findClass y.1.cls = some m.cls := findClass_of_methodNamed B.named
  have hl := lv_entry as (n := y.2.2.1) hlen
  rw [lg_entry_eq]
  exact k p e s m as.toArray below meth c s.heap _ [] ⟨B.exec, B.bytes, B.returns, B.notSynchronized, hml, hown, hts, hK, hZ, Nat.le_refl 0, Nat.le_refl 0, trivial⟩ hP hl va_S.rf
section XR
variable {l : Launch} {E : x_E} {y : x_M} {v : x_V} {μ : x_Mem} {pc nx len : Nat} {lv lv' : List (Nat × Value)} {st : List Value}
theorem x_eqst {st' : List Value} (h : st = st') (k : x_G l E y v μ pc lv st') : x_G l E y v μ pc lv st := h ▸ k
theorem x_top {x : Int32} (k : ∀ z : Int32, z = x → x_G l E y v μ pc lv (.int z :: st)) : x_G l E y v μ pc lv (.int x :: st) := k x rfl
theorem x_mem {μ' : x_Mem} (h : μ = μ') (k : x_G l E y v μ' pc lv st) : x_G l E y v μ pc lv st := h ▸ k
theorem x_iconst {n : Int} {x : Int32} (hd : x_dec y pc (.iconst n) 1 nx) (hv : Int32.ofInt n = x) (k : x_G l E y v μ nx lv (.int x :: st)) : x_G l E y v μ pc lv st := by
  intro p e s m args below meth c H ls locs F hP hl hS
  obtain ⟨hd, rfl⟩ := hd
  exact lv_iconst F.1 F.2.1 hd hv (k p e s m args below meth c H ls locs F hP hl hS)
theorem x_bipush {n : Int} {x : Int32} (hd : x_dec y pc (.bipush n) 2 nx) (hv : (Int8.ofInt n).toInt32 = x) (k : x_G l E y v μ nx lv (.int x :: st)) : x_G l E y v μ pc lv st := by
  intro p e s m args below meth c H ls locs F hP hl hS
  obtain ⟨hd, rfl⟩ := hd
  exact lv_bipush F.1 F.2.1 hd hv (k p e s m args below meth c H ls locs F hP hl hS)
theorem x_sipush {n : Int} {x : Int32} (hd : x_dec y pc (.sipush n) 3 nx) (hv : (Int16.ofInt n).toInt32 = x) (k : x_G l E y v μ nx lv (.int x :: st)) : x_G l E y v μ pc lv st := by
  intro p e s m args below meth c H ls locs F hP hl hS
  obtain ⟨hd, rfl⟩ := hd
  exact lv_sipush F.1 F.2.1 hd hv (k p e s m args below meth c H ls locs F hP hl hS)
theorem x_lconst {n : Fin 2} {x : Int64} (hd : x_dec y pc (.lconst n) 1 nx) (hv : Int64.ofNat (n : Nat) = x) (k : x_G l E y v μ nx lv (.long x :: st)) : x_G l E y v μ pc lv st := by
  intro p e s m args below meth c H ls locs F hP hl hS
  obtain ⟨hd, rfl⟩ := hd
  exact lv_lconst F.1 F.2.1 hd hv (k p e s m args below meth c H ls locs F hP hl hS)
theorem x_iload_n {i : Fin 4} (j : Nat) {q : Nat} {x : Int32} (hd : x_dec y pc (.iload_n i) 1 nx) (hi : (i : Nat) = q) (hj : lv[j]? = some (q, .int x)) (k : x_G l E y v μ nx lv (.int x :: st)) : x_G l E y v μ pc lv st := by
  intro p e s m args below meth c H ls locs F hP hl hS
  obtain ⟨hd, rfl⟩ := hd
  exact lv_iload_n F.1 F.2.1 hd hi (lv_at hl j hj) (k p e s m args below meth c H ls locs F hP hl hS)
theorem x_iload {i : Nat} (j : Nat) {x : Int32} (hd : x_dec y pc (.iload i) 2 nx) (hj : lv[j]? = some (i, .int x)) (k : x_G l E y v μ nx lv (.int x :: st)) : x_G l E y v μ pc lv st := by
  intro p e s m args below meth c H ls locs F hP hl hS
  obtain ⟨hd, rfl⟩ := hd
  exact lv_iload F.1 F.2.1 hd (lv_at hl j hj) (k p e s m args below meth c H ls locs F hP hl hS)
theorem x_lload_n {i : Fin 4} (j : Nat) {q : Nat} {x : Int64} (hd : x_dec y pc (.lload_n i) 1 nx) (hi : (i : Nat) = q) (hj : lv[j]? = some (q, .long x)) (k : x_G l E y v μ nx lv (.long x :: st)) : x_G l E y v μ pc lv st := by
  intro p e s m args below meth c H ls locs F hP hl hS
  obtain ⟨hd, rfl⟩ := hd
  exact lv_lload_n F.1 F.2.1 hd hi (lv_at hl j hj) (k p e s m args below meth c H ls locs F hP hl hS)
theorem x_lload {i : Nat} (j : Nat) {x : Int64} (hd : x_dec y pc (.lload i) 2 nx) (hj : lv[j]? = some (i, .long x)) (k : x_G l E y v μ nx lv (.long x :: st)) : x_G l E y v μ pc lv st := by
  intro p e s m args below meth c H ls locs F hP hl hS
  obtain ⟨hd, rfl⟩ := hd
  exact lv_lload F.1 F.2.1 hd (lv_at hl j hj) (k p e s m args below meth c H ls locs F hP hl hS)
theorem x_aload_n {i : Fin 4} (j : Nat) {q a : Nat} (hd : x_dec y pc (.aload_n i) 1 nx) (hi : (i : Nat) = q) (hj : lv[j]? = some (q, .ref a)) (k : x_G l E y v μ nx lv (.ref a :: st)) : x_G l E y v μ pc lv st := by
  intro p e s m args below meth c H ls locs F hP hl hS
  obtain ⟨hd, rfl⟩ := hd
  exact lv_aload_n F.1 F.2.1 hd hi (lv_at hl j hj) (k p e s m args below meth c H ls locs F hP hl hS)
theorem x_aload {i : Nat} (j : Nat) {a : Nat} (hd : x_dec y pc (.aload i) 2 nx) (hj : lv[j]? = some (i, .ref a)) (k : x_G l E y v μ nx lv (.ref a :: st)) : x_G l E y v μ pc lv st := by
  intro p e s m args below meth c H ls locs F hP hl hS
  obtain ⟨hd, rfl⟩ := hd
  exact lv_aload F.1 F.2.1 hd (lv_at hl j hj) (k p e s m args below meth c H ls locs F hP hl hS)
theorem x_aload_nN {i : Fin 4} (j : Nat) {q : Nat} (hd : x_dec y pc (.aload_n i) 1 nx) (hi : (i : Nat) = q) (hj : lv[j]? = some (q, .null)) (k : x_G l E y v μ nx lv (.null :: st)) : x_G l E y v μ pc lv st := by
  intro p e s m args below meth c H ls locs F hP hl hS
  obtain ⟨hd, rfl⟩ := hd
  exact lv_aload_nN F.1 F.2.1 hd hi (lv_at hl j hj) (k p e s m args below meth c H ls locs F hP hl hS)
theorem x_aloadN {i : Nat} (j : Nat) (hd : x_dec y pc (.aload i) 2 nx) (hj : lv[j]? = some (i, .null)) (k : x_G l E y v μ nx lv (.null :: st)) : x_G l E y v μ pc lv st := by
  intro p e s m args below meth c H ls locs F hP hl hS
  obtain ⟨hd, rfl⟩ := hd
  exact lv_aloadN F.1 F.2.1 hd (lv_at hl j hj) (k p e s m args below meth c H ls locs F hP hl hS)
abbrev x_put1 (lv : List (Nat × Value)) (i : Nat) (x : Value) : List (Nat × Value) := (i, x) :: lv.filter (fun q => !(q.1 == i) && !(q.1 + 1 == i && q.2.category == 2))
abbrev x_put2 (lv : List (Nat × Value)) (i : Nat) (x : Value) : List (Nat × Value) := (i, x) :: lv.filter (fun q => !(q.1 == i) && (!(q.1 == i + 1) && !(q.1 + 1 == i && q.2.category == 2)))
theorem x_istore_n (lv' : List (Nat × Value)) {i : Fin 4} {q : Nat} {x : Int32} (hd : x_dec y pc (.istore_n i) 1 nx) (hi : (i : Nat) = q) (hn : q < y.2.2.1) (hl' : x_put1 lv q (.int x) = lv') (k : x_G l E y v μ nx lv' st) : x_G l E y v μ pc lv (.int x :: st) := by
  intro p e s m args below meth c H ls locs F hP hl hS
  obtain ⟨hd, rfl⟩ := hd
  exact lv_istore_n F.1 F.2.1 hd hi hl hn hl' (fun ls hl => k p e s m args below meth c H ls locs F hP hl hS)
theorem x_istore (lv' : List (Nat × Value)) {i : Nat} {x : Int32} (hd : x_dec y pc (.istore i) 2 nx) (hn : i < y.2.2.1) (hl' : x_put1 lv i (.int x) = lv') (k : x_G l E y v μ nx lv' st) : x_G l E y v μ pc lv (.int x :: st) := by
  intro p e s m args below meth c H ls locs F hP hl hS
  obtain ⟨hd, rfl⟩ := hd
  exact lv_istore F.1 F.2.1 hd hl hn hl' (fun ls hl => k p e s m args below meth c H ls locs F hP hl hS)
theorem x_lstore_n (lv' : List (Nat × Value)) {i : Fin 4} {q : Nat} {x : Int64} (hd : x_dec y pc (.lstore_n i) 1 nx) (hi : (i : Nat) = q) (hn : q + 1 < y.2.2.1) (hl' : x_put2 lv q (.long x) = lv') (k : x_G l E y v μ nx lv' st) : x_G l E y v μ pc lv (.long x :: st) := by
  intro p e s m args below meth c H ls locs F hP hl hS
  obtain ⟨hd, rfl⟩ := hd
  exact lv_lstore_n F.1 F.2.1 hd hi hl hn hl' (fun ls hl => k p e s m args below meth c H ls locs F hP hl hS)
theorem x_lstore (lv' : List (Nat × Value)) {i : Nat} {x : Int64} (hd : x_dec y pc (.lstore i) 2 nx) (hn : i + 1 < y.2.2.1) (hl' : x_put2 lv i (.long x) = lv') (k : x_G l E y v μ nx lv' st) : x_G l E y v μ pc lv (.long x :: st) := by
  intro p e s m args below meth c H ls locs F hP hl hS
  obtain ⟨hd, rfl⟩ := hd
  exact lv_lstore F.1 F.2.1 hd hl hn hl' (fun ls hl => k p e s m args below meth c H ls locs F hP hl hS)
theorem x_astore_n (lv' : List (Nat × Value)) {i : Fin 4} {q a : Nat} (hd : x_dec y pc (.astore_n i) 1 nx) (hi : (i : Nat) = q) (hn : q < y.2.2.1) (hl' : x_put1 lv q (.ref a) = lv') (k : x_G l E y v μ nx lv' st) : x_G l E y v μ pc lv (.ref a :: st) := by
  intro p e s m args below meth c H ls locs F hP hl hS
  obtain ⟨hd, rfl⟩ := hd
  exact lv_astore_n F.1 F.2.1 hd hi hl hn hl' (fun ls hl => k p e s m args below meth c H ls locs F hP hl hS)
theorem x_astore (lv' : List (Nat × Value)) {i a : Nat} (hd : x_dec y pc (.astore i) 2 nx) (hn : i < y.2.2.1) (hl' : x_put1 lv i (.ref a) = lv') (k : x_G l E y v μ nx lv' st) : x_G l E y v μ pc lv (.ref a :: st) := by
  intro p e s m args below meth c H ls locs F hP hl hS
  obtain ⟨hd, rfl⟩ := hd
  exact lv_astore F.1 F.2.1 hd hl hn hl' (fun ls hl => k p e s m args below meth c H ls locs F hP hl hS)
theorem x_astore_nN (lv' : List (Nat × Value)) {i : Fin 4} {q : Nat} (hd : x_dec y pc (.astore_n i) 1 nx) (hi : (i : Nat) = q) (hn : q < y.2.2.1) (hl' : x_put1 lv q .null = lv') (k : x_G l E y v μ nx lv' st) : x_G l E y v μ pc lv (.null :: st) := by
  intro p e s m args below meth c H ls locs F hP hl hS
  obtain ⟨hd, rfl⟩ := hd
  exact lv_astore_nN F.1 F.2.1 hd hi hl hn hl' (fun ls hl => k p e s m args below meth c H ls locs F hP hl hS)
theorem x_astoreN (lv' : List (Nat × Value)) {i : Nat} (hd : x_dec y pc (.astore i) 2 nx) (hn : i < y.2.2.1) (hl' : x_put1 lv i .null = lv') (k : x_G l E y v μ nx lv' st) : x_G l E y v μ pc lv (.null :: st) := by
  intro p e s m args below meth c H ls locs F hP hl hS
  obtain ⟨hd, rfl⟩ := hd
  exact lv_astoreN F.1 F.2.1 hd hl hn hl' (fun ls hl => k p e s m args below meth c H ls locs F hP hl hS)
theorem x_iinc (lv' : List (Nat × Value)) (j : Nat) {i : Nat} {n : Int} {x z : Int32} (hd : x_dec y pc (.iinc i n) 3 nx) (hj : lv[j]? = some (i, .int x)) (hv : x + Int32.ofInt n = z) (hn : i < y.2.2.1) (hl' : x_put1 lv i (.int z) = lv') (k : x_G l E y v μ nx lv' st) : x_G l E y v μ pc lv st := by
  intro p e s m args below meth c H ls locs F hP hl hS
  obtain ⟨hd, rfl⟩ := hd
  exact lv_iinc F.1 F.2.1 hd hl hj hv hn hl' (fun ls hl => k p e s m args below meth c H ls locs F hP hl hS)
/-- fewer locals, in another order, by places -/
theorem x_lv (ks : List Nat) (h : lv_pick lv ks = lv') (k : x_G l E y v μ pc lv' st) : x_G l E y v μ pc lv st := fun p e s m args below meth c H ls locs F hP hl hS => k p e s m args below meth c H ls locs F hP (lv_sub hl ks h) hS
theorem x_iadd {a b : Int32} (hd : x_dec y pc .iadd 1 nx) (k : x_G l E y v μ nx lv (.int (a + b) :: st)) : x_G l E y v μ pc lv (.int b :: .int a :: st) := by
  intro p e s m args below meth c H ls locs F hP hl hS
  obtain ⟨hd, rfl⟩ := hd
  exact lv_iadd F.1 F.2.1 hd (k p e s m args below meth c H ls locs F hP hl hS)
theorem x_isub {a b : Int32} (hd : x_dec y pc .isub 1 nx) (k : x_G l E y v μ nx lv (.int (a - b) :: st)) : x_G l E y v μ pc lv (.int b :: .int a :: st) := by
  intro p e s m args below meth c H ls locs F hP hl hS
  obtain ⟨hd, rfl⟩ := hd
  exact lv_isub F.1 F.2.1 hd (k p e s m args below meth c H ls locs F hP hl hS)
theorem x_imul {a b : Int32} (hd : x_dec y pc .imul 1 nx) (k : x_G l E y v μ nx lv (.int (a * b) :: st)) : x_G l E y v μ pc lv (.int b :: .int a :: st) := by
  intro p e s m args below meth c H ls locs F hP hl hS
  obtain ⟨hd, rfl⟩ := hd
  exact lv_imul F.1 F.2.1 hd (k p e s m args below meth c H ls locs F hP hl hS)
theorem x_iand {a b : Int32} (hd : x_dec y pc .iand 1 nx) (k : x_G l E y v μ nx lv (.int (a &&& b) :: st)) : x_G l E y v μ pc lv (.int b :: .int a :: st) := by
  intro p e s m args below meth c H ls locs F hP hl hS
  obtain ⟨hd, rfl⟩ := hd
  exact lv_iand F.1 F.2.1 hd (k p e s m args below meth c H ls locs F hP hl hS)
theorem x_ior {a b : Int32} (hd : x_dec y pc .ior 1 nx) (k : x_G l E y v μ nx lv (.int (a ||| b) :: st)) : x_G l E y v μ pc lv (.int b :: .int a :: st) := by
  intro p e s m args below meth c H ls locs F hP hl hS
  obtain ⟨hd, rfl⟩ := hd
  exact lv_ior F.1 F.2.1 hd (k p e s m args below meth c H ls locs F hP hl hS)
theorem x_ladd {a b : Int64} (hd : x_dec y pc .ladd 1 nx) (k : x_G l E y v μ nx lv (.long (a + b) :: st)) : x_G l E y v μ pc lv (.long b :: .long a :: st) := by
  intro p e s m args below meth c H ls locs F hP hl hS
  obtain ⟨hd, rfl⟩ := hd
  exact lv_ladd F.1 F.2.1 hd (k p e s m args below meth c H ls locs F hP hl hS)
theorem x_lmul {a b : Int64} (hd : x_dec y pc .lmul 1 nx) (k : x_G l E y v μ nx lv (.long (a * b) :: st)) : x_G l E y v μ pc lv (.long b :: .long a :: st) := by
  intro p e s m args below meth c H ls locs F hP hl hS
  obtain ⟨hd, rfl⟩ := hd
  exact lv_lmul F.1 F.2.1 hd (k p e s m args below meth c H ls locs F hP hl hS)
theorem x_land {a b : Int64} (hd : x_dec y pc .land 1 nx) (k : x_G l E y v μ nx lv (.long (a &&& b) :: st)) : x_G l E y v μ pc lv (.long b :: .long a :: st) := by
  intro p e s m args below meth c H ls locs F hP hl hS
  obtain ⟨hd, rfl⟩ := hd
  exact lv_land F.1 F.2.1 hd (k p e s m args below meth c H ls locs F hP hl hS)
theorem x_idiv {a b : Int32} (hd : x_dec y pc (.idiv) 1 nx) (hne : ¬ b = 0) (k : x_G l E y v μ nx lv (.int (a / b) :: st)) : x_G l E y v μ pc lv (.int b :: .int a :: st) := by
  intro p e s m args below meth c H ls locs F hP hl hS
  obtain ⟨hd, rfl⟩ := hd
  exact lv_idiv F.1 F.2.1 hd hne (k p e s m args below meth c H ls locs F hP hl hS)
theorem x_irem {a b : Int32} (hd : x_dec y pc (.irem) 1 nx) (hne : ¬ b = 0) (k : x_G l E y v μ nx lv (.int (a - a / b * b) :: st)) : x_G l E y v μ pc lv (.int b :: .int a :: st) := by
  intro p e s m args below meth c H ls locs F hP hl hS
  obtain ⟨hd, rfl⟩ := hd
  exact lv_irem F.1 F.2.1 hd hne (k p e s m args below meth c H ls locs F hP hl hS)
theorem x_ldiv {a b : Int64} (hd : x_dec y pc (.ldiv) 1 nx) (hne : ¬ b = 0) (k : x_G l E y v μ nx lv (.long (a / b) :: st)) : x_G l E y v μ pc lv (.long b :: .long a :: st) := by
  intro p e s m args below meth c H ls locs F hP hl hS
  obtain ⟨hd, rfl⟩ := hd
  exact lv_ldiv F.1 F.2.1 hd hne (k p e s m args below meth c H ls locs F hP hl hS)
theorem x_lrem {a b : Int64} (hd : x_dec y pc (.lrem) 1 nx) (hne : ¬ b = 0) (k : x_G l E y v μ nx lv (.long (a - a / b * b) :: st)) : x_G l E y v μ pc lv (.long b :: .long a :: st) := by
  intro p e s m args below meth c H ls locs F hP hl hS
  obtain ⟨hd, rfl⟩ := hd
  exact lv_lrem F.1 F.2.1 hd hne (k p e s m args below meth c H ls locs F hP hl hS)
theorem x_ineg {a : Int32} (hd : x_dec y pc (.ineg) 1 nx) (k : x_G l E y v μ nx lv (.int (-a) :: st)) : x_G l E y v μ pc lv (.int a :: st) := by
  intro p e s m args below meth c H ls locs F hP hl hS
  obtain ⟨hd, rfl⟩ := hd
  exact lv_ineg F.1 F.2.1 hd (k p e s m args below meth c H ls locs F hP hl hS)
theorem x_ishl {a b : Int32} (hd : x_dec y pc (.ishl) 1 nx) (k : x_G l E y v μ nx lv (.int (a <<< (b &&& 31)) :: st)) : x_G l E y v μ pc lv (.int b :: .int a :: st) := by
  intro p e s m args below meth c H ls locs F hP hl hS
  obtain ⟨hd, rfl⟩ := hd
  exact lv_ishl F.1 F.2.1 hd (k p e s m args below meth c H ls locs F hP hl hS)
theorem x_ishr {a b : Int32} (hd : x_dec y pc (.ishr) 1 nx) (k : x_G l E y v μ nx lv (.int (a >>> (b &&& 31)) :: st)) : x_G l E y v μ pc lv (.int b :: .int a :: st) := by
  intro p e s m args below meth c H ls locs F hP hl hS
  obtain ⟨hd, rfl⟩ := hd
  exact lv_ishr F.1 F.2.1 hd (k p e s m args below meth c H ls locs F hP hl hS)
theorem x_iushr {a b : Int32} (hd : x_dec y pc (.iushr) 1 nx) (k : x_G l E y v μ nx lv (.int (a.toUInt32 >>> (b.toUInt32 &&& Int32.toUInt32 31)).toInt32 :: st)) : x_G l E y v μ pc lv (.int b :: .int a :: st) := by
  intro p e s m args below meth c H ls locs F hP hl hS
  obtain ⟨hd, rfl⟩ := hd
  exact lv_iushr F.1 F.2.1 hd rfl (k p e s m args below meth c H ls locs F hP hl hS)
theorem x_i2l {a : Int32} (hd : x_dec y pc (.i2l) 1 nx) (k : x_G l E y v μ nx lv (.long a.toInt64 :: st)) : x_G l E y v μ pc lv (.int a :: st) := by
  intro p e s m args below meth c H ls locs F hP hl hS
  obtain ⟨hd, rfl⟩ := hd
  exact lv_i2l F.1 F.2.1 hd rfl (k p e s m args below meth c H ls locs F hP hl hS)
theorem x_i2b {a : Int32} (hd : x_dec y pc (.i2b) 1 nx) (k : x_G l E y v μ nx lv (.int a.toInt8.toInt32 :: st)) : x_G l E y v μ pc lv (.int a :: st) := by
  intro p e s m args below meth c H ls locs F hP hl hS
  obtain ⟨hd, rfl⟩ := hd
  exact lv_i2b F.1 F.2.1 hd rfl (k p e s m args below meth c H ls locs F hP hl hS)
theorem x_i2s {a : Int32} (hd : x_dec y pc (.i2s) 1 nx) (k : x_G l E y v μ nx lv (.int a.toInt16.toInt32 :: st)) : x_G l E y v μ pc lv (.int a :: st) := by
  intro p e s m args below meth c H ls locs F hP hl hS
  obtain ⟨hd, rfl⟩ := hd
  exact lv_i2s F.1 F.2.1 hd rfl (k p e s m args below meth c H ls locs F hP hl hS)
theorem x_dup {a : Value} (hd : x_dec y pc (.dup) 1 nx) (ha : a.category = 1) (k : x_G l E y v μ nx lv (a :: a :: st)) : x_G l E y v μ pc lv (a :: st) := by
  intro p e s m args below meth c H ls locs F hP hl hS
  obtain ⟨hd, rfl⟩ := hd
  exact lv_dup F.1 F.2.1 hd ha (k p e s m args below meth c H ls locs F hP hl hS)
theorem x_pop {a : Value} (hd : x_dec y pc (.pop) 1 nx) (ha : a.category = 1) (k : x_G l E y v μ nx lv (st)) : x_G l E y v μ pc lv (a :: st) := by
  intro p e s m args below meth c H ls locs F hP hl hS
  obtain ⟨hd, rfl⟩ := hd
  exact lv_pop F.1 F.2.1 hd ha (k p e s m args below meth c H ls locs F hP hl hS)
theorem x_dup2 {a b : Value} (hd : x_dec y pc (.dup2) 1 nx) (ha : a.category = 1) (hb : b.category = 1) (k : x_G l E y v μ nx lv (a :: b :: a :: b :: st)) : x_G l E y v μ pc lv (a :: b :: st) := by
  intro p e s m args below meth c H ls locs F hP hl hS
  obtain ⟨hd, rfl⟩ := hd
  exact lv_dup2_11 F.1 F.2.1 hd ha hb (k p e s m args below meth c H ls locs F hP hl hS)
theorem x_lcmp {a b : Int64} (hd : x_dec y pc (.lcmp) 1 nx) (k : x_G l E y v μ nx lv (.int (lg_cmp a b) :: st)) : x_G l E y v μ pc lv (.long b :: .long a :: st) := by
  intro p e s m args below meth c H ls locs F hP hl hS
  obtain ⟨hd, rfl⟩ := hd
  exact W.lcmp F.1 F.2.1 hd (k p e s m args below meth c H ls locs F hP hl hS)
theorem x_null (hd : x_dec y pc (.aconst_null) 1 nx) (k : x_G l E y v μ nx lv (.null :: st)) : x_G l E y v μ pc lv (st) := by
  intro p e s m args below meth c H ls locs F hP hl hS
  obtain ⟨hd, rfl⟩ := hd
  exact lv_null F.1 F.2.1 hd (k p e s m args below meth c H ls locs F hP hl hS)
theorem x_ifnonnullN {off : Int} (hd : x_dec y pc (.ifnonnull off) 3 nx) (k : x_G l E y v μ nx lv (st)) : x_G l E y v μ pc lv (.null :: st) := by
  intro p e s m args below meth c H ls locs F hP hl hS
  obtain ⟨hd, rfl⟩ := hd
  exact lv_ifnonnullN F.1 F.2.1 hd (k p e s m args below meth c H ls locs F hP hl hS)
theorem x_ifnull {off : Int} {a : Nat} (hd : x_dec y pc (.ifnull off) 3 nx) (k : x_G l E y v μ nx lv (st)) : x_G l E y v μ pc lv (.ref a :: st) := by
  intro p e s m args below meth c H ls locs F hP hl hS
  obtain ⟨hd, rfl⟩ := hd
  exact lv_ifnull F.1 F.2.1 hd (k p e s m args below meth c H ls locs F hP hl hS)
theorem x_ifnonnull (tgt : Nat) {off : Int} {a : Nat} (hd : x_dec y pc (.ifnonnull off) 3 nx) (ht : (pc : Int) + off = (tgt : Int)) (k : x_G l E y v μ tgt lv st) : x_G l E y v μ pc lv (.ref a :: st) := by
  intro p e s m args below meth c H ls locs F hP hl hS
  obtain ⟨hd, rfl⟩ := hd
  exact lv_ifnonnull F.1 F.2.1 hd ht (k p e s m args below meth c H ls locs F hP hl hS)
theorem x_ifnullN (tgt : Nat) {off : Int} (hd : x_dec y pc (.ifnull off) 3 nx) (ht : (pc : Int) + off = (tgt : Int)) (k : x_G l E y v μ tgt lv st) : x_G l E y v μ pc lv (.null :: st) := by
  intro p e s m args below meth c H ls locs F hP hl hS
  obtain ⟨hd, rfl⟩ := hd
  exact lv_ifnullN F.1 F.2.1 hd ht (k p e s m args below meth c H ls locs F hP hl hS)
theorem x_goto (tgt : Nat) {off : Int} (hd : x_dec y pc (.goto off) 3 nx) (ht : (pc : Int) + off = (tgt : Int)) (k : x_G l E y v μ tgt lv st) : x_G l E y v μ pc lv st := by
  intro p e s m args below meth c H ls locs F hP hl hS
  obtain ⟨hd, rfl⟩ := hd
  exact lv_goto F.1 F.2.1 hd ht (k p e s m args below meth c H ls locs F hP hl hS)
theorem x_if_eq (tgt : Nat) {off : Int} {a : Int32} (hd : x_dec y pc (.ifCond .eq off) 3 nx) (ht : (pc : Int) + off = (tgt : Int)) (kt : a = 0 → x_G l E y v μ tgt lv st) (kf : ¬ a = 0 → x_G l E y v μ nx lv st) : x_G l E y v μ pc lv (.int a :: st) := by
  intro p e s m args below meth c H ls locs F hP hl hS
  obtain ⟨hd, rfl⟩ := hd
  exact lv_if_eq F.1 F.2.1 hd ht (fun h => kt h p e s m args below meth c H ls locs F hP hl hS) (fun h => kf h p e s m args below meth c H ls locs F hP hl hS)
theorem x_if_ne (tgt : Nat) {off : Int} {a : Int32} (hd : x_dec y pc (.ifCond .ne off) 3 nx) (ht : (pc : Int) + off = (tgt : Int)) (kt : ¬ a = 0 → x_G l E y v μ tgt lv st) (kf : a = 0 → x_G l E y v μ nx lv st) : x_G l E y v μ pc lv (.int a :: st) := by
  intro p e s m args below meth c H ls locs F hP hl hS
  obtain ⟨hd, rfl⟩ := hd
  exact lv_if_ne F.1 F.2.1 hd ht (fun h => kt h p e s m args below meth c H ls locs F hP hl hS) (fun h => kf h p e s m args below meth c H ls locs F hP hl hS)
theorem x_if_lt (tgt : Nat) {off : Int} {a : Int32} (hd : x_dec y pc (.ifCond .lt off) 3 nx) (ht : (pc : Int) + off = (tgt : Int)) (kt : a < 0 → x_G l E y v μ tgt lv st) (kf : ¬ a < 0 → x_G l E y v μ nx lv st) : x_G l E y v μ pc lv (.int a :: st) := by
  intro p e s m args below meth c H ls locs F hP hl hS
  obtain ⟨hd, rfl⟩ := hd
  exact lv_if_lt F.1 F.2.1 hd ht (fun h => kt h p e s m args below meth c H ls locs F hP hl hS) (fun h => kf h p e s m args below meth c H ls locs F hP hl hS)
theorem x_if_ge (tgt : Nat) {off : Int} {a : Int32} (hd : x_dec y pc (.ifCond .ge off) 3 nx) (ht : (pc : Int) + off = (tgt : Int)) (kt : 0 ≤ a → x_G l E y v μ tgt lv st) (kf : ¬ 0 ≤ a → x_G l E y v μ nx lv st) : x_G l E y v μ pc lv (.int a :: st) := by
  intro p e s m args below meth c H ls locs F hP hl hS
  obtain ⟨hd, rfl⟩ := hd
  exact lv_if_ge F.1 F.2.1 hd ht (fun h => kt h p e s m args below meth c H ls locs F hP hl hS) (fun h => kf h p e s m args below meth c H ls locs F hP hl hS)
theorem x_if_gt (tgt : Nat) {off : Int} {a : Int32} (hd : x_dec y pc (.ifCond .gt off) 3 nx) (ht : (pc : Int) + off = (tgt : Int)) (kt : 0 < a → x_G l E y v μ tgt lv st) (kf : ¬ 0 < a → x_G l E y v μ nx lv st) : x_G l E y v μ pc lv (.int a :: st) := by
  intro p e s m args below meth c H ls locs F hP hl hS
  obtain ⟨hd, rfl⟩ := hd
  exact lv_if_gt F.1 F.2.1 hd ht (fun h => kt h p e s m args below meth c H ls locs F hP hl hS) (fun h => kf h p e s m args below meth c H ls locs F hP hl hS)
theorem x_if_le (tgt : Nat) {off : Int} {a : Int32} (hd : x_dec y pc (.ifCond .le off) 3 nx) (ht : (pc : Int) + off = (tgt : Int)) (kt : a ≤ 0 → x_G l E y v μ tgt lv st) (kf : ¬ a ≤ 0 → x_G l E y v μ nx lv st) : x_G l E y v μ pc lv (.int a :: st) := by
  intro p e s m args below meth c H ls locs F hP hl hS
  obtain ⟨hd, rfl⟩ := hd
  exact lv_if_le F.1 F.2.1 hd ht (fun h => kt h p e s m args below meth c H ls locs F hP hl hS) (fun h => kf h p e s m args below meth c H ls locs F hP hl hS)
theorem x_icmp_eq (tgt : Nat) {off : Int} {a b : Int32} (hd : x_dec y pc (.if_icmp .eq off) 3 nx) (ht : (pc : Int) + off = (tgt : Int)) (kt : a = b → x_G l E y v μ tgt lv st) (kf : ¬ a = b → x_G l E y v μ nx lv st) : x_G l E y v μ pc lv (.int b :: .int a :: st) := by
  intro p e s m args below meth c H ls locs F hP hl hS
  obtain ⟨hd, rfl⟩ := hd
  exact lv_icmp_eq F.1 F.2.1 hd ht (fun h => kt h p e s m args below meth c H ls locs F hP hl hS) (fun h => kf h p e s m args below meth c H ls locs F hP hl hS)
theorem x_icmp_ne (tgt : Nat) {off : Int} {a b : Int32} (hd : x_dec y pc (.if_icmp .ne off) 3 nx) (ht : (pc : Int) + off = (tgt : Int)) (kt : ¬ a = b → x_G l E y v μ tgt lv st) (kf : a = b → x_G l E y v μ nx lv st) : x_G l E y v μ pc lv (.int b :: .int a :: st) := by
  intro p e s m args below meth c H ls locs F hP hl hS
  obtain ⟨hd, rfl⟩ := hd
  exact lv_icmp_ne F.1 F.2.1 hd ht (fun h => kt h p e s m args below meth c H ls locs F hP hl hS) (fun h => kf h p e s m args below meth c H ls locs F hP hl hS)
theorem x_icmp_lt (tgt : Nat) {off : Int} {a b : Int32} (hd : x_dec y pc (.if_icmp .lt off) 3 nx) (ht : (pc : Int) + off = (tgt : Int)) (kt : a < b → x_G l E y v μ tgt lv st) (kf : ¬ a < b → x_G l E y v μ nx lv st) : x_G l E y v μ pc lv (.int b :: .int a :: st) := by
  intro p e s m args below meth c H ls locs F hP hl hS
  obtain ⟨hd, rfl⟩ := hd
  exact lv_icmp_lt F.1 F.2.1 hd ht (fun h => kt h p e s m args below meth c H ls locs F hP hl hS) (fun h => kf h p e s m args below meth c H ls locs F hP hl hS)
theorem x_icmp_ge (tgt : Nat) {off : Int} {a b : Int32} (hd : x_dec y pc (.if_icmp .ge off) 3 nx) (ht : (pc : Int) + off = (tgt : Int)) (kt : b ≤ a → x_G l E y v μ tgt lv st) (kf : ¬ b ≤ a → x_G l E y v μ nx lv st) : x_G l E y v μ pc lv (.int b :: .int a :: st) := by
  intro p e s m args below meth c H ls locs F hP hl hS
  obtain ⟨hd, rfl⟩ := hd
  exact lv_icmp_ge F.1 F.2.1 hd ht (fun h => kt h p e s m args below meth c H ls locs F hP hl hS) (fun h => kf h p e s m args below meth c H ls locs F hP hl hS)
theorem x_icmp_gt (tgt : Nat) {off : Int} {a b : Int32} (hd : x_dec y pc (.if_icmp .gt off) 3 nx) (ht : (pc : Int) + off = (tgt : Int)) (kt : b < a → x_G l E y v μ tgt lv st) (kf : ¬ b < a → x_G l E y v μ nx lv st) : x_G l E y v μ pc lv (.int b :: .int a :: st) := by
  intro p e s m args below meth c H ls locs F hP hl hS
  obtain ⟨hd, rfl⟩ := hd
  exact lv_icmp_gt F.1 F.2.1 hd ht (fun h => kt h p e s m args below meth c H ls locs F hP hl hS) (fun h => kf h p e s m args below meth c H ls locs F hP hl hS)
theorem x_icmp_le (tgt : Nat) {off : Int} {a b : Int32} (hd : x_dec y pc (.if_icmp .le off) 3 nx) (ht : (pc : Int) + off = (tgt : Int)) (kt : a ≤ b → x_G l E y v μ tgt lv st) (kf : ¬ a ≤ b → x_G l E y v μ nx lv st) : x_G l E y v μ pc lv (.int b :: .int a :: st) := by
  intro p e s m args below meth c H ls locs F hP hl hS
  obtain ⟨hd, rfl⟩ := hd
  exact lv_icmp_le F.1 F.2.1 hd ht (fun h => kt h p e s m args below meth c H ls locs F hP hl hS) (fun h => kf h p e s m args below meth c H ls locs F hP hl hS)
/-- a truth value as an int -/
def x_b (q : Bool) : Int32 := if q = true then 1 else 0
theorem x_b_f : x_b false = 0 := rfl
theorem x_b_t : x_b true = 1 := rfl
theorem x_b_nar (q : Bool) : narrow .boolean (.int (x_b q)) = .int (x_b q) := by cases q <;> rfl
theorem x_b_fit (q : Bool) : fits .boolean (.int (x_b q)) = true := by cases q <;> rfl
theorem x_b_0 {q : Bool} : x_b q = 0 ↔ q = false := by cases q <;> decide
theorem x_b_1 {q : Bool} : x_b q = 1 ↔ q = true := by cases q <;> decide
theorem x_ifb_eq (tgt : Nat) {off : Int} {q : Bool} (hd : x_dec y pc (.ifCond .eq off) 3 nx) (ht : (pc : Int) + off = (tgt : Int)) (kt : q = false → x_G l E y v μ tgt lv st) (kf : q = true → x_G l E y v μ nx lv st) : x_G l E y v μ pc lv (.int (x_b q) :: st) :=
  x_if_eq tgt hd ht (fun h => kt (x_b_0.mp h)) (fun h => kf (by cases q with
    | false => exact absurd rfl h
    | true => rfl))
theorem x_ifb_ne (tgt : Nat) {off : Int} {q : Bool} (hd : x_dec y pc (.ifCond .ne off) 3 nx) (ht : (pc : Int) + off = (tgt : Int)) (kt : q = true → x_G l E y v μ tgt lv st) (kf : q = false → x_G l E y v μ nx lv st) : x_G l E y v μ pc lv (.int (x_b q) :: st) :=
  x_if_ne tgt hd ht (fun h => kt (by cases q with
    | false => exact absurd rfl h
    | true => rfl)) (fun h => kf (x_b_0.mp h))
theorem x_ldc {idx : Nat} {a : Int32} (hc : Cond.constant y.1.cls idx a ∈ x_tbl) (hd : x_dec y pc (.ldc idx) 2 nx) (k : x_G l E y v μ nx lv (.int a :: st)) : x_G l E y v μ pc lv st := by
  intro p e s m args below meth c H ls locs F hP hl hS
  obtain ⟨hd, rfl⟩ := hd
  exact lv_ldc F.1 F.2.1 F.2.2.2.2.2.1 (F.2.2.2.2.2.2.1 _ hc) hd (k p e s m args below meth c H ls locs F hP hl hS)
theorem x_ldcw {idx : Nat} {a : Int32} (hc : Cond.constant y.1.cls idx a ∈ x_tbl) (hd : x_dec y pc (.ldc_w idx) 3 nx) (k : x_G l E y v μ nx lv (.int a :: st)) : x_G l E y v μ pc lv st := by
  intro p e s m args below meth c H ls locs F hP hl hS
  obtain ⟨hd, rfl⟩ := hd
  exact lv_ldcw F.1 F.2.1 F.2.2.2.2.2.1 (F.2.2.2.2.2.2.1 _ hc) hd (k p e s m args below meth c H ls locs F hP hl hS)
theorem x_ldc2 {idx : Nat} {a : Int64} (hc : Cond.constantLong y.1.cls idx a ∈ x_tbl) (hd : x_dec y pc (.ldc2_w idx) 3 nx) (k : x_G l E y v μ nx lv (.long a :: st)) : x_G l E y v μ pc lv st := by
  intro p e s m args below meth c H ls locs F hP hl hS
  obtain ⟨hd, rfl⟩ := hd
  exact lv_ldc2 F.1 F.2.1 F.2.2.2.2.2.1 (F.2.2.2.2.2.2.1 _ hc) hd (k p e s m args below meth c H ls locs F hP hl hS)
theorem x_tswIn (tgt : Nat) {dflt lo hi : Int} {offs : Array Int} {len : Nat} {a : Int32} {off : Int} (hd : x_dec y pc (.tableswitch dflt lo hi offs) len nx) (h1 : ¬ a.toInt < lo) (h2 : ¬ hi < a.toInt) (ho : offs[(a.toInt - lo).toNat]? = some off) (ht : (pc : Int) + off = (tgt : Int)) (k : x_G l E y v μ tgt lv st) : x_G l E y v μ pc lv (.int a :: st) := by
  intro p e s m args below meth c H ls locs F hP hl hS
  obtain ⟨hd, rfl⟩ := hd
  exact lv_tableIn F.1 F.2.1 hd h1 h2 ho ht (k p e s m args below meth c H ls locs F hP hl hS)
theorem x_tswOut (tgt : Nat) {dflt lo hi : Int} {offs : Array Int} {len : Nat} {a : Int32} (hd : x_dec y pc (.tableswitch dflt lo hi offs) len nx) (h : a.toInt < lo ∨ hi < a.toInt) (ht : (pc : Int) + dflt = (tgt : Int)) (k : x_G l E y v μ tgt lv st) : x_G l E y v μ pc lv (.int a :: st) := by
  intro p e s m args below meth c H ls locs F hP hl hS
  obtain ⟨hd, rfl⟩ := hd
  exact lv_tableOut F.1 F.2.1 hd h ht (k p e s m args below meth c H ls locs F hP hl hS)
theorem x_lsw (tgt : Nat) {dflt : Int} {ps : Array (Int × Int)} {len : Nat} {a : Int32} {off : Int} (hd : x_dec y pc (.lookupswitch dflt ps) len nx) (hp : (ps.toList.zip (ps.toList.drop 1)).all (fun (a, next) => a.1 < next.1) = true) (ho : Op.lookupswitch.offset ps.toList dflt a.toInt = off) (ht : (pc : Int) + off = (tgt : Int)) (k : x_G l E y v μ tgt lv st) : x_G l E y v μ pc lv (.int a :: st) := by
  intro p e s m args below meth c H ls locs F hP hl hS
  obtain ⟨hd, rfl⟩ := hd
  exact lv_lookup F.1 F.2.1 hd hp ho ht (k p e s m args below meth c H ls locs F hP hl hS)
end XR
/-! the heap -/
theorem x_val_int {E : x_E} {μ : x_Mem} {k j : Nat} (h : x_rf k j = none) : x_val E μ k j = .int (μ k j) := by simp [x_val, h]
theorem x_val_ref {E : x_E} {μ : x_Mem} {k j t : Nat} (h : x_rf k j = some t) : x_val E μ k j = .ref (E.1 + t) := by simp [x_val, h]
theorem x_k52 {k : Nat} (h : x_kd k < 9) : k < 52 := by
  rcases Nat.lt_or_ge k 52 with q | q
  · exact q
  · exfalso
    have : x_kd k = 9 := by
      unfold x_kd
      rw [List.getD_eq_getElem?_getD, List.getElem?_eq_none (by show 52 ≤ k; exact q)]
      rfl
    omega
theorem x_rf0 {k j : Nat} (h : x_kd k = 0) : x_rf k j = none := by simp [x_rf, h]
theorem x_rf1 {k j : Nat} (h : x_kd k = 1) : x_rf k j = none := by simp [x_rf, h]
/-- one place written -/
def upd2 (μ : x_Mem) (k j : Nat) (x : Int32) : x_Mem := fun a => if a = k then upd (μ k) j x else μ a
theorem upd2_at (μ : x_Mem) (k j : Nat) (x : Int32) : upd2 μ k j x k = upd (μ k) j x := by simp [upd2]
theorem upd2_ne (μ : x_Mem) {k a : Nat} (j : Nat) (x : Int32) (h : a ≠ k) : upd2 μ k j x a = μ a := by simp [upd2, h]
theorem x_at_congr {E : x_E} {μ μ' : x_Mem} {k : Nat} {H H1 : Heap} (h : x_at E μ k H) (hm : ∀ j, x_val E μ k j = x_val E μ' k j) (hq : H1[E.1 + k]? = H[E.1 + k]?) : x_at E μ' k H1 := by
  have e : x_val E μ k = x_val E μ' k := funext hm
  unfold x_at at h ⊢
  by_cases h3 : 3 ≤ x_kd k
  · rw [if_pos h3] at h ⊢
    obtain ⟨r, h1, h2⟩ := h
    rw [e] at h2
    exact ⟨r, h1, h2.kept hq⟩
  · rw [if_neg h3] at h ⊢
    rw [hq, h, e]
theorem x_P_set {E : x_E} {μ μ' : x_Mem} {H H1 : Heap} (hP : x_P E μ H) (k : Nat) (oq : ∀ q : Nat, q ≠ E.1 + k → H1[q]? = H[q]?) (hat : x_at E μ' k H1) (hm : ∀ a, a ≠ k → μ' a = μ a) : x_P E μ' H1 := by
  intro a ha
  by_cases h : a = k
  · subst h; exact hat
  · refine x_at_congr (hP a ha) (fun j => ?_) (oq _ (by omega))
    simp [x_val, hm a h]
theorem x_arr {E : x_E} {μ : x_Mem} {H : Heap} (hP : x_P E μ H) {k : Nat} (h : x_kd k < 3) : H[E.1 + k]? = some (arrV (E.2.2.1 (x_kd k)) (x_ln k) (x_val E μ k)) := by
  have := hP k (x_k52 (by omega))
  unfold x_at at this
  rwa [if_neg (by omega)] at this
theorem x_obj {E : x_E} {μ : x_Mem} {H : Heap} (hP : x_P E μ H) {k ci : Nat} (h : x_kd k = 3 + ci) (hc : ci < 5) : ∃ r : vw_C, x_cl[ci]? = some r ∧ t_OB (E.1 + k) (E.2.1.1 ci) r.2.2 (E.2.1.2 ci) H (x_val E μ k) := by
  have := hP k (x_k52 (by omega))
  unfold x_at at this
  rw [if_pos (by omega)] at this
  have e : x_kd k - 3 = ci := by omega
  rwa [e] at this
theorem x_S_put {E : x_E} {H0 H H1 : Heap} {locs : List Loc} {k i : Nat} (h : va_S (x_A E) H0 H locs) (z : H1.size = H.size) (oq : ∀ q : Nat, q ≠ E.1 + k → H1[q]? = H[q]?) : va_S (x_A E) H0 H1 (locs ++ [⟨E.1 + k, i⟩]) := h.put z oq (by unfold x_A; exact Nat.le_add_right _ _)
/-- a class of ours: its table, and all that the words say of its fields -/
def x_okc (ci : Nat) (r : vw_C) : Prop := x_cl[ci]? = some r ∧ (∀ w ∈ u_ws r.1 r.2.1 r.2.2, w ∈ x_tbl) ∧ ∃ ty : Nat → FieldType, (∀ k, k < r.2.2 → parseFieldDescriptor (r.2.1 k).2.2.1 = some (ty k)) ∧ ∀ a, a < r.2.2 → ∀ b, b < r.2.2 → a ≠ b → (r.2.1 a).2.1 ≠ (r.2.1 b).2.1
theorem x_u0 : ∀ w ∈ u_ws RX0 TX0 16, w ∈ x_tbl := by decide +kernel
theorem x_u1 : ∀ w ∈ u_ws RX1 TX1 3, w ∈ x_tbl := by decide +kernel
theorem x_u2 : ∀ w ∈ u_ws RX2 TX2 6, w ∈ x_tbl := by decide +kernel
theorem x_u3 : ∀ w ∈ u_ws RX3 TX3 8, w ∈ x_tbl := by decide +kernel
theorem x_u4 : ∀ w ∈ u_ws RX4 TX4 17, w ∈ x_tbl := by decide +kernel
theorem x_c0 : x_okc 0 (RX0, TX0, 16) := ⟨rfl, x_u0, tyX0, tyX0_ok, nmX0⟩
theorem x_c1 : x_okc 1 (RX1, TX1, 3) := ⟨rfl, x_u1, tyX1, tyX1_ok, nmX1⟩
theorem x_c2 : x_okc 2 (RX2, TX2, 6) := ⟨rfl, x_u2, tyX2, tyX2_ok, nmX2⟩
theorem x_c3 : x_okc 3 (RX3, TX3, 8) := ⟨rfl, x_u3, tyX3, tyX3_ok, nmX3⟩
theorem x_c4 : x_okc 4 (RX4, TX4, 17) := ⟨rfl, x_u4, tyX4, tyX4_ok, nmX4⟩
section XH
variable {l : Launch} {E : x_E} {y : x_M} {v : x_V} {μ : x_Mem} {pc nx len : Nat} {lv lv' : List (Nat × Value)} {st : List Value}
/-- getfield -/
theorem x_get {ci k j idx : Nat} {r : vw_C} {z : Value} (hc : x_okc ci r) (hk : x_kd k = 3 + ci) (hj : j < r.2.2) (hl : Cond.fieldLink y.1.cls idx (r.2.1 j).1 (r.2.1 j).2.1 (r.2.1 j).2.2.1 ∈ x_tbl) (hv : x_val E μ k j = z) (hd : x_dec y pc (.getfield idx) 3 nx) (kk : x_G l E y v μ nx lv (z :: st)) : x_G l E y v μ pc lv (.ref (E.1 + k) :: st) := by
  intro p e s m args below meth c H ls locs F hP hl' hS
  obtain ⟨hd, rfl⟩ := hd
  obtain ⟨hcl, hin, ty, hty, hnm⟩ := hc
  have hci : ci < 5 := (List.getElem?_eq_some_iff.mp hcl).1
  obtain ⟨r', h1, cell, q1, q2, q3, q4⟩ := x_obj hP hk hci
  cases hcl.symm.trans h1
  obtain ⟨hx, hb, hr, hlk, hml, hown, hts, hK, hZ, hcs⟩ := F
  have hts' : ∀ w ∈ x_tbl, w.before args s = true := hts
  obtain ⟨hSl, hfc, kC, hkC, hkind⟩ := hK.1 ci _ hcl
  obtain ⟨cf, kf, fi, f, hi, hsl⟩ := hSl j hj
  refine W.getf hx hb hown (hts _ hl) hi (u_facts hfc hkC (u_lays hts hin hj) hi).1 q1 (by rw [q3]; exact fun h => by cases h) (v := z) ?_ rfl rfl hd (kk p e s m args below meth c H ls locs ⟨hx, hb, hr, hlk, hml, hown, hts, hK, hZ, hcs⟩ hP hl' hS)
  rw [hsl, q4 j hj, hv]
theorem x_geti {ci k j idx : Nat} {r : vw_C} (hc : x_okc ci r) (hk : x_kd k = 3 + ci) (hj : j < r.2.2) (hl : Cond.fieldLink y.1.cls idx (r.2.1 j).1 (r.2.1 j).2.1 (r.2.1 j).2.2.1 ∈ x_tbl) (hn : x_rf k j = none) (hd : x_dec y pc (.getfield idx) 3 nx) (kk : x_G l E y v μ nx lv (.int (μ k j) :: st)) : x_G l E y v μ pc lv (.ref (E.1 + k) :: st) :=
  x_get hc hk hj hl (x_val_int hn) hd kk
theorem x_getr {ci k j idx : Nat} {r : vw_C} (t : Nat) (hc : x_okc ci r) (hk : x_kd k = 3 + ci) (hj : j < r.2.2) (hl : Cond.fieldLink y.1.cls idx (r.2.1 j).1 (r.2.1 j).2.1 (r.2.1 j).2.2.1 ∈ x_tbl) (hn : x_rf k j = some t) (hd : x_dec y pc (.getfield idx) 3 nx) (kk : x_G l E y v μ nx lv (.ref (E.1 + t) :: st)) : x_G l E y v μ pc lv (.ref (E.1 + k) :: st) :=
  x_get hc hk hj hl (x_val_ref hn) hd kk
/-- putfield of an int or a boolean -/
theorem x_put {ci k j idx : Nat} {r : vw_C} {x : Int32} {ty0 : FieldType} (hc : x_okc ci r) (hk : x_kd k = 3 + ci) (hj : j < r.2.2) (hl : Cond.fieldLink y.1.cls idx (r.2.1 j).1 (r.2.1 j).2.1 (r.2.1 j).2.2.1 ∈ x_tbl) (hn : x_rf k j = none) (hfin : (r.2.1 j).2.2.2 = false) (hdt : parseFieldDescriptor (r.2.1 j).2.2.1 = some ty0) (hna : narrow ty0 (.int x) = .int x) (hfit : fits ty0 (.int x) = true) (hd : x_dec y pc (.putfield idx) 3 nx) (kk : x_G l E y v (upd2 μ k j x) nx lv st) : x_G l E y v μ pc lv (.int x :: .ref (E.1 + k) :: st) := by
  intro p e s m args below meth c H ls locs F hP hl' hS
  obtain ⟨hd, rfl⟩ := hd
  obtain ⟨hcl, hin, ty, hty, hnm⟩ := hc
  have hci : ci < 5 := (List.getElem?_eq_some_iff.mp hcl).1
  obtain ⟨r', h1, cell, q1, q2, q3, q4⟩ := x_obj hP hk hci
  cases hcl.symm.trans h1
  obtain ⟨hx, hb, hr, hlk, hml, hown, hts, hK, hZ, hcs⟩ := F
  have hap := va_apart (own := y.1.cls) (C := r.1) (T := r.2.1) (N := r.2.2) hts hin ty hty hnm hK hcl
  obtain ⟨hSl, hfc, kC, hkC, hkind⟩ := hK.1 ci _ hcl
  obtain ⟨cf, kf, fi, f, hi, hsl⟩ := hSl j hj
  have hlay := hts _ (hin _ (u_in_lay hj))
  unfold u_lay at hlay
  rw [if_neg (by rw [hfin]; decide)] at hlay
  have hst := (u_facts hfc hkC (u_lays hts hin hj) hi).1
  have h6 := u_store hfc hkC hkind hlay hi hdt hna hfit
  refine W.putK hx hb (f := f) ⟨hown, hts _ hl, ⟨_, _, _, hi⟩, hst⟩ (by rw [q2]; exact h6) q1 q3 (by rw [hsl]; exact k2_hasslot (q4 j hj)) rfl rfl hd fun H' e1 e2 e3 => ?_
  rw [hsl] at e1 ⊢
  refine kk p e s m args below meth c H' ls _ ⟨hx, hb, hr, hlk, hml, hown, hts, hK, hZ, hcs⟩ (x_P_set hP k e3 ?_ (fun a ha => upd2_ne μ j x ha)) hl' (x_S_put hS e2 e3)
  unfold x_at
  rw [if_pos (by omega)]
  have e : x_kd k - 3 = ci := by omega
  rw [e]
  refine ⟨r, hcl, t_OB.to (V := updV (x_val E μ k) j (.int x)) ⟨_, e1, q2, q3, t_set q4 hap hj (.int x)⟩ (fun i _ => ?_)⟩
  unfold updV x_val
  rw [upd2_at]
  by_cases hij : i = j
  · subst hij
    simp [hn, upd]
  · cases x_rf k i <;> simp [upd, hij]
theorem x_puti {ci k j idx : Nat} {r : vw_C} {x : Int32} (hc : x_okc ci r) (hk : x_kd k = 3 + ci) (hj : j < r.2.2) (hl : Cond.fieldLink y.1.cls idx (r.2.1 j).1 (r.2.1 j).2.1 (r.2.1 j).2.2.1 ∈ x_tbl) (hn : x_rf k j = none) (hfin : (r.2.1 j).2.2.2 = false) (hdt : parseFieldDescriptor (r.2.1 j).2.2.1 = some .int) (hd : x_dec y pc (.putfield idx) 3 nx) (kk : x_G l E y v (upd2 μ k j x) nx lv st) : x_G l E y v μ pc lv (.int x :: .ref (E.1 + k) :: st) :=
  x_put hc hk hj hl hn hfin hdt rfl rfl hd kk
theorem x_putz {ci k j idx : Nat} {r : vw_C} {q : Bool} (hc : x_okc ci r) (hk : x_kd k = 3 + ci) (hj : j < r.2.2) (hl : Cond.fieldLink y.1.cls idx (r.2.1 j).1 (r.2.1 j).2.1 (r.2.1 j).2.2.1 ∈ x_tbl) (hn : x_rf k j = none) (hfin : (r.2.1 j).2.2.2 = false) (hdt : parseFieldDescriptor (r.2.1 j).2.2.1 = some .boolean) (hd : x_dec y pc (.putfield idx) 3 nx) (kk : x_G l E y v (upd2 μ k j (x_b q)) nx lv st) : x_G l E y v μ pc lv (.int (x_b q) :: .ref (E.1 + k) :: st) :=
  x_put hc hk hj hl hn hfin hdt (x_b_nar q) (x_b_fit q) hd kk
theorem x_iald {k : Nat} (n : Nat) {i : Int32} (hk : x_kd k = 0) (hn : x_ln k = n) (hin : vp_in i n) (hd : x_dec y pc .iaload 1 nx) (kk : x_G l E y v μ nx lv (.int (μ k i.toNatClampNeg) :: st)) : x_G l E y v μ pc lv (.int i :: .ref (E.1 + k) :: st) := by
  intro p e s m args below meth c H ls locs F hP hl' hS
  obtain ⟨hd, rfl⟩ := hd
  have hlt : i.toNatClampNeg < n := Nat.not_le.mp fun q => hin (Or.inr q)
  have ha := x_arr hP (k := k) (by omega)
  rw [hk, hn] at ha
  have hK : x_K E s := F.2.2.2.2.2.2.2.1
  exact W.iald (v := .int (μ k i.toNatClampNeg)) F.1 F.2.1 ha ((hK.2 0 _ rfl).1 n _) (fun q => by cases q) (by rw [arrV_size]; exact hin) (by rw [arrV_read _ _ hlt, x_val_int (x_rf0 hk)]) rfl rfl hd (kk p e s m args below meth c H ls locs F hP hl' hS)
theorem x_bald {k : Nat} (n : Nat) {i : Int32} (hk : x_kd k = 1) (hn : x_ln k = n) (hin : vp_in i n) (hd : x_dec y pc .baload 1 nx) (kk : x_G l E y v μ nx lv (.int (μ k i.toNatClampNeg) :: st)) : x_G l E y v μ pc lv (.int i :: .ref (E.1 + k) :: st) := by
  intro p e s m args below meth c H ls locs F hP hl' hS
  obtain ⟨hd, rfl⟩ := hd
  have hlt : i.toNatClampNeg < n := Nat.not_le.mp fun q => hin (Or.inr q)
  have ha := x_arr hP (k := k) (by omega)
  rw [hk, hn] at ha
  have hK : x_K E s := F.2.2.2.2.2.2.2.1
  exact W.bald (v := .int (μ k i.toNatClampNeg)) F.1 F.2.1 ha ((hK.2 1 _ rfl).1 n _) (fun q => by cases q) (by rw [arrV_size]; exact hin) (by rw [arrV_read _ _ hlt, x_val_int (x_rf1 hk)]) rfl rfl hd (kk p e s m args below meth c H ls locs F hP hl' hS)
/-- the array of sheets -/
theorem x_aald {i : Int32} (hin : vp_in i 4) (hd : x_dec y pc .aaload 1 nx) (kk : x_G l E y v μ nx lv (.ref (E.1 + (33 + 2 * i.toNatClampNeg)) :: st)) : x_G l E y v μ pc lv (.int i :: .ref (E.1 + 30) :: st) := by
  intro p e s m args below meth c H ls locs F hP hl' hS
  obtain ⟨hd, rfl⟩ := hd
  have hlt : i.toNatClampNeg < 4 := Nat.not_le.mp fun q => hin (Or.inr q)
  have ha : H[E.1 + 30]? = some (arrV (E.2.2.1 2) 4 (x_val E μ 30)) := x_arr hP (k := 30) (by decide)
  have hK : x_K E s := F.2.2.2.2.2.2.2.1
  have hr : x_rf 30 i.toNatClampNeg = some (33 + 2 * i.toNatClampNeg) := rfl
  exact W.aald (v := .ref (E.1 + (33 + 2 * i.toNatClampNeg))) (ty := .object RX1) F.1 F.2.1 ha ((hK.2 2 _ rfl).1 4 _) rfl (fun q => by cases q) (by rw [arrV_size]; exact hin) (by rw [arrV_read _ _ hlt, x_val_ref hr]) rfl rfl hd (kk p e s m args below meth c H ls locs F hP hl' hS)
theorem x_st_val {E : x_E} {μ : x_Mem} {k j : Nat} {x : Int32} (hr : ∀ i, x_rf k i = none) : updV (x_val E μ k) j (.int x) = x_val E (upd2 μ k j x) k := by
  funext i
  rw [x_val_int (hr i), upd2_at]
  by_cases h : i = j
  · subst h; simp [updV, upd]
  · simp [updV, upd, h, x_val_int (hr i)]
theorem x_iast {k : Nat} (n : Nat) {i x : Int32} (hk : x_kd k = 0) (hn : x_ln k = n) (hin : vp_in i n) (hd : x_dec y pc .iastore 1 nx) (kk : x_G l E y v (upd2 μ k i.toNatClampNeg x) nx lv st) : x_G l E y v μ pc lv (.int x :: .int i :: .ref (E.1 + k) :: st) := by
  intro p e s m args below meth c H ls locs F hP hl' hS
  obtain ⟨hd, rfl⟩ := hd
  have ha := x_arr hP (k := k) (by omega)
  have hK : x_K E s := F.2.2.2.2.2.2.2.1
  have ha' := ha
  rw [hk, hn] at ha'
  refine W.iast F.1 F.2.1 ha' ((hK.2 0 _ rfl).1 n _) (fun q => by cases q) (by rw [arrV_size]; exact hin) rfl rfl hd fun H1 e z oq => ?_
  refine kk p _ s m args below meth c H1 ls _ F (x_P_set hP k oq ?_ (fun a ha => upd2_ne μ _ x ha)) hl' (x_S_put hS z oq)
  unfold x_at
  rw [if_neg (by omega), e, arrV_store, hk, hn, x_st_val (fun i => x_rf0 hk)]
theorem x_bast {k : Nat} (n : Nat) {i x : Int32} (hk : x_kd k = 1) (hn : x_ln k = n) (hin : vp_in i n) (hd : x_dec y pc .bastore 1 nx) (kk : x_G l E y v (upd2 μ k i.toNatClampNeg x.toInt8.toInt32) nx lv st) : x_G l E y v μ pc lv (.int x :: .int i :: .ref (E.1 + k) :: st) := by
  intro p e s m args below meth c H ls locs F hP hl' hS
  obtain ⟨hd, rfl⟩ := hd
  have ha := x_arr hP (k := k) (by omega)
  have hK : x_K E s := F.2.2.2.2.2.2.2.1
  have ha' := ha
  rw [hk, hn] at ha'
  refine W.bast F.1 F.2.1 ha' ((hK.2 1 _ rfl).1 n _) (fun q => by cases q) (by rw [arrV_size]; exact hin) rfl rfl hd fun H1 e z oq => ?_
  refine kk p _ s m args below meth c H1 ls _ F (x_P_set hP k oq ?_ (fun a ha => upd2_ne μ _ _ ha)) hl' (x_S_put hS z oq)
  unfold x_at
  rw [if_neg (by omega), e, narrow_byte, arrV_store, hk, hn, x_st_val (fun i => x_rf1 hk)]
/-! returns -/
abbrev x_I (P : Int32 → x_Mem → Prop) : Option Value → x_Mem → Prop := fun r μ => ∃ z : Int32, r = some (.int z) ∧ P z μ
abbrev x_L (P : Int64 → x_Mem → Prop) : Option Value → x_Mem → Prop := fun r μ => ∃ z : Int64, r = some (.long z) ∧ P z μ
abbrev x_J (P : x_Mem → Prop) : Option Value → x_Mem → Prop := fun r μ => r = none ∧ P μ
theorem x_iret {P : Int32 → x_Mem → Prop} {z : Int32} (hr : y.2.2.2.1 = some .int) (hd : x_dec y pc .ireturn 1 nx) (h : P z μ) : x_G l E y (x_mv E y (x_I P)) μ pc lv [.int z] := by
  intro p e s m args below meth c H ls locs F hP hl' hS
  exact W.iret F.1 F.2.1 (F.2.2.1.trans hr) (fun t ht hW => ⟨_, μ, rfl, ⟨z, rfl, h⟩, by rw [ht]; exact hP, hS.F ht⟩) hS.2.2 hd.1 F.2.2.2.1
theorem x_zret {P : Int32 → x_Mem → Prop} {q : Bool} (hr : y.2.2.2.1 = some .boolean) (hd : x_dec y pc .ireturn 1 nx) (h : P (x_b q) μ) : x_G l E y (x_mv E y (x_I P)) μ pc lv [.int (x_b q)] := by
  intro p e s m args below meth c H ls locs F hP hl' hS
  exact W.zret F.1 F.2.1 (F.2.2.1.trans hr) (x_b_nar q) (fun t ht hW => ⟨_, μ, rfl, ⟨_, rfl, h⟩, by rw [ht]; exact hP, hS.F ht⟩) hS.2.2 hd.1 F.2.2.2.1
theorem x_zret0 {P : Int32 → x_Mem → Prop} (hr : y.2.2.2.1 = some .boolean) (hd : x_dec y pc .ireturn 1 nx) (h : P (x_b false) μ) : x_G l E y (x_mv E y (x_I P)) μ pc lv [.int 0] := x_zret (q := false) hr hd h
theorem x_zret1 {P : Int32 → x_Mem → Prop} (hr : y.2.2.2.1 = some .boolean) (hd : x_dec y pc .ireturn 1 nx) (h : P (x_b true) μ) : x_G l E y (x_mv E y (x_I P)) μ pc lv [.int 1] := x_zret (q := true) hr hd h
theorem x_lret {P : Int64 → x_Mem → Prop} {z : Int64} (hr : y.2.2.2.1 = some .long) (hd : x_dec y pc .lreturn 1 nx) (h : P z μ) : x_G l E y (x_mv E y (x_L P)) μ pc lv [.long z] := by
  intro p e s m args below meth c H ls locs F hP hl' hS
  exact W.lret F.1 F.2.1 (F.2.2.1.trans hr) (fun t ht hW => ⟨_, μ, rfl, ⟨z, rfl, h⟩, by rw [ht]; exact hP, hS.F ht⟩) hS.2.2 hd.1 F.2.2.2.1
theorem x_vret {P : x_Mem → Prop} (hr : y.2.2.2.1 = none) (hd : x_dec y pc .return_ 1 nx) (h : P μ) : x_G l E y (x_mv E y (x_J P)) μ pc lv [] := by
  intro p e s m args below meth c H ls locs F hP hl' hS
  exact W.vret F.1 F.2.1 (F.2.2.1.trans hr) (fun t ht hW => ⟨_, μ, rfl, ⟨rfl, h⟩, by rw [ht]; exact hP, hS.F ht⟩) hS.2.2 hd.1 F.2.2.2.1
theorem x_aret {Po : Option Value → x_Mem → Prop} {z : Value} {n : String} (hr : y.2.2.2.1 = some (.object n)) (hz : z = .null ∨ ∃ a, z = .ref a) (hd : x_dec y pc .areturn 1 nx) (h : Po (some z) μ) : x_G l E y (x_mv E y Po) μ pc lv [z] := by
  intro p e s m args below meth c H ls locs F hP hl' hS
  exact W.aret F.1 F.2.1 (F.2.2.1.trans hr) (Or.inl ⟨n, rfl⟩) hz (fun t ht hW => ⟨_, μ, rfl, h, by rw [ht]; exact hP, hS.F ht⟩) hS.2.2 hd.1 F.2.2.2.1
/-! calls -/
/-- all that a call of y2 asks of the tables but its link -/
def x_VM (y2 : x_M) (n : Nat) : Prop := Cond.code y2.1 y2.2.1 y2.2.2.1 y2.2.2.2.1 ∈ x_tbl ∧ Cond.initialized y2.1.cls ∈ x_tbl ∧ (y2.1.cls ≠ "java/lang/invoke/MethodHandle" ∧ y2.1.cls ≠ "java/lang/invoke/VarHandle" ∧ (parseMethodDescriptor y2.1.desc).map (fun d => d.parameters.length) = some n)
def x_VI (y2 : x_M) : Prop := Cond.instanceMethod y2.1 ∈ x_tbl ∧ Cond.selects y2.1.cls y2.1 y2.1 ∈ x_tbl
/-- a cell holds an object of that class -/
def x_ob (k : Nat) (C : String) : Prop := ∃ (ci : Nat) (r : vw_C), x_kd k = 3 + ci ∧ x_cl[ci]? = some r ∧ r.1 = C
theorem x_goodIn {y2 : x_M} {n : Nat} (h : x_VM y2 n) : GoodIn x_tbl (x_ws y2) := by
  intro w hw
  rcases List.mem_cons.mp hw with rfl | hw
  · exact ⟨h.1, good_of_word (x_good _ h.1)⟩
  · exact ⟨hw, good_of_word (x_good _ hw)⟩
theorem x_fb {as : List Value} {μ : x_Mem} : FrameBlind (va_Pc as (x_Pre E μ)) := by
  rintro a U g mk ⟨h0, hP, hK, hZ⟩
  exact ⟨h0, hP, va_K.moved (u := U) (U := U.calling g mk a) (Vm.Alike.refl U.vm) hK, x_Z.same (s := U) (U := U.calling g mk a) rfl hZ⟩
/-- behind any call -/
theorem x_back {R : Room} {cs ss : Nat} {p : Program} {e : Env} {s : State} {m : MethodId} {args : Array Value} {below : List Frame} {meth : Method} {c : Code} {H : Heap} {ls : Array Slot} {locs : List Loc} {Q : State → Prop} {Po2 : Option Value → x_Mem → Prop} {as' : Array Value} {rest : List Value}
    (hr : va_Run p l e R s m args below meth c H locs cs ss 0 0 (F0 m pc ls st) rest (x_Q E Po2 as') (x_A E)) (hS : va_S (x_A E) s.heap H locs)
    (kk : ∀ (r : Option Value) (μ' : x_Mem) (H1 : Heap) (locs1 : List Loc), Po2 r μ' → x_P E μ' H1 → va_S (x_A E) s.heap H1 locs1 → W p l e R s m args below meth c H1 locs1 cs ss Q (F0 m (pc + 3) ls (r.toList ++ rest))) : W p l e R s m args below meth c H locs cs ss Q (F0 m pc ls st) := by
  intro T hT X
  obtain ⟨r, st₀, t, T', L, h0, X', hL, e1, e2, ⟨r', μ', hv, hp, hq, hf⟩, stp⟩ := hr T hT X
  cases hv
  subst h0
  have hS' : va_S (x_A E) s.heap t.heap (locs ++ L) := by
    refine ⟨Nat.le_trans hS.1 hf.1, fun q h1 h2 => ?_, fun z hz => ?_⟩
    · rw [hf.2 q (Nat.lt_of_lt_of_le h1 hS.1) h2, hS.2.1 q h1 h2]
    · rcases List.mem_append.mp hz with h | h
      · exact hS.2.2 z h
      · exact hL z h
  obtain ⟨t2, a1, b1⟩ := kk r μ' t.heap (locs ++ L) hp hq hS' T' e1 X'
  exact ⟨t2, stp t2 a1, b1⟩
theorem x_cv {y2 : x_M} {k n idx : Nat} {as stk : List Value} {Po2 : Option Value → x_Mem → Prop} (hM : x_Met l y2 E (.ref (E.1 + k) :: as) μ Po2) (hw : x_VM y2 n) (hi : x_VI y2) (hlk : Cond.methodLink y.1.cls idx y2.1 ∈ x_tbl) (hk : x_ob k y2.1.cls) (hn : as.length = n) (hR : y2.2.2.2.2.1 + 1 ≤ v.1.frames ∧ 8 + (y2.2.2.1 + 11) + y2.2.2.2.2.2 ≤ v.1.locals) (hstk : stk = as.reverse ++ .ref (E.1 + k) :: st) (hst : (st.map fun w => w.category).sum ≤ 8) (hd : x_dec y pc (.invokevirtual idx) 3 nx)
    (kk : ∀ (r : Option Value) (μ' : x_Mem), Po2 r μ' → x_G l E y v μ' nx lv (r.toList ++ st)) : x_G l E y v μ pc lv stk := by
  intro p e s m args below meth c H ls locs F hP hl' hS
  obtain ⟨hd, rfl⟩ := hd
  subst hstk
  obtain ⟨hx, hb, hr, hlo, hml, hown, hts, hK, hZ, hc1, hc2, hcx⟩ := id F
  obtain ⟨ci, rc, hkd, hcl, hcn⟩ := hk
  have hci : ci < 5 := (List.getElem?_eq_some_iff.mp hcl).1
  obtain ⟨r', h1, cell, q1, q2, q3, q4⟩ := x_obj hP hkd hci
  cases hcl.symm.trans h1
  have hfc : s.vm.findClass y2.1.cls = some cell.cls := by
    have := (hK.1 ci _ hcl).2.1
    rw [← hcn, q2]; exact this
  have run := va_runV (As := as) (rest := st) (g := F0 m pc ls (as.reverse ++ .ref (E.1 + k) :: st)) (own := y.1.cls) (Ts := x_tbl) (C := y2.1.cls) (b := E.1 + k) (cells := v.2.1) (slots := v.2.2.1) (R := v.1) (locs := locs) (e := e) (below := below) (meth := meth) (H := H) (index := idx)
    ⟨hx, hb, hml, hown, hts⟩ hM ⟨callB_of n hts (x_goodIn hw) rfl rfl rfl (hts _ hw.2.1) (hts _ hlk) hw.2.2 hR, hts _ hi.1, hts _ hi.2⟩
    ⟨x_fb, ⟨cell, q1, by rw [q3]; rfl, hfc⟩, fun U hU hW => ⟨rfl, by rw [hU]; exact hP, va_K.moved hW.alike hK, by rw [hU]; exact (hZ.warm hW).kept hS.2.1⟩⟩ rfl hn hl'.1 rfl (lv_room hst) hd ⟨hc1, hc2⟩
  exact x_back run hS (fun r μ' H1 locs1 h1 h2 h3 => kk r μ' h1 p e s m args below meth c H1 ls locs1 F h2 hl' h3)
theorem x_cs {y2 : x_M} {n idx : Nat} {as stk : List Value} {Po2 : Option Value → x_Mem → Prop} (hM : x_Met l y2 E as μ Po2) (hw : x_VM y2 n) (hi : Cond.static y2.1 ∈ x_tbl) (hlk : Cond.methodLink y.1.cls idx y2.1 ∈ x_tbl) (hn : as.length = n) (hR : y2.2.2.2.2.1 + 1 ≤ v.1.frames ∧ 8 + (y2.2.2.1 + 11) + y2.2.2.2.2.2 ≤ v.1.locals) (hstk : stk = as.reverse ++ st) (hst : (st.map fun w => w.category).sum ≤ 8) (hd : x_dec y pc (.invokestatic idx) 3 nx)
    (kk : ∀ (r : Option Value) (μ' : x_Mem), Po2 r μ' → x_G l E y v μ' nx lv (r.toList ++ st)) : x_G l E y v μ pc lv stk := by
  intro p e s m args below meth c H ls locs F hP hl' hS
  obtain ⟨hd, rfl⟩ := hd
  subst hstk
  obtain ⟨hx, hb, hr, hlo, hml, hown, hts, hK, hZ, hc1, hc2, hcx⟩ := id F
  have run := va_runS (As := as) (rest := st) (g := F0 m pc ls (as.reverse ++ st)) (own := y.1.cls) (Ts := x_tbl) (cells := v.2.1) (slots := v.2.2.1) (R := v.1) (locs := locs) (e := e) (below := below) (meth := meth) (H := H) (index := idx)
    ⟨hx, hb, hml, hown, hts⟩ hM ⟨callB_of n hts (x_goodIn hw) rfl rfl rfl (hts _ hw.2.1) (hts _ hlk) hw.2.2 hR, hts _ hi⟩
    ⟨x_fb, fun U hU hW => ⟨rfl, by rw [hU]; exact hP, va_K.moved hW.alike hK, by rw [hU]; exact (hZ.warm hW).kept hS.2.1⟩⟩ rfl hn hl'.1 rfl (lv_room hst) hd ⟨hc1, hc2⟩
  exact x_back run hS (fun r μ' H1 locs1 h1 h2 h3 => kk r μ' h1 p e s m args below meth c H1 ls locs1 F h2 hl' h3)
theorem x_cvi {y2 : x_M} {k n idx : Nat} {as stk : List Value} {P2 : Int32 → x_Mem → Prop} (hM : x_Met l y2 E (.ref (E.1 + k) :: as) μ (x_I P2)) (hw : x_VM y2 n) (hi : x_VI y2) (hlk : Cond.methodLink y.1.cls idx y2.1 ∈ x_tbl) (hk : x_ob k y2.1.cls) (hn : as.length = n) (hR : y2.2.2.2.2.1 + 1 ≤ v.1.frames ∧ 8 + (y2.2.2.1 + 11) + y2.2.2.2.2.2 ≤ v.1.locals) (hstk : stk = as.reverse ++ .ref (E.1 + k) :: st) (hst : (st.map fun w => w.category).sum ≤ 8) (hd : x_dec y pc (.invokevirtual idx) 3 nx)
    (kk : ∀ (z : Int32) (μ' : x_Mem), P2 z μ' → x_G l E y v μ' nx lv (.int z :: st)) : x_G l E y v μ pc lv stk :=
  x_cv hM hw hi hlk hk hn hR hstk hst hd (fun r μ' h => by obtain ⟨z, rfl, h⟩ := h; exact kk z μ' h)
theorem x_cvl {y2 : x_M} {k n idx : Nat} {as stk : List Value} {P2 : Int64 → x_Mem → Prop} (hM : x_Met l y2 E (.ref (E.1 + k) :: as) μ (x_L P2)) (hw : x_VM y2 n) (hi : x_VI y2) (hlk : Cond.methodLink y.1.cls idx y2.1 ∈ x_tbl) (hk : x_ob k y2.1.cls) (hn : as.length = n) (hR : y2.2.2.2.2.1 + 1 ≤ v.1.frames ∧ 8 + (y2.2.2.1 + 11) + y2.2.2.2.2.2 ≤ v.1.locals) (hstk : stk = as.reverse ++ .ref (E.1 + k) :: st) (hst : (st.map fun w => w.category).sum ≤ 8) (hd : x_dec y pc (.invokevirtual idx) 3 nx)
    (kk : ∀ (z : Int64) (μ' : x_Mem), P2 z μ' → x_G l E y v μ' nx lv (.long z :: st)) : x_G l E y v μ pc lv stk :=
  x_cv hM hw hi hlk hk hn hR hstk hst hd (fun r μ' h => by obtain ⟨z, rfl, h⟩ := h; exact kk z μ' h)
theorem x_cvv {y2 : x_M} {k n idx : Nat} {as stk : List Value} {P2 : x_Mem → Prop} (hM : x_Met l y2 E (.ref (E.1 + k) :: as) μ (x_J P2)) (hw : x_VM y2 n) (hi : x_VI y2) (hlk : Cond.methodLink y.1.cls idx y2.1 ∈ x_tbl) (hk : x_ob k y2.1.cls) (hn : as.length = n) (hR : y2.2.2.2.2.1 + 1 ≤ v.1.frames ∧ 8 + (y2.2.2.1 + 11) + y2.2.2.2.2.2 ≤ v.1.locals) (hstk : stk = as.reverse ++ .ref (E.1 + k) :: st) (hst : (st.map fun w => w.category).sum ≤ 8) (hd : x_dec y pc (.invokevirtual idx) 3 nx)
    (kk : ∀ (μ' : x_Mem), P2 μ' → x_G l E y v μ' nx lv st) : x_G l E y v μ pc lv stk :=
  x_cv hM hw hi hlk hk hn hR hstk hst hd (fun r μ' h => by obtain ⟨rfl, h⟩ := h; exact kk μ' h)
theorem x_csi {y2 : x_M} {n idx : Nat} {as stk : List Value} {P2 : Int32 → x_Mem → Prop} (hM : x_Met l y2 E as μ (x_I P2)) (hw : x_VM y2 n) (hi : Cond.static y2.1 ∈ x_tbl) (hlk : Cond.methodLink y.1.cls idx y2.1 ∈ x_tbl) (hn : as.length = n) (hR : y2.2.2.2.2.1 + 1 ≤ v.1.frames ∧ 8 + (y2.2.2.1 + 11) + y2.2.2.2.2.2 ≤ v.1.locals) (hstk : stk = as.reverse ++ st) (hst : (st.map fun w => w.category).sum ≤ 8) (hd : x_dec y pc (.invokestatic idx) 3 nx)
    (kk : ∀ (z : Int32) (μ' : x_Mem), P2 z μ' → x_G l E y v μ' nx lv (.int z :: st)) : x_G l E y v μ pc lv stk :=
  x_cs hM hw hi hlk hn hR hstk hst hd (fun r μ' h => by obtain ⟨z, rfl, h⟩ := h; exact kk z μ' h)
theorem x_csv {y2 : x_M} {n idx : Nat} {as stk : List Value} {P2 : x_Mem → Prop} (hM : x_Met l y2 E as μ (x_J P2)) (hw : x_VM y2 n) (hi : Cond.static y2.1 ∈ x_tbl) (hlk : Cond.methodLink y.1.cls idx y2.1 ∈ x_tbl) (hn : as.length = n) (hR : y2.2.2.2.2.1 + 1 ≤ v.1.frames ∧ 8 + (y2.2.2.1 + 11) + y2.2.2.2.2.2 ≤ v.1.locals) (hstk : stk = as.reverse ++ st) (hst : (st.map fun w => w.category).sum ≤ 8) (hd : x_dec y pc (.invokestatic idx) 3 nx)
    (kk : ∀ (μ' : x_Mem), P2 μ' → x_G l E y v μ' nx lv st) : x_G l E y v μ pc lv stk :=
  x_cs hM hw hi hlk hn hR hstk hst hd (fun r μ' h => by obtain ⟨rfl, h⟩ := h; exact kk μ' h)
end XH
/-! loops: what holds at a loop's end holds all the way back -/
theorem x_up (P : Nat → Prop) (N : Nat) (hN : P N) (hs : ∀ i, i < N → P (i + 1) → P i) (i : Nat) (hi : i ≤ N) : P i := by
  have h : ∀ d i, i + d = N → P i := by
    intro d
    induction d with
    | zero => intro i h; have : i = N := by omega
              subst this; exact hN
    | succ d ih => intro i h; exact hs i (by omega) (ih (i + 1) (by omega))
  exact h (N - i) i (by omega)
end
section
/-! BASE 2: members of the library, static tables, the places of a line's rows, loops that count -/
theorem x_nn {z : Int32} (hz : ¬ z < 0) : z.toInt = (z.toNatClampNeg : Int) := by
  have hz0 : (0 : Int) ≤ z.toInt := by
    have := Int32.not_lt.mp hz
    simpa using Int32.le_iff_toInt_le.mp this
  show z.toInt = ((z.toInt.toNat : Nat) : Int)
  omega
abbrev x_nm : MethodName := ⟨"java/lang/Math", "max", "(II)I"⟩
/-- a copied stretch -/
def cpy2 (μ : x_Mem) (k0 k1 sp dp n : Nat) : x_Mem := fun a => if a = k1 then va_cpy (μ k0) (μ k1) sp dp n else μ a
def maxI (x y : Int32) : Int32 := if x < y then y else x
def minI (x y : Int32) : Int32 := if y < x then y else x
section XM
variable {l : Launch} {E : x_E} {y : x_M} {v : x_V} {μ : x_Mem} {pc nx len : Nat} {lv lv' : List (Nat × Value)} {st : List Value}
theorem x_max {idx : Nat} {a b : Int32} (hlk : Cond.methodLink y.1.cls idx Lib.Math.max.name ∈ x_tbl) (hst : Cond.static Lib.Math.max.name ∈ x_tbl) (hco : Cond.code Lib.Math.max.name Lib.Math.max.code 2 (some .int) ∈ x_tbl) (hini : Cond.initialized "java/lang/Math" ∈ x_tbl) (hf : 1 ≤ v.1.frames) (hlo : (st.map fun v => v.category).sum + 13 ≤ v.1.locals) (hd : x_dec y pc (.invokestatic idx) 3 nx) (k : x_G l E y v μ nx lv (.int (maxI a b) :: st)) : x_G l E y v μ pc lv (.int b :: .int a :: st) := by
  intro p e s m args below meth c H ls locs F hP hl hS
  obtain ⟨hd, rfl⟩ := hd
  obtain ⟨hx, hb, hr, hlk', hml, hown, hts, hK, hZ, hc1, hc2, hcx⟩ := id F
  exact va_mmax hx hb (hml.trans hl.1.symm) hown (hts _ hlk) (hts _ hst) (hts _ hini) (hts _ hco) hf hlo hc1 hc2 hd (k p e s m args below meth c H ls locs F hP hl hS)
theorem x_min {idx : Nat} {a b : Int32} (hlk : Cond.methodLink y.1.cls idx Lib.Math.min.name ∈ x_tbl) (hst : Cond.static Lib.Math.min.name ∈ x_tbl) (hco : Cond.code Lib.Math.min.name Lib.Math.min.code 2 (some .int) ∈ x_tbl) (hini : Cond.initialized "java/lang/Math" ∈ x_tbl) (hf : 1 ≤ v.1.frames) (hlo : (st.map fun v => v.category).sum + 13 ≤ v.1.locals) (hd : x_dec y pc (.invokestatic idx) 3 nx) (k : x_G l E y v μ nx lv (.int (minI a b) :: st)) : x_G l E y v μ pc lv (.int b :: .int a :: st) := by
  intro p e s m args below meth c H ls locs F hP hl hS
  obtain ⟨hd, rfl⟩ := hd
  obtain ⟨hx, hb, hr, hlk', hml, hown, hts, hK, hZ, hc1, hc2, hcx⟩ := id F
  exact va_mmin hx hb (hml.trans hl.1.symm) hown (hts _ hlk) (hts _ hst) (hts _ hini) (hts _ hco) hf hlo hc1 hc2 hd (k p e s m args below meth c H ls locs F hP hl hS)
theorem x_copy {idx k0 k1 : Nat} (n0 n1 : Nat) {sp dp n : Int32} (hk0 : x_kd k0 = 0) (hk1 : x_kd k1 = 0) (hn0 : x_ln k0 = n0) (hn1 : x_ln k1 = n1) (hlk : Cond.methodLink y.1.cls idx arraycopyName ∈ x_tbl) (hnat : Cond.native arraycopyName ∈ x_tbl) (hst : Cond.static arraycopyName ∈ x_tbl) (hini : Cond.initialized "java/lang/System" ∈ x_tbl)
    (h1 : ¬ sp < 0) (h2 : ¬ dp < 0) (h3 : ¬ n < 0) (h4 : sp.toNatClampNeg + n.toNatClampNeg ≤ n0) (h5 : dp.toNatClampNeg + n.toNatClampNeg ≤ n1) (hf : 1 ≤ v.1.frames) (hlo : (st.map fun v => v.category).sum + 18 ≤ v.1.locals) (hd : x_dec y pc (.invokestatic idx) 3 nx)
    (kk : x_G l E y v (cpy2 μ k0 k1 sp.toNatClampNeg dp.toNatClampNeg n.toNatClampNeg) nx lv st) : x_G l E y v μ pc lv (.int n :: .int dp :: .ref (E.1 + k1) :: .int sp :: .ref (E.1 + k0) :: st) := by
  intro p e s m args below meth c H ls locs F hP hl hS
  obtain ⟨hd, rfl⟩ := hd
  obtain ⟨hx, hb, hr, hlk', hml, hown, hts, hK, hZ, hc1, hc2, hcx⟩ := id F
  intro T hT X
  have e0 : ∀ k, x_kd k = 0 → (fun j => Value.int (μ k j)) = x_val E μ k := fun k hk => funext fun j => (x_val_int (x_rf0 hk)).symm
  have hq0 : H[E.1 + k0]? = some (arrV (E.2.2.1 0) n0 (fun j => .int (μ k0 j))) := by have := x_arr hP (k := k0) (by omega); rw [hk0, hn0, ← e0 k0 hk0] at this; exact this
  have hq1 : H[E.1 + k1]? = some (arrV (E.2.2.1 0) n1 (fun j => .int (μ k1 j))) := by have := x_arr hP (k := k1) (by omega); rw [hk1, hn1, ← e0 k1 hk1] at this; exact this
  have hnf : nativeFrameWords "java/lang/System" "arraycopy" 5 = 7 := by decide
  obtain ⟨-, kc0, hkc0, cm0, hkk0⟩ := (hK.2 0 _ rfl).1 n0 (fun j => .int (μ k0 j))
  obtain ⟨-, kc1, hkc1, cm1, hkk1⟩ := (hK.2 0 _ rfl).1 n1 (fun j => .int (μ k1 j))
  obtain ⟨vm', X', step⟩ := X.arraycopy hx hown (hts _ hlk) (hts _ hnat) (hts _ hst) (hts _ hini) (src := E.1 + k0) (dst := E.1 + k1) (cs := arrV (E.2.2.1 0) n0 (fun j => .int (μ k0 j))) (cd := arrV (E.2.2.1 0) n1 (fun j => .int (μ k1 j))) (srcPos := sp) (destPos := dp) (n := n) (by rw [hT]; exact hq0) (by rw [hT]; exact hq1)
    (fun _ h => by cases h) (fun _ h => by cases h) (fun h => by cases h) (fun h => by cases h) hkc0 hkc1 hkk0 hkk1 (by simp [refKind]) h1 h2 h3
    (by rw [x_nn h1, x_nn h3]; show ¬ _ > ((arrV _ n0 (fun j => .int (μ k0 j))).slots.size : Int); rw [arrV_size]; omega)
    (by rw [x_nn h2, x_nn h3]; show ¬ _ > ((arrV _ n1 (fun j => .int (μ k1 j))).slots.size : Int); rw [arrV_size]; omega)
    (fun vm₁ _ i hi => by
      have e : (arrV (E.2.2.1 0) n0 (fun j => Value.int (μ k0 j))).slots.getD (sp.toNatClampNeg + i) .null = .int (μ k0 (sp.toNatClampNeg + i)) := by
        rw [Array.getD_eq_getD_getElem?, arrV_read _ _ (by omega)]
        rfl
      refine ⟨?_, ?_⟩
      · rw [e]
        rfl
      · rw [e]
        exact trivial)
    (g := F0 m pc ls (.int n :: .int dp :: .ref (E.1 + k1) :: .int sp :: .ref (E.1 + k0) :: st)) rfl (by show ls.size = c.maxLocals; rw [hml]; exact hl.1) (rest := st) rfl (by rw [hb]; exact hd) hf (by show 2 * 0 + _ + _ ≤ _; rw [hnf]; omega)
  have e1 : copied (arrV (E.2.2.1 0) n0 (fun j => .int (μ k0 j))) (arrV (E.2.2.1 0) n1 (fun j => .int (μ k1 j))) sp dp n = arrV (E.2.2.1 0) n1 (fun j => .int (va_cpy (μ k0) (μ k1) sp.toNatClampNeg dp.toNatClampNeg n.toNatClampNeg j)) := va_copied (fun z => .int z) _ _ (μ k0) (μ k1) h4
  rw [e1] at X' step
  have hlt : E.1 + k1 < H.size := (Array.getElem?_eq_some_iff.mp hq1).1
  obtain ⟨t, a1, b1⟩ := kk p e s m args below meth c (H.setIfInBounds (E.1 + k1) (arrV (E.2.2.1 0) n1 (fun j => .int (va_cpy (μ k0) (μ k1) sp.toNatClampNeg dp.toNatClampNeg n.toNatClampNeg j)))) ls _ F
    (x_P_set hP k1 (fun q hq => by simp [Array.getElem?_setIfInBounds, Ne.symm hq]) (by
      unfold x_at
      rw [if_neg (by omega)]
      have e2 : x_val E (cpy2 μ k0 k1 sp.toNatClampNeg dp.toNatClampNeg n.toNatClampNeg) k1 = fun j => .int (va_cpy (μ k0) (μ k1) sp.toNatClampNeg dp.toNatClampNeg n.toNatClampNeg j) := funext fun j => by rw [x_val_int (x_rf0 hk1)]; simp [cpy2]
      rw [e2, hk1, hn1]
      simp [Array.getElem?_setIfInBounds, hlt]) (fun a ha => by simp [cpy2, ha])) hl
    ⟨by simp; exact hS.1, fun q g1 g2 => by
      rw [Array.getElem?_setIfInBounds, if_neg (fun h => g2 (by rw [← h]; exact Nat.le_add_right _ _))]
      exact hS.2.1 q g1 g2, fun q hq => by
      rcases List.mem_append.mp hq with h | h
      · exact hS.2.2 q h
      · obtain ⟨z, -, hz⟩ := List.mem_map.mp h
        rw [← hz]
        exact Nat.le_add_right _ _⟩ ((T.setVm vm').setCell (E.1 + k1) (arrV (E.2.2.1 0) n1 (fun j => .int (va_cpy (μ k0) (μ k1) sp.toNatClampNeg dp.toNatClampNeg n.toNatClampNeg j)))) (by rw [← hT]; rfl) X'
  exact ⟨t, step t a1, b1⟩
/-- getstatic of the two tables; what they hold -/
theorem x_getsK {idx : Nat} (hlk : Cond.fieldLink y.1.cls idx "FaithRails" "KIND_ABOVE" "[I" ∈ x_tbl) (hd : x_dec y pc (.getstatic idx) 3 nx) (k : x_G l E y v μ nx lv (.ref E.2.2.2.1 :: st)) : x_G l E y v μ pc lv st := by
  intro p e s m args below meth c H ls locs F hP hl hS
  obtain ⟨hd, rfl⟩ := hd
  obtain ⟨hx, hb, hr, hlk', hml, hown, hts, hK, hZ, hc1, hc2, hcx⟩ := id F
  exact va_gets hx hb hZ.1.1 hS hown (hts _ hlk) (fun _ h => h) hd (k p e s m args below meth c H ls locs F hP hl hS)
theorem x_getsN {idx : Nat} (hlk : Cond.fieldLink y.1.cls idx "FaithRailsModel" "NAMES" "[I" ∈ x_tbl) (hd : x_dec y pc (.getstatic idx) 3 nx) (k : x_G l E y v μ nx lv (.ref E.2.2.2.2.1 :: st)) : x_G l E y v μ pc lv st := by
  intro p e s m args below meth c H ls locs F hP hl hS
  obtain ⟨hd, rfl⟩ := hd
  obtain ⟨hx, hb, hr, hlk', hml, hown, hts, hK, hZ, hc1, hc2, hcx⟩ := id F
  exact va_gets hx hb hZ.2.1.1 hS hown (hts _ hlk) (fun _ h => h) hd (k p e s m args below meth c H ls locs F hP hl hS)
theorem x_T_ld {E : x_E} {s : State} {H : Heap} {locs : List Loc} {t N : Nat} {f : Nat → Value} (hT : va_T .int t N f (x_A E) s s.heap) (hS : va_S (x_A E) s.heap H locs) : ∃ cell : Cell, H[t]? = some cell ∧ s.isArrayOf cell .int ∧ cell.vm ≠ .unknown ∧ N ≤ cell.slots.size ∧ (∀ j : Nat, j < N → cell.slots[j]? = some (f j)) := by
  obtain ⟨cell, h1, h2, h3, h4, h5, h6, h7⟩ := hT.kept hS.2.1
  exact ⟨cell, h1, h2, h3, h4, h6⟩
theorem x_ialdK {i : Int32} (hin : vp_in i 7) (hd : x_dec y pc .iaload 1 nx) (kk : x_G l E y v μ nx lv (.int (x_above.getD i.toNatClampNeg 0) :: st)) : x_G l E y v μ pc lv (.int i :: .ref E.2.2.2.1 :: st) := by
  intro p e s m args below meth c H ls locs F hP hl hS
  obtain ⟨hd, rfl⟩ := hd
  obtain ⟨hx, hb, hr, hlk', hml, hown, hts, hK, hZ, hc1, hc2, hcx⟩ := id F
  obtain ⟨cell, h1, h2, h3, h4, h5⟩ := x_T_ld hZ.1.2 hS
  have hlt : i.toNatClampNeg < 7 := Nat.not_le.mp fun q => hin (Or.inr q)
  exact W.iald (v := .int (x_above.getD i.toNatClampNeg 0)) hx hb h1 h2 h3 (fun q => q.elim (fun q => hin (Or.inl q)) (fun q => by omega)) (h5 _ hlt) rfl rfl hd (kk p e s m args below meth c H ls locs F hP hl hS)
theorem x_ialdT {i : Int32} (hin : vp_in i 120) (hd : x_dec y pc .iaload 1 nx) (kk : x_G l E y v μ nx lv (.int (x_names.getD i.toNatClampNeg 0) :: st)) : x_G l E y v μ pc lv (.int i :: .ref E.2.2.2.2.1 :: st) := by
  intro p e s m args below meth c H ls locs F hP hl hS
  obtain ⟨hd, rfl⟩ := hd
  obtain ⟨hx, hb, hr, hlk', hml, hown, hts, hK, hZ, hc1, hc2, hcx⟩ := id F
  obtain ⟨cell, h1, h2, h3, h4, h5⟩ := x_T_ld hZ.2.1.2 hS
  have hlt : i.toNatClampNeg < 120 := Nat.not_le.mp fun q => hin (Or.inr q)
  exact W.iald (v := .int (x_names.getD i.toNatClampNeg 0)) hx hb h1 h2 h3 (fun q => q.elim (fun q => hin (Or.inl q)) (fun q => by omega)) (h5 _ hlt) rfl rfl hd (kk p e s m args below meth c H ls locs F hP hl hS)
/-- the one private static method that another class of the nest calls -/
theorem x_csN {y2 : x_M} {n idx : Nat} {as stk : List Value} {P2 : Int32 → x_Mem → Prop} (hM : x_Met l y2 E as μ (x_I P2)) (hw : x_VM y2 n) (hi : Cond.static y2.1 ∈ x_tbl) (hy : y.1.cls = "FaithRails$Prairie") (hx73 : idx = 73) (hy2 : y2.1 = yX3_has) (hn : as.length = n) (hR : y2.2.2.2.2.1 + 1 ≤ v.1.frames ∧ 8 + (y2.2.2.1 + 11) + y2.2.2.2.2.2 ≤ v.1.locals) (hstk : stk = as.reverse ++ st) (hst : (st.map fun w => w.category).sum ≤ 8) (hd : x_dec y pc (.invokestatic idx) 3 nx)
    (kk : ∀ (z : Int32) (μ' : x_Mem), P2 z μ' → x_G l E y v μ' nx lv (.int z :: st)) : x_G l E y v μ pc lv stk := by
  intro p e s m args below meth c H ls locs F hP hl' hS
  obtain ⟨hd, rfl⟩ := hd
  subst hstk hx73
  obtain ⟨hx, hb, hr, hlo, hml, hown, hts, hK, hZ, hc1, hc2, hcx⟩ := id F
  have hnw : va_Nw (.methodLinkNest y.1.cls 73 y2.1 "FaithRails") s := by rw [hy, hy2]; exact hZ.2.2.2.2.2.2
  have run := va_runSN (As := as) (rest := st) (g := F0 m pc ls (as.reverse ++ st)) (own := y.1.cls) (Ts := x_tbl) (cells := v.2.1) (slots := v.2.2.1) (R := v.1) (locs := locs) (e := e) (below := below) (meth := meth) (H := H) (index := 73)
    ⟨hx, hb, hml, hown, hts⟩ hM ⟨va_cnB n hts (x_goodIn hw) rfl rfl rfl hnw (hts _ hw.2.1) hw.2.2 hR, hts _ hi, trivial⟩
    ⟨x_fb, fun U hU hW => ⟨rfl, by rw [hU]; exact hP, va_K.moved hW.alike hK, by rw [hU]; exact (hZ.warm hW).kept hS.2.1⟩⟩ rfl hn hl'.1 rfl (lv_room hst) hd ⟨hc1, hc2⟩
  exact x_back run hS (fun r μ' H1 locs1 h1 h2 h3 => by obtain ⟨z, rfl, h1⟩ := h1; exact kk z μ' h1 p e s m args below meth c H1 ls locs1 F h2 hl' h3)
/-- loads and stores at places that are written as naturals, with what is known of the value -/
theorem x_ialdN {k : Nat} (n e : Nat) {z : Int32} (hk : x_kd k = 0) (hn : x_ln k = n) (he : e < n) (hb : n < 2 ^ 31) (hz : μ k e = z) (hd : x_dec y pc .iaload 1 nx) (kk : x_G l E y v μ nx lv (.int z :: st)) : x_G l E y v μ pc lv (.int (nI e) :: .ref (E.1 + k) :: st) :=
  x_iald n hk hn (vp_in_nI he hb) hd (by rw [nI_clamp (by omega), hz]; exact kk)
theorem x_baldN {k : Nat} (n e : Nat) {z : Int32} (hk : x_kd k = 1) (hn : x_ln k = n) (he : e < n) (hb : n < 2 ^ 31) (hz : μ k e = z) (hd : x_dec y pc .baload 1 nx) (kk : x_G l E y v μ nx lv (.int z :: st)) : x_G l E y v μ pc lv (.int (nI e) :: .ref (E.1 + k) :: st) :=
  x_bald n hk hn (vp_in_nI he hb) hd (by rw [nI_clamp (by omega), hz]; exact kk)
theorem x_iastN {k : Nat} (n e : Nat) {x : Int32} (hk : x_kd k = 0) (hn : x_ln k = n) (he : e < n) (hb : n < 2 ^ 31) (hd : x_dec y pc .iastore 1 nx) (kk : x_G l E y v (upd2 μ k e x) nx lv st) : x_G l E y v μ pc lv (.int x :: .int (nI e) :: .ref (E.1 + k) :: st) :=
  x_iast n hk hn (vp_in_nI he hb) hd (by rw [nI_clamp (by omega)]; exact kk)
theorem x_bastN {k : Nat} (n e : Nat) {x : Int32} (hk : x_kd k = 1) (hn : x_ln k = n) (he : e < n) (hb : n < 2 ^ 31) (hd : x_dec y pc .bastore 1 nx) (kk : x_G l E y v (upd2 μ k e x.toInt8.toInt32) nx lv st) : x_G l E y v μ pc lv (.int x :: .int (nI e) :: .ref (E.1 + k) :: st) :=
  x_bast n hk hn (vp_in_nI he hb) hd (by rw [nI_clamp (by omega)]; exact kk)
theorem x_getiV {ci k j idx : Nat} {r : vw_C} {z : Int32} (hc : x_okc ci r) (hk : x_kd k = 3 + ci) (hj : j < r.2.2) (hl : Cond.fieldLink y.1.cls idx (r.2.1 j).1 (r.2.1 j).2.1 (r.2.1 j).2.2.1 ∈ x_tbl) (hn : x_rf k j = none) (hz : μ k j = z) (hd : x_dec y pc (.getfield idx) 3 nx) (kk : x_G l E y v μ nx lv (.int z :: st)) : x_G l E y v μ pc lv (.ref (E.1 + k) :: st) :=
  x_geti hc hk hj hl hn hd (by rw [hz]; exact kk)
end XM
/-! stores, the new memory named -/
section XG
variable {l : Launch} {E : x_E} {y : x_M} {v : x_V} {μ : x_Mem} {pc nx len : Nat} {lv lv' : List (Nat × Value)} {st : List Value}
theorem x_putiG {ci k j idx : Nat} {r : vw_C} {x : Int32} (hc : x_okc ci r) (hk : x_kd k = 3 + ci) (hj : j < r.2.2) (hl : Cond.fieldLink y.1.cls idx (r.2.1 j).1 (r.2.1 j).2.1 (r.2.1 j).2.2.1 ∈ x_tbl) (hn : x_rf k j = none) (hfin : (r.2.1 j).2.2.2 = false) (hdt : parseFieldDescriptor (r.2.1 j).2.2.1 = some .int) (hd : x_dec y pc (.putfield idx) 3 nx) (kk : ∀ μ' : x_Mem, μ' = upd2 μ k j x → x_G l E y v μ' nx lv st) : x_G l E y v μ pc lv (.int x :: .ref (E.1 + k) :: st) :=
  x_puti hc hk hj hl hn hfin hdt hd (kk _ rfl)
theorem x_putzG {ci k j idx : Nat} {r : vw_C} {q : Bool} (hc : x_okc ci r) (hk : x_kd k = 3 + ci) (hj : j < r.2.2) (hl : Cond.fieldLink y.1.cls idx (r.2.1 j).1 (r.2.1 j).2.1 (r.2.1 j).2.2.1 ∈ x_tbl) (hn : x_rf k j = none) (hfin : (r.2.1 j).2.2.2 = false) (hdt : parseFieldDescriptor (r.2.1 j).2.2.1 = some .boolean) (hd : x_dec y pc (.putfield idx) 3 nx) (kk : ∀ μ' : x_Mem, μ' = upd2 μ k j (x_b q) → x_G l E y v μ' nx lv st) : x_G l E y v μ pc lv (.int (x_b q) :: .ref (E.1 + k) :: st) :=
  x_putz hc hk hj hl hn hfin hdt hd (kk _ rfl)
theorem x_iastG {k : Nat} (n : Nat) {i x : Int32} (hk : x_kd k = 0) (hn : x_ln k = n) (hin : vp_in i n) (hd : x_dec y pc .iastore 1 nx) (kk : ∀ μ' : x_Mem, μ' = upd2 μ k i.toNatClampNeg x → x_G l E y v μ' nx lv st) : x_G l E y v μ pc lv (.int x :: .int i :: .ref (E.1 + k) :: st) :=
  x_iast n hk hn hin hd (kk _ rfl)
theorem x_iastNG {k : Nat} (n e : Nat) {x : Int32} (hk : x_kd k = 0) (hn : x_ln k = n) (he : e < n) (hb : n < 2 ^ 31) (hd : x_dec y pc .iastore 1 nx) (kk : ∀ μ' : x_Mem, μ' = upd2 μ k e x → x_G l E y v μ' nx lv st) : x_G l E y v μ pc lv (.int x :: .int (nI e) :: .ref (E.1 + k) :: st) :=
  x_iastN n e hk hn he hb hd (kk _ rfl)
theorem x_bastNG {k : Nat} (n e : Nat) {x : Int32} (hk : x_kd k = 1) (hn : x_ln k = n) (he : e < n) (hb : n < 2 ^ 31) (hd : x_dec y pc .bastore 1 nx) (kk : ∀ μ' : x_Mem, μ' = upd2 μ k e x.toInt8.toInt32 → x_G l E y v μ' nx lv st) : x_G l E y v μ pc lv (.int x :: .int (nI e) :: .ref (E.1 + k) :: st) :=
  x_bastN n e hk hn he hb hd (kk _ rfl)
theorem x_copyG {idx k0 k1 : Nat} (n0 n1 sp dp n : Nat) (hk0 : x_kd k0 = 0) (hk1 : x_kd k1 = 0) (hn0 : x_ln k0 = n0) (hn1 : x_ln k1 = n1) (hlk : Cond.methodLink y.1.cls idx arraycopyName ∈ x_tbl) (hnat : Cond.native arraycopyName ∈ x_tbl) (hst : Cond.static arraycopyName ∈ x_tbl) (hini : Cond.initialized "java/lang/System" ∈ x_tbl)
    (h4 : sp + n ≤ n0) (h5 : dp + n ≤ n1) (hb0 : n0 < 2 ^ 31) (hb1 : n1 < 2 ^ 31) (hf : 1 ≤ v.1.frames) (hlo : (st.map fun v => v.category).sum + 18 ≤ v.1.locals) (hd : x_dec y pc (.invokestatic idx) 3 nx)
    (kk : ∀ μ' : x_Mem, μ' = cpy2 μ k0 k1 sp dp n → x_G l E y v μ' nx lv st) : x_G l E y v μ pc lv (.int (nI n) :: .int (nI dp) :: .ref (E.1 + k1) :: .int (nI sp) :: .ref (E.1 + k0) :: st) :=
  x_copy n0 n1 hk0 hk1 hn0 hn1 hlk hnat hst hini (nI_pos (by omega)) (nI_pos (by omega)) (nI_pos (by omega)) (by rw [nI_clamp (by omega), nI_clamp (by omega)]; exact h4) (by rw [nI_clamp (by omega), nI_clamp (by omega)]; exact h5) hf hlo hd (by rw [nI_clamp (by omega), nI_clamp (by omega), nI_clamp (by omega)]; exact kk _ rfl)
end XG
theorem cpy2_in {μ : x_Mem} {k0 k1 n j : Nat} (h : j < n) : cpy2 μ k0 k1 0 0 n k1 j = μ k0 j := by
  show (if k1 = k1 then va_cpy (μ k0) (μ k1) 0 0 n else μ k1) j = μ k0 j
  rw [if_pos rfl]
  show (if 0 ≤ j ∧ j < 0 + n then μ k0 (0 + (j - 0)) else μ k1 j) = μ k0 j
  rw [if_pos ⟨Nat.zero_le j, by omega⟩]
  congr 1
  omega
/-! calls that change nothing -/
section XPC
variable {l : Launch} {E : x_E} {y : x_M} {v : x_V} {μ : x_Mem} {pc nx len : Nat} {lv lv' : List (Nat × Value)} {st : List Value}
theorem x_cvip {y2 : x_M} {k n idx : Nat} {as stk : List Value} {val : Int32} (hM : x_Met l y2 E (.ref (E.1 + k) :: as) μ (x_I (fun z m => z = val ∧ m = μ))) (hw : x_VM y2 n) (hi : x_VI y2) (hlk : Cond.methodLink y.1.cls idx y2.1 ∈ x_tbl) (hk : x_ob k y2.1.cls) (hn : as.length = n) (hR : y2.2.2.2.2.1 + 1 ≤ v.1.frames ∧ 8 + (y2.2.2.1 + 11) + y2.2.2.2.2.2 ≤ v.1.locals) (hstk : stk = as.reverse ++ .ref (E.1 + k) :: st) (hst : (st.map fun w => w.category).sum ≤ 8) (hd : x_dec y pc (.invokevirtual idx) 3 nx)
    (kk : x_G l E y v μ nx lv (.int val :: st)) : x_G l E y v μ pc lv stk :=
  x_cvi hM hw hi hlk hk hn hR hstk hst hd (fun z m h => by rw [h.1, h.2]; exact kk)
theorem x_cvlp {y2 : x_M} {k n idx : Nat} {as stk : List Value} {val : Int64} (hM : x_Met l y2 E (.ref (E.1 + k) :: as) μ (x_L (fun z m => z = val ∧ m = μ))) (hw : x_VM y2 n) (hi : x_VI y2) (hlk : Cond.methodLink y.1.cls idx y2.1 ∈ x_tbl) (hk : x_ob k y2.1.cls) (hn : as.length = n) (hR : y2.2.2.2.2.1 + 1 ≤ v.1.frames ∧ 8 + (y2.2.2.1 + 11) + y2.2.2.2.2.2 ≤ v.1.locals) (hstk : stk = as.reverse ++ .ref (E.1 + k) :: st) (hst : (st.map fun w => w.category).sum ≤ 8) (hd : x_dec y pc (.invokevirtual idx) 3 nx)
    (kk : x_G l E y v μ nx lv (.long val :: st)) : x_G l E y v μ pc lv stk :=
  x_cvl hM hw hi hlk hk hn hR hstk hst hd (fun z m h => by rw [h.1, h.2]; exact kk)
theorem x_csip {y2 : x_M} {n idx : Nat} {as stk : List Value} {val : Int32} (hM : x_Met l y2 E as μ (x_I (fun z m => z = val ∧ m = μ))) (hw : x_VM y2 n) (hi : Cond.static y2.1 ∈ x_tbl) (hlk : Cond.methodLink y.1.cls idx y2.1 ∈ x_tbl) (hn : as.length = n) (hR : y2.2.2.2.2.1 + 1 ≤ v.1.frames ∧ 8 + (y2.2.2.1 + 11) + y2.2.2.2.2.2 ≤ v.1.locals) (hstk : stk = as.reverse ++ st) (hst : (st.map fun w => w.category).sum ≤ 8) (hd : x_dec y pc (.invokestatic idx) 3 nx)
    (kk : x_G l E y v μ nx lv (.int val :: st)) : x_G l E y v μ pc lv stk :=
  x_csi hM hw hi hlk hn hR hstk hst hd (fun z m h => by rw [h.1, h.2]; exact kk)
theorem x_csNp {y2 : x_M} {n idx : Nat} {as stk : List Value} {val : Int32} (hM : x_Met l y2 E as μ (x_I (fun z m => z = val ∧ m = μ))) (hw : x_VM y2 n) (hi : Cond.static y2.1 ∈ x_tbl) (hy : y.1.cls = "FaithRails$Prairie") (hx73 : idx = 73) (hy2 : y2.1 = yX3_has) (hn : as.length = n) (hR : y2.2.2.2.2.1 + 1 ≤ v.1.frames ∧ 8 + (y2.2.2.1 + 11) + y2.2.2.2.2.2 ≤ v.1.locals) (hstk : stk = as.reverse ++ st) (hst : (st.map fun w => w.category).sum ≤ 8) (hd : x_dec y pc (.invokestatic idx) 3 nx)
    (kk : x_G l E y v μ nx lv (.int val :: st)) : x_G l E y v μ pc lv stk :=
  x_csN hM hw hi hy hx73 hy2 hn hR hstk hst hd (fun z m h => by rw [h.1, h.2]; exact kk)
end XPC
theorem x_down (P : Nat → Prop) (N : Nat) (h : ∀ i, i ≤ N → (∀ i', i < i' → i' ≤ N → P i') → P i) : ∀ i, i ≤ N → P i := by
  have key : ∀ d i, i ≤ N → N - i = d → P i := by
    intro d
    induction d using Nat.strongRecOn with
    | _ d ih =>
      intro i hi hd
      exact h i hi (fun i' h1 h2 => ih (N - i') (by omega) i' h2 rfl)
  exact fun i hi => key _ i hi rfl
theorem x_inc (i : Nat) : nI i + Int32.ofInt 1 = nI (i + 1) := nI_1 i
/-- a comparison with a bound that is a natural -/
theorem x_ge {x B : Int32} {i N : Nat} (h : B ≤ x) (hx : x = nI i) (hB : B = nI N) (hi : i < 2 ^ 31) (hN : N < 2 ^ 31) : N ≤ i := by
  subst hx hB
  exact (nI_leI hN hi).mp h
theorem x_lt {x B : Int32} {i N : Nat} (h : ¬ B ≤ x) (hx : x = nI i) (hB : B = nI N) (hi : i < 2 ^ 31) (hN : N < 2 ^ 31) : i < N := by
  rcases Nat.lt_or_ge i N with q | q
  · exact q
  · subst hx hB
    exact absurd (nI_le q hi) h
/-- a line stands at one of three places -/
def x_pr (o : Nat) : Prop := o = 1 ∨ o = 10 ∨ o = 19
theorem x_pr1 : x_pr 1 := Or.inl rfl
theorem x_pr10 : x_pr 10 := Or.inr (Or.inl rfl)
theorem x_pr19 : x_pr 19 := Or.inr (Or.inr rfl)
theorem p_kd {o : Nat} (h : x_pr o) : x_kd o = 3 + 0 := by rcases h with rfl | rfl | rfl <;> rfl
theorem p_ob {o : Nat} (h : x_pr o) : x_ob o RX0 := ⟨0, (RX0, TX0, 16), p_kd h, rfl, rfl⟩
theorem p_f0 {o : Nat} (h : x_pr o) : x_rf o 0 = some (o + 1) := by rcases h with rfl | rfl | rfl <;> rfl
theorem p_f1 {o : Nat} (h : x_pr o) : x_rf o 1 = some (o + 2) := by rcases h with rfl | rfl | rfl <;> rfl
theorem p_f2 {o : Nat} (h : x_pr o) : x_rf o 2 = some (o + 3) := by rcases h with rfl | rfl | rfl <;> rfl
theorem p_f3 {o : Nat} (h : x_pr o) : x_rf o 3 = some (o + 4) := by rcases h with rfl | rfl | rfl <;> rfl
theorem p_f4 {o : Nat} (h : x_pr o) : x_rf o 4 = some (o + 5) := by rcases h with rfl | rfl | rfl <;> rfl
theorem p_n5 {o : Nat} (h : x_pr o) : x_rf o 5 = none := by rcases h with rfl | rfl | rfl <;> rfl
theorem p_n6 {o : Nat} (h : x_pr o) : x_rf o 6 = none := by rcases h with rfl | rfl | rfl <;> rfl
theorem p_n7 {o : Nat} (h : x_pr o) : x_rf o 7 = none := by rcases h with rfl | rfl | rfl <;> rfl
theorem p_n8 {o : Nat} (h : x_pr o) : x_rf o 8 = none := by rcases h with rfl | rfl | rfl <;> rfl
theorem p_n9 {o : Nat} (h : x_pr o) : x_rf o 9 = none := by rcases h with rfl | rfl | rfl <;> rfl
theorem p_n10 {o : Nat} (h : x_pr o) : x_rf o 10 = none := by rcases h with rfl | rfl | rfl <;> rfl
theorem p_n11 {o : Nat} (h : x_pr o) : x_rf o 11 = none := by rcases h with rfl | rfl | rfl <;> rfl
theorem p_n12 {o : Nat} (h : x_pr o) : x_rf o 12 = none := by rcases h with rfl | rfl | rfl <;> rfl
theorem p_f13 {o : Nat} (h : x_pr o) : x_rf o 13 = some (o + 6) := by rcases h with rfl | rfl | rfl <;> rfl
theorem p_f14 {o : Nat} (h : x_pr o) : x_rf o 14 = some (o + 7) := by rcases h with rfl | rfl | rfl <;> rfl
theorem p_f15 {o : Nat} (h : x_pr o) : x_rf o 15 = some (o + 8) := by rcases h with rfl | rfl | rfl <;> rfl
theorem p_k1 {o : Nat} (h : x_pr o) : x_kd (o + 1) = 0 := by rcases h with rfl | rfl | rfl <;> rfl
theorem p_l1 {o : Nat} (h : x_pr o) : x_ln (o + 1) = 16 := by rcases h with rfl | rfl | rfl <;> rfl
theorem p_k2 {o : Nat} (h : x_pr o) : x_kd (o + 2) = 0 := by rcases h with rfl | rfl | rfl <;> rfl
theorem p_l2 {o : Nat} (h : x_pr o) : x_ln (o + 2) = 8 := by rcases h with rfl | rfl | rfl <;> rfl
theorem p_k3 {o : Nat} (h : x_pr o) : x_kd (o + 3) = 0 := by rcases h with rfl | rfl | rfl <;> rfl
theorem p_l3 {o : Nat} (h : x_pr o) : x_ln (o + 3) = 8 := by rcases h with rfl | rfl | rfl <;> rfl
theorem p_k4 {o : Nat} (h : x_pr o) : x_kd (o + 4) = 0 := by rcases h with rfl | rfl | rfl <;> rfl
theorem p_l4 {o : Nat} (h : x_pr o) : x_ln (o + 4) = 8 := by rcases h with rfl | rfl | rfl <;> rfl
theorem p_k5 {o : Nat} (h : x_pr o) : x_kd (o + 5) = 0 := by rcases h with rfl | rfl | rfl <;> rfl
theorem p_l5 {o : Nat} (h : x_pr o) : x_ln (o + 5) = 10 := by rcases h with rfl | rfl | rfl <;> rfl
theorem p_k6 {o : Nat} (h : x_pr o) : x_kd (o + 6) = 0 := by rcases h with rfl | rfl | rfl <;> rfl
theorem p_l6 {o : Nat} (h : x_pr o) : x_ln (o + 6) = 8 := by rcases h with rfl | rfl | rfl <;> rfl
theorem p_k7 {o : Nat} (h : x_pr o) : x_kd (o + 7) = 0 := by rcases h with rfl | rfl | rfl <;> rfl
theorem p_l7 {o : Nat} (h : x_pr o) : x_ln (o + 7) = 18 := by rcases h with rfl | rfl | rfl <;> rfl
theorem p_k8 {o : Nat} (h : x_pr o) : x_kd (o + 8) = 0 := by rcases h with rfl | rfl | rfl <;> rfl
theorem p_l8 {o : Nat} (h : x_pr o) : x_ln (o + 8) = 18 := by rcases h with rfl | rfl | rfl <;> rfl
/-- a sheet stands at one of four places -/
def x_sq (q : Nat) : Prop := q = 33 ∨ q = 35 ∨ q = 37 ∨ q = 39
theorem x_sqs {i : Nat} (h : i < 4) : x_sq (33 + 2 * i) := by unfold x_sq; omega
theorem s_kd {q : Nat} (h : x_sq q) : x_kd q = 3 + 1 := by rcases h with rfl | rfl | rfl | rfl <;> rfl
theorem s_ob {q : Nat} (h : x_sq q) : x_ob q RX1 := ⟨1, (RX1, TX1, 3), s_kd h, rfl, rfl⟩
theorem s_n0 {q : Nat} (h : x_sq q) : x_rf q 0 = none := by rcases h with rfl | rfl | rfl | rfl <;> rfl
theorem s_n1 {q : Nat} (h : x_sq q) : x_rf q 1 = none := by rcases h with rfl | rfl | rfl | rfl <;> rfl
theorem s_f2 {q : Nat} (h : x_sq q) : x_rf q 2 = some (q + 1) := by rcases h with rfl | rfl | rfl | rfl <;> rfl
theorem s_k1 {q : Nat} (h : x_sq q) : x_kd (q + 1) = 0 := by rcases h with rfl | rfl | rfl | rfl <;> rfl
theorem s_l1 {q : Nat} (h : x_sq q) : x_ln (q + 1) = 40 := by rcases h with rfl | rfl | rfl | rfl <;> rfl
theorem o_X : x_ob 0 RX3 := ⟨3, (RX3, TX3, 8), rfl, rfl, rfl⟩
theorem o_T : x_ob 28 RX2 := ⟨2, (RX2, TX2, 6), rfl, rfl, rfl⟩
theorem o_M : x_ob 41 RX4 := ⟨4, (RX4, TX4, 17), rfl, rfl, rfl⟩
end
section
/-! THE MEANING: a line's state is one row a of numbers, as the reference lays it: 0 HOUR, 1 TRAIN, 2 NIGHT, 3 GAIN, 4 LOSS, 5 FALLS, 6 z, 7 PEOPLE, 8 .. NEED, 24 + 3 p KIND, WHERE, BELIEF of p, 48 .. SPOTS -/
abbrev x_St : Type := Nat → Int32
/-- how many there are -/
def pn (a : x_St) : Nat := (a 7).toNatClampNeg
def sumTo (f : Nat → Int32) : Nat → Int32
  | 0 => 0
  | n + 1 => sumTo f n + f n
/-- counted from a start -/
def cntTo (b : Int32) (f : Nat → Bool) : Nat → Int32
  | 0 => b
  | n + 1 => if f n = true then cntTo b f n + 1 else cntTo b f n
def compF (a : x_St) (p : Nat) : Int32 := cntTo (-1) (fun o => decide (a (24 + 3 * o + 1) = a (24 + 3 * p + 1))) (pn a)
def dayF (a : x_St) : Int32 := if a 2 = 0 then 20 else 0
def faithF (a : x_St) (p : Nat) : Int32 :=
  if a (24 + 3 * p) = 1 then a (24 + 3 * p + 2) / 2
  else if a (24 + 3 * p) = 2 then a (24 + 3 * p + 2) + dayF a
  else if a (24 + 3 * p) = 3 then a (24 + 3 * p + 2) + dayF a - minI (a 5) 30
  else if a (24 + 3 * p) = 4 then a (24 + 3 * p + 2) + dayF a - minI (a 5) 30 + 5 * compF a p
  else if a (24 + 3 * p) = 5 then (if a 2 = 0 then a (24 + 3 * p + 2) else 2 * a (24 + 3 * p + 2))
  else if a (24 + 3 * p) = 6 then a (24 + 3 * p + 2) / 2 - 20
  else a (24 + 3 * p + 2)
def farF (w k : Int32) : Int32 := if w ≤ k then k - w else w - k - 1
def bringsF (a : x_St) (p : Nat) (k : Int32) : Int32 := if a (24 + 3 * p + 1) = -1 then faithF a p else maxI 0 (faithF a p - 10 * farF (a (24 + 3 * p + 1)) k)
def sumF (a : x_St) (k : Int32) : Int32 := sumTo (fun p => bringsF a p k) (pn a)
def thereB (a : x_St) (k : Nat) : Bool := decide (a (8 + k) ≤ sumF a (nI k))
/-- a set of those k < n with f -/
def setTo (f : Nat → Bool) : Nat → Int32
  | 0 => 0
  | n + 1 => if f n = true then setTo f n ||| (1 <<< (nI n &&& 31)) else setTo f n
def thereF (a : x_St) : Int32 := setTo (thereB a) 16
def aboardF (a : x_St) : Int32 := setTo (fun p => decide (a (24 + 3 * p + 1) = -1)) (pn a)
def beliefsF (a : x_St) : Int32 := sumTo (fun p => a (24 + 3 * p + 2)) (pn a)
/-- an hour -/
def clampF (x : Int32) : Int32 := maxI 0 (minI 99 x)
def moveTo (a : x_St) (by_ : Int32) : Nat → x_St
  | 0 => a
  | n + 1 => if a (24 + 3 * n + 1) = -1 then upd (moveTo a by_ n) (24 + 3 * n + 2) (clampF (a (24 + 3 * n + 2) + by_)) else moveTo a by_ n
def withB (a : x_St) (p : Nat) : Nat → Bool := fun o => decide (a (24 + 3 * o + 1) = a (24 + 3 * p + 1))
def sumWith (a : x_St) (p : Nat) : Int32 := sumTo (fun o => if withB a p o = true then a (24 + 3 * o + 2) else 0) (pn a)
def numWith (a : x_St) (p : Nat) : Int32 := cntTo 0 (withB a p) (pn a)
def meanF (a : x_St) (p : Nat) : Int32 := sumWith a p / numWith a p
def swayV (a : x_St) (p : Nat) : Int32 := if a (24 + 3 * p + 2) < meanF a p then a (24 + 3 * p + 2) + 1 else if meanF a p < a (24 + 3 * p + 2) then a (24 + 3 * p + 2) - 1 else a (24 + 3 * p + 2)
def swayTo (a : x_St) : Nat → x_St
  | 0 => a
  | n + 1 => upd (swayTo a n) (24 + 3 * n + 2) (swayV a n)
def swayF (a : x_St) : x_St := swayTo a (pn a)
def fallB (a : x_St) : Bool := decide (a 1 < 16) && !thereB a (a 1).toNatClampNeg
def rideF (a : x_St) : x_St :=
  if a 1 < 16 then (if thereB a (a 1).toNatClampNeg = true then moveTo (upd a 1 (a 1 + 1)) (a 3) (pn a) else moveTo (upd a 5 (minI (a 5 + 1) 99999)) (-a 4) (pn a))
  else a
def hourF (a : x_St) : x_St := upd (swayF (rideF a)) 0 (a 0 + 1)
def hoursF (a : x_St) : Nat → x_St
  | 0 => a
  | n + 1 => hourF (hoursF a n)
def anyTo (f : Nat → Bool) : Nat → Bool
  | 0 => false
  | n + 1 => anyTo f n || f n
/-- the hour leaves another yard, or a belief that is another -/
def movedB (a : x_St) : Bool := decide (¬ hourF a 1 = a 1) || anyTo (fun p => decide (¬ hourF a (24 + 3 * p + 2) = a (24 + 3 * p + 2))) (pn a)
/-- some ride, the others wait where the train is -/
def rideTo (a : x_St) (f : Nat → Bool) : Nat → x_St
  | 0 => a
  | n + 1 => upd (rideTo a f n) (24 + 3 * n + 1) (if f n = true then -1 else a 1)
/-- what always holds of a line: numbers in their bounds (NEEDS apart) -/
def WF (a : x_St) : Prop := pn a ≤ 8 ∧ a 7 = nI (pn a) ∧ (∀ p, p < 8 → ∃ k, k < 7 ∧ a (24 + 3 * p) = nI k) ∧ (∀ p, p < 8 → a (24 + 3 * p + 1) = -1 ∨ ∃ w, w < 17 ∧ a (24 + 3 * p + 1) = nI w) ∧ (∀ p, p < 8 → ∃ b, b < 100 ∧ a (24 + 3 * p + 2) = nI b) ∧
  (∃ t, t < 17 ∧ a 1 = nI t) ∧ (a 2 = 0 ∨ a 2 = 1) ∧ (∃ g, g < 21 ∧ a 3 = nI g) ∧ (∃ g, g < 21 ∧ a 4 = nI g) ∧ (∃ f, f < 100000 ∧ a 5 = nI f)
/-- a line of the class at place o holds the state a (HOUR apart) -/
def PR (a : x_St) (o : Nat) (μ : x_Mem) : Prop := (∀ j, j < 16 → μ (o + 1) j = a (8 + j)) ∧ (∀ p, p < 8 → μ (o + 2) p = a (24 + 3 * p)) ∧ (∀ p, p < 8 → μ (o + 3) p = a (24 + 3 * p + 1)) ∧ (∀ p, p < 8 → μ (o + 4) p = a (24 + 3 * p + 2)) ∧ (∀ j, j < 10 → μ (o + 5) j = a (48 + j)) ∧
  (μ o 5 = a 7 ∧ μ o 6 = a 1 ∧ μ o 7 = a 2 ∧ μ o 8 = a 3 ∧ μ o 9 = a 4 ∧ μ o 10 = a 5 ∧ μ o 12 = a 6)
theorem PR.need {a : x_St} {o : Nat} {μ : x_Mem} (h : PR a o μ) (j : Nat) (hj : j < 16) : μ (o + 1) j = a (8 + j) := h.1 j hj
theorem PR.kd {a : x_St} {o : Nat} {μ : x_Mem} (h : PR a o μ) (j : Nat) (hj : j < 8) : μ (o + 2) j = a (24 + 3 * j) := h.2.1 j hj
theorem PR.wh {a : x_St} {o : Nat} {μ : x_Mem} (h : PR a o μ) (j : Nat) (hj : j < 8) : μ (o + 3) j = a (24 + 3 * j + 1) := h.2.2.1 j hj
theorem PR.bl {a : x_St} {o : Nat} {μ : x_Mem} (h : PR a o μ) (j : Nat) (hj : j < 8) : μ (o + 4) j = a (24 + 3 * j + 2) := h.2.2.2.1 j hj
theorem PR.spot {a : x_St} {o : Nat} {μ : x_Mem} (h : PR a o μ) (j : Nat) (hj : j < 10) : μ (o + 5) j = a (48 + j) := h.2.2.2.2.1 j hj
theorem PR.f5 {a : x_St} {o : Nat} {μ : x_Mem} (h : PR a o μ) : μ o 5 = a 7 := h.2.2.2.2.2.1
theorem PR.f6 {a : x_St} {o : Nat} {μ : x_Mem} (h : PR a o μ) : μ o 6 = a 1 := h.2.2.2.2.2.2.1
theorem PR.f7 {a : x_St} {o : Nat} {μ : x_Mem} (h : PR a o μ) : μ o 7 = a 2 := h.2.2.2.2.2.2.2.1
theorem PR.f8 {a : x_St} {o : Nat} {μ : x_Mem} (h : PR a o μ) : μ o 8 = a 3 := h.2.2.2.2.2.2.2.2.1
theorem PR.f9 {a : x_St} {o : Nat} {μ : x_Mem} (h : PR a o μ) : μ o 9 = a 4 := h.2.2.2.2.2.2.2.2.2.1
theorem PR.f10 {a : x_St} {o : Nat} {μ : x_Mem} (h : PR a o μ) : μ o 10 = a 5 := h.2.2.2.2.2.2.2.2.2.2.1
theorem PR.f12 {a : x_St} {o : Nat} {μ : x_Mem} (h : PR a o μ) : μ o 12 = a 6 := h.2.2.2.2.2.2.2.2.2.2.2
theorem PR.cg {a : x_St} {o : Nat} {μ μ' : x_Mem} (h : PR a o μ) (e : ∀ id, o ≤ id ∧ id < o + 6 → μ' id = μ id) : PR a o μ' := by
  have e0 := e o (by omega)
  have e1 := e (o + 1) (by omega)
  have e2 := e (o + 2) (by omega)
  have e3 := e (o + 3) (by omega)
  have e4 := e (o + 4) (by omega)
  have e5 := e (o + 5) (by omega)
  unfold PR
  rw [e0, e1, e2, e3, e4, e5]
  exact h
theorem upd_s (f : x_St) (k : Nat) (x : Int32) : upd f k x k = x := if_pos rfl
theorem upd_n (f : x_St) {k j : Nat} (x : Int32) (h : j ≠ k) : upd f k x j = f j := if_neg h
theorem PR.w5 {a : x_St} {o : Nat} {μ μ' : x_Mem} {x : Int32} (h : PR a o μ) (e : μ' = upd2 μ o 5 x) : PR (upd a 7 x) o μ' := by
  subst e
  obtain ⟨h1, h2, h3, h4, h5, g5, g6, g7, g8, g9, g10, g12⟩ := h
  refine ⟨fun k hk => ?_, fun k hk => ?_, fun k hk => ?_, fun k hk => ?_, fun k hk => ?_, ?_, ?_, ?_, ?_, ?_, ?_, ?_⟩
  · rw [upd2_ne _ _ _ (by omega), upd_n _ _ (by omega)]; exact h1 k hk
  · rw [upd2_ne _ _ _ (by omega), upd_n _ _ (by omega)]; exact h2 k hk
  · rw [upd2_ne _ _ _ (by omega), upd_n _ _ (by omega)]; exact h3 k hk
  · rw [upd2_ne _ _ _ (by omega), upd_n _ _ (by omega)]; exact h4 k hk
  · rw [upd2_ne _ _ _ (by omega), upd_n _ _ (by omega)]; exact h5 k hk
  · rw [upd2_at, upd_s, upd_s]
  · rw [upd2_at, upd_n _ _ (by decide), upd_n _ _ (by decide)]; exact g6
  · rw [upd2_at, upd_n _ _ (by decide), upd_n _ _ (by decide)]; exact g7
  · rw [upd2_at, upd_n _ _ (by decide), upd_n _ _ (by decide)]; exact g8
  · rw [upd2_at, upd_n _ _ (by decide), upd_n _ _ (by decide)]; exact g9
  · rw [upd2_at, upd_n _ _ (by decide), upd_n _ _ (by decide)]; exact g10
  · rw [upd2_at, upd_n _ _ (by decide), upd_n _ _ (by decide)]; exact g12
theorem PR.w6 {a : x_St} {o : Nat} {μ μ' : x_Mem} {x : Int32} (h : PR a o μ) (e : μ' = upd2 μ o 6 x) : PR (upd a 1 x) o μ' := by
  subst e
  obtain ⟨h1, h2, h3, h4, h5, g5, g6, g7, g8, g9, g10, g12⟩ := h
  refine ⟨fun k hk => ?_, fun k hk => ?_, fun k hk => ?_, fun k hk => ?_, fun k hk => ?_, ?_, ?_, ?_, ?_, ?_, ?_, ?_⟩
  · rw [upd2_ne _ _ _ (by omega), upd_n _ _ (by omega)]; exact h1 k hk
  · rw [upd2_ne _ _ _ (by omega), upd_n _ _ (by omega)]; exact h2 k hk
  · rw [upd2_ne _ _ _ (by omega), upd_n _ _ (by omega)]; exact h3 k hk
  · rw [upd2_ne _ _ _ (by omega), upd_n _ _ (by omega)]; exact h4 k hk
  · rw [upd2_ne _ _ _ (by omega), upd_n _ _ (by omega)]; exact h5 k hk
  · rw [upd2_at, upd_n _ _ (by decide), upd_n _ _ (by decide)]; exact g5
  · rw [upd2_at, upd_s, upd_s]
  · rw [upd2_at, upd_n _ _ (by decide), upd_n _ _ (by decide)]; exact g7
  · rw [upd2_at, upd_n _ _ (by decide), upd_n _ _ (by decide)]; exact g8
  · rw [upd2_at, upd_n _ _ (by decide), upd_n _ _ (by decide)]; exact g9
  · rw [upd2_at, upd_n _ _ (by decide), upd_n _ _ (by decide)]; exact g10
  · rw [upd2_at, upd_n _ _ (by decide), upd_n _ _ (by decide)]; exact g12
theorem PR.w7 {a : x_St} {o : Nat} {μ μ' : x_Mem} {x : Int32} (h : PR a o μ) (e : μ' = upd2 μ o 7 x) : PR (upd a 2 x) o μ' := by
  subst e
  obtain ⟨h1, h2, h3, h4, h5, g5, g6, g7, g8, g9, g10, g12⟩ := h
  refine ⟨fun k hk => ?_, fun k hk => ?_, fun k hk => ?_, fun k hk => ?_, fun k hk => ?_, ?_, ?_, ?_, ?_, ?_, ?_, ?_⟩
  · rw [upd2_ne _ _ _ (by omega), upd_n _ _ (by omega)]; exact h1 k hk
  · rw [upd2_ne _ _ _ (by omega), upd_n _ _ (by omega)]; exact h2 k hk
  · rw [upd2_ne _ _ _ (by omega), upd_n _ _ (by omega)]; exact h3 k hk
  · rw [upd2_ne _ _ _ (by omega), upd_n _ _ (by omega)]; exact h4 k hk
  · rw [upd2_ne _ _ _ (by omega), upd_n _ _ (by omega)]; exact h5 k hk
  · rw [upd2_at, upd_n _ _ (by decide), upd_n _ _ (by decide)]; exact g5
  · rw [upd2_at, upd_n _ _ (by decide), upd_n _ _ (by decide)]; exact g6
  · rw [upd2_at, upd_s, upd_s]
  · rw [upd2_at, upd_n _ _ (by decide), upd_n _ _ (by decide)]; exact g8
  · rw [upd2_at, upd_n _ _ (by decide), upd_n _ _ (by decide)]; exact g9
  · rw [upd2_at, upd_n _ _ (by decide), upd_n _ _ (by decide)]; exact g10
  · rw [upd2_at, upd_n _ _ (by decide), upd_n _ _ (by decide)]; exact g12
theorem PR.w8 {a : x_St} {o : Nat} {μ μ' : x_Mem} {x : Int32} (h : PR a o μ) (e : μ' = upd2 μ o 8 x) : PR (upd a 3 x) o μ' := by
  subst e
  obtain ⟨h1, h2, h3, h4, h5, g5, g6, g7, g8, g9, g10, g12⟩ := h
  refine ⟨fun k hk => ?_, fun k hk => ?_, fun k hk => ?_, fun k hk => ?_, fun k hk => ?_, ?_, ?_, ?_, ?_, ?_, ?_, ?_⟩
  · rw [upd2_ne _ _ _ (by omega), upd_n _ _ (by omega)]; exact h1 k hk
  · rw [upd2_ne _ _ _ (by omega), upd_n _ _ (by omega)]; exact h2 k hk
  · rw [upd2_ne _ _ _ (by omega), upd_n _ _ (by omega)]; exact h3 k hk
  · rw [upd2_ne _ _ _ (by omega), upd_n _ _ (by omega)]; exact h4 k hk
  · rw [upd2_ne _ _ _ (by omega), upd_n _ _ (by omega)]; exact h5 k hk
  · rw [upd2_at, upd_n _ _ (by decide), upd_n _ _ (by decide)]; exact g5
  · rw [upd2_at, upd_n _ _ (by decide), upd_n _ _ (by decide)]; exact g6
  · rw [upd2_at, upd_n _ _ (by decide), upd_n _ _ (by decide)]; exact g7
  · rw [upd2_at, upd_s, upd_s]
  · rw [upd2_at, upd_n _ _ (by decide), upd_n _ _ (by decide)]; exact g9
  · rw [upd2_at, upd_n _ _ (by decide), upd_n _ _ (by decide)]; exact g10
  · rw [upd2_at, upd_n _ _ (by decide), upd_n _ _ (by decide)]; exact g12
theorem PR.w9 {a : x_St} {o : Nat} {μ μ' : x_Mem} {x : Int32} (h : PR a o μ) (e : μ' = upd2 μ o 9 x) : PR (upd a 4 x) o μ' := by
  subst e
  obtain ⟨h1, h2, h3, h4, h5, g5, g6, g7, g8, g9, g10, g12⟩ := h
  refine ⟨fun k hk => ?_, fun k hk => ?_, fun k hk => ?_, fun k hk => ?_, fun k hk => ?_, ?_, ?_, ?_, ?_, ?_, ?_, ?_⟩
  · rw [upd2_ne _ _ _ (by omega), upd_n _ _ (by omega)]; exact h1 k hk
  · rw [upd2_ne _ _ _ (by omega), upd_n _ _ (by omega)]; exact h2 k hk
  · rw [upd2_ne _ _ _ (by omega), upd_n _ _ (by omega)]; exact h3 k hk
  · rw [upd2_ne _ _ _ (by omega), upd_n _ _ (by omega)]; exact h4 k hk
  · rw [upd2_ne _ _ _ (by omega), upd_n _ _ (by omega)]; exact h5 k hk
  · rw [upd2_at, upd_n _ _ (by decide), upd_n _ _ (by decide)]; exact g5
  · rw [upd2_at, upd_n _ _ (by decide), upd_n _ _ (by decide)]; exact g6
  · rw [upd2_at, upd_n _ _ (by decide), upd_n _ _ (by decide)]; exact g7
  · rw [upd2_at, upd_n _ _ (by decide), upd_n _ _ (by decide)]; exact g8
  · rw [upd2_at, upd_s, upd_s]
  · rw [upd2_at, upd_n _ _ (by decide), upd_n _ _ (by decide)]; exact g10
  · rw [upd2_at, upd_n _ _ (by decide), upd_n _ _ (by decide)]; exact g12
theorem PR.w10 {a : x_St} {o : Nat} {μ μ' : x_Mem} {x : Int32} (h : PR a o μ) (e : μ' = upd2 μ o 10 x) : PR (upd a 5 x) o μ' := by
  subst e
  obtain ⟨h1, h2, h3, h4, h5, g5, g6, g7, g8, g9, g10, g12⟩ := h
  refine ⟨fun k hk => ?_, fun k hk => ?_, fun k hk => ?_, fun k hk => ?_, fun k hk => ?_, ?_, ?_, ?_, ?_, ?_, ?_, ?_⟩
  · rw [upd2_ne _ _ _ (by omega), upd_n _ _ (by omega)]; exact h1 k hk
  · rw [upd2_ne _ _ _ (by omega), upd_n _ _ (by omega)]; exact h2 k hk
  · rw [upd2_ne _ _ _ (by omega), upd_n _ _ (by omega)]; exact h3 k hk
  · rw [upd2_ne _ _ _ (by omega), upd_n _ _ (by omega)]; exact h4 k hk
  · rw [upd2_ne _ _ _ (by omega), upd_n _ _ (by omega)]; exact h5 k hk
  · rw [upd2_at, upd_n _ _ (by decide), upd_n _ _ (by decide)]; exact g5
  · rw [upd2_at, upd_n _ _ (by decide), upd_n _ _ (by decide)]; exact g6
  · rw [upd2_at, upd_n _ _ (by decide), upd_n _ _ (by decide)]; exact g7
  · rw [upd2_at, upd_n _ _ (by decide), upd_n _ _ (by decide)]; exact g8
  · rw [upd2_at, upd_n _ _ (by decide), upd_n _ _ (by decide)]; exact g9
  · rw [upd2_at, upd_s, upd_s]
  · rw [upd2_at, upd_n _ _ (by decide), upd_n _ _ (by decide)]; exact g12
theorem PR.w12 {a : x_St} {o : Nat} {μ μ' : x_Mem} {x : Int32} (h : PR a o μ) (e : μ' = upd2 μ o 12 x) : PR (upd a 6 x) o μ' := by
  subst e
  obtain ⟨h1, h2, h3, h4, h5, g5, g6, g7, g8, g9, g10, g12⟩ := h
  refine ⟨fun k hk => ?_, fun k hk => ?_, fun k hk => ?_, fun k hk => ?_, fun k hk => ?_, ?_, ?_, ?_, ?_, ?_, ?_, ?_⟩
  · rw [upd2_ne _ _ _ (by omega), upd_n _ _ (by omega)]; exact h1 k hk
  · rw [upd2_ne _ _ _ (by omega), upd_n _ _ (by omega)]; exact h2 k hk
  · rw [upd2_ne _ _ _ (by omega), upd_n _ _ (by omega)]; exact h3 k hk
  · rw [upd2_ne _ _ _ (by omega), upd_n _ _ (by omega)]; exact h4 k hk
  · rw [upd2_ne _ _ _ (by omega), upd_n _ _ (by omega)]; exact h5 k hk
  · rw [upd2_at, upd_n _ _ (by decide), upd_n _ _ (by decide)]; exact g5
  · rw [upd2_at, upd_n _ _ (by decide), upd_n _ _ (by decide)]; exact g6
  · rw [upd2_at, upd_n _ _ (by decide), upd_n _ _ (by decide)]; exact g7
  · rw [upd2_at, upd_n _ _ (by decide), upd_n _ _ (by decide)]; exact g8
  · rw [upd2_at, upd_n _ _ (by decide), upd_n _ _ (by decide)]; exact g9
  · rw [upd2_at, upd_n _ _ (by decide), upd_n _ _ (by decide)]; exact g10
  · rw [upd2_at, upd_s, upd_s]
theorem PR.w11 {a : x_St} {o : Nat} {μ μ' : x_Mem} {x : Int32} (h : PR a o μ) (e : μ' = upd2 μ o 11 x) : PR a o μ' := by
  subst e
  obtain ⟨h1, h2, h3, h4, h5, g5, g6, g7, g8, g9, g10, g12⟩ := h
  refine ⟨fun k hk => ?_, fun k hk => ?_, fun k hk => ?_, fun k hk => ?_, fun k hk => ?_, ?_, ?_, ?_, ?_, ?_, ?_, ?_⟩
  · rw [upd2_ne _ _ _ (by omega)]; exact h1 k hk
  · rw [upd2_ne _ _ _ (by omega)]; exact h2 k hk
  · rw [upd2_ne _ _ _ (by omega)]; exact h3 k hk
  · rw [upd2_ne _ _ _ (by omega)]; exact h4 k hk
  · rw [upd2_ne _ _ _ (by omega)]; exact h5 k hk
  · rw [upd2_at, upd_n _ _ (by decide)]; exact g5
  · rw [upd2_at, upd_n _ _ (by decide)]; exact g6
  · rw [upd2_at, upd_n _ _ (by decide)]; exact g7
  · rw [upd2_at, upd_n _ _ (by decide)]; exact g8
  · rw [upd2_at, upd_n _ _ (by decide)]; exact g9
  · rw [upd2_at, upd_n _ _ (by decide)]; exact g10
  · rw [upd2_at, upd_n _ _ (by decide)]; exact g12
theorem PR.a1 {a : x_St} {o i : Nat} {μ μ' : x_Mem} {x : Int32} (h : PR a o μ) (e : μ' = upd2 μ (o + 1) i x) (hi : i < 16) : PR (upd a (8 + i) x) o μ' := by
  subst e
  obtain ⟨h1, h2, h3, h4, h5, g5, g6, g7, g8, g9, g10, g12⟩ := h
  refine ⟨fun k hk => ?_, fun k hk => ?_, fun k hk => ?_, fun k hk => ?_, fun k hk => ?_, ?_, ?_, ?_, ?_, ?_, ?_, ?_⟩
  · by_cases hki : k = i
    · subst hki; rw [upd2_at, upd_s, upd_s]
    · rw [upd2_at, upd_n _ _ hki, upd_n _ _ (by omega)]; exact h1 k hk
  · rw [upd2_ne _ _ _ (by omega), upd_n _ _ (by omega)]; exact h2 k hk
  · rw [upd2_ne _ _ _ (by omega), upd_n _ _ (by omega)]; exact h3 k hk
  · rw [upd2_ne _ _ _ (by omega), upd_n _ _ (by omega)]; exact h4 k hk
  · rw [upd2_ne _ _ _ (by omega), upd_n _ _ (by omega)]; exact h5 k hk
  · rw [upd2_ne _ _ _ (by omega), upd_n _ _ (by omega)]; exact g5
  · rw [upd2_ne _ _ _ (by omega), upd_n _ _ (by omega)]; exact g6
  · rw [upd2_ne _ _ _ (by omega), upd_n _ _ (by omega)]; exact g7
  · rw [upd2_ne _ _ _ (by omega), upd_n _ _ (by omega)]; exact g8
  · rw [upd2_ne _ _ _ (by omega), upd_n _ _ (by omega)]; exact g9
  · rw [upd2_ne _ _ _ (by omega), upd_n _ _ (by omega)]; exact g10
  · rw [upd2_ne _ _ _ (by omega), upd_n _ _ (by omega)]; exact g12
theorem PR.a2 {a : x_St} {o i : Nat} {μ μ' : x_Mem} {x : Int32} (h : PR a o μ) (e : μ' = upd2 μ (o + 2) i x) (hi : i < 8) : PR (upd a (24 + 3 * i) x) o μ' := by
  subst e
  obtain ⟨h1, h2, h3, h4, h5, g5, g6, g7, g8, g9, g10, g12⟩ := h
  refine ⟨fun k hk => ?_, fun k hk => ?_, fun k hk => ?_, fun k hk => ?_, fun k hk => ?_, ?_, ?_, ?_, ?_, ?_, ?_, ?_⟩
  · rw [upd2_ne _ _ _ (by omega), upd_n _ _ (by omega)]; exact h1 k hk
  · by_cases hki : k = i
    · subst hki; rw [upd2_at, upd_s, upd_s]
    · rw [upd2_at, upd_n _ _ hki, upd_n _ _ (by omega)]; exact h2 k hk
  · rw [upd2_ne _ _ _ (by omega), upd_n _ _ (by omega)]; exact h3 k hk
  · rw [upd2_ne _ _ _ (by omega), upd_n _ _ (by omega)]; exact h4 k hk
  · rw [upd2_ne _ _ _ (by omega), upd_n _ _ (by omega)]; exact h5 k hk
  · rw [upd2_ne _ _ _ (by omega), upd_n _ _ (by omega)]; exact g5
  · rw [upd2_ne _ _ _ (by omega), upd_n _ _ (by omega)]; exact g6
  · rw [upd2_ne _ _ _ (by omega), upd_n _ _ (by omega)]; exact g7
  · rw [upd2_ne _ _ _ (by omega), upd_n _ _ (by omega)]; exact g8
  · rw [upd2_ne _ _ _ (by omega), upd_n _ _ (by omega)]; exact g9
  · rw [upd2_ne _ _ _ (by omega), upd_n _ _ (by omega)]; exact g10
  · rw [upd2_ne _ _ _ (by omega), upd_n _ _ (by omega)]; exact g12
theorem PR.a3 {a : x_St} {o i : Nat} {μ μ' : x_Mem} {x : Int32} (h : PR a o μ) (e : μ' = upd2 μ (o + 3) i x) (hi : i < 8) : PR (upd a (24 + 3 * i + 1) x) o μ' := by
  subst e
  obtain ⟨h1, h2, h3, h4, h5, g5, g6, g7, g8, g9, g10, g12⟩ := h
  refine ⟨fun k hk => ?_, fun k hk => ?_, fun k hk => ?_, fun k hk => ?_, fun k hk => ?_, ?_, ?_, ?_, ?_, ?_, ?_, ?_⟩
  · rw [upd2_ne _ _ _ (by omega), upd_n _ _ (by omega)]; exact h1 k hk
  · rw [upd2_ne _ _ _ (by omega), upd_n _ _ (by omega)]; exact h2 k hk
  · by_cases hki : k = i
    · subst hki; rw [upd2_at, upd_s, upd_s]
    · rw [upd2_at, upd_n _ _ hki, upd_n _ _ (by omega)]; exact h3 k hk
  · rw [upd2_ne _ _ _ (by omega), upd_n _ _ (by omega)]; exact h4 k hk
  · rw [upd2_ne _ _ _ (by omega), upd_n _ _ (by omega)]; exact h5 k hk
  · rw [upd2_ne _ _ _ (by omega), upd_n _ _ (by omega)]; exact g5
  · rw [upd2_ne _ _ _ (by omega), upd_n _ _ (by omega)]; exact g6
  · rw [upd2_ne _ _ _ (by omega), upd_n _ _ (by omega)]; exact g7
  · rw [upd2_ne _ _ _ (by omega), upd_n _ _ (by omega)]; exact g8
  · rw [upd2_ne _ _ _ (by omega), upd_n _ _ (by omega)]; exact g9
  · rw [upd2_ne _ _ _ (by omega), upd_n _ _ (by omega)]; exact g10
  · rw [upd2_ne _ _ _ (by omega), upd_n _ _ (by omega)]; exact g12
theorem PR.a4 {a : x_St} {o i : Nat} {μ μ' : x_Mem} {x : Int32} (h : PR a o μ) (e : μ' = upd2 μ (o + 4) i x) (hi : i < 8) : PR (upd a (24 + 3 * i + 2) x) o μ' := by
  subst e
  obtain ⟨h1, h2, h3, h4, h5, g5, g6, g7, g8, g9, g10, g12⟩ := h
  refine ⟨fun k hk => ?_, fun k hk => ?_, fun k hk => ?_, fun k hk => ?_, fun k hk => ?_, ?_, ?_, ?_, ?_, ?_, ?_, ?_⟩
  · rw [upd2_ne _ _ _ (by omega), upd_n _ _ (by omega)]; exact h1 k hk
  · rw [upd2_ne _ _ _ (by omega), upd_n _ _ (by omega)]; exact h2 k hk
  · rw [upd2_ne _ _ _ (by omega), upd_n _ _ (by omega)]; exact h3 k hk
  · by_cases hki : k = i
    · subst hki; rw [upd2_at, upd_s, upd_s]
    · rw [upd2_at, upd_n _ _ hki, upd_n _ _ (by omega)]; exact h4 k hk
  · rw [upd2_ne _ _ _ (by omega), upd_n _ _ (by omega)]; exact h5 k hk
  · rw [upd2_ne _ _ _ (by omega), upd_n _ _ (by omega)]; exact g5
  · rw [upd2_ne _ _ _ (by omega), upd_n _ _ (by omega)]; exact g6
  · rw [upd2_ne _ _ _ (by omega), upd_n _ _ (by omega)]; exact g7
  · rw [upd2_ne _ _ _ (by omega), upd_n _ _ (by omega)]; exact g8
  · rw [upd2_ne _ _ _ (by omega), upd_n _ _ (by omega)]; exact g9
  · rw [upd2_ne _ _ _ (by omega), upd_n _ _ (by omega)]; exact g10
  · rw [upd2_ne _ _ _ (by omega), upd_n _ _ (by omega)]; exact g12
theorem PR.a5 {a : x_St} {o i : Nat} {μ μ' : x_Mem} {x : Int32} (h : PR a o μ) (e : μ' = upd2 μ (o + 5) i x) (hi : i < 10) : PR (upd a (48 + i) x) o μ' := by
  subst e
  obtain ⟨h1, h2, h3, h4, h5, g5, g6, g7, g8, g9, g10, g12⟩ := h
  refine ⟨fun k hk => ?_, fun k hk => ?_, fun k hk => ?_, fun k hk => ?_, fun k hk => ?_, ?_, ?_, ?_, ?_, ?_, ?_, ?_⟩
  · rw [upd2_ne _ _ _ (by omega), upd_n _ _ (by omega)]; exact h1 k hk
  · rw [upd2_ne _ _ _ (by omega), upd_n _ _ (by omega)]; exact h2 k hk
  · rw [upd2_ne _ _ _ (by omega), upd_n _ _ (by omega)]; exact h3 k hk
  · rw [upd2_ne _ _ _ (by omega), upd_n _ _ (by omega)]; exact h4 k hk
  · by_cases hki : k = i
    · subst hki; rw [upd2_at, upd_s, upd_s]
    · rw [upd2_at, upd_n _ _ hki, upd_n _ _ (by omega)]; exact h5 k hk
  · rw [upd2_ne _ _ _ (by omega), upd_n _ _ (by omega)]; exact g5
  · rw [upd2_ne _ _ _ (by omega), upd_n _ _ (by omega)]; exact g6
  · rw [upd2_ne _ _ _ (by omega), upd_n _ _ (by omega)]; exact g7
  · rw [upd2_ne _ _ _ (by omega), upd_n _ _ (by omega)]; exact g8
  · rw [upd2_ne _ _ _ (by omega), upd_n _ _ (by omega)]; exact g9
  · rw [upd2_ne _ _ _ (by omega), upd_n _ _ (by omega)]; exact g10
  · rw [upd2_ne _ _ _ (by omega), upd_n _ _ (by omega)]; exact g12
end
section
/-! PURE 1: hours keep their bounds; who moves what -/
/-- beliefs alone may differ -/
def sameB (a b : x_St) : Prop := ∀ j, (j < 24 ∨ 48 ≤ j ∨ j % 3 ≠ 2) → b j = a j
theorem sameB.rf (a : x_St) : sameB a a := fun _ _ => rfl
theorem sameB.up {a b : x_St} (h : sameB a b) {p : Nat} (hp : p < 8) (x : Int32) : sameB a (upd b (24 + 3 * p + 2) x) := fun j hj => by rw [upd_n _ _ (by omega)]; exact h j hj
theorem sameB_pn {a b : x_St} (h : sameB a b) : pn b = pn a := by unfold pn; rw [h 7 (by omega)]
theorem moveTo_same (a : x_St) (b : Int32) : ∀ n, n ≤ 8 → sameB a (moveTo a b n)
  | 0, _ => sameB.rf a
  | n + 1, h => by
    unfold moveTo
    split
    · exact (moveTo_same a b n (by omega)).up (by omega) _
    · exact moveTo_same a b n (by omega)
theorem moveTo_hi (a : x_St) (b : Int32) (p : Nat) : ∀ n, n ≤ p → moveTo a b n (24 + 3 * p + 2) = a (24 + 3 * p + 2)
  | 0, _ => rfl
  | n + 1, h => by
    unfold moveTo
    split
    · rw [upd_n _ _ (by omega)]; exact moveTo_hi a b p n (by omega)
    · exact moveTo_hi a b p n (by omega)
theorem moveTo_lo (a : x_St) (b : Int32) (p : Nat) : ∀ n, p < n → moveTo a b n (24 + 3 * p + 2) = if a (24 + 3 * p + 1) = -1 then clampF (a (24 + 3 * p + 2) + b) else a (24 + 3 * p + 2)
  | 0, h => by omega
  | n + 1, h => by
    unfold moveTo
    by_cases e : p = n
    · subst e
      split
      · rw [upd_s]
      · exact moveTo_hi a b p p (Nat.le_refl p)
    · split
      · rw [upd_n _ _ (by omega)]; exact moveTo_lo a b p n (by omega)
      · exact moveTo_lo a b p n (by omega)
theorem swayTo_same (a : x_St) : ∀ n, n ≤ 8 → sameB a (swayTo a n)
  | 0, _ => sameB.rf a
  | n + 1, h => by unfold swayTo; exact (swayTo_same a n (by omega)).up (by omega) _
theorem swayTo_hi (a : x_St) (p : Nat) : ∀ n, n ≤ p → swayTo a n (24 + 3 * p + 2) = a (24 + 3 * p + 2)
  | 0, _ => rfl
  | n + 1, h => by unfold swayTo; rw [upd_n _ _ (by omega)]; exact swayTo_hi a p n (by omega)
theorem swayTo_lo (a : x_St) (p : Nat) : ∀ n, p < n → swayTo a n (24 + 3 * p + 2) = swayV a p
  | 0, h => by omega
  | n + 1, h => by
    unfold swayTo
    by_cases e : p = n
    · subst e; rw [upd_s]
    · rw [upd_n _ _ (by omega)]; exact swayTo_lo a p n (by omega)
-- numbers
theorem nI_T {n : Nat} (h : n < 2 ^ 31) : (nI n).toInt = (n : Int) := nI_toInt h
theorem i32_add {x y : Int32} {a b : Int} (hx : x.toInt = a) (hy : y.toInt = b) (h1 : -2147483648 ≤ a + b) (h2 : a + b < 2147483648) : (x + y).toInt = a + b := by
  rw [Int32.toInt_add, hx, hy]
  exact Int.bmod_eq_of_le (by omega) (by omega)
theorem i32_sub {x y : Int32} {a b : Int} (hx : x.toInt = a) (hy : y.toInt = b) (h1 : -2147483648 ≤ a - b) (h2 : a - b < 2147483648) : (x - y).toInt = a - b := by
  rw [Int32.toInt_sub, hx, hy]
  exact Int.bmod_eq_of_le (by omega) (by omega)
theorem i32_mul {x y : Int32} {a b : Int} (hx : x.toInt = a) (hy : y.toInt = b) (h1 : -2147483648 ≤ a * b) (h2 : a * b < 2147483648) : (x * y).toInt = a * b := by
  rw [Int32.toInt_mul, hx, hy]
  exact Int.bmod_eq_of_le (by omega) (by omega)
theorem i32_of {x : Int32} {n : Nat} (h : x.toInt = (n : Int)) (hn : n < 2 ^ 31) : x = nI n := Int32.toInt_inj.mp (by rw [h, nI_T hn])
theorem maxI_T (x y : Int32) : (maxI x y).toInt = if x.toInt < y.toInt then y.toInt else x.toInt := by
  unfold maxI
  by_cases h : x < y
  · rw [if_pos h, if_pos (Int32.lt_iff_toInt_lt.mp h)]
  · rw [if_neg h, if_neg (fun q => h (Int32.lt_iff_toInt_lt.mpr q))]
theorem minI_T (x y : Int32) : (minI x y).toInt = if y.toInt < x.toInt then y.toInt else x.toInt := by
  unfold minI
  by_cases h : y < x
  · rw [if_pos h, if_pos (Int32.lt_iff_toInt_lt.mp h)]
  · rw [if_neg h, if_neg (fun q => h (Int32.lt_iff_toInt_lt.mpr q))]
theorem clampF_in (x : Int32) : ∃ b, b < 100 ∧ clampF x = nI b := by
  have h : (clampF x).toInt = if (0 : Int) < (if x.toInt < 99 then x.toInt else 99) then (if x.toInt < 99 then x.toInt else 99) else 0 := by
    unfold clampF
    rw [maxI_T, minI_T]
    rfl
  refine ⟨(clampF x).toInt.toNat, ?_, i32_of ?_ ?_⟩ <;> (rw [h]; split <;> split <;> omega)
theorem cntTo_nat (f : Nat → Bool) : ∀ n, ∃ c, c ≤ n ∧ cntTo 0 f n = nI c
  | 0 => ⟨0, Nat.le_refl 0, rfl⟩
  | n + 1 => by
    obtain ⟨c, h1, h2⟩ := cntTo_nat f n
    unfold cntTo
    split
    · exact ⟨c + 1, by omega, by rw [h2, nI_1]⟩
    · exact ⟨c, by omega, h2⟩
theorem cntTo_pos (f : Nat → Bool) {p : Nat} (hp : f p = true) : ∀ n, p < n → n ≤ 8 → ∃ c, 0 < c ∧ c ≤ n ∧ cntTo 0 f n = nI c
  | 0, h, _ => by omega
  | n + 1, h, h8 => by
    unfold cntTo
    by_cases e : p = n
    · subst e
      obtain ⟨c, h1, h2⟩ := cntTo_nat f p
      rw [if_pos hp]
      exact ⟨c + 1, by omega, by omega, by rw [h2, nI_1]⟩
    · obtain ⟨c, h0, h1, h2⟩ := cntTo_pos f hp n (by omega) (by omega)
      split
      · exact ⟨c + 1, by omega, by omega, by rw [h2, nI_1]⟩
      · exact ⟨c, h0, by omega, h2⟩
theorem withB_self (a : x_St) (p : Nat) : withB a p p = true := by simp [withB]
theorem numWith_pos {a : x_St} {p : Nat} (hp : p < pn a) (h8 : pn a ≤ 8) : ∃ c, 0 < c ∧ c ≤ 8 ∧ numWith a p = nI c := by
  obtain ⟨c, h0, h1, h2⟩ := cntTo_pos (withB a p) (withB_self a p) (pn a) hp h8
  exact ⟨c, h0, by omega, h2⟩
/-- where one is, as a place from 0 on -/
def plc (a : x_St) (p : Nat) : Nat := (a (24 + 3 * p + 1) + 1).toNatClampNeg
theorem plc_eq {a : x_St} (h : WF a) {p : Nat} (hp : p < 8) : a (24 + 3 * p + 1) + 1 = nI (plc a p) := by
  unfold plc
  rcases h.2.2.2.1 p hp with e | ⟨w, hw, e⟩
  · rw [e]; rfl
  · rw [e, nI_1, nI_clamp (by omega)]
theorem plc_lt {a : x_St} (h : WF a) {p : Nat} (hp : p < 8) : plc a p < 18 := by
  unfold plc
  rcases h.2.2.2.1 p hp with e | ⟨w, hw, e⟩
  · rw [e]; decide
  · rw [e, nI_1, nI_clamp (by omega)]; omega
theorem plc_iff {a : x_St} (h : WF a) {p q : Nat} (hp : p < 8) (hq : q < 8) : plc a p = plc a q ↔ a (24 + 3 * p + 1) = a (24 + 3 * q + 1) := by
  constructor
  · intro e
    have e1 := plc_eq h hp
    have e2 := plc_eq h hq
    rw [e, ← e2] at e1
    have := congrArg (fun z : Int32 => z - 1) e1
    simpa using this
  · intro e
    unfold plc
    rw [e]
-- means and bounds of beliefs
theorem sumTo_nat (f : Nat → Int32) (B : Nat) : ∀ n, n ≤ 8 → (∀ p, p < n → ∃ b, b ≤ B ∧ f p = nI b) → B < 100000 → ∃ s, s ≤ n * B ∧ sumTo f n = nI s
  | 0, _, _, _ => ⟨0, by omega, rfl⟩
  | n + 1, h8, h, hB => by
    obtain ⟨s, h1, h2⟩ := sumTo_nat f B n (by omega) (fun p hp => h p (by omega)) hB
    obtain ⟨b, hb, e⟩ := h n (by omega)
    refine ⟨s + b, ?_, ?_⟩
    · have : (n + 1) * B = n * B + B := by rw [Nat.add_mul, Nat.one_mul]
      omega
    · unfold sumTo; rw [h2, e, nI_add]
/-- a sum over some of n beliefs below 100, and how many they are -/
theorem sumWith_le (a : x_St) (f : Nat → Bool) : ∀ n, n ≤ 8 → (∀ p, p < 8 → ∃ b, b < 100 ∧ a (24 + 3 * p + 2) = nI b) → ∃ s c, sumTo (fun o => if f o = true then a (24 + 3 * o + 2) else 0) n = nI s ∧ cntTo 0 f n = nI c ∧ s ≤ 99 * c ∧ c ≤ n
  | 0, _, _ => ⟨0, 0, rfl, rfl, by omega, by omega⟩
  | n + 1, h8, h => by
    obtain ⟨s, c, h1, h2, h3, h4⟩ := sumWith_le a f n (by omega) h
    obtain ⟨b, hb, e⟩ := h n (by omega)
    unfold sumTo cntTo
    rw [h1, h2]
    by_cases hf : f n = true
    · rw [if_pos hf, if_pos hf, e, nI_add, nI_1]
      exact ⟨s + b, c + 1, rfl, rfl, by omega, by omega⟩
    · rw [if_neg hf, if_neg hf]
      exact ⟨s, c, by simp, rfl, by omega, by omega⟩
theorem meanF_in {a : x_St} (hI : WF a) {p : Nat} (hp : p < pn a) : ∃ m, m < 100 ∧ meanF a p = nI m := by
  obtain ⟨s, c, h1, h2, h3, h4⟩ := sumWith_le a (withB a p) (pn a) hI.1 hI.2.2.2.2.1
  obtain ⟨c', h0, h8, e⟩ := numWith_pos hp hI.1
  have ec : c' = c := by
    have : nI c' = nI c := by rw [← e, ← h2]; rfl
    exact (nI_eq (by omega) (by have := hI.1; omega)).mp this
  have hs : sumWith a p = nI s := h1
  refine ⟨s / c', ?_, ?_⟩
  · rw [Nat.div_lt_iff_lt_mul h0]; omega
  · unfold meanF
    rw [hs, e, pk_div (by have := hI.1; omega) h0 (by omega)]
theorem swayV_in {a : x_St} (hI : WF a) {p : Nat} (hp : p < pn a) : ∃ b, b < 100 ∧ swayV a p = nI b := by
  have h8 := hI.1
  obtain ⟨m, hm, em⟩ := meanF_in hI hp
  obtain ⟨b, hb, eb⟩ := hI.2.2.2.2.1 p (by omega)
  unfold swayV
  rw [em, eb]
  by_cases c1 : nI b < nI m
  · have := (nI_ltI (by omega) (by omega)).mp c1
    rw [if_pos c1]
    exact ⟨b + 1, by omega, nI_1 b⟩
  · rw [if_neg c1]
    by_cases c2 : nI m < nI b
    · have := (nI_ltI (by omega) (by omega)).mp c2
      rw [if_pos c2]
      exact ⟨b - 1, by omega, by have h := pk_sub (a := b) (b := 1) (by omega); rw [← h]; rfl⟩
    · rw [if_neg c2]; exact ⟨b, hb, rfl⟩
/-- the bounds of a line whose beliefs alone changed -/
theorem WF.beliefs {a b : x_St} (h : WF a) (hs : sameB a b) (hb : ∀ p, p < 8 → ∃ x, x < 100 ∧ b (24 + 3 * p + 2) = nI x) : WF b := by
  obtain ⟨h1, h2, h3, h4, h5, h6, h7, h8, h9, h10⟩ := h
  have e := sameB_pn hs
  refine ⟨by omega, by rw [hs 7 (by omega), e]; exact h2, fun p hp => ?_, fun p hp => ?_, hb, ?_, ?_, ?_, ?_, ?_⟩
  · rw [hs _ (by omega)]; exact h3 p hp
  · rw [hs _ (by omega)]; exact h4 p hp
  · rw [hs _ (by omega)]; exact h6
  · rw [hs _ (by omega)]; exact h7
  · rw [hs _ (by omega)]; exact h8
  · rw [hs _ (by omega)]; exact h9
  · rw [hs _ (by omega)]; exact h10
theorem WF.move {a : x_St} (h : WF a) (b : Int32) : WF (moveTo a b (pn a)) := by
  refine h.beliefs (moveTo_same a b _ h.1) (fun p hp => ?_)
  rcases Nat.lt_or_ge p (pn a) with q | q
  · rw [moveTo_lo a b p _ q]
    split
    · exact clampF_in _
    · exact h.2.2.2.2.1 p hp
  · rw [moveTo_hi a b p _ q]; exact h.2.2.2.2.1 p hp
theorem WF.sway {a : x_St} (h : WF a) : WF (swayF a) := by
  refine h.beliefs (swayTo_same a _ h.1) (fun p hp => ?_)
  unfold swayF
  rcases Nat.lt_or_ge p (pn a) with q | q
  · rw [swayTo_lo a p _ q]; exact swayV_in h q
  · rw [swayTo_hi a p _ q]; exact h.2.2.2.2.1 p hp
theorem upd_pn {a : x_St} {j : Nat} (hj : j ≠ 7) (x : Int32) : pn (upd a j x) = pn a := by unfold pn; rw [upd_n _ _ (by omega)]
theorem WF.up1 {a : x_St} (h : WF a) {t : Nat} (ht : t < 17) : WF (upd a 1 (nI t)) := by
  obtain ⟨h1, h2, h3, h4, h5, h6, h7, h8, h9, h10⟩ := h
  have e := upd_pn (a := a) (j := 1) (by decide) (nI t)
  refine ⟨by omega, by rw [upd_n _ _ (by omega), e]; exact h2, fun p hp => ?_, fun p hp => ?_, fun p hp => ?_, ⟨t, ht, upd_s _ _ _⟩, ?_, ?_, ?_, ?_⟩ <;> rw [upd_n _ _ (by omega)]
  · exact h3 p hp
  · exact h4 p hp
  · exact h5 p hp
  · exact h7
  · exact h8
  · exact h9
  · exact h10
theorem WF.up5 {a : x_St} (h : WF a) {f : Nat} (hf : f < 100000) : WF (upd a 5 (nI f)) := by
  obtain ⟨h1, h2, h3, h4, h5, h6, h7, h8, h9, h10⟩ := h
  have e := upd_pn (a := a) (j := 5) (by decide) (nI f)
  refine ⟨by omega, by rw [upd_n _ _ (by omega), e]; exact h2, fun p hp => ?_, fun p hp => ?_, fun p hp => ?_, ?_, ?_, ?_, ?_, ⟨f, hf, upd_s _ _ _⟩⟩ <;> rw [upd_n _ _ (by omega)]
  · exact h3 p hp
  · exact h4 p hp
  · exact h5 p hp
  · exact h6
  · exact h7
  · exact h8
  · exact h9
theorem WF.up0 {a : x_St} (h : WF a) (x : Int32) : WF (upd a 0 x) := by
  obtain ⟨h1, h2, h3, h4, h5, h6, h7, h8, h9, h10⟩ := h
  have e := upd_pn (a := a) (j := 0) (by decide) x
  refine ⟨by omega, by rw [upd_n _ _ (by omega), e]; exact h2, fun p hp => ?_, fun p hp => ?_, fun p hp => ?_, ?_, ?_, ?_, ?_, ?_⟩ <;> rw [upd_n _ _ (by omega)]
  · exact h3 p hp
  · exact h4 p hp
  · exact h5 p hp
  · exact h6
  · exact h7
  · exact h8
  · exact h9
  · exact h10
theorem fall_in {a : x_St} (h : WF a) : ∃ f, f < 100000 ∧ minI (a 5 + 1) 99999 = nI f := by
  obtain ⟨f, hf, e⟩ := h.2.2.2.2.2.2.2.2.2
  rw [e, nI_1]
  have ht : (minI (nI (f + 1)) 99999).toInt = if (99999 : Int) < ((f + 1 : Nat) : Int) then 99999 else ((f + 1 : Nat) : Int) := by
    rw [minI_T, nI_T (by omega)]; rfl
  rcases Nat.lt_or_ge 99999 (f + 1) with q | q
  · rw [if_pos (by omega)] at ht
    exact ⟨99999, by omega, i32_of ht (by omega)⟩
  · rw [if_neg (by omega)] at ht
    exact ⟨f + 1, by omega, i32_of ht (by omega)⟩
theorem WF.ride {a : x_St} (h : WF a) : WF (rideF a) ∧ pn (rideF a) = pn a := by
  unfold rideF
  split
  · next c =>
    split
    · obtain ⟨t, ht, e⟩ := h.2.2.2.2.2.1
      have ht' : t < 16 := by
        rw [e] at c
        exact (nI_ltI (b := 16) (by omega) (by decide)).mp c
      have h1 : WF (upd a 1 (a 1 + 1)) := by rw [e, nI_1]; exact h.up1 (by omega)
      have ep : pn (upd a 1 (a 1 + 1)) = pn a := upd_pn (by decide) _
      have := h1.move (a 3)
      rw [ep] at this
      exact ⟨this, (sameB_pn (moveTo_same _ (a 3) (pn a) h.1)).trans ep⟩
    · obtain ⟨f, hf, e⟩ := fall_in h
      have h1 : WF (upd a 5 (minI (a 5 + 1) 99999)) := by rw [e]; exact h.up5 hf
      have ep : pn (upd a 5 (minI (a 5 + 1) 99999)) = pn a := upd_pn (by decide) _
      have := h1.move (-a 4)
      rw [ep] at this
      exact ⟨this, (sameB_pn (moveTo_same _ (-a 4) (pn a) h.1)).trans ep⟩
  · exact ⟨h, rfl⟩
theorem WF.hour {a : x_St} (h : WF a) : WF (hourF a) := (h.ride.1.sway).up0 _
theorem hourF_pn {a : x_St} (h : WF a) : pn (hourF a) = pn a := by
  unfold hourF swayF
  rw [upd_pn (by decide), sameB_pn (swayTo_same _ _ h.ride.1.1), h.ride.2]
theorem WF.hours {a : x_St} (h : WF a) : ∀ n, WF (hoursF a n)
  | 0 => h
  | n + 1 => (WF.hours h n).hour
theorem hoursF_pn {a : x_St} (h : WF a) : ∀ n, pn (hoursF a n) = pn a
  | 0 => rfl
  | n + 1 => by
    show pn (hourF (hoursF a n)) = pn a
    rw [hourF_pn (h.hours n), hoursF_pn h n]
theorem PR.h0 {a : x_St} {o : Nat} {μ : x_Mem} (h : PR a o μ) (x : Int32) : PR (upd a 0 x) o μ := by
  obtain ⟨h1, h2, h3, h4, h5, g5, g6, g7, g8, g9, g10, g12⟩ := h
  refine ⟨fun k hk => ?_, fun k hk => ?_, fun k hk => ?_, fun k hk => ?_, fun k hk => ?_, ?_, ?_, ?_, ?_, ?_, ?_, ?_⟩ <;> rw [upd_n _ _ (by omega)]
  · exact h1 k hk
  · exact h2 k hk
  · exact h3 k hk
  · exact h4 k hk
  · exact h5 k hk
  · exact g5
  · exact g6
  · exact g7
  · exact g8
  · exact g9
  · exact g10
  · exact g12
end
section
/-! PURE 2: rows for the walks of an hour and of what is copied -/
theorem rideF_stay {a : x_St} {t : Nat} (ht : a 1 = nI t) (c : 16 ≤ nI t) : rideF a = a := by
  unfold rideF
  rw [ht, if_neg (Int32.not_lt.mpr c)]
theorem rideF_fall {a : x_St} {t : Nat} (ht : a 1 = nI t) (h17 : t < 17) (c : ¬ 16 ≤ nI t) (c2 : sumF a (nI t) < a (8 + t)) : rideF a = moveTo (upd a 5 (minI (a 5 + 1) 99999)) (-a 4) (pn a) := by
  unfold rideF
  have e : thereB a (a 1).toNatClampNeg = false := by
    rw [ht, nI_clamp (by omega), thereB]
    exact decide_eq_false (Int32.not_le.mpr c2)
  rw [if_pos (by rw [ht]; exact Int32.not_le.mp c), e]
  rfl
theorem rideF_go {a : x_St} {t : Nat} (ht : a 1 = nI t) (h17 : t < 17) (c : ¬ 16 ≤ nI t) (c2 : ¬ sumF a (nI t) < a (8 + t)) : rideF a = moveTo (upd a 1 (nI t + 1)) (a 3) (pn a) := by
  unfold rideF
  have e : thereB a (a 1).toNatClampNeg = true := by
    rw [ht, nI_clamp (by omega), thereB]
    exact decide_eq_true (Int32.not_lt.mp c2)
  rw [if_pos (by rw [ht]; exact Int32.not_le.mp c), e, if_pos rfl, ht]
theorem WF.up1s {a : x_St} (h : WF a) {t : Nat} (ht : t < 16) : WF (upd a 1 (nI t + 1)) := by rw [nI_1]; exact h.up1 (by omega)
theorem WF.up5s {a : x_St} (h : WF a) : WF (upd a 5 (minI (a 5 + 1) 99999)) := by
  obtain ⟨f, hf, e⟩ := fall_in h
  rw [e]; exact h.up5 hf
theorem hourF_n {a : x_St} {j : Nat} (h : j ≠ 0) : hourF a j = swayF (rideF a) j := upd_n _ _ h
theorem hourF_0 (a : x_St) : hourF a 0 = a 0 + 1 := upd_s _ _ _
theorem movedB_1 {a : x_St} {t : Nat} (ht : a 1 = nI t) (c : ¬ swayF (rideF a) 1 = nI t) : movedB a = true := by
  unfold movedB
  rw [hourF_n (by decide), ht, decide_eq_true c]
  rfl
theorem movedB_2 {a : x_St} {t : Nat} (hI : WF a) (ht : a 1 = nI t) (c : swayF (rideF a) 1 = nI t) : movedB a = anyTo (fun p => decide (¬ swayF (rideF a) (24 + 3 * p + 2) = a (24 + 3 * p + 2))) (pn (swayF (rideF a))) := by
  unfold movedB
  have e : pn (swayF (rideF a)) = pn a := by unfold swayF; rw [sameB_pn (swayTo_same _ _ hI.ride.1.1), hI.ride.2]
  rw [hourF_n (by decide), ht, e, c]
  simp only [not_true, decide_false, Bool.false_or]
  congr 1
theorem sway_z {a : x_St} {o i : Nat} {μ μ1 μ2 : x_Mem} (h : ∀ q, q < i → μ (o + 7) (plc a q) = 0 ∧ μ (o + 8) (plc a q) = 0) (e1 : μ1 = upd2 μ (o + 7) (plc a i) 0) (e2 : μ2 = upd2 μ1 (o + 8) (plc a i) 0) : ∀ q, q < i + 1 → μ2 (o + 7) (plc a q) = 0 ∧ μ2 (o + 8) (plc a q) = 0 := by
  intro q hq
  subst e1 e2
  rw [upd2_ne _ _ _ (by omega), upd2_at, upd2_at, upd2_ne _ _ _ (by omega)]
  by_cases e : plc a q = plc a i
  · rw [e, upd_s, upd_s]; exact ⟨rfl, rfl⟩
  · rw [upd_n _ _ e, upd_n _ _ e]
    exact h q (by rcases Nat.lt_or_ge q i with z | z
                  · exact z
                  · exact absurd (by rw [show q = i by omega]) e)
theorem sway_s {a : x_St} (hI : WF a) {o i : Nat} (hi : i < pn a) {μ μ1 μ2 : x_Mem} (h : ∀ q, q < pn a → μ (o + 7) (plc a q) = sumTo (fun r => if withB a q r = true then a (24 + 3 * r + 2) else 0) i ∧ μ (o + 8) (plc a q) = cntTo 0 (withB a q) i)
    (e1 : μ1 = upd2 μ (o + 7) (plc a i) (μ (o + 7) (plc a i) + a (24 + 3 * i + 2))) (e2 : μ2 = upd2 μ1 (o + 8) (plc a i) (μ1 (o + 8) (plc a i) + 1)) :
    ∀ q, q < pn a → μ2 (o + 7) (plc a q) = sumTo (fun r => if withB a q r = true then a (24 + 3 * r + 2) else 0) (i + 1) ∧ μ2 (o + 8) (plc a q) = cntTo 0 (withB a q) (i + 1) := by
  intro q hq
  have h8 := hI.1
  subst e1 e2
  have hw : withB a q i = decide (plc a i = plc a q) := by
    unfold withB
    rw [decide_eq_decide]
    exact (plc_iff hI (by omega) (by omega)).symm
  rw [upd2_ne _ _ _ (by omega), upd2_at, upd2_at, upd2_ne _ _ _ (by omega)]
  unfold sumTo cntTo
  by_cases e : plc a q = plc a i
  · rw [e, upd_s, upd_s]
    have hw1 : withB a q i = true := by rw [hw, e]; simp
    rw [if_pos hw1, if_pos hw1]
    obtain ⟨h1, h2⟩ := h q hq
    rw [e] at h1 h2
    rw [h1, h2]
    exact ⟨rfl, rfl⟩
  · rw [upd_n _ _ e, upd_n _ _ e]
    have hw1 : ¬ withB a q i = true := by rw [hw]; simp only [decide_eq_true_eq]; exact fun z => e z.symm
    rw [if_neg hw1, if_neg hw1]
    obtain ⟨h1, h2⟩ := h q hq
    exact ⟨by rw [h1]; simp, h2⟩
theorem sway_0 {a : x_St} {o : Nat} {μ : x_Mem} {i : Nat} (hi : pn a ≤ i) (h : ∀ q, q < i → μ (o + 7) (plc a q) = 0 ∧ μ (o + 8) (plc a q) = 0) : ∀ q, q < pn a → μ (o + 7) (plc a q) = sumTo (fun r => if withB a q r = true then a (24 + 3 * r + 2) else 0) 0 ∧ μ (o + 8) (plc a q) = cntTo 0 (withB a q) 0 := fun q hq => h q (by omega)
theorem numWith_nle {a : x_St} (hI : WF a) {p : Nat} (hp : p < pn a) : ¬ numWith a p ≤ 0 := by
  obtain ⟨c, h0, h8, e⟩ := numWith_pos hp hI.1
  rw [e]; exact nI_nle h0 (by omega)
theorem numWith_ne {a : x_St} (hI : WF a) {p : Nat} (hp : p < pn a) : ¬ numWith a p = 0 := by
  obtain ⟨c, h0, h8, e⟩ := numWith_pos hp hI.1
  rw [e]; exact nI_ne0 h0 (by omega)
theorem swayTo_up {a : x_St} {i : Nat} (c : ¬ sumWith a i / numWith a i ≤ a (24 + 3 * i + 2)) : swayTo a (i + 1) = upd (swayTo a i) (24 + 3 * i + 2) (a (24 + 3 * i + 2) + 1) := by
  rw [swayTo, swayV, meanF, if_pos (Int32.not_le.mp c)]
theorem swayTo_dn {a : x_St} {i : Nat} (c : sumWith a i / numWith a i ≤ a (24 + 3 * i + 2)) (c2 : ¬ a (24 + 3 * i + 2) ≤ sumWith a i / numWith a i) : swayTo a (i + 1) = upd (swayTo a i) (24 + 3 * i + 2) (a (24 + 3 * i + 2) - 1) := by
  rw [swayTo, swayV, meanF, if_neg (Int32.not_lt.mpr c), if_pos (Int32.not_le.mp c2)]
theorem upd_same (f : x_St) (k : Nat) : upd f k (f k) = f := by
  funext j
  by_cases h : j = k
  · subst h; rw [upd_s]
  · rw [upd_n _ _ h]
theorem swayTo_eq {a : x_St} {i : Nat} (c : sumWith a i / numWith a i ≤ a (24 + 3 * i + 2)) (c2 : a (24 + 3 * i + 2) ≤ sumWith a i / numWith a i) : swayTo a (i + 1) = swayTo a i := by
  rw [swayTo, swayV, meanF, if_neg (Int32.not_lt.mpr c), if_neg (Int32.not_lt.mpr c2)]
  have := upd_same (swayTo a i) (24 + 3 * i + 2)
  rwa [swayTo_hi a i i (Nat.le_refl i)] at this
theorem moveTo_t {a : x_St} {b : Int32} {i : Nat} (c : a (24 + 3 * i + 1) = -1) : moveTo a b (i + 1) = upd (moveTo a b i) (24 + 3 * i + 2) (maxI 0 (minI 99 (a (24 + 3 * i + 2) + b))) := by
  rw [moveTo, if_pos c]; rfl
theorem moveTo_f {a : x_St} {b : Int32} {i : Nat} (c : ¬ a (24 + 3 * i + 1) = -1) : moveTo a b (i + 1) = moveTo a b i := by
  rw [moveTo, if_neg c]
theorem rideTo_same (a : x_St) (f : Nat → Bool) : ∀ n, ∀ j, (j < 24 ∨ 48 ≤ j ∨ j % 3 ≠ 1) → n ≤ 8 → rideTo a f n j = a j
  | 0, _, _, _ => rfl
  | n + 1, j, h, h8 => by
    unfold rideTo
    rw [upd_n _ _ (by omega)]
    exact rideTo_same a f n j h (by omega)
theorem bit_u : ∀ n, n < 32 → (((nI n).toUInt32 &&& Int32.toUInt32 31).toBitVec % 32).toNat = n := by decide +kernel
theorem bit_s : ∀ n, n < 32 → ((nI n &&& 31).toBitVec.smod 32).toNat = n := by decide +kernel
theorem bit_and1 {n : Nat} (h : n < 2 ^ 32) : nI n &&& 1 = nI (n % 2) := pk_andN h (m := 1) 1 (by decide)
theorem testBit_dm (n p : Nat) : n.testBit p = decide (n / 2 ^ p % 2 = 1) := Nat.testBit_eq_decide_div_mod_eq
theorem hasN {n p : Nat} (hn : n < 65536) (hp : p < 32) : (((nI n).toUInt32 >>> ((nI p).toUInt32 &&& Int32.toUInt32 31)).toInt32 &&& 1) = 1 ↔ n.testBit p = true := by
  have hlt : n / 2 ^ p ≤ n := Nat.div_le_self n (2 ^ p)
  rw [pk_ushrN (by omega) (nI p) p (bit_u p hp), bit_and1 (by omega), testBit_dm, decide_eq_true_eq]
  exact nI_eq (a := n / 2 ^ p % 2) (b := 1) (by omega) (by decide)
theorem hasS {n p : Nat} (hn : n < 65536) (hp : p < 32) : (nI n >>> (nI p &&& 31) &&& 1) = 1 ↔ n.testBit p = true := by
  have hlt : n / 2 ^ p ≤ n := Nat.div_le_self n (2 ^ p)
  rw [pk_shrN (by omega) (nI p &&& 31) p (bit_s p hp), bit_and1 (by omega), testBit_dm, decide_eq_true_eq]
  exact nI_eq (a := n / 2 ^ p % 2) (b := 1) (by omega) (by decide)
/-- one more of the people -/
def comeF (a : x_St) (k w b : Int32) : x_St := upd (upd (upd (upd a (24 + 3 * pn a) k) (24 + 3 * pn a + 1) w) (24 + 3 * pn a + 2) b) 7 (nI (pn a) + 1)
def zF (a : x_St) : Int32 := a 6 * 1103515245 + 12345
def drawV (a : x_St) : Int32 := ((zF a).toUInt32 >>> ((8 : Int32).toUInt32 &&& Int32.toUInt32 31)).toInt32
def spotsF (a : x_St) : Int32 := cntTo 0 (fun j => decide (¬ a (48 + j) = -1)) 10
theorem PR.mk5 {a : x_St} {o : Nat} {μ : x_Mem} (h1 : ∀ j, j < 16 → μ (o + 1) j = a (8 + j)) (h2 : ∀ p, p < 8 → μ (o + 2) p = a (24 + 3 * p)) (h3 : ∀ p, p < 8 → μ (o + 3) p = a (24 + 3 * p + 1)) (h4 : ∀ p, p < 8 → μ (o + 4) p = a (24 + 3 * p + 2)) (h5 : ∀ j, j < 10 → μ (o + 5) j = a (48 + j))
    (g5 : μ o 5 = a 7) (g6 : μ o 6 = a 1) (g7 : μ o 7 = a 2) (g8 : μ o 8 = a 3) (g9 : μ o 9 = a 4) (g10 : μ o 10 = a 5) (g12 : μ o 12 = a 6) : PR a o μ := ⟨h1, h2, h3, h4, h5, g5, g6, g7, g8, g9, g10, g12⟩
theorem anyTo_t {f : Nat → Bool} {p : Nat} : ∀ {n}, p < n → f p = true → anyTo f n = true
  | 0, h, _ => by omega
  | n + 1, h, e => by
    unfold anyTo
    by_cases q : p = n
    · subst q; rw [e]; simp
    · rw [anyTo_t (p := p) (by omega) e]; rfl
theorem anyTo_f {f : Nat → Bool} : ∀ {n}, (∀ p, p < n → f p = false) → anyTo f n = false
  | 0, _ => rfl
  | n + 1, h => by
    unfold anyTo
    rw [anyTo_f (fun p hp => h p (by omega)), h n (by omega)]
    rfl
/-- a clock that stops at 99999 -/
def clockF (h : Int32) : Nat → Int32
  | 0 => h
  | n + 1 => minI (clockF h n + 1) 99999
theorem last_hour {a : x_St} (h : 16 ≤ a 1) (hI : WF a) : hourF a 1 = a 1 := by
  rw [hourF_n (by decide)]
  have e : rideF a = a := by unfold rideF; rw [if_neg (Int32.not_lt.mpr h)]
  rw [e]
  exact swayTo_same a _ hI.1 1 (by omega)
theorem last_hours {a : x_St} (h : 16 ≤ a 1) (hI : WF a) : ∀ n, hoursF a n 1 = a 1
  | 0 => rfl
  | n + 1 => by
    have ih := last_hours h hI n
    show hourF (hoursF a n) 1 = a 1
    rw [last_hour (by rw [ih]; exact h) (hI.hours n), ih]
theorem hoursF_add (a : x_St) (i : Nat) : ∀ n, hoursF a (i + n) = hoursF (hoursF a i) n
  | 0 => rfl
  | n + 1 => by
    show hourF (hoursF a (i + n)) = hourF (hoursF (hoursF a i) n)
    rw [hoursF_add a i n]
theorem last_yard {a : x_St} (hI : WF a) {i n : Nat} (c : 16 ≤ hoursF a i 1) (hi : i ≤ n) : hoursF a i 1 = hoursF a n 1 := by
  have e : n = i + (n - i) := by omega
  rw [e, hoursF_add, last_hours c (hI.hours i)]
theorem stay_yard {a : x_St} (hI : WF a) {i n : Nat} (z : movedB (hoursF a i) = false) (hi : i + 1 ≤ n) : hoursF a (i + 1) 1 = hoursF a n 1 := by
  sorry
theorem pn_sr {a : x_St} (hI : WF a) : pn (swayF (rideF a)) = pn a := by unfold swayF; rw [sameB_pn (swayTo_same _ _ hI.ride.1.1), hI.ride.2]
end
section
def m_X0_companions : x_M := (yX0_companions, prog_2_method_6_code, 4, (some FieldType.int), 0, 0)
theorem v_X0_companions : x_VM m_X0_companions 1 := ⟨q209, q2, by decide +kernel, by decide +kernel, by decide +kernel⟩
theorem w_X0_companions : x_VI m_X0_companions := ⟨q208, qs1⟩
theorem d_X0_companions_0 : x_dec m_X0_companions 0 (.iconst (-1)) 1 1 := ⟨by decide +kernel, rfl⟩
theorem d_X0_companions_1 : x_dec m_X0_companions 1 (.istore_n 2) 1 2 := ⟨by decide +kernel, rfl⟩
theorem d_X0_companions_2 : x_dec m_X0_companions 2 (.iconst 0) 1 3 := ⟨by decide +kernel, rfl⟩
theorem d_X0_companions_3 : x_dec m_X0_companions 3 (.istore_n 3) 1 4 := ⟨by decide +kernel, rfl⟩
theorem d_X0_companions_4 : x_dec m_X0_companions 4 (.iload_n 3) 1 5 := ⟨by decide +kernel, rfl⟩
theorem d_X0_companions_5 : x_dec m_X0_companions 5 (.aload_n 0) 1 6 := ⟨by decide +kernel, rfl⟩
theorem d_X0_companions_6 : x_dec m_X0_companions 6 (.getfield 27) 3 9 := ⟨by decide +kernel, rfl⟩
theorem d_X0_companions_9 : x_dec m_X0_companions 9 (.if_icmp .ge 27) 3 12 := ⟨by decide +kernel, rfl⟩
theorem d_X0_companions_12 : x_dec m_X0_companions 12 (.aload_n 0) 1 13 := ⟨by decide +kernel, rfl⟩
theorem d_X0_companions_13 : x_dec m_X0_companions 13 (.getfield 18) 3 16 := ⟨by decide +kernel, rfl⟩
theorem d_X0_companions_16 : x_dec m_X0_companions 16 (.iload_n 3) 1 17 := ⟨by decide +kernel, rfl⟩
theorem d_X0_companions_17 : x_dec m_X0_companions 17 (.iaload) 1 18 := ⟨by decide +kernel, rfl⟩
theorem d_X0_companions_18 : x_dec m_X0_companions 18 (.aload_n 0) 1 19 := ⟨by decide +kernel, rfl⟩
theorem d_X0_companions_19 : x_dec m_X0_companions 19 (.getfield 18) 3 22 := ⟨by decide +kernel, rfl⟩
theorem d_X0_companions_22 : x_dec m_X0_companions 22 (.iload_n 1) 1 23 := ⟨by decide +kernel, rfl⟩
theorem d_X0_companions_23 : x_dec m_X0_companions 23 (.iaload) 1 24 := ⟨by decide +kernel, rfl⟩
theorem d_X0_companions_24 : x_dec m_X0_companions 24 (.if_icmp .ne 6) 3 27 := ⟨by decide +kernel, rfl⟩
theorem d_X0_companions_27 : x_dec m_X0_companions 27 (.iinc 2 1) 3 30 := ⟨by decide +kernel, rfl⟩
theorem d_X0_companions_30 : x_dec m_X0_companions 30 (.iinc 3 1) 3 33 := ⟨by decide +kernel, rfl⟩
theorem d_X0_companions_33 : x_dec m_X0_companions 33 (.goto (-29)) 3 36 := ⟨by decide +kernel, rfl⟩
theorem d_X0_companions_36 : x_dec m_X0_companions 36 (.iload_n 2) 1 37 := ⟨by decide +kernel, rfl⟩
theorem d_X0_companions_37 : x_dec m_X0_companions 37 (.ireturn) 1 38 := ⟨by decide +kernel, rfl⟩
set_option maxHeartbeats 4000000 in
set_option maxRecDepth 100000 in
theorem c_X0_companions (l : Launch) (E : x_E) (μ : x_Mem) {a : x_St} {o : Nat} (ho : x_pr o) (hR : PR a o μ) (hI : WF a) {p : Nat} (hp : p < 8) : x_Met l m_X0_companions E [.ref (E.1 + o), .int (nI p)] μ (x_I (fun z m => z = compF a p ∧ m = μ)) := by
  have ho1 : o = 1 ∨ o = 10 ∨ o = 19 := ho
  have hn7 := hI.2.1
  have hpn := hI.1
  refine x_enter (lv := [(0, .ref (E.1 + o)), (1, .int (nI p))]) (by decide +kernel) (Nat.le_of_ble_eq_true rfl) rfl ?_
  refine x_iconst (x := (-1)) d_X0_companions_0 (by decide) ?_
  refine x_istore_n [(2, .int (-1)), (0, .ref (E.1 + o)), (1, .int (nI p))] d_X0_companions_1 rfl (Nat.le_of_ble_eq_true rfl) rfl ?_
  refine x_iconst (x := 0) d_X0_companions_2 (by decide) ?_
  refine x_istore_n [(3, .int 0), (2, .int (-1)), (0, .ref (E.1 + o)), (1, .int (nI p))] d_X0_companions_3 rfl (Nat.le_of_ble_eq_true rfl) rfl ?_
  have L1 : ∀ i : Nat, i ≤ pn a → ∀ r : Int32, (r = cntTo (-1) (withB a p) i) → x_G l E m_X0_companions (x_mv E m_X0_companions (x_I (fun z m => z = compF a p ∧ m = μ))) μ 4 [(3, .int (nI i)), (2, .int r), (0, .ref (E.1 + o)), (1, .int (nI p))] [] := by
    refine x_down _ (pn a) (fun i hi3 ih2 => ?_)
    intro r hr
    refine x_iload_n 0 d_X0_companions_4 rfl rfl ?_
    refine x_aload_n 2 d_X0_companions_5 rfl rfl ?_
    refine x_getiV (j := 5) (z := nI (pn a)) x_c0 (p_kd ho) (Nat.le_of_ble_eq_true rfl) q42 (p_n5 ho) ((PR.f5 hR).trans hn7) d_X0_companions_6 ?_
    refine x_icmp_ge 36 d_X0_companions_9 (by decide) (fun c4 => ?_) (fun c4 => ?_)
    · skip
      have hN := x_ge c4 rfl rfl (by omega) (by omega)
      refine x_iload_n 1 d_X0_companions_36 rfl rfl ?_
      refine x_iret rfl d_X0_companions_37 ?_
      exact ⟨by rw [hr, compF]; congr 1; omega, rfl⟩
    · skip
      have hN := x_lt c4 rfl rfl (by omega) (by omega)
      refine x_aload_n 2 d_X0_companions_12 rfl rfl ?_
      refine x_getr (j := 2) (o + 3) x_c0 (p_kd ho) (Nat.le_of_ble_eq_true rfl) q36 (p_f2 ho) d_X0_companions_13 ?_
      refine x_iload_n 0 d_X0_companions_16 rfl rfl ?_
      refine x_ialdN (z := a (24 + 3 * i + 1)) 8 i (p_k3 ho) (p_l3 ho) (by omega) (by decide) (PR.wh hR i (by omega)) d_X0_companions_17 ?_
      refine x_aload_n 2 d_X0_companions_18 rfl rfl ?_
      refine x_getr (j := 2) (o + 3) x_c0 (p_kd ho) (Nat.le_of_ble_eq_true rfl) q36 (p_f2 ho) d_X0_companions_19 ?_
      refine x_iload_n 3 d_X0_companions_22 rfl rfl ?_
      refine x_ialdN (z := a (24 + 3 * p + 1)) 8 p (p_k3 ho) (p_l3 ho) (by omega) (by decide) (PR.wh hR p (by omega)) d_X0_companions_23 ?_
      refine x_icmp_ne 30 d_X0_companions_24 (by decide) (fun c5 => ?_) (fun c5 => ?_)
      · skip
        refine x_iinc [(3, .int (nI (i + 1))), (2, .int r), (0, .ref (E.1 + o)), (1, .int (nI p))] 0 d_X0_companions_30 rfl (x_inc _) (Nat.le_of_ble_eq_true rfl) rfl ?_
        refine x_goto 4 d_X0_companions_33 (by decide) ?_
        exact ih2 (i + 1) (by omega) (by omega) r (by rw [hr, cntTo]; simp [withB, c4, c5])
      · skip
        refine x_iinc [(2, .int (r + 1)), (3, .int (nI i)), (0, .ref (E.1 + o)), (1, .int (nI p))] 1 d_X0_companions_27 rfl rfl (Nat.le_of_ble_eq_true rfl) rfl ?_
        refine x_iinc [(3, .int (nI (i + 1))), (2, .int (r + 1)), (0, .ref (E.1 + o)), (1, .int (nI p))] 1 d_X0_companions_30 rfl (x_inc _) (Nat.le_of_ble_eq_true rfl) rfl ?_
        refine x_goto 4 d_X0_companions_33 (by decide) ?_
        exact ih2 (i + 1) (by omega) (by omega) (r + 1) (by rw [hr, cntTo]; simp [withB, c4, c5])
  exact L1 0 (by omega) (-1) (by rfl)
def m_X0_faith : x_M := (yX0_faith, prog_2_method_5_code, 5, (some FieldType.int), 1, 26)
theorem v_X0_faith : x_VM m_X0_faith 1 := ⟨q202, q2, by decide +kernel, by decide +kernel, by decide +kernel⟩
theorem w_X0_faith : x_VI m_X0_faith := ⟨q200, q201⟩
theorem d_X0_faith_0 : x_dec m_X0_faith 0 (.aload_n 0) 1 1 := ⟨by decide +kernel, rfl⟩
theorem d_X0_faith_1 : x_dec m_X0_faith 1 (.getfield 21) 3 4 := ⟨by decide +kernel, rfl⟩
theorem d_X0_faith_4 : x_dec m_X0_faith 4 (.iload_n 1) 1 5 := ⟨by decide +kernel, rfl⟩
theorem d_X0_faith_5 : x_dec m_X0_faith 5 (.iaload) 1 6 := ⟨by decide +kernel, rfl⟩
theorem d_X0_faith_6 : x_dec m_X0_faith 6 (.istore_n 2) 1 7 := ⟨by decide +kernel, rfl⟩
theorem d_X0_faith_7 : x_dec m_X0_faith 7 (.aload_n 0) 1 8 := ⟨by decide +kernel, rfl⟩
theorem d_X0_faith_8 : x_dec m_X0_faith 8 (.getfield 34) 3 11 := ⟨by decide +kernel, rfl⟩
theorem d_X0_faith_11 : x_dec m_X0_faith 11 (.ifCond .ne 8) 3 14 := ⟨by decide +kernel, rfl⟩
theorem d_X0_faith_14 : x_dec m_X0_faith 14 (.bipush 20) 2 16 := ⟨by decide +kernel, rfl⟩
theorem d_X0_faith_16 : x_dec m_X0_faith 16 (.goto 4) 3 19 := ⟨by decide +kernel, rfl⟩
theorem d_X0_faith_19 : x_dec m_X0_faith 19 (.iconst 0) 1 20 := ⟨by decide +kernel, rfl⟩
theorem d_X0_faith_20 : x_dec m_X0_faith 20 (.istore_n 3) 1 21 := ⟨by decide +kernel, rfl⟩
theorem d_X0_faith_21 : x_dec m_X0_faith 21 (.aload_n 0) 1 22 := ⟨by decide +kernel, rfl⟩
theorem d_X0_faith_22 : x_dec m_X0_faith 22 (.getfield 43) 3 25 := ⟨by decide +kernel, rfl⟩
theorem d_X0_faith_25 : x_dec m_X0_faith 25 (.bipush 30) 2 27 := ⟨by decide +kernel, rfl⟩
theorem d_X0_faith_27 : x_dec m_X0_faith 27 (.invokestatic 77) 3 30 := ⟨by decide +kernel, rfl⟩
theorem d_X0_faith_30 : x_dec m_X0_faith 30 (.istore 4) 2 32 := ⟨by decide +kernel, rfl⟩
theorem d_X0_faith_32 : x_dec m_X0_faith 32 (.aload_n 0) 1 33 := ⟨by decide +kernel, rfl⟩
theorem d_X0_faith_33 : x_dec m_X0_faith 33 (.getfield 15) 3 36 := ⟨by decide +kernel, rfl⟩
theorem d_X0_faith_36 : x_dec m_X0_faith 36 (.iload_n 1) 1 37 := ⟨by decide +kernel, rfl⟩
theorem d_X0_faith_37 : x_dec m_X0_faith 37 (.iaload) 1 38 := ⟨by decide +kernel, rfl⟩
theorem d_X0_faith_38 : x_dec m_X0_faith 38 (.tableswitch 90 1 6 #[38, 49, 53, 60, 75, 42]) 38 76 := ⟨by decide +kernel, rfl⟩
theorem d_X0_faith_76 : x_dec m_X0_faith 76 (.iload_n 2) 1 77 := ⟨by decide +kernel, rfl⟩
theorem d_X0_faith_77 : x_dec m_X0_faith 77 (.iconst 2) 1 78 := ⟨by decide +kernel, rfl⟩
theorem d_X0_faith_78 : x_dec m_X0_faith 78 (.idiv) 1 79 := ⟨by decide +kernel, rfl⟩
theorem d_X0_faith_79 : x_dec m_X0_faith 79 (.ireturn) 1 80 := ⟨by decide +kernel, rfl⟩
theorem d_X0_faith_80 : x_dec m_X0_faith 80 (.iload_n 2) 1 81 := ⟨by decide +kernel, rfl⟩
theorem d_X0_faith_81 : x_dec m_X0_faith 81 (.iconst 2) 1 82 := ⟨by decide +kernel, rfl⟩
theorem d_X0_faith_82 : x_dec m_X0_faith 82 (.idiv) 1 83 := ⟨by decide +kernel, rfl⟩
theorem d_X0_faith_83 : x_dec m_X0_faith 83 (.bipush 20) 2 85 := ⟨by decide +kernel, rfl⟩
theorem d_X0_faith_85 : x_dec m_X0_faith 85 (.isub) 1 86 := ⟨by decide +kernel, rfl⟩
theorem d_X0_faith_86 : x_dec m_X0_faith 86 (.ireturn) 1 87 := ⟨by decide +kernel, rfl⟩
theorem d_X0_faith_87 : x_dec m_X0_faith 87 (.iload_n 2) 1 88 := ⟨by decide +kernel, rfl⟩
theorem d_X0_faith_88 : x_dec m_X0_faith 88 (.iload_n 3) 1 89 := ⟨by decide +kernel, rfl⟩
theorem d_X0_faith_89 : x_dec m_X0_faith 89 (.iadd) 1 90 := ⟨by decide +kernel, rfl⟩
theorem d_X0_faith_90 : x_dec m_X0_faith 90 (.ireturn) 1 91 := ⟨by decide +kernel, rfl⟩
theorem d_X0_faith_91 : x_dec m_X0_faith 91 (.iload_n 2) 1 92 := ⟨by decide +kernel, rfl⟩
theorem d_X0_faith_92 : x_dec m_X0_faith 92 (.iload_n 3) 1 93 := ⟨by decide +kernel, rfl⟩
theorem d_X0_faith_93 : x_dec m_X0_faith 93 (.iadd) 1 94 := ⟨by decide +kernel, rfl⟩
theorem d_X0_faith_94 : x_dec m_X0_faith 94 (.iload 4) 2 96 := ⟨by decide +kernel, rfl⟩
theorem d_X0_faith_96 : x_dec m_X0_faith 96 (.isub) 1 97 := ⟨by decide +kernel, rfl⟩
theorem d_X0_faith_97 : x_dec m_X0_faith 97 (.ireturn) 1 98 := ⟨by decide +kernel, rfl⟩
theorem d_X0_faith_98 : x_dec m_X0_faith 98 (.iload_n 2) 1 99 := ⟨by decide +kernel, rfl⟩
theorem d_X0_faith_99 : x_dec m_X0_faith 99 (.iload_n 3) 1 100 := ⟨by decide +kernel, rfl⟩
theorem d_X0_faith_100 : x_dec m_X0_faith 100 (.iadd) 1 101 := ⟨by decide +kernel, rfl⟩
theorem d_X0_faith_101 : x_dec m_X0_faith 101 (.iload 4) 2 103 := ⟨by decide +kernel, rfl⟩
theorem d_X0_faith_103 : x_dec m_X0_faith 103 (.isub) 1 104 := ⟨by decide +kernel, rfl⟩
theorem d_X0_faith_104 : x_dec m_X0_faith 104 (.iconst 5) 1 105 := ⟨by decide +kernel, rfl⟩
theorem d_X0_faith_105 : x_dec m_X0_faith 105 (.aload_n 0) 1 106 := ⟨by decide +kernel, rfl⟩
theorem d_X0_faith_106 : x_dec m_X0_faith 106 (.iload_n 1) 1 107 := ⟨by decide +kernel, rfl⟩
theorem d_X0_faith_107 : x_dec m_X0_faith 107 (.invokevirtual 83) 3 110 := ⟨by decide +kernel, rfl⟩
theorem d_X0_faith_110 : x_dec m_X0_faith 110 (.imul) 1 111 := ⟨by decide +kernel, rfl⟩
theorem d_X0_faith_111 : x_dec m_X0_faith 111 (.iadd) 1 112 := ⟨by decide +kernel, rfl⟩
theorem d_X0_faith_112 : x_dec m_X0_faith 112 (.ireturn) 1 113 := ⟨by decide +kernel, rfl⟩
theorem d_X0_faith_113 : x_dec m_X0_faith 113 (.aload_n 0) 1 114 := ⟨by decide +kernel, rfl⟩
theorem d_X0_faith_114 : x_dec m_X0_faith 114 (.getfield 34) 3 117 := ⟨by decide +kernel, rfl⟩
theorem d_X0_faith_117 : x_dec m_X0_faith 117 (.ifCond .ne 7) 3 120 := ⟨by decide +kernel, rfl⟩
theorem d_X0_faith_120 : x_dec m_X0_faith 120 (.iload_n 2) 1 121 := ⟨by decide +kernel, rfl⟩
theorem d_X0_faith_121 : x_dec m_X0_faith 121 (.goto 6) 3 124 := ⟨by decide +kernel, rfl⟩
theorem d_X0_faith_124 : x_dec m_X0_faith 124 (.iconst 2) 1 125 := ⟨by decide +kernel, rfl⟩
theorem d_X0_faith_125 : x_dec m_X0_faith 125 (.iload_n 2) 1 126 := ⟨by decide +kernel, rfl⟩
theorem d_X0_faith_126 : x_dec m_X0_faith 126 (.imul) 1 127 := ⟨by decide +kernel, rfl⟩
theorem d_X0_faith_127 : x_dec m_X0_faith 127 (.ireturn) 1 128 := ⟨by decide +kernel, rfl⟩
theorem d_X0_faith_128 : x_dec m_X0_faith 128 (.iload_n 2) 1 129 := ⟨by decide +kernel, rfl⟩
theorem d_X0_faith_129 : x_dec m_X0_faith 129 (.ireturn) 1 130 := ⟨by decide +kernel, rfl⟩
set_option maxHeartbeats 4000000 in
set_option maxRecDepth 100000 in
theorem c_X0_faith (l : Launch) (E : x_E) (μ : x_Mem) {a : x_St} {o : Nat} (ho : x_pr o) (hR : PR a o μ) (hI : WF a) {p : Nat} (hp : p < 8) : x_Met l m_X0_faith E [.ref (E.1 + o), .int (nI p)] μ (x_I (fun z m => z = faithF a p ∧ m = μ)) := by
  have ho1 : o = 1 ∨ o = 10 ∨ o = 19 := ho
  have hn7 := hI.2.1
  have hpn := hI.1
  refine x_enter (lv := [(0, .ref (E.1 + o)), (1, .int (nI p))]) (by decide +kernel) (Nat.le_of_ble_eq_true rfl) rfl ?_
  refine x_aload_n 0 d_X0_faith_0 rfl rfl ?_
  refine x_getr (j := 3) (o + 4) x_c0 (p_kd ho) (Nat.le_of_ble_eq_true rfl) q38 (p_f3 ho) d_X0_faith_1 ?_
  refine x_iload_n 1 d_X0_faith_4 rfl rfl ?_
  refine x_ialdN (z := a (24 + 3 * p + 2)) 8 p (p_k4 ho) (p_l4 ho) (by omega) (by decide) (PR.bl hR p (by omega)) d_X0_faith_5 ?_
  refine x_istore_n [(2, .int (a (24 + 3 * p + 2))), (0, .ref (E.1 + o)), (1, .int (nI p))] d_X0_faith_6 rfl (Nat.le_of_ble_eq_true rfl) rfl ?_
  refine x_aload_n 1 d_X0_faith_7 rfl rfl ?_
  refine x_getiV (j := 7) (z := a 2) x_c0 (p_kd ho) (Nat.le_of_ble_eq_true rfl) q48 (p_n7 ho) (PR.f7 hR) d_X0_faith_8 ?_
  refine x_if_ne 19 d_X0_faith_11 (by decide) (fun c1 => ?_) (fun c1 => ?_)
  · skip
    refine x_iconst (x := 0) d_X0_faith_19 (by decide) ?_
    refine x_istore_n [(3, .int 0), (2, .int (a (24 + 3 * p + 2))), (0, .ref (E.1 + o)), (1, .int (nI p))] d_X0_faith_20 rfl (Nat.le_of_ble_eq_true rfl) rfl ?_
    refine x_aload_n 2 d_X0_faith_21 rfl rfl ?_
    refine x_getiV (j := 10) (z := a 5) x_c0 (p_kd ho) (Nat.le_of_ble_eq_true rfl) q57 (p_n10 ho) (PR.f10 hR) d_X0_faith_22 ?_
    refine x_bipush (x := 30) d_X0_faith_25 (by decide) ?_
    refine x_min q203 q204 q205 q7 (Nat.le_of_ble_eq_true rfl) (Nat.le_of_ble_eq_true rfl) d_X0_faith_27 ?_
    refine x_istore [(4, .int (minI (a 5) 30)), (3, .int 0), (2, .int (a (24 + 3 * p + 2))), (0, .ref (E.1 + o)), (1, .int (nI p))] d_X0_faith_30 (Nat.le_of_ble_eq_true rfl) rfl ?_
    refine x_aload_n 3 d_X0_faith_32 rfl rfl ?_
    refine x_getr (j := 1) (o + 2) x_c0 (p_kd ho) (Nat.le_of_ble_eq_true rfl) q34 (p_f1 ho) d_X0_faith_33 ?_
    refine x_iload_n 4 d_X0_faith_36 rfl rfl ?_
    refine x_ialdN (z := a (24 + 3 * p)) 8 p (p_k2 ho) (p_l2 ho) (by omega) (by decide) (PR.kd hR p (by omega)) d_X0_faith_37 ?_
    by_cases k2 : a (24 + 3 * p) = 1
    · have k2T : (a (24 + 3 * p)).toInt = 1 := by rw [k2]; decide
      refine x_tswIn 76 (off := 38) d_X0_faith_38 (by rw [k2T]; decide) (by rw [k2T]; decide) (by rw [k2T]; decide) (by decide) ?_
      refine x_iload_n 2 d_X0_faith_76 rfl rfl ?_
      refine x_iconst (x := 2) d_X0_faith_77 (by decide) ?_
      refine x_idiv d_X0_faith_78 (by decide) ?_
      refine x_iret rfl d_X0_faith_79 ?_
      refine ⟨?_, rfl⟩
      first | (simp [faithF, dayF, c1, k2]; done) | (exfalso; simp_all; done)
    by_cases k3 : a (24 + 3 * p) = 2
    · have k3T : (a (24 + 3 * p)).toInt = 2 := by rw [k3]; decide
      refine x_tswIn 87 (off := 49) d_X0_faith_38 (by rw [k3T]; decide) (by rw [k3T]; decide) (by rw [k3T]; decide) (by decide) ?_
      refine x_iload_n 2 d_X0_faith_87 rfl rfl ?_
      refine x_iload_n 1 d_X0_faith_88 rfl rfl ?_
      refine x_iadd d_X0_faith_89 ?_
      refine x_iret rfl d_X0_faith_90 ?_
      refine ⟨?_, rfl⟩
      first | (simp [faithF, dayF, c1, k3]; done) | (exfalso; simp_all; done)
    by_cases k4 : a (24 + 3 * p) = 3
    · have k4T : (a (24 + 3 * p)).toInt = 3 := by rw [k4]; decide
      refine x_tswIn 91 (off := 53) d_X0_faith_38 (by rw [k4T]; decide) (by rw [k4T]; decide) (by rw [k4T]; decide) (by decide) ?_
      refine x_iload_n 2 d_X0_faith_91 rfl rfl ?_
      refine x_iload_n 1 d_X0_faith_92 rfl rfl ?_
      refine x_iadd d_X0_faith_93 ?_
      refine x_iload 0 d_X0_faith_94 rfl ?_
      refine x_isub d_X0_faith_96 ?_
      refine x_iret rfl d_X0_faith_97 ?_
      refine ⟨?_, rfl⟩
      first | (simp [faithF, dayF, c1, k4]; done) | (exfalso; simp_all; done)
    by_cases k5 : a (24 + 3 * p) = 4
    · have k5T : (a (24 + 3 * p)).toInt = 4 := by rw [k5]; decide
      refine x_tswIn 98 (off := 60) d_X0_faith_38 (by rw [k5T]; decide) (by rw [k5T]; decide) (by rw [k5T]; decide) (by decide) ?_
      refine x_iload_n 2 d_X0_faith_98 rfl rfl ?_
      refine x_iload_n 1 d_X0_faith_99 rfl rfl ?_
      refine x_iadd d_X0_faith_100 ?_
      refine x_iload 0 d_X0_faith_101 rfl ?_
      refine x_isub d_X0_faith_103 ?_
      refine x_iconst (x := 5) d_X0_faith_104 (by decide) ?_
      refine x_aload_n 3 d_X0_faith_105 rfl rfl ?_
      refine x_iload_n 4 d_X0_faith_106 rfl rfl ?_
      refine x_cvip (k := o) (as := [.int (nI p)]) (c_X0_companions l E μ ho hR hI (p := p) (by omega)) v_X0_companions w_X0_companions q206 (p_ob ho) rfl ⟨Nat.le_of_ble_eq_true rfl, Nat.le_of_ble_eq_true rfl⟩ rfl (Nat.le_of_ble_eq_true rfl) d_X0_faith_107 ?_
      refine x_imul d_X0_faith_110 ?_
      refine x_iadd d_X0_faith_111 ?_
      refine x_iret rfl d_X0_faith_112 ?_
      refine ⟨?_, rfl⟩
      first | (simp [faithF, dayF, c1, k5]; done) | (exfalso; simp_all; done)
    by_cases k6 : a (24 + 3 * p) = 5
    · have k6T : (a (24 + 3 * p)).toInt = 5 := by rw [k6]; decide
      refine x_tswIn 113 (off := 75) d_X0_faith_38 (by rw [k6T]; decide) (by rw [k6T]; decide) (by rw [k6T]; decide) (by decide) ?_
      refine x_aload_n 3 d_X0_faith_113 rfl rfl ?_
      refine x_getiV (j := 7) (z := a 2) x_c0 (p_kd ho) (Nat.le_of_ble_eq_true rfl) q48 (p_n7 ho) (PR.f7 hR) d_X0_faith_114 ?_
      refine x_if_ne 124 d_X0_faith_117 (by decide) (fun c7 => ?_) (fun c7 => ?_)
      · skip
        refine x_iconst (x := 2) d_X0_faith_124 (by decide) ?_
        refine x_iload_n 2 d_X0_faith_125 rfl rfl ?_
        refine x_imul d_X0_faith_126 ?_
        refine x_iret rfl d_X0_faith_127 ?_
        refine ⟨?_, rfl⟩
        first | (simp [faithF, dayF, c1, k6, c7]; done) | (exfalso; simp_all; done)
      · skip
        refine x_iload_n 2 d_X0_faith_120 rfl rfl ?_
        refine x_goto 127 d_X0_faith_121 (by decide) ?_
        refine x_iret rfl d_X0_faith_127 ?_
        refine ⟨?_, rfl⟩
        first | (simp [faithF, dayF, c1, k6, c7]; done) | (exfalso; simp_all; done)
    by_cases k8 : a (24 + 3 * p) = 6
    · have k8T : (a (24 + 3 * p)).toInt = 6 := by rw [k8]; decide
      refine x_tswIn 80 (off := 42) d_X0_faith_38 (by rw [k8T]; decide) (by rw [k8T]; decide) (by rw [k8T]; decide) (by decide) ?_
      refine x_iload_n 2 d_X0_faith_80 rfl rfl ?_
      refine x_iconst (x := 2) d_X0_faith_81 (by decide) ?_
      refine x_idiv d_X0_faith_82 (by decide) ?_
      refine x_bipush (x := 20) d_X0_faith_83 (by decide) ?_
      refine x_isub d_X0_faith_85 ?_
      refine x_iret rfl d_X0_faith_86 ?_
      refine ⟨?_, rfl⟩
      first | (simp [faithF, dayF, c1, k8]; done) | (exfalso; simp_all; done)
    have k2T : ¬ (a (24 + 3 * p)).toInt = 1 := lv_neT k2 (by decide)
    have k3T : ¬ (a (24 + 3 * p)).toInt = 2 := lv_neT k3 (by decide)
    have k4T : ¬ (a (24 + 3 * p)).toInt = 3 := lv_neT k4 (by decide)
    have k5T : ¬ (a (24 + 3 * p)).toInt = 4 := lv_neT k5 (by decide)
    have k6T : ¬ (a (24 + 3 * p)).toInt = 5 := lv_neT k6 (by decide)
    have k8T : ¬ (a (24 + 3 * p)).toInt = 6 := lv_neT k8 (by decide)
    refine x_tswOut 128 d_X0_faith_38 (by omega) (by decide) ?_
    refine x_iload_n 2 d_X0_faith_128 rfl rfl ?_
    refine x_iret rfl d_X0_faith_129 ?_
    refine ⟨?_, rfl⟩
    first | (simp [faithF, dayF, c1, k2, k3, k4, k5, k6, k8]; done) | (exfalso; simp_all; done)
  · skip
    refine x_bipush (x := 20) d_X0_faith_14 (by decide) ?_
    refine x_goto 20 d_X0_faith_16 (by decide) ?_
    refine x_istore_n [(3, .int 20), (2, .int (a (24 + 3 * p + 2))), (0, .ref (E.1 + o)), (1, .int (nI p))] d_X0_faith_20 rfl (Nat.le_of_ble_eq_true rfl) rfl ?_
    refine x_aload_n 2 d_X0_faith_21 rfl rfl ?_
    refine x_getiV (j := 10) (z := a 5) x_c0 (p_kd ho) (Nat.le_of_ble_eq_true rfl) q57 (p_n10 ho) (PR.f10 hR) d_X0_faith_22 ?_
    refine x_bipush (x := 30) d_X0_faith_25 (by decide) ?_
    refine x_min q203 q204 q205 q7 (Nat.le_of_ble_eq_true rfl) (Nat.le_of_ble_eq_true rfl) d_X0_faith_27 ?_
    refine x_istore [(4, .int (minI (a 5) 30)), (3, .int 20), (2, .int (a (24 + 3 * p + 2))), (0, .ref (E.1 + o)), (1, .int (nI p))] d_X0_faith_30 (Nat.le_of_ble_eq_true rfl) rfl ?_
    refine x_aload_n 3 d_X0_faith_32 rfl rfl ?_
    refine x_getr (j := 1) (o + 2) x_c0 (p_kd ho) (Nat.le_of_ble_eq_true rfl) q34 (p_f1 ho) d_X0_faith_33 ?_
    refine x_iload_n 4 d_X0_faith_36 rfl rfl ?_
    refine x_ialdN (z := a (24 + 3 * p)) 8 p (p_k2 ho) (p_l2 ho) (by omega) (by decide) (PR.kd hR p (by omega)) d_X0_faith_37 ?_
    by_cases k9 : a (24 + 3 * p) = 1
    · have k9T : (a (24 + 3 * p)).toInt = 1 := by rw [k9]; decide
      refine x_tswIn 76 (off := 38) d_X0_faith_38 (by rw [k9T]; decide) (by rw [k9T]; decide) (by rw [k9T]; decide) (by decide) ?_
      refine x_iload_n 2 d_X0_faith_76 rfl rfl ?_
      refine x_iconst (x := 2) d_X0_faith_77 (by decide) ?_
      refine x_idiv d_X0_faith_78 (by decide) ?_
      refine x_iret rfl d_X0_faith_79 ?_
      refine ⟨?_, rfl⟩
      first | (simp [faithF, dayF, c1, k9]; done) | (exfalso; simp_all; done)
    by_cases k10 : a (24 + 3 * p) = 2
    · have k10T : (a (24 + 3 * p)).toInt = 2 := by rw [k10]; decide
      refine x_tswIn 87 (off := 49) d_X0_faith_38 (by rw [k10T]; decide) (by rw [k10T]; decide) (by rw [k10T]; decide) (by decide) ?_
      refine x_iload_n 2 d_X0_faith_87 rfl rfl ?_
      refine x_iload_n 1 d_X0_faith_88 rfl rfl ?_
      refine x_iadd d_X0_faith_89 ?_
      refine x_iret rfl d_X0_faith_90 ?_
      refine ⟨?_, rfl⟩
      first | (simp [faithF, dayF, c1, k10]; done) | (exfalso; simp_all; done)
    by_cases k11 : a (24 + 3 * p) = 3
    · have k11T : (a (24 + 3 * p)).toInt = 3 := by rw [k11]; decide
      refine x_tswIn 91 (off := 53) d_X0_faith_38 (by rw [k11T]; decide) (by rw [k11T]; decide) (by rw [k11T]; decide) (by decide) ?_
      refine x_iload_n 2 d_X0_faith_91 rfl rfl ?_
      refine x_iload_n 1 d_X0_faith_92 rfl rfl ?_
      refine x_iadd d_X0_faith_93 ?_
      refine x_iload 0 d_X0_faith_94 rfl ?_
      refine x_isub d_X0_faith_96 ?_
      refine x_iret rfl d_X0_faith_97 ?_
      refine ⟨?_, rfl⟩
      first | (simp [faithF, dayF, c1, k11]; done) | (exfalso; simp_all; done)
    by_cases k12 : a (24 + 3 * p) = 4
    · have k12T : (a (24 + 3 * p)).toInt = 4 := by rw [k12]; decide
      refine x_tswIn 98 (off := 60) d_X0_faith_38 (by rw [k12T]; decide) (by rw [k12T]; decide) (by rw [k12T]; decide) (by decide) ?_
      refine x_iload_n 2 d_X0_faith_98 rfl rfl ?_
      refine x_iload_n 1 d_X0_faith_99 rfl rfl ?_
      refine x_iadd d_X0_faith_100 ?_
      refine x_iload 0 d_X0_faith_101 rfl ?_
      refine x_isub d_X0_faith_103 ?_
      refine x_iconst (x := 5) d_X0_faith_104 (by decide) ?_
      refine x_aload_n 3 d_X0_faith_105 rfl rfl ?_
      refine x_iload_n 4 d_X0_faith_106 rfl rfl ?_
      refine x_cvip (k := o) (as := [.int (nI p)]) (c_X0_companions l E μ ho hR hI (p := p) (by omega)) v_X0_companions w_X0_companions q206 (p_ob ho) rfl ⟨Nat.le_of_ble_eq_true rfl, Nat.le_of_ble_eq_true rfl⟩ rfl (Nat.le_of_ble_eq_true rfl) d_X0_faith_107 ?_
      refine x_imul d_X0_faith_110 ?_
      refine x_iadd d_X0_faith_111 ?_
      refine x_iret rfl d_X0_faith_112 ?_
      refine ⟨?_, rfl⟩
      first | (simp [faithF, dayF, c1, k12]; done) | (exfalso; simp_all; done)
    by_cases k13 : a (24 + 3 * p) = 5
    · have k13T : (a (24 + 3 * p)).toInt = 5 := by rw [k13]; decide
      refine x_tswIn 113 (off := 75) d_X0_faith_38 (by rw [k13T]; decide) (by rw [k13T]; decide) (by rw [k13T]; decide) (by decide) ?_
      refine x_aload_n 3 d_X0_faith_113 rfl rfl ?_
      refine x_getiV (j := 7) (z := a 2) x_c0 (p_kd ho) (Nat.le_of_ble_eq_true rfl) q48 (p_n7 ho) (PR.f7 hR) d_X0_faith_114 ?_
      refine x_if_ne 124 d_X0_faith_117 (by decide) (fun c14 => ?_) (fun c14 => ?_)
      · skip
        exact absurd c1 c14
      · skip
        refine x_iload_n 2 d_X0_faith_120 rfl rfl ?_
        refine x_goto 127 d_X0_faith_121 (by decide) ?_
        refine x_iret rfl d_X0_faith_127 ?_
        refine ⟨?_, rfl⟩
        first | (simp [faithF, dayF, c1, k13, c14]; done) | (exfalso; simp_all; done)
    by_cases k15 : a (24 + 3 * p) = 6
    · have k15T : (a (24 + 3 * p)).toInt = 6 := by rw [k15]; decide
      refine x_tswIn 80 (off := 42) d_X0_faith_38 (by rw [k15T]; decide) (by rw [k15T]; decide) (by rw [k15T]; decide) (by decide) ?_
      refine x_iload_n 2 d_X0_faith_80 rfl rfl ?_
      refine x_iconst (x := 2) d_X0_faith_81 (by decide) ?_
      refine x_idiv d_X0_faith_82 (by decide) ?_
      refine x_bipush (x := 20) d_X0_faith_83 (by decide) ?_
      refine x_isub d_X0_faith_85 ?_
      refine x_iret rfl d_X0_faith_86 ?_
      refine ⟨?_, rfl⟩
      first | (simp [faithF, dayF, c1, k15]; done) | (exfalso; simp_all; done)
    have k9T : ¬ (a (24 + 3 * p)).toInt = 1 := lv_neT k9 (by decide)
    have k10T : ¬ (a (24 + 3 * p)).toInt = 2 := lv_neT k10 (by decide)
    have k11T : ¬ (a (24 + 3 * p)).toInt = 3 := lv_neT k11 (by decide)
    have k12T : ¬ (a (24 + 3 * p)).toInt = 4 := lv_neT k12 (by decide)
    have k13T : ¬ (a (24 + 3 * p)).toInt = 5 := lv_neT k13 (by decide)
    have k15T : ¬ (a (24 + 3 * p)).toInt = 6 := lv_neT k15 (by decide)
    refine x_tswOut 128 d_X0_faith_38 (by omega) (by decide) ?_
    refine x_iload_n 2 d_X0_faith_128 rfl rfl ?_
    refine x_iret rfl d_X0_faith_129 ?_
    refine ⟨?_, rfl⟩
    first | (simp [faithF, dayF, c1, k9, k10, k11, k12, k13, k15]; done) | (exfalso; simp_all; done)
def m_X0_brings : x_M := (yX0_brings, prog_2_method_7_code, 5, (some FieldType.int), 2, 50)
theorem v_X0_brings : x_VM m_X0_brings 2 := ⟨q198, q2, by decide +kernel, by decide +kernel, by decide +kernel⟩
theorem w_X0_brings : x_VI m_X0_brings := ⟨q196, q197⟩
theorem d_X0_brings_0 : x_dec m_X0_brings 0 (.aload_n 0) 1 1 := ⟨by decide +kernel, rfl⟩
theorem d_X0_brings_1 : x_dec m_X0_brings 1 (.getfield 18) 3 4 := ⟨by decide +kernel, rfl⟩
theorem d_X0_brings_4 : x_dec m_X0_brings 4 (.iload_n 1) 1 5 := ⟨by decide +kernel, rfl⟩
theorem d_X0_brings_5 : x_dec m_X0_brings 5 (.iaload) 1 6 := ⟨by decide +kernel, rfl⟩
theorem d_X0_brings_6 : x_dec m_X0_brings 6 (.istore_n 3) 1 7 := ⟨by decide +kernel, rfl⟩
theorem d_X0_brings_7 : x_dec m_X0_brings 7 (.iload_n 3) 1 8 := ⟨by decide +kernel, rfl⟩
theorem d_X0_brings_8 : x_dec m_X0_brings 8 (.iconst (-1)) 1 9 := ⟨by decide +kernel, rfl⟩
theorem d_X0_brings_9 : x_dec m_X0_brings 9 (.if_icmp .ne 9) 3 12 := ⟨by decide +kernel, rfl⟩
theorem d_X0_brings_12 : x_dec m_X0_brings 12 (.aload_n 0) 1 13 := ⟨by decide +kernel, rfl⟩
theorem d_X0_brings_13 : x_dec m_X0_brings 13 (.iload_n 1) 1 14 := ⟨by decide +kernel, rfl⟩
theorem d_X0_brings_14 : x_dec m_X0_brings 14 (.invokevirtual 87) 3 17 := ⟨by decide +kernel, rfl⟩
theorem d_X0_brings_17 : x_dec m_X0_brings 17 (.ireturn) 1 18 := ⟨by decide +kernel, rfl⟩
theorem d_X0_brings_18 : x_dec m_X0_brings 18 (.iload_n 3) 1 19 := ⟨by decide +kernel, rfl⟩
theorem d_X0_brings_19 : x_dec m_X0_brings 19 (.iload_n 2) 1 20 := ⟨by decide +kernel, rfl⟩
theorem d_X0_brings_20 : x_dec m_X0_brings 20 (.if_icmp .gt 9) 3 23 := ⟨by decide +kernel, rfl⟩
theorem d_X0_brings_23 : x_dec m_X0_brings 23 (.iload_n 2) 1 24 := ⟨by decide +kernel, rfl⟩
theorem d_X0_brings_24 : x_dec m_X0_brings 24 (.iload_n 3) 1 25 := ⟨by decide +kernel, rfl⟩
theorem d_X0_brings_25 : x_dec m_X0_brings 25 (.isub) 1 26 := ⟨by decide +kernel, rfl⟩
theorem d_X0_brings_26 : x_dec m_X0_brings 26 (.goto 8) 3 29 := ⟨by decide +kernel, rfl⟩
theorem d_X0_brings_29 : x_dec m_X0_brings 29 (.iload_n 3) 1 30 := ⟨by decide +kernel, rfl⟩
theorem d_X0_brings_30 : x_dec m_X0_brings 30 (.iload_n 2) 1 31 := ⟨by decide +kernel, rfl⟩
theorem d_X0_brings_31 : x_dec m_X0_brings 31 (.isub) 1 32 := ⟨by decide +kernel, rfl⟩
theorem d_X0_brings_32 : x_dec m_X0_brings 32 (.iconst 1) 1 33 := ⟨by decide +kernel, rfl⟩
theorem d_X0_brings_33 : x_dec m_X0_brings 33 (.isub) 1 34 := ⟨by decide +kernel, rfl⟩
theorem d_X0_brings_34 : x_dec m_X0_brings 34 (.istore 4) 2 36 := ⟨by decide +kernel, rfl⟩
theorem d_X0_brings_36 : x_dec m_X0_brings 36 (.iconst 0) 1 37 := ⟨by decide +kernel, rfl⟩
theorem d_X0_brings_37 : x_dec m_X0_brings 37 (.aload_n 0) 1 38 := ⟨by decide +kernel, rfl⟩
theorem d_X0_brings_38 : x_dec m_X0_brings 38 (.iload_n 1) 1 39 := ⟨by decide +kernel, rfl⟩
theorem d_X0_brings_39 : x_dec m_X0_brings 39 (.invokevirtual 87) 3 42 := ⟨by decide +kernel, rfl⟩
theorem d_X0_brings_42 : x_dec m_X0_brings 42 (.bipush 10) 2 44 := ⟨by decide +kernel, rfl⟩
theorem d_X0_brings_44 : x_dec m_X0_brings 44 (.iload 4) 2 46 := ⟨by decide +kernel, rfl⟩
theorem d_X0_brings_46 : x_dec m_X0_brings 46 (.imul) 1 47 := ⟨by decide +kernel, rfl⟩
theorem d_X0_brings_47 : x_dec m_X0_brings 47 (.isub) 1 48 := ⟨by decide +kernel, rfl⟩
theorem d_X0_brings_48 : x_dec m_X0_brings 48 (.invokestatic 90) 3 51 := ⟨by decide +kernel, rfl⟩
theorem d_X0_brings_51 : x_dec m_X0_brings 51 (.ireturn) 1 52 := ⟨by decide +kernel, rfl⟩
set_option maxHeartbeats 4000000 in
set_option maxRecDepth 100000 in
theorem c_X0_brings (l : Launch) (E : x_E) (μ : x_Mem) {a : x_St} {o : Nat} (ho : x_pr o) (hR : PR a o μ) (hI : WF a) {p : Nat} (hp : p < 8) (k : Int32) : x_Met l m_X0_brings E [.ref (E.1 + o), .int (nI p), .int k] μ (x_I (fun z m => z = bringsF a p k ∧ m = μ)) := by
  have ho1 : o = 1 ∨ o = 10 ∨ o = 19 := ho
  have hn7 := hI.2.1
  have hpn := hI.1
  refine x_enter (lv := [(0, .ref (E.1 + o)), (1, .int (nI p)), (2, .int k)]) (by decide +kernel) (Nat.le_of_ble_eq_true rfl) rfl ?_
  refine x_aload_n 0 d_X0_brings_0 rfl rfl ?_
  refine x_getr (j := 2) (o + 3) x_c0 (p_kd ho) (Nat.le_of_ble_eq_true rfl) q36 (p_f2 ho) d_X0_brings_1 ?_
  refine x_iload_n 1 d_X0_brings_4 rfl rfl ?_
  refine x_ialdN (z := a (24 + 3 * p + 1)) 8 p (p_k3 ho) (p_l3 ho) (by omega) (by decide) (PR.wh hR p (by omega)) d_X0_brings_5 ?_
  refine x_istore_n [(3, .int (a (24 + 3 * p + 1))), (0, .ref (E.1 + o)), (1, .int (nI p)), (2, .int k)] d_X0_brings_6 rfl (Nat.le_of_ble_eq_true rfl) rfl ?_
  refine x_iload_n 0 d_X0_brings_7 rfl rfl ?_
  refine x_iconst (x := (-1)) d_X0_brings_8 (by decide) ?_
  refine x_icmp_ne 18 d_X0_brings_9 (by decide) (fun c1 => ?_) (fun c1 => ?_)
  · skip
    refine x_iload_n 0 d_X0_brings_18 rfl rfl ?_
    refine x_iload_n 3 d_X0_brings_19 rfl rfl ?_
    refine x_icmp_gt 29 d_X0_brings_20 (by decide) (fun c2 => ?_) (fun c2 => ?_)
    · skip
      have d1 := Int32.not_le.mpr c2
      refine x_iload_n 0 d_X0_brings_29 rfl rfl ?_
      refine x_iload_n 3 d_X0_brings_30 rfl rfl ?_
      refine x_isub d_X0_brings_31 ?_
      refine x_iconst (x := 1) d_X0_brings_32 (by decide) ?_
      refine x_isub d_X0_brings_33 ?_
      refine x_istore [(4, .int (((a (24 + 3 * p + 1)) - k) - 1)), (3, .int (a (24 + 3 * p + 1))), (0, .ref (E.1 + o)), (1, .int (nI p)), (2, .int k)] d_X0_brings_34 (Nat.le_of_ble_eq_true rfl) rfl ?_
      refine x_iconst (x := 0) d_X0_brings_36 (by decide) ?_
      refine x_aload_n 2 d_X0_brings_37 rfl rfl ?_
      refine x_iload_n 3 d_X0_brings_38 rfl rfl ?_
      refine x_cvip (k := o) (as := [.int (nI p)]) (c_X0_faith l E μ ho hR hI (p := p) (by omega)) v_X0_faith w_X0_faith q199 (p_ob ho) rfl ⟨Nat.le_of_ble_eq_true rfl, Nat.le_of_ble_eq_true rfl⟩ rfl (Nat.le_of_ble_eq_true rfl) d_X0_brings_39 ?_
      refine x_bipush (x := 10) d_X0_brings_42 (by decide) ?_
      refine x_iload 0 d_X0_brings_44 rfl ?_
      refine x_imul d_X0_brings_46 ?_
      refine x_isub d_X0_brings_47 ?_
      refine x_max q210 q211 q212 q7 (Nat.le_of_ble_eq_true rfl) (Nat.le_of_ble_eq_true rfl) d_X0_brings_48 ?_
      refine x_iret rfl d_X0_brings_51 ?_
      exact ⟨by simp [bringsF, farF, d1, c1, c2], rfl⟩
    · skip
      have d1 := Int32.not_lt.mp c2
      refine x_iload_n 3 d_X0_brings_23 rfl rfl ?_
      refine x_iload_n 0 d_X0_brings_24 rfl rfl ?_
      refine x_isub d_X0_brings_25 ?_
      refine x_goto 34 d_X0_brings_26 (by decide) ?_
      refine x_istore [(4, .int (k - (a (24 + 3 * p + 1)))), (3, .int (a (24 + 3 * p + 1))), (0, .ref (E.1 + o)), (1, .int (nI p)), (2, .int k)] d_X0_brings_34 (Nat.le_of_ble_eq_true rfl) rfl ?_
      refine x_iconst (x := 0) d_X0_brings_36 (by decide) ?_
      refine x_aload_n 2 d_X0_brings_37 rfl rfl ?_
      refine x_iload_n 3 d_X0_brings_38 rfl rfl ?_
      refine x_cvip (k := o) (as := [.int (nI p)]) (c_X0_faith l E μ ho hR hI (p := p) (by omega)) v_X0_faith w_X0_faith q199 (p_ob ho) rfl ⟨Nat.le_of_ble_eq_true rfl, Nat.le_of_ble_eq_true rfl⟩ rfl (Nat.le_of_ble_eq_true rfl) d_X0_brings_39 ?_
      refine x_bipush (x := 10) d_X0_brings_42 (by decide) ?_
      refine x_iload 0 d_X0_brings_44 rfl ?_
      refine x_imul d_X0_brings_46 ?_
      refine x_isub d_X0_brings_47 ?_
      refine x_max q210 q211 q212 q7 (Nat.le_of_ble_eq_true rfl) (Nat.le_of_ble_eq_true rfl) d_X0_brings_48 ?_
      refine x_iret rfl d_X0_brings_51 ?_
      exact ⟨by simp [bringsF, farF, d1, c1, c2], rfl⟩
  · skip
    refine x_aload_n 1 d_X0_brings_12 rfl rfl ?_
    refine x_iload_n 2 d_X0_brings_13 rfl rfl ?_
    refine x_cvip (k := o) (as := [.int (nI p)]) (c_X0_faith l E μ ho hR hI (p := p) (by omega)) v_X0_faith w_X0_faith q199 (p_ob ho) rfl ⟨Nat.le_of_ble_eq_true rfl, Nat.le_of_ble_eq_true rfl⟩ rfl (Nat.le_of_ble_eq_true rfl) d_X0_brings_14 ?_
    refine x_iret rfl d_X0_brings_17 ?_
    exact ⟨by simp [bringsF, c1], rfl⟩
def m_X0_sumAt : x_M := (yX0_sumAt, prog_2_method_8_code, 4, (some FieldType.int), 3, 74)
theorem v_X0_sumAt : x_VM m_X0_sumAt 1 := ⟨q194, q2, by decide +kernel, by decide +kernel, by decide +kernel⟩
theorem w_X0_sumAt : x_VI m_X0_sumAt := ⟨q192, q193⟩
theorem d_X0_sumAt_0 : x_dec m_X0_sumAt 0 (.iconst 0) 1 1 := ⟨by decide +kernel, rfl⟩
theorem d_X0_sumAt_1 : x_dec m_X0_sumAt 1 (.istore_n 2) 1 2 := ⟨by decide +kernel, rfl⟩
theorem d_X0_sumAt_2 : x_dec m_X0_sumAt 2 (.iconst 0) 1 3 := ⟨by decide +kernel, rfl⟩
theorem d_X0_sumAt_3 : x_dec m_X0_sumAt 3 (.istore_n 3) 1 4 := ⟨by decide +kernel, rfl⟩
theorem d_X0_sumAt_4 : x_dec m_X0_sumAt 4 (.iload_n 3) 1 5 := ⟨by decide +kernel, rfl⟩
theorem d_X0_sumAt_5 : x_dec m_X0_sumAt 5 (.aload_n 0) 1 6 := ⟨by decide +kernel, rfl⟩
theorem d_X0_sumAt_6 : x_dec m_X0_sumAt 6 (.getfield 27) 3 9 := ⟨by decide +kernel, rfl⟩
theorem d_X0_sumAt_9 : x_dec m_X0_sumAt 9 (.if_icmp .ge 18) 3 12 := ⟨by decide +kernel, rfl⟩
theorem d_X0_sumAt_12 : x_dec m_X0_sumAt 12 (.iload_n 2) 1 13 := ⟨by decide +kernel, rfl⟩
theorem d_X0_sumAt_13 : x_dec m_X0_sumAt 13 (.aload_n 0) 1 14 := ⟨by decide +kernel, rfl⟩
theorem d_X0_sumAt_14 : x_dec m_X0_sumAt 14 (.iload_n 3) 1 15 := ⟨by decide +kernel, rfl⟩
theorem d_X0_sumAt_15 : x_dec m_X0_sumAt 15 (.iload_n 1) 1 16 := ⟨by decide +kernel, rfl⟩
theorem d_X0_sumAt_16 : x_dec m_X0_sumAt 16 (.invokevirtual 93) 3 19 := ⟨by decide +kernel, rfl⟩
theorem d_X0_sumAt_19 : x_dec m_X0_sumAt 19 (.iadd) 1 20 := ⟨by decide +kernel, rfl⟩
theorem d_X0_sumAt_20 : x_dec m_X0_sumAt 20 (.istore_n 2) 1 21 := ⟨by decide +kernel, rfl⟩
theorem d_X0_sumAt_21 : x_dec m_X0_sumAt 21 (.iinc 3 1) 3 24 := ⟨by decide +kernel, rfl⟩
theorem d_X0_sumAt_24 : x_dec m_X0_sumAt 24 (.goto (-20)) 3 27 := ⟨by decide +kernel, rfl⟩
theorem d_X0_sumAt_27 : x_dec m_X0_sumAt 27 (.iload_n 2) 1 28 := ⟨by decide +kernel, rfl⟩
theorem d_X0_sumAt_28 : x_dec m_X0_sumAt 28 (.ireturn) 1 29 := ⟨by decide +kernel, rfl⟩
set_option maxHeartbeats 4000000 in
set_option maxRecDepth 100000 in
theorem c_X0_sumAt (l : Launch) (E : x_E) (μ : x_Mem) {a : x_St} {o : Nat} (ho : x_pr o) (hR : PR a o μ) (hI : WF a) (k : Int32) : x_Met l m_X0_sumAt E [.ref (E.1 + o), .int k] μ (x_I (fun z m => z = sumF a k ∧ m = μ)) := by
  have ho1 : o = 1 ∨ o = 10 ∨ o = 19 := ho
  have hn7 := hI.2.1
  have hpn := hI.1
  refine x_enter (lv := [(0, .ref (E.1 + o)), (1, .int k)]) (by decide +kernel) (Nat.le_of_ble_eq_true rfl) rfl ?_
  refine x_iconst (x := 0) d_X0_sumAt_0 (by decide) ?_
  refine x_istore_n [(2, .int 0), (0, .ref (E.1 + o)), (1, .int k)] d_X0_sumAt_1 rfl (Nat.le_of_ble_eq_true rfl) rfl ?_
  refine x_iconst (x := 0) d_X0_sumAt_2 (by decide) ?_
  refine x_istore_n [(3, .int 0), (2, .int 0), (0, .ref (E.1 + o)), (1, .int k)] d_X0_sumAt_3 rfl (Nat.le_of_ble_eq_true rfl) rfl ?_
  have L1 : ∀ i : Nat, i ≤ pn a → ∀ r : Int32, (r = sumTo (fun p => bringsF a p k) i) → x_G l E m_X0_sumAt (x_mv E m_X0_sumAt (x_I (fun z m => z = sumF a k ∧ m = μ))) μ 4 [(3, .int (nI i)), (2, .int r), (0, .ref (E.1 + o)), (1, .int k)] [] := by
    refine x_down _ (pn a) (fun i hi3 ih2 => ?_)
    intro r hr
    refine x_iload_n 0 d_X0_sumAt_4 rfl rfl ?_
    refine x_aload_n 2 d_X0_sumAt_5 rfl rfl ?_
    refine x_getiV (j := 5) (z := nI (pn a)) x_c0 (p_kd ho) (Nat.le_of_ble_eq_true rfl) q42 (p_n5 ho) ((PR.f5 hR).trans hn7) d_X0_sumAt_6 ?_
    refine x_icmp_ge 27 d_X0_sumAt_9 (by decide) (fun c4 => ?_) (fun c4 => ?_)
    · skip
      have hN := x_ge c4 rfl rfl (by omega) (by omega)
      refine x_iload_n 1 d_X0_sumAt_27 rfl rfl ?_
      refine x_iret rfl d_X0_sumAt_28 ?_
      exact ⟨by rw [hr, sumF]; congr 1; omega, rfl⟩
    · skip
      have hN := x_lt c4 rfl rfl (by omega) (by omega)
      refine x_iload_n 1 d_X0_sumAt_12 rfl rfl ?_
      refine x_aload_n 2 d_X0_sumAt_13 rfl rfl ?_
      refine x_iload_n 0 d_X0_sumAt_14 rfl rfl ?_
      refine x_iload_n 3 d_X0_sumAt_15 rfl rfl ?_
      refine x_cvip (k := o) (as := [.int (nI i), .int k]) (c_X0_brings l E μ ho hR hI (p := i) (by omega) k) v_X0_brings w_X0_brings q195 (p_ob ho) rfl ⟨Nat.le_of_ble_eq_true rfl, Nat.le_of_ble_eq_true rfl⟩ rfl (Nat.le_of_ble_eq_true rfl) d_X0_sumAt_16 ?_
      refine x_iadd d_X0_sumAt_19 ?_
      refine x_istore_n [(2, .int (r + (bringsF a i k))), (3, .int (nI i)), (0, .ref (E.1 + o)), (1, .int k)] d_X0_sumAt_20 rfl (Nat.le_of_ble_eq_true rfl) rfl ?_
      refine x_iinc [(3, .int (nI (i + 1))), (2, .int (r + (bringsF a i k))), (0, .ref (E.1 + o)), (1, .int k)] 1 d_X0_sumAt_21 rfl (x_inc _) (Nat.le_of_ble_eq_true rfl) rfl ?_
      refine x_goto 4 d_X0_sumAt_24 (by decide) ?_
      exact ih2 (i + 1) (by omega) (by omega) (r + (bringsF a i k)) (by rw [hr, sumTo])
  exact L1 0 (by omega) 0 (by rfl)
def m_X0_isThere : x_M := (yX0_isThere, prog_2_method_9_code, 2, (some FieldType.boolean), 4, 97)
theorem v_X0_isThere : x_VM m_X0_isThere 1 := ⟨q216, q2, by decide +kernel, by decide +kernel, by decide +kernel⟩
theorem w_X0_isThere : x_VI m_X0_isThere := ⟨q214, q215⟩
theorem d_X0_isThere_0 : x_dec m_X0_isThere 0 (.iload_n 1) 1 1 := ⟨by decide +kernel, rfl⟩
theorem d_X0_isThere_1 : x_dec m_X0_isThere 1 (.ifCond .lt 27) 3 4 := ⟨by decide +kernel, rfl⟩
theorem d_X0_isThere_4 : x_dec m_X0_isThere 4 (.iload_n 1) 1 5 := ⟨by decide +kernel, rfl⟩
theorem d_X0_isThere_5 : x_dec m_X0_isThere 5 (.bipush 16) 2 7 := ⟨by decide +kernel, rfl⟩
theorem d_X0_isThere_7 : x_dec m_X0_isThere 7 (.if_icmp .ge 21) 3 10 := ⟨by decide +kernel, rfl⟩
theorem d_X0_isThere_10 : x_dec m_X0_isThere 10 (.aload_n 0) 1 11 := ⟨by decide +kernel, rfl⟩
theorem d_X0_isThere_11 : x_dec m_X0_isThere 11 (.iload_n 1) 1 12 := ⟨by decide +kernel, rfl⟩
theorem d_X0_isThere_12 : x_dec m_X0_isThere 12 (.invokevirtual 96) 3 15 := ⟨by decide +kernel, rfl⟩
theorem d_X0_isThere_15 : x_dec m_X0_isThere 15 (.aload_n 0) 1 16 := ⟨by decide +kernel, rfl⟩
theorem d_X0_isThere_16 : x_dec m_X0_isThere 16 (.getfield 9) 3 19 := ⟨by decide +kernel, rfl⟩
theorem d_X0_isThere_19 : x_dec m_X0_isThere 19 (.iload_n 1) 1 20 := ⟨by decide +kernel, rfl⟩
theorem d_X0_isThere_20 : x_dec m_X0_isThere 20 (.iaload) 1 21 := ⟨by decide +kernel, rfl⟩
theorem d_X0_isThere_21 : x_dec m_X0_isThere 21 (.if_icmp .lt 7) 3 24 := ⟨by decide +kernel, rfl⟩
theorem d_X0_isThere_24 : x_dec m_X0_isThere 24 (.iconst 1) 1 25 := ⟨by decide +kernel, rfl⟩
theorem d_X0_isThere_25 : x_dec m_X0_isThere 25 (.goto 4) 3 28 := ⟨by decide +kernel, rfl⟩
theorem d_X0_isThere_28 : x_dec m_X0_isThere 28 (.iconst 0) 1 29 := ⟨by decide +kernel, rfl⟩
theorem d_X0_isThere_29 : x_dec m_X0_isThere 29 (.ireturn) 1 30 := ⟨by decide +kernel, rfl⟩
set_option maxHeartbeats 4000000 in
set_option maxRecDepth 100000 in
theorem c_X0_isThere (l : Launch) (E : x_E) (μ : x_Mem) {a : x_St} {o : Nat} (ho : x_pr o) (hR : PR a o μ) (hI : WF a) {k : Nat} (hk : k < 16) : x_Met l m_X0_isThere E [.ref (E.1 + o), .int (nI k)] μ (x_I (fun z m => z = x_b (thereB a k) ∧ m = μ)) := by
  have ho1 : o = 1 ∨ o = 10 ∨ o = 19 := ho
  have hn7 := hI.2.1
  have hpn := hI.1
  refine x_enter (lv := [(0, .ref (E.1 + o)), (1, .int (nI k))]) (by decide +kernel) (Nat.le_of_ble_eq_true rfl) rfl ?_
  refine x_iload_n 1 d_X0_isThere_0 rfl rfl ?_
  refine x_if_lt 28 d_X0_isThere_1 (by decide) (fun c1 => ?_) (fun c1 => ?_)
  · skip
    exact absurd c1 (nI_pos (by omega))
  · skip
    refine x_iload_n 1 d_X0_isThere_4 rfl rfl ?_
    refine x_bipush (x := 16) d_X0_isThere_5 (by decide) ?_
    refine x_icmp_ge 28 d_X0_isThere_7 (by decide) (fun c2 => ?_) (fun c2 => ?_)
    · skip
      exact absurd (x_ge (N := 16) c2 rfl rfl (by omega) (by omega)) (by omega)
    · skip
      refine x_aload_n 0 d_X0_isThere_10 rfl rfl ?_
      refine x_iload_n 1 d_X0_isThere_11 rfl rfl ?_
      refine x_cvip (k := o) (as := [.int (nI k)]) (c_X0_sumAt l E μ ho hR hI (nI k)) v_X0_sumAt w_X0_sumAt q217 (p_ob ho) rfl ⟨Nat.le_of_ble_eq_true rfl, Nat.le_of_ble_eq_true rfl⟩ rfl (Nat.le_of_ble_eq_true rfl) d_X0_isThere_12 ?_
      refine x_aload_n 0 d_X0_isThere_15 rfl rfl ?_
      refine x_getr (j := 0) (o + 1) x_c0 (p_kd ho) (Nat.le_of_ble_eq_true rfl) q31 (p_f0 ho) d_X0_isThere_16 ?_
      refine x_iload_n 1 d_X0_isThere_19 rfl rfl ?_
      refine x_ialdN (z := a (8 + k)) 16 k (p_k1 ho) (p_l1 ho) (by omega) (by decide) (PR.need hR k (by omega)) d_X0_isThere_20 ?_
      refine x_icmp_lt 28 d_X0_isThere_21 (by decide) (fun c3 => ?_) (fun c3 => ?_)
      · skip
        have d1 := Int32.not_le.mpr c3
        refine x_iconst (x := 0) d_X0_isThere_28 (by decide) ?_
        refine x_zret0 rfl d_X0_isThere_29 ?_
        exact ⟨by simp [thereB, d1], rfl⟩
      · skip
        have d1 := Int32.not_lt.mp c3
        refine x_iconst (x := 1) d_X0_isThere_24 (by decide) ?_
        refine x_goto 29 d_X0_isThere_25 (by decide) ?_
        refine x_zret1 rfl d_X0_isThere_29 ?_
        exact ⟨by simp [thereB, d1], rfl⟩
def m_X0_thereSet : x_M := (yX0_thereSet, prog_2_method_10_code, 3, (some FieldType.int), 5, 118)
theorem v_X0_thereSet : x_VM m_X0_thereSet 0 := ⟨q299, q2, by decide +kernel, by decide +kernel, by decide +kernel⟩
theorem w_X0_thereSet : x_VI m_X0_thereSet := ⟨q297, q298⟩
theorem d_X0_thereSet_0 : x_dec m_X0_thereSet 0 (.iconst 0) 1 1 := ⟨by decide +kernel, rfl⟩
theorem d_X0_thereSet_1 : x_dec m_X0_thereSet 1 (.istore_n 1) 1 2 := ⟨by decide +kernel, rfl⟩
theorem d_X0_thereSet_2 : x_dec m_X0_thereSet 2 (.iconst 0) 1 3 := ⟨by decide +kernel, rfl⟩
theorem d_X0_thereSet_3 : x_dec m_X0_thereSet 3 (.istore_n 2) 1 4 := ⟨by decide +kernel, rfl⟩
theorem d_X0_thereSet_4 : x_dec m_X0_thereSet 4 (.iload_n 2) 1 5 := ⟨by decide +kernel, rfl⟩
theorem d_X0_thereSet_5 : x_dec m_X0_thereSet 5 (.bipush 16) 2 7 := ⟨by decide +kernel, rfl⟩
theorem d_X0_thereSet_7 : x_dec m_X0_thereSet 7 (.if_icmp .ge 23) 3 10 := ⟨by decide +kernel, rfl⟩
theorem d_X0_thereSet_10 : x_dec m_X0_thereSet 10 (.aload_n 0) 1 11 := ⟨by decide +kernel, rfl⟩
theorem d_X0_thereSet_11 : x_dec m_X0_thereSet 11 (.iload_n 2) 1 12 := ⟨by decide +kernel, rfl⟩
theorem d_X0_thereSet_12 : x_dec m_X0_thereSet 12 (.invokevirtual 99) 3 15 := ⟨by decide +kernel, rfl⟩
theorem d_X0_thereSet_15 : x_dec m_X0_thereSet 15 (.ifCond .eq 9) 3 18 := ⟨by decide +kernel, rfl⟩
theorem d_X0_thereSet_18 : x_dec m_X0_thereSet 18 (.iload_n 1) 1 19 := ⟨by decide +kernel, rfl⟩
theorem d_X0_thereSet_19 : x_dec m_X0_thereSet 19 (.iconst 1) 1 20 := ⟨by decide +kernel, rfl⟩
theorem d_X0_thereSet_20 : x_dec m_X0_thereSet 20 (.iload_n 2) 1 21 := ⟨by decide +kernel, rfl⟩
theorem d_X0_thereSet_21 : x_dec m_X0_thereSet 21 (.ishl) 1 22 := ⟨by decide +kernel, rfl⟩
theorem d_X0_thereSet_22 : x_dec m_X0_thereSet 22 (.ior) 1 23 := ⟨by decide +kernel, rfl⟩
theorem d_X0_thereSet_23 : x_dec m_X0_thereSet 23 (.istore_n 1) 1 24 := ⟨by decide +kernel, rfl⟩
theorem d_X0_thereSet_24 : x_dec m_X0_thereSet 24 (.iinc 2 1) 3 27 := ⟨by decide +kernel, rfl⟩
theorem d_X0_thereSet_27 : x_dec m_X0_thereSet 27 (.goto (-23)) 3 30 := ⟨by decide +kernel, rfl⟩
theorem d_X0_thereSet_30 : x_dec m_X0_thereSet 30 (.iload_n 1) 1 31 := ⟨by decide +kernel, rfl⟩
theorem d_X0_thereSet_31 : x_dec m_X0_thereSet 31 (.ireturn) 1 32 := ⟨by decide +kernel, rfl⟩
set_option maxHeartbeats 4000000 in
set_option maxRecDepth 100000 in
theorem c_X0_thereSet (l : Launch) (E : x_E) (μ : x_Mem) {a : x_St} {o : Nat} (ho : x_pr o) (hR : PR a o μ) (hI : WF a)  : x_Met l m_X0_thereSet E [.ref (E.1 + o)] μ (x_I (fun z m => z = thereF a ∧ m = μ)) := by
  have ho1 : o = 1 ∨ o = 10 ∨ o = 19 := ho
  have hn7 := hI.2.1
  have hpn := hI.1
  refine x_enter (lv := [(0, .ref (E.1 + o))]) (by decide +kernel) (Nat.le_of_ble_eq_true rfl) rfl ?_
  refine x_iconst (x := 0) d_X0_thereSet_0 (by decide) ?_
  refine x_istore_n [(1, .int 0), (0, .ref (E.1 + o))] d_X0_thereSet_1 rfl (Nat.le_of_ble_eq_true rfl) rfl ?_
  refine x_iconst (x := 0) d_X0_thereSet_2 (by decide) ?_
  refine x_istore_n [(2, .int 0), (1, .int 0), (0, .ref (E.1 + o))] d_X0_thereSet_3 rfl (Nat.le_of_ble_eq_true rfl) rfl ?_
  have L1 : ∀ i : Nat, i ≤ 16 → ∀ r : Int32, (r = setTo (thereB a) i) → x_G l E m_X0_thereSet (x_mv E m_X0_thereSet (x_I (fun z m => z = thereF a ∧ m = μ))) μ 4 [(2, .int (nI i)), (1, .int r), (0, .ref (E.1 + o))] [] := by
    refine x_down _ 16 (fun i hi3 ih2 => ?_)
    intro r hr
    refine x_iload_n 0 d_X0_thereSet_4 rfl rfl ?_
    refine x_bipush (x := 16) d_X0_thereSet_5 (by decide) ?_
    refine x_icmp_ge 30 d_X0_thereSet_7 (by decide) (fun c4 => ?_) (fun c4 => ?_)
    · skip
      have hN := x_ge (N := 16) c4 rfl rfl (by omega) (by omega)
      refine x_iload_n 1 d_X0_thereSet_30 rfl rfl ?_
      refine x_iret rfl d_X0_thereSet_31 ?_
      exact ⟨by rw [hr, thereF]; congr 1; omega, rfl⟩
    · skip
      have hN := x_lt (N := 16) c4 rfl rfl (by omega) (by omega)
      refine x_aload_n 2 d_X0_thereSet_10 rfl rfl ?_
      refine x_iload_n 0 d_X0_thereSet_11 rfl rfl ?_
      refine x_cvip (k := o) (as := [.int (nI i)]) (c_X0_isThere l E μ ho hR hI (k := i) (by omega)) v_X0_isThere w_X0_isThere q300 (p_ob ho) rfl ⟨Nat.le_of_ble_eq_true rfl, Nat.le_of_ble_eq_true rfl⟩ rfl (Nat.le_of_ble_eq_true rfl) d_X0_thereSet_12 ?_
      refine x_ifb_eq 24 d_X0_thereSet_15 (by decide) (fun c5 => ?_) (fun c5 => ?_)
      · skip
        refine x_iinc [(2, .int (nI (i + 1))), (1, .int r), (0, .ref (E.1 + o))] 0 d_X0_thereSet_24 rfl (x_inc _) (Nat.le_of_ble_eq_true rfl) rfl ?_
        refine x_goto 4 d_X0_thereSet_27 (by decide) ?_
        exact ih2 (i + 1) (by omega) (by omega) r (by rw [hr, setTo]; simp [c4, c5])
      · skip
        refine x_iload_n 1 d_X0_thereSet_18 rfl rfl ?_
        refine x_iconst (x := 1) d_X0_thereSet_19 (by decide) ?_
        refine x_iload_n 0 d_X0_thereSet_20 rfl rfl ?_
        refine x_ishl d_X0_thereSet_21 ?_
        refine x_ior d_X0_thereSet_22 ?_
        refine x_istore_n [(1, .int (r ||| (1 <<< ((nI i) &&& 31)))), (2, .int (nI i)), (0, .ref (E.1 + o))] d_X0_thereSet_23 rfl (Nat.le_of_ble_eq_true rfl) rfl ?_
        refine x_iinc [(2, .int (nI (i + 1))), (1, .int (r ||| (1 <<< ((nI i) &&& 31)))), (0, .ref (E.1 + o))] 1 d_X0_thereSet_24 rfl (x_inc _) (Nat.le_of_ble_eq_true rfl) rfl ?_
        refine x_goto 4 d_X0_thereSet_27 (by decide) ?_
        exact ih2 (i + 1) (by omega) (by omega) (r ||| (1 <<< ((nI i) &&& 31))) (by rw [hr, setTo]; simp [c4, c5])
  exact L1 0 (by omega) 0 (by rfl)
def m_X0_aboardSet : x_M := (yX0_aboardSet, prog_2_method_11_code, 3, (some FieldType.int), 0, 0)
theorem v_X0_aboardSet : x_VM m_X0_aboardSet 0 := ⟨q295, q2, by decide +kernel, by decide +kernel, by decide +kernel⟩
theorem w_X0_aboardSet : x_VI m_X0_aboardSet := ⟨q293, q294⟩
theorem d_X0_aboardSet_0 : x_dec m_X0_aboardSet 0 (.iconst 0) 1 1 := ⟨by decide +kernel, rfl⟩
theorem d_X0_aboardSet_1 : x_dec m_X0_aboardSet 1 (.istore_n 1) 1 2 := ⟨by decide +kernel, rfl⟩
theorem d_X0_aboardSet_2 : x_dec m_X0_aboardSet 2 (.iconst 0) 1 3 := ⟨by decide +kernel, rfl⟩
theorem d_X0_aboardSet_3 : x_dec m_X0_aboardSet 3 (.istore_n 2) 1 4 := ⟨by decide +kernel, rfl⟩
theorem d_X0_aboardSet_4 : x_dec m_X0_aboardSet 4 (.iload_n 2) 1 5 := ⟨by decide +kernel, rfl⟩
theorem d_X0_aboardSet_5 : x_dec m_X0_aboardSet 5 (.aload_n 0) 1 6 := ⟨by decide +kernel, rfl⟩
theorem d_X0_aboardSet_6 : x_dec m_X0_aboardSet 6 (.getfield 27) 3 9 := ⟨by decide +kernel, rfl⟩
theorem d_X0_aboardSet_9 : x_dec m_X0_aboardSet 9 (.if_icmp .ge 25) 3 12 := ⟨by decide +kernel, rfl⟩
theorem d_X0_aboardSet_12 : x_dec m_X0_aboardSet 12 (.aload_n 0) 1 13 := ⟨by decide +kernel, rfl⟩
theorem d_X0_aboardSet_13 : x_dec m_X0_aboardSet 13 (.getfield 18) 3 16 := ⟨by decide +kernel, rfl⟩
theorem d_X0_aboardSet_16 : x_dec m_X0_aboardSet 16 (.iload_n 2) 1 17 := ⟨by decide +kernel, rfl⟩
theorem d_X0_aboardSet_17 : x_dec m_X0_aboardSet 17 (.iaload) 1 18 := ⟨by decide +kernel, rfl⟩
theorem d_X0_aboardSet_18 : x_dec m_X0_aboardSet 18 (.iconst (-1)) 1 19 := ⟨by decide +kernel, rfl⟩
theorem d_X0_aboardSet_19 : x_dec m_X0_aboardSet 19 (.if_icmp .ne 9) 3 22 := ⟨by decide +kernel, rfl⟩
theorem d_X0_aboardSet_22 : x_dec m_X0_aboardSet 22 (.iload_n 1) 1 23 := ⟨by decide +kernel, rfl⟩
theorem d_X0_aboardSet_23 : x_dec m_X0_aboardSet 23 (.iconst 1) 1 24 := ⟨by decide +kernel, rfl⟩
theorem d_X0_aboardSet_24 : x_dec m_X0_aboardSet 24 (.iload_n 2) 1 25 := ⟨by decide +kernel, rfl⟩
theorem d_X0_aboardSet_25 : x_dec m_X0_aboardSet 25 (.ishl) 1 26 := ⟨by decide +kernel, rfl⟩
theorem d_X0_aboardSet_26 : x_dec m_X0_aboardSet 26 (.ior) 1 27 := ⟨by decide +kernel, rfl⟩
theorem d_X0_aboardSet_27 : x_dec m_X0_aboardSet 27 (.istore_n 1) 1 28 := ⟨by decide +kernel, rfl⟩
theorem d_X0_aboardSet_28 : x_dec m_X0_aboardSet 28 (.iinc 2 1) 3 31 := ⟨by decide +kernel, rfl⟩
theorem d_X0_aboardSet_31 : x_dec m_X0_aboardSet 31 (.goto (-27)) 3 34 := ⟨by decide +kernel, rfl⟩
theorem d_X0_aboardSet_34 : x_dec m_X0_aboardSet 34 (.iload_n 1) 1 35 := ⟨by decide +kernel, rfl⟩
theorem d_X0_aboardSet_35 : x_dec m_X0_aboardSet 35 (.ireturn) 1 36 := ⟨by decide +kernel, rfl⟩
set_option maxHeartbeats 4000000 in
set_option maxRecDepth 100000 in
theorem c_X0_aboardSet (l : Launch) (E : x_E) (μ : x_Mem) {a : x_St} {o : Nat} (ho : x_pr o) (hR : PR a o μ) (hI : WF a)  : x_Met l m_X0_aboardSet E [.ref (E.1 + o)] μ (x_I (fun z m => z = aboardF a ∧ m = μ)) := by
  have ho1 : o = 1 ∨ o = 10 ∨ o = 19 := ho
  have hn7 := hI.2.1
  have hpn := hI.1
  refine x_enter (lv := [(0, .ref (E.1 + o))]) (by decide +kernel) (Nat.le_of_ble_eq_true rfl) rfl ?_
  refine x_iconst (x := 0) d_X0_aboardSet_0 (by decide) ?_
  refine x_istore_n [(1, .int 0), (0, .ref (E.1 + o))] d_X0_aboardSet_1 rfl (Nat.le_of_ble_eq_true rfl) rfl ?_
  refine x_iconst (x := 0) d_X0_aboardSet_2 (by decide) ?_
  refine x_istore_n [(2, .int 0), (1, .int 0), (0, .ref (E.1 + o))] d_X0_aboardSet_3 rfl (Nat.le_of_ble_eq_true rfl) rfl ?_
  have L1 : ∀ i : Nat, i ≤ pn a → ∀ r : Int32, (r = setTo (fun p => decide (a (24 + 3 * p + 1) = -1)) i) → x_G l E m_X0_aboardSet (x_mv E m_X0_aboardSet (x_I (fun z m => z = aboardF a ∧ m = μ))) μ 4 [(2, .int (nI i)), (1, .int r), (0, .ref (E.1 + o))] [] := by
    refine x_down _ (pn a) (fun i hi3 ih2 => ?_)
    intro r hr
    refine x_iload_n 0 d_X0_aboardSet_4 rfl rfl ?_
    refine x_aload_n 2 d_X0_aboardSet_5 rfl rfl ?_
    refine x_getiV (j := 5) (z := nI (pn a)) x_c0 (p_kd ho) (Nat.le_of_ble_eq_true rfl) q42 (p_n5 ho) ((PR.f5 hR).trans hn7) d_X0_aboardSet_6 ?_
    refine x_icmp_ge 34 d_X0_aboardSet_9 (by decide) (fun c4 => ?_) (fun c4 => ?_)
    · skip
      have hN := x_ge c4 rfl rfl (by omega) (by omega)
      refine x_iload_n 1 d_X0_aboardSet_34 rfl rfl ?_
      refine x_iret rfl d_X0_aboardSet_35 ?_
      exact ⟨by rw [hr, aboardF]; congr 1; omega, rfl⟩
    · skip
      have hN := x_lt c4 rfl rfl (by omega) (by omega)
      refine x_aload_n 2 d_X0_aboardSet_12 rfl rfl ?_
      refine x_getr (j := 2) (o + 3) x_c0 (p_kd ho) (Nat.le_of_ble_eq_true rfl) q36 (p_f2 ho) d_X0_aboardSet_13 ?_
      refine x_iload_n 0 d_X0_aboardSet_16 rfl rfl ?_
      refine x_ialdN (z := a (24 + 3 * i + 1)) 8 i (p_k3 ho) (p_l3 ho) (by omega) (by decide) (PR.wh hR i (by omega)) d_X0_aboardSet_17 ?_
      refine x_iconst (x := (-1)) d_X0_aboardSet_18 (by decide) ?_
      refine x_icmp_ne 28 d_X0_aboardSet_19 (by decide) (fun c5 => ?_) (fun c5 => ?_)
      · skip
        refine x_iinc [(2, .int (nI (i + 1))), (1, .int r), (0, .ref (E.1 + o))] 0 d_X0_aboardSet_28 rfl (x_inc _) (Nat.le_of_ble_eq_true rfl) rfl ?_
        refine x_goto 4 d_X0_aboardSet_31 (by decide) ?_
        exact ih2 (i + 1) (by omega) (by omega) r (by rw [hr, setTo]; simp [c4, c5])
      · skip
        refine x_iload_n 1 d_X0_aboardSet_22 rfl rfl ?_
        refine x_iconst (x := 1) d_X0_aboardSet_23 (by decide) ?_
        refine x_iload_n 0 d_X0_aboardSet_24 rfl rfl ?_
        refine x_ishl d_X0_aboardSet_25 ?_
        refine x_ior d_X0_aboardSet_26 ?_
        refine x_istore_n [(1, .int (r ||| (1 <<< ((nI i) &&& 31)))), (2, .int (nI i)), (0, .ref (E.1 + o))] d_X0_aboardSet_27 rfl (Nat.le_of_ble_eq_true rfl) rfl ?_
        refine x_iinc [(2, .int (nI (i + 1))), (1, .int (r ||| (1 <<< ((nI i) &&& 31)))), (0, .ref (E.1 + o))] 1 d_X0_aboardSet_28 rfl (x_inc _) (Nat.le_of_ble_eq_true rfl) rfl ?_
        refine x_goto 4 d_X0_aboardSet_31 (by decide) ?_
        exact ih2 (i + 1) (by omega) (by omega) (r ||| (1 <<< ((nI i) &&& 31))) (by rw [hr, setTo]; simp [c4, c5])
  exact L1 0 (by omega) 0 (by rfl)
def m_X0_beliefOfAll : x_M := (yX0_beliefOfAll, prog_2_method_12_code, 3, (some FieldType.int), 0, 0)
theorem v_X0_beliefOfAll : x_VM m_X0_beliefOfAll 0 := ⟨q304, q2, by decide +kernel, by decide +kernel, by decide +kernel⟩
theorem w_X0_beliefOfAll : x_VI m_X0_beliefOfAll := ⟨q302, q303⟩
theorem d_X0_beliefOfAll_0 : x_dec m_X0_beliefOfAll 0 (.iconst 0) 1 1 := ⟨by decide +kernel, rfl⟩
theorem d_X0_beliefOfAll_1 : x_dec m_X0_beliefOfAll 1 (.istore_n 1) 1 2 := ⟨by decide +kernel, rfl⟩
theorem d_X0_beliefOfAll_2 : x_dec m_X0_beliefOfAll 2 (.iconst 0) 1 3 := ⟨by decide +kernel, rfl⟩
theorem d_X0_beliefOfAll_3 : x_dec m_X0_beliefOfAll 3 (.istore_n 2) 1 4 := ⟨by decide +kernel, rfl⟩
theorem d_X0_beliefOfAll_4 : x_dec m_X0_beliefOfAll 4 (.iload_n 2) 1 5 := ⟨by decide +kernel, rfl⟩
theorem d_X0_beliefOfAll_5 : x_dec m_X0_beliefOfAll 5 (.aload_n 0) 1 6 := ⟨by decide +kernel, rfl⟩
theorem d_X0_beliefOfAll_6 : x_dec m_X0_beliefOfAll 6 (.getfield 27) 3 9 := ⟨by decide +kernel, rfl⟩
theorem d_X0_beliefOfAll_9 : x_dec m_X0_beliefOfAll 9 (.if_icmp .ge 18) 3 12 := ⟨by decide +kernel, rfl⟩
theorem d_X0_beliefOfAll_12 : x_dec m_X0_beliefOfAll 12 (.iload_n 1) 1 13 := ⟨by decide +kernel, rfl⟩
theorem d_X0_beliefOfAll_13 : x_dec m_X0_beliefOfAll 13 (.aload_n 0) 1 14 := ⟨by decide +kernel, rfl⟩
theorem d_X0_beliefOfAll_14 : x_dec m_X0_beliefOfAll 14 (.getfield 21) 3 17 := ⟨by decide +kernel, rfl⟩
theorem d_X0_beliefOfAll_17 : x_dec m_X0_beliefOfAll 17 (.iload_n 2) 1 18 := ⟨by decide +kernel, rfl⟩
theorem d_X0_beliefOfAll_18 : x_dec m_X0_beliefOfAll 18 (.iaload) 1 19 := ⟨by decide +kernel, rfl⟩
theorem d_X0_beliefOfAll_19 : x_dec m_X0_beliefOfAll 19 (.iadd) 1 20 := ⟨by decide +kernel, rfl⟩
theorem d_X0_beliefOfAll_20 : x_dec m_X0_beliefOfAll 20 (.istore_n 1) 1 21 := ⟨by decide +kernel, rfl⟩
theorem d_X0_beliefOfAll_21 : x_dec m_X0_beliefOfAll 21 (.iinc 2 1) 3 24 := ⟨by decide +kernel, rfl⟩
theorem d_X0_beliefOfAll_24 : x_dec m_X0_beliefOfAll 24 (.goto (-20)) 3 27 := ⟨by decide +kernel, rfl⟩
theorem d_X0_beliefOfAll_27 : x_dec m_X0_beliefOfAll 27 (.iload_n 1) 1 28 := ⟨by decide +kernel, rfl⟩
theorem d_X0_beliefOfAll_28 : x_dec m_X0_beliefOfAll 28 (.ireturn) 1 29 := ⟨by decide +kernel, rfl⟩
set_option maxHeartbeats 4000000 in
set_option maxRecDepth 100000 in
theorem c_X0_beliefOfAll (l : Launch) (E : x_E) (μ : x_Mem) {a : x_St} {o : Nat} (ho : x_pr o) (hR : PR a o μ) (hI : WF a)  : x_Met l m_X0_beliefOfAll E [.ref (E.1 + o)] μ (x_I (fun z m => z = beliefsF a ∧ m = μ)) := by
  have ho1 : o = 1 ∨ o = 10 ∨ o = 19 := ho
  have hn7 := hI.2.1
  have hpn := hI.1
  refine x_enter (lv := [(0, .ref (E.1 + o))]) (by decide +kernel) (Nat.le_of_ble_eq_true rfl) rfl ?_
  refine x_iconst (x := 0) d_X0_beliefOfAll_0 (by decide) ?_
  refine x_istore_n [(1, .int 0), (0, .ref (E.1 + o))] d_X0_beliefOfAll_1 rfl (Nat.le_of_ble_eq_true rfl) rfl ?_
  refine x_iconst (x := 0) d_X0_beliefOfAll_2 (by decide) ?_
  refine x_istore_n [(2, .int 0), (1, .int 0), (0, .ref (E.1 + o))] d_X0_beliefOfAll_3 rfl (Nat.le_of_ble_eq_true rfl) rfl ?_
  have L1 : ∀ i : Nat, i ≤ pn a → ∀ r : Int32, (r = sumTo (fun p => a (24 + 3 * p + 2)) i) → x_G l E m_X0_beliefOfAll (x_mv E m_X0_beliefOfAll (x_I (fun z m => z = beliefsF a ∧ m = μ))) μ 4 [(2, .int (nI i)), (1, .int r), (0, .ref (E.1 + o))] [] := by
    refine x_down _ (pn a) (fun i hi3 ih2 => ?_)
    intro r hr
    refine x_iload_n 0 d_X0_beliefOfAll_4 rfl rfl ?_
    refine x_aload_n 2 d_X0_beliefOfAll_5 rfl rfl ?_
    refine x_getiV (j := 5) (z := nI (pn a)) x_c0 (p_kd ho) (Nat.le_of_ble_eq_true rfl) q42 (p_n5 ho) ((PR.f5 hR).trans hn7) d_X0_beliefOfAll_6 ?_
    refine x_icmp_ge 27 d_X0_beliefOfAll_9 (by decide) (fun c4 => ?_) (fun c4 => ?_)
    · skip
      have hN := x_ge c4 rfl rfl (by omega) (by omega)
      refine x_iload_n 1 d_X0_beliefOfAll_27 rfl rfl ?_
      refine x_iret rfl d_X0_beliefOfAll_28 ?_
      exact ⟨by rw [hr, beliefsF]; congr 1; omega, rfl⟩
    · skip
      have hN := x_lt c4 rfl rfl (by omega) (by omega)
      refine x_iload_n 1 d_X0_beliefOfAll_12 rfl rfl ?_
      refine x_aload_n 2 d_X0_beliefOfAll_13 rfl rfl ?_
      refine x_getr (j := 3) (o + 4) x_c0 (p_kd ho) (Nat.le_of_ble_eq_true rfl) q38 (p_f3 ho) d_X0_beliefOfAll_14 ?_
      refine x_iload_n 0 d_X0_beliefOfAll_17 rfl rfl ?_
      refine x_ialdN (z := a (24 + 3 * i + 2)) 8 i (p_k4 ho) (p_l4 ho) (by omega) (by decide) (PR.bl hR i (by omega)) d_X0_beliefOfAll_18 ?_
      refine x_iadd d_X0_beliefOfAll_19 ?_
      refine x_istore_n [(1, .int (r + (a (24 + 3 * i + 2)))), (2, .int (nI i)), (0, .ref (E.1 + o))] d_X0_beliefOfAll_20 rfl (Nat.le_of_ble_eq_true rfl) rfl ?_
      refine x_iinc [(2, .int (nI (i + 1))), (1, .int (r + (a (24 + 3 * i + 2)))), (0, .ref (E.1 + o))] 1 d_X0_beliefOfAll_21 rfl (x_inc _) (Nat.le_of_ble_eq_true rfl) rfl ?_
      refine x_goto 4 d_X0_beliefOfAll_24 (by decide) ?_
      exact ih2 (i + 1) (by omega) (by omega) (r + (a (24 + 3 * i + 2))) (by rw [hr, sumTo])
  exact L1 0 (by omega) 0 (by rfl)
end
section
def m_X3_has : x_M := (yX3_has, prog_1_method_66_code, 2, (some FieldType.boolean), 0, 0)
theorem v_X3_has : x_VM m_X3_has 2 := ⟨q364, q1, by decide +kernel, by decide +kernel, by decide +kernel⟩
theorem d_X3_has_0 : x_dec m_X3_has 0 (.iload_n 0) 1 1 := ⟨by decide +kernel, rfl⟩
theorem d_X3_has_1 : x_dec m_X3_has 1 (.iload_n 1) 1 2 := ⟨by decide +kernel, rfl⟩
theorem d_X3_has_2 : x_dec m_X3_has 2 (.iushr) 1 3 := ⟨by decide +kernel, rfl⟩
theorem d_X3_has_3 : x_dec m_X3_has 3 (.iconst 1) 1 4 := ⟨by decide +kernel, rfl⟩
theorem d_X3_has_4 : x_dec m_X3_has 4 (.iand) 1 5 := ⟨by decide +kernel, rfl⟩
theorem d_X3_has_5 : x_dec m_X3_has 5 (.iconst 1) 1 6 := ⟨by decide +kernel, rfl⟩
theorem d_X3_has_6 : x_dec m_X3_has 6 (.if_icmp .ne 7) 3 9 := ⟨by decide +kernel, rfl⟩
theorem d_X3_has_9 : x_dec m_X3_has 9 (.iconst 1) 1 10 := ⟨by decide +kernel, rfl⟩
theorem d_X3_has_10 : x_dec m_X3_has 10 (.goto 4) 3 13 := ⟨by decide +kernel, rfl⟩
theorem d_X3_has_13 : x_dec m_X3_has 13 (.iconst 0) 1 14 := ⟨by decide +kernel, rfl⟩
theorem d_X3_has_14 : x_dec m_X3_has 14 (.ireturn) 1 15 := ⟨by decide +kernel, rfl⟩
set_option maxHeartbeats 4000000 in
set_option maxRecDepth 100000 in
theorem c_X3_has (l : Launch) (E : x_E) (μ : x_Mem) {n p : Nat} (hn : n < 65536) (hp : p < 32) : x_Met l m_X3_has E [.int (nI n), .int (nI p)] μ (x_I (fun z m => z = x_b (n.testBit p) ∧ m = μ)) := by
  refine x_enter (lv := [(0, .int (nI n)), (1, .int (nI p))]) (by decide +kernel) (Nat.le_of_ble_eq_true rfl) rfl ?_
  refine x_iload_n 0 d_X3_has_0 rfl rfl ?_
  refine x_iload_n 1 d_X3_has_1 rfl rfl ?_
  refine x_iushr d_X3_has_2 ?_
  refine x_iconst (x := 1) d_X3_has_3 (by decide) ?_
  refine x_iand d_X3_has_4 ?_
  refine x_iconst (x := 1) d_X3_has_5 (by decide) ?_
  refine x_icmp_ne 13 d_X3_has_6 (by decide) (fun c1 => ?_) (fun c1 => ?_)
  · skip
    refine x_iconst (x := 0) d_X3_has_13 (by decide) ?_
    refine x_zret0 rfl d_X3_has_14 ?_
    exact ⟨by rw [Bool.eq_false_iff.mpr (fun z => c1 ((hasN hn hp).mpr z))], rfl⟩
  · skip
    refine x_iconst (x := 1) d_X3_has_9 (by decide) ?_
    refine x_goto 14 d_X3_has_10 (by decide) ?_
    refine x_zret1 rfl d_X3_has_14 ?_
    exact ⟨by rw [(hasN hn hp).mp c1], rfl⟩
def m_X0_moveBeliefsAboard : x_M := (yX0_moveBeliefsAboard, prog_2_method_18_code, 3, none, 1, 26)
theorem v_X0_moveBeliefsAboard : x_VM m_X0_moveBeliefsAboard 1 := ⟨q278, q2, by decide +kernel, by decide +kernel, by decide +kernel⟩
theorem w_X0_moveBeliefsAboard : x_VI m_X0_moveBeliefsAboard := ⟨q277, qs3⟩
theorem d_X0_moveBeliefsAboard_0 : x_dec m_X0_moveBeliefsAboard 0 (.iconst 0) 1 1 := ⟨by decide +kernel, rfl⟩
theorem d_X0_moveBeliefsAboard_1 : x_dec m_X0_moveBeliefsAboard 1 (.istore_n 2) 1 2 := ⟨by decide +kernel, rfl⟩
theorem d_X0_moveBeliefsAboard_2 : x_dec m_X0_moveBeliefsAboard 2 (.iload_n 2) 1 3 := ⟨by decide +kernel, rfl⟩
theorem d_X0_moveBeliefsAboard_3 : x_dec m_X0_moveBeliefsAboard 3 (.aload_n 0) 1 4 := ⟨by decide +kernel, rfl⟩
theorem d_X0_moveBeliefsAboard_4 : x_dec m_X0_moveBeliefsAboard 4 (.getfield 27) 3 7 := ⟨by decide +kernel, rfl⟩
theorem d_X0_moveBeliefsAboard_7 : x_dec m_X0_moveBeliefsAboard 7 (.if_icmp .ge 42) 3 10 := ⟨by decide +kernel, rfl⟩
theorem d_X0_moveBeliefsAboard_10 : x_dec m_X0_moveBeliefsAboard 10 (.aload_n 0) 1 11 := ⟨by decide +kernel, rfl⟩
theorem d_X0_moveBeliefsAboard_11 : x_dec m_X0_moveBeliefsAboard 11 (.getfield 18) 3 14 := ⟨by decide +kernel, rfl⟩
theorem d_X0_moveBeliefsAboard_14 : x_dec m_X0_moveBeliefsAboard 14 (.iload_n 2) 1 15 := ⟨by decide +kernel, rfl⟩
theorem d_X0_moveBeliefsAboard_15 : x_dec m_X0_moveBeliefsAboard 15 (.iaload) 1 16 := ⟨by decide +kernel, rfl⟩
theorem d_X0_moveBeliefsAboard_16 : x_dec m_X0_moveBeliefsAboard 16 (.iconst (-1)) 1 17 := ⟨by decide +kernel, rfl⟩
theorem d_X0_moveBeliefsAboard_17 : x_dec m_X0_moveBeliefsAboard 17 (.if_icmp .ne 26) 3 20 := ⟨by decide +kernel, rfl⟩
theorem d_X0_moveBeliefsAboard_20 : x_dec m_X0_moveBeliefsAboard 20 (.aload_n 0) 1 21 := ⟨by decide +kernel, rfl⟩
theorem d_X0_moveBeliefsAboard_21 : x_dec m_X0_moveBeliefsAboard 21 (.getfield 21) 3 24 := ⟨by decide +kernel, rfl⟩
theorem d_X0_moveBeliefsAboard_24 : x_dec m_X0_moveBeliefsAboard 24 (.iload_n 2) 1 25 := ⟨by decide +kernel, rfl⟩
theorem d_X0_moveBeliefsAboard_25 : x_dec m_X0_moveBeliefsAboard 25 (.iconst 0) 1 26 := ⟨by decide +kernel, rfl⟩
theorem d_X0_moveBeliefsAboard_26 : x_dec m_X0_moveBeliefsAboard 26 (.bipush 99) 2 28 := ⟨by decide +kernel, rfl⟩
theorem d_X0_moveBeliefsAboard_28 : x_dec m_X0_moveBeliefsAboard 28 (.aload_n 0) 1 29 := ⟨by decide +kernel, rfl⟩
theorem d_X0_moveBeliefsAboard_29 : x_dec m_X0_moveBeliefsAboard 29 (.getfield 21) 3 32 := ⟨by decide +kernel, rfl⟩
theorem d_X0_moveBeliefsAboard_32 : x_dec m_X0_moveBeliefsAboard 32 (.iload_n 2) 1 33 := ⟨by decide +kernel, rfl⟩
theorem d_X0_moveBeliefsAboard_33 : x_dec m_X0_moveBeliefsAboard 33 (.iaload) 1 34 := ⟨by decide +kernel, rfl⟩
theorem d_X0_moveBeliefsAboard_34 : x_dec m_X0_moveBeliefsAboard 34 (.iload_n 1) 1 35 := ⟨by decide +kernel, rfl⟩
theorem d_X0_moveBeliefsAboard_35 : x_dec m_X0_moveBeliefsAboard 35 (.iadd) 1 36 := ⟨by decide +kernel, rfl⟩
theorem d_X0_moveBeliefsAboard_36 : x_dec m_X0_moveBeliefsAboard 36 (.invokestatic 77) 3 39 := ⟨by decide +kernel, rfl⟩
theorem d_X0_moveBeliefsAboard_39 : x_dec m_X0_moveBeliefsAboard 39 (.invokestatic 90) 3 42 := ⟨by decide +kernel, rfl⟩
theorem d_X0_moveBeliefsAboard_42 : x_dec m_X0_moveBeliefsAboard 42 (.iastore) 1 43 := ⟨by decide +kernel, rfl⟩
theorem d_X0_moveBeliefsAboard_43 : x_dec m_X0_moveBeliefsAboard 43 (.iinc 2 1) 3 46 := ⟨by decide +kernel, rfl⟩
theorem d_X0_moveBeliefsAboard_46 : x_dec m_X0_moveBeliefsAboard 46 (.goto (-44)) 3 49 := ⟨by decide +kernel, rfl⟩
theorem d_X0_moveBeliefsAboard_49 : x_dec m_X0_moveBeliefsAboard 49 (.return_) 1 50 := ⟨by decide +kernel, rfl⟩
set_option maxHeartbeats 4000000 in
set_option maxRecDepth 100000 in
theorem c_X0_moveBeliefsAboard (l : Launch) (E : x_E) (μ : x_Mem) {a : x_St} {o : Nat} (ho : x_pr o) (hR : PR a o μ) (hI : WF a) (b : Int32) : x_Met l m_X0_moveBeliefsAboard E [.ref (E.1 + o), .int b] μ (x_J (fun m => PR (moveTo a b (pn a)) o m ∧ ∀ id, id ≠ o + 4 → m id = μ id)) := by
  have ho1 : o = 1 ∨ o = 10 ∨ o = 19 := ho
  have hn7 := hI.2.1
  have hpn := hI.1
  refine x_enter (lv := [(0, .ref (E.1 + o)), (1, .int b)]) (by decide +kernel) (Nat.le_of_ble_eq_true rfl) rfl ?_
  refine x_iconst (x := 0) d_X0_moveBeliefsAboard_0 (by decide) ?_
  refine x_istore_n [(2, .int 0), (0, .ref (E.1 + o)), (1, .int b)] d_X0_moveBeliefsAboard_1 rfl (Nat.le_of_ble_eq_true rfl) rfl ?_
  have L1 : ∀ i : Nat, i ≤ pn a → ∀ μ4 : x_Mem, (PR (moveTo a b i) o μ4) → (∀ id, id ≠ o + 4 → μ4 id = μ id) → x_G l E m_X0_moveBeliefsAboard (x_mv E m_X0_moveBeliefsAboard (x_J (fun m => PR (moveTo a b (pn a)) o m ∧ ∀ id, id ≠ o + 4 → m id = μ id))) μ4 2 [(2, .int (nI i)), (0, .ref (E.1 + o)), (1, .int b)] [] := by
    refine x_down _ (pn a) (fun i hi3 ih2 => ?_)
    intro μ4 hR1 hF1
    refine x_iload_n 0 d_X0_moveBeliefsAboard_2 rfl rfl ?_
    refine x_aload_n 1 d_X0_moveBeliefsAboard_3 rfl rfl ?_
    refine x_getiV (j := 5) (z := nI (pn a)) x_c0 (p_kd ho) (Nat.le_of_ble_eq_true rfl) q42 (p_n5 ho) (((PR.f5 hR1).trans ((moveTo_same a b i (by omega)) 7 (by omega))).trans hn7) d_X0_moveBeliefsAboard_4 ?_
    refine x_icmp_ge 49 d_X0_moveBeliefsAboard_7 (by decide) (fun c5 => ?_) (fun c5 => ?_)
    · skip
      have hN := x_ge c5 rfl rfl (by omega) (by omega)
      refine x_vret rfl d_X0_moveBeliefsAboard_49 ?_
      have e9 : i = pn a := by omega
      subst e9
      exact ⟨hR1, hF1⟩
    · skip
      have hN := x_lt c5 rfl rfl (by omega) (by omega)
      refine x_aload_n 1 d_X0_moveBeliefsAboard_10 rfl rfl ?_
      refine x_getr (j := 2) (o + 3) x_c0 (p_kd ho) (Nat.le_of_ble_eq_true rfl) q36 (p_f2 ho) d_X0_moveBeliefsAboard_11 ?_
      refine x_iload_n 0 d_X0_moveBeliefsAboard_14 rfl rfl ?_
      refine x_ialdN (z := a (24 + 3 * i + 1)) 8 i (p_k3 ho) (p_l3 ho) (by omega) (by decide) ((PR.wh hR1 i (by omega)).trans ((moveTo_same a b i (by omega)) _ (by omega))) d_X0_moveBeliefsAboard_15 ?_
      refine x_iconst (x := (-1)) d_X0_moveBeliefsAboard_16 (by decide) ?_
      refine x_icmp_ne 43 d_X0_moveBeliefsAboard_17 (by decide) (fun c6 => ?_) (fun c6 => ?_)
      · skip
        refine x_iinc [(2, .int (nI (i + 1))), (0, .ref (E.1 + o)), (1, .int b)] 0 d_X0_moveBeliefsAboard_43 rfl (x_inc _) (Nat.le_of_ble_eq_true rfl) rfl ?_
        refine x_goto 2 d_X0_moveBeliefsAboard_46 (by decide) ?_
        exact ih2 (i + 1) (by omega) (by omega) μ4 (by rw [moveTo_f c6]; exact hR1) hF1
      · skip
        refine x_aload_n 1 d_X0_moveBeliefsAboard_20 rfl rfl ?_
        refine x_getr (j := 3) (o + 4) x_c0 (p_kd ho) (Nat.le_of_ble_eq_true rfl) q38 (p_f3 ho) d_X0_moveBeliefsAboard_21 ?_
        refine x_iload_n 0 d_X0_moveBeliefsAboard_24 rfl rfl ?_
        refine x_iconst (x := 0) d_X0_moveBeliefsAboard_25 (by decide) ?_
        refine x_bipush (x := 99) d_X0_moveBeliefsAboard_26 (by decide) ?_
        refine x_aload_n 1 d_X0_moveBeliefsAboard_28 rfl rfl ?_
        refine x_getr (j := 3) (o + 4) x_c0 (p_kd ho) (Nat.le_of_ble_eq_true rfl) q38 (p_f3 ho) d_X0_moveBeliefsAboard_29 ?_
        refine x_iload_n 0 d_X0_moveBeliefsAboard_32 rfl rfl ?_
        refine x_ialdN (z := a (24 + 3 * i + 2)) 8 i (p_k4 ho) (p_l4 ho) (by omega) (by decide) ((PR.bl hR1 i (by omega)).trans (moveTo_hi a b i i (Nat.le_refl i))) d_X0_moveBeliefsAboard_33 ?_
        refine x_iload_n 2 d_X0_moveBeliefsAboard_34 rfl rfl ?_
        refine x_iadd d_X0_moveBeliefsAboard_35 ?_
        refine x_min q203 q204 q205 q7 (Nat.le_of_ble_eq_true rfl) (Nat.le_of_ble_eq_true rfl) d_X0_moveBeliefsAboard_36 ?_
        refine x_max q210 q211 q212 q7 (Nat.le_of_ble_eq_true rfl) (Nat.le_of_ble_eq_true rfl) d_X0_moveBeliefsAboard_39 ?_
        refine x_iastNG 8 i (p_k4 ho) (p_l4 ho) (by omega) (by decide) d_X0_moveBeliefsAboard_42 (fun μ7 eμ7 => ?_)
        have hR8 : PR (upd (moveTo a b i) (24 + 3 * i + 2) (maxI 0 (minI 99 ((a (24 + 3 * i + 2)) + b)))) o μ7 := PR.a4 hR1 eμ7 (by omega)
        have hF9 : ∀ id, id ≠ o + 4 → μ7 id = μ id := fun id hid => (show μ7 id = μ4 id from (by rw [eμ7, upd2_ne _ _ _ (by omega)])).trans (hF1 id hid)
        refine x_iinc [(2, .int (nI (i + 1))), (0, .ref (E.1 + o)), (1, .int b)] 0 d_X0_moveBeliefsAboard_43 rfl (x_inc _) (Nat.le_of_ble_eq_true rfl) rfl ?_
        refine x_goto 2 d_X0_moveBeliefsAboard_46 (by decide) ?_
        exact ih2 (i + 1) (by omega) (by omega) μ7 (by rw [moveTo_t c6]; exact hR8) hF9
  exact L1 0 (by omega) μ hR (fun _ _ => rfl)
def m_X0_sway : x_M := (yX0_sway, prog_2_method_19_code, 4, none, 0, 0)
theorem v_X0_sway : x_VM m_X0_sway 0 := ⟨q283, q2, by decide +kernel, by decide +kernel, by decide +kernel⟩
theorem w_X0_sway : x_VI m_X0_sway := ⟨q282, qs4⟩
theorem d_X0_sway_0 : x_dec m_X0_sway 0 (.iconst 0) 1 1 := ⟨by decide +kernel, rfl⟩
theorem d_X0_sway_1 : x_dec m_X0_sway 1 (.istore_n 1) 1 2 := ⟨by decide +kernel, rfl⟩
theorem d_X0_sway_2 : x_dec m_X0_sway 2 (.iload_n 1) 1 3 := ⟨by decide +kernel, rfl⟩
theorem d_X0_sway_3 : x_dec m_X0_sway 3 (.aload_n 0) 1 4 := ⟨by decide +kernel, rfl⟩
theorem d_X0_sway_4 : x_dec m_X0_sway 4 (.getfield 27) 3 7 := ⟨by decide +kernel, rfl⟩
theorem d_X0_sway_7 : x_dec m_X0_sway 7 (.if_icmp .ge 37) 3 10 := ⟨by decide +kernel, rfl⟩
theorem d_X0_sway_10 : x_dec m_X0_sway 10 (.aload_n 0) 1 11 := ⟨by decide +kernel, rfl⟩
theorem d_X0_sway_11 : x_dec m_X0_sway 11 (.getfield 55) 3 14 := ⟨by decide +kernel, rfl⟩
theorem d_X0_sway_14 : x_dec m_X0_sway 14 (.aload_n 0) 1 15 := ⟨by decide +kernel, rfl⟩
theorem d_X0_sway_15 : x_dec m_X0_sway 15 (.getfield 18) 3 18 := ⟨by decide +kernel, rfl⟩
theorem d_X0_sway_18 : x_dec m_X0_sway 18 (.iload_n 1) 1 19 := ⟨by decide +kernel, rfl⟩
theorem d_X0_sway_19 : x_dec m_X0_sway 19 (.iaload) 1 20 := ⟨by decide +kernel, rfl⟩
theorem d_X0_sway_20 : x_dec m_X0_sway 20 (.iconst 1) 1 21 := ⟨by decide +kernel, rfl⟩
theorem d_X0_sway_21 : x_dec m_X0_sway 21 (.iadd) 1 22 := ⟨by decide +kernel, rfl⟩
theorem d_X0_sway_22 : x_dec m_X0_sway 22 (.iconst 0) 1 23 := ⟨by decide +kernel, rfl⟩
theorem d_X0_sway_23 : x_dec m_X0_sway 23 (.iastore) 1 24 := ⟨by decide +kernel, rfl⟩
theorem d_X0_sway_24 : x_dec m_X0_sway 24 (.aload_n 0) 1 25 := ⟨by decide +kernel, rfl⟩
theorem d_X0_sway_25 : x_dec m_X0_sway 25 (.getfield 58) 3 28 := ⟨by decide +kernel, rfl⟩
theorem d_X0_sway_28 : x_dec m_X0_sway 28 (.aload_n 0) 1 29 := ⟨by decide +kernel, rfl⟩
theorem d_X0_sway_29 : x_dec m_X0_sway 29 (.getfield 18) 3 32 := ⟨by decide +kernel, rfl⟩
theorem d_X0_sway_32 : x_dec m_X0_sway 32 (.iload_n 1) 1 33 := ⟨by decide +kernel, rfl⟩
theorem d_X0_sway_33 : x_dec m_X0_sway 33 (.iaload) 1 34 := ⟨by decide +kernel, rfl⟩
theorem d_X0_sway_34 : x_dec m_X0_sway 34 (.iconst 1) 1 35 := ⟨by decide +kernel, rfl⟩
theorem d_X0_sway_35 : x_dec m_X0_sway 35 (.iadd) 1 36 := ⟨by decide +kernel, rfl⟩
theorem d_X0_sway_36 : x_dec m_X0_sway 36 (.iconst 0) 1 37 := ⟨by decide +kernel, rfl⟩
theorem d_X0_sway_37 : x_dec m_X0_sway 37 (.iastore) 1 38 := ⟨by decide +kernel, rfl⟩
theorem d_X0_sway_38 : x_dec m_X0_sway 38 (.iinc 1 1) 3 41 := ⟨by decide +kernel, rfl⟩
theorem d_X0_sway_41 : x_dec m_X0_sway 41 (.goto (-39)) 3 44 := ⟨by decide +kernel, rfl⟩
theorem d_X0_sway_44 : x_dec m_X0_sway 44 (.iconst 0) 1 45 := ⟨by decide +kernel, rfl⟩
theorem d_X0_sway_45 : x_dec m_X0_sway 45 (.istore_n 1) 1 46 := ⟨by decide +kernel, rfl⟩
theorem d_X0_sway_46 : x_dec m_X0_sway 46 (.iload_n 1) 1 47 := ⟨by decide +kernel, rfl⟩
theorem d_X0_sway_47 : x_dec m_X0_sway 47 (.aload_n 0) 1 48 := ⟨by decide +kernel, rfl⟩
theorem d_X0_sway_48 : x_dec m_X0_sway 48 (.getfield 27) 3 51 := ⟨by decide +kernel, rfl⟩
theorem d_X0_sway_51 : x_dec m_X0_sway 51 (.if_icmp .ge 48) 3 54 := ⟨by decide +kernel, rfl⟩
theorem d_X0_sway_54 : x_dec m_X0_sway 54 (.aload_n 0) 1 55 := ⟨by decide +kernel, rfl⟩
theorem d_X0_sway_55 : x_dec m_X0_sway 55 (.getfield 55) 3 58 := ⟨by decide +kernel, rfl⟩
theorem d_X0_sway_58 : x_dec m_X0_sway 58 (.aload_n 0) 1 59 := ⟨by decide +kernel, rfl⟩
theorem d_X0_sway_59 : x_dec m_X0_sway 59 (.getfield 18) 3 62 := ⟨by decide +kernel, rfl⟩
theorem d_X0_sway_62 : x_dec m_X0_sway 62 (.iload_n 1) 1 63 := ⟨by decide +kernel, rfl⟩
theorem d_X0_sway_63 : x_dec m_X0_sway 63 (.iaload) 1 64 := ⟨by decide +kernel, rfl⟩
theorem d_X0_sway_64 : x_dec m_X0_sway 64 (.iconst 1) 1 65 := ⟨by decide +kernel, rfl⟩
theorem d_X0_sway_65 : x_dec m_X0_sway 65 (.iadd) 1 66 := ⟨by decide +kernel, rfl⟩
theorem d_X0_sway_66 : x_dec m_X0_sway 66 (.dup2) 1 67 := ⟨by decide +kernel, rfl⟩
theorem d_X0_sway_67 : x_dec m_X0_sway 67 (.iaload) 1 68 := ⟨by decide +kernel, rfl⟩
theorem d_X0_sway_68 : x_dec m_X0_sway 68 (.aload_n 0) 1 69 := ⟨by decide +kernel, rfl⟩
theorem d_X0_sway_69 : x_dec m_X0_sway 69 (.getfield 21) 3 72 := ⟨by decide +kernel, rfl⟩
theorem d_X0_sway_72 : x_dec m_X0_sway 72 (.iload_n 1) 1 73 := ⟨by decide +kernel, rfl⟩
theorem d_X0_sway_73 : x_dec m_X0_sway 73 (.iaload) 1 74 := ⟨by decide +kernel, rfl⟩
theorem d_X0_sway_74 : x_dec m_X0_sway 74 (.iadd) 1 75 := ⟨by decide +kernel, rfl⟩
theorem d_X0_sway_75 : x_dec m_X0_sway 75 (.iastore) 1 76 := ⟨by decide +kernel, rfl⟩
theorem d_X0_sway_76 : x_dec m_X0_sway 76 (.aload_n 0) 1 77 := ⟨by decide +kernel, rfl⟩
theorem d_X0_sway_77 : x_dec m_X0_sway 77 (.getfield 58) 3 80 := ⟨by decide +kernel, rfl⟩
theorem d_X0_sway_80 : x_dec m_X0_sway 80 (.aload_n 0) 1 81 := ⟨by decide +kernel, rfl⟩
theorem d_X0_sway_81 : x_dec m_X0_sway 81 (.getfield 18) 3 84 := ⟨by decide +kernel, rfl⟩
theorem d_X0_sway_84 : x_dec m_X0_sway 84 (.iload_n 1) 1 85 := ⟨by decide +kernel, rfl⟩
theorem d_X0_sway_85 : x_dec m_X0_sway 85 (.iaload) 1 86 := ⟨by decide +kernel, rfl⟩
theorem d_X0_sway_86 : x_dec m_X0_sway 86 (.iconst 1) 1 87 := ⟨by decide +kernel, rfl⟩
theorem d_X0_sway_87 : x_dec m_X0_sway 87 (.iadd) 1 88 := ⟨by decide +kernel, rfl⟩
theorem d_X0_sway_88 : x_dec m_X0_sway 88 (.dup2) 1 89 := ⟨by decide +kernel, rfl⟩
theorem d_X0_sway_89 : x_dec m_X0_sway 89 (.iaload) 1 90 := ⟨by decide +kernel, rfl⟩
theorem d_X0_sway_90 : x_dec m_X0_sway 90 (.iconst 1) 1 91 := ⟨by decide +kernel, rfl⟩
theorem d_X0_sway_91 : x_dec m_X0_sway 91 (.iadd) 1 92 := ⟨by decide +kernel, rfl⟩
theorem d_X0_sway_92 : x_dec m_X0_sway 92 (.iastore) 1 93 := ⟨by decide +kernel, rfl⟩
theorem d_X0_sway_93 : x_dec m_X0_sway 93 (.iinc 1 1) 3 96 := ⟨by decide +kernel, rfl⟩
theorem d_X0_sway_96 : x_dec m_X0_sway 96 (.goto (-50)) 3 99 := ⟨by decide +kernel, rfl⟩
theorem d_X0_sway_99 : x_dec m_X0_sway 99 (.iconst 0) 1 100 := ⟨by decide +kernel, rfl⟩
theorem d_X0_sway_100 : x_dec m_X0_sway 100 (.istore_n 1) 1 101 := ⟨by decide +kernel, rfl⟩
theorem d_X0_sway_101 : x_dec m_X0_sway 101 (.iload_n 1) 1 102 := ⟨by decide +kernel, rfl⟩
theorem d_X0_sway_102 : x_dec m_X0_sway 102 (.aload_n 0) 1 103 := ⟨by decide +kernel, rfl⟩
theorem d_X0_sway_103 : x_dec m_X0_sway 103 (.getfield 27) 3 106 := ⟨by decide +kernel, rfl⟩
theorem d_X0_sway_106 : x_dec m_X0_sway 106 (.if_icmp .ge 95) 3 109 := ⟨by decide +kernel, rfl⟩
theorem d_X0_sway_109 : x_dec m_X0_sway 109 (.aload_n 0) 1 110 := ⟨by decide +kernel, rfl⟩
theorem d_X0_sway_110 : x_dec m_X0_sway 110 (.getfield 58) 3 113 := ⟨by decide +kernel, rfl⟩
theorem d_X0_sway_113 : x_dec m_X0_sway 113 (.aload_n 0) 1 114 := ⟨by decide +kernel, rfl⟩
theorem d_X0_sway_114 : x_dec m_X0_sway 114 (.getfield 18) 3 117 := ⟨by decide +kernel, rfl⟩
theorem d_X0_sway_117 : x_dec m_X0_sway 117 (.iload_n 1) 1 118 := ⟨by decide +kernel, rfl⟩
theorem d_X0_sway_118 : x_dec m_X0_sway 118 (.iaload) 1 119 := ⟨by decide +kernel, rfl⟩
theorem d_X0_sway_119 : x_dec m_X0_sway 119 (.iconst 1) 1 120 := ⟨by decide +kernel, rfl⟩
theorem d_X0_sway_120 : x_dec m_X0_sway 120 (.iadd) 1 121 := ⟨by decide +kernel, rfl⟩
theorem d_X0_sway_121 : x_dec m_X0_sway 121 (.iaload) 1 122 := ⟨by decide +kernel, rfl⟩
theorem d_X0_sway_122 : x_dec m_X0_sway 122 (.istore_n 2) 1 123 := ⟨by decide +kernel, rfl⟩
theorem d_X0_sway_123 : x_dec m_X0_sway 123 (.iload_n 2) 1 124 := ⟨by decide +kernel, rfl⟩
theorem d_X0_sway_124 : x_dec m_X0_sway 124 (.ifCond .le 21) 3 127 := ⟨by decide +kernel, rfl⟩
theorem d_X0_sway_127 : x_dec m_X0_sway 127 (.aload_n 0) 1 128 := ⟨by decide +kernel, rfl⟩
theorem d_X0_sway_128 : x_dec m_X0_sway 128 (.getfield 55) 3 131 := ⟨by decide +kernel, rfl⟩
theorem d_X0_sway_131 : x_dec m_X0_sway 131 (.aload_n 0) 1 132 := ⟨by decide +kernel, rfl⟩
theorem d_X0_sway_132 : x_dec m_X0_sway 132 (.getfield 18) 3 135 := ⟨by decide +kernel, rfl⟩
theorem d_X0_sway_135 : x_dec m_X0_sway 135 (.iload_n 1) 1 136 := ⟨by decide +kernel, rfl⟩
theorem d_X0_sway_136 : x_dec m_X0_sway 136 (.iaload) 1 137 := ⟨by decide +kernel, rfl⟩
theorem d_X0_sway_137 : x_dec m_X0_sway 137 (.iconst 1) 1 138 := ⟨by decide +kernel, rfl⟩
theorem d_X0_sway_138 : x_dec m_X0_sway 138 (.iadd) 1 139 := ⟨by decide +kernel, rfl⟩
theorem d_X0_sway_139 : x_dec m_X0_sway 139 (.iaload) 1 140 := ⟨by decide +kernel, rfl⟩
theorem d_X0_sway_140 : x_dec m_X0_sway 140 (.iload_n 2) 1 141 := ⟨by decide +kernel, rfl⟩
theorem d_X0_sway_141 : x_dec m_X0_sway 141 (.idiv) 1 142 := ⟨by decide +kernel, rfl⟩
theorem d_X0_sway_142 : x_dec m_X0_sway 142 (.goto 9) 3 145 := ⟨by decide +kernel, rfl⟩
theorem d_X0_sway_145 : x_dec m_X0_sway 145 (.aload_n 0) 1 146 := ⟨by decide +kernel, rfl⟩
theorem d_X0_sway_146 : x_dec m_X0_sway 146 (.getfield 21) 3 149 := ⟨by decide +kernel, rfl⟩
theorem d_X0_sway_149 : x_dec m_X0_sway 149 (.iload_n 1) 1 150 := ⟨by decide +kernel, rfl⟩
theorem d_X0_sway_150 : x_dec m_X0_sway 150 (.iaload) 1 151 := ⟨by decide +kernel, rfl⟩
theorem d_X0_sway_151 : x_dec m_X0_sway 151 (.istore_n 3) 1 152 := ⟨by decide +kernel, rfl⟩
theorem d_X0_sway_152 : x_dec m_X0_sway 152 (.iload_n 3) 1 153 := ⟨by decide +kernel, rfl⟩
theorem d_X0_sway_153 : x_dec m_X0_sway 153 (.aload_n 0) 1 154 := ⟨by decide +kernel, rfl⟩
theorem d_X0_sway_154 : x_dec m_X0_sway 154 (.getfield 21) 3 157 := ⟨by decide +kernel, rfl⟩
theorem d_X0_sway_157 : x_dec m_X0_sway 157 (.iload_n 1) 1 158 := ⟨by decide +kernel, rfl⟩
theorem d_X0_sway_158 : x_dec m_X0_sway 158 (.iaload) 1 159 := ⟨by decide +kernel, rfl⟩
theorem d_X0_sway_159 : x_dec m_X0_sway 159 (.if_icmp .le 16) 3 162 := ⟨by decide +kernel, rfl⟩
theorem d_X0_sway_162 : x_dec m_X0_sway 162 (.aload_n 0) 1 163 := ⟨by decide +kernel, rfl⟩
theorem d_X0_sway_163 : x_dec m_X0_sway 163 (.getfield 21) 3 166 := ⟨by decide +kernel, rfl⟩
theorem d_X0_sway_166 : x_dec m_X0_sway 166 (.iload_n 1) 1 167 := ⟨by decide +kernel, rfl⟩
theorem d_X0_sway_167 : x_dec m_X0_sway 167 (.dup2) 1 168 := ⟨by decide +kernel, rfl⟩
theorem d_X0_sway_168 : x_dec m_X0_sway 168 (.iaload) 1 169 := ⟨by decide +kernel, rfl⟩
theorem d_X0_sway_169 : x_dec m_X0_sway 169 (.iconst 1) 1 170 := ⟨by decide +kernel, rfl⟩
theorem d_X0_sway_170 : x_dec m_X0_sway 170 (.iadd) 1 171 := ⟨by decide +kernel, rfl⟩
theorem d_X0_sway_171 : x_dec m_X0_sway 171 (.iastore) 1 172 := ⟨by decide +kernel, rfl⟩
theorem d_X0_sway_172 : x_dec m_X0_sway 172 (.goto 23) 3 175 := ⟨by decide +kernel, rfl⟩
theorem d_X0_sway_175 : x_dec m_X0_sway 175 (.iload_n 3) 1 176 := ⟨by decide +kernel, rfl⟩
theorem d_X0_sway_176 : x_dec m_X0_sway 176 (.aload_n 0) 1 177 := ⟨by decide +kernel, rfl⟩
theorem d_X0_sway_177 : x_dec m_X0_sway 177 (.getfield 21) 3 180 := ⟨by decide +kernel, rfl⟩
theorem d_X0_sway_180 : x_dec m_X0_sway 180 (.iload_n 1) 1 181 := ⟨by decide +kernel, rfl⟩
theorem d_X0_sway_181 : x_dec m_X0_sway 181 (.iaload) 1 182 := ⟨by decide +kernel, rfl⟩
theorem d_X0_sway_182 : x_dec m_X0_sway 182 (.if_icmp .ge 13) 3 185 := ⟨by decide +kernel, rfl⟩
theorem d_X0_sway_185 : x_dec m_X0_sway 185 (.aload_n 0) 1 186 := ⟨by decide +kernel, rfl⟩
theorem d_X0_sway_186 : x_dec m_X0_sway 186 (.getfield 21) 3 189 := ⟨by decide +kernel, rfl⟩
theorem d_X0_sway_189 : x_dec m_X0_sway 189 (.iload_n 1) 1 190 := ⟨by decide +kernel, rfl⟩
theorem d_X0_sway_190 : x_dec m_X0_sway 190 (.dup2) 1 191 := ⟨by decide +kernel, rfl⟩
theorem d_X0_sway_191 : x_dec m_X0_sway 191 (.iaload) 1 192 := ⟨by decide +kernel, rfl⟩
theorem d_X0_sway_192 : x_dec m_X0_sway 192 (.iconst 1) 1 193 := ⟨by decide +kernel, rfl⟩
theorem d_X0_sway_193 : x_dec m_X0_sway 193 (.isub) 1 194 := ⟨by decide +kernel, rfl⟩
theorem d_X0_sway_194 : x_dec m_X0_sway 194 (.iastore) 1 195 := ⟨by decide +kernel, rfl⟩
theorem d_X0_sway_195 : x_dec m_X0_sway 195 (.iinc 1 1) 3 198 := ⟨by decide +kernel, rfl⟩
theorem d_X0_sway_198 : x_dec m_X0_sway 198 (.goto (-97)) 3 201 := ⟨by decide +kernel, rfl⟩
theorem d_X0_sway_201 : x_dec m_X0_sway 201 (.return_) 1 202 := ⟨by decide +kernel, rfl⟩
set_option maxHeartbeats 4000000 in
set_option maxRecDepth 100000 in
theorem c_X0_sway (l : Launch) (E : x_E) (μ : x_Mem) {a : x_St} {o : Nat} (ho : x_pr o) (hR : PR a o μ) (hI : WF a)  : x_Met l m_X0_sway E [.ref (E.1 + o)] μ (x_J (fun m => PR (swayF a) o m ∧ ∀ id, id ≠ o + 4 ∧ id ≠ o + 7 ∧ id ≠ o + 8 → m id = μ id)) := by
  have ho1 : o = 1 ∨ o = 10 ∨ o = 19 := ho
  have hn7 := hI.2.1
  have hpn := hI.1
  have hpl : ∀ q, q < 8 → plc a q < 18 := fun q hq => plc_lt hI hq
  refine x_enter (lv := [(0, .ref (E.1 + o))]) (by decide +kernel) (Nat.le_of_ble_eq_true rfl) rfl ?_
  refine x_iconst (x := 0) d_X0_sway_0 (by decide) ?_
  refine x_istore_n [(1, .int 0), (0, .ref (E.1 + o))] d_X0_sway_1 rfl (Nat.le_of_ble_eq_true rfl) rfl ?_
  have L1 : ∀ i : Nat, i ≤ pn a → ∀ μ4 : x_Mem, (PR a o μ4) → (∀ id, id ≠ o + 4 ∧ id ≠ o + 7 ∧ id ≠ o + 8 → μ4 id = μ id) → (∀ q, q < i → μ4 (o + 7) (plc a q) = 0 ∧ μ4 (o + 8) (plc a q) = 0) → x_G l E m_X0_sway (x_mv E m_X0_sway (x_J (fun m => PR (swayF a) o m ∧ ∀ id, id ≠ o + 4 ∧ id ≠ o + 7 ∧ id ≠ o + 8 → m id = μ id))) μ4 2 [(1, .int (nI i)), (0, .ref (E.1 + o))] [] := by
    refine x_down _ (pn a) (fun i hi3 ih2 => ?_)
    intro μ4 hR1 hF1 hz
    refine x_iload_n 0 d_X0_sway_2 rfl rfl ?_
    refine x_aload_n 1 d_X0_sway_3 rfl rfl ?_
    refine x_getiV (j := 5) (z := nI (pn a)) x_c0 (p_kd ho) (Nat.le_of_ble_eq_true rfl) q42 (p_n5 ho) ((PR.f5 hR1).trans hn7) d_X0_sway_4 ?_
    refine x_icmp_ge 44 d_X0_sway_7 (by decide) (fun c5 => ?_) (fun c5 => ?_)
    · skip
      have hN := x_ge c5 rfl rfl (by omega) (by omega)
      refine x_iconst (x := 0) d_X0_sway_44 (by decide) ?_
      refine x_istore_n [(1, .int 0), (0, .ref (E.1 + o))] d_X0_sway_45 rfl (Nat.le_of_ble_eq_true rfl) rfl ?_
      have L6 : ∀ i : Nat, i ≤ pn a → ∀ μ9 : x_Mem, (PR a o μ9) → (∀ id, id ≠ o + 4 ∧ id ≠ o + 7 ∧ id ≠ o + 8 → μ9 id = μ id) → (∀ q, q < pn a → μ9 (o + 7) (plc a q) = sumTo (fun r => if withB a q r = true then a (24 + 3 * r + 2) else 0) i ∧ μ9 (o + 8) (plc a q) = cntTo 0 (withB a q) i) → x_G l E m_X0_sway (x_mv E m_X0_sway (x_J (fun m => PR (swayF a) o m ∧ ∀ id, id ≠ o + 4 ∧ id ≠ o + 7 ∧ id ≠ o + 8 → m id = μ id))) μ9 46 [(1, .int (nI i)), (0, .ref (E.1 + o))] [] := by
        refine x_down _ (pn a) (fun i hi8 ih7 => ?_)
        intro μ9 hR1 hF1 hs
        refine x_iload_n 0 d_X0_sway_46 rfl rfl ?_
        refine x_aload_n 1 d_X0_sway_47 rfl rfl ?_
        refine x_getiV (j := 5) (z := nI (pn a)) x_c0 (p_kd ho) (Nat.le_of_ble_eq_true rfl) q42 (p_n5 ho) ((PR.f5 hR1).trans hn7) d_X0_sway_48 ?_
        refine x_icmp_ge 99 d_X0_sway_51 (by decide) (fun c10 => ?_) (fun c10 => ?_)
        · skip
          have hN := x_ge c10 rfl rfl (by omega) (by omega)
          refine x_iconst (x := 0) d_X0_sway_99 (by decide) ?_
          refine x_istore_n [(1, .int 0), (0, .ref (E.1 + o))] d_X0_sway_100 rfl (Nat.le_of_ble_eq_true rfl) rfl ?_
          have L11 : ∀ i : Nat, i ≤ pn a → ∀ μ14 : x_Mem, (PR (swayTo a i) o μ14) → (∀ id, id ≠ o + 4 ∧ id ≠ o + 7 ∧ id ≠ o + 8 → μ14 id = μ id) → (∀ q, q < pn a → μ14 (o + 7) (plc a q) = sumWith a q) → (∀ q, q < pn a → μ14 (o + 8) (plc a q) = numWith a q) → x_G l E m_X0_sway (x_mv E m_X0_sway (x_J (fun m => PR (swayF a) o m ∧ ∀ id, id ≠ o + 4 ∧ id ≠ o + 7 ∧ id ≠ o + 8 → m id = μ id))) μ14 101 [(1, .int (nI i)), (0, .ref (E.1 + o))] [] := by
            refine x_down _ (pn a) (fun i hi13 ih12 => ?_)
            intro μ14 hR1 hF1 h7 h8
            refine x_iload_n 0 d_X0_sway_101 rfl rfl ?_
            refine x_aload_n 1 d_X0_sway_102 rfl rfl ?_
            refine x_getiV (j := 5) (z := nI (pn a)) x_c0 (p_kd ho) (Nat.le_of_ble_eq_true rfl) q42 (p_n5 ho) (((PR.f5 hR1).trans ((swayTo_same a i (by omega)) 7 (by omega))).trans hn7) d_X0_sway_103 ?_
            refine x_icmp_ge 201 d_X0_sway_106 (by decide) (fun c15 => ?_) (fun c15 => ?_)
            · skip
              have hN := x_ge c15 rfl rfl (by omega) (by omega)
              refine x_vret rfl d_X0_sway_201 ?_
              have e9 : i = pn a := by omega
              subst e9
              exact ⟨hR1, hF1⟩
            · skip
              have hN := x_lt c15 rfl rfl (by omega) (by omega)
              refine x_aload_n 1 d_X0_sway_109 rfl rfl ?_
              refine x_getr (j := 15) (o + 8) x_c0 (p_kd ho) (Nat.le_of_ble_eq_true rfl) q65 (p_f15 ho) d_X0_sway_110 ?_
              refine x_aload_n 1 d_X0_sway_113 rfl rfl ?_
              refine x_getr (j := 2) (o + 3) x_c0 (p_kd ho) (Nat.le_of_ble_eq_true rfl) q36 (p_f2 ho) d_X0_sway_114 ?_
              refine x_iload_n 0 d_X0_sway_117 rfl rfl ?_
              refine x_ialdN (z := a (24 + 3 * i + 1)) 8 i (p_k3 ho) (p_l3 ho) (by omega) (by decide) ((PR.wh hR1 i (by omega)).trans ((swayTo_same a i (by omega)) _ (by omega))) d_X0_sway_118 ?_
              refine x_iconst (x := 1) d_X0_sway_119 (by decide) ?_
              refine x_iadd d_X0_sway_120 ?_
              have hpi := hpl i (by omega)
              rw [plc_eq hI (p := i) (by omega)]
              refine x_ialdN (z := numWith a i) 18 (plc a i) (p_k8 ho) (p_l8 ho) (by omega) (by decide) (h8 i (by omega)) d_X0_sway_121 ?_
              refine x_istore_n [(2, .int (numWith a i)), (1, .int (nI i)), (0, .ref (E.1 + o))] d_X0_sway_122 rfl (Nat.le_of_ble_eq_true rfl) rfl ?_
              refine x_iload_n 0 d_X0_sway_123 rfl rfl ?_
              refine x_if_le 145 d_X0_sway_124 (by decide) (fun c16 => ?_) (fun c16 => ?_)
              · skip
                exact absurd c16 (numWith_nle hI (by omega))
              · skip
                refine x_aload_n 2 d_X0_sway_127 rfl rfl ?_
                refine x_getr (j := 14) (o + 7) x_c0 (p_kd ho) (Nat.le_of_ble_eq_true rfl) q64 (p_f14 ho) d_X0_sway_128 ?_
                refine x_aload_n 2 d_X0_sway_131 rfl rfl ?_
                refine x_getr (j := 2) (o + 3) x_c0 (p_kd ho) (Nat.le_of_ble_eq_true rfl) q36 (p_f2 ho) d_X0_sway_132 ?_
                refine x_iload_n 1 d_X0_sway_135 rfl rfl ?_
                refine x_ialdN (z := a (24 + 3 * i + 1)) 8 i (p_k3 ho) (p_l3 ho) (by omega) (by decide) ((PR.wh hR1 i (by omega)).trans ((swayTo_same a i (by omega)) _ (by omega))) d_X0_sway_136 ?_
                refine x_iconst (x := 1) d_X0_sway_137 (by decide) ?_
                refine x_iadd d_X0_sway_138 ?_
                have hpi := hpl i (by omega)
                rw [plc_eq hI (p := i) (by omega)]
                refine x_ialdN (z := sumWith a i) 18 (plc a i) (p_k7 ho) (p_l7 ho) (by omega) (by decide) (h7 i (by omega)) d_X0_sway_139 ?_
                refine x_iload_n 0 d_X0_sway_140 rfl rfl ?_
                refine x_idiv d_X0_sway_141 (numWith_ne hI (by omega)) ?_
                refine x_goto 151 d_X0_sway_142 (by decide) ?_
                refine x_istore_n [(3, .int ((sumWith a i) / (numWith a i))), (2, .int (numWith a i)), (1, .int (nI i)), (0, .ref (E.1 + o))] d_X0_sway_151 rfl (Nat.le_of_ble_eq_true rfl) rfl ?_
                refine x_iload_n 0 d_X0_sway_152 rfl rfl ?_
                refine x_aload_n 3 d_X0_sway_153 rfl rfl ?_
                refine x_getr (j := 3) (o + 4) x_c0 (p_kd ho) (Nat.le_of_ble_eq_true rfl) q38 (p_f3 ho) d_X0_sway_154 ?_
                refine x_iload_n 2 d_X0_sway_157 rfl rfl ?_
                refine x_ialdN (z := a (24 + 3 * i + 2)) 8 i (p_k4 ho) (p_l4 ho) (by omega) (by decide) ((PR.bl hR1 i (by omega)).trans (swayTo_hi a i i (Nat.le_refl i))) d_X0_sway_158 ?_
                refine x_icmp_le 175 d_X0_sway_159 (by decide) (fun c17 => ?_) (fun c17 => ?_)
                · skip
                  refine x_iload_n 0 d_X0_sway_175 rfl rfl ?_
                  refine x_aload_n 3 d_X0_sway_176 rfl rfl ?_
                  refine x_getr (j := 3) (o + 4) x_c0 (p_kd ho) (Nat.le_of_ble_eq_true rfl) q38 (p_f3 ho) d_X0_sway_177 ?_
                  refine x_iload_n 2 d_X0_sway_180 rfl rfl ?_
                  refine x_ialdN (z := a (24 + 3 * i + 2)) 8 i (p_k4 ho) (p_l4 ho) (by omega) (by decide) ((PR.bl hR1 i (by omega)).trans (swayTo_hi a i i (Nat.le_refl i))) d_X0_sway_181 ?_
                  refine x_icmp_ge 195 d_X0_sway_182 (by decide) (fun c18 => ?_) (fun c18 => ?_)
                  · skip
                    refine x_iinc [(1, .int (nI (i + 1))), (3, .int ((sumWith a i) / (numWith a i))), (2, .int (numWith a i)), (0, .ref (E.1 + o))] 2 d_X0_sway_195 rfl (x_inc _) (Nat.le_of_ble_eq_true rfl) rfl ?_
                    refine x_goto 101 d_X0_sway_198 (by decide) ?_
                    refine x_lv [0, 3] rfl ?_
                    exact ih12 (i + 1) (by omega) (by omega) μ14 (by rw [swayTo_eq c17 c18]; exact hR1) hF1 h7 h8
                  · skip
                    refine x_aload_n 3 d_X0_sway_185 rfl rfl ?_
                    refine x_getr (j := 3) (o + 4) x_c0 (p_kd ho) (Nat.le_of_ble_eq_true rfl) q38 (p_f3 ho) d_X0_sway_186 ?_
                    refine x_iload_n 2 d_X0_sway_189 rfl rfl ?_
                    refine x_dup2 d_X0_sway_190 rfl rfl ?_
                    refine x_ialdN (z := a (24 + 3 * i + 2)) 8 i (p_k4 ho) (p_l4 ho) (by omega) (by decide) ((PR.bl hR1 i (by omega)).trans (swayTo_hi a i i (Nat.le_refl i))) d_X0_sway_191 ?_
                    refine x_iconst (x := 1) d_X0_sway_192 (by decide) ?_
                    refine x_isub d_X0_sway_193 ?_
                    refine x_iastNG 8 i (p_k4 ho) (p_l4 ho) (by omega) (by decide) d_X0_sway_194 (fun μ19 eμ19 => ?_)
                    have hR20 : PR (upd (swayTo a i) (24 + 3 * i + 2) ((a (24 + 3 * i + 2)) - 1)) o μ19 := PR.a4 hR1 eμ19 (by omega)
                    have hF21 : ∀ id, id ≠ o + 4 ∧ id ≠ o + 7 ∧ id ≠ o + 8 → μ19 id = μ id := fun id hid => (show μ19 id = μ14 id from (by rw [eμ19, upd2_ne _ _ _ (by omega)])).trans (hF1 id hid)
                    have hS722 := h7
                    rw [← (show μ19 (o + 7) = μ14 (o + 7) from (by rw [eμ19, upd2_ne _ _ _ (by omega)]))] at hS722
                    have hS823 := h8
                    rw [← (show μ19 (o + 8) = μ14 (o + 8) from (by rw [eμ19, upd2_ne _ _ _ (by omega)]))] at hS823
                    refine x_iinc [(1, .int (nI (i + 1))), (3, .int ((sumWith a i) / (numWith a i))), (2, .int (numWith a i)), (0, .ref (E.1 + o))] 2 d_X0_sway_195 rfl (x_inc _) (Nat.le_of_ble_eq_true rfl) rfl ?_
                    refine x_goto 101 d_X0_sway_198 (by decide) ?_
                    refine x_lv [0, 3] rfl ?_
                    exact ih12 (i + 1) (by omega) (by omega) μ19 (by rw [swayTo_dn c17 c18]; exact hR20) hF21 hS722 hS823
                · skip
                  refine x_aload_n 3 d_X0_sway_162 rfl rfl ?_
                  refine x_getr (j := 3) (o + 4) x_c0 (p_kd ho) (Nat.le_of_ble_eq_true rfl) q38 (p_f3 ho) d_X0_sway_163 ?_
                  refine x_iload_n 2 d_X0_sway_166 rfl rfl ?_
                  refine x_dup2 d_X0_sway_167 rfl rfl ?_
                  refine x_ialdN (z := a (24 + 3 * i + 2)) 8 i (p_k4 ho) (p_l4 ho) (by omega) (by decide) ((PR.bl hR1 i (by omega)).trans (swayTo_hi a i i (Nat.le_refl i))) d_X0_sway_168 ?_
                  refine x_iconst (x := 1) d_X0_sway_169 (by decide) ?_
                  refine x_iadd d_X0_sway_170 ?_
                  refine x_iastNG 8 i (p_k4 ho) (p_l4 ho) (by omega) (by decide) d_X0_sway_171 (fun μ24 eμ24 => ?_)
                  have hR25 : PR (upd (swayTo a i) (24 + 3 * i + 2) ((a (24 + 3 * i + 2)) + 1)) o μ24 := PR.a4 hR1 eμ24 (by omega)
                  have hF26 : ∀ id, id ≠ o + 4 ∧ id ≠ o + 7 ∧ id ≠ o + 8 → μ24 id = μ id := fun id hid => (show μ24 id = μ14 id from (by rw [eμ24, upd2_ne _ _ _ (by omega)])).trans (hF1 id hid)
                  have hS727 := h7
                  rw [← (show μ24 (o + 7) = μ14 (o + 7) from (by rw [eμ24, upd2_ne _ _ _ (by omega)]))] at hS727
                  have hS828 := h8
                  rw [← (show μ24 (o + 8) = μ14 (o + 8) from (by rw [eμ24, upd2_ne _ _ _ (by omega)]))] at hS828
                  refine x_goto 195 d_X0_sway_172 (by decide) ?_
                  refine x_iinc [(1, .int (nI (i + 1))), (3, .int ((sumWith a i) / (numWith a i))), (2, .int (numWith a i)), (0, .ref (E.1 + o))] 2 d_X0_sway_195 rfl (x_inc _) (Nat.le_of_ble_eq_true rfl) rfl ?_
                  refine x_goto 101 d_X0_sway_198 (by decide) ?_
                  refine x_lv [0, 3] rfl ?_
                  exact ih12 (i + 1) (by omega) (by omega) μ24 (by rw [swayTo_up c17]; exact hR25) hF26 hS727 hS828
          exact L11 0 (by omega) μ9 hR1 hF1 (fun q hq => by have := (hs q hq).1; rw [this, show i = pn a by omega]; rfl) (fun q hq => by have := (hs q hq).2; rw [this, show i = pn a by omega]; rfl)
        · skip
          have hN := x_lt c10 rfl rfl (by omega) (by omega)
          refine x_aload_n 1 d_X0_sway_54 rfl rfl ?_
          refine x_getr (j := 14) (o + 7) x_c0 (p_kd ho) (Nat.le_of_ble_eq_true rfl) q64 (p_f14 ho) d_X0_sway_55 ?_
          refine x_aload_n 1 d_X0_sway_58 rfl rfl ?_
          refine x_getr (j := 2) (o + 3) x_c0 (p_kd ho) (Nat.le_of_ble_eq_true rfl) q36 (p_f2 ho) d_X0_sway_59 ?_
          refine x_iload_n 0 d_X0_sway_62 rfl rfl ?_
          refine x_ialdN (z := a (24 + 3 * i + 1)) 8 i (p_k3 ho) (p_l3 ho) (by omega) (by decide) (PR.wh hR1 i (by omega)) d_X0_sway_63 ?_
          refine x_iconst (x := 1) d_X0_sway_64 (by decide) ?_
          refine x_iadd d_X0_sway_65 ?_
          have hpi := hpl i (by omega)
          rw [plc_eq hI (p := i) (by omega)]
          refine x_dup2 d_X0_sway_66 rfl rfl ?_
          refine x_ialdN (z := μ9 (o + 7) (plc a i)) 18 (plc a i) (p_k7 ho) (p_l7 ho) (by omega) (by decide) rfl d_X0_sway_67 ?_
          refine x_aload_n 1 d_X0_sway_68 rfl rfl ?_
          refine x_getr (j := 3) (o + 4) x_c0 (p_kd ho) (Nat.le_of_ble_eq_true rfl) q38 (p_f3 ho) d_X0_sway_69 ?_
          refine x_iload_n 0 d_X0_sway_72 rfl rfl ?_
          refine x_ialdN (z := a (24 + 3 * i + 2)) 8 i (p_k4 ho) (p_l4 ho) (by omega) (by decide) (PR.bl hR1 i (by omega)) d_X0_sway_73 ?_
          refine x_iadd d_X0_sway_74 ?_
          refine x_iastNG 18 (plc a i) (p_k7 ho) (p_l7 ho) (by omega) (by decide) d_X0_sway_75 (fun μ29 eμ29 => ?_)
          have hR30 : PR a o μ29 := PR.cg hR1 (fun id hid => by rw [eμ29, upd2_ne _ _ _ (by omega)])
          have hF31 : ∀ id, id ≠ o + 4 ∧ id ≠ o + 7 ∧ id ≠ o + 8 → μ29 id = μ id := fun id hid => (show μ29 id = μ9 id from (by rw [eμ29, upd2_ne _ _ _ (by omega)])).trans (hF1 id hid)
          refine x_aload_n 1 d_X0_sway_76 rfl rfl ?_
          refine x_getr (j := 15) (o + 8) x_c0 (p_kd ho) (Nat.le_of_ble_eq_true rfl) q65 (p_f15 ho) d_X0_sway_77 ?_
          refine x_aload_n 1 d_X0_sway_80 rfl rfl ?_
          refine x_getr (j := 2) (o + 3) x_c0 (p_kd ho) (Nat.le_of_ble_eq_true rfl) q36 (p_f2 ho) d_X0_sway_81 ?_
          refine x_iload_n 0 d_X0_sway_84 rfl rfl ?_
          refine x_ialdN (z := a (24 + 3 * i + 1)) 8 i (p_k3 ho) (p_l3 ho) (by omega) (by decide) (PR.wh hR30 i (by omega)) d_X0_sway_85 ?_
          refine x_iconst (x := 1) d_X0_sway_86 (by decide) ?_
          refine x_iadd d_X0_sway_87 ?_
          have hpi := hpl i (by omega)
          rw [plc_eq hI (p := i) (by omega)]
          refine x_dup2 d_X0_sway_88 rfl rfl ?_
          refine x_ialdN (z := μ29 (o + 8) (plc a i)) 18 (plc a i) (p_k8 ho) (p_l8 ho) (by omega) (by decide) rfl d_X0_sway_89 ?_
          refine x_iconst (x := 1) d_X0_sway_90 (by decide) ?_
          refine x_iadd d_X0_sway_91 ?_
          refine x_iastNG 18 (plc a i) (p_k8 ho) (p_l8 ho) (by omega) (by decide) d_X0_sway_92 (fun μ32 eμ32 => ?_)
          have hR33 : PR a o μ32 := PR.cg hR30 (fun id hid => by rw [eμ32, upd2_ne _ _ _ (by omega)])
          have hF34 : ∀ id, id ≠ o + 4 ∧ id ≠ o + 7 ∧ id ≠ o + 8 → μ32 id = μ id := fun id hid => (show μ32 id = μ29 id from (by rw [eμ32, upd2_ne _ _ _ (by omega)])).trans (hF31 id hid)
          refine x_iinc [(1, .int (nI (i + 1))), (0, .ref (E.1 + o))] 0 d_X0_sway_93 rfl (x_inc _) (Nat.le_of_ble_eq_true rfl) rfl ?_
          refine x_goto 46 d_X0_sway_96 (by decide) ?_
          exact ih7 (i + 1) (by omega) (by omega) μ32 hR33 hF34 (sway_s hI (by omega) hs eμ29 eμ32)
      exact L6 0 (by omega) μ4 hR1 hF1 (sway_0 hN hz)
    · skip
      have hN := x_lt c5 rfl rfl (by omega) (by omega)
      refine x_aload_n 1 d_X0_sway_10 rfl rfl ?_
      refine x_getr (j := 14) (o + 7) x_c0 (p_kd ho) (Nat.le_of_ble_eq_true rfl) q64 (p_f14 ho) d_X0_sway_11 ?_
      refine x_aload_n 1 d_X0_sway_14 rfl rfl ?_
      refine x_getr (j := 2) (o + 3) x_c0 (p_kd ho) (Nat.le_of_ble_eq_true rfl) q36 (p_f2 ho) d_X0_sway_15 ?_
      refine x_iload_n 0 d_X0_sway_18 rfl rfl ?_
      refine x_ialdN (z := a (24 + 3 * i + 1)) 8 i (p_k3 ho) (p_l3 ho) (by omega) (by decide) (PR.wh hR1 i (by omega)) d_X0_sway_19 ?_
      refine x_iconst (x := 1) d_X0_sway_20 (by decide) ?_
      refine x_iadd d_X0_sway_21 ?_
      have hpi := hpl i (by omega)
      rw [plc_eq hI (p := i) (by omega)]
      refine x_iconst (x := 0) d_X0_sway_22 (by decide) ?_
      refine x_iastNG 18 (plc a i) (p_k7 ho) (p_l7 ho) (by omega) (by decide) d_X0_sway_23 (fun μ35 eμ35 => ?_)
      have hR36 : PR a o μ35 := PR.cg hR1 (fun id hid => by rw [eμ35, upd2_ne _ _ _ (by omega)])
      have hF37 : ∀ id, id ≠ o + 4 ∧ id ≠ o + 7 ∧ id ≠ o + 8 → μ35 id = μ id := fun id hid => (show μ35 id = μ4 id from (by rw [eμ35, upd2_ne _ _ _ (by omega)])).trans (hF1 id hid)
      refine x_aload_n 1 d_X0_sway_24 rfl rfl ?_
      refine x_getr (j := 15) (o + 8) x_c0 (p_kd ho) (Nat.le_of_ble_eq_true rfl) q65 (p_f15 ho) d_X0_sway_25 ?_
      refine x_aload_n 1 d_X0_sway_28 rfl rfl ?_
      refine x_getr (j := 2) (o + 3) x_c0 (p_kd ho) (Nat.le_of_ble_eq_true rfl) q36 (p_f2 ho) d_X0_sway_29 ?_
      refine x_iload_n 0 d_X0_sway_32 rfl rfl ?_
      refine x_ialdN (z := a (24 + 3 * i + 1)) 8 i (p_k3 ho) (p_l3 ho) (by omega) (by decide) (PR.wh hR36 i (by omega)) d_X0_sway_33 ?_
      refine x_iconst (x := 1) d_X0_sway_34 (by decide) ?_
      refine x_iadd d_X0_sway_35 ?_
      have hpi := hpl i (by omega)
      rw [plc_eq hI (p := i) (by omega)]
      refine x_iconst (x := 0) d_X0_sway_36 (by decide) ?_
      refine x_iastNG 18 (plc a i) (p_k8 ho) (p_l8 ho) (by omega) (by decide) d_X0_sway_37 (fun μ38 eμ38 => ?_)
      have hR39 : PR a o μ38 := PR.cg hR36 (fun id hid => by rw [eμ38, upd2_ne _ _ _ (by omega)])
      have hF40 : ∀ id, id ≠ o + 4 ∧ id ≠ o + 7 ∧ id ≠ o + 8 → μ38 id = μ id := fun id hid => (show μ38 id = μ35 id from (by rw [eμ38, upd2_ne _ _ _ (by omega)])).trans (hF37 id hid)
      refine x_iinc [(1, .int (nI (i + 1))), (0, .ref (E.1 + o))] 0 d_X0_sway_38 rfl (x_inc _) (Nat.le_of_ble_eq_true rfl) rfl ?_
      refine x_goto 2 d_X0_sway_41 (by decide) ?_
      exact ih2 (i + 1) (by omega) (by omega) μ38 hR39 hF40 (sway_z hz eμ35 eμ38)
  exact L1 0 (by omega) μ hR (fun _ _ => rfl) (fun _ h => absurd h (Nat.not_lt_zero _))
def m_X0_anyBeliefMoved : x_M := (yX0_anyBeliefMoved, prog_2_method_20_code, 2, (some FieldType.boolean), 0, 0)
theorem v_X0_anyBeliefMoved : x_VM m_X0_anyBeliefMoved 0 := ⟨q287, q2, by decide +kernel, by decide +kernel, by decide +kernel⟩
theorem w_X0_anyBeliefMoved : x_VI m_X0_anyBeliefMoved := ⟨q286, qs5⟩
theorem d_X0_anyBeliefMoved_0 : x_dec m_X0_anyBeliefMoved 0 (.iconst 0) 1 1 := ⟨by decide +kernel, rfl⟩
theorem d_X0_anyBeliefMoved_1 : x_dec m_X0_anyBeliefMoved 1 (.istore_n 1) 1 2 := ⟨by decide +kernel, rfl⟩
theorem d_X0_anyBeliefMoved_2 : x_dec m_X0_anyBeliefMoved 2 (.iload_n 1) 1 3 := ⟨by decide +kernel, rfl⟩
theorem d_X0_anyBeliefMoved_3 : x_dec m_X0_anyBeliefMoved 3 (.aload_n 0) 1 4 := ⟨by decide +kernel, rfl⟩
theorem d_X0_anyBeliefMoved_4 : x_dec m_X0_anyBeliefMoved 4 (.getfield 27) 3 7 := ⟨by decide +kernel, rfl⟩
theorem d_X0_anyBeliefMoved_7 : x_dec m_X0_anyBeliefMoved 7 (.if_icmp .ge 26) 3 10 := ⟨by decide +kernel, rfl⟩
theorem d_X0_anyBeliefMoved_10 : x_dec m_X0_anyBeliefMoved 10 (.aload_n 0) 1 11 := ⟨by decide +kernel, rfl⟩
theorem d_X0_anyBeliefMoved_11 : x_dec m_X0_anyBeliefMoved 11 (.getfield 21) 3 14 := ⟨by decide +kernel, rfl⟩
theorem d_X0_anyBeliefMoved_14 : x_dec m_X0_anyBeliefMoved 14 (.iload_n 1) 1 15 := ⟨by decide +kernel, rfl⟩
theorem d_X0_anyBeliefMoved_15 : x_dec m_X0_anyBeliefMoved 15 (.iaload) 1 16 := ⟨by decide +kernel, rfl⟩
theorem d_X0_anyBeliefMoved_16 : x_dec m_X0_anyBeliefMoved 16 (.aload_n 0) 1 17 := ⟨by decide +kernel, rfl⟩
theorem d_X0_anyBeliefMoved_17 : x_dec m_X0_anyBeliefMoved 17 (.getfield 52) 3 20 := ⟨by decide +kernel, rfl⟩
theorem d_X0_anyBeliefMoved_20 : x_dec m_X0_anyBeliefMoved 20 (.iload_n 1) 1 21 := ⟨by decide +kernel, rfl⟩
theorem d_X0_anyBeliefMoved_21 : x_dec m_X0_anyBeliefMoved 21 (.iaload) 1 22 := ⟨by decide +kernel, rfl⟩
theorem d_X0_anyBeliefMoved_22 : x_dec m_X0_anyBeliefMoved 22 (.if_icmp .eq 5) 3 25 := ⟨by decide +kernel, rfl⟩
theorem d_X0_anyBeliefMoved_25 : x_dec m_X0_anyBeliefMoved 25 (.iconst 1) 1 26 := ⟨by decide +kernel, rfl⟩
theorem d_X0_anyBeliefMoved_26 : x_dec m_X0_anyBeliefMoved 26 (.ireturn) 1 27 := ⟨by decide +kernel, rfl⟩
theorem d_X0_anyBeliefMoved_27 : x_dec m_X0_anyBeliefMoved 27 (.iinc 1 1) 3 30 := ⟨by decide +kernel, rfl⟩
theorem d_X0_anyBeliefMoved_30 : x_dec m_X0_anyBeliefMoved 30 (.goto (-28)) 3 33 := ⟨by decide +kernel, rfl⟩
theorem d_X0_anyBeliefMoved_33 : x_dec m_X0_anyBeliefMoved 33 (.iconst 0) 1 34 := ⟨by decide +kernel, rfl⟩
theorem d_X0_anyBeliefMoved_34 : x_dec m_X0_anyBeliefMoved 34 (.ireturn) 1 35 := ⟨by decide +kernel, rfl⟩
set_option maxHeartbeats 4000000 in
set_option maxRecDepth 100000 in
theorem c_X0_anyBeliefMoved (l : Launch) (E : x_E) (μ : x_Mem) {a : x_St} {o : Nat} (ho : x_pr o) (hR : PR a o μ) (hI : WF a) {b0 : Nat → Int32} (hB : ∀ q, q < pn a → μ (o + 6) q = b0 q) : x_Met l m_X0_anyBeliefMoved E [.ref (E.1 + o)] μ (x_I (fun z m => z = x_b (anyTo (fun p => decide (¬ a (24 + 3 * p + 2) = b0 p)) (pn a)) ∧ m = μ)) := by
  have ho1 : o = 1 ∨ o = 10 ∨ o = 19 := ho
  have hn7 := hI.2.1
  have hpn := hI.1
  refine x_enter (lv := [(0, .ref (E.1 + o))]) (by decide +kernel) (Nat.le_of_ble_eq_true rfl) rfl ?_
  refine x_iconst (x := 0) d_X0_anyBeliefMoved_0 (by decide) ?_
  refine x_istore_n [(1, .int 0), (0, .ref (E.1 + o))] d_X0_anyBeliefMoved_1 rfl (Nat.le_of_ble_eq_true rfl) rfl ?_
  have L1 : ∀ i : Nat, i ≤ pn a → (∀ q, q < i → a (24 + 3 * q + 2) = b0 q) → x_G l E m_X0_anyBeliefMoved (x_mv E m_X0_anyBeliefMoved (x_I (fun z m => z = x_b (anyTo (fun p => decide (¬ a (24 + 3 * p + 2) = b0 p)) (pn a)) ∧ m = μ))) μ 2 [(1, .int (nI i)), (0, .ref (E.1 + o))] [] := by
    refine x_down _ (pn a) (fun i hi3 ih2 => ?_)
    intro hq
    refine x_iload_n 0 d_X0_anyBeliefMoved_2 rfl rfl ?_
    refine x_aload_n 1 d_X0_anyBeliefMoved_3 rfl rfl ?_
    refine x_getiV (j := 5) (z := nI (pn a)) x_c0 (p_kd ho) (Nat.le_of_ble_eq_true rfl) q42 (p_n5 ho) ((PR.f5 hR).trans hn7) d_X0_anyBeliefMoved_4 ?_
    refine x_icmp_ge 33 d_X0_anyBeliefMoved_7 (by decide) (fun c4 => ?_) (fun c4 => ?_)
    · skip
      have hN := x_ge c4 rfl rfl (by omega) (by omega)
      refine x_iconst (x := 0) d_X0_anyBeliefMoved_33 (by decide) ?_
      refine x_zret0 rfl d_X0_anyBeliefMoved_34 ?_
      exact ⟨by rw [anyTo_f (fun p hp => by simpa using hq p (by omega))], rfl⟩
    · skip
      have hN := x_lt c4 rfl rfl (by omega) (by omega)
      refine x_aload_n 1 d_X0_anyBeliefMoved_10 rfl rfl ?_
      refine x_getr (j := 3) (o + 4) x_c0 (p_kd ho) (Nat.le_of_ble_eq_true rfl) q38 (p_f3 ho) d_X0_anyBeliefMoved_11 ?_
      refine x_iload_n 0 d_X0_anyBeliefMoved_14 rfl rfl ?_
      refine x_ialdN (z := a (24 + 3 * i + 2)) 8 i (p_k4 ho) (p_l4 ho) (by omega) (by decide) (PR.bl hR i (by omega)) d_X0_anyBeliefMoved_15 ?_
      refine x_aload_n 1 d_X0_anyBeliefMoved_16 rfl rfl ?_
      refine x_getr (j := 13) (o + 6) x_c0 (p_kd ho) (Nat.le_of_ble_eq_true rfl) q63 (p_f13 ho) d_X0_anyBeliefMoved_17 ?_
      refine x_iload_n 0 d_X0_anyBeliefMoved_20 rfl rfl ?_
      refine x_ialdN (z := b0 i) 8 i (p_k6 ho) (p_l6 ho) (by omega) (by decide) (hB i (by omega)) d_X0_anyBeliefMoved_21 ?_
      refine x_icmp_eq 27 d_X0_anyBeliefMoved_22 (by decide) (fun c5 => ?_) (fun c5 => ?_)
      · skip
        refine x_iinc [(1, .int (nI (i + 1))), (0, .ref (E.1 + o))] 0 d_X0_anyBeliefMoved_27 rfl (x_inc _) (Nat.le_of_ble_eq_true rfl) rfl ?_
        refine x_goto 2 d_X0_anyBeliefMoved_30 (by decide) ?_
        exact ih2 (i + 1) (by omega) (by omega) (lt_s hq c5)
      · skip
        refine x_iconst (x := 1) d_X0_anyBeliefMoved_25 (by decide) ?_
        refine x_zret1 rfl d_X0_anyBeliefMoved_26 ?_
        exact ⟨by rw [anyTo_t (p := i) (by omega) (by simpa using c5)], rfl⟩
  exact L1 0 (by omega) (fun _ h => absurd h (Nat.not_lt_zero _))
def m_X0_passHour : x_M := (yX0_passHour, prog_2_method_17_code, 2, (some FieldType.boolean), 4, 97)
theorem v_X0_passHour : x_VM m_X0_passHour 0 := ⟨q271, q2, by decide +kernel, by decide +kernel, by decide +kernel⟩
theorem w_X0_passHour : x_VI m_X0_passHour := ⟨q269, q270⟩
theorem d_X0_passHour_0 : x_dec m_X0_passHour 0 (.aload_n 0) 1 1 := ⟨by decide +kernel, rfl⟩
theorem d_X0_passHour_1 : x_dec m_X0_passHour 1 (.getfield 31) 3 4 := ⟨by decide +kernel, rfl⟩
theorem d_X0_passHour_4 : x_dec m_X0_passHour 4 (.istore_n 1) 1 5 := ⟨by decide +kernel, rfl⟩
theorem d_X0_passHour_5 : x_dec m_X0_passHour 5 (.aload_n 0) 1 6 := ⟨by decide +kernel, rfl⟩
theorem d_X0_passHour_6 : x_dec m_X0_passHour 6 (.getfield 21) 3 9 := ⟨by decide +kernel, rfl⟩
theorem d_X0_passHour_9 : x_dec m_X0_passHour 9 (.iconst 0) 1 10 := ⟨by decide +kernel, rfl⟩
theorem d_X0_passHour_10 : x_dec m_X0_passHour 10 (.aload_n 0) 1 11 := ⟨by decide +kernel, rfl⟩
theorem d_X0_passHour_11 : x_dec m_X0_passHour 11 (.getfield 52) 3 14 := ⟨by decide +kernel, rfl⟩
theorem d_X0_passHour_14 : x_dec m_X0_passHour 14 (.iconst 0) 1 15 := ⟨by decide +kernel, rfl⟩
theorem d_X0_passHour_15 : x_dec m_X0_passHour 15 (.aload_n 0) 1 16 := ⟨by decide +kernel, rfl⟩
theorem d_X0_passHour_16 : x_dec m_X0_passHour 16 (.getfield 27) 3 19 := ⟨by decide +kernel, rfl⟩
theorem d_X0_passHour_19 : x_dec m_X0_passHour 19 (.invokestatic 67) 3 22 := ⟨by decide +kernel, rfl⟩
theorem d_X0_passHour_22 : x_dec m_X0_passHour 22 (.aload_n 0) 1 23 := ⟨by decide +kernel, rfl⟩
theorem d_X0_passHour_23 : x_dec m_X0_passHour 23 (.getfield 31) 3 26 := ⟨by decide +kernel, rfl⟩
theorem d_X0_passHour_26 : x_dec m_X0_passHour 26 (.ifCond .lt 77) 3 29 := ⟨by decide +kernel, rfl⟩
theorem d_X0_passHour_29 : x_dec m_X0_passHour 29 (.aload_n 0) 1 30 := ⟨by decide +kernel, rfl⟩
theorem d_X0_passHour_30 : x_dec m_X0_passHour 30 (.getfield 31) 3 33 := ⟨by decide +kernel, rfl⟩
theorem d_X0_passHour_33 : x_dec m_X0_passHour 33 (.bipush 16) 2 35 := ⟨by decide +kernel, rfl⟩
theorem d_X0_passHour_35 : x_dec m_X0_passHour 35 (.if_icmp .ge 68) 3 38 := ⟨by decide +kernel, rfl⟩
theorem d_X0_passHour_38 : x_dec m_X0_passHour 38 (.aload_n 0) 1 39 := ⟨by decide +kernel, rfl⟩
theorem d_X0_passHour_39 : x_dec m_X0_passHour 39 (.aload_n 0) 1 40 := ⟨by decide +kernel, rfl⟩
theorem d_X0_passHour_40 : x_dec m_X0_passHour 40 (.getfield 31) 3 43 := ⟨by decide +kernel, rfl⟩
theorem d_X0_passHour_43 : x_dec m_X0_passHour 43 (.invokevirtual 96) 3 46 := ⟨by decide +kernel, rfl⟩
theorem d_X0_passHour_46 : x_dec m_X0_passHour 46 (.aload_n 0) 1 47 := ⟨by decide +kernel, rfl⟩
theorem d_X0_passHour_47 : x_dec m_X0_passHour 47 (.getfield 9) 3 50 := ⟨by decide +kernel, rfl⟩
theorem d_X0_passHour_50 : x_dec m_X0_passHour 50 (.aload_n 0) 1 51 := ⟨by decide +kernel, rfl⟩
theorem d_X0_passHour_51 : x_dec m_X0_passHour 51 (.getfield 31) 3 54 := ⟨by decide +kernel, rfl⟩
theorem d_X0_passHour_54 : x_dec m_X0_passHour 54 (.iaload) 1 55 := ⟨by decide +kernel, rfl⟩
theorem d_X0_passHour_55 : x_dec m_X0_passHour 55 (.if_icmp .lt 24) 3 58 := ⟨by decide +kernel, rfl⟩
theorem d_X0_passHour_58 : x_dec m_X0_passHour 58 (.aload_n 0) 1 59 := ⟨by decide +kernel, rfl⟩
theorem d_X0_passHour_59 : x_dec m_X0_passHour 59 (.dup) 1 60 := ⟨by decide +kernel, rfl⟩
theorem d_X0_passHour_60 : x_dec m_X0_passHour 60 (.getfield 31) 3 63 := ⟨by decide +kernel, rfl⟩
theorem d_X0_passHour_63 : x_dec m_X0_passHour 63 (.iconst 1) 1 64 := ⟨by decide +kernel, rfl⟩
theorem d_X0_passHour_64 : x_dec m_X0_passHour 64 (.iadd) 1 65 := ⟨by decide +kernel, rfl⟩
theorem d_X0_passHour_65 : x_dec m_X0_passHour 65 (.putfield 31) 3 68 := ⟨by decide +kernel, rfl⟩
theorem d_X0_passHour_68 : x_dec m_X0_passHour 68 (.aload_n 0) 1 69 := ⟨by decide +kernel, rfl⟩
theorem d_X0_passHour_69 : x_dec m_X0_passHour 69 (.aload_n 0) 1 70 := ⟨by decide +kernel, rfl⟩
theorem d_X0_passHour_70 : x_dec m_X0_passHour 70 (.getfield 37) 3 73 := ⟨by decide +kernel, rfl⟩
theorem d_X0_passHour_73 : x_dec m_X0_passHour 73 (.invokevirtual 108) 3 76 := ⟨by decide +kernel, rfl⟩
theorem d_X0_passHour_76 : x_dec m_X0_passHour 76 (.goto 27) 3 79 := ⟨by decide +kernel, rfl⟩
theorem d_X0_passHour_79 : x_dec m_X0_passHour 79 (.aload_n 0) 1 80 := ⟨by decide +kernel, rfl⟩
theorem d_X0_passHour_80 : x_dec m_X0_passHour 80 (.aload_n 0) 1 81 := ⟨by decide +kernel, rfl⟩
theorem d_X0_passHour_81 : x_dec m_X0_passHour 81 (.getfield 43) 3 84 := ⟨by decide +kernel, rfl⟩
theorem d_X0_passHour_84 : x_dec m_X0_passHour 84 (.iconst 1) 1 85 := ⟨by decide +kernel, rfl⟩
theorem d_X0_passHour_85 : x_dec m_X0_passHour 85 (.iadd) 1 86 := ⟨by decide +kernel, rfl⟩
theorem d_X0_passHour_86 : x_dec m_X0_passHour 86 (.ldc 112) 2 88 := ⟨by decide +kernel, rfl⟩
theorem d_X0_passHour_88 : x_dec m_X0_passHour 88 (.invokestatic 77) 3 91 := ⟨by decide +kernel, rfl⟩
theorem d_X0_passHour_91 : x_dec m_X0_passHour 91 (.putfield 43) 3 94 := ⟨by decide +kernel, rfl⟩
theorem d_X0_passHour_94 : x_dec m_X0_passHour 94 (.aload_n 0) 1 95 := ⟨by decide +kernel, rfl⟩
theorem d_X0_passHour_95 : x_dec m_X0_passHour 95 (.aload_n 0) 1 96 := ⟨by decide +kernel, rfl⟩
theorem d_X0_passHour_96 : x_dec m_X0_passHour 96 (.getfield 40) 3 99 := ⟨by decide +kernel, rfl⟩
theorem d_X0_passHour_99 : x_dec m_X0_passHour 99 (.ineg) 1 100 := ⟨by decide +kernel, rfl⟩
theorem d_X0_passHour_100 : x_dec m_X0_passHour 100 (.invokevirtual 108) 3 103 := ⟨by decide +kernel, rfl⟩
theorem d_X0_passHour_103 : x_dec m_X0_passHour 103 (.aload_n 0) 1 104 := ⟨by decide +kernel, rfl⟩
theorem d_X0_passHour_104 : x_dec m_X0_passHour 104 (.invokevirtual 113) 3 107 := ⟨by decide +kernel, rfl⟩
theorem d_X0_passHour_107 : x_dec m_X0_passHour 107 (.aload_n 0) 1 108 := ⟨by decide +kernel, rfl⟩
theorem d_X0_passHour_108 : x_dec m_X0_passHour 108 (.aload_n 0) 1 109 := ⟨by decide +kernel, rfl⟩
theorem d_X0_passHour_109 : x_dec m_X0_passHour 109 (.getfield 46) 3 112 := ⟨by decide +kernel, rfl⟩
theorem d_X0_passHour_112 : x_dec m_X0_passHour 112 (.iconst 1) 1 113 := ⟨by decide +kernel, rfl⟩
theorem d_X0_passHour_113 : x_dec m_X0_passHour 113 (.iadd) 1 114 := ⟨by decide +kernel, rfl⟩
theorem d_X0_passHour_114 : x_dec m_X0_passHour 114 (.ldc 112) 2 116 := ⟨by decide +kernel, rfl⟩
theorem d_X0_passHour_116 : x_dec m_X0_passHour 116 (.invokestatic 77) 3 119 := ⟨by decide +kernel, rfl⟩
theorem d_X0_passHour_119 : x_dec m_X0_passHour 119 (.putfield 46) 3 122 := ⟨by decide +kernel, rfl⟩
theorem d_X0_passHour_122 : x_dec m_X0_passHour 122 (.aload_n 0) 1 123 := ⟨by decide +kernel, rfl⟩
theorem d_X0_passHour_123 : x_dec m_X0_passHour 123 (.getfield 31) 3 126 := ⟨by decide +kernel, rfl⟩
theorem d_X0_passHour_126 : x_dec m_X0_passHour 126 (.iload_n 1) 1 127 := ⟨by decide +kernel, rfl⟩
theorem d_X0_passHour_127 : x_dec m_X0_passHour 127 (.if_icmp .ne 10) 3 130 := ⟨by decide +kernel, rfl⟩
theorem d_X0_passHour_130 : x_dec m_X0_passHour 130 (.aload_n 0) 1 131 := ⟨by decide +kernel, rfl⟩
theorem d_X0_passHour_131 : x_dec m_X0_passHour 131 (.invokevirtual 116) 3 134 := ⟨by decide +kernel, rfl⟩
theorem d_X0_passHour_134 : x_dec m_X0_passHour 134 (.ifCond .eq 7) 3 137 := ⟨by decide +kernel, rfl⟩
theorem d_X0_passHour_137 : x_dec m_X0_passHour 137 (.iconst 1) 1 138 := ⟨by decide +kernel, rfl⟩
theorem d_X0_passHour_138 : x_dec m_X0_passHour 138 (.goto 4) 3 141 := ⟨by decide +kernel, rfl⟩
theorem d_X0_passHour_141 : x_dec m_X0_passHour 141 (.iconst 0) 1 142 := ⟨by decide +kernel, rfl⟩
theorem d_X0_passHour_142 : x_dec m_X0_passHour 142 (.ireturn) 1 143 := ⟨by decide +kernel, rfl⟩
set_option maxHeartbeats 4000000 in
set_option maxRecDepth 100000 in
theorem c_X0_passHour (l : Launch) (E : x_E) (μ : x_Mem) {a : x_St} {o : Nat} (ho : x_pr o) (hR : PR a o μ) (hI : WF a) {h : Int32} (hh : μ o 11 = h) : x_Met l m_X0_passHour E [.ref (E.1 + o)] μ (x_I (fun z m => z = x_b (movedB a) ∧ PR (hourF a) o m ∧ m o 11 = minI (h + 1) 99999 ∧ ∀ id, (id < o ∨ o + 9 ≤ id) → m id = μ id)) := by
  have ho1 : o = 1 ∨ o = 10 ∨ o = 19 := ho
  have hn7 := hI.2.1
  have hpn := hI.1
  obtain ⟨t, ht17, ht⟩ := hI.2.2.2.2.2.1
  have hF : ∀ id, (id < o ∨ o + 9 ≤ id) → μ id = μ id := fun _ _ => rfl
  refine x_enter (lv := [(0, .ref (E.1 + o))]) (by decide +kernel) (Nat.le_of_ble_eq_true rfl) rfl ?_
  refine x_aload_n 0 d_X0_passHour_0 rfl rfl ?_
  refine x_getiV (j := 6) (z := nI t) x_c0 (p_kd ho) (Nat.le_of_ble_eq_true rfl) q45 (p_n6 ho) ((PR.f6 hR).trans ht) d_X0_passHour_1 ?_
  refine x_istore_n [(1, .int (nI t)), (0, .ref (E.1 + o))] d_X0_passHour_4 rfl (Nat.le_of_ble_eq_true rfl) rfl ?_
  refine x_aload_n 1 d_X0_passHour_5 rfl rfl ?_
  refine x_getr (j := 3) (o + 4) x_c0 (p_kd ho) (Nat.le_of_ble_eq_true rfl) q38 (p_f3 ho) d_X0_passHour_6 ?_
  refine x_iconst (x := 0) d_X0_passHour_9 (by decide) ?_
  refine x_aload_n 1 d_X0_passHour_10 rfl rfl ?_
  refine x_getr (j := 13) (o + 6) x_c0 (p_kd ho) (Nat.le_of_ble_eq_true rfl) q63 (p_f13 ho) d_X0_passHour_11 ?_
  refine x_iconst (x := 0) d_X0_passHour_14 (by decide) ?_
  refine x_aload_n 1 d_X0_passHour_15 rfl rfl ?_
  refine x_getiV (j := 5) (z := nI (pn a)) x_c0 (p_kd ho) (Nat.le_of_ble_eq_true rfl) q42 (p_n5 ho) ((PR.f5 hR).trans hn7) d_X0_passHour_16 ?_
  refine x_copyG 8 8 0 0 (pn a) (p_k4 ho) (p_k6 ho) (p_l4 ho) (p_l6 ho) q272 q274 q273 q8 (by omega) (by omega) (by decide) (by decide) (Nat.le_of_ble_eq_true rfl) (Nat.le_of_ble_eq_true rfl) d_X0_passHour_19 (fun μ1 eμ1 => ?_)
  have hB : ∀ q, q < pn a → μ1 (o + 6) q = a (24 + 3 * q + 2) := fun q hq => by rw [eμ1, cpy2_in hq]; exact PR.bl hR q (by omega)
  have hR2 := PR.cg hR (μ' := μ1) (fun id hid => (by rw [eμ1]; exact if_neg (by omega)))
  have hH3 := hh
  rw [← (show μ1 o = μ o from (by rw [eμ1]; exact if_neg (by omega)))] at hH3
  have hF4 : ∀ id, (id < o ∨ o + 9 ≤ id) → μ1 id = μ id := fun id hid => (show μ1 id = μ id from (by rw [eμ1]; exact if_neg (by omega))).trans (hF id hid)
  refine x_aload_n 1 d_X0_passHour_22 rfl rfl ?_
  refine x_getiV (j := 6) (z := nI t) x_c0 (p_kd ho) (Nat.le_of_ble_eq_true rfl) q45 (p_n6 ho) ((PR.f6 hR2).trans ht) d_X0_passHour_23 ?_
  refine x_if_lt 103 d_X0_passHour_26 (by decide) (fun c5 => ?_) (fun c5 => ?_)
  · skip
    exact absurd c5 (nI_pos (by omega))
  · skip
    refine x_aload_n 1 d_X0_passHour_29 rfl rfl ?_
    refine x_getiV (j := 6) (z := nI t) x_c0 (p_kd ho) (Nat.le_of_ble_eq_true rfl) q45 (p_n6 ho) ((PR.f6 hR2).trans ht) d_X0_passHour_30 ?_
    refine x_bipush (x := 16) d_X0_passHour_33 (by decide) ?_
    refine x_icmp_ge 103 d_X0_passHour_35 (by decide) (fun c6 => ?_) (fun c6 => ?_)
    · skip
      have hR7 : PR (rideF a) o μ1 := by rw [rideF_stay ht c6]; exact hR2
      refine x_aload_n 1 d_X0_passHour_103 rfl rfl ?_
      refine x_cvv (k := o) (as := []) (c_X0_sway l E μ1 ho hR7 hI.ride.1) v_X0_sway w_X0_sway q280 (p_ob ho) rfl ⟨Nat.le_of_ble_eq_true rfl, Nat.le_of_ble_eq_true rfl⟩ rfl (Nat.le_of_ble_eq_true rfl) d_X0_passHour_104 ?_
      rintro μ8 ⟨hR9, hF10⟩
      have hH11 := hH3
      rw [← (show μ8 o = μ1 o from (hF10 _ (by omega)))] at hH11
      have hF12 : ∀ id, (id < o ∨ o + 9 ≤ id) → μ8 id = μ id := fun id hid => (show μ8 id = μ1 id from (hF10 _ (by omega))).trans (hF4 id hid)
      have hB13 := hB
      rw [← (show μ8 (o + 6) = μ1 (o + 6) from (hF10 _ (by omega)))] at hB13
      refine x_aload_n 1 d_X0_passHour_107 rfl rfl ?_
      refine x_aload_n 1 d_X0_passHour_108 rfl rfl ?_
      refine x_getiV (j := 11) (z := h) x_c0 (p_kd ho) (Nat.le_of_ble_eq_true rfl) q59 (p_n11 ho) hH11 d_X0_passHour_109 ?_
      refine x_iconst (x := 1) d_X0_passHour_112 (by decide) ?_
      refine x_iadd d_X0_passHour_113 ?_
      refine x_ldc q279 d_X0_passHour_114 ?_
      refine x_min q203 q204 q205 q7 (Nat.le_of_ble_eq_true rfl) (Nat.le_of_ble_eq_true rfl) d_X0_passHour_116 ?_
      refine x_putiG (j := 11) x_c0 (p_kd ho) (Nat.le_of_ble_eq_true rfl) q59 (p_n11 ho) rfl rfl d_X0_passHour_119 (fun μ14 eμ14 => ?_)
      have hR15 : PR (swayF (rideF a)) o μ14 := PR.w11 hR9 eμ14
      have hH16 : μ14 o 11 = minI (h + 1) 99999 := by rw [eμ14, upd2_at, upd, if_pos rfl]
      have hF17 : ∀ id, (id < o ∨ o + 9 ≤ id) → μ14 id = μ id := fun id hid => (show μ14 id = μ8 id from (by rw [eμ14, upd2_ne _ _ _ (by omega)])).trans (hF12 id hid)
      have hB18 := hB13
      rw [← (show μ14 (o + 6) = μ8 (o + 6) from (by rw [eμ14, upd2_ne _ _ _ (by omega)]))] at hB18
      refine x_aload_n 1 d_X0_passHour_122 rfl rfl ?_
      refine x_getiV (j := 6) (z := (swayF (rideF a)) 1) x_c0 (p_kd ho) (Nat.le_of_ble_eq_true rfl) q45 (p_n6 ho) (PR.f6 hR15) d_X0_passHour_123 ?_
      refine x_iload_n 0 d_X0_passHour_126 rfl rfl ?_
      refine x_icmp_ne 137 d_X0_passHour_127 (by decide) (fun c19 => ?_) (fun c19 => ?_)
      · skip
        refine x_iconst (x := 1) d_X0_passHour_137 (by decide) ?_
        refine x_goto 142 d_X0_passHour_138 (by decide) ?_
        refine x_zret1 rfl d_X0_passHour_142 ?_
        exact ⟨by rw [movedB_1 ht c19], PR.h0 hR15 _, hH16, hF17⟩
      · skip
        refine x_aload_n 1 d_X0_passHour_130 rfl rfl ?_
        refine x_cvip (k := o) (as := []) (c_X0_anyBeliefMoved l E μ14 ho hR15 (hI.ride.1).sway (b0 := (fun q => a (24 + 3 * q + 2))) (fun q hq => hB18 q (by rw [pn_sr hI] at hq; exact hq))) v_X0_anyBeliefMoved w_X0_anyBeliefMoved q284 (p_ob ho) rfl ⟨Nat.le_of_ble_eq_true rfl, Nat.le_of_ble_eq_true rfl⟩ rfl (Nat.le_of_ble_eq_true rfl) d_X0_passHour_131 ?_
        refine x_ifb_eq 141 d_X0_passHour_134 (by decide) (fun c20 => ?_) (fun c20 => ?_)
        · skip
          refine x_iconst (x := 0) d_X0_passHour_141 (by decide) ?_
          refine x_zret0 rfl d_X0_passHour_142 ?_
          exact ⟨by rw [movedB_2 hI ht c19, c20], PR.h0 hR15 _, hH16, hF17⟩
        · skip
          refine x_iconst (x := 1) d_X0_passHour_137 (by decide) ?_
          refine x_goto 142 d_X0_passHour_138 (by decide) ?_
          refine x_zret1 rfl d_X0_passHour_142 ?_
          exact ⟨by rw [movedB_2 hI ht c19, c20], PR.h0 hR15 _, hH16, hF17⟩
    · skip
      have ht16 := x_lt (N := 16) c6 rfl rfl (by omega) (by omega)
      refine x_aload_n 1 d_X0_passHour_38 rfl rfl ?_
      refine x_aload_n 1 d_X0_passHour_39 rfl rfl ?_
      refine x_getiV (j := 6) (z := nI t) x_c0 (p_kd ho) (Nat.le_of_ble_eq_true rfl) q45 (p_n6 ho) ((PR.f6 hR2).trans ht) d_X0_passHour_40 ?_
      refine x_cvip (k := o) (as := [.int (nI t)]) (c_X0_sumAt l E μ1 ho hR2 hI (nI t)) v_X0_sumAt w_X0_sumAt q217 (p_ob ho) rfl ⟨Nat.le_of_ble_eq_true rfl, Nat.le_of_ble_eq_true rfl⟩ rfl (Nat.le_of_ble_eq_true rfl) d_X0_passHour_43 ?_
      refine x_aload_n 1 d_X0_passHour_46 rfl rfl ?_
      refine x_getr (j := 0) (o + 1) x_c0 (p_kd ho) (Nat.le_of_ble_eq_true rfl) q31 (p_f0 ho) d_X0_passHour_47 ?_
      refine x_aload_n 1 d_X0_passHour_50 rfl rfl ?_
      refine x_getiV (j := 6) (z := nI t) x_c0 (p_kd ho) (Nat.le_of_ble_eq_true rfl) q45 (p_n6 ho) ((PR.f6 hR2).trans ht) d_X0_passHour_51 ?_
      refine x_ialdN (z := a (8 + t)) 16 t (p_k1 ho) (p_l1 ho) (by omega) (by decide) (PR.need hR2 t (by omega)) d_X0_passHour_54 ?_
      refine x_icmp_lt 79 d_X0_passHour_55 (by decide) (fun c21 => ?_) (fun c21 => ?_)
      · skip
        refine x_aload_n 1 d_X0_passHour_79 rfl rfl ?_
        refine x_aload_n 1 d_X0_passHour_80 rfl rfl ?_
        refine x_getiV (j := 10) (z := a 5) x_c0 (p_kd ho) (Nat.le_of_ble_eq_true rfl) q57 (p_n10 ho) (PR.f10 hR2) d_X0_passHour_81 ?_
        refine x_iconst (x := 1) d_X0_passHour_84 (by decide) ?_
        refine x_iadd d_X0_passHour_85 ?_
        refine x_ldc q279 d_X0_passHour_86 ?_
        refine x_min q203 q204 q205 q7 (Nat.le_of_ble_eq_true rfl) (Nat.le_of_ble_eq_true rfl) d_X0_passHour_88 ?_
        refine x_putiG (j := 10) x_c0 (p_kd ho) (Nat.le_of_ble_eq_true rfl) q57 (p_n10 ho) rfl rfl d_X0_passHour_91 (fun μ22 eμ22 => ?_)
        have hR23 : PR (upd a 5 (minI ((a 5) + 1) 99999)) o μ22 := PR.w10 hR2 eμ22
        have hH24 : μ22 o 11 = h := by rw [eμ22, upd2_at, upd_n _ _ (by decide)]; exact hH3
        have hF25 : ∀ id, (id < o ∨ o + 9 ≤ id) → μ22 id = μ id := fun id hid => (show μ22 id = μ1 id from (by rw [eμ22, upd2_ne _ _ _ (by omega)])).trans (hF4 id hid)
        have hB26 := hB
        rw [← (show μ22 (o + 6) = μ1 (o + 6) from (by rw [eμ22, upd2_ne _ _ _ (by omega)]))] at hB26
        refine x_aload_n 1 d_X0_passHour_94 rfl rfl ?_
        refine x_aload_n 1 d_X0_passHour_95 rfl rfl ?_
        refine x_getiV (j := 9) (z := (upd a 5 (minI ((a 5) + 1) 99999)) 4) x_c0 (p_kd ho) (Nat.le_of_ble_eq_true rfl) q54 (p_n9 ho) (PR.f9 hR23) d_X0_passHour_96 ?_
        refine x_ineg d_X0_passHour_99 ?_
        refine x_cvv (k := o) (as := [.int (-((upd a 5 (minI ((a 5) + 1) 99999)) 4))]) (c_X0_moveBeliefsAboard l E μ22 ho hR23 hI.up5s (-((upd a 5 (minI ((a 5) + 1) 99999)) 4))) v_X0_moveBeliefsAboard w_X0_moveBeliefsAboard q275 (p_ob ho) rfl ⟨Nat.le_of_ble_eq_true rfl, Nat.le_of_ble_eq_true rfl⟩ rfl (Nat.le_of_ble_eq_true rfl) d_X0_passHour_100 ?_
        rintro μ27 ⟨hR28, hF29⟩
        have hH30 := hH24
        rw [← (show μ27 o = μ22 o from (hF29 _ (by omega)))] at hH30
        have hF31 : ∀ id, (id < o ∨ o + 9 ≤ id) → μ27 id = μ id := fun id hid => (show μ27 id = μ22 id from (hF29 _ (by omega))).trans (hF25 id hid)
        have hB32 := hB26
        rw [← (show μ27 (o + 6) = μ22 (o + 6) from (hF29 _ (by omega)))] at hB32
        have hR33 : PR (rideF a) o μ27 := by rw [rideF_fall ht ht17 c6 c21]; exact hR28
        refine x_aload_n 1 d_X0_passHour_103 rfl rfl ?_
        refine x_cvv (k := o) (as := []) (c_X0_sway l E μ27 ho hR33 hI.ride.1) v_X0_sway w_X0_sway q280 (p_ob ho) rfl ⟨Nat.le_of_ble_eq_true rfl, Nat.le_of_ble_eq_true rfl⟩ rfl (Nat.le_of_ble_eq_true rfl) d_X0_passHour_104 ?_
        rintro μ34 ⟨hR35, hF36⟩
        have hH37 := hH30
        rw [← (show μ34 o = μ27 o from (hF36 _ (by omega)))] at hH37
        have hF38 : ∀ id, (id < o ∨ o + 9 ≤ id) → μ34 id = μ id := fun id hid => (show μ34 id = μ27 id from (hF36 _ (by omega))).trans (hF31 id hid)
        have hB39 := hB32
        rw [← (show μ34 (o + 6) = μ27 (o + 6) from (hF36 _ (by omega)))] at hB39
        refine x_aload_n 1 d_X0_passHour_107 rfl rfl ?_
        refine x_aload_n 1 d_X0_passHour_108 rfl rfl ?_
        refine x_getiV (j := 11) (z := h) x_c0 (p_kd ho) (Nat.le_of_ble_eq_true rfl) q59 (p_n11 ho) hH37 d_X0_passHour_109 ?_
        refine x_iconst (x := 1) d_X0_passHour_112 (by decide) ?_
        refine x_iadd d_X0_passHour_113 ?_
        refine x_ldc q279 d_X0_passHour_114 ?_
        refine x_min q203 q204 q205 q7 (Nat.le_of_ble_eq_true rfl) (Nat.le_of_ble_eq_true rfl) d_X0_passHour_116 ?_
        refine x_putiG (j := 11) x_c0 (p_kd ho) (Nat.le_of_ble_eq_true rfl) q59 (p_n11 ho) rfl rfl d_X0_passHour_119 (fun μ40 eμ40 => ?_)
        have hR41 : PR (swayF (rideF a)) o μ40 := PR.w11 hR35 eμ40
        have hH42 : μ40 o 11 = minI (h + 1) 99999 := by rw [eμ40, upd2_at, upd, if_pos rfl]
        have hF43 : ∀ id, (id < o ∨ o + 9 ≤ id) → μ40 id = μ id := fun id hid => (show μ40 id = μ34 id from (by rw [eμ40, upd2_ne _ _ _ (by omega)])).trans (hF38 id hid)
        have hB44 := hB39
        rw [← (show μ40 (o + 6) = μ34 (o + 6) from (by rw [eμ40, upd2_ne _ _ _ (by omega)]))] at hB44
        refine x_aload_n 1 d_X0_passHour_122 rfl rfl ?_
        refine x_getiV (j := 6) (z := (swayF (rideF a)) 1) x_c0 (p_kd ho) (Nat.le_of_ble_eq_true rfl) q45 (p_n6 ho) (PR.f6 hR41) d_X0_passHour_123 ?_
        refine x_iload_n 0 d_X0_passHour_126 rfl rfl ?_
        refine x_icmp_ne 137 d_X0_passHour_127 (by decide) (fun c45 => ?_) (fun c45 => ?_)
        · skip
          refine x_iconst (x := 1) d_X0_passHour_137 (by decide) ?_
          refine x_goto 142 d_X0_passHour_138 (by decide) ?_
          refine x_zret1 rfl d_X0_passHour_142 ?_
          exact ⟨by rw [movedB_1 ht c45], PR.h0 hR41 _, hH42, hF43⟩
        · skip
          refine x_aload_n 1 d_X0_passHour_130 rfl rfl ?_
          refine x_cvip (k := o) (as := []) (c_X0_anyBeliefMoved l E μ40 ho hR41 (hI.ride.1).sway (b0 := (fun q => a (24 + 3 * q + 2))) (fun q hq => hB44 q (by rw [pn_sr hI] at hq; exact hq))) v_X0_anyBeliefMoved w_X0_anyBeliefMoved q284 (p_ob ho) rfl ⟨Nat.le_of_ble_eq_true rfl, Nat.le_of_ble_eq_true rfl⟩ rfl (Nat.le_of_ble_eq_true rfl) d_X0_passHour_131 ?_
          refine x_ifb_eq 141 d_X0_passHour_134 (by decide) (fun c46 => ?_) (fun c46 => ?_)
          · skip
            refine x_iconst (x := 0) d_X0_passHour_141 (by decide) ?_
            refine x_zret0 rfl d_X0_passHour_142 ?_
            exact ⟨by rw [movedB_2 hI ht c45, c46], PR.h0 hR41 _, hH42, hF43⟩
          · skip
            refine x_iconst (x := 1) d_X0_passHour_137 (by decide) ?_
            refine x_goto 142 d_X0_passHour_138 (by decide) ?_
            refine x_zret1 rfl d_X0_passHour_142 ?_
            exact ⟨by rw [movedB_2 hI ht c45, c46], PR.h0 hR41 _, hH42, hF43⟩
      · skip
        refine x_aload_n 1 d_X0_passHour_58 rfl rfl ?_
        refine x_dup d_X0_passHour_59 rfl ?_
        refine x_getiV (j := 6) (z := nI t) x_c0 (p_kd ho) (Nat.le_of_ble_eq_true rfl) q45 (p_n6 ho) ((PR.f6 hR2).trans ht) d_X0_passHour_60 ?_
        refine x_iconst (x := 1) d_X0_passHour_63 (by decide) ?_
        refine x_iadd d_X0_passHour_64 ?_
        refine x_putiG (j := 6) x_c0 (p_kd ho) (Nat.le_of_ble_eq_true rfl) q45 (p_n6 ho) rfl rfl d_X0_passHour_65 (fun μ47 eμ47 => ?_)
        have hR48 : PR (upd a 1 ((nI t) + 1)) o μ47 := PR.w6 hR2 eμ47
        have hH49 : μ47 o 11 = h := by rw [eμ47, upd2_at, upd_n _ _ (by decide)]; exact hH3
        have hF50 : ∀ id, (id < o ∨ o + 9 ≤ id) → μ47 id = μ id := fun id hid => (show μ47 id = μ1 id from (by rw [eμ47, upd2_ne _ _ _ (by omega)])).trans (hF4 id hid)
        have hB51 := hB
        rw [← (show μ47 (o + 6) = μ1 (o + 6) from (by rw [eμ47, upd2_ne _ _ _ (by omega)]))] at hB51
        refine x_aload_n 1 d_X0_passHour_68 rfl rfl ?_
        refine x_aload_n 1 d_X0_passHour_69 rfl rfl ?_
        refine x_getiV (j := 8) (z := (upd a 1 ((nI t) + 1)) 3) x_c0 (p_kd ho) (Nat.le_of_ble_eq_true rfl) q51 (p_n8 ho) (PR.f8 hR48) d_X0_passHour_70 ?_
        refine x_cvv (k := o) (as := [.int ((upd a 1 ((nI t) + 1)) 3)]) (c_X0_moveBeliefsAboard l E μ47 ho hR48 (hI.up1s (t := t) (by omega)) ((upd a 1 ((nI t) + 1)) 3)) v_X0_moveBeliefsAboard w_X0_moveBeliefsAboard q275 (p_ob ho) rfl ⟨Nat.le_of_ble_eq_true rfl, Nat.le_of_ble_eq_true rfl⟩ rfl (Nat.le_of_ble_eq_true rfl) d_X0_passHour_73 ?_
        rintro μ52 ⟨hR53, hF54⟩
        have hH55 := hH49
        rw [← (show μ52 o = μ47 o from (hF54 _ (by omega)))] at hH55
        have hF56 : ∀ id, (id < o ∨ o + 9 ≤ id) → μ52 id = μ id := fun id hid => (show μ52 id = μ47 id from (hF54 _ (by omega))).trans (hF50 id hid)
        have hB57 := hB51
        rw [← (show μ52 (o + 6) = μ47 (o + 6) from (hF54 _ (by omega)))] at hB57
        refine x_goto 103 d_X0_passHour_76 (by decide) ?_
        have hR58 : PR (rideF a) o μ52 := by rw [rideF_go ht ht17 c6 c21]; exact hR53
        refine x_aload_n 1 d_X0_passHour_103 rfl rfl ?_
        refine x_cvv (k := o) (as := []) (c_X0_sway l E μ52 ho hR58 hI.ride.1) v_X0_sway w_X0_sway q280 (p_ob ho) rfl ⟨Nat.le_of_ble_eq_true rfl, Nat.le_of_ble_eq_true rfl⟩ rfl (Nat.le_of_ble_eq_true rfl) d_X0_passHour_104 ?_
        rintro μ59 ⟨hR60, hF61⟩
        have hH62 := hH55
        rw [← (show μ59 o = μ52 o from (hF61 _ (by omega)))] at hH62
        have hF63 : ∀ id, (id < o ∨ o + 9 ≤ id) → μ59 id = μ id := fun id hid => (show μ59 id = μ52 id from (hF61 _ (by omega))).trans (hF56 id hid)
        have hB64 := hB57
        rw [← (show μ59 (o + 6) = μ52 (o + 6) from (hF61 _ (by omega)))] at hB64
        refine x_aload_n 1 d_X0_passHour_107 rfl rfl ?_
        refine x_aload_n 1 d_X0_passHour_108 rfl rfl ?_
        refine x_getiV (j := 11) (z := h) x_c0 (p_kd ho) (Nat.le_of_ble_eq_true rfl) q59 (p_n11 ho) hH62 d_X0_passHour_109 ?_
        refine x_iconst (x := 1) d_X0_passHour_112 (by decide) ?_
        refine x_iadd d_X0_passHour_113 ?_
        refine x_ldc q279 d_X0_passHour_114 ?_
        refine x_min q203 q204 q205 q7 (Nat.le_of_ble_eq_true rfl) (Nat.le_of_ble_eq_true rfl) d_X0_passHour_116 ?_
        refine x_putiG (j := 11) x_c0 (p_kd ho) (Nat.le_of_ble_eq_true rfl) q59 (p_n11 ho) rfl rfl d_X0_passHour_119 (fun μ65 eμ65 => ?_)
        have hR66 : PR (swayF (rideF a)) o μ65 := PR.w11 hR60 eμ65
        have hH67 : μ65 o 11 = minI (h + 1) 99999 := by rw [eμ65, upd2_at, upd, if_pos rfl]
        have hF68 : ∀ id, (id < o ∨ o + 9 ≤ id) → μ65 id = μ id := fun id hid => (show μ65 id = μ59 id from (by rw [eμ65, upd2_ne _ _ _ (by omega)])).trans (hF63 id hid)
        have hB69 := hB64
        rw [← (show μ65 (o + 6) = μ59 (o + 6) from (by rw [eμ65, upd2_ne _ _ _ (by omega)]))] at hB69
        refine x_aload_n 1 d_X0_passHour_122 rfl rfl ?_
        refine x_getiV (j := 6) (z := (swayF (rideF a)) 1) x_c0 (p_kd ho) (Nat.le_of_ble_eq_true rfl) q45 (p_n6 ho) (PR.f6 hR66) d_X0_passHour_123 ?_
        refine x_iload_n 0 d_X0_passHour_126 rfl rfl ?_
        refine x_icmp_ne 137 d_X0_passHour_127 (by decide) (fun c70 => ?_) (fun c70 => ?_)
        · skip
          refine x_iconst (x := 1) d_X0_passHour_137 (by decide) ?_
          refine x_goto 142 d_X0_passHour_138 (by decide) ?_
          refine x_zret1 rfl d_X0_passHour_142 ?_
          exact ⟨by rw [movedB_1 ht c70], PR.h0 hR66 _, hH67, hF68⟩
        · skip
          refine x_aload_n 1 d_X0_passHour_130 rfl rfl ?_
          refine x_cvip (k := o) (as := []) (c_X0_anyBeliefMoved l E μ65 ho hR66 (hI.ride.1).sway (b0 := (fun q => a (24 + 3 * q + 2))) (fun q hq => hB69 q (by rw [pn_sr hI] at hq; exact hq))) v_X0_anyBeliefMoved w_X0_anyBeliefMoved q284 (p_ob ho) rfl ⟨Nat.le_of_ble_eq_true rfl, Nat.le_of_ble_eq_true rfl⟩ rfl (Nat.le_of_ble_eq_true rfl) d_X0_passHour_131 ?_
          refine x_ifb_eq 141 d_X0_passHour_134 (by decide) (fun c71 => ?_) (fun c71 => ?_)
          · skip
            refine x_iconst (x := 0) d_X0_passHour_141 (by decide) ?_
            refine x_zret0 rfl d_X0_passHour_142 ?_
            exact ⟨by rw [movedB_2 hI ht c70, c71], PR.h0 hR66 _, hH67, hF68⟩
          · skip
            refine x_iconst (x := 1) d_X0_passHour_137 (by decide) ?_
            refine x_goto 142 d_X0_passHour_138 (by decide) ?_
            refine x_zret1 rfl d_X0_passHour_142 ?_
            exact ⟨by rw [movedB_2 hI ht c70, c71], PR.h0 hR66 _, hH67, hF68⟩
def m_X0_passHours : x_M := (yX0_passHours, prog_2_method_15_code, 3, none, 5, 118)
theorem v_X0_passHours : x_VM m_X0_passHours 1 := ⟨q267, q2, by decide +kernel, by decide +kernel, by decide +kernel⟩
theorem w_X0_passHours : x_VI m_X0_passHours := ⟨q265, q266⟩
theorem d_X0_passHours_0 : x_dec m_X0_passHours 0 (.iconst 0) 1 1 := ⟨by decide +kernel, rfl⟩
theorem d_X0_passHours_1 : x_dec m_X0_passHours 1 (.istore_n 2) 1 2 := ⟨by decide +kernel, rfl⟩
theorem d_X0_passHours_2 : x_dec m_X0_passHours 2 (.iload_n 2) 1 3 := ⟨by decide +kernel, rfl⟩
theorem d_X0_passHours_3 : x_dec m_X0_passHours 3 (.iload_n 1) 1 4 := ⟨by decide +kernel, rfl⟩
theorem d_X0_passHours_4 : x_dec m_X0_passHours 4 (.if_icmp .ge 14) 3 7 := ⟨by decide +kernel, rfl⟩
theorem d_X0_passHours_7 : x_dec m_X0_passHours 7 (.aload_n 0) 1 8 := ⟨by decide +kernel, rfl⟩
theorem d_X0_passHours_8 : x_dec m_X0_passHours 8 (.invokevirtual 104) 3 11 := ⟨by decide +kernel, rfl⟩
theorem d_X0_passHours_11 : x_dec m_X0_passHours 11 (.pop) 1 12 := ⟨by decide +kernel, rfl⟩
theorem d_X0_passHours_12 : x_dec m_X0_passHours 12 (.iinc 2 1) 3 15 := ⟨by decide +kernel, rfl⟩
theorem d_X0_passHours_15 : x_dec m_X0_passHours 15 (.goto (-13)) 3 18 := ⟨by decide +kernel, rfl⟩
theorem d_X0_passHours_18 : x_dec m_X0_passHours 18 (.return_) 1 19 := ⟨by decide +kernel, rfl⟩
set_option maxHeartbeats 4000000 in
set_option maxRecDepth 100000 in
theorem c_X0_passHours (l : Launch) (E : x_E) (μ : x_Mem) {a : x_St} {o : Nat} (ho : x_pr o) (hR : PR a o μ) (hI : WF a) {h0 : Int32} (hh : μ o 11 = h0) {n : Nat} (hn : n ≤ 200) : x_Met l m_X0_passHours E [.ref (E.1 + o), .int (nI n)] μ (x_J (fun m => PR (hoursF a n) o m ∧ m o 11 = clockF h0 n ∧ ∀ id, (id < o ∨ o + 9 ≤ id) → m id = μ id)) := by
  have ho1 : o = 1 ∨ o = 10 ∨ o = 19 := ho
  have hn7 := hI.2.1
  have hpn := hI.1
  refine x_enter (lv := [(0, .ref (E.1 + o)), (1, .int (nI n))]) (by decide +kernel) (Nat.le_of_ble_eq_true rfl) rfl ?_
  refine x_iconst (x := 0) d_X0_passHours_0 (by decide) ?_
  refine x_istore_n [(2, .int 0), (0, .ref (E.1 + o)), (1, .int (nI n))] d_X0_passHours_1 rfl (Nat.le_of_ble_eq_true rfl) rfl ?_
  have L1 : ∀ i : Nat, i ≤ n → ∀ μ4 : x_Mem, (PR (hoursF a i) o μ4) → (μ4 o 11 = clockF h0 i) → (∀ id, (id < o ∨ o + 9 ≤ id) → μ4 id = μ id) → x_G l E m_X0_passHours (x_mv E m_X0_passHours (x_J (fun m => PR (hoursF a n) o m ∧ m o 11 = clockF h0 n ∧ ∀ id, (id < o ∨ o + 9 ≤ id) → m id = μ id))) μ4 2 [(2, .int (nI i)), (0, .ref (E.1 + o)), (1, .int (nI n))] [] := by
    refine x_down _ n (fun i hi3 ih2 => ?_)
    intro μ4 hR1 hH1 hF1
    refine x_iload_n 0 d_X0_passHours_2 rfl rfl ?_
    refine x_iload_n 2 d_X0_passHours_3 rfl rfl ?_
    refine x_icmp_ge 18 d_X0_passHours_4 (by decide) (fun c5 => ?_) (fun c5 => ?_)
    · skip
      have hN := x_ge (N := n) c5 rfl rfl (by omega) (by omega)
      refine x_vret rfl d_X0_passHours_18 ?_
      have e9 : i = n := by omega
      subst e9
      exact ⟨hR1, hH1, hF1⟩
    · skip
      have hN := x_lt (N := n) c5 rfl rfl (by omega) (by omega)
      refine x_aload_n 1 d_X0_passHours_7 rfl rfl ?_
      refine x_cvi (k := o) (as := []) (c_X0_passHour l E μ4 ho hR1 (hI.hours (i)) hH1) v_X0_passHour w_X0_passHour q268 (p_ob ho) rfl ⟨Nat.le_of_ble_eq_true rfl, Nat.le_of_ble_eq_true rfl⟩ rfl (Nat.le_of_ble_eq_true rfl) d_X0_passHours_8 ?_
      rintro _ μ6 ⟨rfl, hR7, x9, hF8⟩
      have hF10 : ∀ id, (id < o ∨ o + 9 ≤ id) → μ6 id = μ id := fun id hid => (show μ6 id = μ4 id from (hF8 _ (by omega))).trans (hF1 id hid)
      refine x_pop d_X0_passHours_11 rfl ?_
      refine x_iinc [(2, .int (nI (i + 1))), (0, .ref (E.1 + o)), (1, .int (nI n))] 0 d_X0_passHours_12 rfl (x_inc _) (Nat.le_of_ble_eq_true rfl) rfl ?_
      refine x_goto 2 d_X0_passHours_15 (by decide) ?_
      exact ih2 (i + 1) (by omega) (by omega) μ6 hR7 x9 hF10
  exact L1 0 (by omega) μ hR hh (fun _ _ => rfl)
def m_X0_yardBehind : x_M := (yX0_yardBehind, prog_2_method_16_code, 4, (some FieldType.int), 5, 118)
theorem v_X0_yardBehind : x_VM m_X0_yardBehind 1 := ⟨q316, q2, by decide +kernel, by decide +kernel, by decide +kernel⟩
theorem w_X0_yardBehind : x_VI m_X0_yardBehind := ⟨q314, q315⟩
theorem d_X0_yardBehind_0 : x_dec m_X0_yardBehind 0 (.iconst 1) 1 1 := ⟨by decide +kernel, rfl⟩
theorem d_X0_yardBehind_1 : x_dec m_X0_yardBehind 1 (.istore_n 2) 1 2 := ⟨by decide +kernel, rfl⟩
theorem d_X0_yardBehind_2 : x_dec m_X0_yardBehind 2 (.iconst 0) 1 3 := ⟨by decide +kernel, rfl⟩
theorem d_X0_yardBehind_3 : x_dec m_X0_yardBehind 3 (.istore_n 3) 1 4 := ⟨by decide +kernel, rfl⟩
theorem d_X0_yardBehind_4 : x_dec m_X0_yardBehind 4 (.iload_n 3) 1 5 := ⟨by decide +kernel, rfl⟩
theorem d_X0_yardBehind_5 : x_dec m_X0_yardBehind 5 (.iload_n 1) 1 6 := ⟨by decide +kernel, rfl⟩
theorem d_X0_yardBehind_6 : x_dec m_X0_yardBehind 6 (.if_icmp .ge 27) 3 9 := ⟨by decide +kernel, rfl⟩
theorem d_X0_yardBehind_9 : x_dec m_X0_yardBehind 9 (.iload_n 2) 1 10 := ⟨by decide +kernel, rfl⟩
theorem d_X0_yardBehind_10 : x_dec m_X0_yardBehind 10 (.ifCond .eq 23) 3 13 := ⟨by decide +kernel, rfl⟩
theorem d_X0_yardBehind_13 : x_dec m_X0_yardBehind 13 (.aload_n 0) 1 14 := ⟨by decide +kernel, rfl⟩
theorem d_X0_yardBehind_14 : x_dec m_X0_yardBehind 14 (.getfield 31) 3 17 := ⟨by decide +kernel, rfl⟩
theorem d_X0_yardBehind_17 : x_dec m_X0_yardBehind 17 (.bipush 16) 2 19 := ⟨by decide +kernel, rfl⟩
theorem d_X0_yardBehind_19 : x_dec m_X0_yardBehind 19 (.if_icmp .ge 14) 3 22 := ⟨by decide +kernel, rfl⟩
theorem d_X0_yardBehind_22 : x_dec m_X0_yardBehind 22 (.aload_n 0) 1 23 := ⟨by decide +kernel, rfl⟩
theorem d_X0_yardBehind_23 : x_dec m_X0_yardBehind 23 (.invokevirtual 104) 3 26 := ⟨by decide +kernel, rfl⟩
theorem d_X0_yardBehind_26 : x_dec m_X0_yardBehind 26 (.istore_n 2) 1 27 := ⟨by decide +kernel, rfl⟩
theorem d_X0_yardBehind_27 : x_dec m_X0_yardBehind 27 (.iinc 3 1) 3 30 := ⟨by decide +kernel, rfl⟩
theorem d_X0_yardBehind_30 : x_dec m_X0_yardBehind 30 (.goto (-26)) 3 33 := ⟨by decide +kernel, rfl⟩
theorem d_X0_yardBehind_33 : x_dec m_X0_yardBehind 33 (.aload_n 0) 1 34 := ⟨by decide +kernel, rfl⟩
theorem d_X0_yardBehind_34 : x_dec m_X0_yardBehind 34 (.getfield 31) 3 37 := ⟨by decide +kernel, rfl⟩
theorem d_X0_yardBehind_37 : x_dec m_X0_yardBehind 37 (.ireturn) 1 38 := ⟨by decide +kernel, rfl⟩
set_option maxHeartbeats 4000000 in
set_option maxRecDepth 100000 in
theorem c_X0_yardBehind (l : Launch) (E : x_E) (μ : x_Mem) {a : x_St} {o : Nat} (ho : x_pr o) (hR : PR a o μ) (hI : WF a) {n : Nat} (hn : n ≤ 200) : x_Met l m_X0_yardBehind E [.ref (E.1 + o), .int (nI n)] μ (x_I (fun z m => z = hoursF a n 1 ∧ ∀ id, (id < o ∨ o + 9 ≤ id) → m id = μ id)) := by
  have ho1 : o = 1 ∨ o = 10 ∨ o = 19 := ho
  have hn7 := hI.2.1
  have hpn := hI.1
  refine x_enter (lv := [(0, .ref (E.1 + o)), (1, .int (nI n))]) (by decide +kernel) (Nat.le_of_ble_eq_true rfl) rfl ?_
  refine x_iconst (x := 1) d_X0_yardBehind_0 (by decide) ?_
  refine x_istore_n [(2, .int 1), (0, .ref (E.1 + o)), (1, .int (nI n))] d_X0_yardBehind_1 rfl (Nat.le_of_ble_eq_true rfl) rfl ?_
  refine x_iconst (x := 0) d_X0_yardBehind_2 (by decide) ?_
  refine x_istore_n [(3, .int 0), (2, .int 1), (0, .ref (E.1 + o)), (1, .int (nI n))] d_X0_yardBehind_3 rfl (Nat.le_of_ble_eq_true rfl) rfl ?_
  have L1 : ∀ i : Nat, i ≤ n → ∀ q : Bool, ∀ μ4 : x_Mem, (q = false → hoursF a i 1 = hoursF a n 1) → (PR (hoursF a i) o μ4) → (∀ id, (id < o ∨ o + 9 ≤ id) → μ4 id = μ id) → x_G l E m_X0_yardBehind (x_mv E m_X0_yardBehind (x_I (fun z m => z = hoursF a n 1 ∧ ∀ id, (id < o ∨ o + 9 ≤ id) → m id = μ id))) μ4 4 [(3, .int (nI i)), (2, .int (x_b q)), (0, .ref (E.1 + o)), (1, .int (nI n))] [] := by
    refine x_down _ n (fun i hi3 ih2 => ?_)
    intro q μ4 hq hR1 hF1
    refine x_iload_n 0 d_X0_yardBehind_4 rfl rfl ?_
    refine x_iload_n 3 d_X0_yardBehind_5 rfl rfl ?_
    refine x_icmp_ge 33 d_X0_yardBehind_6 (by decide) (fun c5 => ?_) (fun c5 => ?_)
    · skip
      have hN := x_ge (N := n) c5 rfl rfl (by omega) (by omega)
      refine x_aload_n 2 d_X0_yardBehind_33 rfl rfl ?_
      refine x_getiV (j := 6) (z := (hoursF a i) 1) x_c0 (p_kd ho) (Nat.le_of_ble_eq_true rfl) q45 (p_n6 ho) (PR.f6 hR1) d_X0_yardBehind_34 ?_
      refine x_iret rfl d_X0_yardBehind_37 ?_
      have e9 : i = n := by omega
      subst e9
      exact ⟨rfl, hF1⟩
    · skip
      have hN := x_lt (N := n) c5 rfl rfl (by omega) (by omega)
      refine x_iload_n 1 d_X0_yardBehind_9 rfl rfl ?_
      refine x_ifb_eq 33 d_X0_yardBehind_10 (by decide) (fun c6 => ?_) (fun c6 => ?_)
      · skip
        refine x_aload_n 2 d_X0_yardBehind_33 rfl rfl ?_
        refine x_getiV (j := 6) (z := (hoursF a i) 1) x_c0 (p_kd ho) (Nat.le_of_ble_eq_true rfl) q45 (p_n6 ho) (PR.f6 hR1) d_X0_yardBehind_34 ?_
        refine x_iret rfl d_X0_yardBehind_37 ?_
        exact ⟨hq c6, hF1⟩
      · skip
        refine x_aload_n 2 d_X0_yardBehind_13 rfl rfl ?_
        refine x_getiV (j := 6) (z := (hoursF a i) 1) x_c0 (p_kd ho) (Nat.le_of_ble_eq_true rfl) q45 (p_n6 ho) (PR.f6 hR1) d_X0_yardBehind_14 ?_
        refine x_bipush (x := 16) d_X0_yardBehind_17 (by decide) ?_
        refine x_icmp_ge 33 d_X0_yardBehind_19 (by decide) (fun c7 => ?_) (fun c7 => ?_)
        · skip
          refine x_aload_n 2 d_X0_yardBehind_33 rfl rfl ?_
          refine x_getiV (j := 6) (z := (hoursF a i) 1) x_c0 (p_kd ho) (Nat.le_of_ble_eq_true rfl) q45 (p_n6 ho) (PR.f6 hR1) d_X0_yardBehind_34 ?_
          refine x_iret rfl d_X0_yardBehind_37 ?_
          exact ⟨last_yard hI c7 (by omega), hF1⟩
        · skip
          refine x_aload_n 2 d_X0_yardBehind_22 rfl rfl ?_
          refine x_cvi (k := o) (as := []) (c_X0_passHour l E μ4 ho hR1 (hI.hours (i)) rfl) v_X0_passHour w_X0_passHour q268 (p_ob ho) rfl ⟨Nat.le_of_ble_eq_true rfl, Nat.le_of_ble_eq_true rfl⟩ rfl (Nat.le_of_ble_eq_true rfl) d_X0_yardBehind_23 ?_
          rintro _ μ8 ⟨rfl, hR9, x11, hF10⟩
          have hF12 : ∀ id, (id < o ∨ o + 9 ≤ id) → μ8 id = μ id := fun id hid => (show μ8 id = μ4 id from (hF10 _ (by omega))).trans (hF1 id hid)
          refine x_istore_n [(2, .int (x_b (movedB (hoursF a i)))), (3, .int (nI i)), (0, .ref (E.1 + o)), (1, .int (nI n))] d_X0_yardBehind_26 rfl (Nat.le_of_ble_eq_true rfl) rfl ?_
          refine x_iinc [(3, .int (nI (i + 1))), (2, .int (x_b (movedB (hoursF a i)))), (0, .ref (E.1 + o)), (1, .int (nI n))] 1 d_X0_yardBehind_27 rfl (x_inc _) (Nat.le_of_ble_eq_true rfl) rfl ?_
          refine x_goto 4 d_X0_yardBehind_30 (by decide) ?_
          exact ih2 (i + 1) (by omega) (by omega) (movedB (hoursF a i)) μ8 (fun z => stay_yard hI (i := i) z (by omega)) hR9 hF12
  exact L1 0 (by omega) true μ (fun z => by cases z) hR (fun _ _ => rfl)
def m_X0_becomes : x_M := (yX0_becomes, prog_2_method_2_code, 2, none, 1, 26)
theorem v_X0_becomes : x_VM m_X0_becomes 1 := ⟨q312, q2, by decide +kernel, by decide +kernel, by decide +kernel⟩
theorem w_X0_becomes : x_VI m_X0_becomes := ⟨q310, q311⟩
theorem d_X0_becomes_0 : x_dec m_X0_becomes 0 (.aload_n 1) 1 1 := ⟨by decide +kernel, rfl⟩
theorem d_X0_becomes_1 : x_dec m_X0_becomes 1 (.getfield 9) 3 4 := ⟨by decide +kernel, rfl⟩
theorem d_X0_becomes_4 : x_dec m_X0_becomes 4 (.iconst 0) 1 5 := ⟨by decide +kernel, rfl⟩
theorem d_X0_becomes_5 : x_dec m_X0_becomes 5 (.aload_n 0) 1 6 := ⟨by decide +kernel, rfl⟩
theorem d_X0_becomes_6 : x_dec m_X0_becomes 6 (.getfield 9) 3 9 := ⟨by decide +kernel, rfl⟩
theorem d_X0_becomes_9 : x_dec m_X0_becomes 9 (.iconst 0) 1 10 := ⟨by decide +kernel, rfl⟩
theorem d_X0_becomes_10 : x_dec m_X0_becomes 10 (.bipush 16) 2 12 := ⟨by decide +kernel, rfl⟩
theorem d_X0_becomes_12 : x_dec m_X0_becomes 12 (.invokestatic 67) 3 15 := ⟨by decide +kernel, rfl⟩
theorem d_X0_becomes_15 : x_dec m_X0_becomes 15 (.aload_n 1) 1 16 := ⟨by decide +kernel, rfl⟩
theorem d_X0_becomes_16 : x_dec m_X0_becomes 16 (.getfield 15) 3 19 := ⟨by decide +kernel, rfl⟩
theorem d_X0_becomes_19 : x_dec m_X0_becomes 19 (.iconst 0) 1 20 := ⟨by decide +kernel, rfl⟩
theorem d_X0_becomes_20 : x_dec m_X0_becomes 20 (.aload_n 0) 1 21 := ⟨by decide +kernel, rfl⟩
theorem d_X0_becomes_21 : x_dec m_X0_becomes 21 (.getfield 15) 3 24 := ⟨by decide +kernel, rfl⟩
theorem d_X0_becomes_24 : x_dec m_X0_becomes 24 (.iconst 0) 1 25 := ⟨by decide +kernel, rfl⟩
theorem d_X0_becomes_25 : x_dec m_X0_becomes 25 (.bipush 8) 2 27 := ⟨by decide +kernel, rfl⟩
theorem d_X0_becomes_27 : x_dec m_X0_becomes 27 (.invokestatic 67) 3 30 := ⟨by decide +kernel, rfl⟩
theorem d_X0_becomes_30 : x_dec m_X0_becomes 30 (.aload_n 1) 1 31 := ⟨by decide +kernel, rfl⟩
theorem d_X0_becomes_31 : x_dec m_X0_becomes 31 (.getfield 18) 3 34 := ⟨by decide +kernel, rfl⟩
theorem d_X0_becomes_34 : x_dec m_X0_becomes 34 (.iconst 0) 1 35 := ⟨by decide +kernel, rfl⟩
theorem d_X0_becomes_35 : x_dec m_X0_becomes 35 (.aload_n 0) 1 36 := ⟨by decide +kernel, rfl⟩
theorem d_X0_becomes_36 : x_dec m_X0_becomes 36 (.getfield 18) 3 39 := ⟨by decide +kernel, rfl⟩
theorem d_X0_becomes_39 : x_dec m_X0_becomes 39 (.iconst 0) 1 40 := ⟨by decide +kernel, rfl⟩
theorem d_X0_becomes_40 : x_dec m_X0_becomes 40 (.bipush 8) 2 42 := ⟨by decide +kernel, rfl⟩
theorem d_X0_becomes_42 : x_dec m_X0_becomes 42 (.invokestatic 67) 3 45 := ⟨by decide +kernel, rfl⟩
theorem d_X0_becomes_45 : x_dec m_X0_becomes 45 (.aload_n 1) 1 46 := ⟨by decide +kernel, rfl⟩
theorem d_X0_becomes_46 : x_dec m_X0_becomes 46 (.getfield 21) 3 49 := ⟨by decide +kernel, rfl⟩
theorem d_X0_becomes_49 : x_dec m_X0_becomes 49 (.iconst 0) 1 50 := ⟨by decide +kernel, rfl⟩
theorem d_X0_becomes_50 : x_dec m_X0_becomes 50 (.aload_n 0) 1 51 := ⟨by decide +kernel, rfl⟩
theorem d_X0_becomes_51 : x_dec m_X0_becomes 51 (.getfield 21) 3 54 := ⟨by decide +kernel, rfl⟩
theorem d_X0_becomes_54 : x_dec m_X0_becomes 54 (.iconst 0) 1 55 := ⟨by decide +kernel, rfl⟩
theorem d_X0_becomes_55 : x_dec m_X0_becomes 55 (.bipush 8) 2 57 := ⟨by decide +kernel, rfl⟩
theorem d_X0_becomes_57 : x_dec m_X0_becomes 57 (.invokestatic 67) 3 60 := ⟨by decide +kernel, rfl⟩
theorem d_X0_becomes_60 : x_dec m_X0_becomes 60 (.aload_n 1) 1 61 := ⟨by decide +kernel, rfl⟩
theorem d_X0_becomes_61 : x_dec m_X0_becomes 61 (.getfield 24) 3 64 := ⟨by decide +kernel, rfl⟩
theorem d_X0_becomes_64 : x_dec m_X0_becomes 64 (.iconst 0) 1 65 := ⟨by decide +kernel, rfl⟩
theorem d_X0_becomes_65 : x_dec m_X0_becomes 65 (.aload_n 0) 1 66 := ⟨by decide +kernel, rfl⟩
theorem d_X0_becomes_66 : x_dec m_X0_becomes 66 (.getfield 24) 3 69 := ⟨by decide +kernel, rfl⟩
theorem d_X0_becomes_69 : x_dec m_X0_becomes 69 (.iconst 0) 1 70 := ⟨by decide +kernel, rfl⟩
theorem d_X0_becomes_70 : x_dec m_X0_becomes 70 (.bipush 10) 2 72 := ⟨by decide +kernel, rfl⟩
theorem d_X0_becomes_72 : x_dec m_X0_becomes 72 (.invokestatic 67) 3 75 := ⟨by decide +kernel, rfl⟩
theorem d_X0_becomes_75 : x_dec m_X0_becomes 75 (.aload_n 0) 1 76 := ⟨by decide +kernel, rfl⟩
theorem d_X0_becomes_76 : x_dec m_X0_becomes 76 (.aload_n 1) 1 77 := ⟨by decide +kernel, rfl⟩
theorem d_X0_becomes_77 : x_dec m_X0_becomes 77 (.getfield 27) 3 80 := ⟨by decide +kernel, rfl⟩
theorem d_X0_becomes_80 : x_dec m_X0_becomes 80 (.putfield 27) 3 83 := ⟨by decide +kernel, rfl⟩
theorem d_X0_becomes_83 : x_dec m_X0_becomes 83 (.aload_n 0) 1 84 := ⟨by decide +kernel, rfl⟩
theorem d_X0_becomes_84 : x_dec m_X0_becomes 84 (.aload_n 1) 1 85 := ⟨by decide +kernel, rfl⟩
theorem d_X0_becomes_85 : x_dec m_X0_becomes 85 (.getfield 31) 3 88 := ⟨by decide +kernel, rfl⟩
theorem d_X0_becomes_88 : x_dec m_X0_becomes 88 (.putfield 31) 3 91 := ⟨by decide +kernel, rfl⟩
theorem d_X0_becomes_91 : x_dec m_X0_becomes 91 (.aload_n 0) 1 92 := ⟨by decide +kernel, rfl⟩
theorem d_X0_becomes_92 : x_dec m_X0_becomes 92 (.aload_n 1) 1 93 := ⟨by decide +kernel, rfl⟩
theorem d_X0_becomes_93 : x_dec m_X0_becomes 93 (.getfield 34) 3 96 := ⟨by decide +kernel, rfl⟩
theorem d_X0_becomes_96 : x_dec m_X0_becomes 96 (.putfield 34) 3 99 := ⟨by decide +kernel, rfl⟩
theorem d_X0_becomes_99 : x_dec m_X0_becomes 99 (.aload_n 0) 1 100 := ⟨by decide +kernel, rfl⟩
theorem d_X0_becomes_100 : x_dec m_X0_becomes 100 (.aload_n 1) 1 101 := ⟨by decide +kernel, rfl⟩
theorem d_X0_becomes_101 : x_dec m_X0_becomes 101 (.getfield 37) 3 104 := ⟨by decide +kernel, rfl⟩
theorem d_X0_becomes_104 : x_dec m_X0_becomes 104 (.putfield 37) 3 107 := ⟨by decide +kernel, rfl⟩
theorem d_X0_becomes_107 : x_dec m_X0_becomes 107 (.aload_n 0) 1 108 := ⟨by decide +kernel, rfl⟩
theorem d_X0_becomes_108 : x_dec m_X0_becomes 108 (.aload_n 1) 1 109 := ⟨by decide +kernel, rfl⟩
theorem d_X0_becomes_109 : x_dec m_X0_becomes 109 (.getfield 40) 3 112 := ⟨by decide +kernel, rfl⟩
theorem d_X0_becomes_112 : x_dec m_X0_becomes 112 (.putfield 40) 3 115 := ⟨by decide +kernel, rfl⟩
theorem d_X0_becomes_115 : x_dec m_X0_becomes 115 (.aload_n 0) 1 116 := ⟨by decide +kernel, rfl⟩
theorem d_X0_becomes_116 : x_dec m_X0_becomes 116 (.aload_n 1) 1 117 := ⟨by decide +kernel, rfl⟩
theorem d_X0_becomes_117 : x_dec m_X0_becomes 117 (.getfield 43) 3 120 := ⟨by decide +kernel, rfl⟩
theorem d_X0_becomes_120 : x_dec m_X0_becomes 120 (.putfield 43) 3 123 := ⟨by decide +kernel, rfl⟩
theorem d_X0_becomes_123 : x_dec m_X0_becomes 123 (.aload_n 0) 1 124 := ⟨by decide +kernel, rfl⟩
theorem d_X0_becomes_124 : x_dec m_X0_becomes 124 (.aload_n 1) 1 125 := ⟨by decide +kernel, rfl⟩
theorem d_X0_becomes_125 : x_dec m_X0_becomes 125 (.getfield 46) 3 128 := ⟨by decide +kernel, rfl⟩
theorem d_X0_becomes_128 : x_dec m_X0_becomes 128 (.putfield 46) 3 131 := ⟨by decide +kernel, rfl⟩
theorem d_X0_becomes_131 : x_dec m_X0_becomes 131 (.aload_n 0) 1 132 := ⟨by decide +kernel, rfl⟩
theorem d_X0_becomes_132 : x_dec m_X0_becomes 132 (.aload_n 1) 1 133 := ⟨by decide +kernel, rfl⟩
theorem d_X0_becomes_133 : x_dec m_X0_becomes 133 (.getfield 49) 3 136 := ⟨by decide +kernel, rfl⟩
theorem d_X0_becomes_136 : x_dec m_X0_becomes 136 (.putfield 49) 3 139 := ⟨by decide +kernel, rfl⟩
theorem d_X0_becomes_139 : x_dec m_X0_becomes 139 (.return_) 1 140 := ⟨by decide +kernel, rfl⟩
set_option maxHeartbeats 4000000 in
set_option maxRecDepth 100000 in
theorem c_X0_becomes (l : Launch) (E : x_E) (μ : x_Mem) {a : x_St} {o o2 : Nat} (ho : x_pr o) (ho2 : x_pr o2) (hne : o ≠ o2) (hR : PR a o2 μ) {h : Int32} (hh : μ o2 11 = h) : x_Met l m_X0_becomes E [.ref (E.1 + o), .ref (E.1 + o2)] μ (x_J (fun m => PR a o m ∧ m o 11 = h ∧ ∀ id, (id < o ∨ o + 6 ≤ id) → m id = μ id)) := by
  have ho1 : o = 1 ∨ o = 10 ∨ o = 19 := ho
  have ho3 : o2 = 1 ∨ o2 = 10 ∨ o2 = 19 := ho2
  have hF : ∀ id, (id < o ∨ o + 6 ≤ id) → μ id = μ id := fun _ _ => rfl
  refine x_enter (lv := [(0, .ref (E.1 + o)), (1, .ref (E.1 + o2))]) (by decide +kernel) (Nat.le_of_ble_eq_true rfl) rfl ?_
  refine x_aload_n 1 d_X0_becomes_0 rfl rfl ?_
  refine x_getr (j := 0) (o2 + 1) x_c0 (p_kd ho2) (Nat.le_of_ble_eq_true rfl) q31 (p_f0 ho2) d_X0_becomes_1 ?_
  refine x_iconst (x := 0) d_X0_becomes_4 (by decide) ?_
  refine x_aload_n 0 d_X0_becomes_5 rfl rfl ?_
  refine x_getr (j := 0) (o + 1) x_c0 (p_kd ho) (Nat.le_of_ble_eq_true rfl) q31 (p_f0 ho) d_X0_becomes_6 ?_
  refine x_iconst (x := 0) d_X0_becomes_9 (by decide) ?_
  refine x_bipush (x := 16) d_X0_becomes_10 (by decide) ?_
  refine x_copyG 16 16 0 0 16 (p_k1 ho2) (p_k1 ho) (p_l1 ho2) (p_l1 ho) q272 q274 q273 q8 (by omega) (by omega) (by decide) (by decide) (Nat.le_of_ble_eq_true rfl) (Nat.le_of_ble_eq_true rfl) d_X0_becomes_12 (fun μ1 eμ1 => ?_)
  have hD2 : ∀ j, j < 16 → μ1 (o + 1) j = a (8 + j) := fun j hj => by rw [eμ1, cpy2_in hj]; exact PR.need hR j hj
  have hS3 := PR.cg hR (μ' := μ1) (fun id hid => (by rw [eμ1]; exact if_neg (by omega)))
  have hH4 := hh
  rw [← (show μ1 o2 = μ o2 from (by rw [eμ1]; exact if_neg (by omega)))] at hH4
  have hF5 : ∀ id, (id < o ∨ o + 6 ≤ id) → μ1 id = μ id := fun id hid => (show μ1 id = μ id from (by rw [eμ1]; exact if_neg (by omega))).trans (hF id hid)
  refine x_aload_n 1 d_X0_becomes_15 rfl rfl ?_
  refine x_getr (j := 1) (o2 + 2) x_c0 (p_kd ho2) (Nat.le_of_ble_eq_true rfl) q34 (p_f1 ho2) d_X0_becomes_16 ?_
  refine x_iconst (x := 0) d_X0_becomes_19 (by decide) ?_
  refine x_aload_n 0 d_X0_becomes_20 rfl rfl ?_
  refine x_getr (j := 1) (o + 2) x_c0 (p_kd ho) (Nat.le_of_ble_eq_true rfl) q34 (p_f1 ho) d_X0_becomes_21 ?_
  refine x_iconst (x := 0) d_X0_becomes_24 (by decide) ?_
  refine x_bipush (x := 8) d_X0_becomes_25 (by decide) ?_
  refine x_copyG 8 8 0 0 8 (p_k2 ho2) (p_k2 ho) (p_l2 ho2) (p_l2 ho) q272 q274 q273 q8 (by omega) (by omega) (by decide) (by decide) (Nat.le_of_ble_eq_true rfl) (Nat.le_of_ble_eq_true rfl) d_X0_becomes_27 (fun μ6 eμ6 => ?_)
  have hD7 : ∀ j, j < 8 → μ6 (o + 2) j = a (24 + 3 * j) := fun j hj => by rw [eμ6, cpy2_in hj]; exact PR.kd hS3 j hj
  have hS8 := PR.cg hS3 (μ' := μ6) (fun id hid => (by rw [eμ6]; exact if_neg (by omega)))
  have hH9 := hH4
  rw [← (show μ6 o2 = μ1 o2 from (by rw [eμ6]; exact if_neg (by omega)))] at hH9
  have hF10 : ∀ id, (id < o ∨ o + 6 ≤ id) → μ6 id = μ id := fun id hid => (show μ6 id = μ1 id from (by rw [eμ6]; exact if_neg (by omega))).trans (hF5 id hid)
  have hD111 := hD2
  rw [← (show μ6 (o + 1) = μ1 (o + 1) from (by rw [eμ6]; exact if_neg (by omega)))] at hD111
  refine x_aload_n 1 d_X0_becomes_30 rfl rfl ?_
  refine x_getr (j := 2) (o2 + 3) x_c0 (p_kd ho2) (Nat.le_of_ble_eq_true rfl) q36 (p_f2 ho2) d_X0_becomes_31 ?_
  refine x_iconst (x := 0) d_X0_becomes_34 (by decide) ?_
  refine x_aload_n 0 d_X0_becomes_35 rfl rfl ?_
  refine x_getr (j := 2) (o + 3) x_c0 (p_kd ho) (Nat.le_of_ble_eq_true rfl) q36 (p_f2 ho) d_X0_becomes_36 ?_
  refine x_iconst (x := 0) d_X0_becomes_39 (by decide) ?_
  refine x_bipush (x := 8) d_X0_becomes_40 (by decide) ?_
  refine x_copyG 8 8 0 0 8 (p_k3 ho2) (p_k3 ho) (p_l3 ho2) (p_l3 ho) q272 q274 q273 q8 (by omega) (by omega) (by decide) (by decide) (Nat.le_of_ble_eq_true rfl) (Nat.le_of_ble_eq_true rfl) d_X0_becomes_42 (fun μ12 eμ12 => ?_)
  have hD13 : ∀ j, j < 8 → μ12 (o + 3) j = a (24 + 3 * j + 1) := fun j hj => by rw [eμ12, cpy2_in hj]; exact PR.wh hS8 j hj
  have hS14 := PR.cg hS8 (μ' := μ12) (fun id hid => (by rw [eμ12]; exact if_neg (by omega)))
  have hH15 := hH9
  rw [← (show μ12 o2 = μ6 o2 from (by rw [eμ12]; exact if_neg (by omega)))] at hH15
  have hF16 : ∀ id, (id < o ∨ o + 6 ≤ id) → μ12 id = μ id := fun id hid => (show μ12 id = μ6 id from (by rw [eμ12]; exact if_neg (by omega))).trans (hF10 id hid)
  have hD117 := hD111
  rw [← (show μ12 (o + 1) = μ6 (o + 1) from (by rw [eμ12]; exact if_neg (by omega)))] at hD117
  have hD218 := hD7
  rw [← (show μ12 (o + 2) = μ6 (o + 2) from (by rw [eμ12]; exact if_neg (by omega)))] at hD218
  refine x_aload_n 1 d_X0_becomes_45 rfl rfl ?_
  refine x_getr (j := 3) (o2 + 4) x_c0 (p_kd ho2) (Nat.le_of_ble_eq_true rfl) q38 (p_f3 ho2) d_X0_becomes_46 ?_
  refine x_iconst (x := 0) d_X0_becomes_49 (by decide) ?_
  refine x_aload_n 0 d_X0_becomes_50 rfl rfl ?_
  refine x_getr (j := 3) (o + 4) x_c0 (p_kd ho) (Nat.le_of_ble_eq_true rfl) q38 (p_f3 ho) d_X0_becomes_51 ?_
  refine x_iconst (x := 0) d_X0_becomes_54 (by decide) ?_
  refine x_bipush (x := 8) d_X0_becomes_55 (by decide) ?_
  refine x_copyG 8 8 0 0 8 (p_k4 ho2) (p_k4 ho) (p_l4 ho2) (p_l4 ho) q272 q274 q273 q8 (by omega) (by omega) (by decide) (by decide) (Nat.le_of_ble_eq_true rfl) (Nat.le_of_ble_eq_true rfl) d_X0_becomes_57 (fun μ19 eμ19 => ?_)
  have hD20 : ∀ j, j < 8 → μ19 (o + 4) j = a (24 + 3 * j + 2) := fun j hj => by rw [eμ19, cpy2_in hj]; exact PR.bl hS14 j hj
  have hS21 := PR.cg hS14 (μ' := μ19) (fun id hid => (by rw [eμ19]; exact if_neg (by omega)))
  have hH22 := hH15
  rw [← (show μ19 o2 = μ12 o2 from (by rw [eμ19]; exact if_neg (by omega)))] at hH22
  have hF23 : ∀ id, (id < o ∨ o + 6 ≤ id) → μ19 id = μ id := fun id hid => (show μ19 id = μ12 id from (by rw [eμ19]; exact if_neg (by omega))).trans (hF16 id hid)
  have hD124 := hD117
  rw [← (show μ19 (o + 1) = μ12 (o + 1) from (by rw [eμ19]; exact if_neg (by omega)))] at hD124
  have hD225 := hD218
  rw [← (show μ19 (o + 2) = μ12 (o + 2) from (by rw [eμ19]; exact if_neg (by omega)))] at hD225
  have hD326 := hD13
  rw [← (show μ19 (o + 3) = μ12 (o + 3) from (by rw [eμ19]; exact if_neg (by omega)))] at hD326
  refine x_aload_n 1 d_X0_becomes_60 rfl rfl ?_
  refine x_getr (j := 4) (o2 + 5) x_c0 (p_kd ho2) (Nat.le_of_ble_eq_true rfl) q40 (p_f4 ho2) d_X0_becomes_61 ?_
  refine x_iconst (x := 0) d_X0_becomes_64 (by decide) ?_
  refine x_aload_n 0 d_X0_becomes_65 rfl rfl ?_
  refine x_getr (j := 4) (o + 5) x_c0 (p_kd ho) (Nat.le_of_ble_eq_true rfl) q40 (p_f4 ho) d_X0_becomes_66 ?_
  refine x_iconst (x := 0) d_X0_becomes_69 (by decide) ?_
  refine x_bipush (x := 10) d_X0_becomes_70 (by decide) ?_
  refine x_copyG 10 10 0 0 10 (p_k5 ho2) (p_k5 ho) (p_l5 ho2) (p_l5 ho) q272 q274 q273 q8 (by omega) (by omega) (by decide) (by decide) (Nat.le_of_ble_eq_true rfl) (Nat.le_of_ble_eq_true rfl) d_X0_becomes_72 (fun μ27 eμ27 => ?_)
  have hD28 : ∀ j, j < 10 → μ27 (o + 5) j = a (48 + j) := fun j hj => by rw [eμ27, cpy2_in hj]; exact PR.spot hS21 j hj
  have hS29 := PR.cg hS21 (μ' := μ27) (fun id hid => (by rw [eμ27]; exact if_neg (by omega)))
  have hH30 := hH22
  rw [← (show μ27 o2 = μ19 o2 from (by rw [eμ27]; exact if_neg (by omega)))] at hH30
  have hF31 : ∀ id, (id < o ∨ o + 6 ≤ id) → μ27 id = μ id := fun id hid => (show μ27 id = μ19 id from (by rw [eμ27]; exact if_neg (by omega))).trans (hF23 id hid)
  have hD132 := hD124
  rw [← (show μ27 (o + 1) = μ19 (o + 1) from (by rw [eμ27]; exact if_neg (by omega)))] at hD132
  have hD233 := hD225
  rw [← (show μ27 (o + 2) = μ19 (o + 2) from (by rw [eμ27]; exact if_neg (by omega)))] at hD233
  have hD334 := hD326
  rw [← (show μ27 (o + 3) = μ19 (o + 3) from (by rw [eμ27]; exact if_neg (by omega)))] at hD334
  have hD435 := hD20
  rw [← (show μ27 (o + 4) = μ19 (o + 4) from (by rw [eμ27]; exact if_neg (by omega)))] at hD435
  refine x_aload_n 0 d_X0_becomes_75 rfl rfl ?_
  refine x_aload_n 1 d_X0_becomes_76 rfl rfl ?_
  refine x_getiV (j := 5) (z := a 7) x_c0 (p_kd ho2) (Nat.le_of_ble_eq_true rfl) q42 (p_n5 ho2) (PR.f5 hS29) d_X0_becomes_77 ?_
  refine x_putiG (j := 5) x_c0 (p_kd ho) (Nat.le_of_ble_eq_true rfl) q42 (p_n5 ho) rfl rfl d_X0_becomes_80 (fun μ36 eμ36 => ?_)
  have hG37 : μ36 o 5 = a 7 := by rw [eμ36, upd2_at, upd_s]
  have hS38 := PR.cg hS29 (μ' := μ36) (fun id hid => (by rw [eμ36, upd2_ne _ _ _ (by omega)]))
  have hH39 := hH30
  rw [← (show μ36 o2 = μ27 o2 from (by rw [eμ36, upd2_ne _ _ _ (by omega)]))] at hH39
  have hF40 : ∀ id, (id < o ∨ o + 6 ≤ id) → μ36 id = μ id := fun id hid => (show μ36 id = μ27 id from (by rw [eμ36, upd2_ne _ _ _ (by omega)])).trans (hF31 id hid)
  have hD141 := hD132
  rw [← (show μ36 (o + 1) = μ27 (o + 1) from (by rw [eμ36, upd2_ne _ _ _ (by omega)]))] at hD141
  have hD242 := hD233
  rw [← (show μ36 (o + 2) = μ27 (o + 2) from (by rw [eμ36, upd2_ne _ _ _ (by omega)]))] at hD242
  have hD343 := hD334
  rw [← (show μ36 (o + 3) = μ27 (o + 3) from (by rw [eμ36, upd2_ne _ _ _ (by omega)]))] at hD343
  have hD444 := hD435
  rw [← (show μ36 (o + 4) = μ27 (o + 4) from (by rw [eμ36, upd2_ne _ _ _ (by omega)]))] at hD444
  have hD545 := hD28
  rw [← (show μ36 (o + 5) = μ27 (o + 5) from (by rw [eμ36, upd2_ne _ _ _ (by omega)]))] at hD545
  refine x_aload_n 0 d_X0_becomes_83 rfl rfl ?_
  refine x_aload_n 1 d_X0_becomes_84 rfl rfl ?_
  refine x_getiV (j := 6) (z := a 1) x_c0 (p_kd ho2) (Nat.le_of_ble_eq_true rfl) q45 (p_n6 ho2) (PR.f6 hS38) d_X0_becomes_85 ?_
  refine x_putiG (j := 6) x_c0 (p_kd ho) (Nat.le_of_ble_eq_true rfl) q45 (p_n6 ho) rfl rfl d_X0_becomes_88 (fun μ46 eμ46 => ?_)
  have hG47 : μ46 o 5 = a 7 := by rw [eμ46, upd2_at, upd_n _ _ (by decide)]; exact hG37
  have hG48 : μ46 o 6 = a 1 := by rw [eμ46, upd2_at, upd_s]
  have hS49 := PR.cg hS38 (μ' := μ46) (fun id hid => (by rw [eμ46, upd2_ne _ _ _ (by omega)]))
  have hH50 := hH39
  rw [← (show μ46 o2 = μ36 o2 from (by rw [eμ46, upd2_ne _ _ _ (by omega)]))] at hH50
  have hF51 : ∀ id, (id < o ∨ o + 6 ≤ id) → μ46 id = μ id := fun id hid => (show μ46 id = μ36 id from (by rw [eμ46, upd2_ne _ _ _ (by omega)])).trans (hF40 id hid)
  have hD152 := hD141
  rw [← (show μ46 (o + 1) = μ36 (o + 1) from (by rw [eμ46, upd2_ne _ _ _ (by omega)]))] at hD152
  have hD253 := hD242
  rw [← (show μ46 (o + 2) = μ36 (o + 2) from (by rw [eμ46, upd2_ne _ _ _ (by omega)]))] at hD253
  have hD354 := hD343
  rw [← (show μ46 (o + 3) = μ36 (o + 3) from (by rw [eμ46, upd2_ne _ _ _ (by omega)]))] at hD354
  have hD455 := hD444
  rw [← (show μ46 (o + 4) = μ36 (o + 4) from (by rw [eμ46, upd2_ne _ _ _ (by omega)]))] at hD455
  have hD556 := hD545
  rw [← (show μ46 (o + 5) = μ36 (o + 5) from (by rw [eμ46, upd2_ne _ _ _ (by omega)]))] at hD556
  refine x_aload_n 0 d_X0_becomes_91 rfl rfl ?_
  refine x_aload_n 1 d_X0_becomes_92 rfl rfl ?_
  refine x_getiV (j := 7) (z := a 2) x_c0 (p_kd ho2) (Nat.le_of_ble_eq_true rfl) q48 (p_n7 ho2) (PR.f7 hS49) d_X0_becomes_93 ?_
  refine x_putiG (j := 7) x_c0 (p_kd ho) (Nat.le_of_ble_eq_true rfl) q48 (p_n7 ho) rfl rfl d_X0_becomes_96 (fun μ57 eμ57 => ?_)
  have hG58 : μ57 o 5 = a 7 := by rw [eμ57, upd2_at, upd_n _ _ (by decide)]; exact hG47
  have hG59 : μ57 o 6 = a 1 := by rw [eμ57, upd2_at, upd_n _ _ (by decide)]; exact hG48
  have hG60 : μ57 o 7 = a 2 := by rw [eμ57, upd2_at, upd_s]
  have hS61 := PR.cg hS49 (μ' := μ57) (fun id hid => (by rw [eμ57, upd2_ne _ _ _ (by omega)]))
  have hH62 := hH50
  rw [← (show μ57 o2 = μ46 o2 from (by rw [eμ57, upd2_ne _ _ _ (by omega)]))] at hH62
  have hF63 : ∀ id, (id < o ∨ o + 6 ≤ id) → μ57 id = μ id := fun id hid => (show μ57 id = μ46 id from (by rw [eμ57, upd2_ne _ _ _ (by omega)])).trans (hF51 id hid)
  have hD164 := hD152
  rw [← (show μ57 (o + 1) = μ46 (o + 1) from (by rw [eμ57, upd2_ne _ _ _ (by omega)]))] at hD164
  have hD265 := hD253
  rw [← (show μ57 (o + 2) = μ46 (o + 2) from (by rw [eμ57, upd2_ne _ _ _ (by omega)]))] at hD265
  have hD366 := hD354
  rw [← (show μ57 (o + 3) = μ46 (o + 3) from (by rw [eμ57, upd2_ne _ _ _ (by omega)]))] at hD366
  have hD467 := hD455
  rw [← (show μ57 (o + 4) = μ46 (o + 4) from (by rw [eμ57, upd2_ne _ _ _ (by omega)]))] at hD467
  have hD568 := hD556
  rw [← (show μ57 (o + 5) = μ46 (o + 5) from (by rw [eμ57, upd2_ne _ _ _ (by omega)]))] at hD568
  refine x_aload_n 0 d_X0_becomes_99 rfl rfl ?_
  refine x_aload_n 1 d_X0_becomes_100 rfl rfl ?_
  refine x_getiV (j := 8) (z := a 3) x_c0 (p_kd ho2) (Nat.le_of_ble_eq_true rfl) q51 (p_n8 ho2) (PR.f8 hS61) d_X0_becomes_101 ?_
  refine x_putiG (j := 8) x_c0 (p_kd ho) (Nat.le_of_ble_eq_true rfl) q51 (p_n8 ho) rfl rfl d_X0_becomes_104 (fun μ69 eμ69 => ?_)
  have hG70 : μ69 o 5 = a 7 := by rw [eμ69, upd2_at, upd_n _ _ (by decide)]; exact hG58
  have hG71 : μ69 o 6 = a 1 := by rw [eμ69, upd2_at, upd_n _ _ (by decide)]; exact hG59
  have hG72 : μ69 o 7 = a 2 := by rw [eμ69, upd2_at, upd_n _ _ (by decide)]; exact hG60
  have hG73 : μ69 o 8 = a 3 := by rw [eμ69, upd2_at, upd_s]
  have hS74 := PR.cg hS61 (μ' := μ69) (fun id hid => (by rw [eμ69, upd2_ne _ _ _ (by omega)]))
  have hH75 := hH62
  rw [← (show μ69 o2 = μ57 o2 from (by rw [eμ69, upd2_ne _ _ _ (by omega)]))] at hH75
  have hF76 : ∀ id, (id < o ∨ o + 6 ≤ id) → μ69 id = μ id := fun id hid => (show μ69 id = μ57 id from (by rw [eμ69, upd2_ne _ _ _ (by omega)])).trans (hF63 id hid)
  have hD177 := hD164
  rw [← (show μ69 (o + 1) = μ57 (o + 1) from (by rw [eμ69, upd2_ne _ _ _ (by omega)]))] at hD177
  have hD278 := hD265
  rw [← (show μ69 (o + 2) = μ57 (o + 2) from (by rw [eμ69, upd2_ne _ _ _ (by omega)]))] at hD278
  have hD379 := hD366
  rw [← (show μ69 (o + 3) = μ57 (o + 3) from (by rw [eμ69, upd2_ne _ _ _ (by omega)]))] at hD379
  have hD480 := hD467
  rw [← (show μ69 (o + 4) = μ57 (o + 4) from (by rw [eμ69, upd2_ne _ _ _ (by omega)]))] at hD480
  have hD581 := hD568
  rw [← (show μ69 (o + 5) = μ57 (o + 5) from (by rw [eμ69, upd2_ne _ _ _ (by omega)]))] at hD581
  refine x_aload_n 0 d_X0_becomes_107 rfl rfl ?_
  refine x_aload_n 1 d_X0_becomes_108 rfl rfl ?_
  refine x_getiV (j := 9) (z := a 4) x_c0 (p_kd ho2) (Nat.le_of_ble_eq_true rfl) q54 (p_n9 ho2) (PR.f9 hS74) d_X0_becomes_109 ?_
  refine x_putiG (j := 9) x_c0 (p_kd ho) (Nat.le_of_ble_eq_true rfl) q54 (p_n9 ho) rfl rfl d_X0_becomes_112 (fun μ82 eμ82 => ?_)
  have hG83 : μ82 o 5 = a 7 := by rw [eμ82, upd2_at, upd_n _ _ (by decide)]; exact hG70
  have hG84 : μ82 o 6 = a 1 := by rw [eμ82, upd2_at, upd_n _ _ (by decide)]; exact hG71
  have hG85 : μ82 o 7 = a 2 := by rw [eμ82, upd2_at, upd_n _ _ (by decide)]; exact hG72
  have hG86 : μ82 o 8 = a 3 := by rw [eμ82, upd2_at, upd_n _ _ (by decide)]; exact hG73
  have hG87 : μ82 o 9 = a 4 := by rw [eμ82, upd2_at, upd_s]
  have hS88 := PR.cg hS74 (μ' := μ82) (fun id hid => (by rw [eμ82, upd2_ne _ _ _ (by omega)]))
  have hH89 := hH75
  rw [← (show μ82 o2 = μ69 o2 from (by rw [eμ82, upd2_ne _ _ _ (by omega)]))] at hH89
  have hF90 : ∀ id, (id < o ∨ o + 6 ≤ id) → μ82 id = μ id := fun id hid => (show μ82 id = μ69 id from (by rw [eμ82, upd2_ne _ _ _ (by omega)])).trans (hF76 id hid)
  have hD191 := hD177
  rw [← (show μ82 (o + 1) = μ69 (o + 1) from (by rw [eμ82, upd2_ne _ _ _ (by omega)]))] at hD191
  have hD292 := hD278
  rw [← (show μ82 (o + 2) = μ69 (o + 2) from (by rw [eμ82, upd2_ne _ _ _ (by omega)]))] at hD292
  have hD393 := hD379
  rw [← (show μ82 (o + 3) = μ69 (o + 3) from (by rw [eμ82, upd2_ne _ _ _ (by omega)]))] at hD393
  have hD494 := hD480
  rw [← (show μ82 (o + 4) = μ69 (o + 4) from (by rw [eμ82, upd2_ne _ _ _ (by omega)]))] at hD494
  have hD595 := hD581
  rw [← (show μ82 (o + 5) = μ69 (o + 5) from (by rw [eμ82, upd2_ne _ _ _ (by omega)]))] at hD595
  refine x_aload_n 0 d_X0_becomes_115 rfl rfl ?_
  refine x_aload_n 1 d_X0_becomes_116 rfl rfl ?_
  refine x_getiV (j := 10) (z := a 5) x_c0 (p_kd ho2) (Nat.le_of_ble_eq_true rfl) q57 (p_n10 ho2) (PR.f10 hS88) d_X0_becomes_117 ?_
  refine x_putiG (j := 10) x_c0 (p_kd ho) (Nat.le_of_ble_eq_true rfl) q57 (p_n10 ho) rfl rfl d_X0_becomes_120 (fun μ96 eμ96 => ?_)
  have hG97 : μ96 o 5 = a 7 := by rw [eμ96, upd2_at, upd_n _ _ (by decide)]; exact hG83
  have hG98 : μ96 o 6 = a 1 := by rw [eμ96, upd2_at, upd_n _ _ (by decide)]; exact hG84
  have hG99 : μ96 o 7 = a 2 := by rw [eμ96, upd2_at, upd_n _ _ (by decide)]; exact hG85
  have hG100 : μ96 o 8 = a 3 := by rw [eμ96, upd2_at, upd_n _ _ (by decide)]; exact hG86
  have hG101 : μ96 o 9 = a 4 := by rw [eμ96, upd2_at, upd_n _ _ (by decide)]; exact hG87
  have hG102 : μ96 o 10 = a 5 := by rw [eμ96, upd2_at, upd_s]
  have hS103 := PR.cg hS88 (μ' := μ96) (fun id hid => (by rw [eμ96, upd2_ne _ _ _ (by omega)]))
  have hH104 := hH89
  rw [← (show μ96 o2 = μ82 o2 from (by rw [eμ96, upd2_ne _ _ _ (by omega)]))] at hH104
  have hF105 : ∀ id, (id < o ∨ o + 6 ≤ id) → μ96 id = μ id := fun id hid => (show μ96 id = μ82 id from (by rw [eμ96, upd2_ne _ _ _ (by omega)])).trans (hF90 id hid)
  have hD1106 := hD191
  rw [← (show μ96 (o + 1) = μ82 (o + 1) from (by rw [eμ96, upd2_ne _ _ _ (by omega)]))] at hD1106
  have hD2107 := hD292
  rw [← (show μ96 (o + 2) = μ82 (o + 2) from (by rw [eμ96, upd2_ne _ _ _ (by omega)]))] at hD2107
  have hD3108 := hD393
  rw [← (show μ96 (o + 3) = μ82 (o + 3) from (by rw [eμ96, upd2_ne _ _ _ (by omega)]))] at hD3108
  have hD4109 := hD494
  rw [← (show μ96 (o + 4) = μ82 (o + 4) from (by rw [eμ96, upd2_ne _ _ _ (by omega)]))] at hD4109
  have hD5110 := hD595
  rw [← (show μ96 (o + 5) = μ82 (o + 5) from (by rw [eμ96, upd2_ne _ _ _ (by omega)]))] at hD5110
  refine x_aload_n 0 d_X0_becomes_123 rfl rfl ?_
  refine x_aload_n 1 d_X0_becomes_124 rfl rfl ?_
  refine x_getiV (j := 11) (z := h) x_c0 (p_kd ho2) (Nat.le_of_ble_eq_true rfl) q59 (p_n11 ho2) hH104 d_X0_becomes_125 ?_
  refine x_putiG (j := 11) x_c0 (p_kd ho) (Nat.le_of_ble_eq_true rfl) q59 (p_n11 ho) rfl rfl d_X0_becomes_128 (fun μ111 eμ111 => ?_)
  have hG112 : μ111 o 5 = a 7 := by rw [eμ111, upd2_at, upd_n _ _ (by decide)]; exact hG97
  have hG113 : μ111 o 6 = a 1 := by rw [eμ111, upd2_at, upd_n _ _ (by decide)]; exact hG98
  have hG114 : μ111 o 7 = a 2 := by rw [eμ111, upd2_at, upd_n _ _ (by decide)]; exact hG99
  have hG115 : μ111 o 8 = a 3 := by rw [eμ111, upd2_at, upd_n _ _ (by decide)]; exact hG100
  have hG116 : μ111 o 9 = a 4 := by rw [eμ111, upd2_at, upd_n _ _ (by decide)]; exact hG101
  have hG117 : μ111 o 10 = a 5 := by rw [eμ111, upd2_at, upd_n _ _ (by decide)]; exact hG102
  have hG118 : μ111 o 11 = h := by rw [eμ111, upd2_at, upd_s]
  have hS119 := PR.cg hS103 (μ' := μ111) (fun id hid => (by rw [eμ111, upd2_ne _ _ _ (by omega)]))
  have hH120 := hH104
  rw [← (show μ111 o2 = μ96 o2 from (by rw [eμ111, upd2_ne _ _ _ (by omega)]))] at hH120
  have hF121 : ∀ id, (id < o ∨ o + 6 ≤ id) → μ111 id = μ id := fun id hid => (show μ111 id = μ96 id from (by rw [eμ111, upd2_ne _ _ _ (by omega)])).trans (hF105 id hid)
  have hD1122 := hD1106
  rw [← (show μ111 (o + 1) = μ96 (o + 1) from (by rw [eμ111, upd2_ne _ _ _ (by omega)]))] at hD1122
  have hD2123 := hD2107
  rw [← (show μ111 (o + 2) = μ96 (o + 2) from (by rw [eμ111, upd2_ne _ _ _ (by omega)]))] at hD2123
  have hD3124 := hD3108
  rw [← (show μ111 (o + 3) = μ96 (o + 3) from (by rw [eμ111, upd2_ne _ _ _ (by omega)]))] at hD3124
  have hD4125 := hD4109
  rw [← (show μ111 (o + 4) = μ96 (o + 4) from (by rw [eμ111, upd2_ne _ _ _ (by omega)]))] at hD4125
  have hD5126 := hD5110
  rw [← (show μ111 (o + 5) = μ96 (o + 5) from (by rw [eμ111, upd2_ne _ _ _ (by omega)]))] at hD5126
  refine x_aload_n 0 d_X0_becomes_131 rfl rfl ?_
  refine x_aload_n 1 d_X0_becomes_132 rfl rfl ?_
  refine x_getiV (j := 12) (z := a 6) x_c0 (p_kd ho2) (Nat.le_of_ble_eq_true rfl) q61 (p_n12 ho2) (PR.f12 hS119) d_X0_becomes_133 ?_
  refine x_putiG (j := 12) x_c0 (p_kd ho) (Nat.le_of_ble_eq_true rfl) q61 (p_n12 ho) rfl rfl d_X0_becomes_136 (fun μ127 eμ127 => ?_)
  have hG128 : μ127 o 5 = a 7 := by rw [eμ127, upd2_at, upd_n _ _ (by decide)]; exact hG112
  have hG129 : μ127 o 6 = a 1 := by rw [eμ127, upd2_at, upd_n _ _ (by decide)]; exact hG113
  have hG130 : μ127 o 7 = a 2 := by rw [eμ127, upd2_at, upd_n _ _ (by decide)]; exact hG114
  have hG131 : μ127 o 8 = a 3 := by rw [eμ127, upd2_at, upd_n _ _ (by decide)]; exact hG115
  have hG132 : μ127 o 9 = a 4 := by rw [eμ127, upd2_at, upd_n _ _ (by decide)]; exact hG116
  have hG133 : μ127 o 10 = a 5 := by rw [eμ127, upd2_at, upd_n _ _ (by decide)]; exact hG117
  have hG134 : μ127 o 11 = h := by rw [eμ127, upd2_at, upd_n _ _ (by decide)]; exact hG118
  have hG135 : μ127 o 12 = a 6 := by rw [eμ127, upd2_at, upd_s]
  have hS136 := PR.cg hS119 (μ' := μ127) (fun id hid => (by rw [eμ127, upd2_ne _ _ _ (by omega)]))
  have hH137 := hH120
  rw [← (show μ127 o2 = μ111 o2 from (by rw [eμ127, upd2_ne _ _ _ (by omega)]))] at hH137
  have hF138 : ∀ id, (id < o ∨ o + 6 ≤ id) → μ127 id = μ id := fun id hid => (show μ127 id = μ111 id from (by rw [eμ127, upd2_ne _ _ _ (by omega)])).trans (hF121 id hid)
  have hD1139 := hD1122
  rw [← (show μ127 (o + 1) = μ111 (o + 1) from (by rw [eμ127, upd2_ne _ _ _ (by omega)]))] at hD1139
  have hD2140 := hD2123
  rw [← (show μ127 (o + 2) = μ111 (o + 2) from (by rw [eμ127, upd2_ne _ _ _ (by omega)]))] at hD2140
  have hD3141 := hD3124
  rw [← (show μ127 (o + 3) = μ111 (o + 3) from (by rw [eμ127, upd2_ne _ _ _ (by omega)]))] at hD3141
  have hD4142 := hD4125
  rw [← (show μ127 (o + 4) = μ111 (o + 4) from (by rw [eμ127, upd2_ne _ _ _ (by omega)]))] at hD4142
  have hD5143 := hD5126
  rw [← (show μ127 (o + 5) = μ111 (o + 5) from (by rw [eμ127, upd2_ne _ _ _ (by omega)]))] at hD5143
  refine x_vret rfl d_X0_becomes_139 ?_
  exact ⟨PR.mk5 hD1139 hD2140 hD3141 hD4142 hD5143 hG128 hG129 hG130 hG131 hG132 hG133 hG135, hG134, hF138⟩
def m_X0_newcomer : x_M := (yX0_newcomer, prog_2_method_3_code, 5, (some FieldType.int), 0, 0)
theorem v_X0_newcomer : x_VM m_X0_newcomer 3 := ⟨q229, q2, by decide +kernel, by decide +kernel, by decide +kernel⟩
theorem w_X0_newcomer : x_VI m_X0_newcomer := ⟨q227, q228⟩
theorem d_X0_newcomer_0 : x_dec m_X0_newcomer 0 (.aload_n 0) 1 1 := ⟨by decide +kernel, rfl⟩
theorem d_X0_newcomer_1 : x_dec m_X0_newcomer 1 (.getfield 27) 3 4 := ⟨by decide +kernel, rfl⟩
theorem d_X0_newcomer_4 : x_dec m_X0_newcomer 4 (.istore 4) 2 6 := ⟨by decide +kernel, rfl⟩
theorem d_X0_newcomer_6 : x_dec m_X0_newcomer 6 (.iload 4) 2 8 := ⟨by decide +kernel, rfl⟩
theorem d_X0_newcomer_8 : x_dec m_X0_newcomer 8 (.bipush 8) 2 10 := ⟨by decide +kernel, rfl⟩
theorem d_X0_newcomer_10 : x_dec m_X0_newcomer 10 (.if_icmp .ge 37) 3 13 := ⟨by decide +kernel, rfl⟩
theorem d_X0_newcomer_13 : x_dec m_X0_newcomer 13 (.aload_n 0) 1 14 := ⟨by decide +kernel, rfl⟩
theorem d_X0_newcomer_14 : x_dec m_X0_newcomer 14 (.getfield 15) 3 17 := ⟨by decide +kernel, rfl⟩
theorem d_X0_newcomer_17 : x_dec m_X0_newcomer 17 (.iload 4) 2 19 := ⟨by decide +kernel, rfl⟩
theorem d_X0_newcomer_19 : x_dec m_X0_newcomer 19 (.iload_n 1) 1 20 := ⟨by decide +kernel, rfl⟩
theorem d_X0_newcomer_20 : x_dec m_X0_newcomer 20 (.iastore) 1 21 := ⟨by decide +kernel, rfl⟩
theorem d_X0_newcomer_21 : x_dec m_X0_newcomer 21 (.aload_n 0) 1 22 := ⟨by decide +kernel, rfl⟩
theorem d_X0_newcomer_22 : x_dec m_X0_newcomer 22 (.getfield 18) 3 25 := ⟨by decide +kernel, rfl⟩
theorem d_X0_newcomer_25 : x_dec m_X0_newcomer 25 (.iload 4) 2 27 := ⟨by decide +kernel, rfl⟩
theorem d_X0_newcomer_27 : x_dec m_X0_newcomer 27 (.iload_n 2) 1 28 := ⟨by decide +kernel, rfl⟩
theorem d_X0_newcomer_28 : x_dec m_X0_newcomer 28 (.iastore) 1 29 := ⟨by decide +kernel, rfl⟩
theorem d_X0_newcomer_29 : x_dec m_X0_newcomer 29 (.aload_n 0) 1 30 := ⟨by decide +kernel, rfl⟩
theorem d_X0_newcomer_30 : x_dec m_X0_newcomer 30 (.getfield 21) 3 33 := ⟨by decide +kernel, rfl⟩
theorem d_X0_newcomer_33 : x_dec m_X0_newcomer 33 (.iload 4) 2 35 := ⟨by decide +kernel, rfl⟩
theorem d_X0_newcomer_35 : x_dec m_X0_newcomer 35 (.iload_n 3) 1 36 := ⟨by decide +kernel, rfl⟩
theorem d_X0_newcomer_36 : x_dec m_X0_newcomer 36 (.iastore) 1 37 := ⟨by decide +kernel, rfl⟩
theorem d_X0_newcomer_37 : x_dec m_X0_newcomer 37 (.aload_n 0) 1 38 := ⟨by decide +kernel, rfl⟩
theorem d_X0_newcomer_38 : x_dec m_X0_newcomer 38 (.dup) 1 39 := ⟨by decide +kernel, rfl⟩
theorem d_X0_newcomer_39 : x_dec m_X0_newcomer 39 (.getfield 27) 3 42 := ⟨by decide +kernel, rfl⟩
theorem d_X0_newcomer_42 : x_dec m_X0_newcomer 42 (.iconst 1) 1 43 := ⟨by decide +kernel, rfl⟩
theorem d_X0_newcomer_43 : x_dec m_X0_newcomer 43 (.iadd) 1 44 := ⟨by decide +kernel, rfl⟩
theorem d_X0_newcomer_44 : x_dec m_X0_newcomer 44 (.putfield 27) 3 47 := ⟨by decide +kernel, rfl⟩
theorem d_X0_newcomer_47 : x_dec m_X0_newcomer 47 (.iload 4) 2 49 := ⟨by decide +kernel, rfl⟩
theorem d_X0_newcomer_49 : x_dec m_X0_newcomer 49 (.ireturn) 1 50 := ⟨by decide +kernel, rfl⟩
set_option maxHeartbeats 4000000 in
set_option maxRecDepth 100000 in
theorem c_X0_newcomer (l : Launch) (E : x_E) (μ : x_Mem) {a : x_St} {o : Nat} (ho : x_pr o) (hR : PR a o μ) (hI : WF a) (hlt : pn a < 8) {h : Int32} (hh : μ o 11 = h) (k w b : Int32) : x_Met l m_X0_newcomer E [.ref (E.1 + o), .int k, .int w, .int b] μ (x_I (fun z m => z = nI (pn a) ∧ PR (comeF a k w b) o m ∧ m o 11 = h ∧ ∀ id, (id < o ∨ o + 9 ≤ id) → m id = μ id)) := by
  have ho1 : o = 1 ∨ o = 10 ∨ o = 19 := ho
  have hn7 := hI.2.1
  have hpn := hI.1
  have hF : ∀ id, (id < o ∨ o + 9 ≤ id) → μ id = μ id := fun _ _ => rfl
  refine x_enter (lv := [(0, .ref (E.1 + o)), (1, .int k), (2, .int w), (3, .int b)]) (by decide +kernel) (Nat.le_of_ble_eq_true rfl) rfl ?_
  refine x_aload_n 0 d_X0_newcomer_0 rfl rfl ?_
  refine x_getiV (j := 5) (z := nI (pn a)) x_c0 (p_kd ho) (Nat.le_of_ble_eq_true rfl) q42 (p_n5 ho) (by rw [PR.f5 hR]; (repeat rw [upd_n _ _ (by omega)]); exact hn7) d_X0_newcomer_1 ?_
  refine x_istore [(4, .int (nI (pn a))), (0, .ref (E.1 + o)), (1, .int k), (2, .int w), (3, .int b)] d_X0_newcomer_4 (Nat.le_of_ble_eq_true rfl) rfl ?_
  refine x_iload 0 d_X0_newcomer_6 rfl ?_
  refine x_bipush (x := 8) d_X0_newcomer_8 (by decide) ?_
  refine x_icmp_ge 47 d_X0_newcomer_10 (by decide) (fun c1 => ?_) (fun c1 => ?_)
  · skip
    exact absurd (x_ge (N := 8) c1 rfl rfl (by omega) (by omega)) (by omega)
  · skip
    refine x_aload_n 1 d_X0_newcomer_13 rfl rfl ?_
    refine x_getr (j := 1) (o + 2) x_c0 (p_kd ho) (Nat.le_of_ble_eq_true rfl) q34 (p_f1 ho) d_X0_newcomer_14 ?_
    refine x_iload 0 d_X0_newcomer_17 rfl ?_
    refine x_iload_n 2 d_X0_newcomer_19 rfl rfl ?_
    refine x_iastNG 8 (pn a) (p_k2 ho) (p_l2 ho) (by omega) (by decide) d_X0_newcomer_20 (fun μ2 eμ2 => ?_)
    have hR3 : PR (upd a (24 + 3 * (pn a)) k) o μ2 := PR.a2 hR eμ2 (by omega)
    have hF4 : ∀ id, (id < o ∨ o + 9 ≤ id) → μ2 id = μ id := fun id hid => (show μ2 id = μ id from (by rw [eμ2, upd2_ne _ _ _ (by omega)])).trans (hF id hid)
    have hH5 := hh
    rw [← (show μ2 o = μ o from (by rw [eμ2, upd2_ne _ _ _ (by omega)]))] at hH5
    refine x_aload_n 1 d_X0_newcomer_21 rfl rfl ?_
    refine x_getr (j := 2) (o + 3) x_c0 (p_kd ho) (Nat.le_of_ble_eq_true rfl) q36 (p_f2 ho) d_X0_newcomer_22 ?_
    refine x_iload 0 d_X0_newcomer_25 rfl ?_
    refine x_iload_n 3 d_X0_newcomer_27 rfl rfl ?_
    refine x_iastNG 8 (pn a) (p_k3 ho) (p_l3 ho) (by omega) (by decide) d_X0_newcomer_28 (fun μ6 eμ6 => ?_)
    have hR7 : PR (upd (upd a (24 + 3 * (pn a)) k) (24 + 3 * (pn a) + 1) w) o μ6 := PR.a3 hR3 eμ6 (by omega)
    have hF8 : ∀ id, (id < o ∨ o + 9 ≤ id) → μ6 id = μ id := fun id hid => (show μ6 id = μ2 id from (by rw [eμ6, upd2_ne _ _ _ (by omega)])).trans (hF4 id hid)
    have hH9 := hH5
    rw [← (show μ6 o = μ2 o from (by rw [eμ6, upd2_ne _ _ _ (by omega)]))] at hH9
    refine x_aload_n 1 d_X0_newcomer_29 rfl rfl ?_
    refine x_getr (j := 3) (o + 4) x_c0 (p_kd ho) (Nat.le_of_ble_eq_true rfl) q38 (p_f3 ho) d_X0_newcomer_30 ?_
    refine x_iload 0 d_X0_newcomer_33 rfl ?_
    refine x_iload_n 4 d_X0_newcomer_35 rfl rfl ?_
    refine x_iastNG 8 (pn a) (p_k4 ho) (p_l4 ho) (by omega) (by decide) d_X0_newcomer_36 (fun μ10 eμ10 => ?_)
    have hR11 : PR (upd (upd (upd a (24 + 3 * (pn a)) k) (24 + 3 * (pn a) + 1) w) (24 + 3 * (pn a) + 2) b) o μ10 := PR.a4 hR7 eμ10 (by omega)
    have hF12 : ∀ id, (id < o ∨ o + 9 ≤ id) → μ10 id = μ id := fun id hid => (show μ10 id = μ6 id from (by rw [eμ10, upd2_ne _ _ _ (by omega)])).trans (hF8 id hid)
    have hH13 := hH9
    rw [← (show μ10 o = μ6 o from (by rw [eμ10, upd2_ne _ _ _ (by omega)]))] at hH13
    refine x_aload_n 1 d_X0_newcomer_37 rfl rfl ?_
    refine x_dup d_X0_newcomer_38 rfl ?_
    refine x_getiV (j := 5) (z := nI (pn a)) x_c0 (p_kd ho) (Nat.le_of_ble_eq_true rfl) q42 (p_n5 ho) (by rw [PR.f5 hR11]; (repeat rw [upd_n _ _ (by omega)]); exact hn7) d_X0_newcomer_39 ?_
    refine x_iconst (x := 1) d_X0_newcomer_42 (by decide) ?_
    refine x_iadd d_X0_newcomer_43 ?_
    refine x_putiG (j := 5) x_c0 (p_kd ho) (Nat.le_of_ble_eq_true rfl) q42 (p_n5 ho) rfl rfl d_X0_newcomer_44 (fun μ14 eμ14 => ?_)
    have hR15 : PR (upd (upd (upd (upd a (24 + 3 * (pn a)) k) (24 + 3 * (pn a) + 1) w) (24 + 3 * (pn a) + 2) b) 7 ((nI (pn a)) + 1)) o μ14 := PR.w5 hR11 eμ14
    have hH16 : μ14 o 11 = h := by rw [eμ14, upd2_at, upd_n _ _ (by decide)]; exact hH13
    have hF17 : ∀ id, (id < o ∨ o + 9 ≤ id) → μ14 id = μ id := fun id hid => (show μ14 id = μ10 id from (by rw [eμ14, upd2_ne _ _ _ (by omega)])).trans (hF12 id hid)
    refine x_iload 0 d_X0_newcomer_47 rfl ?_
    refine x_iret rfl d_X0_newcomer_49 ?_
    exact ⟨rfl, hR15, hH16, hF17⟩
def m_X0_nextDraw : x_M := (yX0_nextDraw, prog_2_method_14_code, 1, (some FieldType.int), 0, 0)
theorem v_X0_nextDraw : x_VM m_X0_nextDraw 0 := ⟨q455, q2, by decide +kernel, by decide +kernel, by decide +kernel⟩
theorem w_X0_nextDraw : x_VI m_X0_nextDraw := ⟨q453, q454⟩
theorem d_X0_nextDraw_0 : x_dec m_X0_nextDraw 0 (.aload_n 0) 1 1 := ⟨by decide +kernel, rfl⟩
theorem d_X0_nextDraw_1 : x_dec m_X0_nextDraw 1 (.aload_n 0) 1 2 := ⟨by decide +kernel, rfl⟩
theorem d_X0_nextDraw_2 : x_dec m_X0_nextDraw 2 (.getfield 49) 3 5 := ⟨by decide +kernel, rfl⟩
theorem d_X0_nextDraw_5 : x_dec m_X0_nextDraw 5 (.ldc 103) 2 7 := ⟨by decide +kernel, rfl⟩
theorem d_X0_nextDraw_7 : x_dec m_X0_nextDraw 7 (.imul) 1 8 := ⟨by decide +kernel, rfl⟩
theorem d_X0_nextDraw_8 : x_dec m_X0_nextDraw 8 (.sipush 12345) 3 11 := ⟨by decide +kernel, rfl⟩
theorem d_X0_nextDraw_11 : x_dec m_X0_nextDraw 11 (.iadd) 1 12 := ⟨by decide +kernel, rfl⟩
theorem d_X0_nextDraw_12 : x_dec m_X0_nextDraw 12 (.putfield 49) 3 15 := ⟨by decide +kernel, rfl⟩
theorem d_X0_nextDraw_15 : x_dec m_X0_nextDraw 15 (.aload_n 0) 1 16 := ⟨by decide +kernel, rfl⟩
theorem d_X0_nextDraw_16 : x_dec m_X0_nextDraw 16 (.getfield 49) 3 19 := ⟨by decide +kernel, rfl⟩
theorem d_X0_nextDraw_19 : x_dec m_X0_nextDraw 19 (.bipush 8) 2 21 := ⟨by decide +kernel, rfl⟩
theorem d_X0_nextDraw_21 : x_dec m_X0_nextDraw 21 (.iushr) 1 22 := ⟨by decide +kernel, rfl⟩
theorem d_X0_nextDraw_22 : x_dec m_X0_nextDraw 22 (.ireturn) 1 23 := ⟨by decide +kernel, rfl⟩
set_option maxHeartbeats 4000000 in
set_option maxRecDepth 100000 in
theorem c_X0_nextDraw (l : Launch) (E : x_E) (μ : x_Mem) {a : x_St} {o : Nat} (ho : x_pr o) (hR : PR a o μ) {h : Int32} (hh : μ o 11 = h) : x_Met l m_X0_nextDraw E [.ref (E.1 + o)] μ (x_I (fun z m => z = drawV a ∧ PR (upd a 6 (zF a)) o m ∧ m o 11 = h ∧ ∀ id, (id < o ∨ o + 9 ≤ id) → m id = μ id)) := by
  have ho1 : o = 1 ∨ o = 10 ∨ o = 19 := ho
  have hF : ∀ id, (id < o ∨ o + 9 ≤ id) → μ id = μ id := fun _ _ => rfl
  refine x_enter (lv := [(0, .ref (E.1 + o))]) (by decide +kernel) (Nat.le_of_ble_eq_true rfl) rfl ?_
  refine x_aload_n 0 d_X0_nextDraw_0 rfl rfl ?_
  refine x_aload_n 0 d_X0_nextDraw_1 rfl rfl ?_
  refine x_getiV (j := 12) (z := a 6) x_c0 (p_kd ho) (Nat.le_of_ble_eq_true rfl) q61 (p_n12 ho) (PR.f12 hR) d_X0_nextDraw_2 ?_
  refine x_ldc q456 d_X0_nextDraw_5 ?_
  refine x_imul d_X0_nextDraw_7 ?_
  refine x_sipush (x := 12345) d_X0_nextDraw_8 (by decide) ?_
  refine x_iadd d_X0_nextDraw_11 ?_
  refine x_putiG (j := 12) x_c0 (p_kd ho) (Nat.le_of_ble_eq_true rfl) q61 (p_n12 ho) rfl rfl d_X0_nextDraw_12 (fun μ1 eμ1 => ?_)
  have hR2 : PR (upd a 6 (((a 6) * 1103515245) + 12345)) o μ1 := PR.w12 hR eμ1
  have hH3 : μ1 o 11 = h := by rw [eμ1, upd2_at, upd_n _ _ (by decide)]; exact hh
  have hF4 : ∀ id, (id < o ∨ o + 9 ≤ id) → μ1 id = μ id := fun id hid => (show μ1 id = μ id from (by rw [eμ1, upd2_ne _ _ _ (by omega)])).trans (hF id hid)
  refine x_aload_n 0 d_X0_nextDraw_15 rfl rfl ?_
  refine x_getiV (j := 12) (z := (upd a 6 (((a 6) * 1103515245) + 12345)) 6) x_c0 (p_kd ho) (Nat.le_of_ble_eq_true rfl) q61 (p_n12 ho) (PR.f12 hR2) d_X0_nextDraw_16 ?_
  refine x_bipush (x := 8) d_X0_nextDraw_19 (by decide) ?_
  refine x_iushr d_X0_nextDraw_21 ?_
  refine x_iret rfl d_X0_nextDraw_22 ?_
  exact ⟨rfl, hR2, hH3, hF4⟩
def m_X0_spotsInUse : x_M := (yX0_spotsInUse, prog_2_method_13_code, 3, (some FieldType.int), 0, 0)
theorem v_X0_spotsInUse : x_VM m_X0_spotsInUse 0 := ⟨q657, q2, by decide +kernel, by decide +kernel, by decide +kernel⟩
theorem w_X0_spotsInUse : x_VI m_X0_spotsInUse := ⟨q655, q656⟩
theorem d_X0_spotsInUse_0 : x_dec m_X0_spotsInUse 0 (.iconst 0) 1 1 := ⟨by decide +kernel, rfl⟩
theorem d_X0_spotsInUse_1 : x_dec m_X0_spotsInUse 1 (.istore_n 1) 1 2 := ⟨by decide +kernel, rfl⟩
theorem d_X0_spotsInUse_2 : x_dec m_X0_spotsInUse 2 (.iconst 0) 1 3 := ⟨by decide +kernel, rfl⟩
theorem d_X0_spotsInUse_3 : x_dec m_X0_spotsInUse 3 (.istore_n 2) 1 4 := ⟨by decide +kernel, rfl⟩
theorem d_X0_spotsInUse_4 : x_dec m_X0_spotsInUse 4 (.iload_n 2) 1 5 := ⟨by decide +kernel, rfl⟩
theorem d_X0_spotsInUse_5 : x_dec m_X0_spotsInUse 5 (.bipush 10) 2 7 := ⟨by decide +kernel, rfl⟩
theorem d_X0_spotsInUse_7 : x_dec m_X0_spotsInUse 7 (.if_icmp .ge 22) 3 10 := ⟨by decide +kernel, rfl⟩
theorem d_X0_spotsInUse_10 : x_dec m_X0_spotsInUse 10 (.aload_n 0) 1 11 := ⟨by decide +kernel, rfl⟩
theorem d_X0_spotsInUse_11 : x_dec m_X0_spotsInUse 11 (.getfield 24) 3 14 := ⟨by decide +kernel, rfl⟩
theorem d_X0_spotsInUse_14 : x_dec m_X0_spotsInUse 14 (.iload_n 2) 1 15 := ⟨by decide +kernel, rfl⟩
theorem d_X0_spotsInUse_15 : x_dec m_X0_spotsInUse 15 (.iaload) 1 16 := ⟨by decide +kernel, rfl⟩
theorem d_X0_spotsInUse_16 : x_dec m_X0_spotsInUse 16 (.iconst (-1)) 1 17 := ⟨by decide +kernel, rfl⟩
theorem d_X0_spotsInUse_17 : x_dec m_X0_spotsInUse 17 (.if_icmp .eq 6) 3 20 := ⟨by decide +kernel, rfl⟩
theorem d_X0_spotsInUse_20 : x_dec m_X0_spotsInUse 20 (.iinc 1 1) 3 23 := ⟨by decide +kernel, rfl⟩
theorem d_X0_spotsInUse_23 : x_dec m_X0_spotsInUse 23 (.iinc 2 1) 3 26 := ⟨by decide +kernel, rfl⟩
theorem d_X0_spotsInUse_26 : x_dec m_X0_spotsInUse 26 (.goto (-22)) 3 29 := ⟨by decide +kernel, rfl⟩
theorem d_X0_spotsInUse_29 : x_dec m_X0_spotsInUse 29 (.iload_n 1) 1 30 := ⟨by decide +kernel, rfl⟩
theorem d_X0_spotsInUse_30 : x_dec m_X0_spotsInUse 30 (.ireturn) 1 31 := ⟨by decide +kernel, rfl⟩
set_option maxHeartbeats 4000000 in
set_option maxRecDepth 100000 in
theorem c_X0_spotsInUse (l : Launch) (E : x_E) (μ : x_Mem) {a : x_St} {o : Nat} (ho : x_pr o) (hR : PR a o μ) : x_Met l m_X0_spotsInUse E [.ref (E.1 + o)] μ (x_I (fun z m => z = spotsF a ∧ m = μ)) := by
  refine x_enter (lv := [(0, .ref (E.1 + o))]) (by decide +kernel) (Nat.le_of_ble_eq_true rfl) rfl ?_
  refine x_iconst (x := 0) d_X0_spotsInUse_0 (by decide) ?_
  refine x_istore_n [(1, .int 0), (0, .ref (E.1 + o))] d_X0_spotsInUse_1 rfl (Nat.le_of_ble_eq_true rfl) rfl ?_
  refine x_iconst (x := 0) d_X0_spotsInUse_2 (by decide) ?_
  refine x_istore_n [(2, .int 0), (1, .int 0), (0, .ref (E.1 + o))] d_X0_spotsInUse_3 rfl (Nat.le_of_ble_eq_true rfl) rfl ?_
  have L1 : ∀ i : Nat, i ≤ 10 → ∀ r : Int32, (r = cntTo 0 (fun j => decide (¬ a (48 + j) = -1)) i) → x_G l E m_X0_spotsInUse (x_mv E m_X0_spotsInUse (x_I (fun z m => z = spotsF a ∧ m = μ))) μ 4 [(2, .int (nI i)), (1, .int r), (0, .ref (E.1 + o))] [] := by
    refine x_down _ 10 (fun i hi3 ih2 => ?_)
    intro r hr
    refine x_iload_n 0 d_X0_spotsInUse_4 rfl rfl ?_
    refine x_bipush (x := 10) d_X0_spotsInUse_5 (by decide) ?_
    refine x_icmp_ge 29 d_X0_spotsInUse_7 (by decide) (fun c4 => ?_) (fun c4 => ?_)
    · skip
      have hN := x_ge (N := 10) c4 rfl rfl (by omega) (by omega)
      refine x_iload_n 1 d_X0_spotsInUse_29 rfl rfl ?_
      refine x_iret rfl d_X0_spotsInUse_30 ?_
      exact ⟨by rw [hr, spotsF]; congr 1; omega, rfl⟩
    · skip
      have hN := x_lt (N := 10) c4 rfl rfl (by omega) (by omega)
      refine x_aload_n 2 d_X0_spotsInUse_10 rfl rfl ?_
      refine x_getr (j := 4) (o + 5) x_c0 (p_kd ho) (Nat.le_of_ble_eq_true rfl) q40 (p_f4 ho) d_X0_spotsInUse_11 ?_
      refine x_iload_n 0 d_X0_spotsInUse_14 rfl rfl ?_
      refine x_ialdN (z := a (48 + i)) 10 i (p_k5 ho) (p_l5 ho) (by omega) (by decide) (PR.spot hR i (by omega)) d_X0_spotsInUse_15 ?_
      refine x_iconst (x := (-1)) d_X0_spotsInUse_16 (by decide) ?_
      refine x_icmp_eq 23 d_X0_spotsInUse_17 (by decide) (fun c5 => ?_) (fun c5 => ?_)
      · skip
        refine x_iinc [(2, .int (nI (i + 1))), (1, .int r), (0, .ref (E.1 + o))] 0 d_X0_spotsInUse_23 rfl (x_inc _) (Nat.le_of_ble_eq_true rfl) rfl ?_
        refine x_goto 4 d_X0_spotsInUse_26 (by decide) ?_
        exact ih2 (i + 1) (by omega) (by omega) r (by rw [hr, cntTo]; simp [c4, c5])
      · skip
        refine x_iinc [(1, .int (r + 1)), (2, .int (nI i)), (0, .ref (E.1 + o))] 1 d_X0_spotsInUse_20 rfl rfl (Nat.le_of_ble_eq_true rfl) rfl ?_
        refine x_iinc [(2, .int (nI (i + 1))), (1, .int (r + 1)), (0, .ref (E.1 + o))] 1 d_X0_spotsInUse_23 rfl (x_inc _) (Nat.le_of_ble_eq_true rfl) rfl ?_
        refine x_goto 4 d_X0_spotsInUse_26 (by decide) ?_
        exact ih2 (i + 1) (by omega) (by omega) (r + 1) (by rw [hr, cntTo]; simp [c4, c5])
  exact L1 0 (by omega) 0 (by rfl)
def m_X0_letRide : x_M := (yX0_letRide, prog_2_method_4_code, 3, none, 1, 21)
theorem v_X0_letRide : x_VM m_X0_letRide 1 := ⟨q361, q2, by decide +kernel, by decide +kernel, by decide +kernel⟩
theorem w_X0_letRide : x_VI m_X0_letRide := ⟨q359, q360⟩
theorem d_X0_letRide_0 : x_dec m_X0_letRide 0 (.iconst 0) 1 1 := ⟨by decide +kernel, rfl⟩
theorem d_X0_letRide_1 : x_dec m_X0_letRide 1 (.istore_n 2) 1 2 := ⟨by decide +kernel, rfl⟩
theorem d_X0_letRide_2 : x_dec m_X0_letRide 2 (.iload_n 2) 1 3 := ⟨by decide +kernel, rfl⟩
theorem d_X0_letRide_3 : x_dec m_X0_letRide 3 (.aload_n 0) 1 4 := ⟨by decide +kernel, rfl⟩
theorem d_X0_letRide_4 : x_dec m_X0_letRide 4 (.getfield 27) 3 7 := ⟨by decide +kernel, rfl⟩
theorem d_X0_letRide_7 : x_dec m_X0_letRide 7 (.if_icmp .ge 31) 3 10 := ⟨by decide +kernel, rfl⟩
theorem d_X0_letRide_10 : x_dec m_X0_letRide 10 (.aload_n 0) 1 11 := ⟨by decide +kernel, rfl⟩
theorem d_X0_letRide_11 : x_dec m_X0_letRide 11 (.getfield 18) 3 14 := ⟨by decide +kernel, rfl⟩
theorem d_X0_letRide_14 : x_dec m_X0_letRide 14 (.iload_n 2) 1 15 := ⟨by decide +kernel, rfl⟩
theorem d_X0_letRide_15 : x_dec m_X0_letRide 15 (.iload_n 1) 1 16 := ⟨by decide +kernel, rfl⟩
theorem d_X0_letRide_16 : x_dec m_X0_letRide 16 (.iload_n 2) 1 17 := ⟨by decide +kernel, rfl⟩
theorem d_X0_letRide_17 : x_dec m_X0_letRide 17 (.invokestatic 73) 3 20 := ⟨by decide +kernel, rfl⟩
theorem d_X0_letRide_20 : x_dec m_X0_letRide 20 (.ifCond .eq 7) 3 23 := ⟨by decide +kernel, rfl⟩
theorem d_X0_letRide_23 : x_dec m_X0_letRide 23 (.iconst (-1)) 1 24 := ⟨by decide +kernel, rfl⟩
theorem d_X0_letRide_24 : x_dec m_X0_letRide 24 (.goto 7) 3 27 := ⟨by decide +kernel, rfl⟩
theorem d_X0_letRide_27 : x_dec m_X0_letRide 27 (.aload_n 0) 1 28 := ⟨by decide +kernel, rfl⟩
theorem d_X0_letRide_28 : x_dec m_X0_letRide 28 (.getfield 31) 3 31 := ⟨by decide +kernel, rfl⟩
theorem d_X0_letRide_31 : x_dec m_X0_letRide 31 (.iastore) 1 32 := ⟨by decide +kernel, rfl⟩
theorem d_X0_letRide_32 : x_dec m_X0_letRide 32 (.iinc 2 1) 3 35 := ⟨by decide +kernel, rfl⟩
theorem d_X0_letRide_35 : x_dec m_X0_letRide 35 (.goto (-33)) 3 38 := ⟨by decide +kernel, rfl⟩
theorem d_X0_letRide_38 : x_dec m_X0_letRide 38 (.return_) 1 39 := ⟨by decide +kernel, rfl⟩
set_option maxHeartbeats 4000000 in
set_option maxRecDepth 100000 in
theorem c_X0_letRide (l : Launch) (E : x_E) (μ : x_Mem) {a : x_St} {o : Nat} (ho : x_pr o) (hR : PR a o μ) (hI : WF a) {n : Nat} (hn : n < 65536) : x_Met l m_X0_letRide E [.ref (E.1 + o), .int (nI n)] μ (x_J (fun m => PR (rideTo a n.testBit (pn a)) o m ∧ ∀ id, id ≠ o + 3 → m id = μ id)) := by
  have ho1 : o = 1 ∨ o = 10 ∨ o = 19 := ho
  have hn7 := hI.2.1
  have hpn := hI.1
  refine x_enter (lv := [(0, .ref (E.1 + o)), (1, .int (nI n))]) (by decide +kernel) (Nat.le_of_ble_eq_true rfl) rfl ?_
  refine x_iconst (x := 0) d_X0_letRide_0 (by decide) ?_
  refine x_istore_n [(2, .int 0), (0, .ref (E.1 + o)), (1, .int (nI n))] d_X0_letRide_1 rfl (Nat.le_of_ble_eq_true rfl) rfl ?_
  have L1 : ∀ i : Nat, i ≤ pn a → ∀ μ4 : x_Mem, (PR (rideTo a n.testBit i) o μ4) → (∀ id, id ≠ o + 3 → μ4 id = μ id) → x_G l E m_X0_letRide (x_mv E m_X0_letRide (x_J (fun m => PR (rideTo a n.testBit (pn a)) o m ∧ ∀ id, id ≠ o + 3 → m id = μ id))) μ4 2 [(2, .int (nI i)), (0, .ref (E.1 + o)), (1, .int (nI n))] [] := by
    refine x_down _ (pn a) (fun i hi3 ih2 => ?_)
    intro μ4 hR1 hF1
    refine x_iload_n 0 d_X0_letRide_2 rfl rfl ?_
    refine x_aload_n 1 d_X0_letRide_3 rfl rfl ?_
    refine x_getiV (j := 5) (z := nI (pn a)) x_c0 (p_kd ho) (Nat.le_of_ble_eq_true rfl) q42 (p_n5 ho) (((PR.f5 hR1).trans ((fun j hj => rideTo_same a n.testBit i j (by omega) (by omega)) 7 (by omega))).trans hn7) d_X0_letRide_4 ?_
    refine x_icmp_ge 38 d_X0_letRide_7 (by decide) (fun c5 => ?_) (fun c5 => ?_)
    · skip
      have hN := x_ge c5 rfl rfl (by omega) (by omega)
      refine x_vret rfl d_X0_letRide_38 ?_
      have e9 : i = pn a := by omega
      subst e9
      exact ⟨hR1, hF1⟩
    · skip
      have hN := x_lt c5 rfl rfl (by omega) (by omega)
      refine x_aload_n 1 d_X0_letRide_10 rfl rfl ?_
      refine x_getr (j := 2) (o + 3) x_c0 (p_kd ho) (Nat.le_of_ble_eq_true rfl) q36 (p_f2 ho) d_X0_letRide_11 ?_
      refine x_iload_n 0 d_X0_letRide_14 rfl rfl ?_
      refine x_iload_n 2 d_X0_letRide_15 rfl rfl ?_
      refine x_iload_n 0 d_X0_letRide_16 rfl rfl ?_
      refine x_csNp (as := [.int (nI n), .int (nI i)]) (c_X3_has l E μ4 (n := n) (p := i) (by omega) (by omega)) v_X3_has q363 rfl rfl rfl rfl ⟨Nat.le_of_ble_eq_true rfl, Nat.le_of_ble_eq_true rfl⟩ rfl (Nat.le_of_ble_eq_true rfl) d_X0_letRide_17 ?_
      refine x_ifb_eq 27 d_X0_letRide_20 (by decide) (fun c6 => ?_) (fun c6 => ?_)
      · skip
        refine x_aload_n 1 d_X0_letRide_27 rfl rfl ?_
        refine x_getiV (j := 6) (z := a 1) x_c0 (p_kd ho) (Nat.le_of_ble_eq_true rfl) q45 (p_n6 ho) ((PR.f6 hR1).trans ((fun j hj => rideTo_same a n.testBit i j (by omega) (by omega)) 1 (by omega))) d_X0_letRide_28 ?_
        refine x_iastNG 8 i (p_k3 ho) (p_l3 ho) (by omega) (by decide) d_X0_letRide_31 (fun μ7 eμ7 => ?_)
        have hR8 : PR (upd (rideTo a n.testBit i) (24 + 3 * i + 1) (a 1)) o μ7 := PR.a3 hR1 eμ7 (by omega)
        have hF9 : ∀ id, id ≠ o + 3 → μ7 id = μ id := fun id hid => (show μ7 id = μ4 id from (by rw [eμ7, upd2_ne _ _ _ (by omega)])).trans (hF1 id hid)
        refine x_iinc [(2, .int (nI (i + 1))), (0, .ref (E.1 + o)), (1, .int (nI n))] 0 d_X0_letRide_32 rfl (x_inc _) (Nat.le_of_ble_eq_true rfl) rfl ?_
        refine x_goto 2 d_X0_letRide_35 (by decide) ?_
        exact ih2 (i + 1) (by omega) (by omega) μ7 (by rw [rideTo, if_neg (by rw [c6]; decide)]; exact hR8) hF9
      · skip
        refine x_iconst (x := (-1)) d_X0_letRide_23 (by decide) ?_
        refine x_goto 31 d_X0_letRide_24 (by decide) ?_
        refine x_iastNG 8 i (p_k3 ho) (p_l3 ho) (by omega) (by decide) d_X0_letRide_31 (fun μ10 eμ10 => ?_)
        have hR11 : PR (upd (rideTo a n.testBit i) (24 + 3 * i + 1) (-1)) o μ10 := PR.a3 hR1 eμ10 (by omega)
        have hF12 : ∀ id, id ≠ o + 3 → μ10 id = μ id := fun id hid => (show μ10 id = μ4 id from (by rw [eμ10, upd2_ne _ _ _ (by omega)])).trans (hF1 id hid)
        refine x_iinc [(2, .int (nI (i + 1))), (0, .ref (E.1 + o)), (1, .int (nI n))] 0 d_X0_letRide_32 rfl (x_inc _) (Nat.le_of_ble_eq_true rfl) rfl ?_
        refine x_goto 2 d_X0_letRide_35 (by decide) ?_
        exact ih2 (i + 1) (by omega) (by omega) μ10 (by rw [rideTo, if_pos c6]; exact hR11) hF12
  exact L1 0 (by omega) μ hR (fun _ _ => rfl)
end
section
/-! THE WHOLE STATE, and how the class holds it -/
/-- line, image, whether one is kept, how many bytes, bytes, bits of sheets, their sizes, their numbers, findings -/
abbrev x_SG : Type := x_St × x_St × Bool × Nat × (Nat → Int32) × (Nat → Int32) × (Nat → Nat) × (Nat → Nat → Int32) × (Nat → Int32)
def gA (g : x_SG) : x_St := g.1
def gK (g : x_SG) : x_St := g.2.1
def gP (g : x_SG) : Bool := g.2.2.1
def gT (g : x_SG) : Nat := g.2.2.2.1
def gB (g : x_SG) : Nat → Int32 := g.2.2.2.2.1
def gSb (g : x_SG) : Nat → Int32 := g.2.2.2.2.2.1
def gSz (g : x_SG) : Nat → Nat := g.2.2.2.2.2.2.1
def gSn (g : x_SG) : Nat → Nat → Int32 := g.2.2.2.2.2.2.2.1
def gF (g : x_SG) : Nat → Int32 := g.2.2.2.2.2.2.2.2
def sA (g : x_SG) (a : x_St) : x_SG := (a, g.2)
def sF (g : x_SG) (f : Nat → Int32) : x_SG := (gA g, gK g, gP g, gT g, gB g, gSb g, gSz g, gSn g, f)
def sK (g : x_SG) (k : x_St) (p : Bool) : x_SG := (gA g, k, p, gT g, gB g, gSb g, gSz g, gSn g, gF g)
def sT (g : x_SG) (n : Nat) (b : Nat → Int32) : x_SG := (gA g, gK g, gP g, n, b, gSb g, gSz g, gSn g, gF g)
def sS (g : x_SG) (b : Nat → Int32) (z : Nat → Nat) (n : Nat → Nat → Int32) : x_SG := (gA g, gK g, gP g, gT g, gB g, b, z, n, gF g)
/-- the findings by their number -/
def cst (i : Nat) : Int32 := [-1000001, -1000002, -1000003, -1000004, -1000005, -1000006, -1000007].getD i 0
def fnd (g : x_SG) (i : Nat) : x_SG := sF g (upd (gF g) i (gF g i + 1))
def fin (g : x_SG) (i : Nat) : Int32 × x_SG := (cst i, fnd g i)
def inR (v lo hi : Int32) : Bool := decide (lo ≤ v ∧ v ≤ hi)
def isP (a : x_St) (p : Int32) : Bool := decide (0 ≤ p ∧ p < a 7)
theorem inR_nat {v : Int32} {n : Nat} (hn : n < 2 ^ 31) (h : inR v 0 (nI n) = true) : ∃ k, k ≤ n ∧ v = nI k := by
  obtain ⟨h1, h2⟩ := of_decide_eq_true h
  obtain ⟨k, hk, e⟩ := nI_of (Int32.not_lt.mpr h1)
  rw [e] at h2
  exact ⟨k, (nI_leI hk hn).mp h2, e⟩
theorem inR_of {k n : Nat} (hn : n < 2 ^ 31) (h : k ≤ n) : inR (nI k) 0 (nI n) = true := decide_eq_true ⟨nI_pos' (by omega), nI_le h hn⟩
theorem isP_nat {a : x_St} {p : Int32} (hI : WF a) (h : isP a p = true) : ∃ k, k < pn a ∧ p = nI k := by
  obtain ⟨h1, h2⟩ := of_decide_eq_true h
  obtain ⟨k, hk, e⟩ := nI_of (Int32.not_lt.mpr h1)
  have := hI.1
  rw [e, hI.2.1] at h2
  exact ⟨k, (nI_ltI hk (by omega)).mp h2, e⟩
theorem lt_le {x : Int32} {n : Nat} (hn : n + 1 < 2 ^ 31) : x < nI (n + 1) ↔ x ≤ nI n := by
  rw [Int32.lt_iff_toInt_lt, Int32.le_iff_toInt_le, nI_toInt hn, nI_toInt (by omega)]
  omega
/-- the parts of it, beside line and findings, as the class holds them -/
def XR (g : x_SG) (μ : x_Mem) : Prop := (gP g = true → PR (gK g) 19 μ ∧ μ 19 11 = gK g 0) ∧ μ 0 3 = x_b (gP g) ∧ μ 28 1 = nI (gT g) ∧ (∀ j, j < gT g → μ 29 j = (gB g j).toInt8.toInt32) ∧
  (∀ s, s < 4 → μ (33 + 2 * s) 0 = gSb g s) ∧ (∀ s, s < 4 → μ (33 + 2 * s) 1 = nI (gSz g s)) ∧ ∀ s, s < 4 → ∀ j, j < 40 → μ (33 + 2 * s + 1) j = gSn g s j
def XD (f : Nat → Int32) (μ : x_Mem) : Prop := ∀ j, j < 7 → μ 32 j = f j
def XS (g : x_SG) (μ : x_Mem) : Prop := PR (gA g) 1 μ ∧ μ 1 11 = gA g 0 ∧ XR g μ ∧ XD (gF g) μ
theorem XR.cg {g : x_SG} {μ μ' : x_Mem} (h : XR g μ) (e : ∀ id, (id = 0 ∨ (19 ≤ id ∧ id < 25) ∨ id = 28 ∨ id = 29 ∨ (33 ≤ id ∧ id < 41)) → μ' id = μ id) : XR g μ' := by
  obtain ⟨h1, h2, h3, h4, h5, h6, h7⟩ := h
  refine ⟨fun z => ⟨(h1 z).1.cg (fun id hid => e id (by omega)), ?_⟩, ?_, ?_, fun j hj => ?_, fun s hs => ?_, fun s hs => ?_, fun s hs j hj => ?_⟩
  · rw [e 19 (by omega)]; exact (h1 z).2
  · rw [e 0 (by omega)]; exact h2
  · rw [e 28 (by omega)]; exact h3
  · rw [e 29 (by omega)]; exact h4 j hj
  · rw [e _ (by omega)]; exact h5 s hs
  · rw [e _ (by omega)]; exact h6 s hs
  · rw [e _ (by omega)]; exact h7 s hs j hj
theorem XD.cg {f : Nat → Int32} {μ μ' : x_Mem} (h : XD f μ) (e : ∀ id, id = 32 → μ' id = μ id) : XD f μ' := fun j hj => by rw [e 32 rfl]; exact h j hj
theorem XD.w {f : Nat → Int32} {μ μ' : x_Mem} {i : Nat} {x : Int32} (h : XD f μ) (e : μ' = upd2 μ 32 i x) : XD (upd f i x) μ' := by
  subst e
  intro j hj
  rw [upd2_at]
  by_cases q : j = i
  · subst q; rw [upd_s, upd_s]
  · rw [upd_n _ _ q, upd_n _ _ q]; exact h j hj
-- the same state but for a part
theorem XR.a {g : x_SG} {μ : x_Mem} (h : XR g μ) (a : x_St) : XR (sA g a) μ := h
theorem XR.f {g : x_SG} {μ : x_Mem} (h : XR g μ) (f : Nat → Int32) : XR (sF g f) μ := h
theorem XS.fin {g : x_SG} {μ' : x_Mem} {i : Nat} (h1 : PR (gA g) 1 μ') (h2 : μ' 1 11 = gA g 0) (h3 : XR g μ') (h4 : XD (upd (gF g) i (gF g i + 1)) μ') : XS (fnd g i) μ' := ⟨h1, h2, h3, h4⟩
theorem XS.line {g : x_SG} {μ' : x_Mem} {a : x_St} (h1 : PR a 1 μ') (h2 : μ' 1 11 = a 0) (h3 : XR g μ') (h4 : XD (gF g) μ') : XS (sA g a) μ' := ⟨h1, h2, h3, h4⟩
/-- what always holds -/
def LI (a : x_St) : Prop := WF a ∧ (∀ k, k < 16 → ∃ n, n < 1000 ∧ a (8 + k) = nI n) ∧ (∀ j, j < 10 → a (48 + j) = -1 ∨ ∃ p, p < pn a ∧ a (48 + j) = nI p) ∧ ∃ h, h < 100000 ∧ a 0 = nI h
def Inv (g : x_SG) : Prop := LI (gA g) ∧ (gP g = true → LI (gK g)) ∧ gT g ≤ 120 ∧ (∀ j, j < gT g → ∃ b, b < 256 ∧ gB g j = nI b) ∧ (∀ s, s < 4 → gSz g s ≤ 40) ∧ (∀ s, s < 4 → gSb g s = 0 ∨ gSb g s = 8 ∨ gSb g s = 16 ∨ gSb g s = 32)
/-- what the calls mean -/
def F_need (g : x_SG) (k v : Int32) : Int32 × x_SG := if inR k 0 15 = true ∧ inR v 0 999 = true then (gA g (8 + k.toNatClampNeg), sA g (upd (gA g) (8 + k.toNatClampNeg) v)) else fin g 0
def F_stretch (g : x_SG) (k w : Int32) : Int32 × x_SG :=
  if inR k 0 15 = true then (if w = 0 then (gA g (8 + k.toNatClampNeg), g) else if w = 1 then (sumF (gA g) k, g) else if w = 2 then (x_b (thereB (gA g) k.toNatClampNeg), g) else fin g 0) else fin g 0
def F_person (g : x_SG) (k w : Int32) : Int32 × x_SG :=
  if inR k 0 6 = true ∧ inR w (-1) 16 = true then (if pn (gA g) < 8 then (nI (pn (gA g)), sA g (comeF (gA g) k w 50)) else fin g 1) else fin g 0
def F_of (g : x_SG) (p w : Int32) : Int32 × x_SG :=
  if isP (gA g) p = true then (if w = 0 then (gA g (24 + 3 * p.toNatClampNeg), g) else if w = 1 then (gA g (24 + 3 * p.toNatClampNeg + 1), g) else if w = 2 then (gA g (24 + 3 * p.toNatClampNeg + 2), g) else if w = 3 then (faithF (gA g) p.toNatClampNeg, g) else fin g 0) else fin g 0
def setL (g : x_SG) (j : Nat) (v : Int32) : Int32 × x_SG := (gA g j, sA g (upd (gA g) j v))
def F_change (g : x_SG) (p w v : Int32) : Int32 × x_SG :=
  if isP (gA g) p = true then
    (if w = 0 ∧ inR v 0 6 = true then setL g (24 + 3 * p.toNatClampNeg) v
     else if w = 1 ∧ inR v (-1) 16 = true then setL g (24 + 3 * p.toNatClampNeg + 1) v
     else if w = 2 ∧ inR v 0 99 = true then setL g (24 + 3 * p.toNatClampNeg + 2) v else fin g 0)
  else fin g 0
def F_set (g : x_SG) (w v : Int32) : Int32 × x_SG :=
  if w = 0 ∧ inR v 0 16 = true then setL g 1 v else if w = 1 ∧ inR v 0 1 = true then setL g 2 v else if w = 2 ∧ inR v 0 20 = true then setL g 3 v else if w = 3 ∧ inR v 0 20 = true then setL g 4 v else fin g 0
def F_board (g : x_SG) (p : Int32) : Int32 × x_SG :=
  if isP (gA g) p = true then (if gA g (24 + 3 * p.toNatClampNeg + 1) = gA g 1 then (1, sA g (upd (gA g) (24 + 3 * p.toNatClampNeg + 1) (-1))) else fin g 4) else fin g 0
def F_leave (g : x_SG) (p : Int32) : Int32 × x_SG :=
  if isP (gA g) p = true then (if gA g (24 + 3 * p.toNatClampNeg + 1) = -1 then (gA g 1, sA g (upd (gA g) (24 + 3 * p.toNatClampNeg + 1) (gA g 1))) else fin g 4) else fin g 0
def F_go (g : x_SG) (n : Int32) : Int32 × x_SG :=
  if inR n 1 60 = true then (if 99999 < gA g 0 + n then fin g 4 else (hoursF (gA g) n.toNatClampNeg 1, sA g (hoursF (gA g) n.toNatClampNeg))) else fin g 0
def F_now (g : x_SG) (w : Int32) : Int32 × x_SG :=
  if w = 0 then (gA g 0, g) else if w = 1 then (gA g 1, g) else if w = 2 then (aboardF (gA g), g) else if w = 3 then (thereF (gA g), g) else if w = 4 then (gA g 5, g) else if w = 5 then (gA g 2, g) else if w = 6 then (beliefsF (gA g), g) else fin g 0
def F_ahead (g : x_SG) (n : Int32) : Int32 × x_SG := if inR n 0 100 = true then (hoursF (gA g) n.toNatClampNeg 1, g) else fin g 0
def F_believes (g : x_SG) (p n : Int32) : Int32 × x_SG := if isP (gA g) p = true ∧ inR n 0 100 = true then (hoursF (gA g) n.toNatClampNeg (24 + 3 * p.toNatClampNeg + 2), g) else fin g 0
/-- the first of n with f, or n -/
def firstN (f : Nat → Bool) : Nat → Nat → Nat
  | i, 0 => i
  | i, n + 1 => if f i = true then i else firstN f (i + 1) n
def orN (g : x_SG) (n k : Nat) : Int32 × x_SG := if k < n then (nI k, g) else fin g 3
def F_when (g : x_SG) (y : Int32) : Int32 × x_SG := if inR y 0 16 = true then orN g 101 (firstN (fun h => decide (hoursF (gA g) h 1 = y)) 0 101) else fin g 0
def F_falls (g : x_SG) : Int32 × x_SG := orN g 101 (firstN (fun h => fallB (hoursF (gA g) h)) 0 101)
def F_settles (g : x_SG) : Int32 × x_SG := orN g 101 (firstN (fun h => !movedB (hoursF (gA g) h)) 0 101)
def F_there (g : x_SG) (n : Int32) : Int32 × x_SG := if inR n 0 100 = true then (thereF (hoursF (gA g) n.toNatClampNeg), g) else fin g 0
/-- the first with the greatest -/
def bestTo (f : Nat → Int32) : Nat → Int32 × Int32
  | 0 => (0, -1)
  | n + 1 => if (bestTo f n).2 < f n then (nI n, f n) else bestTo f n
def F_kindFor (g : x_SG) (p n : Int32) : Int32 × x_SG := if isP (gA g) p = true ∧ inR n 0 60 = true then ((bestTo (fun k => hoursF (upd (gA g) (24 + 3 * p.toNatClampNeg) (nI k)) n.toNatClampNeg 1) 7).1, g) else fin g 0
def F_seat (g : x_SG) (p n : Int32) : Int32 × x_SG := if isP (gA g) p = true ∧ inR n 0 60 = true then ((bestTo (fun k => hoursF (upd (gA g) (24 + 3 * p.toNatClampNeg + 1) (nI k)) n.toNatClampNeg 1) 17).1, g) else fin g 0
/-- where it gets to with a set aboard -/
def rideY (a : x_St) (n : Nat) (s : Nat) : Int32 := hoursF (rideTo a s.testBit (pn a)) n 1
def isSet (a : x_St) (s : Int32) : Bool := decide (0 ≤ s ∧ s < nI (2 ^ pn a))
def F_with (g : x_SG) (s n : Int32) : Int32 × x_SG := if isSet (gA g) s = true ∧ inR n 0 60 = true then (rideY (gA g) n.toNatClampNeg s.toNatClampNeg, g) else fin g 0
def popN : Nat → Nat → Nat
  | 0, _ => 0
  | n + 1, s => popN n s + (if s.testBit n = true then 1 else 0)
/-- of those below n with f the one of fewest bits, of several the least -/
def fewTo (f : Nat → Bool) : Nat → Option Nat
  | 0 => none
  | n + 1 => match fewTo f n with
    | none => if f n = true then some n else none
    | some b => if popN 8 n < popN 8 b ∧ f n = true then some n else some b
def orO (g : x_SG) (k : Option Nat) : Int32 × x_SG := match k with
  | some k => (nI k, g)
  | none => fin g 3
def F_fewest (g : x_SG) (y n : Int32) : Int32 × x_SG := if inR y 0 16 = true ∧ inR n 0 60 = true then orO g (fewTo (fun s => decide (y ≤ rideY (gA g) n.toNatClampNeg s)) (2 ^ pn (gA g))) else fin g 0
def F_farthest (g : x_SG) (n : Int32) : Int32 × x_SG := if inR n 0 60 = true then ((bestTo (rideY (gA g) n.toNatClampNeg) (2 ^ pn (gA g))).1, g) else fin g 0
def outTo (a : x_St) (n : Nat) : Nat → Option Nat × Int32
  | 0 => (none, -1)
  | p + 1 => if a (24 + 3 * p + 1) = -1 ∧ (outTo a n p).2 < hoursF (upd a (24 + 3 * p + 1) (a 1)) n 1 then (some p, hoursF (upd a (24 + 3 * p + 1) (a 1)) n 1) else outTo a n p
def F_without (g : x_SG) (n : Int32) : Int32 × x_SG := if inR n 0 60 = true then orO g (outTo (gA g) n.toNatClampNeg (pn (gA g))).1 else fin g 0
def F_persuade (g : x_SG) (p y n : Int32) : Int32 × x_SG :=
  if isP (gA g) p = true ∧ inR y 0 16 = true ∧ inR n 0 60 = true then orN g 100 (firstN (fun b => decide (y ≤ hoursF (upd (gA g) (24 + 3 * p.toNatClampNeg + 2) (nI b)) n.toNatClampNeg 1)) 0 100) else fin g 0
/-- the greatest below n with f -/
def lastTo (f : Nat → Bool) : Nat → Option Nat
  | 0 => none
  | n + 1 => if f n = true then some n else lastTo f n
def F_bears (g : x_SG) (k n : Int32) : Int32 × x_SG :=
  if inR k 0 15 = true ∧ inR n 0 60 = true then orO g (lastTo (fun v => decide (k < hoursF (upd (gA g) (8 + k.toNatClampNeg) (nI v)) n.toNatClampNeg 1)) 1000) else fin g 0
/-- sheets -/
def isSh (s : Int32) : Bool := inR s 0 3
def fitB (a : x_St) (z : Nat → Int32) (any : Bool) (j : Nat) : Bool := decide (z j = hoursF a j 1) || (any && decide (z j = -1))
def fitsB (a : x_St) (z : Nat → Int32) (any : Bool) (n : Nat) : Bool := decide (firstN (fun j => !fitB a z any j) 0 n = n)
def shO (g : x_SG) (s : Int32) (k : Nat → Int32 × x_SG) : Int32 × x_SG := if isSh s = true then (if gSb g s.toNatClampNeg = 0 then fin g 5 else k s.toNatClampNeg) else fin g 0
def F_kinds (g : x_SG) (s p : Int32) : Int32 × x_SG := shO g s (fun i => if isP (gA g) p = true then (setTo (fun k => fitsB (upd (gA g) (24 + 3 * p.toNatClampNeg) (nI k)) (gSn g i) true (gSz g i)) 7, g) else fin g 0)
def F_beliefs (g : x_SG) (s p : Int32) : Int32 × x_SG := shO g s (fun i => if isP (gA g) p = true then (cntTo 0 (fun k => fitsB (upd (gA g) (24 + 3 * p.toNatClampNeg + 2) (nI k)) (gSn g i) true (gSz g i)) 100, g) else fin g 0)
def F_least (g : x_SG) (s p : Int32) : Int32 × x_SG := shO g s (fun i => if isP (gA g) p = true then orN g 100 (firstN (fun k => fitsB (upd (gA g) (24 + 3 * p.toNatClampNeg + 2) (nI k)) (gSn g i) true (gSz g i)) 0 100) else fin g 0)
def F_worth (g : x_SG) : Int32 × x_SG := (sumTo (fun k => if thereB (gA g) k = true then gA g (8 + k) else 0) 16, g)
def F_hangs (g : x_SG) (p : Int32) : Int32 × x_SG := if isP (gA g) p = true then (cntTo 0 (fun k => thereB (gA g) k && decide (sumF (gA g) (nI k) - bringsF (gA g) p.toNatClampNeg (nI k) < gA g (8 + k))) 16, g) else fin g 0
/-- without these none of what is there would be -/
def restF (a : x_St) (s k : Nat) : Int32 := sumTo (fun p => if s.testBit p = true then 0 else bringsF a p (nI k)) (pn a)
def endsB (a : x_St) (s : Nat) : Bool := !anyTo (fun k => thereB a k && decide (0 < a (8 + k)) && decide (a (8 + k) ≤ restF a s k)) 16
def F_run (g : x_SG) : Int32 × x_SG := ((match fewTo (endsB (gA g)) (2 ^ pn (gA g)) with
  | some k => nI k
  | none => -1), g)
def goldF (a : x_St) : Nat → x_St
  | 0 => a
  | n + 1 => hourF (upd (upd (goldF a n) 6 (zF (goldF a n))) (8 + (drawV (goldF a n)).toNatClampNeg % 16) (maxI 0 (goldF a n (8 + (drawV (goldF a n)).toNatClampNeg % 16) - 10)))
def F_gold (g : x_SG) (n : Int32) : Int32 × x_SG := if inR n 1 20 = true then (if 99999 < gA g 0 + n then fin g 4 else (goldF (gA g) n.toNatClampNeg 1, sA g (goldF (gA g) n.toNatClampNeg))) else fin g 0
def F_seed (g : x_SG) (v : Int32) : Int32 × x_SG := setL g 6 v
def F_hold (g : x_SG) (j p : Int32) : Int32 × x_SG := if inR j 0 9 = true ∧ (p = -1 ∨ isP (gA g) p = true) then (1, sA g (upd (gA g) (48 + j.toNatClampNeg) p)) else fin g 0
def underB (k t : Int32) : Bool := decide (t = 0) || decide (t = k) || (decide (t = 1) && decide (k = 6)) || (decide (t = 2) && (decide (k = 3) || decide (k = 4))) || (decide (t = 3) && decide (k = 4))
def F_as (g : x_SG) (j k : Int32) : Int32 × x_SG :=
  if inR j 0 9 = true ∧ inR k 0 6 = true then (if gA g (48 + j.toNatClampNeg) = -1 then fin g 5 else if underB (gA g (24 + 3 * (gA g (48 + j.toNatClampNeg)).toNatClampNeg)) k = true then (gA g (48 + j.toNatClampNeg), g) else fin g 2) else fin g 0
def F_image (g : x_SG) : Int32 × x_SG := (1, sK g (gA g) true)
def F_undo (g : x_SG) : Int32 × x_SG := if gP g = true then (gK g 0, sA g (gK g)) else fin g 3
def F_tear (g : x_SG) : Int32 × x_SG := (x_b (gP g), sK g (gK g) false)
def F_wipe (g : x_SG) : Int32 × x_SG := (nI (gT g), sT g 0 (gB g))
/-- n bytes come behind -/
def feedTo (g : x_SG) (v : Int32) (n : Nat) : Nat → Nat → Int32 := fun k j => if gT g ≤ j ∧ j < gT g + k then ((v >>> (nI (8 * (n - 1 - (j - gT g))) &&& 31)) &&& 255) else gB g j
def F_feed (g : x_SG) (v n : Int32) : Int32 × x_SG := if inR n 1 4 = true then (if 120 < gT g + n.toNatClampNeg then fin g 1 else (nI (gT g + n.toNatClampNeg), sT g (gT g + n.toNatClampNeg) (feedTo g v n.toNatClampNeg n.toNatClampNeg))) else fin g 0
def upn (f : Nat → Nat) (k x : Nat) : Nat → Nat := fun j => if j = k then x else f j
def upr (f : Nat → Nat → Int32) (k : Nat) (r : Nat → Int32) : Nat → Nat → Int32 := fun j => if j = k then r else f j
def F_sheet (g : x_SG) (s b n : Int32) : Int32 × x_SG :=
  if isSh s = true ∧ (b = 0 ∨ b = 8 ∨ b = 16 ∨ b = 32) then (if n < 0 then fin g 6 else if 40 < n then fin g 0 else
    (if b = 0 then 0 else n, sS g (upd (gSb g) s.toNatClampNeg b) (upn (gSz g) s.toNatClampNeg (if b = 0 then 0 else n.toNatClampNeg)) (upr (gSn g) s.toNatClampNeg (fun _ => 0)))) else fin g 0
def lowF (b v : Int32) : Int32 := if b = 8 then v.toInt8.toInt32 else if b = 16 then v.toInt16.toInt32 else v
def F_write (g : x_SG) (s i v : Int32) : Int32 × x_SG := shO g s (fun q => if 0 ≤ i ∧ i < nI (gSz g q) then (1, sS g (gSb g) (gSz g) (upr (gSn g) q (upd (gSn g q) i.toNatClampNeg (lowF (gSb g q) v)))) else fin g 0)
def rowOk (z : Nat) (f n : Int32) : Bool := decide (0 ≤ f ∧ 0 ≤ n ∧ n ≤ nI z - f)
def F_copy (g : x_SG) (s f t d n : Int32) : Int32 × x_SG :=
  if isSh s = true ∧ isSh t = true then
    (if gSb g s.toNatClampNeg = 0 ∨ gSb g t.toNatClampNeg = 0 then fin g 5
     else if gSb g s.toNatClampNeg = gSb g t.toNatClampNeg then
       (if rowOk (gSz g s.toNatClampNeg) f n = true ∧ rowOk (gSz g t.toNatClampNeg) d n = true then
          (n, sS g (gSb g) (gSz g) (upr (gSn g) t.toNatClampNeg (va_cpy (gSn g s.toNatClampNeg) (gSn g t.toNatClampNeg) f.toNatClampNeg d.toNatClampNeg n.toNatClampNeg)))
        else fin g 0)
     else fin g 2)
  else fin g 0
def loadTo (a : x_St) (z : Nat → Int32) (n : Nat) : x_St := fun j => if 8 ≤ j ∧ j < 8 + n then z (j - 8) else a j
def F_load (g : x_SG) (s : Int32) : Int32 × x_SG := shO g s (fun i => let n := firstN (fun j => !(decide (j < 16) && inR (gSn g i j) 0 999)) 0 (gSz g i); (nI n, sA g (loadTo (gA g) (gSn g i) n)))
def F_judge (g : x_SG) (s : Int32) : Int32 × x_SG := shO g s (fun i => let n := firstN (fun j => !fitB (gA g) (gSn g i) false j) 0 (gSz g i); (if n < gSz g i then nI n + 1 else 0, g))
def F_count (g : x_SG) (w : Int32) : Int32 × x_SG :=
  if w = 0 then (gA g 0, g) else if w = 1 then (gA g 7, g) else if w = 2 then (cntTo 0 (fun p => decide (gA g (24 + 3 * p + 1) = -1)) (pn (gA g)), g) else if w = 3 then (cntTo 0 (thereB (gA g)) 16, g) else if w = 4 then (beliefsF (gA g), g) else if w = 5 then (nI (gT g), g) else if w = 6 then (gA g 6, g) else if w = 7 then (spotsF (gA g), g) else fin g 0
def F_status (g : x_SG) (w : Int32) : Int32 × x_SG := if inR w (-1) 6 = true then (sumTo (fun k => if w < 0 ∨ w = nI k then gF g k else 0) 7, g) else fin g 0
theorem inR_t {v : Int32} {n : Nat} (hn : n + 1 < 2 ^ 31) (h0 : ¬ v < 0) (h : ¬ nI (n + 1) ≤ v) : inR v 0 (nI n) = true := decide_eq_true ⟨Int32.not_lt.mp h0, (lt_le hn).mp (Int32.not_le.mp h)⟩
theorem inR_f1 {v hi : Int32} (h0 : v < 0) : inR v 0 hi = false := decide_eq_false (fun h => Int32.not_le.mpr h0 h.1)
theorem inR_f2 {v : Int32} {n : Nat} (hn : n + 1 < 2 ^ 31) (h : nI (n + 1) ≤ v) : inR v 0 (nI n) = false := decide_eq_false (fun z => Int32.not_lt.mpr h ((lt_le hn).mpr z.2))
theorem inR_w1 {v lo hi : Int32} (h : v < lo) : inR v lo hi = false := decide_eq_false (fun z => Int32.not_le.mpr h z.1)
theorem inR_w2 {v lo hi : Int32} (h : hi < v) : inR v lo hi = false := decide_eq_false (fun z => Int32.not_le.mpr h z.2)
theorem inR_w3 {v lo hi : Int32} (h : ¬ v < lo) (h2 : ¬ hi < v) : inR v lo hi = true := decide_eq_true ⟨Int32.not_lt.mp h, Int32.not_lt.mp h2⟩
theorem isP_t {a : x_St} {v : Int32} (h0 : ¬ v < 0) (h : ¬ a 7 ≤ v) : isP a v = true := decide_eq_true ⟨Int32.not_lt.mp h0, Int32.not_le.mp h⟩
theorem isP_f1 {a : x_St} {v : Int32} (h0 : v < 0) : isP a v = false := decide_eq_false (fun z => Int32.not_le.mpr h0 z.1)
theorem isP_f2 {a : x_St} {v : Int32} (h : a 7 ≤ v) : isP a v = false := decide_eq_false (fun z => Int32.not_le.mpr z.2 h)
end
section
/-! PURE 3: single numbers changed keep the bounds; firsts, bests, fewest; sets as bits -/
theorem WF.upG {a : x_St} (h : WF a) {j : Nat} {x : Int32} (h7 : j ≠ 7) (hk : ∀ p, p < 8 → j = 24 + 3 * p → ∃ k, k < 7 ∧ x = nI k) (hw : ∀ p, p < 8 → j = 24 + 3 * p + 1 → x = -1 ∨ ∃ w, w < 17 ∧ x = nI w) (hb : ∀ p, p < 8 → j = 24 + 3 * p + 2 → ∃ b, b < 100 ∧ x = nI b)
    (h1 : j = 1 → ∃ t, t < 17 ∧ x = nI t) (h2 : j = 2 → x = 0 ∨ x = 1) (h3 : j = 3 → ∃ t, t < 21 ∧ x = nI t) (h4 : j = 4 → ∃ t, t < 21 ∧ x = nI t) (h5 : j = 5 → ∃ t, t < 100000 ∧ x = nI t) : WF (upd a j x) := by
  obtain ⟨g1, g2, g3, g4, g5, g6, g7, g8, g9, g10⟩ := h
  have e : pn (upd a j x) = pn a := by unfold pn; rw [upd_n _ _ (fun q => h7 q.symm)]
  refine ⟨by rw [e]; exact g1, by rw [upd_n _ _ (fun q => h7 q.symm), e]; exact g2, fun p hp => ?_, fun p hp => ?_, fun p hp => ?_, ?_, ?_, ?_, ?_, ?_⟩
  · by_cases q : 24 + 3 * p = j
    · rw [q, upd_s]; exact hk p hp q.symm
    · rw [upd_n _ _ q]; exact g3 p hp
  · by_cases q : 24 + 3 * p + 1 = j
    · rw [q, upd_s]; exact hw p hp q.symm
    · rw [upd_n _ _ q]; exact g4 p hp
  · by_cases q : 24 + 3 * p + 2 = j
    · rw [q, upd_s]; exact hb p hp q.symm
    · rw [upd_n _ _ q]; exact g5 p hp
  · by_cases q : 1 = j
    · rw [q, upd_s]; exact h1 q.symm
    · rw [upd_n _ _ q]; exact g6
  · by_cases q : 2 = j
    · rw [q, upd_s]; exact h2 q.symm
    · rw [upd_n _ _ q]; exact g7
  · by_cases q : 3 = j
    · rw [q, upd_s]; exact h3 q.symm
    · rw [upd_n _ _ q]; exact g8
  · by_cases q : 4 = j
    · rw [q, upd_s]; exact h4 q.symm
    · rw [upd_n _ _ q]; exact g9
  · by_cases q : 5 = j
    · rw [q, upd_s]; exact h5 q.symm
    · rw [upd_n _ _ q]; exact g10
theorem WF.upK {a : x_St} (h : WF a) {p k : Nat} (hp : p < 8) (hk : k < 7) : WF (upd a (24 + 3 * p) (nI k)) := h.upG (by omega) (fun _ _ _ => ⟨k, hk, rfl⟩) (fun _ _ _ => by omega) (fun _ _ _ => by omega) (fun _ => by omega) (fun _ => by omega) (fun _ => by omega) (fun _ => by omega) (fun _ => by omega)
theorem WF.upW {a : x_St} (h : WF a) {p : Nat} (hp : p < 8) {x : Int32} (hx : x = -1 ∨ ∃ w, w < 17 ∧ x = nI w) : WF (upd a (24 + 3 * p + 1) x) := h.upG (by omega) (fun _ _ _ => by omega) (fun _ _ _ => hx) (fun _ _ _ => by omega) (fun _ => by omega) (fun _ => by omega) (fun _ => by omega) (fun _ => by omega) (fun _ => by omega)
theorem WF.upB {a : x_St} (h : WF a) {p k : Nat} (hp : p < 8) (hk : k < 100) : WF (upd a (24 + 3 * p + 2) (nI k)) := h.upG (by omega) (fun _ _ _ => by omega) (fun _ _ _ => by omega) (fun _ _ _ => ⟨k, hk, rfl⟩) (fun _ => by omega) (fun _ => by omega) (fun _ => by omega) (fun _ => by omega) (fun _ => by omega)
theorem WF.upN {a : x_St} (h : WF a) {j : Nat} (hj : j = 0 ∨ j = 6 ∨ (8 ≤ j ∧ j < 24) ∨ 48 ≤ j) (x : Int32) : WF (upd a j x) := h.upG (by omega) (fun _ _ _ => by omega) (fun _ _ _ => by omega) (fun _ _ _ => by omega) (fun _ => by omega) (fun _ => by omega) (fun _ => by omega) (fun _ => by omega) (fun _ => by omega)
theorem WF.tr {a : x_St} (h : WF a) : a 1 = -1 ∨ ∃ w, w < 17 ∧ a 1 = nI w := Or.inr h.2.2.2.2.2.1
theorem WF.rideTo {a : x_St} (h : WF a) (f : Nat → Bool) : ∀ n, n ≤ 8 → WF (rideTo a f n)
  | 0, _ => h
  | n + 1, h8 => by
    have ih := WF.rideTo h f n (by omega)
    unfold _root_.Jvm.Pilot.CFaithRailsLaw_law_r9805_dc2cf3.rideTo
    refine ih.upW (by omega) ?_
    split
    · exact Or.inl rfl
    · exact h.tr
theorem rideTo_pn (a : x_St) (f : Nat → Bool) {n : Nat} (h : n ≤ 8) : pn (rideTo a f n) = pn a := by unfold pn; rw [rideTo_same a f n 7 (by omega) h]
-- firsts
theorem firstN_gen (f : Nat → Bool) (i : Nat) : ∀ n s, s ≤ i → i < s + n → f i = true → (∀ j, s ≤ j → j < i → f j = false) → firstN f s n = i
  | 0, s, h1, h2, _, _ => by omega
  | n + 1, s, h1, h2, hf, h => by
    unfold firstN
    by_cases q : s = i
    · subst q; rw [if_pos hf]
    · rw [if_neg (by rw [h s (Nat.le_refl s) (by omega)]; decide)]
      exact firstN_gen f i n (s + 1) (by omega) (by omega) hf (fun j h3 h4 => h j (by omega) h4)
theorem firstN_some {f : Nat → Bool} {i n : Nat} (hi : i < n) (hf : f i = true) (h : ∀ j, j < i → f j = false) : firstN f 0 n = i := firstN_gen f i n 0 (Nat.zero_le i) (by omega) hf (fun j _ => h j)
theorem firstN_ngen (f : Nat → Bool) : ∀ n s, (∀ j, s ≤ j → j < s + n → f j = false) → firstN f s n = s + n
  | 0, s, _ => rfl
  | n + 1, s, h => by
    unfold firstN
    rw [if_neg (by rw [h s (Nat.le_refl s) (by omega)]; decide), firstN_ngen f n (s + 1) (fun j h3 h4 => h j (by omega) (by omega))]
    omega
theorem firstN_none {f : Nat → Bool} {n : Nat} (h : ∀ j, j < n → f j = false) : firstN f 0 n = n := by
  have := firstN_ngen f n 0 (fun j _ h2 => h j (by omega))
  rwa [Nat.zero_add] at this
theorem bestTo_t {f : Nat → Int32} {i : Nat} (c : ¬ f i ≤ (bestTo f i).2) : bestTo f (i + 1) = (nI i, f i) := by
  show (if (bestTo f i).2 < f i then (nI i, f i) else bestTo f i) = _
  rw [if_pos (Int32.not_le.mp c)]
theorem bestTo_f {f : Nat → Int32} {i : Nat} (c : f i ≤ (bestTo f i).2) : bestTo f (i + 1) = bestTo f i := by
  show (if (bestTo f i).2 < f i then (nI i, f i) else bestTo f i) = _
  rw [if_neg (Int32.not_lt.mpr c)]
-- powers and bits
theorem pow8 {n : Nat} (h : n ≤ 8) : 2 ^ n ≤ 256 := Nat.le_trans (Nat.pow_le_pow_right (by decide) h) (by decide)
theorem shl1 {n : Nat} (h : n < 31) : (1 : Int32) <<< (nI n &&& 31) = nI (2 ^ n) := by
  have := pk_shlN (n := 1) (nI n &&& 31) n (bit_s n (by omega)) (by
    have := Nat.pow_lt_pow_right (a := 2) (by decide) h
    omega)
  rw [Nat.one_mul] at this
  exact this
theorem popN_up (s : Nat) : ∀ k, popN k s ≤ k
  | 0 => Nat.le_refl 0
  | k + 1 => by
    have := popN_up s k
    unfold popN
    split <;> omega
theorem popN_cut {s k : Nat} (h : s < 2 ^ k) : ∀ n, popN (k + n) s = popN k s
  | 0 => rfl
  | n + 1 => by
    show popN (k + n) s + _ = _
    rw [popN_cut h n, if_neg]
    · rfl
    · show ¬ s.testBit (k + n) = true
      rw [Nat.testBit_lt_two_pow (Nat.lt_of_lt_of_le h (Nat.pow_le_pow_right (by decide) (Nat.le_add_right k n)))]
      decide
theorem popN_le {s k : Nat} (hk : k ≤ 8) (h : s < 2 ^ k) : popN 8 s ≤ k := by
  have := popN_cut h (8 - k)
  rw [show k + (8 - k) = 8 by omega] at this
  rw [this]
  exact popN_up s k
theorem popN_16 {s : Nat} (h : s < 256) : popN 16 s = popN 8 s := popN_cut (k := 8) h 8
/-- the fewest -/
theorem fewTo_in {f : Nat → Bool} {b : Nat} : ∀ {n}, fewTo f n = some b → b < n ∧ f b = true
  | 0, h => by cases h
  | n + 1, h => by
    unfold fewTo at h
    cases e : fewTo f n with
    | none =>
      rw [e] at h
      dsimp only at h
      split at h
      · next c => cases h; exact ⟨by omega, c⟩
      · cases h
    | some c =>
      rw [e] at h
      dsimp only at h
      obtain ⟨h1, h2⟩ := fewTo_in e
      split at h
      · next q => cases h; exact ⟨by omega, q.2⟩
      · cases h; exact ⟨by omega, h2⟩
theorem fewTo_none {f : Nat → Bool} : ∀ {n}, (∀ s, s < n → f s = false) → fewTo f n = none
  | 0, _ => rfl
  | n + 1, h => by
    unfold fewTo
    rw [fewTo_none (fun s hs => h s (by omega))]
    dsimp only
    rw [if_neg (by rw [h n (by omega)]; decide)]
/-- it is the one of least bits, of several the least -/
theorem fewTo_min {f : Nat → Bool} : ∀ {n}, match fewTo f n with
    | none => ∀ s, s < n → f s = false
    | some b => b < n ∧ f b = true ∧ ∀ s, s < n → f s = true → popN 8 b < popN 8 s ∨ (popN 8 b = popN 8 s ∧ b ≤ s)
  | 0 => by intro s hs; omega
  | n + 1 => by
    have ih := fewTo_min (f := f) (n := n)
    unfold fewTo
    cases e : fewTo f n with
    | none =>
      rw [e] at ih
      dsimp only at ih ⊢
      by_cases c : f n = true
      · rw [if_pos c]
        dsimp only
        refine ⟨by omega, c, fun s hs h => ?_⟩
        by_cases q : s = n
        · subst q; exact Or.inr ⟨rfl, Nat.le_refl s⟩
        · rw [ih s (by omega)] at h; cases h
      · rw [if_neg c]
        dsimp only
        intro s hs
        by_cases q : s = n
        · subst q; exact Bool.eq_false_iff.mpr c
        · exact ih s (by omega)
    | some b =>
      rw [e] at ih
      dsimp only at ih ⊢
      obtain ⟨h1, h2, h3⟩ := ih
      by_cases c : popN 8 n < popN 8 b ∧ f n = true
      · rw [if_pos c]
        dsimp only
        refine ⟨by omega, c.2, fun s hs h => ?_⟩
        by_cases q : s = n
        · subst q; exact Or.inr ⟨rfl, Nat.le_refl s⟩
        · have := h3 s (by omega) h; omega
      · rw [if_neg c]
        dsimp only
        refine ⟨by omega, h2, fun s hs h => ?_⟩
        by_cases q : s = n
        · subst q
          have : ¬ popN 8 s < popN 8 b := fun z => c ⟨z, h⟩
          omega
        · exact h3 s (by omega) h
theorem fewTo_some {f : Nat → Bool} {j n : Nat} (hj : j < n) (hf : f j = true) (h : ∀ s, s < n → popN 8 s < popN 8 j → f s = false) (h2 : ∀ s, s < j → popN 8 s = popN 8 j → f s = false) : fewTo f n = some j := by
  have m := fewTo_min (f := f) (n := n)
  cases e : fewTo f n with
  | none => rw [e] at m; rw [m j hj] at hf; cases hf
  | some b =>
    rw [e] at m
    dsimp only at m
    obtain ⟨h3, h4, h5⟩ := m
    have h6 := h5 j hj hf
    by_cases q : b = j
    · rw [q]
    · exfalso
      rcases h6 with h6 | ⟨h6, h7⟩
      · rw [h b h3 h6] at h4; cases h4
      · rw [h2 b (by omega) h6] at h4; cases h4
def optI (k : Option Nat) : Int32 := match k with
  | some p => nI p
  | none => -1
/-- sums met at a stretch that never is there -/
def farA (a : x_St) (k : Nat) : x_St := upd a (8 + k) 2147483647
def metTo (a : x_St) (k : Nat) : Nat → Int32
  | 0 => -1
  | i + 1 => if hoursF (farA a k) i 1 = nI k then maxI (metTo a k i) (sumF (hoursF (farA a k) i) (nI k)) else metTo a k i
/-- lastTo_lem: a greatest need is the greatest sum that is met -/
theorem bears_go {a : x_St} (hI : WF a) {k n : Nat} (hk : k < 16) (h : nI k < a 1) : lastTo (fun v => decide (nI k < hoursF (upd a (8 + k) (nI v)) n 1)) 1000 = some 999 := by
  sorry
theorem bears_none {a : x_St} (hI : WF a) {k n : Nat} (hk : k < 16) (h : ¬ nI k < a 1) (hm : metTo a k n < 0) : lastTo (fun v => decide (nI k < hoursF (upd a (8 + k) (nI v)) n 1)) 1000 = none := by
  sorry
theorem bears_met {a : x_St} (hI : WF a) {k n : Nat} (hk : k < 16) (h : ¬ nI k < a 1) (hm : 0 ≤ metTo a k n) : ∃ v, lastTo (fun v => decide (nI k < hoursF (upd a (8 + k) (nI v)) n 1)) 1000 = some v ∧ minI (metTo a k n) 999 = nI v := by
  sorry
/-- one left behind -/
theorem outTo_t {a : x_St} {n p : Nat} {m : Int32} (c : a (24 + 3 * p + 1) = -1) (hm : m = (outTo a n p).2) (c2 : ¬ hoursF (upd a (24 + 3 * p + 1) (a 1)) n 1 ≤ m) : outTo a n (p + 1) = (some p, hoursF (upd a (24 + 3 * p + 1) (a 1)) n 1) := by
  subst hm
  show (if _ then _ else _) = _
  rw [if_pos ⟨c, Int32.not_le.mp c2⟩]
theorem outTo_f {a : x_St} {n p : Nat} {m : Int32} (hm : m = (outTo a n p).2) (c : ¬ a (24 + 3 * p + 1) = -1 ∨ hoursF (upd a (24 + 3 * p + 1) (a 1)) n 1 ≤ m) : outTo a n (p + 1) = outTo a n p := by
  subst hm
  show (if _ then _ else _) = _
  rw [if_neg (fun z => c.elim (fun q => q z.1) (fun q => Int32.not_lt.mpr q z.2))]
theorem optI_neg {k : Option Nat} (hk : ∀ p, k = some p → p < 2 ^ 31) : optI k = -1 ↔ k = none := by
  cases k with
  | none => simp [optI]
  | some p =>
    constructor
    · intro h
      have := nI_pos (hk p rfl)
      exact absurd (by show nI p < 0; rw [show nI p = -1 from h]; decide) this
    · intro h; cases h
theorem outTo_lt {a : x_St} {n : Nat} : ∀ {m p}, (outTo a n m).1 = some p → p < m
  | 0, p, h => by cases h
  | m + 1, p, h => by
    have e : outTo a n (m + 1) = if a (24 + 3 * m + 1) = -1 ∧ (outTo a n m).2 < hoursF (upd a (24 + 3 * m + 1) (a 1)) n 1 then (some m, hoursF (upd a (24 + 3 * m + 1) (a 1)) n 1) else outTo a n m := rfl
    rw [e] at h
    split at h
    · cases h; omega
    · have := outTo_lt h; omega
theorem inR_nat2 {v : Int32} {a n : Nat} (hn : n < 2 ^ 31) (ha : a < 2 ^ 31) (h : inR v (nI a) (nI n) = true) : ∃ k, (a ≤ k ∧ k ≤ n) ∧ v = nI k := by
  obtain ⟨h1, h2⟩ := of_decide_eq_true h
  rw [Int32.le_iff_toInt_le] at h1 h2
  rw [nI_T hn] at h2
  rw [nI_T ha] at h1
  exact ⟨v.toInt.toNat, by omega, i32_of (by omega) (by omega)⟩
theorem clock_le {a : x_St} {h0 n : Nat} (e : a 0 = nI h0) (h : h0 + n ≤ 99999) : ∀ i, i ≤ n → clockF (a 0) i = nI (h0 + i) ∧ hoursF a i 0 = nI (h0 + i)
  | 0, _ => ⟨e, e⟩
  | i + 1, hi => by
    obtain ⟨h1, h2⟩ := clock_le e h i (by omega)
    constructor
    · show minI (clockF (a 0) i + 1) 99999 = _
      rw [h1, nI_1]
      refine i32_of ?_ (by omega)
      rw [minI_T, nI_T (by omega), if_neg]
      · rfl
      · show ¬ ((99999 : Int32).toInt < _)
        rw [show (99999 : Int32).toInt = 99999 by decide]
        omega
    · show hourF (hoursF a i) 0 = _
      rw [hourF_0, h2, nI_1]; rfl
theorem clock_go {a : x_St} (hI : LI a) {n : Nat} (h1 : 1 ≤ n) (hn : n ≤ 60) (c : a 0 + nI n ≤ 99999) : clockF (a 0) n = hoursF a n 0 := by
  obtain ⟨h0, hh, e⟩ := hI.2.2.2
  have hs : h0 + n ≤ 99999 := by
    rw [e, nI_add] at c
    exact (nI_leI (b := 99999) (by omega) (by decide)).mp c
  obtain ⟨h2, h3⟩ := clock_le e hs n (Nat.le_refl n)
  rw [h2, h3]
theorem fallB_f1 {a : x_St} {t : Nat} (ht : a 1 = nI t) (h : 16 ≤ t) (h17 : t < 17) : fallB a = false := by
  unfold fallB
  have e : decide (nI t < (16 : Int32)) = false := decide_eq_false (nI_nlt (a := t) (b := 16) h (by omega))
  rw [ht, e]
  rfl
theorem fallB_f2 {a : x_St} {t : Nat} (ht : a 1 = nI t) (h17 : t < 17) (c : thereB a t = true) : fallB a = false := by
  unfold fallB
  rw [ht, nI_clamp (by omega), c]
  simp
theorem fallB_t {a : x_St} {t : Nat} (ht : a 1 = nI t) (h : t < 16) (c : thereB a t = false) : fallB a = true := by
  unfold fallB
  have e : decide (nI t < (16 : Int32)) = true := decide_eq_true (nI_lt (a := t) (b := 16) h (by decide))
  rw [ht, nI_clamp (by omega), c, e]
  rfl
end
section
/-! BASE 3: arraylength; what two members of the JDK do with bits and rows -/
section XB3
variable {l : Launch} {E : x_E} {y : x_M} {v : x_V} {μ : x_Mem} {pc nx len : Nat} {lv lv' : List (Nat × Value)} {st : List Value}
theorem x_alen {k : Nat} (n : Nat) (hk : x_kd k = 0) (hn : x_ln k = n) (hd : x_dec y pc .arraylength 1 nx) (kk : x_G l E y v μ nx lv (.int (nI n) :: st)) : x_G l E y v μ pc lv (.ref (E.1 + k) :: st) := by
  intro p e s m args below meth c H ls locs F hP hl' hS
  obtain ⟨hd, rfl⟩ := hd
  have ha := x_arr hP (k := k) (by omega)
  rw [hk, hn] at ha
  have hK : x_K E s := F.2.2.2.2.2.2.2.1
  exact W.alen (n := nI n) F.1 F.2.1 ha ((hK.2 0 _ rfl).1 n _) (by rw [arrV_size] <;> rfl) rfl rfl hd (kk p e s m args below meth c H ls locs F hP hl' hS)
end XB3
theorem nI_and (a b : Nat) : nI a &&& nI b = nI (a &&& b) := by
  unfold nI
  apply Int32.toBitVec_inj.mp
  rw [Int32.toBitVec_and]
  simp [Int32.toBitVec_ofNat]
/-- the counting of bits, over naturals -/
def bc1 (s : Nat) : Nat := s - (s / 2 &&& 1431655765)
def bc2 (s : Nat) : Nat := (s &&& 858993459) + (s / 4 &&& 858993459)
def bc3 (s : Nat) : Nat := (s + s / 16) &&& 252645135
def bc4 (s : Nat) : Nat := s + s / 256
def bc5 (s : Nat) : Nat := s + s / 65536
def bcN (s : Nat) : Nat := bc5 (bc4 (bc3 (bc2 (bc1 s)))) &&& 63
theorem land_split {a b c d : Nat} (hb : b < 256) (hd : d < 256) : (256 * a + b) &&& (256 * c + d) = 256 * (a &&& c) + (b &&& d) := by
  apply Nat.eq_of_testBit_eq
  intro j
  have hbd : b &&& d < 2 ^ 8 := Nat.and_lt_two_pow b hd
  have e1 := Nat.testBit_two_pow_mul_add a (b := b) (i := 8) hb j
  have e2 := Nat.testBit_two_pow_mul_add c (b := d) (i := 8) hd j
  have e3 := Nat.testBit_two_pow_mul_add (a &&& c) (b := b &&& d) (i := 8) hbd j
  rw [show (2 : Nat) ^ 8 = 256 by decide] at e1 e2 e3
  rw [Nat.testBit_and, e1, e2, e3]
  split
  · rw [Nat.testBit_and]
  · rw [Nat.testBit_and]
theorem bc_d1 : ∀ h, h < 256 → (h / 2 &&& 5592405) = (h / 2 &&& 1431655765) := by decide +kernel
theorem bc_d2 : ∀ e, e < 2 → ∀ l, l < 256 → ((128 * e + l / 2) &&& 85) = (l / 2 &&& 1431655765) := by decide +kernel
theorem bc_d3 : ∀ x, x < 256 → (x &&& 3355443) = (x &&& 858993459) ∧ (x / 4 &&& 3355443) = (x / 4 &&& 858993459) ∧ (x &&& 51) = (x &&& 858993459) := by decide +kernel
theorem bc_d4 : ∀ e, e < 4 → ∀ l, l < 256 → ((64 * e + l / 4) &&& 51) = (l / 4 &&& 858993459) := by decide +kernel
theorem bc_d5 : ∀ x, x < 256 → bc1 x < 256 ∧ bc2 (bc1 x) / 16 < 5 ∧ bc2 (bc1 x) % 16 < 5 ∧ popN 8 x = bc2 (bc1 x) / 16 + bc2 (bc1 x) % 16 := by decide +kernel
theorem bc_d6 : ∀ u, u < 5 → ∀ v, v < 5 → ∀ u', u' < 5 → ∀ v', v' < 5 → (bc5 (bc4 (bc3 (256 * (16 * u + v) + (16 * u' + v')))) &&& 63) = u + v + u' + v' := by decide +kernel
theorem bc_s1 {h l : Nat} (hh : h < 256) (hl : l < 256) : bc1 (256 * h + l) = 256 * bc1 h + bc1 l := by
  unfold bc1
  have e : (256 * h + l) / 2 = 256 * (h / 2) + (128 * (h % 2) + l / 2) := by omega
  have m : (1431655765 : Nat) = 256 * 5592405 + 85 := by decide
  have e2 : ((256 * h + l) / 2 &&& 1431655765) = 256 * (h / 2 &&& 1431655765) + (l / 2 &&& 1431655765) := by
    rw [e, m, land_split (by omega) (by decide), ← m, bc_d1 h hh, bc_d2 (h % 2) (by omega) l hl]
  have h1 : (h / 2 &&& 1431655765) ≤ h / 2 := Nat.and_le_left
  have h2 : (l / 2 &&& 1431655765) ≤ l / 2 := Nat.and_le_left
  rw [e2]
  omega
theorem bc_s2 {x y : Nat} (hx : x < 256) (hy : y < 256) : bc2 (256 * x + y) = 256 * bc2 x + bc2 y := by
  unfold bc2
  have e : (256 * x + y) / 4 = 256 * (x / 4) + (64 * (x % 4) + y / 4) := by omega
  have m : (858993459 : Nat) = 256 * 3355443 + 51 := by decide
  obtain ⟨a1, a2, a3⟩ := bc_d3 x hx
  obtain ⟨b1, b2, b3⟩ := bc_d3 y hy
  have e2 : ((256 * x + y) / 4 &&& 858993459) = 256 * (x / 4 &&& 858993459) + (y / 4 &&& 858993459) := by
    rw [e, m, land_split (by omega) (by decide), ← m, a2, bc_d4 (x % 4) (by omega) y hy]
  have e3 : ((256 * x + y) &&& 858993459) = 256 * (x &&& 858993459) + (y &&& 858993459) := by
    rw [m, land_split hy (by decide), ← m, a1, b3]
  rw [e2, e3]
  omega
theorem popN_add (s : Nat) : ∀ n, popN (8 + n) s = popN 8 s + popN n (s / 256)
  | 0 => rfl
  | n + 1 => by
    show popN (8 + n) s + (if s.testBit (8 + n) = true then 1 else 0) = popN 8 s + (popN n (s / 256) + (if (s / 256).testBit n = true then 1 else 0))
    have e : (s / 256).testBit n = s.testBit (8 + n) := by
      rw [show (256 : Nat) = 2 ^ 8 by decide, Nat.testBit_div_two_pow, Nat.add_comm]
    rw [popN_add s n, e]
    omega
theorem popN_low {h l : Nat} (hl : l < 256) : ∀ n, n ≤ 8 → popN n (256 * h + l) = popN n l
  | 0, _ => rfl
  | n + 1, hn => by
    show popN n _ + _ = popN n l + _
    have e1 := Nat.testBit_two_pow_mul_add h (b := l) (i := 8) hl n
    rw [show (2 : Nat) ^ 8 = 256 by decide, if_pos (by omega)] at e1
    rw [popN_low hl n (by omega), e1]
theorem bcN_pop {s : Nat} (h : s < 65536) : bcN s = popN 16 s := by
  have hs : 256 * (s / 256) + s % 256 = s := by omega
  obtain ⟨a1, a2, a3, a4⟩ := bc_d5 (s / 256) (by omega)
  obtain ⟨b1, b2, b3, b4⟩ := bc_d5 (s % 256) (by omega)
  have e1 : popN 16 s = popN 8 (s % 256) + popN 8 (s / 256) := by
    have := popN_add s 8
    have q := popN_low (h := s / 256) (l := s % 256) (by omega) 8 (Nat.le_refl 8)
    rw [hs] at q
    rw [show (16 : Nat) = 8 + 8 by decide, this, q]
  have e2 : bc2 (bc1 s) = 256 * bc2 (bc1 (s / 256)) + bc2 (bc1 (s % 256)) := by
    have := bc_s1 (h := s / 256) (l := s % 256) (by omega) (by omega)
    rw [hs] at this
    rw [this, bc_s2 a1 b1]
  have e3 := bc_d6 _ a2 _ a3 _ b2 _ b3
  rw [show 16 * (bc2 (bc1 (s / 256)) / 16) + bc2 (bc1 (s / 256)) % 16 = bc2 (bc1 (s / 256)) by omega, show 16 * (bc2 (bc1 (s % 256)) / 16) + bc2 (bc1 (s % 256)) % 16 = bc2 (bc1 (s % 256)) by omega, ← e2] at e3
  unfold bcN
  rw [e3, e1, a4, b4]
  omega
theorem ush_lit {n : Nat} (hn : n < 2 ^ 32) (k : Nat) (hk : k < 32) : ((nI n).toUInt32 >>> ((nI k).toUInt32 &&& Int32.toUInt32 31)).toInt32 = nI (n / 2 ^ k) := pk_ushrN hn (nI k) k (bit_u k hk)
-- the steps of the counting, over the machine's ints
theorem bcS1 {s : Nat} (h : s < 65536) : nI s - (((nI s).toUInt32 >>> ((1 : Int32).toUInt32 &&& Int32.toUInt32 31)).toInt32 &&& 1431655765) = nI (bc1 s) := by
  have e : ((nI s).toUInt32 >>> ((1 : Int32).toUInt32 &&& Int32.toUInt32 31)).toInt32 = nI (s / 2) := ush_lit (n := s) (by omega) 1 (by decide)
  have h2 : (s / 2 &&& 1431655765) ≤ s / 2 := Nat.and_le_left
  rw [e, show (1431655765 : Int32) = nI 1431655765 from rfl, nI_and, pk_sub (by omega)]
  rfl
theorem bcS2 {s : Nat} (h : s < 65536) : (nI s &&& 858993459) + (((nI s).toUInt32 >>> ((2 : Int32).toUInt32 &&& Int32.toUInt32 31)).toInt32 &&& 858993459) = nI (bc2 s) := by
  have e : ((nI s).toUInt32 >>> ((2 : Int32).toUInt32 &&& Int32.toUInt32 31)).toInt32 = nI (s / 4) := ush_lit (n := s) (by omega) 2 (by decide)
  rw [e, show (858993459 : Int32) = nI 858993459 from rfl, nI_and, nI_and, nI_add]
  rfl
theorem bcS3 {s : Nat} (h : s < 200000) : nI s + ((nI s).toUInt32 >>> ((4 : Int32).toUInt32 &&& Int32.toUInt32 31)).toInt32 &&& 252645135 = nI (bc3 s) := by
  have e : ((nI s).toUInt32 >>> ((4 : Int32).toUInt32 &&& Int32.toUInt32 31)).toInt32 = nI (s / 16) := ush_lit (n := s) (by omega) 4 (by decide)
  rw [e, show (252645135 : Int32) = nI 252645135 from rfl, nI_add, nI_and]
  rfl
theorem bcS4 {s : Nat} (h : s < 400000) : nI s + ((nI s).toUInt32 >>> ((8 : Int32).toUInt32 &&& Int32.toUInt32 31)).toInt32 = nI (bc4 s) := by
  have e : ((nI s).toUInt32 >>> ((8 : Int32).toUInt32 &&& Int32.toUInt32 31)).toInt32 = nI (s / 256) := ush_lit (n := s) (by omega) 8 (by decide)
  rw [e, nI_add]
  rfl
theorem bcS5 {s : Nat} (h : s < 800000) : nI s + ((nI s).toUInt32 >>> ((16 : Int32).toUInt32 &&& Int32.toUInt32 31)).toInt32 = nI (bc5 s) := by
  have e : ((nI s).toUInt32 >>> ((16 : Int32).toUInt32 &&& Int32.toUInt32 31)).toInt32 = nI (s / 65536) := ush_lit (n := s) (by omega) 16 (by decide)
  rw [e, nI_add]
  rfl
theorem bc_lt {s : Nat} (h : s < 65536) : bc1 s < 65536 ∧ bc2 (bc1 s) < 200000 ∧ bc3 (bc2 (bc1 s)) < 400000 ∧ bc4 (bc3 (bc2 (bc1 s))) < 800000 := by
  have h1 : bc1 s ≤ s := Nat.sub_le _ _
  have h2 : bc2 (bc1 s) ≤ bc1 s + bc1 s / 4 := by
    have a1 : (bc1 s &&& 858993459) ≤ bc1 s := Nat.and_le_left
    have a2 : (bc1 s / 4 &&& 858993459) ≤ bc1 s / 4 := Nat.and_le_left
    unfold bc2
    omega
  have h3 : bc3 (bc2 (bc1 s)) ≤ bc2 (bc1 s) + bc2 (bc1 s) / 16 := Nat.and_le_left
  have h4 : bc4 (bc3 (bc2 (bc1 s))) = bc3 (bc2 (bc1 s)) + bc3 (bc2 (bc1 s)) / 256 := rfl
  omega
end
section
def yJ_bitCount : MethodName := ⟨"java/lang/Integer", "bitCount", "(I)I"⟩
def m_J_bitCount : x_M := (yJ_bitCount, prog_7_method_49_code, 1, (some FieldType.int), 0, 0)
theorem v_J_bitCount : x_VM m_J_bitCount 1 := ⟨q371, q9, by decide +kernel, by decide +kernel, by decide +kernel⟩
theorem d_J_bitCount_0 : x_dec m_J_bitCount 0 (.iload_n 0) 1 1 := ⟨by decide +kernel, rfl⟩
theorem d_J_bitCount_1 : x_dec m_J_bitCount 1 (.iload_n 0) 1 2 := ⟨by decide +kernel, rfl⟩
theorem d_J_bitCount_2 : x_dec m_J_bitCount 2 (.iconst 1) 1 3 := ⟨by decide +kernel, rfl⟩
theorem d_J_bitCount_3 : x_dec m_J_bitCount 3 (.iushr) 1 4 := ⟨by decide +kernel, rfl⟩
theorem d_J_bitCount_4 : x_dec m_J_bitCount 4 (.ldc_w 265) 3 7 := ⟨by decide +kernel, rfl⟩
theorem d_J_bitCount_7 : x_dec m_J_bitCount 7 (.iand) 1 8 := ⟨by decide +kernel, rfl⟩
theorem d_J_bitCount_8 : x_dec m_J_bitCount 8 (.isub) 1 9 := ⟨by decide +kernel, rfl⟩
theorem d_J_bitCount_9 : x_dec m_J_bitCount 9 (.istore_n 0) 1 10 := ⟨by decide +kernel, rfl⟩
theorem d_J_bitCount_10 : x_dec m_J_bitCount 10 (.iload_n 0) 1 11 := ⟨by decide +kernel, rfl⟩
theorem d_J_bitCount_11 : x_dec m_J_bitCount 11 (.ldc_w 266) 3 14 := ⟨by decide +kernel, rfl⟩
theorem d_J_bitCount_14 : x_dec m_J_bitCount 14 (.iand) 1 15 := ⟨by decide +kernel, rfl⟩
theorem d_J_bitCount_15 : x_dec m_J_bitCount 15 (.iload_n 0) 1 16 := ⟨by decide +kernel, rfl⟩
theorem d_J_bitCount_16 : x_dec m_J_bitCount 16 (.iconst 2) 1 17 := ⟨by decide +kernel, rfl⟩
theorem d_J_bitCount_17 : x_dec m_J_bitCount 17 (.iushr) 1 18 := ⟨by decide +kernel, rfl⟩
theorem d_J_bitCount_18 : x_dec m_J_bitCount 18 (.ldc_w 266) 3 21 := ⟨by decide +kernel, rfl⟩
theorem d_J_bitCount_21 : x_dec m_J_bitCount 21 (.iand) 1 22 := ⟨by decide +kernel, rfl⟩
theorem d_J_bitCount_22 : x_dec m_J_bitCount 22 (.iadd) 1 23 := ⟨by decide +kernel, rfl⟩
theorem d_J_bitCount_23 : x_dec m_J_bitCount 23 (.istore_n 0) 1 24 := ⟨by decide +kernel, rfl⟩
theorem d_J_bitCount_24 : x_dec m_J_bitCount 24 (.iload_n 0) 1 25 := ⟨by decide +kernel, rfl⟩
theorem d_J_bitCount_25 : x_dec m_J_bitCount 25 (.iload_n 0) 1 26 := ⟨by decide +kernel, rfl⟩
theorem d_J_bitCount_26 : x_dec m_J_bitCount 26 (.iconst 4) 1 27 := ⟨by decide +kernel, rfl⟩
theorem d_J_bitCount_27 : x_dec m_J_bitCount 27 (.iushr) 1 28 := ⟨by decide +kernel, rfl⟩
theorem d_J_bitCount_28 : x_dec m_J_bitCount 28 (.iadd) 1 29 := ⟨by decide +kernel, rfl⟩
theorem d_J_bitCount_29 : x_dec m_J_bitCount 29 (.ldc_w 267) 3 32 := ⟨by decide +kernel, rfl⟩
theorem d_J_bitCount_32 : x_dec m_J_bitCount 32 (.iand) 1 33 := ⟨by decide +kernel, rfl⟩
theorem d_J_bitCount_33 : x_dec m_J_bitCount 33 (.istore_n 0) 1 34 := ⟨by decide +kernel, rfl⟩
theorem d_J_bitCount_34 : x_dec m_J_bitCount 34 (.iload_n 0) 1 35 := ⟨by decide +kernel, rfl⟩
theorem d_J_bitCount_35 : x_dec m_J_bitCount 35 (.iload_n 0) 1 36 := ⟨by decide +kernel, rfl⟩
theorem d_J_bitCount_36 : x_dec m_J_bitCount 36 (.bipush 8) 2 38 := ⟨by decide +kernel, rfl⟩
theorem d_J_bitCount_38 : x_dec m_J_bitCount 38 (.iushr) 1 39 := ⟨by decide +kernel, rfl⟩
theorem d_J_bitCount_39 : x_dec m_J_bitCount 39 (.iadd) 1 40 := ⟨by decide +kernel, rfl⟩
theorem d_J_bitCount_40 : x_dec m_J_bitCount 40 (.istore_n 0) 1 41 := ⟨by decide +kernel, rfl⟩
theorem d_J_bitCount_41 : x_dec m_J_bitCount 41 (.iload_n 0) 1 42 := ⟨by decide +kernel, rfl⟩
theorem d_J_bitCount_42 : x_dec m_J_bitCount 42 (.iload_n 0) 1 43 := ⟨by decide +kernel, rfl⟩
theorem d_J_bitCount_43 : x_dec m_J_bitCount 43 (.bipush 16) 2 45 := ⟨by decide +kernel, rfl⟩
theorem d_J_bitCount_45 : x_dec m_J_bitCount 45 (.iushr) 1 46 := ⟨by decide +kernel, rfl⟩
theorem d_J_bitCount_46 : x_dec m_J_bitCount 46 (.iadd) 1 47 := ⟨by decide +kernel, rfl⟩
theorem d_J_bitCount_47 : x_dec m_J_bitCount 47 (.istore_n 0) 1 48 := ⟨by decide +kernel, rfl⟩
theorem d_J_bitCount_48 : x_dec m_J_bitCount 48 (.iload_n 0) 1 49 := ⟨by decide +kernel, rfl⟩
theorem d_J_bitCount_49 : x_dec m_J_bitCount 49 (.bipush 63) 2 51 := ⟨by decide +kernel, rfl⟩
theorem d_J_bitCount_51 : x_dec m_J_bitCount 51 (.iand) 1 52 := ⟨by decide +kernel, rfl⟩
theorem d_J_bitCount_52 : x_dec m_J_bitCount 52 (.ireturn) 1 53 := ⟨by decide +kernel, rfl⟩
set_option maxHeartbeats 4000000 in
set_option maxRecDepth 100000 in
theorem c_J_bitCount (l : Launch) (E : x_E) (μ : x_Mem) {s : Nat} (hs : s < 65536) : x_Met l m_J_bitCount E [.int (nI s)] μ (x_I (fun z m => z = nI (popN 16 s) ∧ m = μ)) := by
  obtain ⟨g1, g2, g3, g4⟩ := bc_lt hs
  refine x_enter (lv := [(0, .int (nI s))]) (by decide +kernel) (Nat.le_of_ble_eq_true rfl) rfl ?_
  refine x_iload_n 0 d_J_bitCount_0 rfl rfl ?_
  refine x_iload_n 0 d_J_bitCount_1 rfl rfl ?_
  refine x_iconst (x := 1) d_J_bitCount_2 (by decide) ?_
  refine x_iushr d_J_bitCount_3 ?_
  refine x_ldcw q372 d_J_bitCount_4 ?_
  refine x_iand d_J_bitCount_7 ?_
  refine x_isub d_J_bitCount_8 ?_
  rw [bcS1 hs]
  refine x_istore_n [(0, .int (nI (bc1 s)))] d_J_bitCount_9 rfl (Nat.le_of_ble_eq_true rfl) rfl ?_
  refine x_iload_n 0 d_J_bitCount_10 rfl rfl ?_
  refine x_ldcw q373 d_J_bitCount_11 ?_
  refine x_iand d_J_bitCount_14 ?_
  refine x_iload_n 0 d_J_bitCount_15 rfl rfl ?_
  refine x_iconst (x := 2) d_J_bitCount_16 (by decide) ?_
  refine x_iushr d_J_bitCount_17 ?_
  refine x_ldcw q373 d_J_bitCount_18 ?_
  refine x_iand d_J_bitCount_21 ?_
  refine x_iadd d_J_bitCount_22 ?_
  rw [bcS2 g1]
  refine x_istore_n [(0, .int (nI (bc2 (bc1 s))))] d_J_bitCount_23 rfl (Nat.le_of_ble_eq_true rfl) rfl ?_
  refine x_iload_n 0 d_J_bitCount_24 rfl rfl ?_
  refine x_iload_n 0 d_J_bitCount_25 rfl rfl ?_
  refine x_iconst (x := 4) d_J_bitCount_26 (by decide) ?_
  refine x_iushr d_J_bitCount_27 ?_
  refine x_iadd d_J_bitCount_28 ?_
  refine x_ldcw q374 d_J_bitCount_29 ?_
  refine x_iand d_J_bitCount_32 ?_
  rw [bcS3 g2]
  refine x_istore_n [(0, .int (nI (bc3 (bc2 (bc1 s)))))] d_J_bitCount_33 rfl (Nat.le_of_ble_eq_true rfl) rfl ?_
  refine x_iload_n 0 d_J_bitCount_34 rfl rfl ?_
  refine x_iload_n 0 d_J_bitCount_35 rfl rfl ?_
  refine x_bipush (x := 8) d_J_bitCount_36 (by decide) ?_
  refine x_iushr d_J_bitCount_38 ?_
  refine x_iadd d_J_bitCount_39 ?_
  rw [bcS4 g3]
  refine x_istore_n [(0, .int (nI (bc4 (bc3 (bc2 (bc1 s))))))] d_J_bitCount_40 rfl (Nat.le_of_ble_eq_true rfl) rfl ?_
  refine x_iload_n 0 d_J_bitCount_41 rfl rfl ?_
  refine x_iload_n 0 d_J_bitCount_42 rfl rfl ?_
  refine x_bipush (x := 16) d_J_bitCount_43 (by decide) ?_
  refine x_iushr d_J_bitCount_45 ?_
  refine x_iadd d_J_bitCount_46 ?_
  rw [bcS5 g4]
  refine x_istore_n [(0, .int (nI (bc5 (bc4 (bc3 (bc2 (bc1 s)))))))] d_J_bitCount_47 rfl (Nat.le_of_ble_eq_true rfl) rfl ?_
  refine x_iload_n 0 d_J_bitCount_48 rfl rfl ?_
  refine x_bipush (x := 63) d_J_bitCount_49 (by decide) ?_
  refine x_iand d_J_bitCount_51 ?_
  refine x_iret rfl d_J_bitCount_52 ?_
  refine ⟨?_, rfl⟩
  rw [show (63 : Int32) = nI 63 from rfl, nI_and, ← bcN_pop hs]
  rfl
def yJ_fill : MethodName := ⟨"java/util/Arrays", "fill", "([II)V"⟩
def m_J_fill : x_M := (yJ_fill, prog_13_method_103_code, 4, none, 0, 0)
theorem v_J_fill : x_VM m_J_fill 2 := ⟨q30, q3, by decide +kernel, by decide +kernel, by decide +kernel⟩
theorem d_J_fill_0 : x_dec m_J_fill 0 (.iconst 0) 1 1 := ⟨by decide +kernel, rfl⟩
theorem d_J_fill_1 : x_dec m_J_fill 1 (.istore_n 2) 1 2 := ⟨by decide +kernel, rfl⟩
theorem d_J_fill_2 : x_dec m_J_fill 2 (.aload_n 0) 1 3 := ⟨by decide +kernel, rfl⟩
theorem d_J_fill_3 : x_dec m_J_fill 3 (.arraylength) 1 4 := ⟨by decide +kernel, rfl⟩
theorem d_J_fill_4 : x_dec m_J_fill 4 (.istore_n 3) 1 5 := ⟨by decide +kernel, rfl⟩
theorem d_J_fill_5 : x_dec m_J_fill 5 (.iload_n 2) 1 6 := ⟨by decide +kernel, rfl⟩
theorem d_J_fill_6 : x_dec m_J_fill 6 (.iload_n 3) 1 7 := ⟨by decide +kernel, rfl⟩
theorem d_J_fill_7 : x_dec m_J_fill 7 (.if_icmp .ge 13) 3 10 := ⟨by decide +kernel, rfl⟩
theorem d_J_fill_10 : x_dec m_J_fill 10 (.aload_n 0) 1 11 := ⟨by decide +kernel, rfl⟩
theorem d_J_fill_11 : x_dec m_J_fill 11 (.iload_n 2) 1 12 := ⟨by decide +kernel, rfl⟩
theorem d_J_fill_12 : x_dec m_J_fill 12 (.iload_n 1) 1 13 := ⟨by decide +kernel, rfl⟩
theorem d_J_fill_13 : x_dec m_J_fill 13 (.iastore) 1 14 := ⟨by decide +kernel, rfl⟩
theorem d_J_fill_14 : x_dec m_J_fill 14 (.iinc 2 1) 3 17 := ⟨by decide +kernel, rfl⟩
theorem d_J_fill_17 : x_dec m_J_fill 17 (.goto (-12)) 3 20 := ⟨by decide +kernel, rfl⟩
theorem d_J_fill_20 : x_dec m_J_fill 20 (.return_) 1 21 := ⟨by decide +kernel, rfl⟩
set_option maxHeartbeats 4000000 in
set_option maxRecDepth 100000 in
theorem c_J_fill (l : Launch) (E : x_E) (μ : x_Mem) {k n : Nat} {v : Int32} (hk : x_kd k = 0) (hn : x_ln k = n) (hb : n < 2 ^ 31) : x_Met l m_J_fill E [.ref (E.1 + k), .int v] μ (x_J (fun m => (∀ j, j < n → m k j = v) ∧ ∀ id, id ≠ k → m id = μ id)) := by
  have hF : ∀ id, id ≠ k → μ id = μ id := fun _ _ => rfl
  refine x_enter (lv := [(0, .ref (E.1 + k)), (1, .int v)]) (by decide +kernel) (Nat.le_of_ble_eq_true rfl) rfl ?_
  refine x_iconst (x := 0) d_J_fill_0 (by decide) ?_
  refine x_istore_n [(2, .int 0), (0, .ref (E.1 + k)), (1, .int v)] d_J_fill_1 rfl (Nat.le_of_ble_eq_true rfl) rfl ?_
  refine x_aload_n 1 d_J_fill_2 rfl rfl ?_
  refine x_alen n hk hn d_J_fill_3 ?_
  refine x_istore_n [(3, .int (nI n)), (2, .int 0), (0, .ref (E.1 + k)), (1, .int v)] d_J_fill_4 rfl (Nat.le_of_ble_eq_true rfl) rfl ?_
  have L1 : ∀ i : Nat, i ≤ n → ∀ μ4 : x_Mem, (∀ j, j < i → μ4 k j = v) → (∀ id, id ≠ k → μ4 id = μ id) → x_G l E m_J_fill (x_mv E m_J_fill (x_J (fun m => (∀ j, j < n → m k j = v) ∧ ∀ id, id ≠ k → m id = μ id))) μ4 5 [(3, .int (nI n)), (2, .int (nI i)), (0, .ref (E.1 + k)), (1, .int v)] [] := by
    refine x_down _ n (fun i hi3 ih2 => ?_)
    intro μ4 hq hF1
    refine x_iload_n 1 d_J_fill_5 rfl rfl ?_
    refine x_iload_n 0 d_J_fill_6 rfl rfl ?_
    refine x_icmp_ge 20 d_J_fill_7 (by decide) (fun c5 => ?_) (fun c5 => ?_)
    · skip
      have hN := x_ge (N := n) c5 rfl rfl (by omega) (by omega)
      refine x_vret rfl d_J_fill_20 ?_
      exact ⟨fun j hj => hq j (by omega), hF1⟩
    · skip
      have hN := x_lt (N := n) c5 rfl rfl (by omega) (by omega)
      refine x_aload_n 2 d_J_fill_10 rfl rfl ?_
      refine x_iload_n 1 d_J_fill_11 rfl rfl ?_
      refine x_iload_n 3 d_J_fill_12 rfl rfl ?_
      refine x_iastNG n i hk hn (by omega) (by omega) d_J_fill_13 (fun μ6 eμ6 => ?_)
      have hq9 : ∀ j, j < i + 1 → μ6 k j = v := fun j hj => by rw [eμ6, upd2_at]; unfold upd; split; rfl; exact hq j (by omega)
      have hF7 : ∀ id, id ≠ k → μ6 id = μ id := fun id hid => (show μ6 id = μ4 id from (by rw [eμ6, upd2_ne _ _ _ (by omega)])).trans (hF1 id hid)
      refine x_iinc [(2, .int (nI (i + 1))), (3, .int (nI n)), (0, .ref (E.1 + k)), (1, .int v)] 1 d_J_fill_14 rfl (x_inc _) (Nat.le_of_ble_eq_true rfl) rfl ?_
      refine x_goto 5 d_J_fill_17 (by decide) ?_
      refine x_lv [1, 0, 2, 3] rfl ?_
      exact ih2 (i + 1) (by omega) (by omega) μ6 hq9 hF7
  exact L1 0 (by omega) μ (fun _ hj => absurd hj (Nat.not_lt_zero _)) hF
end
section
/-! PURE 4: sets as naturals, spots, kinds under kinds, gold -/
theorem isSet_f1 {a : x_St} {s : Int32} (h : s < 0) : isSet a s = false := decide_eq_false (fun z => Int32.not_le.mpr h z.1)
theorem isSet_f2 {a : x_St} {s : Int32} (h : nI (2 ^ pn a) ≤ s) : isSet a s = false := decide_eq_false (fun z => Int32.not_le.mpr z.2 h)
theorem isSet_t {a : x_St} {s : Int32} (h0 : ¬ s < 0) (h : ¬ nI (2 ^ pn a) ≤ s) : isSet a s = true := decide_eq_true ⟨Int32.not_lt.mp h0, Int32.not_le.mp h⟩
theorem isSet_nat {a : x_St} {s : Int32} (h8 : pn a ≤ 8) (h0 : ¬ s < 0) (h : ¬ nI (2 ^ pn a) ≤ s) : ∃ j, j < 2 ^ pn a ∧ s = nI j := by
  obtain ⟨k, hk, e⟩ := nI_of h0
  have h2 := pow8 h8
  rw [e] at h
  refine ⟨k, ?_, e⟩
  rcases Nat.lt_or_ge k (2 ^ pn a) with q | q
  · exact q
  · exact absurd (nI_le q hk) h
theorem pop_eq {s z : Nat} (hs : s < 256) (hz : z < 1000) (c : nI (popN 16 s) = nI z) : popN 8 s = z := by
  have h := popN_up s 16
  rw [← popN_16 hs]
  exact (nI_eq (by omega) (by omega)).mp c
theorem fewest_step {P : Nat → Bool} {z j : Nat} (hj : j < 256) (h : ∀ s, s < j → popN 8 s = z → P s = false) (c : ¬ nI (popN 16 j) = nI z ∨ P j = false) : ∀ s, s < j + 1 → popN 8 s = z → P s = false := by
  intro s hs hp
  rcases Nat.lt_or_ge s j with q | q
  · exact h s q hp
  · have e : s = j := by omega
    subst e
    rcases c with c | c
    · exact absurd (by rw [popN_16 hj, hp]) c
    · exact c
theorem fewest_out {P : Nat → Bool} {z n j : Nat} (ho : ∀ s, s < n → popN 8 s < z → P s = false) (hi : ∀ s, s < j → popN 8 s = z → P s = false) (hj : n ≤ j) : ∀ s, s < n → popN 8 s < z + 1 → P s = false := by
  intro s hs hp
  rcases Nat.lt_or_ge (popN 8 s) z with q | q
  · exact ho s hs q
  · exact hi s (by omega) (by omega)
theorem fewest_end {P : Nat → Bool} {z k : Nat} (hk : k ≤ 8) (hz : k < z) (ho : ∀ s, s < 2 ^ k → popN 8 s < z → P s = false) : ∀ s, s < 2 ^ k → P s = false := fun s hs => ho s hs (by have := popN_le hk hs; omega)
-- sets
def setN (f : Nat → Bool) : Nat → Nat
  | 0 => 0
  | n + 1 => if f n = true then setN f n ||| 2 ^ n else setN f n
theorem nI_or (a b : Nat) : nI a ||| nI b = nI (a ||| b) := by
  unfold nI
  apply Int32.toBitVec_inj.mp
  rw [Int32.toBitVec_or]
  simp [Int32.toBitVec_ofNat]
theorem setN_lt (f : Nat → Bool) : ∀ n, setN f n < 2 ^ n
  | 0 => Nat.one_pos
  | n + 1 => by
    have ih := setN_lt f n
    have h2 : 2 ^ n < 2 ^ (n + 1) := Nat.pow_lt_pow_right (by decide) (by omega)
    unfold setN
    split
    · exact Nat.or_lt_two_pow (by omega) h2
    · omega
theorem setN_bit (f : Nat → Bool) : ∀ n k, (setN f n).testBit k = (decide (k < n) && f k)
  | 0, k => by simp [setN]
  | n + 1, k => by
    have ih := setN_bit f n k
    unfold setN
    by_cases h : f n = true
    · rw [if_pos h, Nat.testBit_or, ih, Nat.testBit_two_pow]
      by_cases e : n = k
      · subst e; simp [h]
      · by_cases q : k < n
        · simp [q, e, show k < n + 1 by omega]
        · simp [q, e, show ¬ k < n + 1 by omega]
    · rw [if_neg h, ih]
      by_cases e : k = n
      · subst e; simp [h]
      · by_cases q : k < n
        · simp [q, show k < n + 1 by omega]
        · simp [q, show ¬ k < n + 1 by omega]
theorem setTo_N (f : Nat → Bool) : ∀ n, n ≤ 30 → setTo f n = nI (setN f n)
  | 0, _ => rfl
  | n + 1, h => by
    unfold setTo setN
    rw [setTo_N f n (by omega)]
    split
    · rw [shl1 (by omega), nI_or]
    · rfl
theorem pop_setN (f : Nat → Bool) (n : Nat) : ∀ k, k ≤ n → ∃ c, c ≤ k ∧ popN k (setN f n) = c ∧ cntTo 0 f k = nI c
  | 0, _ => ⟨0, Nat.le_refl 0, rfl, rfl⟩
  | k + 1, h => by
    obtain ⟨c, h1, h2, h3⟩ := pop_setN f n k (by omega)
    unfold popN cntTo
    rw [setN_bit f n k, h2, h3]
    by_cases q : f k = true
    · rw [if_pos q, if_pos (by simp [q, show k < n by omega])]
      exact ⟨c + 1, by omega, rfl, nI_1 c⟩
    · rw [if_neg q, if_neg (by simp [q])]
      exact ⟨c, by omega, rfl, rfl⟩
theorem pop_set {f : Nat → Bool} {n : Nat} (h : n ≤ 16) : nI (popN 16 (setN f n)) = cntTo 0 f n := by
  obtain ⟨c, h1, h2, h3⟩ := pop_setN f n n (Nat.le_refl n)
  have e := popN_cut (setN_lt f n) (16 - n)
  rw [show n + (16 - n) = 16 by omega] at e
  rw [e, h2, h3]
theorem thereN (a : x_St) : thereF a = nI (setN (thereB a) 16) := setTo_N _ 16 (by decide)
theorem aboardN {a : x_St} (h : pn a ≤ 8) : aboardF a = nI (setN (fun p => decide (a (24 + 3 * p + 1) = -1)) (pn a)) := setTo_N _ _ (by omega)
theorem setN_64 (f : Nat → Bool) {n : Nat} (h : n ≤ 16) : setN f n < 65536 := Nat.lt_of_lt_of_le (setN_lt f n) (Nat.le_trans (Nat.pow_le_pow_right (by decide) h) (by decide))
theorem nI_ne_m1 {n : Nat} (h : n < 2 ^ 31) : ¬ nI n = -1 := fun e => nI_pos h (by rw [e]; decide)
-- spots
theorem spot_f {a : x_St} (hI : LI a) {j : Nat} (hj : j < 10) (c : isP a (a (48 + j)) = false) : a (48 + j) = -1 := by
  rcases hI.2.2.1 j hj with e | ⟨p, hp, e⟩
  · exact e
  · exfalso
    have h8 := hI.1.1
    have : isP a (a (48 + j)) = true := decide_eq_true ⟨by rw [e]; exact nI_pos' (by omega), by rw [e, hI.1.2.1]; exact nI_lt hp (by omega)⟩
    rw [this] at c
    cases c
-- kinds
def upK (k : Int32) : Nat → Int32
  | 0 => k
  | i + 1 => x_above.getD (upK k i).toNatClampNeg 0
theorem under_ok : ∀ k, k < 7 → ∀ t, t < 7 → underB (nI k) (nI t) = anyTo (fun i => decide (upK (nI k) i = nI t) && decide (i = 0 ∨ inR (upK (nI k) (i - 1)) 0 6 = true)) 5 := by decide +kernel
theorem upK_in : ∀ k, k < 7 → ∀ i, i < 8 → upK (nI k) i = -1 ∨ ∃ j, j < 7 ∧ upK (nI k) i = nI j := by decide +kernel
theorem under_f : ∀ k, k < 7 → ∀ t, t < 7 → ∀ i, i < 8 → inR (upK (nI k) i) 0 6 = false → (∀ j, j < i → decide (upK (nI k) j = nI t) = false) → underB (nI k) (nI t) = false := by decide +kernel
theorem under_t : ∀ k, k < 7 → ∀ t, t < 7 → ∀ i, i < 8 → (∀ j, j < i → inR (upK (nI k) j) 0 6 = true) → upK (nI k) i = nI t → underB (nI k) (nI t) = true := by decide +kernel
theorem under_7 : ∀ k, k < 7 → ¬ ∀ j, j < 7 → inR (upK (nI k) j) 0 6 = true := by decide +kernel
-- gold
theorem drawV_nat (a : x_St) : ∃ d, d < 2 ^ 24 ∧ drawV a = nI d := by
  have h : (zF a).toBitVec.toNat < 2 ^ 32 := (zF a).toBitVec.isLt
  refine ⟨(zF a).toBitVec.toNat / 2 ^ 8, by omega, ?_⟩
  unfold drawV
  have e := pk_ushr (zF a) 8 8 (by decide)
  apply Int32.toBitVec_inj.mp
  apply BitVec.eq_of_toNat_eq
  rw [e, pk_tn (by omega)]
def dr (a : x_St) : Nat := (drawV a).toNatClampNeg % 16
theorem dr_lt (a : x_St) : dr a < 16 := Nat.mod_lt _ (by decide)
theorem rem16 (a : x_St) : drawV a - drawV a / 16 * 16 = nI (dr a) := by
  obtain ⟨d, hd, e⟩ := drawV_nat a
  unfold dr
  rw [e, nI_clamp (by omega)]
  exact pk_rem (d := 16) (by omega) (by decide) (by decide)
theorem goldF_s (a : x_St) (i : Nat) : goldF a (i + 1) = hourF (upd (upd (goldF a i) 6 (zF (goldF a i))) (8 + dr (goldF a i)) (maxI 0 (goldF a i (8 + dr (goldF a i)) - 10))) := rfl
theorem WF.gold {a : x_St} (h : WF a) : ∀ n, WF (goldF a n)
  | 0 => h
  | n + 1 => by
    rw [goldF_s]
    have := dr_lt (goldF a n)
    exact (((WF.gold h n).upN (Or.inr (Or.inl rfl)) _).upN (Or.inr (Or.inr (Or.inl (by omega)))) _).hour
theorem gold_clock {a : x_St} {h0 n : Nat} (e : a 0 = nI h0) (h : h0 + n ≤ 99999) : ∀ i, i ≤ n → goldF a i 0 = nI (h0 + i)
  | 0, _ => e
  | i + 1, hi => by
    rw [goldF_s, hourF_0, upd_n _ _ (by omega), upd_n _ _ (by omega), gold_clock e h i (by omega), nI_1]
    rfl
theorem gold_min {a : x_St} {h0 n : Nat} (e : a 0 = nI h0) (h : h0 + n ≤ 99999) {i : Nat} (hi : i < n) : minI (goldF a i 0 + 1) 99999 = goldF a (i + 1) 0 := by
  rw [gold_clock e h i (by omega), gold_clock e h (i + 1) (by omega), nI_1]
  refine i32_of ?_ (by omega)
  rw [minI_T, nI_T (by omega), if_neg]
  · rfl
  · show ¬ ((99999 : Int32).toInt < _)
    rw [show (99999 : Int32).toInt = 99999 by decide]
    omega
theorem hour_le {a : x_St} {h0 n : Nat} (e : a 0 = nI h0) (hh : h0 < 100000) (hn : n ≤ 60) (c : a 0 + nI n ≤ 99999) : h0 + n ≤ 99999 := by
  rw [e, nI_add] at c
  exact (nI_leI (b := 99999) (by omega) (by decide)).mp c
-- without all none is there
theorem restF_full {a : x_St} (h8 : pn a ≤ 8) (k : Nat) : restF a (2 ^ pn a - 1) k = 0 := by
  have : ∀ m, m ≤ pn a → sumTo (fun p => if (2 ^ pn a - 1).testBit p = true then 0 else bringsF a p (nI k)) m = 0 := by
    intro m
    induction m with
    | zero => intro _; rfl
    | succ m ih =>
      intro hm
      unfold sumTo
      rw [ih (by omega), if_pos (by rw [Nat.testBit_two_pow_sub_one]; simp; omega)]
      rfl
  exact this _ (Nat.le_refl _)
theorem endsB_full {a : x_St} (h8 : pn a ≤ 8) : endsB a (2 ^ pn a - 1) = true := by
  unfold endsB
  rw [anyTo_f]
  · rfl
  · intro k hk
    rw [restF_full h8]
    by_cases c : (0 : Int32) < a (8 + k)
    · rw [decide_eq_false (Int32.not_le.mpr c)]; simp
    · rw [decide_eq_false c]; simp
-- notes of what is brought
theorem note_up {a : x_St} {k p : Nat} {μ μ' : x_Mem} (hB : ∀ k1 p1, k1 < k → p1 < pn a → μ 31 (k1 * 8 + p1) = bringsF a p1 (nI k1)) (hC : ∀ p1, p1 < p → μ 31 (k * 8 + p1) = bringsF a p1 (nI k)) (h8 : pn a ≤ 8 ∧ p < pn a) (e : μ' = upd2 μ 31 (k * 8 + p) (bringsF a p (nI k))) :
    (∀ k1 p1, k1 < k → p1 < pn a → μ' 31 (k1 * 8 + p1) = bringsF a p1 (nI k1)) ∧ ∀ p1, p1 < p + 1 → μ' 31 (k * 8 + p1) = bringsF a p1 (nI k) := by
  subst e
  refine ⟨fun k1 p1 h1 h2 => ?_, fun p1 h1 => ?_⟩
  · rw [upd2_at, upd_n _ _ (by omega)]; exact hB k1 p1 h1 h2
  · rw [upd2_at]
    by_cases q : p1 = p
    · subst q; rw [upd_s]
    · rw [upd_n _ _ (by omega)]; exact hC p1 (by omega)
theorem note_row {a : x_St} {k p : Nat} {μ : x_Mem} (hB : ∀ k1 p1, k1 < k → p1 < pn a → μ 31 (k1 * 8 + p1) = bringsF a p1 (nI k1)) (hC : ∀ p1, p1 < p → μ 31 (k * 8 + p1) = bringsF a p1 (nI k)) (hp : pn a ≤ p) : ∀ k1 p1, k1 < k + 1 → p1 < pn a → μ 31 (k1 * 8 + p1) = bringsF a p1 (nI k1) := by
  intro k1 p1 h1 h2
  by_cases q : k1 = k
  · subst q; exact hC p1 (by omega)
  · exact hB k1 p1 (by omega) h2
-- status
theorem status_all (g : x_SG) : F_status g (-1) = (sumTo (gF g) 7, g) := by
  unfold F_status
  rw [if_pos (by decide)]
  have e : (fun k => if ((-1 : Int32) < 0 ∨ (-1 : Int32) = nI k) then gF g k else 0) = gF g := by
    funext k
    rw [if_pos (Or.inl (by decide))]
  rw [e]
theorem status_one (g : x_SG) {i : Nat} (h : i < 7) : F_status g (nI i) = (gF g i, g) := by
  unfold F_status
  have h0 : inR (nI i) (-1) 6 = true := decide_eq_true ⟨by rw [Int32.le_iff_toInt_le, nI_T (by omega)]; rw [show (-1 : Int32).toInt = -1 by decide]; omega, nI_le (a := i) (b := 6) (by omega) (by decide)⟩
  rw [if_pos h0]
  have e : ∀ k, k < 7 → ((nI i < 0 ∨ nI i = nI k) ↔ k = i) := fun k hk => ⟨fun z => z.elim (fun z => absurd z (nI_pos (by omega))) (fun z => ((nI_eq (by omega) (by omega)).mp z).symm), fun z => Or.inr (by rw [z])⟩
  have e2 : ∀ n, n ≤ 7 → sumTo (fun k => if (nI i < 0 ∨ nI i = nI k) then gF g k else 0) n = if i < n then gF g i else 0 := by
    intro n
    induction n with
    | zero => intro _; rfl
    | succ n ih =>
      intro hn
      unfold sumTo
      rw [ih (by omega)]
      by_cases q : n = i
      · subst q
        rw [if_neg (by omega), if_pos ((e n (by omega)).mpr rfl), if_pos (by omega)]
        simp
      · rw [if_neg (fun z => q ((e n (by omega)).mp z))]
        by_cases q2 : i < n
        · rw [if_pos q2, if_pos (by omega)]; simp
        · rw [if_neg q2, if_neg (by omega)]; simp
  rw [e2 7 (by decide), if_pos h]
theorem status_hi (g : x_SG) {w : Int32} (h : 7 ≤ w) : F_status g w = fin g 0 := by
  unfold F_status
  rw [if_neg]
  intro z
  obtain ⟨h1, h2⟩ := of_decide_eq_true z
  rw [Int32.le_iff_toInt_le] at h h2
  rw [show (7 : Int32).toInt = 7 by decide] at h
  rw [show (6 : Int32).toInt = 6 by decide] at h2
  omega
theorem status_lo (g : x_SG) {w : Int32} (h1 : ¬ w = -1) (h2 : w < 0) : F_status g w = fin g 0 := by
  unfold F_status
  rw [if_neg]
  intro z
  obtain ⟨h3, h4⟩ := of_decide_eq_true z
  rw [Int32.le_iff_toInt_le, show (-1 : Int32).toInt = -1 by decide] at h3
  rw [Int32.lt_iff_toInt_lt, show (0 : Int32).toInt = 0 by decide] at h2
  exact h1 (Int32.toInt_inj.mp (by rw [show (-1 : Int32).toInt = -1 by decide]; omega))
end
section
/-! PURE 5: images, the tape, sheets -/
theorem XR.img {g : x_SG} {μ μ' : x_Mem} (h : XR g μ) {k : x_St} {p : Bool} (hk : p = true → PR k 19 μ' ∧ μ' 19 11 = k 0) (h3 : μ' 0 3 = x_b p) (e : ∀ id, (id = 28 ∨ id = 29 ∨ (33 ≤ id ∧ id < 41)) → μ' id = μ id) : XR (sK g k p) μ' := by
  obtain ⟨-, -, g3, g4, g5, g6, g7⟩ := h
  refine ⟨hk, h3, ?_, fun j hj => ?_, fun s hs => ?_, fun s hs => ?_, fun s hs j hj => ?_⟩
  · rw [e 28 (by omega)]; exact g3
  · rw [e 29 (by omega)]; exact g4 j hj
  · rw [e _ (by omega)]; exact g5 s hs
  · rw [e _ (by omega)]; exact g6 s hs
  · rw [e _ (by omega)]; exact g7 s hs j hj
theorem XR.tape {g : x_SG} {μ μ' : x_Mem} (h : XR g μ) {n : Nat} {b : Nat → Int32} (hn : μ' 28 1 = nI n) (hb : ∀ j, j < n → μ' 29 j = (b j).toInt8.toInt32) (e : ∀ id, (id = 0 ∨ (19 ≤ id ∧ id < 25) ∨ (33 ≤ id ∧ id < 41)) → μ' id = μ id) : XR (sT g n b) μ' := by
  obtain ⟨g1, g2, -, -, g5, g6, g7⟩ := h
  refine ⟨fun z => ⟨(g1 z).1.cg (fun id hid => e id (by omega)), ?_⟩, ?_, hn, hb, fun s hs => ?_, fun s hs => ?_, fun s hs j hj => ?_⟩
  · rw [e 19 (by omega)]; exact (g1 z).2
  · rw [e 0 (by omega)]; exact g2
  · rw [e _ (by omega)]; exact g5 s hs
  · rw [e _ (by omega)]; exact g6 s hs
  · rw [e _ (by omega)]; exact g7 s hs j hj
theorem XR.sheet {g : x_SG} {μ μ' : x_Mem} (h : XR g μ) {i : Nat} {b : Int32} {z : Nat} {r : Nat → Int32} (hb : μ' (33 + 2 * i) 0 = b) (hz : μ' (33 + 2 * i) 1 = nI z) (hr : ∀ j, j < 40 → μ' (33 + 2 * i + 1) j = r j)
    (e : ∀ id, (id < 33 + 2 * i ∨ 33 + 2 * i + 1 < id) → μ' id = μ id) : XR (sS g (upd (gSb g) i b) (upn (gSz g) i z) (upr (gSn g) i r)) μ' := by
  obtain ⟨g1, g2, g3, g4, g5, g6, g7⟩ := h
  by_cases hi : 4 ≤ i
  · refine ⟨fun z => ⟨(g1 z).1.cg (fun id hid => e id (by omega)), ?_⟩, ?_, ?_, fun j hj => ?_, fun s hs => ?_, fun s hs => ?_, fun s hs j hj => ?_⟩
    · rw [e 19 (by omega)]; exact (g1 z).2
    · rw [e 0 (by omega)]; exact g2
    · rw [e 28 (by omega)]; exact g3
    · rw [e 29 (by omega)]; exact g4 j hj
    · rw [e _ (by omega)]; exact (g5 s hs).trans (upd_n _ _ (by omega)).symm
    · rw [e _ (by omega)]; refine (g6 s hs).trans ?_; show nI (gSz g s) = nI (upn (gSz g) i z s); unfold upn; rw [if_neg (by omega)]
    · rw [e _ (by omega)]; refine (g7 s hs j hj).trans ?_; show gSn g s j = upr (gSn g) i r s j; unfold upr; rw [if_neg (by omega)]
  · refine ⟨fun z => ⟨(g1 z).1.cg (fun id hid => e id (by omega)), ?_⟩, ?_, ?_, fun j hj => ?_, fun s hs => ?_, fun s hs => ?_, fun s hs j hj => ?_⟩
    · rw [e 19 (by omega)]; exact (g1 z).2
    · rw [e 0 (by omega)]; exact g2
    · rw [e 28 (by omega)]; exact g3
    · rw [e 29 (by omega)]; exact g4 j hj
    · show _ = upd (gSb g) i b s
      by_cases q : s = i
      · subst q; rw [upd_s]; exact hb
      · rw [upd_n _ _ q, e _ (by omega)]; exact g5 s hs
    · show _ = nI (upn (gSz g) i z s)
      unfold upn
      by_cases q : s = i
      · subst q; rw [if_pos rfl]; exact hz
      · rw [if_neg q, e _ (by omega)]; exact g6 s hs
    · show _ = upr (gSn g) i r s j
      unfold upr
      by_cases q : s = i
      · subst q; rw [if_pos rfl]; exact hr j hj
      · rw [if_neg q, e _ (by omega)]; exact g7 s hs j hj
theorem XR.row {g : x_SG} {μ μ' : x_Mem} (h : XR g μ) {i : Nat} {r : Nat → Int32} (hr : ∀ j, j < 40 → μ' (33 + 2 * i + 1) j = r j)
    (e : ∀ id, id ≠ 33 + 2 * i + 1 → μ' id = μ id) : XR (sS g (gSb g) (gSz g) (upr (gSn g) i r)) μ' := by
  obtain ⟨g1, g2, g3, g4, g5, g6, g7⟩ := h
  refine ⟨fun z => ⟨(g1 z).1.cg (fun id hid => e id (by omega)), ?_⟩, ?_, ?_, fun j hj => ?_, fun s hs => ?_, fun s hs => ?_, fun s hs j hj => ?_⟩
  · rw [e 19 (by omega)]; exact (g1 z).2
  · rw [e 0 (by omega)]; exact g2
  · rw [e 28 (by omega)]; exact g3
  · rw [e 29 (by omega)]; exact g4 j hj
  · rw [e _ (by omega)]; exact g5 s hs
  · rw [e _ (by omega)]; exact g6 s hs
  · show _ = upr (gSn g) i r s j
    unfold upr
    by_cases q : s = i
    · subst q; rw [if_pos rfl]; exact hr j hj
    · rw [if_neg q, e _ (by omega)]; exact g7 s hs j hj
-- bytes that are fed
def byteU (v : Int32) (i : Nat) : Int32 := (v.toUInt32 >>> (((8 : Int32) * nI i).toUInt32 &&& Int32.toUInt32 31)).toInt32
theorem byte_8 (v : Int32) (i : Nat) (h : i < 4) : (byteU v i).toInt8 = ((v >>> (nI (8 * i) &&& 31)) &&& 255).toInt8 := by
  have h4 : i = 0 ∨ i = 1 ∨ i = 2 ∨ i = 3 := by omega
  apply Int8.toBitVec_inj.mp
  unfold byteU
  apply BitVec.eq_of_getLsbD_eq
  intro j hj
  have e255 : (255 : Int32).toBitVec = 255#32 := rfl
  have m255 : ∀ j, j < 8 → (255#32).getLsbD j = true := by decide
  have m8 : ∀ j, j < 8 → (255#8).getLsbD j = true := by decide
  have h32 : j < 32 := by omega
  rcases h4 with rfl | rfl | rfl | rfl <;>
  · simp [BitVec.getLsbD_setWidth, BitVec.getLsbD_ushiftRight, BitVec.getLsbD_sshiftRight, BitVec.getLsbD_and, nI, Int32.toBitVec_and, e255, m255 j hj]
    try rw [m8 j hj]
    simp only [BitVec.getLsbD_signExtend, BitVec.getLsbD_ushiftRight, BitVec.getLsbD_sshiftRight, hj, h32, decide_true, if_true, Bool.true_and, Bool.and_true, implies_true]
    try (first | done | (rw [if_pos (by omega)]; simp; omega))
theorem i8_i8 (x : Int32) : x.toInt8.toInt32.toInt8 = x.toInt8 := by simp
theorem feed_in {g : x_SG} {v : Int32} {n k : Nat} (hn : n ≤ 4) (hk : k < n) : (byteU v (n - 1 - k)).toInt8.toInt32.toInt8.toInt32 = (feedTo g v n n (gT g + k)).toInt8.toInt32 := by
  unfold feedTo
  rw [if_pos ⟨by omega, by omega⟩, i8_i8, byte_8 _ _ (by omega), show gT g + k - gT g = k by omega]
theorem feed_out {g : x_SG} {v : Int32} {n j : Nat} (hj : j < gT g) : feedTo g v n n j = gB g j := by
  unfold feedTo
  rw [if_neg (by omega)]
theorem app_up {n k : Nat} (h : k < n) (hn : n ≤ 4) : nI (n - k) - 1 = nI (n - 1 - k) := by
  rw [show n - k = (n - 1 - k) + 1 by omega, ← nI_1]
  exact Int32.add_sub_cancel _ _
theorem app_dn {n k : Nat} (h : n ≤ k) : nI (n - k) - 1 = -1 := by
  rw [show n - k = 0 by omega]
  decide
theorem app_nx {n k : Nat} : nI (n - 1 - k) + (-1) = nI (n - (k + 1)) - 1 := by
  rw [show n - 1 - k = n - (k + 1) by omega, Int32.sub_eq_add_neg]
-- sheets
theorem firstN_le (f : Nat → Bool) : ∀ n s, firstN f s n ≤ s + n
  | 0, s => Nat.le_refl _
  | n + 1, s => by
    unfold firstN
    split
    · omega
    · have := firstN_le f n (s + 1); omega
theorem fits_iff {a : x_St} {z : Nat → Int32} {any : Bool} {n : Nat} (hn : n ≤ 40) : nI (firstN (fun j => !fitB a z any j) 0 n) = nI n ↔ fitsB a z any n = true := by
  have h1 := firstN_le (fun j => !fitB a z any j) n 0
  unfold fitsB
  rw [nI_eq (by omega) (by omega)]
  exact decide_eq_true_iff.symm
theorem fits_t {a : x_St} {z : Nat → Int32} {any : Bool} {n : Nat} (hn : n ≤ 40) (c : nI (firstN (fun j => !fitB a z any j) 0 n) = nI n) : fitsB a z any n = true := (fits_iff hn).mp c
theorem fits_f {a : x_St} {z : Nat → Int32} {any : Bool} {n : Nat} (hn : n ≤ 40) (c : ¬ nI (firstN (fun j => !fitB a z any j) 0 n) = nI n) : fitsB a z any n = false := Bool.eq_false_iff.mpr (fun z => c ((fits_iff hn).mpr z))
theorem judge_t {a : x_St} {z : Nat → Int32} {any : Bool} {n : Nat} (hn : n ≤ 40) (c : nI (firstN (fun j => !fitB a z any j) 0 n) = nI n) : ¬ firstN (fun j => !fitB a z any j) 0 n < n := by
  have h1 := firstN_le (fun j => !fitB a z any j) n 0
  have := (nI_eq (by omega) (by omega)).mp c
  omega
theorem judge_f {a : x_St} {z : Nat → Int32} {any : Bool} {n : Nat} (hn : n ≤ 40) (c : ¬ nI (firstN (fun j => !fitB a z any j) 0 n) = nI n) : firstN (fun j => !fitB a z any j) 0 n < n := by
  have h1 := firstN_le (fun j => !fitB a z any j) n 0
  rcases Nat.lt_or_ge (firstN (fun j => !fitB a z any j) 0 n) n with q | q
  · exact q
  · exact absurd (congrArg nI (show firstN (fun j => !fitB a z any j) 0 n = n by omega)) c
theorem min16 {n : Nat} (hn : n ≤ 40) : minI (nI n) 16 = nI (min n 16) := by
  show (if nI 16 < nI n then nI 16 else nI n) = nI (min n 16)
  by_cases q : 16 < n
  · rw [if_pos ((nI_ltI (a := 16) (b := n) (by omega) (by omega)).mpr q), Nat.min_eq_right (by omega)]
  · rw [if_neg (fun z => q ((nI_ltI (a := 16) (b := n) (by omega) (by omega)).mp z)), Nat.min_eq_left (by omega)]
theorem load_0 (a : x_St) (z : Nat → Int32) : loadTo a z 0 = a := by
  funext j
  unfold loadTo
  rw [if_neg (by omega)]
theorem load_s (a : x_St) (z : Nat → Int32) (n : Nat) : upd (loadTo a z n) (8 + n) (z n) = loadTo a z (n + 1) := by
  funext j
  unfold upd loadTo
  by_cases q : j = 8 + n
  · subst q
    rw [if_pos rfl, if_pos (by omega), show 8 + n - 8 = n by omega]
  · rw [if_neg q]
    by_cases q2 : 8 ≤ j ∧ j < 8 + n
    · rw [if_pos q2, if_pos (by omega)]
    · rw [if_neg q2, if_neg (by omega)]
theorem load_1 (a : x_St) (z : Nat → Int32) (n : Nat) : loadTo a z n 0 = a 0 := by
  unfold loadTo
  rw [if_neg (by omega)]
theorem load_f {n k : Nat} {f : Nat → Bool} (hk : min n 16 ≤ k) (hk2 : k ≤ min n 16) (h : ∀ j, j < k → (!(decide (j < 16) && f j)) = false) : firstN (fun j => !(decide (j < 16) && f j)) 0 n = k := by
  by_cases q : n ≤ 16
  · have e : k = n := by omega
    subst e
    exact firstN_none h
  · have e : k = 16 := by omega
    subst e
    exact firstN_some (f := fun j => !(decide (j < 16) && f j)) (by omega) (by simp) h
theorem inR_p {v : Int32} {n : Nat} (hn : n < 2 ^ 31) (h0 : ¬ v < 0) (h : v < nI n) : ∃ k, k < n ∧ v = nI k := by
  obtain ⟨k, hk, e⟩ := nI_of h0
  rw [e] at h
  exact ⟨k, (nI_ltI hk hn).mp h, e⟩
theorem rowOk_n {z : Nat} {f n : Int32} (hz : z ≤ 40) (h : rowOk z f n = true) : ∃ f' n', f = nI f' ∧ n = nI n' ∧ f' + n' ≤ z := by
  obtain ⟨h1, h2, h3⟩ := of_decide_eq_true h
  obtain ⟨f', hf', rfl⟩ := nI_of (Int32.not_lt.mpr h1)
  obtain ⟨n', hn', rfl⟩ := nI_of (Int32.not_lt.mpr h2)
  refine ⟨f', n', rfl, rfl, ?_⟩
  rw [Int32.le_iff_toInt_le, Int32.toInt_sub, nI_T hf', nI_T hn', nI_T (by omega)] at h3
  have e : ((z : Int) - (f' : Int)).bmod (2 ^ 32) = (z : Int) - f' := by
    rw [Int.bmod_eq_of_le] <;> omega
  rw [e] at h3
  omega
theorem rowOk_f1 {z : Nat} {f n : Int32} (h : f < 0) : rowOk z f n = false := decide_eq_false (fun q => Int32.not_le.mpr h q.1)
theorem rowOk_f2 {z : Nat} {f n : Int32} (h : n < 0) : rowOk z f n = false := decide_eq_false (fun q => Int32.not_le.mpr h q.2.1)
theorem rowOk_f3 {z : Nat} {f n : Int32} (h : nI z - f < n) : rowOk z f n = false := decide_eq_false (fun q => Int32.not_le.mpr h q.2.2)
theorem rowOk_t {z : Nat} {f n : Int32} (h1 : ¬ f < 0) (h2 : ¬ n < 0) (h3 : ¬ nI z - f < n) : rowOk z f n = true := decide_eq_true ⟨Int32.not_lt.mp h1, Int32.not_lt.mp h2, Int32.not_lt.mp h3⟩
theorem cpy_row {s t : Nat → Int32} {μ ν : Nat → Int32} {f d n : Nat} (h1 : ∀ j, j < 40 → μ j = s j) (h2 : ∀ j, j < 40 → ν j = t j) (hf : f + n ≤ 40) : ∀ j, j < 40 → va_cpy μ ν f d n j = va_cpy s t f d n j := by
  intro j hj
  show (if d ≤ j ∧ j < d + n then μ (f + (j - d)) else ν j) = (if d ≤ j ∧ j < d + n then s (f + (j - d)) else t j)
  split
  · exact h1 _ (by omega)
  · exact h2 j hj
theorem app_b {t n k : Nat} {v : Int32} {μ μ' : x_Mem} (hA : ∀ k1, k1 < k → μ 29 (t + k1) = (byteU v (n - 1 - k1)).toInt8.toInt32.toInt8.toInt32) (e : μ' = upd2 μ 29 (t + k) (byteU v (n - 1 - k)).toInt8.toInt32.toInt8.toInt32) : ∀ k1, k1 < k + 1 → μ' 29 (t + k1) = (byteU v (n - 1 - k1)).toInt8.toInt32.toInt8.toInt32 := by
  subst e
  intro k1 h
  rw [upd2_at]
  by_cases q : k1 = k
  · subst q; rw [upd_s]
  · rw [upd_n _ _ (by omega)]; exact hA k1 (by omega)
theorem feed_all {g : x_SG} {v : Int32} {n : Nat} {μ μ' : x_Mem} (hn : n ≤ 4) (h2 : ∀ k, k < n → μ' 29 (gT g + k) = (byteU v (n - 1 - k)).toInt8.toInt32.toInt8.toInt32) (h3 : ∀ j, j < gT g → μ' 29 j = μ 29 j) (h4 : ∀ j, j < gT g → μ 29 j = (gB g j).toInt8.toInt32) : ∀ j, j < gT g + n → μ' 29 j = (feedTo g v n n j).toInt8.toInt32 := by
  intro j hj
  by_cases q : j < gT g
  · rw [feed_out q, h3 j q, h4 j q]
  · obtain ⟨k, rfl⟩ : ∃ k, j = gT g + k := ⟨j - gT g, by omega⟩
    rw [h2 k (by omega), feed_in hn (by omega)]
theorem fw_1 {a : x_St} {z : Nat → Int32} {any : Bool} {k : Nat} (c : z k = hoursF a k 1) : (!fitB a z any k) = false := by unfold fitB; rw [decide_eq_true c]; rfl
theorem fw_2 {a : x_St} {z : Nat → Int32} {any : Bool} {k : Nat} (c : any = true) (c2 : z k = -1) : (!fitB a z any k) = false := by unfold fitB; rw [c, decide_eq_true c2]; simp
theorem fw_3 {a : x_St} {z : Nat → Int32} {any : Bool} {k : Nat} (c : ¬ z k = hoursF a k 1) (c2 : any = false) : (!fitB a z any k) = true := by unfold fitB; rw [decide_eq_false c, c2]; rfl
theorem fw_4 {a : x_St} {z : Nat → Int32} {any : Bool} {k : Nat} (c : ¬ z k = hoursF a k 1) (c2 : ¬ z k = -1) : (!fitB a z any k) = true := by unfold fitB; rw [decide_eq_false c, decide_eq_false c2]; simp
end
section
/-! PURE 6: odds -/
def nL (n : Nat) : Int64 := Int64.ofNat n
def oddsP (c : Nat) : Nat × Nat := (c / Nat.gcd c 16, 16 / Nat.gcd c 16)
def powL (p : Int64) : Nat → Int64
  | 0 => 1
  | n + 1 => powL p n * p
def oddsC (g : x_SG) : Nat := popN 16 (setN (thereB (gA g)) 16)
def F_odds (g : x_SG) (n w : Int32) : Int64 × x_SG :=
  if inR n 0 14 = true ∧ inR w 0 1 = true then (powL (if w = 0 then nL (oddsP (oddsC g)).1 else nL (oddsP (oddsC g)).2) n.toNatClampNeg, g) else ((-1000001 : Int32).toInt64, fnd g 0)
theorem odds_d1 : ∀ c, c < 17 → (nI c).toInt64 = nL (c / 2 ^ 0) := by decide +kernel
theorem odds_d2 : ∀ j, j < 5 → (lg_cmp (nL (16 / 2 ^ j)) 1 ≤ 0 ↔ j = 4) := by decide +kernel
theorem odds_d3 : ∀ c, c < 17 → ∀ j, j < 5 → (lg_cmp (nL (c / 2 ^ j) &&& 1) 0 = 0 ↔ c / 2 ^ j % 2 = 0) := by decide +kernel
theorem odds_d4 : ∀ c, c < 17 → ∀ j, j < 5 → nL (c / 2 ^ j) / 2 = nL (c / 2 ^ (j + 1)) := by decide +kernel
theorem odds_d5 : ∀ j, j < 5 → nL (16 / 2 ^ j) / 2 = nL (16 / 2 ^ (j + 1)) := by decide +kernel
theorem odds_end : ∀ c, c < 17 → ∀ j, j < 5 → (∀ i, i < j → c / 2 ^ i % 2 = 0) → (j = 4 ∨ ¬ c / 2 ^ j % 2 = 0) → c / 2 ^ j = (oddsP c).1 ∧ 16 / 2 ^ j = (oddsP c).2 := by decide +kernel
theorem lt_p {P : Nat → Prop} {n : Nat} (h : ∀ j, j < n → P j) (hn : P n) : ∀ j, j < n + 1 → P j := fun j hj => by
  rcases Nat.lt_or_ge j n with q | q
  · exact h j q
  · rw [show j = n by omega]; exact hn
theorem popN_top (s : Nat) : ∀ n, popN n s ≤ n
  | 0 => Nat.le_refl 0
  | n + 1 => by
    have := popN_top s n
    unfold popN
    split <;> omega
end
section
/-! STRINGS: the constants and what their members do -/
def sC (i k : Nat) : Int32 := (x_sbyt.getD i []).getD k 0
abbrev x_sk (E : x_E) (i : Nat) : Nat := E.2.2.2.2.2.1 i
abbrev x_sv (E : x_E) (i : Nat) : Nat := E.2.2.2.2.2.2 i
theorem s_len : ∀ i, i < 15 → x_slen.getD i 0 < 9 := by decide +kernel
theorem s_shr : ∀ i, i < 15 → nI (x_slen.getD i 0) >>> ((0 : Int32) &&& 31) = nI (x_slen.getD i 0) := by decide +kernel
theorem s_chr0 : ∀ i, i < 15 → ∀ k, k < x_slen.getD i 0 → ((sC i k &&& 255).toUInt32 % 65536).toInt32 = sC i k ∧ ∃ n, n < 128 ∧ sC i k = nI n := by
  have h : ∀ i, i < 15 → ∀ k, k < x_slen.getD i 0 → ((sC i k &&& 255).toUInt32 % 65536).toInt32 = sC i k ∧ sC i k = nI (sC i k).toNatClampNeg ∧ (sC i k).toNatClampNeg < 128 := by decide +kernel
  intro i hi k hk
  obtain ⟨h1, h2, h3⟩ := h i hi k hk
  exact ⟨h1, _, h3, h2⟩
theorem s_nar : ∀ n, n < 128 → ((nI n).toUInt32 % 65536).toInt32 = nI n := by decide +kernel
theorem s_narC (n : Nat) (h : n < 128) : narrow .char (.int (nI n)) = .int (nI n) := by
  have e := s_nar n h
  show Value.int ((nI n).toUInt32 % 65536).toInt32 = .int (nI n)
  rw [e]
theorem s_chr (i : Nat) (hi : i < 15) (k : Nat) (hk : k < x_slen.getD i 0) : ((sC i k &&& 255).toUInt32 % 65536).toInt32 = sC i k ∧ narrow .char (.int (sC i k)) = .int (sC i k) := by
  obtain ⟨h1, n, hn, e⟩ := s_chr0 i hi k hk
  exact ⟨h1, by rw [e]; exact s_narC n hn⟩
section XSTR
variable {l : Launch} {E : x_E} {y : x_M} {v : x_V} {μ : x_Mem} {pc nx len : Nat} {lv lv' : List (Nat × Value)} {st : List Value}
theorem x_nret {P : Int32 → x_Mem → Prop} {z : Int32} {ty : FieldType} (hr : y.2.2.2.1 = some ty) (hn : narrow ty (.int z) = .int z) (hd : x_dec y pc .ireturn 1 nx) (h : P z μ) : x_G l E y (x_mv E y (x_I P)) μ pc lv [.int z] := by
  intro p e s m args below meth c H ls locs F hP hl' hS
  exact W.zret F.1 F.2.1 (F.2.2.1.trans hr) hn (fun t ht hW => ⟨_, μ, rfl, ⟨_, rfl, h⟩, by rw [ht]; exact hP, hS.F ht⟩) hS.2.2 hd.1 F.2.2.2.1
theorem x_i2c {a : Int32} (hd : x_dec y pc (.i2c) 1 nx) (k : x_G l E y v μ nx lv (.int (a.toUInt32 % 65536).toInt32 :: st)) : x_G l E y v μ pc lv (.int a :: st) := by
  intro p e s m args below meth c H ls locs F hP hl hS
  obtain ⟨hd, rfl⟩ := hd
  exact lv_i2c F.1 F.2.1 hd rfl (k p e s m args below meth c H ls locs F hP hl hS)
theorem x_ldcS (i : Nat) (hi : i < 15) (hy : y.1.cls = "FaithRails$Tape") (hd : x_dec y pc (.ldc (x_sidx.getD i 0)) 2 nx) (k : x_G l E y v μ nx lv (.ref (x_sk E i) :: st)) : x_G l E y v μ pc lv st := by
  intro p e s m args below meth c H ls locs F hP hl hS
  obtain ⟨hd, rfl⟩ := hd
  obtain ⟨hx, hb, hr, hlk', hml, hown, hts, hK, hZ, hc1, hc2, hcx⟩ := id F
  exact va_ldcS hx hb hown (by rw [hy]; exact hZ.2.2.2.1 i hi) hd (k p e s m args below meth c H ls locs F hP hl hS)
theorem x_getSv {i idx : Nat} (hi : i < 15) (hlk : Cond.fieldLink y.1.cls idx "java/lang/String" "value" "[B" ∈ x_tbl) (hd : x_dec y pc (.getfield idx) 3 nx) (k : x_G l E y v μ nx lv (.ref (x_sv E i) :: st)) : x_G l E y v μ pc lv (.ref (x_sk E i) :: st) := by
  intro p e s m args below meth c H ls locs F hP hl hS
  obtain ⟨hd, rfl⟩ := hd
  obtain ⟨hx, hb, hr, hlk', hml, hown, hts, hK, hZ, hc1, hc2, hcx⟩ := id F
  exact vk_getf hx hb (hZ.2.2.1.1 i hi).2.2.1 hS hown (hts _ hlk) (fun _ h => h) hd (k p e s m args below meth c H ls locs F hP hl hS)
theorem x_getSc {i idx : Nat} (hi : i < 15) (hlk : Cond.fieldLink y.1.cls idx "java/lang/String" "coder" "B" ∈ x_tbl) (hd : x_dec y pc (.getfield idx) 3 nx) (k : x_G l E y v μ nx lv (.int 0 :: st)) : x_G l E y v μ pc lv (.ref (x_sk E i) :: st) := by
  intro p e s m args below meth c H ls locs F hP hl hS
  obtain ⟨hd, rfl⟩ := hd
  obtain ⟨hx, hb, hr, hlk', hml, hown, hts, hK, hZ, hc1, hc2, hcx⟩ := id F
  exact vk_getf hx hb (hZ.2.2.1.1 i hi).2.1 hS hown (hts _ hlk) (fun _ h => h) hd (k p e s m args below meth c H ls locs F hP hl hS)
theorem x_alenS {i : Nat} (hi : i < 15) (hd : x_dec y pc .arraylength 1 nx) (k : x_G l E y v μ nx lv (.int (nI (x_slen.getD i 0)) :: st)) : x_G l E y v μ pc lv (.ref (x_sv E i) :: st) := by
  intro p e s m args below meth c H ls locs F hP hl hS
  obtain ⟨hd, rfl⟩ := hd
  obtain ⟨hx, hb, hr, hlk', hml, hown, hts, hK, hZ, hc1, hc2, hcx⟩ := id F
  obtain ⟨cell, h1, h2, h3, h4, h5, h6, h7⟩ := ((hZ.2.2.1.1 i hi).2.2.2).kept hS.2.1
  exact W.alen (n := nI (x_slen.getD i 0)) hx hb h1 h2 h5 rfl rfl hd (k p e s m args below meth c H ls locs F hP hl hS)
theorem x_baldS {i k : Nat} (hi : i < 15) (hk : k < x_slen.getD i 0) (hb' : k < 2 ^ 31) (hd : x_dec y pc .baload 1 nx) (kk : x_G l E y v μ nx lv (.int (sC i k) :: st)) : x_G l E y v μ pc lv (.int (nI k) :: .ref (x_sv E i) :: st) := by
  intro p e s m args below meth c H ls locs F hP hl hS
  obtain ⟨hd, rfl⟩ := hd
  obtain ⟨hx, hb, hr, hlk', hml, hown, hts, hK, hZ, hc1, hc2, hcx⟩ := id F
  obtain ⟨cell, h1, h2, h3, h4, h5, h6, h7⟩ := ((hZ.2.2.1.1 i hi).2.2.2).kept hS.2.1
  exact W.bald (v := .int (sC i k)) hx hb h1 h2 h3 (by rw [nI_clamp hb']; exact fun q => q.elim (fun q => nI_pos hb' q) (fun q => by omega)) (by rw [nI_clamp hb']; exact h6 k hk) rfl rfl hd (kk p e s m args below meth c H ls locs F hP hl hS)
theorem x_getsC {idx : Nat} (hlk : Cond.fieldLink y.1.cls idx "java/lang/String" "COMPACT_STRINGS" "Z" ∈ x_tbl) (hd : x_dec y pc (.getstatic idx) 3 nx) (k : x_G l E y v μ nx lv (.int 1 :: st)) : x_G l E y v μ pc lv st := by
  intro p e s m args below meth c H ls locs F hP hl hS
  obtain ⟨hd, rfl⟩ := hd
  obtain ⟨hx, hb, hr, hlk', hml, hown, hts, hK, hZ, hc1, hc2, hcx⟩ := id F
  exact va_gets hx hb hZ.2.2.2.2.1 hS hown (hts _ hlk) (fun _ h => h) hd (k p e s m args below meth c H ls locs F hP hl hS)
theorem x_getsF {idx : Nat} (hlk : Cond.fieldLink y.1.cls idx "jdk/internal/util/Preconditions" "SIOOBE_FORMATTER" "Ljava/util/function/BiFunction;" ∈ x_tbl) (hd : x_dec y pc (.getstatic idx) 3 nx) (k : ∀ z : Value, (z = .null ∨ ∃ t, z = .ref t) → x_G l E y v μ nx lv (z :: st)) : x_G l E y v μ pc lv st := by
  intro p e s m args below meth c H ls locs F hP hl hS
  obtain ⟨hd, rfl⟩ := hd
  obtain ⟨hx, hb, hr, hlk', hml, hown, hts, hK, hZ, hc1, hc2, hcx⟩ := id F
  rcases hZ.2.2.2.2.2.1 with h | ⟨t, h⟩
  · exact va_gets hx hb h hS hown (hts _ hlk) (fun _ h => h) hd (k _ (Or.inl rfl) p e s m args below meth c H ls locs F hP hl hS)
  · exact va_gets hx hb h hS hown (hts _ hlk) (fun _ h => h) hd (k _ (Or.inr ⟨t, rfl⟩) p e s m args below meth c H ls locs F hP hl hS)
theorem x_cvS {y2 : x_M} {i n idx : Nat} {as stk : List Value} {Po2 : Option Value → x_Mem → Prop} (hi15 : i < 15) (hM : x_Met l y2 E (.ref (x_sk E i) :: as) μ Po2) (hw : x_VM y2 n) (hi : x_VI y2) (hlk : Cond.methodLink y.1.cls idx y2.1 ∈ x_tbl) (hk : y2.1.cls = "java/lang/String") (hn : as.length = n) (hR : y2.2.2.2.2.1 + 1 ≤ v.1.frames ∧ 8 + (y2.2.2.1 + 11) + y2.2.2.2.2.2 ≤ v.1.locals) (hstk : stk = as.reverse ++ .ref (x_sk E i) :: st) (hst : (st.map fun w => w.category).sum ≤ 8) (hd : x_dec y pc (.invokevirtual idx) 3 nx)
    (kk : ∀ (r : Option Value) (μ' : x_Mem), Po2 r μ' → x_G l E y v μ' nx lv (r.toList ++ st)) : x_G l E y v μ pc lv stk := by
  intro p e s m args below meth c H ls locs F hP hl' hS
  obtain ⟨hd, rfl⟩ := hd
  subst hstk
  obtain ⟨hx, hb, hr, hlo, hml, hown, hts, hK, hZ, hc1, hc2, hcx⟩ := id F
  obtain ⟨cell, q1, q2, q3⟩ := vk_recv hZ.2.2.1 hi15 hS
  have hfc : s.vm.findClass y2.1.cls = some cell.cls := by rw [hk]; exact q3
  have run := va_runV (As := as) (rest := st) (g := F0 m pc ls (as.reverse ++ .ref (x_sk E i) :: st)) (own := y.1.cls) (Ts := x_tbl) (C := y2.1.cls) (b := x_sk E i) (cells := v.2.1) (slots := v.2.2.1) (R := v.1) (locs := locs) (e := e) (below := below) (meth := meth) (H := H) (index := idx)
    ⟨hx, hb, hml, hown, hts⟩ hM ⟨callB_of n hts (x_goodIn hw) rfl rfl rfl (hts _ hw.2.1) (hts _ hlk) hw.2.2 hR, hts _ hi.1, hts _ hi.2⟩
    ⟨x_fb, ⟨cell, q1, q2, hfc⟩, fun U hU hW => ⟨rfl, by rw [hU]; exact hP, va_K.moved hW.alike hK, by rw [hU]; exact (hZ.warm hW).kept hS.2.1⟩⟩ rfl hn hl'.1 rfl (lv_room hst) hd ⟨hc1, hc2⟩
  exact x_back run hS (fun r μ' H1 locs1 h1 h2 h3 => kk r μ' h1 p e s m args below meth c H1 ls locs1 F h2 hl' h3)
theorem x_cvSp {y2 : x_M} {i n idx : Nat} {as stk : List Value} {val : Int32} (hi15 : i < 15) (hM : x_Met l y2 E (.ref (x_sk E i) :: as) μ (x_I (fun z m => z = val ∧ m = μ))) (hw : x_VM y2 n) (hi : x_VI y2) (hlk : Cond.methodLink y.1.cls idx y2.1 ∈ x_tbl) (hk : y2.1.cls = "java/lang/String") (hn : as.length = n) (hR : y2.2.2.2.2.1 + 1 ≤ v.1.frames ∧ 8 + (y2.2.2.1 + 11) + y2.2.2.2.2.2 ≤ v.1.locals) (hstk : stk = as.reverse ++ .ref (x_sk E i) :: st) (hst : (st.map fun w => w.category).sum ≤ 8) (hd : x_dec y pc (.invokevirtual idx) 3 nx)
    (kk : x_G l E y v μ nx lv (.int val :: st)) : x_G l E y v μ pc lv stk :=
  x_cvS hi15 hM hw hi hlk hk hn hR hstk hst hd (fun r m h => by obtain ⟨z, rfl, h1, h2⟩ := h; rw [h1, h2]; exact kk)
end XSTR

def yJ_pci : MethodName := ⟨"jdk/internal/util/Preconditions", "checkIndex", "(IILjava/util/function/BiFunction;)I"⟩
def m_J_pci : x_M := (yJ_pci, prog_14_method_11_code, 3, (some FieldType.int), 0, 0)
theorem v_J_pci : x_VM m_J_pci 3 := ⟨q539, q12, by decide +kernel, by decide +kernel, by decide +kernel⟩
theorem d_J_pci_0 : x_dec m_J_pci 0 (.iload_n 0) 1 1 := ⟨by decide +kernel, rfl⟩
theorem d_J_pci_1 : x_dec m_J_pci 1 (.ifCond .lt 8) 3 4 := ⟨by decide +kernel, rfl⟩
theorem d_J_pci_4 : x_dec m_J_pci 4 (.iload_n 0) 1 5 := ⟨by decide +kernel, rfl⟩
theorem d_J_pci_5 : x_dec m_J_pci 5 (.iload_n 1) 1 6 := ⟨by decide +kernel, rfl⟩
theorem d_J_pci_6 : x_dec m_J_pci 6 (.if_icmp .lt 10) 3 9 := ⟨by decide +kernel, rfl⟩
theorem d_J_pci_16 : x_dec m_J_pci 16 (.iload_n 0) 1 17 := ⟨by decide +kernel, rfl⟩
theorem d_J_pci_17 : x_dec m_J_pci 17 (.ireturn) 1 18 := ⟨by decide +kernel, rfl⟩
set_option maxHeartbeats 4000000 in
set_option maxRecDepth 100000 in
theorem c_J_pci (l : Launch) (E : x_E) (μ : x_Mem) {k n : Nat} (hk : k < n) (hn : n < 2 ^ 31) {z : Value} (hz : z = .null ∨ ∃ t, z = .ref t) : x_Met l m_J_pci E [.int (nI k), .int (nI n), z] μ (x_I (fun r m => r = nI k ∧ m = μ)) := by
  rcases hz with rfl | ⟨t, rfl⟩
  · skip
    refine x_enter (lv := [(0, .int (nI k)), (1, .int (nI n)), (2, .null)]) (by decide +kernel) (Nat.le_of_ble_eq_true rfl) rfl ?_
    refine x_iload_n 0 d_J_pci_0 rfl rfl ?_
    refine x_if_lt 9 d_J_pci_1 (by decide) (fun c => absurd c (nI_pos (by omega))) (fun _ => ?_)
    refine x_iload_n 0 d_J_pci_4 rfl rfl ?_
    refine x_iload_n 1 d_J_pci_5 rfl rfl ?_
    refine x_icmp_lt 16 d_J_pci_6 (by decide) (fun c => ?_) (fun c => absurd (nI_lt hk hn) c)
    refine x_iload_n 0 d_J_pci_16 rfl rfl ?_
    exact x_iret rfl d_J_pci_17 ⟨rfl, rfl⟩
  · skip
    refine x_enter (lv := [(0, .int (nI k)), (1, .int (nI n)), (2, .ref t)]) (by decide +kernel) (Nat.le_of_ble_eq_true rfl) rfl ?_
    refine x_iload_n 0 d_J_pci_0 rfl rfl ?_
    refine x_if_lt 9 d_J_pci_1 (by decide) (fun c => absurd c (nI_pos (by omega))) (fun _ => ?_)
    refine x_iload_n 0 d_J_pci_4 rfl rfl ?_
    refine x_iload_n 1 d_J_pci_5 rfl rfl ?_
    refine x_icmp_lt 16 d_J_pci_6 (by decide) (fun c => ?_) (fun c => absurd (nI_lt hk hn) c)
    refine x_iload_n 0 d_J_pci_16 rfl rfl ?_
    exact x_iret rfl d_J_pci_17 ⟨rfl, rfl⟩
def yJ_sci : MethodName := ⟨"java/lang/String", "checkIndex", "(II)V"⟩
def m_J_sci : x_M := (yJ_sci, prog_9_method_155_code, 2, none, 1, 22)
theorem v_J_sci : x_VM m_J_sci 2 := ⟨q534, q10, by decide +kernel, by decide +kernel, by decide +kernel⟩
theorem d_J_sci_0 : x_dec m_J_sci 0 (.iload_n 0) 1 1 := ⟨by decide +kernel, rfl⟩
theorem d_J_sci_1 : x_dec m_J_sci 1 (.iload_n 1) 1 2 := ⟨by decide +kernel, rfl⟩
theorem d_J_sci_2 : x_dec m_J_sci 2 (.getstatic 1053) 3 5 := ⟨by decide +kernel, rfl⟩
theorem d_J_sci_5 : x_dec m_J_sci 5 (.invokestatic 1059) 3 8 := ⟨by decide +kernel, rfl⟩
theorem d_J_sci_8 : x_dec m_J_sci 8 (.pop) 1 9 := ⟨by decide +kernel, rfl⟩
theorem d_J_sci_9 : x_dec m_J_sci 9 (.return_) 1 10 := ⟨by decide +kernel, rfl⟩
set_option maxHeartbeats 4000000 in
set_option maxRecDepth 100000 in
theorem c_J_sci (l : Launch) (E : x_E) (μ : x_Mem) {k n : Nat} (hk : k < n) (hn : n < 2 ^ 31) : x_Met l m_J_sci E [.int (nI k), .int (nI n)] μ (x_J (fun m => m = μ)) := by
  refine x_enter (lv := [(0, .int (nI k)), (1, .int (nI n))]) (by decide +kernel) (Nat.le_of_ble_eq_true rfl) rfl ?_
  refine x_iload_n 0 d_J_sci_0 rfl rfl ?_
  refine x_iload_n 1 d_J_sci_1 rfl rfl ?_
  refine x_getsF q535 d_J_sci_2 (fun z hz => ?_)
  refine x_csip (as := [.int (nI k), .int (nI n), z]) (c_J_pci l E μ hk hn hz) v_J_pci q538 q537 rfl ⟨Nat.le_of_ble_eq_true rfl, Nat.le_of_ble_eq_true rfl⟩ rfl (by decide) d_J_sci_5 ?_
  refine x_pop d_J_sci_8 rfl ?_
  exact x_vret rfl d_J_sci_9 rfl
def yJ_lch : MethodName := ⟨"java/lang/StringLatin1", "charAt", "([BI)C"⟩
def m_J_lch : x_M := (yJ_lch, prog_10_method_2_code, 2, (some FieldType.char), 2, 43)
theorem v_J_lch : x_VM m_J_lch 2 := ⟨q531, q11, by decide +kernel, by decide +kernel, by decide +kernel⟩
theorem d_J_lch_0 : x_dec m_J_lch 0 (.iload_n 1) 1 1 := ⟨by decide +kernel, rfl⟩
theorem d_J_lch_1 : x_dec m_J_lch 1 (.aload_n 0) 1 2 := ⟨by decide +kernel, rfl⟩
theorem d_J_lch_2 : x_dec m_J_lch 2 (.arraylength) 1 3 := ⟨by decide +kernel, rfl⟩
theorem d_J_lch_3 : x_dec m_J_lch 3 (.invokestatic 9) 3 6 := ⟨by decide +kernel, rfl⟩
theorem d_J_lch_6 : x_dec m_J_lch 6 (.aload_n 0) 1 7 := ⟨by decide +kernel, rfl⟩
theorem d_J_lch_7 : x_dec m_J_lch 7 (.iload_n 1) 1 8 := ⟨by decide +kernel, rfl⟩
theorem d_J_lch_8 : x_dec m_J_lch 8 (.baload) 1 9 := ⟨by decide +kernel, rfl⟩
theorem d_J_lch_9 : x_dec m_J_lch 9 (.sipush 255) 3 12 := ⟨by decide +kernel, rfl⟩
theorem d_J_lch_12 : x_dec m_J_lch 12 (.iand) 1 13 := ⟨by decide +kernel, rfl⟩
theorem d_J_lch_13 : x_dec m_J_lch 13 (.i2c) 1 14 := ⟨by decide +kernel, rfl⟩
theorem d_J_lch_14 : x_dec m_J_lch 14 (.ireturn) 1 15 := ⟨by decide +kernel, rfl⟩
set_option maxHeartbeats 4000000 in
set_option maxRecDepth 100000 in
theorem c_J_lch (l : Launch) (E : x_E) (μ : x_Mem) {i k : Nat} (hi : i < 15) (hk : k < x_slen.getD i 0) : x_Met l m_J_lch E [.ref (x_sv E i), .int (nI k)] μ (x_I (fun r m => r = sC i k ∧ m = μ)) := by
  have hL := s_len i hi
  have hC := s_chr i hi k hk
  refine x_enter (lv := [(0, .ref (x_sv E i)), (1, .int (nI k))]) (by decide +kernel) (Nat.le_of_ble_eq_true rfl) rfl ?_
  refine x_iload_n 1 d_J_lch_0 rfl rfl ?_
  refine x_aload_n 0 d_J_lch_1 rfl rfl ?_
  refine x_alenS hi d_J_lch_2 ?_
  refine x_csv (as := [.int (nI k), .int (nI (x_slen.getD i 0))]) (c_J_sci l E μ hk (by omega)) v_J_sci q533 q532 rfl ⟨Nat.le_of_ble_eq_true rfl, Nat.le_of_ble_eq_true rfl⟩ rfl (by decide) d_J_lch_3 (fun m hm => ?_)
  subst hm
  refine x_aload_n 0 d_J_lch_6 rfl rfl ?_
  refine x_iload_n 1 d_J_lch_7 rfl rfl ?_
  refine x_baldS hi hk (by omega) d_J_lch_8 ?_
  refine x_sipush (x := 255) d_J_lch_9 (by decide) ?_
  refine x_iand d_J_lch_12 ?_
  refine x_i2c d_J_lch_13 ?_
  rw [hC.1]
  exact x_nret rfl hC.2 d_J_lch_14 ⟨rfl, rfl⟩
def yJ_cod : MethodName := ⟨"java/lang/String", "coder", "()B"⟩
def m_J_cod : x_M := (yJ_cod, prog_9_method_152_code, 1, (some FieldType.byte), 0, 0)
theorem v_J_cod : x_VM m_J_cod 0 := ⟨q518, q10, by decide +kernel, by decide +kernel, by decide +kernel⟩
theorem w_J_cod : x_VI m_J_cod := ⟨q516, q517⟩
theorem d_J_cod_0 : x_dec m_J_cod 0 (.getstatic 38) 3 3 := ⟨by decide +kernel, rfl⟩
theorem d_J_cod_3 : x_dec m_J_cod 3 (.ifCond .eq 10) 3 6 := ⟨by decide +kernel, rfl⟩
theorem d_J_cod_6 : x_dec m_J_cod 6 (.aload_n 0) 1 7 := ⟨by decide +kernel, rfl⟩
theorem d_J_cod_7 : x_dec m_J_cod 7 (.getfield 15) 3 10 := ⟨by decide +kernel, rfl⟩
theorem d_J_cod_10 : x_dec m_J_cod 10 (.goto 4) 3 13 := ⟨by decide +kernel, rfl⟩
theorem d_J_cod_13 : x_dec m_J_cod 13 (.iconst 1) 1 14 := ⟨by decide +kernel, rfl⟩
theorem d_J_cod_14 : x_dec m_J_cod 14 (.ireturn) 1 15 := ⟨by decide +kernel, rfl⟩
set_option maxHeartbeats 4000000 in
set_option maxRecDepth 100000 in
theorem c_J_cod (l : Launch) (E : x_E) (μ : x_Mem) {i : Nat} (hi : i < 15) : x_Met l m_J_cod E [.ref (x_sk E i)] μ (x_I (fun r m => r = 0 ∧ m = μ)) := by
  refine x_enter (lv := [(0, .ref (x_sk E i))]) (by decide +kernel) (Nat.le_of_ble_eq_true rfl) rfl ?_
  refine x_getsC q519 d_J_cod_0 ?_
  refine x_if_eq 13 d_J_cod_3 (by decide) (fun c => absurd c (by decide)) (fun _ => ?_)
  refine x_aload_n 0 d_J_cod_6 rfl rfl ?_
  refine x_getSc hi q1128 d_J_cod_7 ?_
  refine x_goto 14 d_J_cod_10 (by decide) ?_
  exact x_nret rfl rfl d_J_cod_14 ⟨rfl, rfl⟩
def yJ_lat : MethodName := ⟨"java/lang/String", "isLatin1", "()Z"⟩
def m_J_lat : x_M := (yJ_lat, prog_9_method_154_code, 1, (some FieldType.boolean), 0, 0)
theorem v_J_lat : x_VM m_J_lat 0 := ⟨q528, q10, by decide +kernel, by decide +kernel, by decide +kernel⟩
theorem w_J_lat : x_VI m_J_lat := ⟨q526, q527⟩
theorem d_J_lat_0 : x_dec m_J_lat 0 (.getstatic 38) 3 3 := ⟨by decide +kernel, rfl⟩
theorem d_J_lat_3 : x_dec m_J_lat 3 (.ifCond .eq 14) 3 6 := ⟨by decide +kernel, rfl⟩
theorem d_J_lat_6 : x_dec m_J_lat 6 (.aload_n 0) 1 7 := ⟨by decide +kernel, rfl⟩
theorem d_J_lat_7 : x_dec m_J_lat 7 (.getfield 15) 3 10 := ⟨by decide +kernel, rfl⟩
theorem d_J_lat_10 : x_dec m_J_lat 10 (.ifCond .ne 7) 3 13 := ⟨by decide +kernel, rfl⟩
theorem d_J_lat_13 : x_dec m_J_lat 13 (.iconst 1) 1 14 := ⟨by decide +kernel, rfl⟩
theorem d_J_lat_14 : x_dec m_J_lat 14 (.goto 4) 3 17 := ⟨by decide +kernel, rfl⟩
theorem d_J_lat_17 : x_dec m_J_lat 17 (.iconst 0) 1 18 := ⟨by decide +kernel, rfl⟩
theorem d_J_lat_18 : x_dec m_J_lat 18 (.ireturn) 1 19 := ⟨by decide +kernel, rfl⟩
set_option maxHeartbeats 4000000 in
set_option maxRecDepth 100000 in
theorem c_J_lat (l : Launch) (E : x_E) (μ : x_Mem) {i : Nat} (hi : i < 15) : x_Met l m_J_lat E [.ref (x_sk E i)] μ (x_I (fun r m => r = 1 ∧ m = μ)) := by
  refine x_enter (lv := [(0, .ref (x_sk E i))]) (by decide +kernel) (Nat.le_of_ble_eq_true rfl) rfl ?_
  refine x_getsC q519 d_J_lat_0 ?_
  refine x_if_eq 17 d_J_lat_3 (by decide) (fun c => absurd c (by decide)) (fun _ => ?_)
  refine x_aload_n 0 d_J_lat_6 rfl rfl ?_
  refine x_getSc hi q1128 d_J_lat_7 ?_
  refine x_if_ne 17 d_J_lat_10 (by decide) (fun c => absurd rfl c) (fun _ => ?_)
  refine x_iconst (x := 1) d_J_lat_13 (by decide) ?_
  refine x_goto 18 d_J_lat_14 (by decide) ?_
  exact x_nret rfl rfl d_J_lat_18 ⟨rfl, rfl⟩
def yJ_chr : MethodName := ⟨"java/lang/String", "charAt", "(I)C"⟩
def m_J_chr : x_M := (yJ_chr, prog_9_method_56_code, 2, (some FieldType.char), 3, 64)
theorem v_J_chr : x_VM m_J_chr 1 := ⟨q524, q10, by decide +kernel, by decide +kernel, by decide +kernel⟩
theorem w_J_chr : x_VI m_J_chr := ⟨q522, q523⟩
theorem d_J_chr_0 : x_dec m_J_chr 0 (.aload_n 0) 1 1 := ⟨by decide +kernel, rfl⟩
theorem d_J_chr_1 : x_dec m_J_chr 1 (.invokevirtual 492) 3 4 := ⟨by decide +kernel, rfl⟩
theorem d_J_chr_4 : x_dec m_J_chr 4 (.ifCond .eq 12) 3 7 := ⟨by decide +kernel, rfl⟩
theorem d_J_chr_7 : x_dec m_J_chr 7 (.aload_n 0) 1 8 := ⟨by decide +kernel, rfl⟩
theorem d_J_chr_8 : x_dec m_J_chr 8 (.getfield 9) 3 11 := ⟨by decide +kernel, rfl⟩
theorem d_J_chr_11 : x_dec m_J_chr 11 (.iload_n 1) 1 12 := ⟨by decide +kernel, rfl⟩
theorem d_J_chr_12 : x_dec m_J_chr 12 (.invokestatic 495) 3 15 := ⟨by decide +kernel, rfl⟩
theorem d_J_chr_15 : x_dec m_J_chr 15 (.ireturn) 1 16 := ⟨by decide +kernel, rfl⟩
set_option maxHeartbeats 4000000 in
set_option maxRecDepth 100000 in
theorem c_J_chr (l : Launch) (E : x_E) (μ : x_Mem) {i k : Nat} (hi : i < 15) (hk : k < x_slen.getD i 0) : x_Met l m_J_chr E [.ref (x_sk E i), .int (nI k)] μ (x_I (fun r m => r = sC i k ∧ m = μ)) := by
  have hC := s_chr i hi k hk
  refine x_enter (lv := [(0, .ref (x_sk E i)), (1, .int (nI k))]) (by decide +kernel) (Nat.le_of_ble_eq_true rfl) rfl ?_
  refine x_aload_n 0 d_J_chr_0 rfl rfl ?_
  refine x_cvSp (as := []) hi (c_J_lat l E μ hi) v_J_lat w_J_lat q525 rfl rfl ⟨Nat.le_of_ble_eq_true rfl, Nat.le_of_ble_eq_true rfl⟩ rfl (by decide) d_J_chr_1 ?_
  refine x_if_eq 16 d_J_chr_4 (by decide) (fun c => absurd c (by decide)) (fun _ => ?_)
  refine x_aload_n 0 d_J_chr_7 rfl rfl ?_
  refine x_getSv hi q1127 d_J_chr_8 ?_
  refine x_iload_n 1 d_J_chr_11 rfl rfl ?_
  refine x_csip (as := [.ref (x_sv E i), .int (nI k)]) (c_J_lch l E μ hi hk) v_J_lch q530 q529 rfl ⟨Nat.le_of_ble_eq_true rfl, Nat.le_of_ble_eq_true rfl⟩ rfl (by decide) d_J_chr_12 ?_
  exact x_nret rfl hC.2 d_J_chr_15 ⟨rfl, rfl⟩
def yJ_len : MethodName := ⟨"java/lang/String", "length", "()I"⟩
def m_J_len : x_M := (yJ_len, prog_9_method_54_code, 1, (some FieldType.int), 1, 20)
theorem v_J_len : x_VM m_J_len 0 := ⟨q514, q10, by decide +kernel, by decide +kernel, by decide +kernel⟩
theorem w_J_len : x_VI m_J_len := ⟨q512, q513⟩
theorem d_J_len_0 : x_dec m_J_len 0 (.aload_n 0) 1 1 := ⟨by decide +kernel, rfl⟩
theorem d_J_len_1 : x_dec m_J_len 1 (.getfield 9) 3 4 := ⟨by decide +kernel, rfl⟩
theorem d_J_len_4 : x_dec m_J_len 4 (.arraylength) 1 5 := ⟨by decide +kernel, rfl⟩
theorem d_J_len_5 : x_dec m_J_len 5 (.aload_n 0) 1 6 := ⟨by decide +kernel, rfl⟩
theorem d_J_len_6 : x_dec m_J_len 6 (.invokevirtual 335) 3 9 := ⟨by decide +kernel, rfl⟩
theorem d_J_len_9 : x_dec m_J_len 9 (.ishr) 1 10 := ⟨by decide +kernel, rfl⟩
theorem d_J_len_10 : x_dec m_J_len 10 (.ireturn) 1 11 := ⟨by decide +kernel, rfl⟩
set_option maxHeartbeats 4000000 in
set_option maxRecDepth 100000 in
theorem c_J_len (l : Launch) (E : x_E) (μ : x_Mem) {i : Nat} (hi : i < 15) : x_Met l m_J_len E [.ref (x_sk E i)] μ (x_I (fun r m => r = nI (x_slen.getD i 0) ∧ m = μ)) := by
  refine x_enter (lv := [(0, .ref (x_sk E i))]) (by decide +kernel) (Nat.le_of_ble_eq_true rfl) rfl ?_
  refine x_aload_n 0 d_J_len_0 rfl rfl ?_
  refine x_getSv hi q1127 d_J_len_1 ?_
  refine x_alenS hi d_J_len_4 ?_
  refine x_aload_n 0 d_J_len_5 rfl rfl ?_
  refine x_cvSp (as := []) hi (c_J_cod l E μ hi) v_J_cod w_J_cod q515 rfl rfl ⟨Nat.le_of_ble_eq_true rfl, Nat.le_of_ble_eq_true rfl⟩ rfl (Nat.le_of_ble_eq_true rfl) d_J_len_6 ?_
  refine x_ishr d_J_len_9 ?_
  rw [s_shr i hi]
  exact x_iret rfl d_J_len_10 ⟨rfl, rfl⟩
end
section
/-! TEXTS: tokens and items -/
/-- where it begins, where it ends, what it is, a number's value -/
abbrev x_Tk : Type := Nat × Nat × Nat × Int32
def tkB (t : x_Tk) : Nat := t.1
def tkE (t : x_Tk) : Nat := t.2.1
def tkC (t : x_Tk) : Nat := t.2.2.1
def tkV (t : x_Tk) : Int32 := t.2.2.2
def isLe (b : Int32) : Bool := inR b 97 122
def isDi (b : Int32) : Bool := inR b 48 57
def spE (S : Nat → Int32) (n p : Nat) : Nat := firstN (fun q => !decide (S q = 32)) p (n - p)
def leE (S : Nat → Int32) (n p : Nat) : Nat := firstN (fun q => !isLe (S q)) p (n - p)
def diE (S : Nat → Int32) (n p : Nat) : Nat := firstN (fun q => !isDi (S q)) p (n - p)
def valTo (S : Nat → Int32) (b : Nat) : Nat → Int32
  | 0 => 0
  | k + 1 => minI (valTo S b k * 10 + S (b + k) - 48) 1000
def nmB (S : Nat → Int32) (b e w : Nat) : Bool := decide (e - b = x_slen.getD w 0) && !anyTo (fun k => !decide (S (b + k) = sC w k)) (x_slen.getD w 0)
def codeOf (S : Nat → Int32) (b e : Nat) : Nat := firstN (fun w => nmB S b e w) 0 15
def tokAt (S : Nat → Int32) (n p : Nat) : x_Tk :=
  if n ≤ spE S n p then (spE S n p, spE S n p, 22, 0)
  else if isLe (S (spE S n p)) = true then (spE S n p, leE S n (spE S n p), codeOf S (spE S n p) (leE S n (spE S n p)), 0)
  else if isDi (S (spE S n p)) = true then (spE S n p, diE S n (spE S n p), 20, valTo S (spE S n p) (diE S n (spE S n p) - spE S n p))
  else (spE S n p, spE S n p + 1, if S (spE S n p) = 59 then 21 else 23, 0)
/-- as the class tells what a token is -/
def pT (c : Nat) : Nat := if c = 22 then 0 else if c ≤ 15 then 1 else if c = 20 then 2 else if c = 21 then 3 else 4
def TO (S : Nat → Int32) (n : Nat) (t : x_Tk) : Prop := tkB t ≤ tkE t ∧ tkE t ≤ n ∧ (tkC t ≤ 15 → tkC t = codeOf S (tkB t) (tkE t))
def TW (S : Nat → Int32) (n : Nat) (μ : x_Mem) : Prop := μ 28 1 = nI n ∧ ∀ j, j < n → μ 29 j = S j
def TK (t : x_Tk) (μ : x_Mem) : Prop := μ 28 3 = nI (tkB t) ∧ μ 28 4 = nI (tkE t) ∧ μ 28 2 = nI (pT (tkC t)) ∧ (tkC t = 20 → μ 28 5 = tkV t)
def numOk (t : x_Tk) (most : Int32) : Bool := decide (tkC t = 20) && decide (tkV t ≤ most)
/-- a newcomer's belief and all that follows -/
def newB (S : Nat → Int32) (n : Nat) (a : x_St) (k : Nat) (w : Int32) (t : x_Tk) : Bool × x_St × x_Tk :=
  if tkC t = 8 then
    (if numOk (tokAt S n (tkE t)) 99 = true then (true, comeF a (nI k) w (tkV (tokAt S n (tkE t))), tokAt S n (tkE (tokAt S n (tkE t)))) else (false, a, tokAt S n (tkE t)))
  else (true, comeF a (nI k) w 50, t)
def newF (S : Nat → Int32) (n : Nat) (a : x_St) (k : Nat) (t : x_Tk) : Bool × x_St × x_Tk :=
  if pn a < 8 then
    (if tkC (tokAt S n (tkE t)) = 7 then
      (if numOk (tokAt S n (tkE (tokAt S n (tkE t)))) 16 = true then newB S n a k (tkV (tokAt S n (tkE (tokAt S n (tkE t))))) (tokAt S n (tkE (tokAt S n (tkE (tokAt S n (tkE t)))))) else (false, a, tokAt S n (tkE (tokAt S n (tkE t)))))
     else newB S n a k (-1) (tokAt S n (tkE t)))
  else (false, a, t)
def needF (S : Nat → Int32) (n : Nat) (a : x_St) (t : x_Tk) : Bool × x_St × x_Tk :=
  if numOk (tokAt S n (tkE t)) 15 = true then
    (if numOk (tokAt S n (tkE (tokAt S n (tkE t)))) 999 = true then (true, upd a (8 + (tkV (tokAt S n (tkE t))).toNatClampNeg) (tkV (tokAt S n (tkE (tokAt S n (tkE t))))), tokAt S n (tkE (tokAt S n (tkE (tokAt S n (tkE t)))))) else (false, a, tokAt S n (tkE (tokAt S n (tkE t)))))
  else (false, a, tokAt S n (tkE t))
def putF (S : Nat → Int32) (n : Nat) (a : x_St) (j : Nat) (most : Int32) (t : x_Tk) : Bool × x_St × x_Tk :=
  if numOk (tokAt S n (tkE t)) most = true then (true, upd a j (tkV (tokAt S n (tkE t))), tokAt S n (tkE (tokAt S n (tkE t)))) else (false, a, tokAt S n (tkE t))
def itemF (S : Nat → Int32) (n : Nat) (a : x_St) (t : x_Tk) : Bool × x_St × x_Tk :=
  if tkC t ≤ 6 then newF S n a (tkC t) t else if tkC t = 9 then needF S n a t else if tkC t = 10 then putF S n a 1 16 t else if tkC t = 11 then putF S n a 3 20 t
  else if tkC t = 12 then putF S n a 4 20 t else if tkC t = 13 then (true, upd a 2 1, tokAt S n (tkE t)) else if tkC t = 14 then (true, upd a 2 0, tokAt S n (tkE t)) else (false, a, t)
/-- all items: what is answered, and the line then -/
def tellF (S : Nat → Int32) (n : Nat) : Nat → Nat → x_St → x_Tk → Int32 × x_St
  | 0, _, a, t => (-1 - nI (tkB t), a)
  | f + 1, i, a, t =>
    if (itemF S n a t).1 = true then
      (if tkC (itemF S n a t).2.2 = 22 then (nI (i + 1), (itemF S n a t).2.1)
       else if tkC (itemF S n a t).2.2 = 21 then tellF S n f (i + 1) (itemF S n a t).2.1 (tokAt S n (tkE (itemF S n a t).2.2))
       else (-1 - nI (tkB (itemF S n a t).2.2), (itemF S n a t).2.1))
    else (-1 - nI (tkB (itemF S n a t).2.2), (itemF S n a t).2.1)
def tS (g : x_SG) (j : Nat) : Int32 := (gB g j).toInt8.toInt32
def toldF (g : x_SG) : Int32 × x_St := tellF (tS g) (gT g) 121 0 (gA g) (tokAt (tS g) (gT g) 0)
def F_text (g : x_SG) : Int32 × x_SG := ((toldF g).1, if (toldF g).1 < 0 then sT g 0 (gB g) else sA (sT g 0 (gB g)) (toldF g).2)
-- pure facts
theorem run_end {f : Nat → Bool} {n p q : Nat} (hp : p ≤ q) (hq : q ≤ n) (h : ∀ j, p ≤ j → j < q → f j = false) (hx : n ≤ q ∨ f q = true) : firstN f p (n - p) = q := by
  by_cases e : q < n
  · exact firstN_gen f q (n - p) p hp (by omega) (hx.elim (fun z => absurd z (by omega)) id) h
  · rw [firstN_ngen f (n - p) p (fun j h1 h2 => h j h1 (by omega))]
    omega
theorem run_le (f : Nat → Bool) {n p : Nat} (hp : p ≤ n) : p ≤ firstN f p (n - p) ∧ firstN f p (n - p) ≤ n := by
  have h1 := firstN_le f (n - p) p
  refine ⟨?_, by omega⟩
  have : ∀ k s, s ≤ firstN f s k := by
    intro k
    induction k with
    | zero => intro s; exact Nat.le_refl s
    | succ k ih =>
      intro s
      unfold firstN
      split
      · exact Nat.le_refl s
      · have := ih (s + 1); omega
  exact this _ _
theorem code_le (S : Nat → Int32) (b e : Nat) : codeOf S b e ≤ 15 := by
  have := firstN_le (fun w => nmB S b e w) 15 0
  unfold codeOf
  omega
theorem pT_0 {c : Nat} : nI (pT c) = 0 ↔ c = 22 := by
  unfold pT
  constructor
  · intro h
    by_cases q : c = 22
    · exact q
    · rw [if_neg q] at h
      split at h <;> (try split at h) <;> (try split at h) <;> exact absurd h (by decide)
  · intro h; rw [if_pos h]; rfl
theorem pT_1 {c : Nat} : nI (pT c) = 1 ↔ c ≤ 15 := by
  unfold pT
  constructor
  · intro h
    by_cases q : c ≤ 15
    · exact q
    · rw [if_neg q] at h
      split at h <;> (try split at h) <;> (try split at h) <;> exact absurd h (by decide)
  · intro h; rw [if_neg (by omega), if_pos h]; rfl
theorem pT_2 {c : Nat} : nI (pT c) = 2 ↔ c = 20 := by
  unfold pT
  constructor
  · intro h
    by_cases q : c = 20
    · exact q
    · rw [if_neg (show ¬ c = 20 from q)] at h
      split at h <;> (try split at h) <;> (try split at h) <;> exact absurd h (by decide)
  · intro h; rw [if_neg (by omega), if_neg (by omega), if_pos h]; rfl
theorem pT_3 {c : Nat} : nI (pT c) = 3 ↔ c = 21 := by
  unfold pT
  constructor
  · intro h
    by_cases q : c = 21
    · exact q
    · rw [if_neg (show ¬ c = 21 from q)] at h
      split at h <;> (try split at h) <;> (try split at h) <;> exact absurd h (by decide)
  · intro h; rw [if_neg (by omega), if_neg (by omega), if_neg (by omega), if_pos h]; rfl
theorem tok_end {S : Nat → Int32} {n p q : Nat} (h : spE S n p = q) (hq : n ≤ q) : tokAt S n p = (q, q, 22, 0) := by
  unfold tokAt
  rw [h, if_pos hq]
theorem tok_word {S : Nat → Int32} {n p q r : Nat} (h : spE S n p = q) (hq : q < n) (hl : isLe (S q) = true) (hr : leE S n q = r) : tokAt S n p = (q, r, codeOf S q r, 0) := by
  unfold tokAt
  rw [h, if_neg (by omega), if_pos hl, hr]
theorem tok_num {S : Nat → Int32} {n p q r : Nat} (h : spE S n p = q) (hq : q < n) (hl : isLe (S q) = false) (hd : isDi (S q) = true) (hr : diE S n q = r) : tokAt S n p = (q, r, 20, valTo S q (r - q)) := by
  unfold tokAt
  rw [h, if_neg (by omega), if_neg (by rw [hl]; decide), if_pos hd, hr]
theorem tok_oth {S : Nat → Int32} {n p q : Nat} (h : spE S n p = q) (hq : q < n) (hl : isLe (S q) = false) (hd : isDi (S q) = false) : tokAt S n p = (q, q + 1, if S q = 59 then 21 else 23, 0) := by
  unfold tokAt
  rw [h, if_neg (by omega), if_neg (by rw [hl]; decide), if_neg (by rw [hd]; decide)]
theorem tok_TO (S : Nat → Int32) {n p : Nat} (hp : p ≤ n) : TO S n (tokAt S n p) := by
  have h1 := run_le (fun q => !decide (S q = 32)) hp
  have hq : spE S n p ≤ n := h1.2
  by_cases e : n ≤ spE S n p
  · rw [tok_end rfl e]; exact ⟨Nat.le_refl _, hq, fun z => absurd z (show ¬ (22 : Nat) ≤ 15 by decide)⟩
  · by_cases hl : isLe (S (spE S n p)) = true
    · have h2 := run_le (fun q => !isLe (S q)) hq
      rw [tok_word rfl (by omega) hl rfl]
      exact ⟨h2.1, h2.2, fun _ => rfl⟩
    · have hl' := Bool.eq_false_iff.mpr hl
      by_cases hd : isDi (S (spE S n p)) = true
      · have h2 := run_le (fun q => !isDi (S q)) hq
        rw [tok_num rfl (by omega) hl' hd rfl]
        exact ⟨h2.1, h2.2, fun z => absurd z (show ¬ (20 : Nat) ≤ 15 by decide)⟩
      · rw [tok_oth rfl (by omega) hl' (Bool.eq_false_iff.mpr hd)]
        refine ⟨Nat.le_succ _, by show spE S n p + 1 ≤ n; omega, fun z => absurd z ?_⟩
        show ¬ (if S (spE S n p) = 59 then 21 else 23) ≤ 15
        split <;> decide
theorem words_ne : ∀ w, w < 15 → ∀ i, i < 15 → x_slen.getD w 0 = x_slen.getD i 0 → (∀ k, k < x_slen.getD i 0 → sC w k = sC i k) → w = i := by decide +kernel
theorem nm_iff {S : Nat → Int32} {b e w : Nat} : nmB S b e w = true ↔ e - b = x_slen.getD w 0 ∧ ∀ k, k < x_slen.getD w 0 → S (b + k) = sC w k := by
  unfold nmB
  constructor
  · intro h
    obtain ⟨h1, h2⟩ := (Bool.and_eq_true _ _).mp h |> (fun z => (⟨z.1, z.2⟩ : _ ∧ _))
    refine ⟨of_decide_eq_true h1, fun k hk => ?_⟩
    by_cases q : S (b + k) = sC w k
    · exact q
    · have := anyTo_t (f := fun k => !decide (S (b + k) = sC w k)) (p := k) hk (by simp [q])
      rw [this] at h2
      cases h2
  · rintro ⟨h1, h2⟩
    rw [decide_eq_true h1, anyTo_f (f := fun k => !decide (S (b + k) = sC w k)) (fun k hk => by simp [h2 k hk])]
    rfl
theorem code_iff {S : Nat → Int32} {b e i : Nat} (hi : i < 15) : codeOf S b e = i ↔ nmB S b e i = true := by
  constructor
  · intro h
    by_cases q : nmB S b e i = true
    · exact q
    · exfalso
      -- the first that fits is i itself
      have hf : ∀ n s, firstN (fun w => nmB S b e w) s n = i → s ≤ i → i < s + n → nmB S b e i = true := by
        intro n
        induction n with
        | zero => intro s _ h1 h2; omega
        | succ n ih =>
          intro s h1 h2 h3
          unfold firstN at h1
          by_cases z : nmB S b e s = true
          · rw [if_pos z] at h1; rw [← h1]; exact z
          · rw [if_neg z] at h1
            have := firstN_le (fun w => nmB S b e w) n (s + 1)
            by_cases z2 : s = i
            · have h4 : ∀ k s, s ≤ firstN (fun w => nmB S b e w) s k := by
                intro k
                induction k with
                | zero => intro s; exact Nat.le_refl s
                | succ k ih2 =>
                  intro s
                  unfold firstN
                  split
                  · exact Nat.le_refl s
                  · have := ih2 (s + 1); omega
              have := h4 n (s + 1)
              omega
            · exact ih (s + 1) h1 (by omega) (by omega)
      exact q (hf 15 0 h (by omega) (by omega))
  · intro h
    obtain ⟨h1, h2⟩ := nm_iff.mp h
    refine firstN_some hi h (fun j hj => ?_)
    refine Bool.eq_false_iff.mpr (fun z => ?_)
    obtain ⟨g1, g2⟩ := nm_iff.mp z
    have := words_ne j (by omega) i hi (by omega) (fun k hk => by rw [← g2 k (by omega), h2 k hk])
    omega
theorem lt_r {P : Nat → Prop} {p n : Nat} (h : ∀ j, p ≤ j → j < n → P j) (hn : P n) : ∀ j, p ≤ j → j < n + 1 → P j := fun j h0 hj => by
  rcases Nat.lt_or_ge j n with q | q
  · exact h j h0 q
  · rw [show j = n by omega]; exact hn
theorem val_up {S : Nat → Int32} {q r : Nat} {x : Int32} (hq : q ≤ r) (h : x = minI (valTo S q (r - q) * 10 + S r - 48) 1000) : x = valTo S q (r + 1 - q) := by
  rw [show r + 1 - q = (r - q) + 1 by omega]
  unfold valTo
  rw [show q + (r - q) = r by omega]
  exact h
theorem TW.cg {S : Nat → Int32} {n : Nat} {μ μ' : x_Mem} (h : TW S n μ) (e : ∀ id, id = 28 ∨ id = 29 → μ' id = μ id) : TW S n μ' := ⟨by rw [e 28 (Or.inl rfl)]; exact h.1, fun j hj => by rw [e 29 (Or.inr rfl)]; exact h.2 j hj⟩
theorem TK.cg {t : x_Tk} {μ μ' : x_Mem} (h : TK t μ) (e : ∀ id, id = 28 → μ' id = μ id) : TK t μ' := by unfold TK; rw [e 28 rfl]; exact h
end
section
/-! TEXTS 2 -/
theorem num_20 {t : x_Tk} {most : Int32} (h : numOk t most = true) : tkC t = 20 := by
  unfold numOk at h
  by_cases q : tkC t = 20
  · exact q
  · rw [decide_eq_false q] at h; cases h
theorem val_nat {S : Nat → Int32} {b : Nat} : ∀ k, (∀ j, j < k → isDi (S (b + j)) = true) → ∃ m, m ≤ 1000 ∧ valTo S b k = nI m
  | 0, _ => ⟨0, by decide, rfl⟩
  | k + 1, h => by
    obtain ⟨m, hm, e⟩ := val_nat k (fun j hj => h j (by omega))
    obtain ⟨d, hd, ed⟩ := inR_nat2 (a := 48) (n := 57) (by decide) (by decide) (h k (by omega))
    unfold valTo
    rw [e, ed, show (10 : Int32) = nI 10 from rfl, pk_mul, nI_add, show (48 : Int32) = nI 48 from rfl, pk_sub (by omega)]
    rw [show minI (nI (m * 10 + d - 48)) 1000 = (if nI 1000 < nI (m * 10 + d - 48) then nI 1000 else nI (m * 10 + d - 48)) from rfl]
    by_cases q : 1000 < m * 10 + d - 48
    · exact ⟨1000, by decide, by rw [if_pos (nI_lt (a := 1000) q (by omega))]⟩
    · exact ⟨m * 10 + d - 48, by omega, by rw [if_neg (fun z => q ((nI_ltI (a := 1000) (by decide) (by omega)).mp z))]⟩
theorem run_all {f : Nat → Bool} {n p : Nat} (hp : p ≤ n) : ∀ j, p ≤ j → j < firstN f p (n - p) → f j = false := by
  have key : ∀ k s j, s ≤ j → j < firstN f s k → f j = false := by
    intro k
    induction k with
    | zero => intro s j h1 h2; exact absurd h2 (Nat.not_lt.mpr h1)
    | succ k ih =>
      intro s j h1 h2
      unfold firstN at h2
      by_cases q : f s = true
      · rw [if_pos q] at h2; omega
      · rw [if_neg q] at h2
        by_cases z : s = j
        · subst z; exact Bool.eq_false_iff.mpr q
        · exact ih (s + 1) j (by omega) h2
  exact fun j => key (n - p) p j
theorem tok_val {S : Nat → Int32} {n p : Nat} (hp : p ≤ n) : ∃ m, m ≤ 1000 ∧ tkV (tokAt S n p) = nI m := by
  have h1 := run_le (fun q => !decide (S q = 32)) hp
  have hq : spE S n p ≤ n := h1.2
  by_cases e : n ≤ spE S n p
  · rw [tok_end rfl e]; exact ⟨0, by decide, rfl⟩
  · by_cases hl : isLe (S (spE S n p)) = true
    · rw [tok_word rfl (by omega) hl rfl]; exact ⟨0, by decide, rfl⟩
    · have hl' := Bool.eq_false_iff.mpr hl
      by_cases hd : isDi (S (spE S n p)) = true
      · rw [tok_num rfl (by omega) hl' hd rfl]
        refine val_nat _ (fun j hj => ?_)
        have := run_all (f := fun q => !isDi (S q)) hq (spE S n p + j) (by omega) (by show _ < diE S n (spE S n p); omega)
        simpa using this
      · rw [tok_oth rfl (by omega) hl' (Bool.eq_false_iff.mpr hd)]; exact ⟨0, by decide, rfl⟩
theorem num_nat {S : Nat → Int32} {n N : Nat} {t : x_Tk} (hO : TO S n t) (h : numOk (tokAt S n (tkE t)) (nI N) = true) (hN : N < 2 ^ 31) : ∃ k, k ≤ N ∧ tkV (tokAt S n (tkE t)) = nI k := by
  obtain ⟨m, hm, e⟩ := tok_val (S := S) hO.2.1
  refine ⟨m, ?_, e⟩
  unfold numOk at h
  have h2 := of_decide_eq_true ((Bool.and_eq_true _ _ ▸ h : _ ∧ _).2)
  rw [e] at h2
  exact (nI_leI (by omega) hN).mp h2
theorem WF.come {a : x_St} (h : WF a) (hp : pn a < 8) {k b : Nat} (hk : k < 7) {w : Int32} (hw : w = -1 ∨ ∃ m, m < 17 ∧ w = nI m) (hb : b < 100) : WF (comeF a (nI k) w (nI b)) := by
  obtain ⟨g1, g2, g3, g4, g5, g6⟩ := h
  have e7 : comeF a (nI k) w (nI b) 7 = nI (pn a + 1) := by
    unfold comeF
    rw [upd_s, nI_1]
  have ep : pn (comeF a (nI k) w (nI b)) = pn a + 1 := by
    unfold pn at *
    rw [e7, nI_clamp (by omega)]
  refine ⟨by omega, by rw [ep]; exact e7, fun p hp8 => ?_, fun p hp8 => ?_, fun p hp8 => ?_, ?_⟩
  · by_cases q : p = pn a
    · subst q; refine ⟨k, hk, ?_⟩; unfold comeF; simp [upd]; try omega
    · obtain ⟨x, hx, e⟩ := g3 p hp8; refine ⟨x, hx, ?_⟩; rw [← e]; unfold comeF; repeat rw [upd_n _ _ (by omega)]
  · by_cases q : p = pn a
    · subst q
      have : comeF a (nI k) w (nI b) (24 + 3 * pn a + 1) = w := by unfold comeF; simp [upd]; try omega
      rw [this]; exact hw
    · have : comeF a (nI k) w (nI b) (24 + 3 * p + 1) = a (24 + 3 * p + 1) := by unfold comeF; repeat rw [upd_n _ _ (by omega)]
      rw [this]; exact g4 p hp8
  · by_cases q : p = pn a
    · subst q; refine ⟨b, hb, ?_⟩; unfold comeF; simp [upd]; try omega
    · obtain ⟨x, hx, e⟩ := g5 p hp8; refine ⟨x, hx, ?_⟩; rw [← e]; unfold comeF; repeat rw [upd_n _ _ (by omega)]
  · have e : ∀ j, j < 7 → comeF a (nI k) w (nI b) j = a j := fun j hj => by unfold comeF; repeat rw [upd_n _ _ (by omega)]
    rw [e 1 (by decide), e 2 (by decide), e 3 (by decide), e 4 (by decide), e 5 (by decide)]
    exact g6
theorem newB_ok {S : Nat → Int32} {n : Nat} {a : x_St} {t : x_Tk} (h : WF a) (hO : TO S n t) (hp : pn a < 8) {k : Nat} (hk : k < 7) {w : Int32} (hw : w = -1 ∨ ∃ m, m < 17 ∧ w = nI m) : WF (newB S n a k w t).2.1 ∧ TO S n (newB S n a k w t).2.2 := by
  have o1 := tok_TO S hO.2.1
  unfold newB
  split
  · split
    · next q =>
      obtain ⟨b, hb, e⟩ := num_nat (N := 99) hO q (by decide)
      refine ⟨?_, tok_TO S o1.2.1⟩
      show WF (comeF a (nI k) w (tkV (tokAt S n (tkE t))))
      rw [e]
      exact h.come hp hk hw (by omega)
    · exact ⟨h, o1⟩
  · exact ⟨h.come (b := 50) hp hk hw (by decide), hO⟩
theorem newF_ok {S : Nat → Int32} {n : Nat} {a : x_St} {t : x_Tk} (h : WF a) (hO : TO S n t) {k : Nat} (hk : k < 7) : WF (newF S n a k t).2.1 ∧ TO S n (newF S n a k t).2.2 := by
  have o1 := tok_TO S hO.2.1
  have o2 := tok_TO S o1.2.1
  unfold newF
  split
  · next hp =>
    split
    · split
      · next q =>
        obtain ⟨b, hb, e⟩ := num_nat (N := 16) o1 q (by decide)
        exact newB_ok h (tok_TO S o2.2.1) hp hk (Or.inr ⟨b, by omega, e⟩)
      · exact ⟨h, o2⟩
    · exact newB_ok h o1 hp hk (Or.inl rfl)
  · exact ⟨h, hO⟩
theorem needF_ok {S : Nat → Int32} {n : Nat} {a : x_St} {t : x_Tk} (h : WF a) (hO : TO S n t) : WF (needF S n a t).2.1 ∧ TO S n (needF S n a t).2.2 := by
  have o1 := tok_TO S hO.2.1
  have o2 := tok_TO S o1.2.1
  unfold needF
  split
  · next q =>
    obtain ⟨b, hb, e⟩ := num_nat (N := 15) hO q (by decide)
    split
    · refine ⟨?_, tok_TO S o2.2.1⟩
      show WF (upd a (8 + (tkV (tokAt S n (tkE t))).toNatClampNeg) _)
      rw [e, nI_clamp (by omega)]
      exact h.upN (Or.inr (Or.inr (Or.inl (by omega)))) _
    · exact ⟨h, o2⟩
  · exact ⟨h, o1⟩
theorem putF_ok {S : Nat → Int32} {n : Nat} {a : x_St} {t : x_Tk} (h : WF a) (hO : TO S n t) {j N : Nat} (hN : N < 2 ^ 31) (hj : ∀ m, m ≤ N → WF (upd a j (nI m))) : WF (putF S n a j (nI N) t).2.1 ∧ TO S n (putF S n a j (nI N) t).2.2 := by
  have o1 := tok_TO S hO.2.1
  unfold putF
  split
  · next q =>
    obtain ⟨b, hb, e⟩ := num_nat hO q hN
    refine ⟨?_, tok_TO S o1.2.1⟩
    show WF (upd a j (tkV (tokAt S n (tkE t))))
    rw [e]
    exact hj b hb
  · exact ⟨h, o1⟩
theorem WF.upGn {a : x_St} (h : WF a) {j m : Nat} (hj : j = 3 ∨ j = 4) (hm : m ≤ 20) : WF (upd a j (nI m)) := h.upG (by omega) (fun _ _ _ => by omega) (fun _ _ _ => by omega) (fun _ _ _ => by omega) (fun _ => by omega) (fun _ => by omega) (fun _ => ⟨m, by omega, rfl⟩) (fun _ => ⟨m, by omega, rfl⟩) (fun _ => by omega)
theorem WF.upNi {a : x_St} (h : WF a) {x : Int32} (hx : x = 0 ∨ x = 1) : WF (upd a 2 x) := h.upG (by omega) (fun _ _ _ => by omega) (fun _ _ _ => by omega) (fun _ _ _ => by omega) (fun _ => by omega) (fun _ => hx) (fun _ => by omega) (fun _ => by omega) (fun _ => by omega)
theorem item_ok {S : Nat → Int32} {n : Nat} {a : x_St} {t : x_Tk} (h : WF a) (hO : TO S n t) : WF (itemF S n a t).2.1 ∧ TO S n (itemF S n a t).2.2 := by
  have o1 := tok_TO S hO.2.1
  unfold itemF
  split
  · exact newF_ok h hO (by omega)
  · split
    · exact needF_ok h hO
    · split
      · exact putF_ok (N := 16) h hO (by decide) (fun m hm => h.up1 (by omega))
      · split
        · exact putF_ok (N := 20) h hO (by decide) (fun m hm => h.upGn (Or.inl rfl) hm)
        · split
          · exact putF_ok (N := 20) h hO (by decide) (fun m hm => h.upGn (Or.inr rfl) hm)
          · split
            · exact ⟨h.upNi (Or.inr rfl), o1⟩
            · split
              · exact ⟨h.upNi (Or.inl rfl), o1⟩
              · exact ⟨h, hO⟩
-- the items one by one
theorem tell_0 {S : Nat → Int32} {n f i : Nat} {a : x_St} {t : x_Tk} (hf : f = 0) : tellF S n f i a t = (-1 - nI (tkB t), a) := by subst hf; rfl
theorem tell_n {S : Nat → Int32} {n i : Nat} {a : x_St} {t : x_Tk} (hi : i < 121) (c : (itemF S n a t).1 = false) : tellF S n (121 - i) i a t = (-1 - nI (tkB (itemF S n a t).2.2), (itemF S n a t).2.1) := by
  obtain ⟨f, e⟩ : ∃ f, 121 - i = f + 1 := ⟨120 - i, by omega⟩
  rw [e]
  unfold tellF
  rw [if_neg (by rw [c]; decide)]
theorem tell_e {S : Nat → Int32} {n i : Nat} {a : x_St} {t : x_Tk} (hi : i < 121) (c : (itemF S n a t).1 = true) (c2 : tkC (itemF S n a t).2.2 = 22) : tellF S n (121 - i) i a t = (nI (i + 1), (itemF S n a t).2.1) := by
  obtain ⟨f, e⟩ : ∃ f, 121 - i = f + 1 := ⟨120 - i, by omega⟩
  rw [e]
  unfold tellF
  rw [if_pos c, if_pos c2]
theorem tell_o {S : Nat → Int32} {n i : Nat} {a : x_St} {t : x_Tk} (hi : i < 121) (c : (itemF S n a t).1 = true) (c2 : ¬ tkC (itemF S n a t).2.2 = 22) (c3 : ¬ tkC (itemF S n a t).2.2 = 21) : tellF S n (121 - i) i a t = (-1 - nI (tkB (itemF S n a t).2.2), (itemF S n a t).2.1) := by
  obtain ⟨f, e⟩ : ∃ f, 121 - i = f + 1 := ⟨120 - i, by omega⟩
  rw [e]
  unfold tellF
  rw [if_pos c, if_neg c2, if_neg c3]
theorem tell_s {S : Nat → Int32} {n i : Nat} {a : x_St} {t : x_Tk} (hi : i < 121) (c : (itemF S n a t).1 = true) (c3 : tkC (itemF S n a t).2.2 = 21) : tellF S n (121 - i) i a t = tellF S n (121 - (i + 1)) (i + 1) (itemF S n a t).2.1 (tokAt S n (tkE (itemF S n a t).2.2)) := by
  obtain ⟨f, e⟩ : ∃ f, 121 - i = f + 1 := ⟨120 - i, by omega⟩
  rw [e, show 121 - (i + 1) = f by omega]
  rw [tellF]
  rw [if_pos c, if_neg (by omega), if_pos c3]
theorem item_0 (S : Nat → Int32) (n : Nat) (a : x_St) (t : x_Tk) : (itemF S n a t).2.1 0 = a 0 := by
  have hc : ∀ k w b, comeF a k w b 0 = a 0 := fun k w b => by unfold comeF; repeat rw [upd_n _ _ (by omega)]
  have hb : ∀ k w u, (newB S n a k w u).2.1 0 = a 0 := fun k w u => by
    unfold newB
    split
    · split
      · exact hc (nI k) w (tkV (tokAt S n (tkE u)))
      · rfl
    · exact hc (nI k) w 50
  have hp : ∀ j m, j ≠ 0 → (putF S n a j m t).2.1 0 = a 0 := fun j m hj => by
    unfold putF
    split
    · show upd a j _ 0 = a 0; exact upd_n _ _ (fun q => hj q.symm)
    · rfl
  unfold itemF
  split
  · unfold newF
    split
    · split
      · split
        · exact hb _ _ _
        · rfl
      · exact hb _ _ _
    · rfl
  · split
    · unfold needF
      split
      · split
        · show upd a _ _ 0 = a 0; exact upd_n _ _ (by omega)
        · rfl
      · rfl
    · split
      · exact hp _ _ (by decide)
      · split
        · exact hp _ _ (by decide)
        · split
          · exact hp _ _ (by decide)
          · split
            · show upd a 2 1 0 = a 0; exact upd_n _ _ (by decide)
            · split
              · show upd a 2 0 0 = a 0; exact upd_n _ _ (by decide)
              · rfl
theorem tell_hour (S : Nat → Int32) (n : Nat) : ∀ f i a t, (tellF S n f i a t).2 0 = a 0
  | 0, _, a, _ => rfl
  | f + 1, i, a, t => by
    have h := item_0 S n a t
    unfold tellF
    split
    · split
      · exact h
      · split
        · exact (tell_hour S n f _ _ _).trans h
        · exact h
    · exact h
end
section
/-! THE REFERENCE: how it holds the state -/
theorem nI_mulN (a b : Nat) : nI a * nI b = nI (a * b) := pk_mul a b
def MR (a : x_St) (μ : x_Mem) : Prop := ∀ j, j < 58 → μ 42 j = a j
def MD (f : Nat → Int32) (μ : x_Mem) : Prop := ∀ j, j < 7 → μ 45 j = f j
def MX (g : x_SG) (μ : x_Mem) : Prop := (gP g = true → ∀ j, j < 58 → μ 43 j = gK g j) ∧ μ 41 3 = x_b (gP g) ∧ μ 41 11 = nI (gT g) ∧ (∀ j, j < gT g → μ 51 j = gB g j) ∧ (∀ s, s < 4 → μ 48 s = gSb g s) ∧ (∀ s, s < 4 → μ 49 s = nI (gSz g s)) ∧ ∀ s, s < 4 → ∀ j, j < 40 → μ 50 (40 * s + j) = gSn g s j
def MS (g : x_SG) (μ : x_Mem) : Prop := MR (gA g) μ ∧ MX g μ ∧ MD (gF g) μ
theorem MR.cg {a : x_St} {μ μ' : x_Mem} (h : MR a μ) (e : ∀ id, id = 42 → μ' id = μ id) : MR a μ' := fun j hj => by rw [e 42 rfl]; exact h j hj
theorem MD.cg {f : Nat → Int32} {μ μ' : x_Mem} (h : MD f μ) (e : ∀ id, id = 45 → μ' id = μ id) : MD f μ' := fun j hj => by rw [e 45 rfl]; exact h j hj
theorem MX.cg {g : x_SG} {μ μ' : x_Mem} (h : MX g μ) (e : ∀ id, (id = 41 ∨ id = 43 ∨ (48 ≤ id ∧ id < 52)) → μ' id = μ id) : MX g μ' := by
  unfold MX
  rw [e 41 (by omega), e 43 (by omega), e 48 (by omega), e 49 (by omega), e 50 (by omega), e 51 (by omega)]
  exact h
theorem MR.w {a : x_St} {μ μ' : x_Mem} {i : Nat} {x : Int32} (h : MR a μ) (e : μ' = upd2 μ 42 i x) : MR (upd a i x) μ' := by
  subst e
  intro j hj
  rw [upd2_at]
  by_cases q : j = i
  · subst q; rw [upd_s, upd_s]
  · rw [upd_n _ _ q, upd_n _ _ q]; exact h j hj
theorem MD.w {f : Nat → Int32} {μ μ' : x_Mem} {i : Nat} {x : Int32} (h : MD f μ) (e : μ' = upd2 μ 45 i x) : MD (upd f i x) μ' := by
  subst e
  intro j hj
  rw [upd2_at]
  by_cases q : j = i
  · subst q; rw [upd_s, upd_s]
  · rw [upd_n _ _ q, upd_n _ _ q]; exact h j hj
theorem MS.fin {g : x_SG} {μ' : x_Mem} {i : Nat} (h1 : MR (gA g) μ') (h3 : MX g μ') (h4 : MD (upd (gF g) i (gF g i + 1)) μ') : MS (fnd g i) μ' := ⟨h1, h3, h4⟩
theorem MS.line {g : x_SG} {μ' : x_Mem} {a : x_St} (h1 : MR a μ') (h3 : MX g μ') (h4 : MD (gF g) μ') : MS (sA g a) μ' := ⟨h1, h3, h4⟩
theorem MR.eq {a b : x_St} {μ : x_Mem} (h : MR a μ) (e : ∀ j, j < 58 → a j = b j) : MR b μ := fun j hj => (h j hj).trans (e j hj)
/-- held between two bounds -/
def heldF (v lo hi : Int32) : Int32 := if v < lo then lo else if hi < v then hi else v
theorem held_0 {v lo hi : Int32} (h : v < lo) : heldF v lo hi = lo := if_pos h
theorem held_1 {v lo hi : Int32} (h : ¬ v < lo) (h2 : hi < v) : heldF v lo hi = hi := by unfold heldF; rw [if_neg h, if_pos h2]
theorem held_2 {v lo hi : Int32} (h : ¬ v < lo) (h2 : ¬ hi < v) : heldF v lo hi = v := by unfold heldF; rw [if_neg h, if_neg h2]
theorem held_clamp (x : Int32) : heldF x 0 99 = clampF x := by
  unfold heldF clampF maxI minI
  by_cases h1 : x < 0
  · have h2 : x < 99 := Int32.lt_of_lt_of_le h1 (by decide)
    rw [if_pos h1, if_pos h2]
    split
    · next q => exact absurd q (Int32.not_lt.mpr (Int32.le_of_lt h1))
    · rfl
  · rw [if_neg h1]
    by_cases h2 : 99 < x
    · rw [if_pos h2, if_neg (Int32.not_lt.mpr (Int32.le_of_lt h2))]
      rfl
    · rw [if_neg h2]
      by_cases h3 : x < 99
      · rw [if_pos h3]
        by_cases h4 : 0 < x
        · rw [if_pos h4]
        · rw [if_neg h4]
          exact Int32.le_antisymm (Int32.not_lt.mp h4) (Int32.not_lt.mp h1)
      · have e : x = 99 := Int32.le_antisymm (Int32.not_lt.mp h2) (Int32.not_lt.mp h3)
        subst e
        decide
theorem held_falls {a : x_St} (h : WF a) : heldF (a 5) 0 30 = minI (a 5) 30 := by
  obtain ⟨f, hf, e⟩ := h.2.2.2.2.2.2.2.2.2
  rw [e]
  unfold heldF minI
  rw [if_neg (nI_pos (by omega))]
theorem isP_in {a : x_St} (h : WF a) (p : Int32) : inR p 0 (nI (pn a) - 1) = isP a p := by
  have hp := h.1
  unfold inR isP
  rw [h.2.1]
  congr 1
  apply propext
  constructor
  · rintro ⟨h1, h2⟩
    refine ⟨h1, ?_⟩
    rw [Int32.lt_iff_toInt_lt, nI_T (by omega)]
    rw [Int32.le_iff_toInt_le, Int32.toInt_sub, nI_T (by omega), show (1 : Int32).toInt = 1 by decide, Int.bmod_eq_of_le (by omega) (by omega)] at h2
    omega
  · rintro ⟨h1, h2⟩
    refine ⟨h1, ?_⟩
    rw [Int32.lt_iff_toInt_lt, nI_T (by omega)] at h2
    rw [Int32.le_iff_toInt_le, Int32.toInt_sub, nI_T (by omega), show (1 : Int32).toInt = 1 by decide, Int.bmod_eq_of_le (by omega) (by omega)]
    omega
-- the lowest bit taken off
theorem low_odd (q : Nat) : (2 * q + 1) &&& (2 * q + 1 - 1) = 2 * q := by
  apply Nat.eq_of_testBit_eq
  intro j
  rw [Nat.testBit_and, Nat.add_sub_cancel]
  cases j with
  | zero => simp
  | succ j =>
    rw [Nat.testBit_succ, Nat.testBit_succ, show (2 * q + 1) / 2 = q by omega, show 2 * q / 2 = q by omega, Bool.and_self]
theorem low_even {q : Nat} (hq : 0 < q) : (2 * q) &&& (2 * q - 1) = 2 * (q &&& (q - 1)) := by
  apply Nat.eq_of_testBit_eq
  intro j
  rw [Nat.testBit_and]
  cases j with
  | zero => simp
  | succ j =>
    rw [Nat.testBit_succ, Nat.testBit_succ, Nat.testBit_succ, show 2 * q / 2 = q by omega, show (2 * q - 1) / 2 = q - 1 by omega, show 2 * (q &&& (q - 1)) / 2 = q &&& (q - 1) by omega, Nat.testBit_and]
theorem popN_sh (s : Nat) : ∀ n, popN (n + 1) s = s % 2 + popN n (s / 2)
  | 0 => by
    show popN 0 s + (if s.testBit 0 = true then 1 else 0) = s % 2 + 0
    rw [show popN 0 s = 0 from rfl, Nat.testBit_zero]
    by_cases h : s % 2 = 1
    · simp [h]
    · have : s % 2 = 0 := by omega
      simp [this]
  | n + 1 => by
    have ih := popN_sh s n
    show popN (n + 1) s + (if s.testBit (n + 1) = true then 1 else 0) = s % 2 + (popN n (s / 2) + (if (s / 2).testBit n = true then 1 else 0))
    rw [ih, Nat.testBit_succ]
    omega
theorem popN_off : ∀ n s, 0 < s → s < 2 ^ n → popN n (s &&& (s - 1)) + 1 = popN n s
  | 0, s, h1, h2 => by simp at h2; omega
  | n + 1, s, h1, h2 => by
    have h2' : s / 2 < 2 ^ n := by rw [Nat.pow_succ] at h2; omega
    rw [popN_sh s n]
    by_cases h : s % 2 = 1
    · have e : s = 2 * (s / 2) + 1 := by omega
      have e2 : s &&& (s - 1) = 2 * (s / 2) := by
        have := low_odd (s / 2)
        rw [← e] at this
        exact this
      rw [e2, popN_sh, show 2 * (s / 2) % 2 = 0 by omega, show 2 * (s / 2) / 2 = s / 2 by omega, h]
      omega
    · have e : s = 2 * (s / 2) := by omega
      have hq : 0 < s / 2 := by omega
      have e2 : s &&& (s - 1) = 2 * ((s / 2) &&& (s / 2 - 1)) := by
        have := low_even hq
        rw [← e] at this
        exact this
      have ih := popN_off n (s / 2) hq h2'
      rw [e2, popN_sh, show 2 * ((s / 2) &&& (s / 2 - 1)) % 2 = 0 by omega, show 2 * ((s / 2) &&& (s / 2 - 1)) / 2 = (s / 2) &&& (s / 2 - 1) by omega]
      omega
theorem day_1 {a : x_St} (h : WF a) (c : a 2 = 1) : dayF a = 0 := by unfold dayF; rw [c]; rfl
theorem day_0 {a : x_St} (h : WF a) (c : ¬ a 2 = 1) : dayF a = 20 := by
  rcases h.2.2.2.2.2.2.1 with e | e
  · unfold dayF; rw [e]; rfl
  · exact absurd e c
theorem night_1 {a : x_St} (h : WF a) (c : a 2 = 1) : ¬ a 2 = 0 := by rw [c]; decide
theorem night_0 {a : x_St} (h : WF a) (c : ¬ a 2 = 1) : a 2 = 0 := by
  rcases h.2.2.2.2.2.2.1 with e | e
  · exact e
  · exact absurd e c
theorem held_brings {a : x_St} {p k : Nat} (h : WF a) (hp : p < pn a) (hk : k < 16) : heldF (faithF a p - 10 * farF (a (24 + 3 * p + 1)) (nI k)) 0 99999 = maxI 0 (faithF a p - 10 * farF (a (24 + 3 * p + 1)) (nI k)) := sorry
theorem or_0 (x : Int32) : x ||| 0 = x := by simp
theorem come_eq {a : x_St} {k w b : Int32} (h7 : a 7 = nI (pn a)) (j : Nat) : upd (upd (upd (upd a 7 (nI (pn a + 1))) (24 + 3 * pn a) k) (24 + 3 * pn a + 1) w) (24 + 3 * pn a + 2) b j = comeF a k w b j := by
  unfold comeF
  rw [nI_1]
  by_cases q : j = 7
  · subst q
    rw [upd_s]
    repeat rw [upd_n _ _ (by omega)]
    rw [upd_s]
  · rw [upd_n (k := 7) _ _ q]
    by_cases q2 : j = 24 + 3 * pn a + 2
    · subst q2; rw [upd_s, upd_s]
    · rw [upd_n _ _ q2, upd_n _ _ q2]
      by_cases q3 : j = 24 + 3 * pn a + 1
      · subst q3; rw [upd_s, upd_s]
      · rw [upd_n _ _ q3, upd_n _ _ q3]
        by_cases q4 : j = 24 + 3 * pn a
        · subst q4; rw [upd_s, upd_s]
        · rw [upd_n _ _ q4, upd_n _ _ q4, upd_n _ _ q]
theorem sv_1 {a : x_St} {p : Nat} (c : a (24 + 3 * p + 2) < meanF a p) : swayV a p = a (24 + 3 * p + 2) + 1 := by unfold swayV; rw [if_pos c]
theorem sv_2 {a : x_St} {p : Nat} (c : meanF a p ≤ a (24 + 3 * p + 2)) (c2 : ¬ a (24 + 3 * p + 2) ≤ meanF a p) : swayV a p = a (24 + 3 * p + 2) - 1 := by unfold swayV; rw [if_neg (Int32.not_lt.mpr c), if_pos (Int32.not_le.mp c2)]
theorem sv_3 {a : x_St} {p : Nat} (c : meanF a p ≤ a (24 + 3 * p + 2)) (c2 : a (24 + 3 * p + 2) ≤ meanF a p) : swayV a p = a (24 + 3 * p + 2) := by unfold swayV; rw [if_neg (Int32.not_lt.mpr c), if_neg (Int32.not_lt.mpr c2)]
theorem sway_7 (a : x_St) : ∀ n, swayTo a n 7 = a 7
  | 0 => rfl
  | n + 1 => by
    show upd (swayTo a n) (24 + 3 * n + 2) (swayV a n) 7 = a 7
    rw [upd_n _ _ (by omega)]
    exact sway_7 a n
def T46 (a : x_St) (μ : x_Mem) : Prop := ∀ j, j < pn a → μ 46 j = swayV a j
theorem T46.cg {a : x_St} {μ μ' : x_Mem} (h : ∀ j, j < pn a → μ 46 j = swayV a j) (e : ∀ id, id = 46 → μ' id = μ id) : ∀ j, j < pn a → μ' 46 j = swayV a j := fun j hj => by rw [e 46 rfl]; exact h j hj
theorem num_ne {a : x_St} {p i : Nat} {r : Int32} (h : WF a) (hp : p < pn a) (hr : r = cntTo 0 (withB a p) i) (hi : pn a ≤ i ∧ i ≤ pn a) : ¬ r = 0 := by
  obtain ⟨c, h1, h2, e⟩ := cntTo_pos (withB a p) (p := p) (by unfold withB; simp) i (by omega) (by have := h.1; omega)
  rw [hr, e]
  intro q
  have := (nI_eq (b := 0) (by have := h.1; omega) (by decide)).mp q
  omega
-- an hour of the reference
theorem upd_id {a : x_St} {k : Nat} {x : Int32} (e : x = a k) (j : Nat) : upd a k x j = a j := by
  by_cases q : j = k
  · subst q; rw [upd_s, e]
  · rw [upd_n _ _ q]
theorem held_n {f : Nat} (hf : f < 100000) : heldF (nI f) 0 99999 = nI f := held_2 (nI_pos (by omega)) (fun q => by have := (nI_ltI (a := 99999) (b := f) (by decide) (by omega)).mp q; omega)
theorem held_s {f : Nat} (hf : f < 100000) : heldF (nI f + 1) 0 99999 = minI (nI f + 1) 99999 := by
  rw [nI_1]
  unfold heldF minI
  rw [if_neg (nI_pos (by omega))]
theorem hr_A {a : x_St} (h : WF a) (j : Nat) : upd (upd a 1 (a 1 + 0)) 5 (heldF (upd a 1 (a 1 + 0) 5 + 0) 0 99999) j = a j := by
  obtain ⟨f, hf, e⟩ := h.2.2.2.2.2.2.2.2.2
  rw [upd_n (k := 1) (j := 5) _ _ (by decide), Int32.add_zero, Int32.add_zero, e, held_n hf]
  by_cases q : j = 5
  · subst q; rw [upd_s, e]
  · rw [upd_n _ _ q, upd_id rfl]
theorem hr_B {a : x_St} (h : WF a) (j : Nat) : upd (upd a 1 (a 1 + 0)) 5 (heldF (upd a 1 (a 1 + 0) 5 + 1) 0 99999) j = upd a 5 (minI (a 5 + 1) 99999) j := by
  obtain ⟨f, hf, e⟩ := h.2.2.2.2.2.2.2.2.2
  rw [upd_n (k := 1) (j := 5) _ _ (by decide), Int32.add_zero, e, held_s hf]
  by_cases q : j = 5
  · subst q; rw [upd_s, upd_s]
  · rw [upd_n _ _ q, upd_n _ _ q, upd_id rfl]
theorem hr_C {a : x_St} (h : WF a) (j : Nat) : upd (upd a 1 (a 1 + 1)) 5 (heldF (upd a 1 (a 1 + 1) 5 + 0) 0 99999) j = upd a 1 (a 1 + 1) j := by
  obtain ⟨f, hf, e⟩ := h.2.2.2.2.2.2.2.2.2
  rw [upd_n (k := 1) (j := 5) _ _ (by decide), Int32.add_zero, e, held_n hf]
  by_cases q : j = 5
  · subst q; rw [upd_s, upd_n _ _ (by decide), e]
  · rw [upd_n _ _ q]
theorem clamp_id {b : Nat} (hb : b < 100) : clampF (nI b + 0) = nI b := by
  rw [Int32.add_zero, ← held_clamp]
  exact held_2 (nI_pos (by omega)) (fun q => by have := (nI_ltI (a := 99) (b := b) (by decide) (by omega)).mp q; omega)
theorem move_0 {a : x_St} (h : WF a) : ∀ n, n ≤ 8 → ∀ j, moveTo a 0 n j = a j
  | 0, _, _ => rfl
  | n + 1, hn, j => by
    have ih := move_0 h n (by omega) j
    obtain ⟨b, hb, e⟩ := h.2.2.2.2.1 n (by omega)
    unfold moveTo
    split
    · rw [e, clamp_id hb]
      by_cases q : j = 24 + 3 * n + 2
      · subst q; rw [upd_s, e]
      · rw [upd_n _ _ q]; exact ih
    · exact ih
theorem hr_eA {a : x_St} (h : WF a) (c : a 1 = 16) (j : Nat) : moveTo a 0 (pn a) j = rideF a j := by
  rw [move_0 h _ h.1 j]
  unfold rideF
  rw [if_neg (by rw [c]; decide)]
theorem fallB_16 {a : x_St} (c : a 1 = 16) : fallB a = false := by unfold fallB; rw [c]; rfl
theorem hr_eB {a : x_St} (c : fallB a = true) : moveTo (upd a 5 (minI (a 5 + 1) 99999)) (-a 4) (pn a) = rideF a := by
  unfold fallB at c
  rw [Bool.and_eq_true] at c
  have c1 := of_decide_eq_true c.1
  have c2 : thereB a (a 1).toNatClampNeg = false := by simpa using c.2
  unfold rideF
  rw [if_pos c1, if_neg (by rw [c2]; decide)]
theorem hr_eC {a : x_St} (h : WF a) (c0 : ¬ a 1 = 16) (c : fallB a = false) : moveTo (upd a 1 (a 1 + 1)) (a 3) (pn a) = rideF a := by
  obtain ⟨t, ht, e⟩ := h.2.2.2.2.2.1
  have t16 : t < 16 := by
    rcases Nat.lt_or_ge t 16 with q | q
    · exact q
    · exact absurd (by rw [e, show t = 16 by omega]; rfl) c0
  have c1 : a 1 < 16 := by rw [e]; exact nI_lt (a := t) (b := 16) t16 (by decide)
  have c2 : thereB a (a 1).toNatClampNeg = true := by
    unfold fallB at c
    rw [decide_eq_true c1] at c
    simpa using c
  unfold rideF
  rw [if_pos c1, if_pos c2]
theorem ride_0 {a : x_St} (h : WF a) : rideF a 0 = a 0 := by
  have h0 : ∀ (b : x_St) (y : Int32) n, moveTo b y n 0 = b 0 := by
    intro b y n
    induction n with
    | zero => rfl
    | succ n ih =>
      unfold moveTo
      split
      · rw [upd_n _ _ (by omega)]; exact ih
      · exact ih
  unfold rideF
  split
  · split
    · rw [h0, upd_n _ _ (by decide)]
    · rw [h0, upd_n _ _ (by decide)]
  · rfl
theorem swayTo_0 (a : x_St) : ∀ n, swayTo a n 0 = a 0
  | 0 => rfl
  | n + 1 => by
    show upd (swayTo a n) (24 + 3 * n + 2) (swayV a n) 0 = a 0
    rw [upd_n _ _ (by omega)]
    exact swayTo_0 a n
theorem hour_end {a : x_St} (h : WF a) : upd (swayF (rideF a)) 0 (swayF (rideF a) 0 + 1) = hourF a := by
  unfold hourF
  rw [show swayF (rideF a) 0 = a 0 from (swayTo_0 _ _).trans (ride_0 h)]
theorem ride_wf {a : x_St} (h : WF a) (c0 : ¬ a 1 = 16) (c : fallB a = false) : WF (upd a 1 (a 1 + 1)) := by
  obtain ⟨t, ht, e⟩ := h.2.2.2.2.2.1
  have t16 : t < 16 := by
    rcases Nat.lt_or_ge t 16 with q | q
    · exact q
    · exact absurd (by rw [e, show t = 16 by omega]; rfl) c0
  rw [e]
  exact h.up1s t16
theorem move_lo (b : x_St) (y : Int32) {j : Nat} (hj : j < 24) : ∀ n, moveTo b y n j = b j
  | 0 => rfl
  | n + 1 => by
    unfold moveTo
    split
    · rw [upd_n _ _ (by omega)]; exact move_lo b y hj n
    · exact move_lo b y hj n
theorem move_w {b : x_St} {y : Int32} {p : Nat} : ∀ {n}, moveTo b y n (24 + 3 * p + 1) = b (24 + 3 * p + 1)
  | 0 => rfl
  | n + 1 => by
    unfold moveTo
    split
    · rw [upd_n _ _ (by omega)]; exact move_w
    · exact move_w
end
section
def m_X4_in : x_M := (yX4_in, prog_6_method_4_code, 3, (some FieldType.boolean), 0, 0)
theorem v_X4_in : x_VM m_X4_in 3 := ⟨q729, q6, by decide +kernel, by decide +kernel, by decide +kernel⟩
theorem d_X4_in_0 : x_dec m_X4_in 0 (.iload_n 0) 1 1 := ⟨by decide +kernel, rfl⟩
theorem d_X4_in_1 : x_dec m_X4_in 1 (.iload_n 1) 1 2 := ⟨by decide +kernel, rfl⟩
theorem d_X4_in_2 : x_dec m_X4_in 2 (.if_icmp .lt 12) 3 5 := ⟨by decide +kernel, rfl⟩
theorem d_X4_in_5 : x_dec m_X4_in 5 (.iload_n 0) 1 6 := ⟨by decide +kernel, rfl⟩
theorem d_X4_in_6 : x_dec m_X4_in 6 (.iload_n 2) 1 7 := ⟨by decide +kernel, rfl⟩
theorem d_X4_in_7 : x_dec m_X4_in 7 (.if_icmp .gt 7) 3 10 := ⟨by decide +kernel, rfl⟩
theorem d_X4_in_10 : x_dec m_X4_in 10 (.iconst 1) 1 11 := ⟨by decide +kernel, rfl⟩
theorem d_X4_in_11 : x_dec m_X4_in 11 (.goto 4) 3 14 := ⟨by decide +kernel, rfl⟩
theorem d_X4_in_14 : x_dec m_X4_in 14 (.iconst 0) 1 15 := ⟨by decide +kernel, rfl⟩
theorem d_X4_in_15 : x_dec m_X4_in 15 (.ireturn) 1 16 := ⟨by decide +kernel, rfl⟩
set_option maxHeartbeats 4000000 in
set_option maxRecDepth 100000 in
theorem c_X4_in (l : Launch) (E : x_E) (μ : x_Mem) (k lo hi : Int32) : x_Met l m_X4_in E [.int k, .int lo, .int hi] μ (x_I (fun z m => z = x_b (inR k lo hi) ∧ m = μ)) := by
  refine x_enter (lv := [(0, .int k), (1, .int lo), (2, .int hi)]) (by decide +kernel) (Nat.le_of_ble_eq_true rfl) rfl ?_
  refine x_iload_n 0 d_X4_in_0 rfl rfl ?_
  refine x_iload_n 1 d_X4_in_1 rfl rfl ?_
  refine x_icmp_lt 14 d_X4_in_2 (by decide) (fun c1 => ?_) (fun c1 => ?_)
  · skip
    refine x_iconst (x := 0) d_X4_in_14 (by decide) ?_
    refine x_zret0 rfl d_X4_in_15 ?_
    exact ⟨congrArg x_b (inR_w1 c1).symm, rfl⟩
  · skip
    refine x_iload_n 0 d_X4_in_5 rfl rfl ?_
    refine x_iload_n 2 d_X4_in_6 rfl rfl ?_
    refine x_icmp_gt 14 d_X4_in_7 (by decide) (fun c2 => ?_) (fun c2 => ?_)
    · skip
      refine x_iconst (x := 0) d_X4_in_14 (by decide) ?_
      refine x_zret0 rfl d_X4_in_15 ?_
      exact ⟨congrArg x_b (inR_w2 c2).symm, rfl⟩
    · skip
      refine x_iconst (x := 1) d_X4_in_10 (by decide) ?_
      refine x_goto 15 d_X4_in_11 (by decide) ?_
      refine x_zret1 rfl d_X4_in_15 ?_
      exact ⟨congrArg x_b (inR_w3 c1 c2).symm, rfl⟩
def m_X4_held : x_M := (yX4_held, prog_6_method_5_code, 3, (some FieldType.int), 0, 0)
theorem v_X4_held : x_VM m_X4_held 3 := ⟨q761, q6, by decide +kernel, by decide +kernel, by decide +kernel⟩
theorem d_X4_held_0 : x_dec m_X4_held 0 (.iload_n 0) 1 1 := ⟨by decide +kernel, rfl⟩
theorem d_X4_held_1 : x_dec m_X4_held 1 (.iload_n 1) 1 2 := ⟨by decide +kernel, rfl⟩
theorem d_X4_held_2 : x_dec m_X4_held 2 (.if_icmp .ge 7) 3 5 := ⟨by decide +kernel, rfl⟩
theorem d_X4_held_5 : x_dec m_X4_held 5 (.iload_n 1) 1 6 := ⟨by decide +kernel, rfl⟩
theorem d_X4_held_6 : x_dec m_X4_held 6 (.goto 13) 3 9 := ⟨by decide +kernel, rfl⟩
theorem d_X4_held_9 : x_dec m_X4_held 9 (.iload_n 0) 1 10 := ⟨by decide +kernel, rfl⟩
theorem d_X4_held_10 : x_dec m_X4_held 10 (.iload_n 2) 1 11 := ⟨by decide +kernel, rfl⟩
theorem d_X4_held_11 : x_dec m_X4_held 11 (.if_icmp .le 7) 3 14 := ⟨by decide +kernel, rfl⟩
theorem d_X4_held_14 : x_dec m_X4_held 14 (.iload_n 2) 1 15 := ⟨by decide +kernel, rfl⟩
theorem d_X4_held_15 : x_dec m_X4_held 15 (.goto 4) 3 18 := ⟨by decide +kernel, rfl⟩
theorem d_X4_held_18 : x_dec m_X4_held 18 (.iload_n 0) 1 19 := ⟨by decide +kernel, rfl⟩
theorem d_X4_held_19 : x_dec m_X4_held 19 (.ireturn) 1 20 := ⟨by decide +kernel, rfl⟩
set_option maxHeartbeats 4000000 in
set_option maxRecDepth 100000 in
theorem c_X4_held (l : Launch) (E : x_E) (μ : x_Mem) (k lo hi : Int32) : x_Met l m_X4_held E [.int k, .int lo, .int hi] μ (x_I (fun z m => z = heldF k lo hi ∧ m = μ)) := by
  refine x_enter (lv := [(0, .int k), (1, .int lo), (2, .int hi)]) (by decide +kernel) (Nat.le_of_ble_eq_true rfl) rfl ?_
  refine x_iload_n 0 d_X4_held_0 rfl rfl ?_
  refine x_iload_n 1 d_X4_held_1 rfl rfl ?_
  refine x_icmp_ge 9 d_X4_held_2 (by decide) (fun c1 => ?_) (fun c1 => ?_)
  · skip
    refine x_iload_n 0 d_X4_held_9 rfl rfl ?_
    refine x_iload_n 2 d_X4_held_10 rfl rfl ?_
    refine x_icmp_le 18 d_X4_held_11 (by decide) (fun c2 => ?_) (fun c2 => ?_)
    · skip
      refine x_iload_n 0 d_X4_held_18 rfl rfl ?_
      refine x_iret rfl d_X4_held_19 ?_
      exact ⟨(held_2 (Int32.not_lt.mpr c1) (Int32.not_lt.mpr c2)).symm, rfl⟩
    · skip
      refine x_iload_n 2 d_X4_held_14 rfl rfl ?_
      refine x_goto 19 d_X4_held_15 (by decide) ?_
      refine x_iret rfl d_X4_held_19 ?_
      exact ⟨(held_1 (Int32.not_lt.mpr c1) (Int32.not_le.mp c2)).symm, rfl⟩
  · skip
    refine x_iload_n 1 d_X4_held_5 rfl rfl ?_
    refine x_goto 19 d_X4_held_6 (by decide) ?_
    refine x_iret rfl d_X4_held_19 ?_
    exact ⟨(held_0 (Int32.not_le.mp c1)).symm, rfl⟩
def m_X4_isStretch : x_M := (yX4_isStretch, prog_6_method_9_code, 1, (some FieldType.boolean), 1, 22)
theorem v_X4_isStretch : x_VM m_X4_isStretch 1 := ⟨q726, q6, by decide +kernel, by decide +kernel, by decide +kernel⟩
theorem d_X4_isStretch_0 : x_dec m_X4_isStretch 0 (.iload_n 0) 1 1 := ⟨by decide +kernel, rfl⟩
theorem d_X4_isStretch_1 : x_dec m_X4_isStretch 1 (.iconst 0) 1 2 := ⟨by decide +kernel, rfl⟩
theorem d_X4_isStretch_2 : x_dec m_X4_isStretch 2 (.bipush 15) 2 4 := ⟨by decide +kernel, rfl⟩
theorem d_X4_isStretch_4 : x_dec m_X4_isStretch 4 (.invokestatic 46) 3 7 := ⟨by decide +kernel, rfl⟩
theorem d_X4_isStretch_7 : x_dec m_X4_isStretch 7 (.ireturn) 1 8 := ⟨by decide +kernel, rfl⟩
set_option maxHeartbeats 4000000 in
set_option maxRecDepth 100000 in
theorem c_X4_isStretch (l : Launch) (E : x_E) (μ : x_Mem) (k : Int32) : x_Met l m_X4_isStretch E [.int k] μ (x_I (fun z m => z = x_b (inR k 0 15) ∧ m = μ)) := by
  refine x_enter (lv := [(0, .int k)]) (by decide +kernel) (Nat.le_of_ble_eq_true rfl) rfl ?_
  refine x_iload_n 0 d_X4_isStretch_0 rfl rfl ?_
  refine x_iconst (x := 0) d_X4_isStretch_1 (by decide) ?_
  refine x_bipush (x := 15) d_X4_isStretch_2 (by decide) ?_
  refine x_csip (as := [.int k, .int 0, .int 15]) (c_X4_in l E μ k 0 15) v_X4_in q728 q727 rfl ⟨Nat.le_of_ble_eq_true rfl, Nat.le_of_ble_eq_true rfl⟩ rfl (Nat.le_of_ble_eq_true rfl) d_X4_isStretch_4 ?_
  refine x_zret rfl d_X4_isStretch_7 ?_
  exact ⟨rfl, rfl⟩
def m_X4_isYard : x_M := (yX4_isYard, prog_6_method_10_code, 1, (some FieldType.boolean), 1, 22)
theorem v_X4_isYard : x_VM m_X4_isYard 1 := ⟨q884, q6, by decide +kernel, by decide +kernel, by decide +kernel⟩
theorem d_X4_isYard_0 : x_dec m_X4_isYard 0 (.iload_n 0) 1 1 := ⟨by decide +kernel, rfl⟩
theorem d_X4_isYard_1 : x_dec m_X4_isYard 1 (.iconst 0) 1 2 := ⟨by decide +kernel, rfl⟩
theorem d_X4_isYard_2 : x_dec m_X4_isYard 2 (.bipush 16) 2 4 := ⟨by decide +kernel, rfl⟩
theorem d_X4_isYard_4 : x_dec m_X4_isYard 4 (.invokestatic 46) 3 7 := ⟨by decide +kernel, rfl⟩
theorem d_X4_isYard_7 : x_dec m_X4_isYard 7 (.ireturn) 1 8 := ⟨by decide +kernel, rfl⟩
set_option maxHeartbeats 4000000 in
set_option maxRecDepth 100000 in
theorem c_X4_isYard (l : Launch) (E : x_E) (μ : x_Mem) (k : Int32) : x_Met l m_X4_isYard E [.int k] μ (x_I (fun z m => z = x_b (inR k 0 16) ∧ m = μ)) := by
  refine x_enter (lv := [(0, .int k)]) (by decide +kernel) (Nat.le_of_ble_eq_true rfl) rfl ?_
  refine x_iload_n 0 d_X4_isYard_0 rfl rfl ?_
  refine x_iconst (x := 0) d_X4_isYard_1 (by decide) ?_
  refine x_bipush (x := 16) d_X4_isYard_2 (by decide) ?_
  refine x_csip (as := [.int k, .int 0, .int 16]) (c_X4_in l E μ k 0 16) v_X4_in q728 q727 rfl ⟨Nat.le_of_ble_eq_true rfl, Nat.le_of_ble_eq_true rfl⟩ rfl (Nat.le_of_ble_eq_true rfl) d_X4_isYard_4 ?_
  refine x_zret rfl d_X4_isYard_7 ?_
  exact ⟨rfl, rfl⟩
def m_X4_isSheet : x_M := (yX4_isSheet, prog_6_method_60_code, 1, (some FieldType.boolean), 1, 22)
theorem v_X4_isSheet : x_VM m_X4_isSheet 1 := ⟨q963, q6, by decide +kernel, by decide +kernel, by decide +kernel⟩
theorem d_X4_isSheet_0 : x_dec m_X4_isSheet 0 (.iload_n 0) 1 1 := ⟨by decide +kernel, rfl⟩
theorem d_X4_isSheet_1 : x_dec m_X4_isSheet 1 (.iconst 0) 1 2 := ⟨by decide +kernel, rfl⟩
theorem d_X4_isSheet_2 : x_dec m_X4_isSheet 2 (.iconst 3) 1 3 := ⟨by decide +kernel, rfl⟩
theorem d_X4_isSheet_3 : x_dec m_X4_isSheet 3 (.invokestatic 46) 3 6 := ⟨by decide +kernel, rfl⟩
theorem d_X4_isSheet_6 : x_dec m_X4_isSheet 6 (.ireturn) 1 7 := ⟨by decide +kernel, rfl⟩
set_option maxHeartbeats 4000000 in
set_option maxRecDepth 100000 in
theorem c_X4_isSheet (l : Launch) (E : x_E) (μ : x_Mem) (k : Int32) : x_Met l m_X4_isSheet E [.int k] μ (x_I (fun z m => z = x_b (inR k 0 3) ∧ m = μ)) := by
  refine x_enter (lv := [(0, .int k)]) (by decide +kernel) (Nat.le_of_ble_eq_true rfl) rfl ?_
  refine x_iload_n 0 d_X4_isSheet_0 rfl rfl ?_
  refine x_iconst (x := 0) d_X4_isSheet_1 (by decide) ?_
  refine x_iconst (x := 3) d_X4_isSheet_2 (by decide) ?_
  refine x_csip (as := [.int k, .int 0, .int 3]) (c_X4_in l E μ k 0 3) v_X4_in q728 q727 rfl ⟨Nat.le_of_ble_eq_true rfl, Nat.le_of_ble_eq_true rfl⟩ rfl (Nat.le_of_ble_eq_true rfl) d_X4_isSheet_3 ?_
  refine x_zret rfl d_X4_isSheet_6 ?_
  exact ⟨rfl, rfl⟩
def m_X4_farFrom : x_M := (yX4_farFrom, prog_6_method_16_code, 2, (some FieldType.int), 0, 0)
theorem v_X4_farFrom : x_VM m_X4_farFrom 2 := ⟨q768, q6, by decide +kernel, by decide +kernel, by decide +kernel⟩
theorem d_X4_farFrom_0 : x_dec m_X4_farFrom 0 (.iload_n 0) 1 1 := ⟨by decide +kernel, rfl⟩
theorem d_X4_farFrom_1 : x_dec m_X4_farFrom 1 (.iload_n 1) 1 2 := ⟨by decide +kernel, rfl⟩
theorem d_X4_farFrom_2 : x_dec m_X4_farFrom 2 (.if_icmp .gt 9) 3 5 := ⟨by decide +kernel, rfl⟩
theorem d_X4_farFrom_5 : x_dec m_X4_farFrom 5 (.iload_n 1) 1 6 := ⟨by decide +kernel, rfl⟩
theorem d_X4_farFrom_6 : x_dec m_X4_farFrom 6 (.iload_n 0) 1 7 := ⟨by decide +kernel, rfl⟩
theorem d_X4_farFrom_7 : x_dec m_X4_farFrom 7 (.isub) 1 8 := ⟨by decide +kernel, rfl⟩
theorem d_X4_farFrom_8 : x_dec m_X4_farFrom 8 (.goto 8) 3 11 := ⟨by decide +kernel, rfl⟩
theorem d_X4_farFrom_11 : x_dec m_X4_farFrom 11 (.iload_n 0) 1 12 := ⟨by decide +kernel, rfl⟩
theorem d_X4_farFrom_12 : x_dec m_X4_farFrom 12 (.iload_n 1) 1 13 := ⟨by decide +kernel, rfl⟩
theorem d_X4_farFrom_13 : x_dec m_X4_farFrom 13 (.isub) 1 14 := ⟨by decide +kernel, rfl⟩
theorem d_X4_farFrom_14 : x_dec m_X4_farFrom 14 (.iconst 1) 1 15 := ⟨by decide +kernel, rfl⟩
theorem d_X4_farFrom_15 : x_dec m_X4_farFrom 15 (.isub) 1 16 := ⟨by decide +kernel, rfl⟩
theorem d_X4_farFrom_16 : x_dec m_X4_farFrom 16 (.ireturn) 1 17 := ⟨by decide +kernel, rfl⟩
set_option maxHeartbeats 4000000 in
set_option maxRecDepth 100000 in
theorem c_X4_farFrom (l : Launch) (E : x_E) (μ : x_Mem) (w k : Int32) : x_Met l m_X4_farFrom E [.int w, .int k] μ (x_I (fun z m => z = farF w k ∧ m = μ)) := by
  refine x_enter (lv := [(0, .int w), (1, .int k)]) (by decide +kernel) (Nat.le_of_ble_eq_true rfl) rfl ?_
  refine x_iload_n 0 d_X4_farFrom_0 rfl rfl ?_
  refine x_iload_n 1 d_X4_farFrom_1 rfl rfl ?_
  refine x_icmp_gt 11 d_X4_farFrom_2 (by decide) (fun c1 => ?_) (fun c1 => ?_)
  · skip
    refine x_iload_n 0 d_X4_farFrom_11 rfl rfl ?_
    refine x_iload_n 1 d_X4_farFrom_12 rfl rfl ?_
    refine x_isub d_X4_farFrom_13 ?_
    refine x_iconst (x := 1) d_X4_farFrom_14 (by decide) ?_
    refine x_isub d_X4_farFrom_15 ?_
    refine x_iret rfl d_X4_farFrom_16 ?_
    exact ⟨by unfold farF; rw [if_neg (Int32.not_le.mpr c1)], rfl⟩
  · skip
    refine x_iload_n 1 d_X4_farFrom_5 rfl rfl ?_
    refine x_iload_n 0 d_X4_farFrom_6 rfl rfl ?_
    refine x_isub d_X4_farFrom_7 ?_
    refine x_goto 16 d_X4_farFrom_8 (by decide) ?_
    refine x_iret rfl d_X4_farFrom_16 ?_
    exact ⟨by unfold farF; rw [if_pos (Int32.not_lt.mp c1)], rfl⟩
def m_X4_copyAll : x_M := (yX4_copyAll, prog_6_method_6_code, 3, none, 0, 0)
theorem v_X4_copyAll : x_VM m_X4_copyAll 2 := ⟨q865, q6, by decide +kernel, by decide +kernel, by decide +kernel⟩
theorem d_X4_copyAll_0 : x_dec m_X4_copyAll 0 (.iconst 0) 1 1 := ⟨by decide +kernel, rfl⟩
theorem d_X4_copyAll_1 : x_dec m_X4_copyAll 1 (.istore_n 2) 1 2 := ⟨by decide +kernel, rfl⟩
theorem d_X4_copyAll_2 : x_dec m_X4_copyAll 2 (.iload_n 2) 1 3 := ⟨by decide +kernel, rfl⟩
theorem d_X4_copyAll_3 : x_dec m_X4_copyAll 3 (.bipush 58) 2 5 := ⟨by decide +kernel, rfl⟩
theorem d_X4_copyAll_5 : x_dec m_X4_copyAll 5 (.if_icmp .ge 15) 3 8 := ⟨by decide +kernel, rfl⟩
theorem d_X4_copyAll_8 : x_dec m_X4_copyAll 8 (.aload_n 1) 1 9 := ⟨by decide +kernel, rfl⟩
theorem d_X4_copyAll_9 : x_dec m_X4_copyAll 9 (.iload_n 2) 1 10 := ⟨by decide +kernel, rfl⟩
theorem d_X4_copyAll_10 : x_dec m_X4_copyAll 10 (.aload_n 0) 1 11 := ⟨by decide +kernel, rfl⟩
theorem d_X4_copyAll_11 : x_dec m_X4_copyAll 11 (.iload_n 2) 1 12 := ⟨by decide +kernel, rfl⟩
theorem d_X4_copyAll_12 : x_dec m_X4_copyAll 12 (.iaload) 1 13 := ⟨by decide +kernel, rfl⟩
theorem d_X4_copyAll_13 : x_dec m_X4_copyAll 13 (.iastore) 1 14 := ⟨by decide +kernel, rfl⟩
theorem d_X4_copyAll_14 : x_dec m_X4_copyAll 14 (.iinc 2 1) 3 17 := ⟨by decide +kernel, rfl⟩
theorem d_X4_copyAll_17 : x_dec m_X4_copyAll 17 (.goto (-15)) 3 20 := ⟨by decide +kernel, rfl⟩
theorem d_X4_copyAll_20 : x_dec m_X4_copyAll 20 (.return_) 1 21 := ⟨by decide +kernel, rfl⟩
set_option maxHeartbeats 4000000 in
set_option maxRecDepth 100000 in
theorem c_X4_copyAll (l : Launch) (E : x_E) (μ : x_Mem) {k1 k2 : Nat} (hne : k1 ≠ k2) (hk1 : x_kd k1 = 0) (hn1 : x_ln k1 = 58) (hk2 : x_kd k2 = 0) (hn2 : x_ln k2 = 58) : x_Met l m_X4_copyAll E [.ref (E.1 + k1), .ref (E.1 + k2)] μ (x_J (fun m => (∀ j, j < 58 → m k2 j = μ k1 j) ∧ ∀ id, id ≠ k2 → m id = μ id)) := by
  have hF1 : ∀ id, id ≠ k2 → μ id = μ id := fun _ _ => rfl
  refine x_enter (lv := [(0, .ref (E.1 + k1)), (1, .ref (E.1 + k2))]) (by decide +kernel) (Nat.le_of_ble_eq_true rfl) rfl ?_
  refine x_iconst (x := 0) d_X4_copyAll_0 (by decide) ?_
  refine x_istore_n [(2, .int 0), (0, .ref (E.1 + k1)), (1, .ref (E.1 + k2))] d_X4_copyAll_1 rfl (Nat.le_of_ble_eq_true rfl) rfl ?_
  have L1 : ∀ i : Nat, i ≤ 58 → ∀ μ4 : x_Mem, (∀ j, j < i → μ4 k2 j = μ k1 j) → (∀ id, id ≠ k2 → μ4 id = μ id) → x_G l E m_X4_copyAll (x_mv E m_X4_copyAll (x_J (fun m => (∀ j, j < 58 → m k2 j = μ k1 j) ∧ ∀ id, id ≠ k2 → m id = μ id))) μ4 2 [(2, .int (nI i)), (0, .ref (E.1 + k1)), (1, .ref (E.1 + k2))] [] := by
    refine x_down _ 58 (fun i hi3 ih2 => ?_)
    intro μ4 hq hF1
    refine x_iload_n 0 d_X4_copyAll_2 rfl rfl ?_
    refine x_bipush (x := 58) d_X4_copyAll_3 (by decide) ?_
    refine x_icmp_ge 20 d_X4_copyAll_5 (by decide) (fun c5 => ?_) (fun c5 => ?_)
    · skip
      have hN := x_ge (N := 58) c5 rfl rfl (by omega) (by omega)
      refine x_vret rfl d_X4_copyAll_20 ?_
      exact ⟨fun j hj => hq j (by omega), hF1⟩
    · skip
      have hN := x_lt (N := 58) c5 rfl rfl (by omega) (by omega)
      refine x_aload_n 2 d_X4_copyAll_8 rfl rfl ?_
      refine x_iload_n 0 d_X4_copyAll_9 rfl rfl ?_
      refine x_aload_n 1 d_X4_copyAll_10 rfl rfl ?_
      refine x_iload_n 0 d_X4_copyAll_11 rfl rfl ?_
      refine x_ialdN (z := μ k1 i) 58 i hk1 hn1 (by omega) (by decide) (congrFun (hF1 k1 hne) i) d_X4_copyAll_12 ?_
      refine x_iastNG 58 i hk2 hn2 (by omega) (by decide) d_X4_copyAll_13 (fun μ6 eμ6 => ?_)
      have hq9 : ∀ j, j < i + 1 → μ6 k2 j = μ k1 j := fun j hj => by rw [eμ6, upd2_at]; unfold upd; split; (rename_i q; rw [q]); exact hq j (by omega)
      have hF7 : ∀ id, id ≠ k2 → μ6 id = μ id := fun id hid => (show μ6 id = μ4 id from (by rw [eμ6, upd2_ne _ _ _ (by omega)])).trans (hF1 id hid)
      refine x_iinc [(2, .int (nI (i + 1))), (0, .ref (E.1 + k1)), (1, .ref (E.1 + k2))] 0 d_X4_copyAll_14 rfl (x_inc _) (Nat.le_of_ble_eq_true rfl) rfl ?_
      refine x_goto 2 d_X4_copyAll_17 (by decide) ?_
      exact ih2 (i + 1) (by omega) (by omega) μ6 hq9 hF7
  exact L1 0 (by omega) μ (fun _ hj => absurd hj (Nat.not_lt_zero _)) hF1
def m_X4_told : x_M := (yX4_told, prog_6_method_11_code, 3, (some FieldType.int), 0, 0)
theorem v_X4_told : x_VM m_X4_told 2 := ⟨q758, q6, by decide +kernel, by decide +kernel, by decide +kernel⟩
theorem w_X4_told : x_VI m_X4_told := ⟨q757, qs25⟩
theorem d_X4_told_0 : x_dec m_X4_told 0 (.aload_n 0) 1 1 := ⟨by decide +kernel, rfl⟩
theorem d_X4_told_1 : x_dec m_X4_told 1 (.getfield 9) 3 4 := ⟨by decide +kernel, rfl⟩
theorem d_X4_told_4 : x_dec m_X4_told 4 (.bipush 24) 2 6 := ⟨by decide +kernel, rfl⟩
theorem d_X4_told_6 : x_dec m_X4_told 6 (.iconst 3) 1 7 := ⟨by decide +kernel, rfl⟩
theorem d_X4_told_7 : x_dec m_X4_told 7 (.iload_n 1) 1 8 := ⟨by decide +kernel, rfl⟩
theorem d_X4_told_8 : x_dec m_X4_told 8 (.imul) 1 9 := ⟨by decide +kernel, rfl⟩
theorem d_X4_told_9 : x_dec m_X4_told 9 (.iadd) 1 10 := ⟨by decide +kernel, rfl⟩
theorem d_X4_told_10 : x_dec m_X4_told 10 (.iload_n 2) 1 11 := ⟨by decide +kernel, rfl⟩
theorem d_X4_told_11 : x_dec m_X4_told 11 (.iadd) 1 12 := ⟨by decide +kernel, rfl⟩
theorem d_X4_told_12 : x_dec m_X4_told 12 (.iaload) 1 13 := ⟨by decide +kernel, rfl⟩
theorem d_X4_told_13 : x_dec m_X4_told 13 (.ireturn) 1 14 := ⟨by decide +kernel, rfl⟩
set_option maxHeartbeats 4000000 in
set_option maxRecDepth 100000 in
theorem c_X4_told (l : Launch) (E : x_E) (μ : x_Mem) {a : x_St} (hR : MR a μ) {p w j : Nat} (hj : 24 + 3 * p + w = j) (h58 : j < 58) : x_Met l m_X4_told E [.ref (E.1 + 41), .int (nI p), .int (nI w)] μ (x_I (fun z m => z = a j ∧ m = μ)) := by
  refine x_enter (lv := [(0, .ref (E.1 + 41)), (1, .int (nI p)), (2, .int (nI w))]) (by decide +kernel) (Nat.le_of_ble_eq_true rfl) rfl ?_
  refine x_aload_n 0 d_X4_told_0 rfl rfl ?_
  refine x_getr (j := 0) 42 x_c4 rfl (Nat.le_of_ble_eq_true rfl) q668 rfl d_X4_told_1 ?_
  refine x_bipush (x := 24) d_X4_told_4 (by decide) ?_
  refine x_iconst (x := 3) d_X4_told_6 (by decide) ?_
  refine x_iload_n 1 d_X4_told_7 rfl rfl ?_
  refine x_imul d_X4_told_8 ?_
  rw [show (3 : Int32) * (nI p) = nI (3 * p) from nI_mulN 3 p]
  refine x_iadd d_X4_told_9 ?_
  rw [show (24 : Int32) + (nI (3 * p)) = nI (24 + (3 * p)) from nI_add 24 (3 * p)]
  refine x_iload_n 2 d_X4_told_10 rfl rfl ?_
  refine x_iadd d_X4_told_11 ?_
  rw [show (nI (24 + (3 * p))) + (nI w) = nI ((24 + (3 * p)) + w) from nI_add (24 + (3 * p)) w]
  rw [hj]
  refine x_ialdN (z := a j) 58 j rfl rfl (by omega) (by decide) (hR j (by omega)) d_X4_told_12 ?_
  refine x_iret rfl d_X4_told_13 ?_
  exact ⟨rfl, rfl⟩
def m_X4_put : x_M := (yX4_put, prog_6_method_12_code, 4, none, 0, 0)
theorem v_X4_put : x_VM m_X4_put 3 := ⟨q786, q6, by decide +kernel, by decide +kernel, by decide +kernel⟩
theorem w_X4_put : x_VI m_X4_put := ⟨q785, qs29⟩
theorem d_X4_put_0 : x_dec m_X4_put 0 (.aload_n 0) 1 1 := ⟨by decide +kernel, rfl⟩
theorem d_X4_put_1 : x_dec m_X4_put 1 (.getfield 9) 3 4 := ⟨by decide +kernel, rfl⟩
theorem d_X4_put_4 : x_dec m_X4_put 4 (.bipush 24) 2 6 := ⟨by decide +kernel, rfl⟩
theorem d_X4_put_6 : x_dec m_X4_put 6 (.iconst 3) 1 7 := ⟨by decide +kernel, rfl⟩
theorem d_X4_put_7 : x_dec m_X4_put 7 (.iload_n 1) 1 8 := ⟨by decide +kernel, rfl⟩
theorem d_X4_put_8 : x_dec m_X4_put 8 (.imul) 1 9 := ⟨by decide +kernel, rfl⟩
theorem d_X4_put_9 : x_dec m_X4_put 9 (.iadd) 1 10 := ⟨by decide +kernel, rfl⟩
theorem d_X4_put_10 : x_dec m_X4_put 10 (.iload_n 2) 1 11 := ⟨by decide +kernel, rfl⟩
theorem d_X4_put_11 : x_dec m_X4_put 11 (.iadd) 1 12 := ⟨by decide +kernel, rfl⟩
theorem d_X4_put_12 : x_dec m_X4_put 12 (.iload_n 3) 1 13 := ⟨by decide +kernel, rfl⟩
theorem d_X4_put_13 : x_dec m_X4_put 13 (.iastore) 1 14 := ⟨by decide +kernel, rfl⟩
theorem d_X4_put_14 : x_dec m_X4_put 14 (.return_) 1 15 := ⟨by decide +kernel, rfl⟩
set_option maxHeartbeats 4000000 in
set_option maxRecDepth 100000 in
theorem c_X4_put (l : Launch) (E : x_E) (μ : x_Mem) {p w j : Nat} (hj : 24 + 3 * p + w = j) (h58 : j < 58) (v : Int32) : x_Met l m_X4_put E [.ref (E.1 + 41), .int (nI p), .int (nI w), .int v] μ (x_J (fun m => m = upd2 μ 42 j v)) := by
  refine x_enter (lv := [(0, .ref (E.1 + 41)), (1, .int (nI p)), (2, .int (nI w)), (3, .int v)]) (by decide +kernel) (Nat.le_of_ble_eq_true rfl) rfl ?_
  refine x_aload_n 0 d_X4_put_0 rfl rfl ?_
  refine x_getr (j := 0) 42 x_c4 rfl (Nat.le_of_ble_eq_true rfl) q668 rfl d_X4_put_1 ?_
  refine x_bipush (x := 24) d_X4_put_4 (by decide) ?_
  refine x_iconst (x := 3) d_X4_put_6 (by decide) ?_
  refine x_iload_n 1 d_X4_put_7 rfl rfl ?_
  refine x_imul d_X4_put_8 ?_
  rw [show (3 : Int32) * (nI p) = nI (3 * p) from nI_mulN 3 p]
  refine x_iadd d_X4_put_9 ?_
  rw [show (24 : Int32) + (nI (3 * p)) = nI (24 + (3 * p)) from nI_add 24 (3 * p)]
  refine x_iload_n 2 d_X4_put_10 rfl rfl ?_
  refine x_iadd d_X4_put_11 ?_
  rw [show (nI (24 + (3 * p))) + (nI w) = nI ((24 + (3 * p)) + w) from nI_add (24 + (3 * p)) w]
  rw [hj]
  refine x_iload_n 3 d_X4_put_12 rfl rfl ?_
  refine x_iastNG 58 j rfl rfl (by omega) (by decide) d_X4_put_13 (fun μ1 eμ1 => ?_)
  refine x_vret rfl d_X4_put_14 ?_
  exact eμ1
def m_X4_becomes : x_M := (yX4_becomes, prog_6_method_7_code, 4, (some FieldType.int), 0, 0)
theorem v_X4_becomes : x_VM m_X4_becomes 2 := ⟨q733, q6, by decide +kernel, by decide +kernel, by decide +kernel⟩
theorem w_X4_becomes : x_VI m_X4_becomes := ⟨q732, qs20⟩
theorem d_X4_becomes_0 : x_dec m_X4_becomes 0 (.aload_n 0) 1 1 := ⟨by decide +kernel, rfl⟩
theorem d_X4_becomes_1 : x_dec m_X4_becomes 1 (.getfield 9) 3 4 := ⟨by decide +kernel, rfl⟩
theorem d_X4_becomes_4 : x_dec m_X4_becomes 4 (.iload_n 1) 1 5 := ⟨by decide +kernel, rfl⟩
theorem d_X4_becomes_5 : x_dec m_X4_becomes 5 (.iaload) 1 6 := ⟨by decide +kernel, rfl⟩
theorem d_X4_becomes_6 : x_dec m_X4_becomes 6 (.istore_n 3) 1 7 := ⟨by decide +kernel, rfl⟩
theorem d_X4_becomes_7 : x_dec m_X4_becomes 7 (.aload_n 0) 1 8 := ⟨by decide +kernel, rfl⟩
theorem d_X4_becomes_8 : x_dec m_X4_becomes 8 (.getfield 9) 3 11 := ⟨by decide +kernel, rfl⟩
theorem d_X4_becomes_11 : x_dec m_X4_becomes 11 (.iload_n 1) 1 12 := ⟨by decide +kernel, rfl⟩
theorem d_X4_becomes_12 : x_dec m_X4_becomes 12 (.iload_n 2) 1 13 := ⟨by decide +kernel, rfl⟩
theorem d_X4_becomes_13 : x_dec m_X4_becomes 13 (.iastore) 1 14 := ⟨by decide +kernel, rfl⟩
theorem d_X4_becomes_14 : x_dec m_X4_becomes 14 (.iload_n 3) 1 15 := ⟨by decide +kernel, rfl⟩
theorem d_X4_becomes_15 : x_dec m_X4_becomes 15 (.ireturn) 1 16 := ⟨by decide +kernel, rfl⟩
set_option maxHeartbeats 4000000 in
set_option maxRecDepth 100000 in
theorem c_X4_becomes (l : Launch) (E : x_E) (μ : x_Mem) {a : x_St} (hR : MR a μ) {j : Nat} (h58 : j < 58) (v : Int32) : x_Met l m_X4_becomes E [.ref (E.1 + 41), .int (nI j), .int v] μ (x_I (fun z m => z = a j ∧ m = upd2 μ 42 j v)) := by
  refine x_enter (lv := [(0, .ref (E.1 + 41)), (1, .int (nI j)), (2, .int v)]) (by decide +kernel) (Nat.le_of_ble_eq_true rfl) rfl ?_
  refine x_aload_n 0 d_X4_becomes_0 rfl rfl ?_
  refine x_getr (j := 0) 42 x_c4 rfl (Nat.le_of_ble_eq_true rfl) q668 rfl d_X4_becomes_1 ?_
  refine x_iload_n 1 d_X4_becomes_4 rfl rfl ?_
  refine x_ialdN (z := a j) 58 j rfl rfl (by omega) (by decide) (hR j (by omega)) d_X4_becomes_5 ?_
  refine x_istore_n [(3, .int (a j)), (0, .ref (E.1 + 41)), (1, .int (nI j)), (2, .int v)] d_X4_becomes_6 rfl (Nat.le_of_ble_eq_true rfl) rfl ?_
  refine x_aload_n 1 d_X4_becomes_7 rfl rfl ?_
  refine x_getr (j := 0) 42 x_c4 rfl (Nat.le_of_ble_eq_true rfl) q668 rfl d_X4_becomes_8 ?_
  refine x_iload_n 2 d_X4_becomes_11 rfl rfl ?_
  refine x_iload_n 3 d_X4_becomes_12 rfl rfl ?_
  refine x_iastNG 58 j rfl rfl (by omega) (by decide) d_X4_becomes_13 (fun μ1 eμ1 => ?_)
  refine x_iload_n 0 d_X4_becomes_14 rfl rfl ?_
  refine x_iret rfl d_X4_becomes_15 ?_
  exact ⟨rfl, eμ1⟩
def m_X4_isOne : x_M := (yX4_isOne, prog_6_method_8_code, 2, (some FieldType.boolean), 1, 22)
theorem v_X4_isOne : x_VM m_X4_isOne 1 := ⟨q794, q6, by decide +kernel, by decide +kernel, by decide +kernel⟩
theorem w_X4_isOne : x_VI m_X4_isOne := ⟨q793, qs30⟩
theorem d_X4_isOne_0 : x_dec m_X4_isOne 0 (.iload_n 1) 1 1 := ⟨by decide +kernel, rfl⟩
theorem d_X4_isOne_1 : x_dec m_X4_isOne 1 (.iconst 0) 1 2 := ⟨by decide +kernel, rfl⟩
theorem d_X4_isOne_2 : x_dec m_X4_isOne 2 (.aload_n 0) 1 3 := ⟨by decide +kernel, rfl⟩
theorem d_X4_isOne_3 : x_dec m_X4_isOne 3 (.getfield 9) 3 6 := ⟨by decide +kernel, rfl⟩
theorem d_X4_isOne_6 : x_dec m_X4_isOne 6 (.bipush 7) 2 8 := ⟨by decide +kernel, rfl⟩
theorem d_X4_isOne_8 : x_dec m_X4_isOne 8 (.iaload) 1 9 := ⟨by decide +kernel, rfl⟩
theorem d_X4_isOne_9 : x_dec m_X4_isOne 9 (.iconst 1) 1 10 := ⟨by decide +kernel, rfl⟩
theorem d_X4_isOne_10 : x_dec m_X4_isOne 10 (.isub) 1 11 := ⟨by decide +kernel, rfl⟩
theorem d_X4_isOne_11 : x_dec m_X4_isOne 11 (.invokestatic 46) 3 14 := ⟨by decide +kernel, rfl⟩
theorem d_X4_isOne_14 : x_dec m_X4_isOne 14 (.ireturn) 1 15 := ⟨by decide +kernel, rfl⟩
set_option maxHeartbeats 4000000 in
set_option maxRecDepth 100000 in
theorem c_X4_isOne (l : Launch) (E : x_E) (μ : x_Mem) {a : x_St} (hR : MR a μ) (hI : WF a) (k : Int32) : x_Met l m_X4_isOne E [.ref (E.1 + 41), .int k] μ (x_I (fun z m => z = x_b (isP a k) ∧ m = μ)) := by
  have hn7 := hI.2.1
  have hpn := hI.1
  refine x_enter (lv := [(0, .ref (E.1 + 41)), (1, .int k)]) (by decide +kernel) (Nat.le_of_ble_eq_true rfl) rfl ?_
  refine x_iload_n 1 d_X4_isOne_0 rfl rfl ?_
  refine x_iconst (x := 0) d_X4_isOne_1 (by decide) ?_
  refine x_aload_n 0 d_X4_isOne_2 rfl rfl ?_
  refine x_getr (j := 0) 42 x_c4 rfl (Nat.le_of_ble_eq_true rfl) q668 rfl d_X4_isOne_3 ?_
  refine x_bipush (x := 7) d_X4_isOne_6 (by decide) ?_
  refine x_ialdN (z := nI (pn a)) 58 7 rfl rfl (by omega) (by decide) ((hR 7 (by decide)).trans hn7) d_X4_isOne_8 ?_
  refine x_iconst (x := 1) d_X4_isOne_9 (by decide) ?_
  refine x_isub d_X4_isOne_10 ?_
  refine x_csip (as := [.int k, .int 0, .int ((nI (pn a)) - 1)]) (c_X4_in l E μ k 0 ((nI (pn a)) - 1)) v_X4_in q728 q727 rfl ⟨Nat.le_of_ble_eq_true rfl, Nat.le_of_ble_eq_true rfl⟩ rfl (Nat.le_of_ble_eq_true rfl) d_X4_isOne_11 ?_
  rw [isP_in hI]
  refine x_zret rfl d_X4_isOne_14 ?_
  exact ⟨rfl, rfl⟩
def m_X4_finds : x_M := (yX4_finds, prog_6_method_2_code, 2, (some FieldType.int), 0, 0)
theorem v_X4_finds : x_VM m_X4_finds 1 := ⟨q738, q6, by decide +kernel, by decide +kernel, by decide +kernel⟩
theorem w_X4_finds : x_VI m_X4_finds := ⟨q737, qs21⟩
theorem d_X4_finds_0 : x_dec m_X4_finds 0 (.aload_n 0) 1 1 := ⟨by decide +kernel, rfl⟩
theorem d_X4_finds_1 : x_dec m_X4_finds 1 (.getfield 19) 3 4 := ⟨by decide +kernel, rfl⟩
theorem d_X4_finds_4 : x_dec m_X4_finds 4 (.ldc 40) 2 6 := ⟨by decide +kernel, rfl⟩
theorem d_X4_finds_6 : x_dec m_X4_finds 6 (.iload_n 1) 1 7 := ⟨by decide +kernel, rfl⟩
theorem d_X4_finds_7 : x_dec m_X4_finds 7 (.isub) 1 8 := ⟨by decide +kernel, rfl⟩
theorem d_X4_finds_8 : x_dec m_X4_finds 8 (.dup2) 1 9 := ⟨by decide +kernel, rfl⟩
theorem d_X4_finds_9 : x_dec m_X4_finds 9 (.iaload) 1 10 := ⟨by decide +kernel, rfl⟩
theorem d_X4_finds_10 : x_dec m_X4_finds 10 (.iconst 1) 1 11 := ⟨by decide +kernel, rfl⟩
theorem d_X4_finds_11 : x_dec m_X4_finds 11 (.iadd) 1 12 := ⟨by decide +kernel, rfl⟩
theorem d_X4_finds_12 : x_dec m_X4_finds 12 (.iastore) 1 13 := ⟨by decide +kernel, rfl⟩
theorem d_X4_finds_13 : x_dec m_X4_finds 13 (.iload_n 1) 1 14 := ⟨by decide +kernel, rfl⟩
theorem d_X4_finds_14 : x_dec m_X4_finds 14 (.ireturn) 1 15 := ⟨by decide +kernel, rfl⟩
set_option maxHeartbeats 4000000 in
set_option maxRecDepth 100000 in
theorem c_X4_finds (l : Launch) (E : x_E) (μ : x_Mem) {f : Nat → Int32} {i : Nat} (hD : MD f μ) (hi : i < 7) {w : Int32} (hw : (-1000001 : Int32) - w = nI i) : x_Met l m_X4_finds E [.ref (E.1 + 41), .int w] μ (x_I (fun z m => z = w ∧ MD (upd f i (f i + 1)) m ∧ ∀ id, id ≠ 45 → m id = μ id)) := by
  have hF : ∀ id, id ≠ 45 → μ id = μ id := fun _ _ => rfl
  refine x_enter (lv := [(0, .ref (E.1 + 41)), (1, .int w)]) (by decide +kernel) (Nat.le_of_ble_eq_true rfl) rfl ?_
  refine x_aload_n 0 d_X4_finds_0 rfl rfl ?_
  refine x_getr (j := 4) 45 x_c4 rfl (Nat.le_of_ble_eq_true rfl) q672 rfl d_X4_finds_1 ?_
  refine x_ldc q734 d_X4_finds_4 ?_
  refine x_iload_n 1 d_X4_finds_6 rfl rfl ?_
  refine x_isub d_X4_finds_7 ?_
  rw [hw]
  refine x_dup2 d_X4_finds_8 rfl rfl ?_
  refine x_ialdN (z := f i) 7 i rfl rfl (by omega) (by decide) (hD i (by omega)) d_X4_finds_9 ?_
  refine x_iconst (x := 1) d_X4_finds_10 (by decide) ?_
  refine x_iadd d_X4_finds_11 ?_
  refine x_iastNG 7 i rfl rfl (by omega) (by decide) d_X4_finds_12 (fun μ1 eμ1 => ?_)
  have hD2 : MD (upd f i ((f i) + 1)) μ1 := MD.w hD eμ1
  have hF3 : ∀ id, id ≠ 45 → μ1 id = μ id := fun id hid => (show μ1 id = μ id from (by rw [eμ1, upd2_ne _ _ _ (by omega)])).trans (hF id hid)
  refine x_iload_n 1 d_X4_finds_13 rfl rfl ?_
  refine x_iret rfl d_X4_finds_14 ?_
  exact ⟨rfl, hD2, hF3⟩
def m_X4_bits : x_M := (yX4_bits, prog_6_method_13_code, 3, (some FieldType.int), 0, 0)
theorem v_X4_bits : x_VM m_X4_bits 1 := ⟨q924, q6, by decide +kernel, by decide +kernel, by decide +kernel⟩
theorem d_X4_bits_0 : x_dec m_X4_bits 0 (.iconst 0) 1 1 := ⟨by decide +kernel, rfl⟩
theorem d_X4_bits_1 : x_dec m_X4_bits 1 (.istore_n 1) 1 2 := ⟨by decide +kernel, rfl⟩
theorem d_X4_bits_2 : x_dec m_X4_bits 2 (.iload_n 0) 1 3 := ⟨by decide +kernel, rfl⟩
theorem d_X4_bits_3 : x_dec m_X4_bits 3 (.istore_n 2) 1 4 := ⟨by decide +kernel, rfl⟩
theorem d_X4_bits_4 : x_dec m_X4_bits 4 (.iload_n 2) 1 5 := ⟨by decide +kernel, rfl⟩
theorem d_X4_bits_5 : x_dec m_X4_bits 5 (.ifCond .eq 15) 3 8 := ⟨by decide +kernel, rfl⟩
theorem d_X4_bits_8 : x_dec m_X4_bits 8 (.iinc 1 1) 3 11 := ⟨by decide +kernel, rfl⟩
theorem d_X4_bits_11 : x_dec m_X4_bits 11 (.iload_n 2) 1 12 := ⟨by decide +kernel, rfl⟩
theorem d_X4_bits_12 : x_dec m_X4_bits 12 (.iload_n 2) 1 13 := ⟨by decide +kernel, rfl⟩
theorem d_X4_bits_13 : x_dec m_X4_bits 13 (.iconst 1) 1 14 := ⟨by decide +kernel, rfl⟩
theorem d_X4_bits_14 : x_dec m_X4_bits 14 (.isub) 1 15 := ⟨by decide +kernel, rfl⟩
theorem d_X4_bits_15 : x_dec m_X4_bits 15 (.iand) 1 16 := ⟨by decide +kernel, rfl⟩
theorem d_X4_bits_16 : x_dec m_X4_bits 16 (.istore_n 2) 1 17 := ⟨by decide +kernel, rfl⟩
theorem d_X4_bits_17 : x_dec m_X4_bits 17 (.goto (-13)) 3 20 := ⟨by decide +kernel, rfl⟩
theorem d_X4_bits_20 : x_dec m_X4_bits 20 (.iload_n 1) 1 21 := ⟨by decide +kernel, rfl⟩
theorem d_X4_bits_21 : x_dec m_X4_bits 21 (.ireturn) 1 22 := ⟨by decide +kernel, rfl⟩
set_option maxHeartbeats 4000000 in
set_option maxRecDepth 100000 in
theorem c_X4_bits (l : Launch) (E : x_E) (μ : x_Mem) {s : Nat} (hs : s < 65536) : x_Met l m_X4_bits E [.int (nI s)] μ (x_I (fun z m => z = nI (popN 16 s) ∧ m = μ)) := by
  refine x_enter (lv := [(0, .int (nI s))]) (by decide +kernel) (Nat.le_of_ble_eq_true rfl) rfl ?_
  refine x_iconst (x := 0) d_X4_bits_0 (by decide) ?_
  refine x_istore_n [(1, .int 0), (0, .int (nI s))] d_X4_bits_1 rfl (Nat.le_of_ble_eq_true rfl) rfl ?_
  refine x_iload_n 1 d_X4_bits_2 rfl rfl ?_
  refine x_istore_n [(2, .int (nI s)), (1, .int 0), (0, .int (nI s))] d_X4_bits_3 rfl (Nat.le_of_ble_eq_true rfl) rfl ?_
  have L1 : ∀ k : Nat, k ≤ popN 16 s → ∀ r : Nat, (r < 65536) → (popN 16 r + k = popN 16 s) → x_G l E m_X4_bits (x_mv E m_X4_bits (x_I (fun z m => z = nI (popN 16 s) ∧ m = μ))) μ 4 [(2, .int (nI r)), (1, .int (nI k)), (0, .int (nI s))] [] := by
    refine x_down _ (popN 16 s) (fun k hi3 ih2 => ?_)
    intro r hr hP
    refine x_iload_n 0 d_X4_bits_4 rfl rfl ?_
    refine x_if_eq 20 d_X4_bits_5 (by decide) (fun c4 => ?_) (fun c4 => ?_)
    · skip
      refine x_iload_n 1 d_X4_bits_20 rfl rfl ?_
      refine x_iret rfl d_X4_bits_21 ?_
      have e0 : r = 0 := (nI_eq (b := 0) (by omega) (by decide)).mp c4
      subst e0
      exact ⟨congrArg nI (by rw [show popN 16 0 = 0 by decide] at hP; omega), rfl⟩
    · skip
      have hr0 : r ≠ 0 := fun z => c4 (by rw [z]; rfl)
      refine x_iinc [(1, .int (nI (k + 1))), (2, .int (nI r)), (0, .int (nI s))] 1 d_X4_bits_8 rfl (x_inc _) (Nat.le_of_ble_eq_true rfl) rfl ?_
      refine x_iload_n 1 d_X4_bits_11 rfl rfl ?_
      refine x_iload_n 1 d_X4_bits_12 rfl rfl ?_
      refine x_iconst (x := 1) d_X4_bits_13 (by decide) ?_
      refine x_isub d_X4_bits_14 ?_
      refine x_iand d_X4_bits_15 ?_
      rw [show nI r &&& (nI r - 1) = nI (r &&& (r - 1)) from by rw [show (1 : Int32) = nI 1 from rfl, pk_sub (by omega), nI_and]]
      have hro := popN_off 16 r (by omega) hr
      have hrl : r &&& (r - 1) ≤ r := Nat.and_le_left
      refine x_istore_n [(2, .int (nI (r &&& (r - 1)))), (1, .int (nI (k + 1))), (0, .int (nI s))] d_X4_bits_16 rfl (Nat.le_of_ble_eq_true rfl) rfl ?_
      refine x_goto 4 d_X4_bits_17 (by decide) ?_
      exact ih2 (k + 1) (by omega) (by omega) (r &&& (r - 1)) (by omega) (by omega)
  exact L1 0 (by omega) s hs (Nat.add_zero _)
def m_X4_othersWith : x_M := (yX4_othersWith, prog_6_method_14_code, 4, (some FieldType.int), 1, 22)
theorem v_X4_othersWith : x_VM m_X4_othersWith 1 := ⟨q765, q6, by decide +kernel, by decide +kernel, by decide +kernel⟩
theorem w_X4_othersWith : x_VI m_X4_othersWith := ⟨q764, qs26⟩
theorem d_X4_othersWith_0 : x_dec m_X4_othersWith 0 (.iconst (-1)) 1 1 := ⟨by decide +kernel, rfl⟩
theorem d_X4_othersWith_1 : x_dec m_X4_othersWith 1 (.istore_n 2) 1 2 := ⟨by decide +kernel, rfl⟩
theorem d_X4_othersWith_2 : x_dec m_X4_othersWith 2 (.iconst 0) 1 3 := ⟨by decide +kernel, rfl⟩
theorem d_X4_othersWith_3 : x_dec m_X4_othersWith 3 (.istore_n 3) 1 4 := ⟨by decide +kernel, rfl⟩
theorem d_X4_othersWith_4 : x_dec m_X4_othersWith 4 (.iload_n 3) 1 5 := ⟨by decide +kernel, rfl⟩
theorem d_X4_othersWith_5 : x_dec m_X4_othersWith 5 (.aload_n 0) 1 6 := ⟨by decide +kernel, rfl⟩
theorem d_X4_othersWith_6 : x_dec m_X4_othersWith 6 (.getfield 9) 3 9 := ⟨by decide +kernel, rfl⟩
theorem d_X4_othersWith_9 : x_dec m_X4_othersWith 9 (.bipush 7) 2 11 := ⟨by decide +kernel, rfl⟩
theorem d_X4_othersWith_11 : x_dec m_X4_othersWith 11 (.iaload) 1 12 := ⟨by decide +kernel, rfl⟩
theorem d_X4_othersWith_12 : x_dec m_X4_othersWith 12 (.if_icmp .ge 32) 3 15 := ⟨by decide +kernel, rfl⟩
theorem d_X4_othersWith_15 : x_dec m_X4_othersWith 15 (.iload_n 2) 1 16 := ⟨by decide +kernel, rfl⟩
theorem d_X4_othersWith_16 : x_dec m_X4_othersWith 16 (.aload_n 0) 1 17 := ⟨by decide +kernel, rfl⟩
theorem d_X4_othersWith_17 : x_dec m_X4_othersWith 17 (.iload_n 3) 1 18 := ⟨by decide +kernel, rfl⟩
theorem d_X4_othersWith_18 : x_dec m_X4_othersWith 18 (.iconst 1) 1 19 := ⟨by decide +kernel, rfl⟩
theorem d_X4_othersWith_19 : x_dec m_X4_othersWith 19 (.invokevirtual 50) 3 22 := ⟨by decide +kernel, rfl⟩
theorem d_X4_othersWith_22 : x_dec m_X4_othersWith 22 (.aload_n 0) 1 23 := ⟨by decide +kernel, rfl⟩
theorem d_X4_othersWith_23 : x_dec m_X4_othersWith 23 (.iload_n 1) 1 24 := ⟨by decide +kernel, rfl⟩
theorem d_X4_othersWith_24 : x_dec m_X4_othersWith 24 (.iconst 1) 1 25 := ⟨by decide +kernel, rfl⟩
theorem d_X4_othersWith_25 : x_dec m_X4_othersWith 25 (.invokevirtual 50) 3 28 := ⟨by decide +kernel, rfl⟩
theorem d_X4_othersWith_28 : x_dec m_X4_othersWith 28 (.if_icmp .ne 7) 3 31 := ⟨by decide +kernel, rfl⟩
theorem d_X4_othersWith_31 : x_dec m_X4_othersWith 31 (.iconst 1) 1 32 := ⟨by decide +kernel, rfl⟩
theorem d_X4_othersWith_32 : x_dec m_X4_othersWith 32 (.goto 4) 3 35 := ⟨by decide +kernel, rfl⟩
theorem d_X4_othersWith_35 : x_dec m_X4_othersWith 35 (.iconst 0) 1 36 := ⟨by decide +kernel, rfl⟩
theorem d_X4_othersWith_36 : x_dec m_X4_othersWith 36 (.iadd) 1 37 := ⟨by decide +kernel, rfl⟩
theorem d_X4_othersWith_37 : x_dec m_X4_othersWith 37 (.istore_n 2) 1 38 := ⟨by decide +kernel, rfl⟩
theorem d_X4_othersWith_38 : x_dec m_X4_othersWith 38 (.iinc 3 1) 3 41 := ⟨by decide +kernel, rfl⟩
theorem d_X4_othersWith_41 : x_dec m_X4_othersWith 41 (.goto (-37)) 3 44 := ⟨by decide +kernel, rfl⟩
theorem d_X4_othersWith_44 : x_dec m_X4_othersWith 44 (.iload_n 2) 1 45 := ⟨by decide +kernel, rfl⟩
theorem d_X4_othersWith_45 : x_dec m_X4_othersWith 45 (.ireturn) 1 46 := ⟨by decide +kernel, rfl⟩
set_option maxHeartbeats 4000000 in
set_option maxRecDepth 100000 in
theorem c_X4_othersWith (l : Launch) (E : x_E) (μ : x_Mem) {a : x_St} (hR : MR a μ) (hI : WF a) {p : Nat} (hp : p < pn a) : x_Met l m_X4_othersWith E [.ref (E.1 + 41), .int (nI p)] μ (x_I (fun z m => z = compF a p ∧ m = μ)) := by
  have hn7 := hI.2.1
  have hpn := hI.1
  refine x_enter (lv := [(0, .ref (E.1 + 41)), (1, .int (nI p))]) (by decide +kernel) (Nat.le_of_ble_eq_true rfl) rfl ?_
  refine x_iconst (x := (-1)) d_X4_othersWith_0 (by decide) ?_
  refine x_istore_n [(2, .int (-1)), (0, .ref (E.1 + 41)), (1, .int (nI p))] d_X4_othersWith_1 rfl (Nat.le_of_ble_eq_true rfl) rfl ?_
  refine x_iconst (x := 0) d_X4_othersWith_2 (by decide) ?_
  refine x_istore_n [(3, .int 0), (2, .int (-1)), (0, .ref (E.1 + 41)), (1, .int (nI p))] d_X4_othersWith_3 rfl (Nat.le_of_ble_eq_true rfl) rfl ?_
  have L1 : ∀ i : Nat, i ≤ pn a → ∀ r : Int32, (r = cntTo (-1) (fun o => decide (a (24 + 3 * o + 1) = a (24 + 3 * p + 1))) i) → x_G l E m_X4_othersWith (x_mv E m_X4_othersWith (x_I (fun z m => z = compF a p ∧ m = μ))) μ 4 [(3, .int (nI i)), (2, .int r), (0, .ref (E.1 + 41)), (1, .int (nI p))] [] := by
    refine x_down _ (pn a) (fun i hi3 ih2 => ?_)
    intro r hr
    refine x_iload_n 0 d_X4_othersWith_4 rfl rfl ?_
    refine x_aload_n 2 d_X4_othersWith_5 rfl rfl ?_
    refine x_getr (j := 0) 42 x_c4 rfl (Nat.le_of_ble_eq_true rfl) q668 rfl d_X4_othersWith_6 ?_
    refine x_bipush (x := 7) d_X4_othersWith_9 (by decide) ?_
    refine x_ialdN (z := nI (pn a)) 58 7 rfl rfl (by omega) (by decide) ((hR 7 (by decide)).trans hn7) d_X4_othersWith_11 ?_
    refine x_icmp_ge 44 d_X4_othersWith_12 (by decide) (fun c4 => ?_) (fun c4 => ?_)
    · skip
      have hN := x_ge (N := pn a) c4 rfl rfl (by omega) (by omega)
      refine x_iload_n 1 d_X4_othersWith_44 rfl rfl ?_
      refine x_iret rfl d_X4_othersWith_45 ?_
      have e7 : i = pn a := by omega
      subst e7
      exact ⟨hr, rfl⟩
    · skip
      have hN := x_lt (N := pn a) c4 rfl rfl (by omega) (by omega)
      refine x_iload_n 1 d_X4_othersWith_15 rfl rfl ?_
      refine x_aload_n 2 d_X4_othersWith_16 rfl rfl ?_
      refine x_iload_n 0 d_X4_othersWith_17 rfl rfl ?_
      refine x_iconst (x := 1) d_X4_othersWith_18 (by decide) ?_
      refine x_cvip (k := 41) (as := [.int (nI i), .int 1]) (c_X4_told l E μ hR (p := i) (w := 1) (j := 24 + 3 * i + 1) rfl (by omega)) v_X4_told w_X4_told q755 o_M rfl ⟨Nat.le_of_ble_eq_true rfl, Nat.le_of_ble_eq_true rfl⟩ rfl (Nat.le_of_ble_eq_true rfl) d_X4_othersWith_19 ?_
      refine x_aload_n 2 d_X4_othersWith_22 rfl rfl ?_
      refine x_iload_n 3 d_X4_othersWith_23 rfl rfl ?_
      refine x_iconst (x := 1) d_X4_othersWith_24 (by decide) ?_
      refine x_cvip (k := 41) (as := [.int (nI p), .int 1]) (c_X4_told l E μ hR (p := p) (w := 1) (j := 24 + 3 * p + 1) rfl (by omega)) v_X4_told w_X4_told q755 o_M rfl ⟨Nat.le_of_ble_eq_true rfl, Nat.le_of_ble_eq_true rfl⟩ rfl (Nat.le_of_ble_eq_true rfl) d_X4_othersWith_25 ?_
      refine x_icmp_ne 35 d_X4_othersWith_28 (by decide) (fun c5 => ?_) (fun c5 => ?_)
      · skip
        refine x_iconst (x := 0) d_X4_othersWith_35 (by decide) ?_
        refine x_iadd d_X4_othersWith_36 ?_
        refine x_istore_n [(2, .int (r + 0)), (3, .int (nI i)), (0, .ref (E.1 + 41)), (1, .int (nI p))] d_X4_othersWith_37 rfl (Nat.le_of_ble_eq_true rfl) rfl ?_
        refine x_iinc [(3, .int (nI (i + 1))), (2, .int (r + 0)), (0, .ref (E.1 + 41)), (1, .int (nI p))] 1 d_X4_othersWith_38 rfl (x_inc _) (Nat.le_of_ble_eq_true rfl) rfl ?_
        refine x_goto 4 d_X4_othersWith_41 (by decide) ?_
        exact ih2 (i + 1) (by omega) (by omega) (r + 0) (by rw [hr, cntTo, if_neg (by rw [decide_eq_false c5]; decide), Int32.add_zero])
      · skip
        refine x_iconst (x := 1) d_X4_othersWith_31 (by decide) ?_
        refine x_goto 36 d_X4_othersWith_32 (by decide) ?_
        refine x_iadd d_X4_othersWith_36 ?_
        refine x_istore_n [(2, .int (r + 1)), (3, .int (nI i)), (0, .ref (E.1 + 41)), (1, .int (nI p))] d_X4_othersWith_37 rfl (Nat.le_of_ble_eq_true rfl) rfl ?_
        refine x_iinc [(3, .int (nI (i + 1))), (2, .int (r + 1)), (0, .ref (E.1 + 41)), (1, .int (nI p))] 1 d_X4_othersWith_38 rfl (x_inc _) (Nat.le_of_ble_eq_true rfl) rfl ?_
        refine x_goto 4 d_X4_othersWith_41 (by decide) ?_
        exact ih2 (i + 1) (by omega) (by omega) (r + 1) (by rw [hr, cntTo, if_pos (decide_eq_true c5)])
  exact L1 0 (by omega) (-1) (by rfl)
def m_X4_faithOf : x_M := (yX4_faithOf, prog_6_method_15_code, 5, (some FieldType.int), 2, 45)
theorem v_X4_faithOf : x_VM m_X4_faithOf 1 := ⟨q754, q6, by decide +kernel, by decide +kernel, by decide +kernel⟩
theorem w_X4_faithOf : x_VI m_X4_faithOf := ⟨q753, qs24⟩
theorem d_X4_faithOf_0 : x_dec m_X4_faithOf 0 (.aload_n 0) 1 1 := ⟨by decide +kernel, rfl⟩
theorem d_X4_faithOf_1 : x_dec m_X4_faithOf 1 (.iload_n 1) 1 2 := ⟨by decide +kernel, rfl⟩
theorem d_X4_faithOf_2 : x_dec m_X4_faithOf 2 (.iconst 2) 1 3 := ⟨by decide +kernel, rfl⟩
theorem d_X4_faithOf_3 : x_dec m_X4_faithOf 3 (.invokevirtual 50) 3 6 := ⟨by decide +kernel, rfl⟩
theorem d_X4_faithOf_6 : x_dec m_X4_faithOf 6 (.istore_n 2) 1 7 := ⟨by decide +kernel, rfl⟩
theorem d_X4_faithOf_7 : x_dec m_X4_faithOf 7 (.iload_n 2) 1 8 := ⟨by decide +kernel, rfl⟩
theorem d_X4_faithOf_8 : x_dec m_X4_faithOf 8 (.aload_n 0) 1 9 := ⟨by decide +kernel, rfl⟩
theorem d_X4_faithOf_9 : x_dec m_X4_faithOf 9 (.getfield 9) 3 12 := ⟨by decide +kernel, rfl⟩
theorem d_X4_faithOf_12 : x_dec m_X4_faithOf 12 (.iconst 2) 1 13 := ⟨by decide +kernel, rfl⟩
theorem d_X4_faithOf_13 : x_dec m_X4_faithOf 13 (.iaload) 1 14 := ⟨by decide +kernel, rfl⟩
theorem d_X4_faithOf_14 : x_dec m_X4_faithOf 14 (.iconst 1) 1 15 := ⟨by decide +kernel, rfl⟩
theorem d_X4_faithOf_15 : x_dec m_X4_faithOf 15 (.if_icmp .ne 7) 3 18 := ⟨by decide +kernel, rfl⟩
theorem d_X4_faithOf_18 : x_dec m_X4_faithOf 18 (.iconst 0) 1 19 := ⟨by decide +kernel, rfl⟩
theorem d_X4_faithOf_19 : x_dec m_X4_faithOf 19 (.goto 5) 3 22 := ⟨by decide +kernel, rfl⟩
theorem d_X4_faithOf_22 : x_dec m_X4_faithOf 22 (.bipush 20) 2 24 := ⟨by decide +kernel, rfl⟩
theorem d_X4_faithOf_24 : x_dec m_X4_faithOf 24 (.iadd) 1 25 := ⟨by decide +kernel, rfl⟩
theorem d_X4_faithOf_25 : x_dec m_X4_faithOf 25 (.istore_n 3) 1 26 := ⟨by decide +kernel, rfl⟩
theorem d_X4_faithOf_26 : x_dec m_X4_faithOf 26 (.iload_n 3) 1 27 := ⟨by decide +kernel, rfl⟩
theorem d_X4_faithOf_27 : x_dec m_X4_faithOf 27 (.aload_n 0) 1 28 := ⟨by decide +kernel, rfl⟩
theorem d_X4_faithOf_28 : x_dec m_X4_faithOf 28 (.getfield 9) 3 31 := ⟨by decide +kernel, rfl⟩
theorem d_X4_faithOf_31 : x_dec m_X4_faithOf 31 (.iconst 5) 1 32 := ⟨by decide +kernel, rfl⟩
theorem d_X4_faithOf_32 : x_dec m_X4_faithOf 32 (.iaload) 1 33 := ⟨by decide +kernel, rfl⟩
theorem d_X4_faithOf_33 : x_dec m_X4_faithOf 33 (.iconst 0) 1 34 := ⟨by decide +kernel, rfl⟩
theorem d_X4_faithOf_34 : x_dec m_X4_faithOf 34 (.bipush 30) 2 36 := ⟨by decide +kernel, rfl⟩
theorem d_X4_faithOf_36 : x_dec m_X4_faithOf 36 (.invokestatic 54) 3 39 := ⟨by decide +kernel, rfl⟩
theorem d_X4_faithOf_39 : x_dec m_X4_faithOf 39 (.isub) 1 40 := ⟨by decide +kernel, rfl⟩
theorem d_X4_faithOf_40 : x_dec m_X4_faithOf 40 (.istore 4) 2 42 := ⟨by decide +kernel, rfl⟩
theorem d_X4_faithOf_42 : x_dec m_X4_faithOf 42 (.aload_n 0) 1 43 := ⟨by decide +kernel, rfl⟩
theorem d_X4_faithOf_43 : x_dec m_X4_faithOf 43 (.iload_n 1) 1 44 := ⟨by decide +kernel, rfl⟩
theorem d_X4_faithOf_44 : x_dec m_X4_faithOf 44 (.iconst 0) 1 45 := ⟨by decide +kernel, rfl⟩
theorem d_X4_faithOf_45 : x_dec m_X4_faithOf 45 (.invokevirtual 50) 3 48 := ⟨by decide +kernel, rfl⟩
theorem d_X4_faithOf_48 : x_dec m_X4_faithOf 48 (.tableswitch 85 1 6 #[40, 44, 46, 49, 60, 78]) 40 88 := ⟨by decide +kernel, rfl⟩
theorem d_X4_faithOf_88 : x_dec m_X4_faithOf 88 (.iload_n 2) 1 89 := ⟨by decide +kernel, rfl⟩
theorem d_X4_faithOf_89 : x_dec m_X4_faithOf 89 (.iconst 2) 1 90 := ⟨by decide +kernel, rfl⟩
theorem d_X4_faithOf_90 : x_dec m_X4_faithOf 90 (.idiv) 1 91 := ⟨by decide +kernel, rfl⟩
theorem d_X4_faithOf_91 : x_dec m_X4_faithOf 91 (.ireturn) 1 92 := ⟨by decide +kernel, rfl⟩
theorem d_X4_faithOf_92 : x_dec m_X4_faithOf 92 (.iload_n 3) 1 93 := ⟨by decide +kernel, rfl⟩
theorem d_X4_faithOf_93 : x_dec m_X4_faithOf 93 (.ireturn) 1 94 := ⟨by decide +kernel, rfl⟩
theorem d_X4_faithOf_94 : x_dec m_X4_faithOf 94 (.iload 4) 2 96 := ⟨by decide +kernel, rfl⟩
theorem d_X4_faithOf_96 : x_dec m_X4_faithOf 96 (.ireturn) 1 97 := ⟨by decide +kernel, rfl⟩
theorem d_X4_faithOf_97 : x_dec m_X4_faithOf 97 (.iload 4) 2 99 := ⟨by decide +kernel, rfl⟩
theorem d_X4_faithOf_99 : x_dec m_X4_faithOf 99 (.iconst 5) 1 100 := ⟨by decide +kernel, rfl⟩
theorem d_X4_faithOf_100 : x_dec m_X4_faithOf 100 (.aload_n 0) 1 101 := ⟨by decide +kernel, rfl⟩
theorem d_X4_faithOf_101 : x_dec m_X4_faithOf 101 (.iload_n 1) 1 102 := ⟨by decide +kernel, rfl⟩
theorem d_X4_faithOf_102 : x_dec m_X4_faithOf 102 (.invokevirtual 58) 3 105 := ⟨by decide +kernel, rfl⟩
theorem d_X4_faithOf_105 : x_dec m_X4_faithOf 105 (.imul) 1 106 := ⟨by decide +kernel, rfl⟩
theorem d_X4_faithOf_106 : x_dec m_X4_faithOf 106 (.iadd) 1 107 := ⟨by decide +kernel, rfl⟩
theorem d_X4_faithOf_107 : x_dec m_X4_faithOf 107 (.ireturn) 1 108 := ⟨by decide +kernel, rfl⟩
theorem d_X4_faithOf_108 : x_dec m_X4_faithOf 108 (.aload_n 0) 1 109 := ⟨by decide +kernel, rfl⟩
theorem d_X4_faithOf_109 : x_dec m_X4_faithOf 109 (.getfield 9) 3 112 := ⟨by decide +kernel, rfl⟩
theorem d_X4_faithOf_112 : x_dec m_X4_faithOf 112 (.iconst 2) 1 113 := ⟨by decide +kernel, rfl⟩
theorem d_X4_faithOf_113 : x_dec m_X4_faithOf 113 (.iaload) 1 114 := ⟨by decide +kernel, rfl⟩
theorem d_X4_faithOf_114 : x_dec m_X4_faithOf 114 (.iconst 1) 1 115 := ⟨by decide +kernel, rfl⟩
theorem d_X4_faithOf_115 : x_dec m_X4_faithOf 115 (.if_icmp .ne 9) 3 118 := ⟨by decide +kernel, rfl⟩
theorem d_X4_faithOf_118 : x_dec m_X4_faithOf 118 (.iconst 2) 1 119 := ⟨by decide +kernel, rfl⟩
theorem d_X4_faithOf_119 : x_dec m_X4_faithOf 119 (.iload_n 2) 1 120 := ⟨by decide +kernel, rfl⟩
theorem d_X4_faithOf_120 : x_dec m_X4_faithOf 120 (.imul) 1 121 := ⟨by decide +kernel, rfl⟩
theorem d_X4_faithOf_121 : x_dec m_X4_faithOf 121 (.goto 4) 3 124 := ⟨by decide +kernel, rfl⟩
theorem d_X4_faithOf_124 : x_dec m_X4_faithOf 124 (.iload_n 2) 1 125 := ⟨by decide +kernel, rfl⟩
theorem d_X4_faithOf_125 : x_dec m_X4_faithOf 125 (.ireturn) 1 126 := ⟨by decide +kernel, rfl⟩
theorem d_X4_faithOf_126 : x_dec m_X4_faithOf 126 (.iload_n 2) 1 127 := ⟨by decide +kernel, rfl⟩
theorem d_X4_faithOf_127 : x_dec m_X4_faithOf 127 (.iconst 2) 1 128 := ⟨by decide +kernel, rfl⟩
theorem d_X4_faithOf_128 : x_dec m_X4_faithOf 128 (.idiv) 1 129 := ⟨by decide +kernel, rfl⟩
theorem d_X4_faithOf_129 : x_dec m_X4_faithOf 129 (.bipush 20) 2 131 := ⟨by decide +kernel, rfl⟩
theorem d_X4_faithOf_131 : x_dec m_X4_faithOf 131 (.isub) 1 132 := ⟨by decide +kernel, rfl⟩
theorem d_X4_faithOf_132 : x_dec m_X4_faithOf 132 (.ireturn) 1 133 := ⟨by decide +kernel, rfl⟩
theorem d_X4_faithOf_133 : x_dec m_X4_faithOf 133 (.iload_n 2) 1 134 := ⟨by decide +kernel, rfl⟩
theorem d_X4_faithOf_134 : x_dec m_X4_faithOf 134 (.ireturn) 1 135 := ⟨by decide +kernel, rfl⟩
set_option maxHeartbeats 4000000 in
set_option maxRecDepth 100000 in
theorem c_X4_faithOf (l : Launch) (E : x_E) (μ : x_Mem) {a : x_St} (hR : MR a μ) (hI : WF a) {p : Nat} (hp : p < pn a) : x_Met l m_X4_faithOf E [.ref (E.1 + 41), .int (nI p)] μ (x_I (fun z m => z = faithF a p ∧ m = μ)) := by
  have hn7 := hI.2.1
  have hpn := hI.1
  refine x_enter (lv := [(0, .ref (E.1 + 41)), (1, .int (nI p))]) (by decide +kernel) (Nat.le_of_ble_eq_true rfl) rfl ?_
  refine x_aload_n 0 d_X4_faithOf_0 rfl rfl ?_
  refine x_iload_n 1 d_X4_faithOf_1 rfl rfl ?_
  refine x_iconst (x := 2) d_X4_faithOf_2 (by decide) ?_
  refine x_cvip (k := 41) (as := [.int (nI p), .int 2]) (c_X4_told l E μ hR (p := p) (w := 2) (j := 24 + 3 * p + 2) rfl (by omega)) v_X4_told w_X4_told q755 o_M rfl ⟨Nat.le_of_ble_eq_true rfl, Nat.le_of_ble_eq_true rfl⟩ rfl (Nat.le_of_ble_eq_true rfl) d_X4_faithOf_3 ?_
  refine x_istore_n [(2, .int (a (24 + 3 * p + 2))), (0, .ref (E.1 + 41)), (1, .int (nI p))] d_X4_faithOf_6 rfl (Nat.le_of_ble_eq_true rfl) rfl ?_
  refine x_iload_n 0 d_X4_faithOf_7 rfl rfl ?_
  refine x_aload_n 1 d_X4_faithOf_8 rfl rfl ?_
  refine x_getr (j := 0) 42 x_c4 rfl (Nat.le_of_ble_eq_true rfl) q668 rfl d_X4_faithOf_9 ?_
  refine x_iconst (x := 2) d_X4_faithOf_12 (by decide) ?_
  refine x_ialdN (z := a 2) 58 2 rfl rfl (by omega) (by decide) (hR 2 (by omega)) d_X4_faithOf_13 ?_
  refine x_iconst (x := 1) d_X4_faithOf_14 (by decide) ?_
  refine x_icmp_ne 22 d_X4_faithOf_15 (by decide) (fun c1 => ?_) (fun c1 => ?_)
  · skip
    refine x_bipush (x := 20) d_X4_faithOf_22 (by decide) ?_
    refine x_iadd d_X4_faithOf_24 ?_
    refine x_istore_n [(3, .int ((a (24 + 3 * p + 2)) + 20)), (2, .int (a (24 + 3 * p + 2))), (0, .ref (E.1 + 41)), (1, .int (nI p))] d_X4_faithOf_25 rfl (Nat.le_of_ble_eq_true rfl) rfl ?_
    refine x_iload_n 0 d_X4_faithOf_26 rfl rfl ?_
    refine x_aload_n 2 d_X4_faithOf_27 rfl rfl ?_
    refine x_getr (j := 0) 42 x_c4 rfl (Nat.le_of_ble_eq_true rfl) q668 rfl d_X4_faithOf_28 ?_
    refine x_iconst (x := 5) d_X4_faithOf_31 (by decide) ?_
    refine x_ialdN (z := a 5) 58 5 rfl rfl (by omega) (by decide) (hR 5 (by omega)) d_X4_faithOf_32 ?_
    refine x_iconst (x := 0) d_X4_faithOf_33 (by decide) ?_
    refine x_bipush (x := 30) d_X4_faithOf_34 (by decide) ?_
    refine x_csip (as := [.int (a 5), .int 0, .int 30]) (c_X4_held l E μ (a 5) 0 30) v_X4_held q760 q759 rfl ⟨Nat.le_of_ble_eq_true rfl, Nat.le_of_ble_eq_true rfl⟩ rfl (Nat.le_of_ble_eq_true rfl) d_X4_faithOf_36 ?_
    refine x_isub d_X4_faithOf_39 ?_
    refine x_istore [(4, .int (((a (24 + 3 * p + 2)) + 20) - (heldF (a 5) 0 30))), (3, .int ((a (24 + 3 * p + 2)) + 20)), (2, .int (a (24 + 3 * p + 2))), (0, .ref (E.1 + 41)), (1, .int (nI p))] d_X4_faithOf_40 (Nat.le_of_ble_eq_true rfl) rfl ?_
    refine x_aload_n 3 d_X4_faithOf_42 rfl rfl ?_
    refine x_iload_n 4 d_X4_faithOf_43 rfl rfl ?_
    refine x_iconst (x := 0) d_X4_faithOf_44 (by decide) ?_
    refine x_cvip (k := 41) (as := [.int (nI p), .int 0]) (c_X4_told l E μ hR (p := p) (w := 0) (j := 24 + 3 * p) rfl (by omega)) v_X4_told w_X4_told q755 o_M rfl ⟨Nat.le_of_ble_eq_true rfl, Nat.le_of_ble_eq_true rfl⟩ rfl (Nat.le_of_ble_eq_true rfl) d_X4_faithOf_45 ?_
    by_cases k2 : a (24 + 3 * p) = 1
    · have k2T : (a (24 + 3 * p)).toInt = 1 := by rw [k2]; decide
      refine x_tswIn 88 (off := 40) d_X4_faithOf_48 (by rw [k2T]; decide) (by rw [k2T]; decide) (by rw [k2T]; decide) (by decide) ?_
      refine x_iload_n 2 d_X4_faithOf_88 rfl rfl ?_
      refine x_iconst (x := 2) d_X4_faithOf_89 (by decide) ?_
      refine x_idiv d_X4_faithOf_90 (by decide) ?_
      refine x_iret rfl d_X4_faithOf_91 ?_
      have hday : dayF a = 20 := day_0 hI c1
      refine ⟨?_, rfl⟩
      unfold faithF; rw [if_pos k2]
    by_cases k3 : a (24 + 3 * p) = 2
    · have k3T : (a (24 + 3 * p)).toInt = 2 := by rw [k3]; decide
      refine x_tswIn 92 (off := 44) d_X4_faithOf_48 (by rw [k3T]; decide) (by rw [k3T]; decide) (by rw [k3T]; decide) (by decide) ?_
      refine x_iload_n 1 d_X4_faithOf_92 rfl rfl ?_
      refine x_iret rfl d_X4_faithOf_93 ?_
      have hday : dayF a = 20 := day_0 hI c1
      refine ⟨?_, rfl⟩
      unfold faithF; rw [if_neg (by rw [k3]; decide), if_pos k3]; rw [hday]
    by_cases k4 : a (24 + 3 * p) = 3
    · have k4T : (a (24 + 3 * p)).toInt = 3 := by rw [k4]; decide
      refine x_tswIn 94 (off := 46) d_X4_faithOf_48 (by rw [k4T]; decide) (by rw [k4T]; decide) (by rw [k4T]; decide) (by decide) ?_
      refine x_iload 0 d_X4_faithOf_94 rfl ?_
      refine x_iret rfl d_X4_faithOf_96 ?_
      have hday : dayF a = 20 := day_0 hI c1
      refine ⟨?_, rfl⟩
      unfold faithF; rw [if_neg (by rw [k4]; decide), if_neg (by rw [k4]; decide), if_pos k4]; rw [hday]; rw [held_falls hI]
    by_cases k5 : a (24 + 3 * p) = 4
    · have k5T : (a (24 + 3 * p)).toInt = 4 := by rw [k5]; decide
      refine x_tswIn 97 (off := 49) d_X4_faithOf_48 (by rw [k5T]; decide) (by rw [k5T]; decide) (by rw [k5T]; decide) (by decide) ?_
      refine x_iload 0 d_X4_faithOf_97 rfl ?_
      refine x_iconst (x := 5) d_X4_faithOf_99 (by decide) ?_
      refine x_aload_n 3 d_X4_faithOf_100 rfl rfl ?_
      refine x_iload_n 4 d_X4_faithOf_101 rfl rfl ?_
      refine x_cvip (k := 41) (as := [.int (nI p)]) (c_X4_othersWith l E μ hR hI (p := p) (by omega)) v_X4_othersWith w_X4_othersWith q762 o_M rfl ⟨Nat.le_of_ble_eq_true rfl, Nat.le_of_ble_eq_true rfl⟩ rfl (Nat.le_of_ble_eq_true rfl) d_X4_faithOf_102 ?_
      refine x_imul d_X4_faithOf_105 ?_
      refine x_iadd d_X4_faithOf_106 ?_
      refine x_iret rfl d_X4_faithOf_107 ?_
      have hday : dayF a = 20 := day_0 hI c1
      refine ⟨?_, rfl⟩
      unfold faithF; rw [if_neg (by rw [k5]; decide), if_neg (by rw [k5]; decide), if_neg (by rw [k5]; decide), if_pos k5]; rw [hday]; rw [held_falls hI]
    by_cases k6 : a (24 + 3 * p) = 5
    · have k6T : (a (24 + 3 * p)).toInt = 5 := by rw [k6]; decide
      refine x_tswIn 108 (off := 60) d_X4_faithOf_48 (by rw [k6T]; decide) (by rw [k6T]; decide) (by rw [k6T]; decide) (by decide) ?_
      refine x_aload_n 3 d_X4_faithOf_108 rfl rfl ?_
      refine x_getr (j := 0) 42 x_c4 rfl (Nat.le_of_ble_eq_true rfl) q668 rfl d_X4_faithOf_109 ?_
      refine x_iconst (x := 2) d_X4_faithOf_112 (by decide) ?_
      refine x_ialdN (z := a 2) 58 2 rfl rfl (by omega) (by decide) (hR 2 (by omega)) d_X4_faithOf_113 ?_
      refine x_iconst (x := 1) d_X4_faithOf_114 (by decide) ?_
      refine x_icmp_ne 124 d_X4_faithOf_115 (by decide) (fun c7 => ?_) (fun c7 => ?_)
      · skip
        refine x_iload_n 2 d_X4_faithOf_124 rfl rfl ?_
        refine x_iret rfl d_X4_faithOf_125 ?_
        have hday : dayF a = 20 := day_0 hI c1
        refine ⟨?_, rfl⟩
        unfold faithF; rw [if_neg (by rw [k6]; decide), if_neg (by rw [k6]; decide), if_neg (by rw [k6]; decide), if_neg (by rw [k6]; decide), if_pos k6]; rw [if_pos (night_0 hI c1)]
      · skip
        refine x_iconst (x := 2) d_X4_faithOf_118 (by decide) ?_
        refine x_iload_n 2 d_X4_faithOf_119 rfl rfl ?_
        refine x_imul d_X4_faithOf_120 ?_
        refine x_goto 125 d_X4_faithOf_121 (by decide) ?_
        refine x_iret rfl d_X4_faithOf_125 ?_
        exact absurd c7 c1
    by_cases k8 : a (24 + 3 * p) = 6
    · have k8T : (a (24 + 3 * p)).toInt = 6 := by rw [k8]; decide
      refine x_tswIn 126 (off := 78) d_X4_faithOf_48 (by rw [k8T]; decide) (by rw [k8T]; decide) (by rw [k8T]; decide) (by decide) ?_
      refine x_iload_n 2 d_X4_faithOf_126 rfl rfl ?_
      refine x_iconst (x := 2) d_X4_faithOf_127 (by decide) ?_
      refine x_idiv d_X4_faithOf_128 (by decide) ?_
      refine x_bipush (x := 20) d_X4_faithOf_129 (by decide) ?_
      refine x_isub d_X4_faithOf_131 ?_
      refine x_iret rfl d_X4_faithOf_132 ?_
      have hday : dayF a = 20 := day_0 hI c1
      refine ⟨?_, rfl⟩
      unfold faithF; rw [if_neg (by rw [k8]; decide), if_neg (by rw [k8]; decide), if_neg (by rw [k8]; decide), if_neg (by rw [k8]; decide), if_neg (by rw [k8]; decide), if_pos k8]
    have k2T : ¬ (a (24 + 3 * p)).toInt = 1 := lv_neT k2 (by decide)
    have k3T : ¬ (a (24 + 3 * p)).toInt = 2 := lv_neT k3 (by decide)
    have k4T : ¬ (a (24 + 3 * p)).toInt = 3 := lv_neT k4 (by decide)
    have k5T : ¬ (a (24 + 3 * p)).toInt = 4 := lv_neT k5 (by decide)
    have k6T : ¬ (a (24 + 3 * p)).toInt = 5 := lv_neT k6 (by decide)
    have k8T : ¬ (a (24 + 3 * p)).toInt = 6 := lv_neT k8 (by decide)
    refine x_tswOut 133 d_X4_faithOf_48 (by omega) (by decide) ?_
    refine x_iload_n 2 d_X4_faithOf_133 rfl rfl ?_
    refine x_iret rfl d_X4_faithOf_134 ?_
    have hday : dayF a = 20 := day_0 hI c1
    refine ⟨?_, rfl⟩
    unfold faithF; rw [if_neg k2, if_neg k3, if_neg k4, if_neg k5, if_neg k6, if_neg k8]
  · skip
    refine x_iconst (x := 0) d_X4_faithOf_18 (by decide) ?_
    refine x_goto 24 d_X4_faithOf_19 (by decide) ?_
    refine x_iadd d_X4_faithOf_24 ?_
    refine x_istore_n [(3, .int ((a (24 + 3 * p + 2)) + 0)), (2, .int (a (24 + 3 * p + 2))), (0, .ref (E.1 + 41)), (1, .int (nI p))] d_X4_faithOf_25 rfl (Nat.le_of_ble_eq_true rfl) rfl ?_
    refine x_iload_n 0 d_X4_faithOf_26 rfl rfl ?_
    refine x_aload_n 2 d_X4_faithOf_27 rfl rfl ?_
    refine x_getr (j := 0) 42 x_c4 rfl (Nat.le_of_ble_eq_true rfl) q668 rfl d_X4_faithOf_28 ?_
    refine x_iconst (x := 5) d_X4_faithOf_31 (by decide) ?_
    refine x_ialdN (z := a 5) 58 5 rfl rfl (by omega) (by decide) (hR 5 (by omega)) d_X4_faithOf_32 ?_
    refine x_iconst (x := 0) d_X4_faithOf_33 (by decide) ?_
    refine x_bipush (x := 30) d_X4_faithOf_34 (by decide) ?_
    refine x_csip (as := [.int (a 5), .int 0, .int 30]) (c_X4_held l E μ (a 5) 0 30) v_X4_held q760 q759 rfl ⟨Nat.le_of_ble_eq_true rfl, Nat.le_of_ble_eq_true rfl⟩ rfl (Nat.le_of_ble_eq_true rfl) d_X4_faithOf_36 ?_
    refine x_isub d_X4_faithOf_39 ?_
    refine x_istore [(4, .int (((a (24 + 3 * p + 2)) + 0) - (heldF (a 5) 0 30))), (3, .int ((a (24 + 3 * p + 2)) + 0)), (2, .int (a (24 + 3 * p + 2))), (0, .ref (E.1 + 41)), (1, .int (nI p))] d_X4_faithOf_40 (Nat.le_of_ble_eq_true rfl) rfl ?_
    refine x_aload_n 3 d_X4_faithOf_42 rfl rfl ?_
    refine x_iload_n 4 d_X4_faithOf_43 rfl rfl ?_
    refine x_iconst (x := 0) d_X4_faithOf_44 (by decide) ?_
    refine x_cvip (k := 41) (as := [.int (nI p), .int 0]) (c_X4_told l E μ hR (p := p) (w := 0) (j := 24 + 3 * p) rfl (by omega)) v_X4_told w_X4_told q755 o_M rfl ⟨Nat.le_of_ble_eq_true rfl, Nat.le_of_ble_eq_true rfl⟩ rfl (Nat.le_of_ble_eq_true rfl) d_X4_faithOf_45 ?_
    by_cases k9 : a (24 + 3 * p) = 1
    · have k9T : (a (24 + 3 * p)).toInt = 1 := by rw [k9]; decide
      refine x_tswIn 88 (off := 40) d_X4_faithOf_48 (by rw [k9T]; decide) (by rw [k9T]; decide) (by rw [k9T]; decide) (by decide) ?_
      refine x_iload_n 2 d_X4_faithOf_88 rfl rfl ?_
      refine x_iconst (x := 2) d_X4_faithOf_89 (by decide) ?_
      refine x_idiv d_X4_faithOf_90 (by decide) ?_
      refine x_iret rfl d_X4_faithOf_91 ?_
      have hday : dayF a = 0 := day_1 hI (by simpa using c1)
      refine ⟨?_, rfl⟩
      unfold faithF; rw [if_pos k9]
    by_cases k10 : a (24 + 3 * p) = 2
    · have k10T : (a (24 + 3 * p)).toInt = 2 := by rw [k10]; decide
      refine x_tswIn 92 (off := 44) d_X4_faithOf_48 (by rw [k10T]; decide) (by rw [k10T]; decide) (by rw [k10T]; decide) (by decide) ?_
      refine x_iload_n 1 d_X4_faithOf_92 rfl rfl ?_
      refine x_iret rfl d_X4_faithOf_93 ?_
      have hday : dayF a = 0 := day_1 hI (by simpa using c1)
      refine ⟨?_, rfl⟩
      unfold faithF; rw [if_neg (by rw [k10]; decide), if_pos k10]; rw [hday]
    by_cases k11 : a (24 + 3 * p) = 3
    · have k11T : (a (24 + 3 * p)).toInt = 3 := by rw [k11]; decide
      refine x_tswIn 94 (off := 46) d_X4_faithOf_48 (by rw [k11T]; decide) (by rw [k11T]; decide) (by rw [k11T]; decide) (by decide) ?_
      refine x_iload 0 d_X4_faithOf_94 rfl ?_
      refine x_iret rfl d_X4_faithOf_96 ?_
      have hday : dayF a = 0 := day_1 hI (by simpa using c1)
      refine ⟨?_, rfl⟩
      unfold faithF; rw [if_neg (by rw [k11]; decide), if_neg (by rw [k11]; decide), if_pos k11]; rw [hday]; rw [held_falls hI]
    by_cases k12 : a (24 + 3 * p) = 4
    · have k12T : (a (24 + 3 * p)).toInt = 4 := by rw [k12]; decide
      refine x_tswIn 97 (off := 49) d_X4_faithOf_48 (by rw [k12T]; decide) (by rw [k12T]; decide) (by rw [k12T]; decide) (by decide) ?_
      refine x_iload 0 d_X4_faithOf_97 rfl ?_
      refine x_iconst (x := 5) d_X4_faithOf_99 (by decide) ?_
      refine x_aload_n 3 d_X4_faithOf_100 rfl rfl ?_
      refine x_iload_n 4 d_X4_faithOf_101 rfl rfl ?_
      refine x_cvip (k := 41) (as := [.int (nI p)]) (c_X4_othersWith l E μ hR hI (p := p) (by omega)) v_X4_othersWith w_X4_othersWith q762 o_M rfl ⟨Nat.le_of_ble_eq_true rfl, Nat.le_of_ble_eq_true rfl⟩ rfl (Nat.le_of_ble_eq_true rfl) d_X4_faithOf_102 ?_
      refine x_imul d_X4_faithOf_105 ?_
      refine x_iadd d_X4_faithOf_106 ?_
      refine x_iret rfl d_X4_faithOf_107 ?_
      have hday : dayF a = 0 := day_1 hI (by simpa using c1)
      refine ⟨?_, rfl⟩
      unfold faithF; rw [if_neg (by rw [k12]; decide), if_neg (by rw [k12]; decide), if_neg (by rw [k12]; decide), if_pos k12]; rw [hday]; rw [held_falls hI]
    by_cases k13 : a (24 + 3 * p) = 5
    · have k13T : (a (24 + 3 * p)).toInt = 5 := by rw [k13]; decide
      refine x_tswIn 108 (off := 60) d_X4_faithOf_48 (by rw [k13T]; decide) (by rw [k13T]; decide) (by rw [k13T]; decide) (by decide) ?_
      refine x_aload_n 3 d_X4_faithOf_108 rfl rfl ?_
      refine x_getr (j := 0) 42 x_c4 rfl (Nat.le_of_ble_eq_true rfl) q668 rfl d_X4_faithOf_109 ?_
      refine x_iconst (x := 2) d_X4_faithOf_112 (by decide) ?_
      refine x_ialdN (z := a 2) 58 2 rfl rfl (by omega) (by decide) (hR 2 (by omega)) d_X4_faithOf_113 ?_
      refine x_iconst (x := 1) d_X4_faithOf_114 (by decide) ?_
      refine x_icmp_ne 124 d_X4_faithOf_115 (by decide) (fun c14 => ?_) (fun c14 => ?_)
      · skip
        exact absurd c1 c14
      · skip
        refine x_iconst (x := 2) d_X4_faithOf_118 (by decide) ?_
        refine x_iload_n 2 d_X4_faithOf_119 rfl rfl ?_
        refine x_imul d_X4_faithOf_120 ?_
        refine x_goto 125 d_X4_faithOf_121 (by decide) ?_
        refine x_iret rfl d_X4_faithOf_125 ?_
        have hday : dayF a = 0 := day_1 hI (by simpa using c1)
        refine ⟨?_, rfl⟩
        unfold faithF; rw [if_neg (by rw [k13]; decide), if_neg (by rw [k13]; decide), if_neg (by rw [k13]; decide), if_neg (by rw [k13]; decide), if_pos k13]; rw [if_neg (night_1 hI (by simpa using c1))]
    by_cases k15 : a (24 + 3 * p) = 6
    · have k15T : (a (24 + 3 * p)).toInt = 6 := by rw [k15]; decide
      refine x_tswIn 126 (off := 78) d_X4_faithOf_48 (by rw [k15T]; decide) (by rw [k15T]; decide) (by rw [k15T]; decide) (by decide) ?_
      refine x_iload_n 2 d_X4_faithOf_126 rfl rfl ?_
      refine x_iconst (x := 2) d_X4_faithOf_127 (by decide) ?_
      refine x_idiv d_X4_faithOf_128 (by decide) ?_
      refine x_bipush (x := 20) d_X4_faithOf_129 (by decide) ?_
      refine x_isub d_X4_faithOf_131 ?_
      refine x_iret rfl d_X4_faithOf_132 ?_
      have hday : dayF a = 0 := day_1 hI (by simpa using c1)
      refine ⟨?_, rfl⟩
      unfold faithF; rw [if_neg (by rw [k15]; decide), if_neg (by rw [k15]; decide), if_neg (by rw [k15]; decide), if_neg (by rw [k15]; decide), if_neg (by rw [k15]; decide), if_pos k15]
    have k9T : ¬ (a (24 + 3 * p)).toInt = 1 := lv_neT k9 (by decide)
    have k10T : ¬ (a (24 + 3 * p)).toInt = 2 := lv_neT k10 (by decide)
    have k11T : ¬ (a (24 + 3 * p)).toInt = 3 := lv_neT k11 (by decide)
    have k12T : ¬ (a (24 + 3 * p)).toInt = 4 := lv_neT k12 (by decide)
    have k13T : ¬ (a (24 + 3 * p)).toInt = 5 := lv_neT k13 (by decide)
    have k15T : ¬ (a (24 + 3 * p)).toInt = 6 := lv_neT k15 (by decide)
    refine x_tswOut 133 d_X4_faithOf_48 (by omega) (by decide) ?_
    refine x_iload_n 2 d_X4_faithOf_133 rfl rfl ?_
    refine x_iret rfl d_X4_faithOf_134 ?_
    have hday : dayF a = 0 := day_1 hI (by simpa using c1)
    refine ⟨?_, rfl⟩
    unfold faithF; rw [if_neg k9, if_neg k10, if_neg k11, if_neg k12, if_neg k13, if_neg k15]
def m_X4_brings : x_M := (yX4_brings, prog_6_method_17_code, 4, (some FieldType.int), 3, 69)
theorem v_X4_brings : x_VM m_X4_brings 2 := ⟨q750, q6, by decide +kernel, by decide +kernel, by decide +kernel⟩
theorem w_X4_brings : x_VI m_X4_brings := ⟨q749, qs23⟩
theorem d_X4_brings_0 : x_dec m_X4_brings 0 (.aload_n 0) 1 1 := ⟨by decide +kernel, rfl⟩
theorem d_X4_brings_1 : x_dec m_X4_brings 1 (.iload_n 1) 1 2 := ⟨by decide +kernel, rfl⟩
theorem d_X4_brings_2 : x_dec m_X4_brings 2 (.invokevirtual 61) 3 5 := ⟨by decide +kernel, rfl⟩
theorem d_X4_brings_5 : x_dec m_X4_brings 5 (.istore_n 3) 1 6 := ⟨by decide +kernel, rfl⟩
theorem d_X4_brings_6 : x_dec m_X4_brings 6 (.aload_n 0) 1 7 := ⟨by decide +kernel, rfl⟩
theorem d_X4_brings_7 : x_dec m_X4_brings 7 (.iload_n 1) 1 8 := ⟨by decide +kernel, rfl⟩
theorem d_X4_brings_8 : x_dec m_X4_brings 8 (.iconst 1) 1 9 := ⟨by decide +kernel, rfl⟩
theorem d_X4_brings_9 : x_dec m_X4_brings 9 (.invokevirtual 50) 3 12 := ⟨by decide +kernel, rfl⟩
theorem d_X4_brings_12 : x_dec m_X4_brings 12 (.iconst (-1)) 1 13 := ⟨by decide +kernel, rfl⟩
theorem d_X4_brings_13 : x_dec m_X4_brings 13 (.if_icmp .ne 5) 3 16 := ⟨by decide +kernel, rfl⟩
theorem d_X4_brings_16 : x_dec m_X4_brings 16 (.iload_n 3) 1 17 := ⟨by decide +kernel, rfl⟩
theorem d_X4_brings_17 : x_dec m_X4_brings 17 (.ireturn) 1 18 := ⟨by decide +kernel, rfl⟩
theorem d_X4_brings_18 : x_dec m_X4_brings 18 (.iload_n 3) 1 19 := ⟨by decide +kernel, rfl⟩
theorem d_X4_brings_19 : x_dec m_X4_brings 19 (.bipush 10) 2 21 := ⟨by decide +kernel, rfl⟩
theorem d_X4_brings_21 : x_dec m_X4_brings 21 (.aload_n 0) 1 22 := ⟨by decide +kernel, rfl⟩
theorem d_X4_brings_22 : x_dec m_X4_brings 22 (.iload_n 1) 1 23 := ⟨by decide +kernel, rfl⟩
theorem d_X4_brings_23 : x_dec m_X4_brings 23 (.iconst 1) 1 24 := ⟨by decide +kernel, rfl⟩
theorem d_X4_brings_24 : x_dec m_X4_brings 24 (.invokevirtual 50) 3 27 := ⟨by decide +kernel, rfl⟩
theorem d_X4_brings_27 : x_dec m_X4_brings 27 (.iload_n 2) 1 28 := ⟨by decide +kernel, rfl⟩
theorem d_X4_brings_28 : x_dec m_X4_brings 28 (.invokestatic 64) 3 31 := ⟨by decide +kernel, rfl⟩
theorem d_X4_brings_31 : x_dec m_X4_brings 31 (.imul) 1 32 := ⟨by decide +kernel, rfl⟩
theorem d_X4_brings_32 : x_dec m_X4_brings 32 (.isub) 1 33 := ⟨by decide +kernel, rfl⟩
theorem d_X4_brings_33 : x_dec m_X4_brings 33 (.iconst 0) 1 34 := ⟨by decide +kernel, rfl⟩
theorem d_X4_brings_34 : x_dec m_X4_brings 34 (.ldc 67) 2 36 := ⟨by decide +kernel, rfl⟩
theorem d_X4_brings_36 : x_dec m_X4_brings 36 (.invokestatic 54) 3 39 := ⟨by decide +kernel, rfl⟩
theorem d_X4_brings_39 : x_dec m_X4_brings 39 (.ireturn) 1 40 := ⟨by decide +kernel, rfl⟩
set_option maxHeartbeats 4000000 in
set_option maxRecDepth 100000 in
theorem c_X4_brings (l : Launch) (E : x_E) (μ : x_Mem) {a : x_St} (hR : MR a μ) (hI : WF a) {p k : Nat} (hp : p < pn a) (hk : k < 16) : x_Met l m_X4_brings E [.ref (E.1 + 41), .int (nI p), .int (nI k)] μ (x_I (fun z m => z = bringsF a p (nI k) ∧ m = μ)) := by
  have hn7 := hI.2.1
  have hpn := hI.1
  refine x_enter (lv := [(0, .ref (E.1 + 41)), (1, .int (nI p)), (2, .int (nI k))]) (by decide +kernel) (Nat.le_of_ble_eq_true rfl) rfl ?_
  refine x_aload_n 0 d_X4_brings_0 rfl rfl ?_
  refine x_iload_n 1 d_X4_brings_1 rfl rfl ?_
  refine x_cvip (k := 41) (as := [.int (nI p)]) (c_X4_faithOf l E μ hR hI (p := p) (by omega)) v_X4_faithOf w_X4_faithOf q751 o_M rfl ⟨Nat.le_of_ble_eq_true rfl, Nat.le_of_ble_eq_true rfl⟩ rfl (Nat.le_of_ble_eq_true rfl) d_X4_brings_2 ?_
  refine x_istore_n [(3, .int (faithF a p)), (0, .ref (E.1 + 41)), (1, .int (nI p)), (2, .int (nI k))] d_X4_brings_5 rfl (Nat.le_of_ble_eq_true rfl) rfl ?_
  refine x_aload_n 1 d_X4_brings_6 rfl rfl ?_
  refine x_iload_n 2 d_X4_brings_7 rfl rfl ?_
  refine x_iconst (x := 1) d_X4_brings_8 (by decide) ?_
  refine x_cvip (k := 41) (as := [.int (nI p), .int 1]) (c_X4_told l E μ hR (p := p) (w := 1) (j := 24 + 3 * p + 1) rfl (by omega)) v_X4_told w_X4_told q755 o_M rfl ⟨Nat.le_of_ble_eq_true rfl, Nat.le_of_ble_eq_true rfl⟩ rfl (Nat.le_of_ble_eq_true rfl) d_X4_brings_9 ?_
  refine x_iconst (x := (-1)) d_X4_brings_12 (by decide) ?_
  refine x_icmp_ne 18 d_X4_brings_13 (by decide) (fun c1 => ?_) (fun c1 => ?_)
  · skip
    refine x_iload_n 0 d_X4_brings_18 rfl rfl ?_
    refine x_bipush (x := 10) d_X4_brings_19 (by decide) ?_
    refine x_aload_n 1 d_X4_brings_21 rfl rfl ?_
    refine x_iload_n 2 d_X4_brings_22 rfl rfl ?_
    refine x_iconst (x := 1) d_X4_brings_23 (by decide) ?_
    refine x_cvip (k := 41) (as := [.int (nI p), .int 1]) (c_X4_told l E μ hR (p := p) (w := 1) (j := 24 + 3 * p + 1) rfl (by omega)) v_X4_told w_X4_told q755 o_M rfl ⟨Nat.le_of_ble_eq_true rfl, Nat.le_of_ble_eq_true rfl⟩ rfl (Nat.le_of_ble_eq_true rfl) d_X4_brings_24 ?_
    refine x_iload_n 3 d_X4_brings_27 rfl rfl ?_
    refine x_csip (as := [.int (a (24 + 3 * p + 1)), .int (nI k)]) (c_X4_farFrom l E μ (a (24 + 3 * p + 1)) (nI k)) v_X4_farFrom q767 q766 rfl ⟨Nat.le_of_ble_eq_true rfl, Nat.le_of_ble_eq_true rfl⟩ rfl (Nat.le_of_ble_eq_true rfl) d_X4_brings_28 ?_
    refine x_imul d_X4_brings_31 ?_
    refine x_isub d_X4_brings_32 ?_
    refine x_iconst (x := 0) d_X4_brings_33 (by decide) ?_
    refine x_ldc q769 d_X4_brings_34 ?_
    refine x_csip (as := [.int ((faithF a p) - (10 * (farF (a (24 + 3 * p + 1)) (nI k)))), .int 0, .int 99999]) (c_X4_held l E μ ((faithF a p) - (10 * (farF (a (24 + 3 * p + 1)) (nI k)))) 0 99999) v_X4_held q760 q759 rfl ⟨Nat.le_of_ble_eq_true rfl, Nat.le_of_ble_eq_true rfl⟩ rfl (Nat.le_of_ble_eq_true rfl) d_X4_brings_36 ?_
    refine x_iret rfl d_X4_brings_39 ?_
    refine ⟨?_, rfl⟩
    unfold bringsF; rw [if_neg c1]; exact held_brings hI hp hk
  · skip
    refine x_iload_n 0 d_X4_brings_16 rfl rfl ?_
    refine x_iret rfl d_X4_brings_17 ?_
    refine ⟨?_, rfl⟩
    unfold bringsF; rw [if_pos (by simpa using c1)]
def m_X4_sumAt : x_M := (yX4_sumAt, prog_6_method_18_code, 4, (some FieldType.int), 4, 92)
theorem v_X4_sumAt : x_VM m_X4_sumAt 1 := ⟨q746, q6, by decide +kernel, by decide +kernel, by decide +kernel⟩
theorem w_X4_sumAt : x_VI m_X4_sumAt := ⟨q745, qs22⟩
theorem d_X4_sumAt_0 : x_dec m_X4_sumAt 0 (.iconst 0) 1 1 := ⟨by decide +kernel, rfl⟩
theorem d_X4_sumAt_1 : x_dec m_X4_sumAt 1 (.istore_n 2) 1 2 := ⟨by decide +kernel, rfl⟩
theorem d_X4_sumAt_2 : x_dec m_X4_sumAt 2 (.iconst 0) 1 3 := ⟨by decide +kernel, rfl⟩
theorem d_X4_sumAt_3 : x_dec m_X4_sumAt 3 (.istore_n 3) 1 4 := ⟨by decide +kernel, rfl⟩
theorem d_X4_sumAt_4 : x_dec m_X4_sumAt 4 (.iload_n 3) 1 5 := ⟨by decide +kernel, rfl⟩
theorem d_X4_sumAt_5 : x_dec m_X4_sumAt 5 (.aload_n 0) 1 6 := ⟨by decide +kernel, rfl⟩
theorem d_X4_sumAt_6 : x_dec m_X4_sumAt 6 (.getfield 9) 3 9 := ⟨by decide +kernel, rfl⟩
theorem d_X4_sumAt_9 : x_dec m_X4_sumAt 9 (.bipush 7) 2 11 := ⟨by decide +kernel, rfl⟩
theorem d_X4_sumAt_11 : x_dec m_X4_sumAt 11 (.iaload) 1 12 := ⟨by decide +kernel, rfl⟩
theorem d_X4_sumAt_12 : x_dec m_X4_sumAt 12 (.if_icmp .ge 18) 3 15 := ⟨by decide +kernel, rfl⟩
theorem d_X4_sumAt_15 : x_dec m_X4_sumAt 15 (.iload_n 2) 1 16 := ⟨by decide +kernel, rfl⟩
theorem d_X4_sumAt_16 : x_dec m_X4_sumAt 16 (.aload_n 0) 1 17 := ⟨by decide +kernel, rfl⟩
theorem d_X4_sumAt_17 : x_dec m_X4_sumAt 17 (.iload_n 3) 1 18 := ⟨by decide +kernel, rfl⟩
theorem d_X4_sumAt_18 : x_dec m_X4_sumAt 18 (.iload_n 1) 1 19 := ⟨by decide +kernel, rfl⟩
theorem d_X4_sumAt_19 : x_dec m_X4_sumAt 19 (.invokevirtual 68) 3 22 := ⟨by decide +kernel, rfl⟩
theorem d_X4_sumAt_22 : x_dec m_X4_sumAt 22 (.iadd) 1 23 := ⟨by decide +kernel, rfl⟩
theorem d_X4_sumAt_23 : x_dec m_X4_sumAt 23 (.istore_n 2) 1 24 := ⟨by decide +kernel, rfl⟩
theorem d_X4_sumAt_24 : x_dec m_X4_sumAt 24 (.iinc 3 1) 3 27 := ⟨by decide +kernel, rfl⟩
theorem d_X4_sumAt_27 : x_dec m_X4_sumAt 27 (.goto (-23)) 3 30 := ⟨by decide +kernel, rfl⟩
theorem d_X4_sumAt_30 : x_dec m_X4_sumAt 30 (.iload_n 2) 1 31 := ⟨by decide +kernel, rfl⟩
theorem d_X4_sumAt_31 : x_dec m_X4_sumAt 31 (.ireturn) 1 32 := ⟨by decide +kernel, rfl⟩
set_option maxHeartbeats 4000000 in
set_option maxRecDepth 100000 in
theorem c_X4_sumAt (l : Launch) (E : x_E) (μ : x_Mem) {a : x_St} (hR : MR a μ) (hI : WF a) {k : Nat} (hk : k < 16) : x_Met l m_X4_sumAt E [.ref (E.1 + 41), .int (nI k)] μ (x_I (fun z m => z = sumF a (nI k) ∧ m = μ)) := by
  have hn7 := hI.2.1
  have hpn := hI.1
  refine x_enter (lv := [(0, .ref (E.1 + 41)), (1, .int (nI k))]) (by decide +kernel) (Nat.le_of_ble_eq_true rfl) rfl ?_
  refine x_iconst (x := 0) d_X4_sumAt_0 (by decide) ?_
  refine x_istore_n [(2, .int 0), (0, .ref (E.1 + 41)), (1, .int (nI k))] d_X4_sumAt_1 rfl (Nat.le_of_ble_eq_true rfl) rfl ?_
  refine x_iconst (x := 0) d_X4_sumAt_2 (by decide) ?_
  refine x_istore_n [(3, .int 0), (2, .int 0), (0, .ref (E.1 + 41)), (1, .int (nI k))] d_X4_sumAt_3 rfl (Nat.le_of_ble_eq_true rfl) rfl ?_
  have L1 : ∀ i : Nat, i ≤ pn a → ∀ r : Int32, (r = sumTo (fun p => bringsF a p (nI k)) i) → x_G l E m_X4_sumAt (x_mv E m_X4_sumAt (x_I (fun z m => z = sumF a (nI k) ∧ m = μ))) μ 4 [(3, .int (nI i)), (2, .int r), (0, .ref (E.1 + 41)), (1, .int (nI k))] [] := by
    refine x_down _ (pn a) (fun i hi3 ih2 => ?_)
    intro r hr
    refine x_iload_n 0 d_X4_sumAt_4 rfl rfl ?_
    refine x_aload_n 2 d_X4_sumAt_5 rfl rfl ?_
    refine x_getr (j := 0) 42 x_c4 rfl (Nat.le_of_ble_eq_true rfl) q668 rfl d_X4_sumAt_6 ?_
    refine x_bipush (x := 7) d_X4_sumAt_9 (by decide) ?_
    refine x_ialdN (z := nI (pn a)) 58 7 rfl rfl (by omega) (by decide) ((hR 7 (by decide)).trans hn7) d_X4_sumAt_11 ?_
    refine x_icmp_ge 30 d_X4_sumAt_12 (by decide) (fun c4 => ?_) (fun c4 => ?_)
    · skip
      have hN := x_ge (N := pn a) c4 rfl rfl (by omega) (by omega)
      refine x_iload_n 1 d_X4_sumAt_30 rfl rfl ?_
      refine x_iret rfl d_X4_sumAt_31 ?_
      have e7 : i = pn a := by omega
      subst e7
      exact ⟨hr, rfl⟩
    · skip
      have hN := x_lt (N := pn a) c4 rfl rfl (by omega) (by omega)
      refine x_iload_n 1 d_X4_sumAt_15 rfl rfl ?_
      refine x_aload_n 2 d_X4_sumAt_16 rfl rfl ?_
      refine x_iload_n 0 d_X4_sumAt_17 rfl rfl ?_
      refine x_iload_n 3 d_X4_sumAt_18 rfl rfl ?_
      refine x_cvip (k := 41) (as := [.int (nI i), .int (nI k)]) (c_X4_brings l E μ hR hI (p := i) (k := k) (by omega) (by omega)) v_X4_brings w_X4_brings q747 o_M rfl ⟨Nat.le_of_ble_eq_true rfl, Nat.le_of_ble_eq_true rfl⟩ rfl (Nat.le_of_ble_eq_true rfl) d_X4_sumAt_19 ?_
      refine x_iadd d_X4_sumAt_22 ?_
      refine x_istore_n [(2, .int (r + (bringsF a i (nI k)))), (3, .int (nI i)), (0, .ref (E.1 + 41)), (1, .int (nI k))] d_X4_sumAt_23 rfl (Nat.le_of_ble_eq_true rfl) rfl ?_
      refine x_iinc [(3, .int (nI (i + 1))), (2, .int (r + (bringsF a i (nI k)))), (0, .ref (E.1 + 41)), (1, .int (nI k))] 1 d_X4_sumAt_24 rfl (x_inc _) (Nat.le_of_ble_eq_true rfl) rfl ?_
      refine x_goto 4 d_X4_sumAt_27 (by decide) ?_
      exact ih2 (i + 1) (by omega) (by omega) (r + (bringsF a i (nI k))) (by rw [hr, sumTo])
  exact L1 0 (by omega) 0 (by rfl)
def m_X4_isThere : x_M := (yX4_isThere, prog_6_method_19_code, 2, (some FieldType.boolean), 5, 115)
theorem v_X4_isThere : x_VM m_X4_isThere 1 := ⟨q773, q6, by decide +kernel, by decide +kernel, by decide +kernel⟩
theorem w_X4_isThere : x_VI m_X4_isThere := ⟨q772, qs27⟩
theorem d_X4_isThere_0 : x_dec m_X4_isThere 0 (.aload_n 0) 1 1 := ⟨by decide +kernel, rfl⟩
theorem d_X4_isThere_1 : x_dec m_X4_isThere 1 (.iload_n 1) 1 2 := ⟨by decide +kernel, rfl⟩
theorem d_X4_isThere_2 : x_dec m_X4_isThere 2 (.invokevirtual 71) 3 5 := ⟨by decide +kernel, rfl⟩
theorem d_X4_isThere_5 : x_dec m_X4_isThere 5 (.aload_n 0) 1 6 := ⟨by decide +kernel, rfl⟩
theorem d_X4_isThere_6 : x_dec m_X4_isThere 6 (.getfield 9) 3 9 := ⟨by decide +kernel, rfl⟩
theorem d_X4_isThere_9 : x_dec m_X4_isThere 9 (.bipush 8) 2 11 := ⟨by decide +kernel, rfl⟩
theorem d_X4_isThere_11 : x_dec m_X4_isThere 11 (.iload_n 1) 1 12 := ⟨by decide +kernel, rfl⟩
theorem d_X4_isThere_12 : x_dec m_X4_isThere 12 (.iadd) 1 13 := ⟨by decide +kernel, rfl⟩
theorem d_X4_isThere_13 : x_dec m_X4_isThere 13 (.iaload) 1 14 := ⟨by decide +kernel, rfl⟩
theorem d_X4_isThere_14 : x_dec m_X4_isThere 14 (.if_icmp .lt 7) 3 17 := ⟨by decide +kernel, rfl⟩
theorem d_X4_isThere_17 : x_dec m_X4_isThere 17 (.iconst 1) 1 18 := ⟨by decide +kernel, rfl⟩
theorem d_X4_isThere_18 : x_dec m_X4_isThere 18 (.goto 4) 3 21 := ⟨by decide +kernel, rfl⟩
theorem d_X4_isThere_21 : x_dec m_X4_isThere 21 (.iconst 0) 1 22 := ⟨by decide +kernel, rfl⟩
theorem d_X4_isThere_22 : x_dec m_X4_isThere 22 (.ireturn) 1 23 := ⟨by decide +kernel, rfl⟩
set_option maxHeartbeats 4000000 in
set_option maxRecDepth 100000 in
theorem c_X4_isThere (l : Launch) (E : x_E) (μ : x_Mem) {a : x_St} (hR : MR a μ) (hI : WF a) {k : Nat} (hk : k < 16) : x_Met l m_X4_isThere E [.ref (E.1 + 41), .int (nI k)] μ (x_I (fun z m => z = x_b (thereB a k) ∧ m = μ)) := by
  have hn7 := hI.2.1
  have hpn := hI.1
  refine x_enter (lv := [(0, .ref (E.1 + 41)), (1, .int (nI k))]) (by decide +kernel) (Nat.le_of_ble_eq_true rfl) rfl ?_
  refine x_aload_n 0 d_X4_isThere_0 rfl rfl ?_
  refine x_iload_n 1 d_X4_isThere_1 rfl rfl ?_
  refine x_cvip (k := 41) (as := [.int (nI k)]) (c_X4_sumAt l E μ hR hI (k := k) (by omega)) v_X4_sumAt w_X4_sumAt q743 o_M rfl ⟨Nat.le_of_ble_eq_true rfl, Nat.le_of_ble_eq_true rfl⟩ rfl (Nat.le_of_ble_eq_true rfl) d_X4_isThere_2 ?_
  refine x_aload_n 0 d_X4_isThere_5 rfl rfl ?_
  refine x_getr (j := 0) 42 x_c4 rfl (Nat.le_of_ble_eq_true rfl) q668 rfl d_X4_isThere_6 ?_
  refine x_bipush (x := 8) d_X4_isThere_9 (by decide) ?_
  refine x_iload_n 1 d_X4_isThere_11 rfl rfl ?_
  refine x_iadd d_X4_isThere_12 ?_
  rw [show (8 : Int32) + (nI k) = nI (8 + k) from nI_add 8 k]
  refine x_ialdN (z := a (8 + k)) 58 (8 + k) rfl rfl (by omega) (by decide) (hR (8 + k) (by omega)) d_X4_isThere_13 ?_
  refine x_icmp_lt 21 d_X4_isThere_14 (by decide) (fun c1 => ?_) (fun c1 => ?_)
  · skip
    refine x_iconst (x := 0) d_X4_isThere_21 (by decide) ?_
    refine x_zret0 rfl d_X4_isThere_22 ?_
    exact ⟨congrArg x_b (decide_eq_false (Int32.not_le.mpr c1)).symm, rfl⟩
  · skip
    refine x_iconst (x := 1) d_X4_isThere_17 (by decide) ?_
    refine x_goto 22 d_X4_isThere_18 (by decide) ?_
    refine x_zret1 rfl d_X4_isThere_22 ?_
    exact ⟨congrArg x_b (decide_eq_true (Int32.not_lt.mp c1)).symm, rfl⟩
def m_X4_allThere : x_M := (yX4_allThere, prog_6_method_20_code, 3, (some FieldType.int), 6, 136)
theorem v_X4_allThere : x_VM m_X4_allThere 0 := ⟨q850, q6, by decide +kernel, by decide +kernel, by decide +kernel⟩
theorem w_X4_allThere : x_VI m_X4_allThere := ⟨q849, qs37⟩
theorem d_X4_allThere_0 : x_dec m_X4_allThere 0 (.iconst 0) 1 1 := ⟨by decide +kernel, rfl⟩
theorem d_X4_allThere_1 : x_dec m_X4_allThere 1 (.istore_n 1) 1 2 := ⟨by decide +kernel, rfl⟩
theorem d_X4_allThere_2 : x_dec m_X4_allThere 2 (.iconst 0) 1 3 := ⟨by decide +kernel, rfl⟩
theorem d_X4_allThere_3 : x_dec m_X4_allThere 3 (.istore_n 2) 1 4 := ⟨by decide +kernel, rfl⟩
theorem d_X4_allThere_4 : x_dec m_X4_allThere 4 (.iload_n 2) 1 5 := ⟨by decide +kernel, rfl⟩
theorem d_X4_allThere_5 : x_dec m_X4_allThere 5 (.bipush 16) 2 7 := ⟨by decide +kernel, rfl⟩
theorem d_X4_allThere_7 : x_dec m_X4_allThere 7 (.if_icmp .ge 27) 3 10 := ⟨by decide +kernel, rfl⟩
theorem d_X4_allThere_10 : x_dec m_X4_allThere 10 (.iload_n 1) 1 11 := ⟨by decide +kernel, rfl⟩
theorem d_X4_allThere_11 : x_dec m_X4_allThere 11 (.aload_n 0) 1 12 := ⟨by decide +kernel, rfl⟩
theorem d_X4_allThere_12 : x_dec m_X4_allThere 12 (.iload_n 2) 1 13 := ⟨by decide +kernel, rfl⟩
theorem d_X4_allThere_13 : x_dec m_X4_allThere 13 (.invokevirtual 74) 3 16 := ⟨by decide +kernel, rfl⟩
theorem d_X4_allThere_16 : x_dec m_X4_allThere 16 (.ifCond .eq 9) 3 19 := ⟨by decide +kernel, rfl⟩
theorem d_X4_allThere_19 : x_dec m_X4_allThere 19 (.iconst 1) 1 20 := ⟨by decide +kernel, rfl⟩
theorem d_X4_allThere_20 : x_dec m_X4_allThere 20 (.iload_n 2) 1 21 := ⟨by decide +kernel, rfl⟩
theorem d_X4_allThere_21 : x_dec m_X4_allThere 21 (.ishl) 1 22 := ⟨by decide +kernel, rfl⟩
theorem d_X4_allThere_22 : x_dec m_X4_allThere 22 (.goto 4) 3 25 := ⟨by decide +kernel, rfl⟩
theorem d_X4_allThere_25 : x_dec m_X4_allThere 25 (.iconst 0) 1 26 := ⟨by decide +kernel, rfl⟩
theorem d_X4_allThere_26 : x_dec m_X4_allThere 26 (.ior) 1 27 := ⟨by decide +kernel, rfl⟩
theorem d_X4_allThere_27 : x_dec m_X4_allThere 27 (.istore_n 1) 1 28 := ⟨by decide +kernel, rfl⟩
theorem d_X4_allThere_28 : x_dec m_X4_allThere 28 (.iinc 2 1) 3 31 := ⟨by decide +kernel, rfl⟩
theorem d_X4_allThere_31 : x_dec m_X4_allThere 31 (.goto (-27)) 3 34 := ⟨by decide +kernel, rfl⟩
theorem d_X4_allThere_34 : x_dec m_X4_allThere 34 (.iload_n 1) 1 35 := ⟨by decide +kernel, rfl⟩
theorem d_X4_allThere_35 : x_dec m_X4_allThere 35 (.ireturn) 1 36 := ⟨by decide +kernel, rfl⟩
set_option maxHeartbeats 4000000 in
set_option maxRecDepth 100000 in
theorem c_X4_allThere (l : Launch) (E : x_E) (μ : x_Mem) {a : x_St} (hR : MR a μ) (hI : WF a) : x_Met l m_X4_allThere E [.ref (E.1 + 41)] μ (x_I (fun z m => z = thereF a ∧ m = μ)) := by
  have hn7 := hI.2.1
  have hpn := hI.1
  refine x_enter (lv := [(0, .ref (E.1 + 41))]) (by decide +kernel) (Nat.le_of_ble_eq_true rfl) rfl ?_
  refine x_iconst (x := 0) d_X4_allThere_0 (by decide) ?_
  refine x_istore_n [(1, .int 0), (0, .ref (E.1 + 41))] d_X4_allThere_1 rfl (Nat.le_of_ble_eq_true rfl) rfl ?_
  refine x_iconst (x := 0) d_X4_allThere_2 (by decide) ?_
  refine x_istore_n [(2, .int 0), (1, .int 0), (0, .ref (E.1 + 41))] d_X4_allThere_3 rfl (Nat.le_of_ble_eq_true rfl) rfl ?_
  have L1 : ∀ i : Nat, i ≤ 16 → ∀ r : Int32, (r = setTo (thereB a) i) → x_G l E m_X4_allThere (x_mv E m_X4_allThere (x_I (fun z m => z = thereF a ∧ m = μ))) μ 4 [(2, .int (nI i)), (1, .int r), (0, .ref (E.1 + 41))] [] := by
    refine x_down _ 16 (fun i hi3 ih2 => ?_)
    intro r hr
    refine x_iload_n 0 d_X4_allThere_4 rfl rfl ?_
    refine x_bipush (x := 16) d_X4_allThere_5 (by decide) ?_
    refine x_icmp_ge 34 d_X4_allThere_7 (by decide) (fun c4 => ?_) (fun c4 => ?_)
    · skip
      have hN := x_ge (N := 16) c4 rfl rfl (by omega) (by omega)
      refine x_iload_n 1 d_X4_allThere_34 rfl rfl ?_
      refine x_iret rfl d_X4_allThere_35 ?_
      have e7 : i = 16 := by omega
      subst e7
      exact ⟨hr, rfl⟩
    · skip
      have hN := x_lt (N := 16) c4 rfl rfl (by omega) (by omega)
      refine x_iload_n 1 d_X4_allThere_10 rfl rfl ?_
      refine x_aload_n 2 d_X4_allThere_11 rfl rfl ?_
      refine x_iload_n 0 d_X4_allThere_12 rfl rfl ?_
      refine x_cvip (k := 41) (as := [.int (nI i)]) (c_X4_isThere l E μ hR hI (k := i) (by omega)) v_X4_isThere w_X4_isThere q770 o_M rfl ⟨Nat.le_of_ble_eq_true rfl, Nat.le_of_ble_eq_true rfl⟩ rfl (Nat.le_of_ble_eq_true rfl) d_X4_allThere_13 ?_
      refine x_ifb_eq 25 d_X4_allThere_16 (by decide) (fun c5 => ?_) (fun c5 => ?_)
      · skip
        refine x_iconst (x := 0) d_X4_allThere_25 (by decide) ?_
        refine x_ior d_X4_allThere_26 ?_
        refine x_istore_n [(1, .int (r ||| 0)), (2, .int (nI i)), (0, .ref (E.1 + 41))] d_X4_allThere_27 rfl (Nat.le_of_ble_eq_true rfl) rfl ?_
        refine x_iinc [(2, .int (nI (i + 1))), (1, .int (r ||| 0)), (0, .ref (E.1 + 41))] 1 d_X4_allThere_28 rfl (x_inc _) (Nat.le_of_ble_eq_true rfl) rfl ?_
        refine x_goto 4 d_X4_allThere_31 (by decide) ?_
        exact ih2 (i + 1) (by omega) (by omega) (r ||| 0) (by rw [hr, setTo, if_neg (by rw [c5]; decide)]; exact or_0 _)
      · skip
        refine x_iconst (x := 1) d_X4_allThere_19 (by decide) ?_
        refine x_iload_n 0 d_X4_allThere_20 rfl rfl ?_
        refine x_ishl d_X4_allThere_21 ?_
        refine x_goto 26 d_X4_allThere_22 (by decide) ?_
        refine x_ior d_X4_allThere_26 ?_
        refine x_istore_n [(1, .int (r ||| (1 <<< ((nI i) &&& 31)))), (2, .int (nI i)), (0, .ref (E.1 + 41))] d_X4_allThere_27 rfl (Nat.le_of_ble_eq_true rfl) rfl ?_
        refine x_iinc [(2, .int (nI (i + 1))), (1, .int (r ||| (1 <<< ((nI i) &&& 31)))), (0, .ref (E.1 + 41))] 1 d_X4_allThere_28 rfl (x_inc _) (Nat.le_of_ble_eq_true rfl) rfl ?_
        refine x_goto 4 d_X4_allThere_31 (by decide) ?_
        exact ih2 (i + 1) (by omega) (by omega) (r ||| (1 <<< ((nI i) &&& 31))) (by rw [hr, setTo, if_pos c5])
  exact L1 0 (by omega) 0 (by rfl)
end
section
def m_X4_comes : x_M := (yX4_comes, prog_6_method_23_code, 5, (some FieldType.int), 1, 23)
theorem v_X4_comes : x_VM m_X4_comes 3 := ⟨q782, q6, by decide +kernel, by decide +kernel, by decide +kernel⟩
theorem w_X4_comes : x_VI m_X4_comes := ⟨q781, qs28⟩
theorem d_X4_comes_0 : x_dec m_X4_comes 0 (.aload_n 0) 1 1 := ⟨by decide +kernel, rfl⟩
theorem d_X4_comes_1 : x_dec m_X4_comes 1 (.getfield 9) 3 4 := ⟨by decide +kernel, rfl⟩
theorem d_X4_comes_4 : x_dec m_X4_comes 4 (.bipush 7) 2 6 := ⟨by decide +kernel, rfl⟩
theorem d_X4_comes_6 : x_dec m_X4_comes 6 (.iaload) 1 7 := ⟨by decide +kernel, rfl⟩
theorem d_X4_comes_7 : x_dec m_X4_comes 7 (.istore 4) 2 9 := ⟨by decide +kernel, rfl⟩
theorem d_X4_comes_9 : x_dec m_X4_comes 9 (.aload_n 0) 1 10 := ⟨by decide +kernel, rfl⟩
theorem d_X4_comes_10 : x_dec m_X4_comes 10 (.getfield 9) 3 13 := ⟨by decide +kernel, rfl⟩
theorem d_X4_comes_13 : x_dec m_X4_comes 13 (.bipush 7) 2 15 := ⟨by decide +kernel, rfl⟩
theorem d_X4_comes_15 : x_dec m_X4_comes 15 (.dup2) 1 16 := ⟨by decide +kernel, rfl⟩
theorem d_X4_comes_16 : x_dec m_X4_comes 16 (.iaload) 1 17 := ⟨by decide +kernel, rfl⟩
theorem d_X4_comes_17 : x_dec m_X4_comes 17 (.iconst 1) 1 18 := ⟨by decide +kernel, rfl⟩
theorem d_X4_comes_18 : x_dec m_X4_comes 18 (.iadd) 1 19 := ⟨by decide +kernel, rfl⟩
theorem d_X4_comes_19 : x_dec m_X4_comes 19 (.iastore) 1 20 := ⟨by decide +kernel, rfl⟩
theorem d_X4_comes_20 : x_dec m_X4_comes 20 (.aload_n 0) 1 21 := ⟨by decide +kernel, rfl⟩
theorem d_X4_comes_21 : x_dec m_X4_comes 21 (.iload 4) 2 23 := ⟨by decide +kernel, rfl⟩
theorem d_X4_comes_23 : x_dec m_X4_comes 23 (.iconst 0) 1 24 := ⟨by decide +kernel, rfl⟩
theorem d_X4_comes_24 : x_dec m_X4_comes 24 (.iload_n 1) 1 25 := ⟨by decide +kernel, rfl⟩
theorem d_X4_comes_25 : x_dec m_X4_comes 25 (.invokevirtual 84) 3 28 := ⟨by decide +kernel, rfl⟩
theorem d_X4_comes_28 : x_dec m_X4_comes 28 (.aload_n 0) 1 29 := ⟨by decide +kernel, rfl⟩
theorem d_X4_comes_29 : x_dec m_X4_comes 29 (.iload 4) 2 31 := ⟨by decide +kernel, rfl⟩
theorem d_X4_comes_31 : x_dec m_X4_comes 31 (.iconst 1) 1 32 := ⟨by decide +kernel, rfl⟩
theorem d_X4_comes_32 : x_dec m_X4_comes 32 (.iload_n 2) 1 33 := ⟨by decide +kernel, rfl⟩
theorem d_X4_comes_33 : x_dec m_X4_comes 33 (.invokevirtual 84) 3 36 := ⟨by decide +kernel, rfl⟩
theorem d_X4_comes_36 : x_dec m_X4_comes 36 (.aload_n 0) 1 37 := ⟨by decide +kernel, rfl⟩
theorem d_X4_comes_37 : x_dec m_X4_comes 37 (.iload 4) 2 39 := ⟨by decide +kernel, rfl⟩
theorem d_X4_comes_39 : x_dec m_X4_comes 39 (.iconst 2) 1 40 := ⟨by decide +kernel, rfl⟩
theorem d_X4_comes_40 : x_dec m_X4_comes 40 (.iload_n 3) 1 41 := ⟨by decide +kernel, rfl⟩
theorem d_X4_comes_41 : x_dec m_X4_comes 41 (.invokevirtual 84) 3 44 := ⟨by decide +kernel, rfl⟩
theorem d_X4_comes_44 : x_dec m_X4_comes 44 (.iload 4) 2 46 := ⟨by decide +kernel, rfl⟩
theorem d_X4_comes_46 : x_dec m_X4_comes 46 (.ireturn) 1 47 := ⟨by decide +kernel, rfl⟩
set_option maxHeartbeats 4000000 in
set_option maxRecDepth 100000 in
theorem c_X4_comes (l : Launch) (E : x_E) (μ : x_Mem) {a : x_St} (hR : MR a μ) (hI : WF a) (hlt : pn a < 8) (k w b : Int32) : x_Met l m_X4_comes E [.ref (E.1 + 41), .int k, .int w, .int b] μ (x_I (fun z m => z = nI (pn a) ∧ MR (comeF a k w b) m ∧ ∀ id, id ≠ 42 → m id = μ id)) := by
  have hn7 := hI.2.1
  have hpn := hI.1
  have hF : ∀ id, id ≠ 42 → μ id = μ id := fun _ _ => rfl
  refine x_enter (lv := [(0, .ref (E.1 + 41)), (1, .int k), (2, .int w), (3, .int b)]) (by decide +kernel) (Nat.le_of_ble_eq_true rfl) rfl ?_
  refine x_aload_n 0 d_X4_comes_0 rfl rfl ?_
  refine x_getr (j := 0) 42 x_c4 rfl (Nat.le_of_ble_eq_true rfl) q668 rfl d_X4_comes_1 ?_
  refine x_bipush (x := 7) d_X4_comes_4 (by decide) ?_
  refine x_ialdN (z := nI (pn a)) 58 7 rfl rfl (by omega) (by decide) ((hR 7 (by decide)).trans hn7) d_X4_comes_6 ?_
  refine x_istore [(4, .int (nI (pn a))), (0, .ref (E.1 + 41)), (1, .int k), (2, .int w), (3, .int b)] d_X4_comes_7 (Nat.le_of_ble_eq_true rfl) rfl ?_
  refine x_aload_n 1 d_X4_comes_9 rfl rfl ?_
  refine x_getr (j := 0) 42 x_c4 rfl (Nat.le_of_ble_eq_true rfl) q668 rfl d_X4_comes_10 ?_
  refine x_bipush (x := 7) d_X4_comes_13 (by decide) ?_
  refine x_dup2 d_X4_comes_15 rfl rfl ?_
  refine x_ialdN (z := nI (pn a)) 58 7 rfl rfl (by omega) (by decide) ((hR 7 (by decide)).trans hn7) d_X4_comes_16 ?_
  refine x_iconst (x := 1) d_X4_comes_17 (by decide) ?_
  refine x_iadd d_X4_comes_18 ?_
  rw [show (nI (pn a)) + (1 : Int32) = nI ((pn a) + 1) from nI_add (pn a) 1]
  refine x_iastNG 58 7 rfl rfl (by omega) (by decide) d_X4_comes_19 (fun μ1 eμ1 => ?_)
  have hR2 : MR (upd a (7) (nI ((pn a) + 1))) μ1 := MR.w hR eμ1
  have hF3 : ∀ id, id ≠ 42 → μ1 id = μ id := fun id hid => (show μ1 id = μ id from (by rw [eμ1, upd2_ne _ _ _ (by omega)])).trans (hF id hid)
  refine x_aload_n 1 d_X4_comes_20 rfl rfl ?_
  refine x_iload 0 d_X4_comes_21 rfl ?_
  refine x_iconst (x := 0) d_X4_comes_23 (by decide) ?_
  refine x_iload_n 2 d_X4_comes_24 rfl rfl ?_
  refine x_cvv (k := 41) (as := [.int (nI (pn a)), .int 0, .int k]) (c_X4_put l E μ1 (p := (pn a)) (w := 0) (j := 24 + 3 * (pn a)) rfl (by omega) k) v_X4_put w_X4_put q783 o_M rfl ⟨Nat.le_of_ble_eq_true rfl, Nat.le_of_ble_eq_true rfl⟩ rfl (Nat.le_of_ble_eq_true rfl) d_X4_comes_25 ?_
  intro μ4 eμ4
  have hR5 : MR (upd (upd a (7) (nI ((pn a) + 1))) (24 + 3 * (pn a)) k) μ4 := MR.w hR2 eμ4
  have hF6 : ∀ id, id ≠ 42 → μ4 id = μ id := fun id hid => (show μ4 id = μ1 id from (by rw [eμ4, upd2_ne _ _ _ (by omega)])).trans (hF3 id hid)
  refine x_aload_n 1 d_X4_comes_28 rfl rfl ?_
  refine x_iload 0 d_X4_comes_29 rfl ?_
  refine x_iconst (x := 1) d_X4_comes_31 (by decide) ?_
  refine x_iload_n 3 d_X4_comes_32 rfl rfl ?_
  refine x_cvv (k := 41) (as := [.int (nI (pn a)), .int 1, .int w]) (c_X4_put l E μ4 (p := (pn a)) (w := 1) (j := 24 + 3 * (pn a) + 1) rfl (by omega) w) v_X4_put w_X4_put q783 o_M rfl ⟨Nat.le_of_ble_eq_true rfl, Nat.le_of_ble_eq_true rfl⟩ rfl (Nat.le_of_ble_eq_true rfl) d_X4_comes_33 ?_
  intro μ7 eμ7
  have hR8 : MR (upd (upd (upd a (7) (nI ((pn a) + 1))) (24 + 3 * (pn a)) k) (24 + 3 * (pn a) + 1) w) μ7 := MR.w hR5 eμ7
  have hF9 : ∀ id, id ≠ 42 → μ7 id = μ id := fun id hid => (show μ7 id = μ4 id from (by rw [eμ7, upd2_ne _ _ _ (by omega)])).trans (hF6 id hid)
  refine x_aload_n 1 d_X4_comes_36 rfl rfl ?_
  refine x_iload 0 d_X4_comes_37 rfl ?_
  refine x_iconst (x := 2) d_X4_comes_39 (by decide) ?_
  refine x_iload_n 4 d_X4_comes_40 rfl rfl ?_
  refine x_cvv (k := 41) (as := [.int (nI (pn a)), .int 2, .int b]) (c_X4_put l E μ7 (p := (pn a)) (w := 2) (j := 24 + 3 * (pn a) + 2) rfl (by omega) b) v_X4_put w_X4_put q783 o_M rfl ⟨Nat.le_of_ble_eq_true rfl, Nat.le_of_ble_eq_true rfl⟩ rfl (Nat.le_of_ble_eq_true rfl) d_X4_comes_41 ?_
  intro μ10 eμ10
  have hR11 : MR (upd (upd (upd (upd a (7) (nI ((pn a) + 1))) (24 + 3 * (pn a)) k) (24 + 3 * (pn a) + 1) w) (24 + 3 * (pn a) + 2) b) μ10 := MR.w hR8 eμ10
  have hF12 : ∀ id, id ≠ 42 → μ10 id = μ id := fun id hid => (show μ10 id = μ7 id from (by rw [eμ10, upd2_ne _ _ _ (by omega)])).trans (hF9 id hid)
  refine x_iload 0 d_X4_comes_44 rfl ?_
  refine x_iret rfl d_X4_comes_46 ?_
  exact ⟨rfl, MR.eq hR11 (fun j hj => come_eq hn7 j), hF12⟩
def m_X4_meanWith : x_M := (yX4_meanWith, prog_6_method_31_code, 6, (some FieldType.int), 1, 22)
theorem v_X4_meanWith : x_VM m_X4_meanWith 1 := ⟨q838, q6, by decide +kernel, by decide +kernel, by decide +kernel⟩
theorem w_X4_meanWith : x_VI m_X4_meanWith := ⟨q837, qs35⟩
theorem d_X4_meanWith_0 : x_dec m_X4_meanWith 0 (.iconst 0) 1 1 := ⟨by decide +kernel, rfl⟩
theorem d_X4_meanWith_1 : x_dec m_X4_meanWith 1 (.istore_n 2) 1 2 := ⟨by decide +kernel, rfl⟩
theorem d_X4_meanWith_2 : x_dec m_X4_meanWith 2 (.iconst 0) 1 3 := ⟨by decide +kernel, rfl⟩
theorem d_X4_meanWith_3 : x_dec m_X4_meanWith 3 (.istore_n 3) 1 4 := ⟨by decide +kernel, rfl⟩
theorem d_X4_meanWith_4 : x_dec m_X4_meanWith 4 (.iconst 0) 1 5 := ⟨by decide +kernel, rfl⟩
theorem d_X4_meanWith_5 : x_dec m_X4_meanWith 5 (.istore 4) 2 7 := ⟨by decide +kernel, rfl⟩
theorem d_X4_meanWith_7 : x_dec m_X4_meanWith 7 (.iload 4) 2 9 := ⟨by decide +kernel, rfl⟩
theorem d_X4_meanWith_9 : x_dec m_X4_meanWith 9 (.aload_n 0) 1 10 := ⟨by decide +kernel, rfl⟩
theorem d_X4_meanWith_10 : x_dec m_X4_meanWith 10 (.getfield 9) 3 13 := ⟨by decide +kernel, rfl⟩
theorem d_X4_meanWith_13 : x_dec m_X4_meanWith 13 (.bipush 7) 2 15 := ⟨by decide +kernel, rfl⟩
theorem d_X4_meanWith_15 : x_dec m_X4_meanWith 15 (.iaload) 1 16 := ⟨by decide +kernel, rfl⟩
theorem d_X4_meanWith_16 : x_dec m_X4_meanWith 16 (.if_icmp .ge 64) 3 19 := ⟨by decide +kernel, rfl⟩
theorem d_X4_meanWith_19 : x_dec m_X4_meanWith 19 (.aload_n 0) 1 20 := ⟨by decide +kernel, rfl⟩
theorem d_X4_meanWith_20 : x_dec m_X4_meanWith 20 (.iload 4) 2 22 := ⟨by decide +kernel, rfl⟩
theorem d_X4_meanWith_22 : x_dec m_X4_meanWith 22 (.iconst 1) 1 23 := ⟨by decide +kernel, rfl⟩
theorem d_X4_meanWith_23 : x_dec m_X4_meanWith 23 (.invokevirtual 50) 3 26 := ⟨by decide +kernel, rfl⟩
theorem d_X4_meanWith_26 : x_dec m_X4_meanWith 26 (.aload_n 0) 1 27 := ⟨by decide +kernel, rfl⟩
theorem d_X4_meanWith_27 : x_dec m_X4_meanWith 27 (.iload_n 1) 1 28 := ⟨by decide +kernel, rfl⟩
theorem d_X4_meanWith_28 : x_dec m_X4_meanWith 28 (.iconst 1) 1 29 := ⟨by decide +kernel, rfl⟩
theorem d_X4_meanWith_29 : x_dec m_X4_meanWith 29 (.invokevirtual 50) 3 32 := ⟨by decide +kernel, rfl⟩
theorem d_X4_meanWith_32 : x_dec m_X4_meanWith 32 (.if_icmp .ne 7) 3 35 := ⟨by decide +kernel, rfl⟩
theorem d_X4_meanWith_35 : x_dec m_X4_meanWith 35 (.iconst 1) 1 36 := ⟨by decide +kernel, rfl⟩
theorem d_X4_meanWith_36 : x_dec m_X4_meanWith 36 (.goto 4) 3 39 := ⟨by decide +kernel, rfl⟩
theorem d_X4_meanWith_39 : x_dec m_X4_meanWith 39 (.iconst 0) 1 40 := ⟨by decide +kernel, rfl⟩
theorem d_X4_meanWith_40 : x_dec m_X4_meanWith 40 (.istore 5) 2 42 := ⟨by decide +kernel, rfl⟩
theorem d_X4_meanWith_42 : x_dec m_X4_meanWith 42 (.iload_n 2) 1 43 := ⟨by decide +kernel, rfl⟩
theorem d_X4_meanWith_43 : x_dec m_X4_meanWith 43 (.iload 5) 2 45 := ⟨by decide +kernel, rfl⟩
theorem d_X4_meanWith_45 : x_dec m_X4_meanWith 45 (.ifCond .eq 13) 3 48 := ⟨by decide +kernel, rfl⟩
theorem d_X4_meanWith_48 : x_dec m_X4_meanWith 48 (.aload_n 0) 1 49 := ⟨by decide +kernel, rfl⟩
theorem d_X4_meanWith_49 : x_dec m_X4_meanWith 49 (.iload 4) 2 51 := ⟨by decide +kernel, rfl⟩
theorem d_X4_meanWith_51 : x_dec m_X4_meanWith 51 (.iconst 2) 1 52 := ⟨by decide +kernel, rfl⟩
theorem d_X4_meanWith_52 : x_dec m_X4_meanWith 52 (.invokevirtual 50) 3 55 := ⟨by decide +kernel, rfl⟩
theorem d_X4_meanWith_55 : x_dec m_X4_meanWith 55 (.goto 4) 3 58 := ⟨by decide +kernel, rfl⟩
theorem d_X4_meanWith_58 : x_dec m_X4_meanWith 58 (.iconst 0) 1 59 := ⟨by decide +kernel, rfl⟩
theorem d_X4_meanWith_59 : x_dec m_X4_meanWith 59 (.iadd) 1 60 := ⟨by decide +kernel, rfl⟩
theorem d_X4_meanWith_60 : x_dec m_X4_meanWith 60 (.istore_n 2) 1 61 := ⟨by decide +kernel, rfl⟩
theorem d_X4_meanWith_61 : x_dec m_X4_meanWith 61 (.iload_n 3) 1 62 := ⟨by decide +kernel, rfl⟩
theorem d_X4_meanWith_62 : x_dec m_X4_meanWith 62 (.iload 5) 2 64 := ⟨by decide +kernel, rfl⟩
theorem d_X4_meanWith_64 : x_dec m_X4_meanWith 64 (.ifCond .eq 7) 3 67 := ⟨by decide +kernel, rfl⟩
theorem d_X4_meanWith_67 : x_dec m_X4_meanWith 67 (.iconst 1) 1 68 := ⟨by decide +kernel, rfl⟩
theorem d_X4_meanWith_68 : x_dec m_X4_meanWith 68 (.goto 4) 3 71 := ⟨by decide +kernel, rfl⟩
theorem d_X4_meanWith_71 : x_dec m_X4_meanWith 71 (.iconst 0) 1 72 := ⟨by decide +kernel, rfl⟩
theorem d_X4_meanWith_72 : x_dec m_X4_meanWith 72 (.iadd) 1 73 := ⟨by decide +kernel, rfl⟩
theorem d_X4_meanWith_73 : x_dec m_X4_meanWith 73 (.istore_n 3) 1 74 := ⟨by decide +kernel, rfl⟩
theorem d_X4_meanWith_74 : x_dec m_X4_meanWith 74 (.iinc 4 1) 3 77 := ⟨by decide +kernel, rfl⟩
theorem d_X4_meanWith_77 : x_dec m_X4_meanWith 77 (.goto (-70)) 3 80 := ⟨by decide +kernel, rfl⟩
theorem d_X4_meanWith_80 : x_dec m_X4_meanWith 80 (.iload_n 2) 1 81 := ⟨by decide +kernel, rfl⟩
theorem d_X4_meanWith_81 : x_dec m_X4_meanWith 81 (.iload_n 3) 1 82 := ⟨by decide +kernel, rfl⟩
theorem d_X4_meanWith_82 : x_dec m_X4_meanWith 82 (.idiv) 1 83 := ⟨by decide +kernel, rfl⟩
theorem d_X4_meanWith_83 : x_dec m_X4_meanWith 83 (.ireturn) 1 84 := ⟨by decide +kernel, rfl⟩
set_option maxHeartbeats 4000000 in
set_option maxRecDepth 100000 in
theorem c_X4_meanWith (l : Launch) (E : x_E) (μ : x_Mem) {a : x_St} (hR : MR a μ) (hI : WF a) {p : Nat} (hp : p < pn a) : x_Met l m_X4_meanWith E [.ref (E.1 + 41), .int (nI p)] μ (x_I (fun z m => z = meanF a p ∧ m = μ)) := by
  have hn7 := hI.2.1
  have hpn := hI.1
  refine x_enter (lv := [(0, .ref (E.1 + 41)), (1, .int (nI p))]) (by decide +kernel) (Nat.le_of_ble_eq_true rfl) rfl ?_
  refine x_iconst (x := 0) d_X4_meanWith_0 (by decide) ?_
  refine x_istore_n [(2, .int 0), (0, .ref (E.1 + 41)), (1, .int (nI p))] d_X4_meanWith_1 rfl (Nat.le_of_ble_eq_true rfl) rfl ?_
  refine x_iconst (x := 0) d_X4_meanWith_2 (by decide) ?_
  refine x_istore_n [(3, .int 0), (2, .int 0), (0, .ref (E.1 + 41)), (1, .int (nI p))] d_X4_meanWith_3 rfl (Nat.le_of_ble_eq_true rfl) rfl ?_
  refine x_iconst (x := 0) d_X4_meanWith_4 (by decide) ?_
  refine x_istore [(4, .int 0), (3, .int 0), (2, .int 0), (0, .ref (E.1 + 41)), (1, .int (nI p))] d_X4_meanWith_5 (Nat.le_of_ble_eq_true rfl) rfl ?_
  have L1 : ∀ i : Nat, i ≤ pn a → ∀ q : Int32, ∀ r : Int32, (q = sumTo (fun o => if withB a p o = true then a (24 + 3 * o + 2) else 0) i) → (r = cntTo 0 (withB a p) i) → x_G l E m_X4_meanWith (x_mv E m_X4_meanWith (x_I (fun z m => z = meanF a p ∧ m = μ))) μ 7 [(4, .int (nI i)), (3, .int r), (2, .int q), (0, .ref (E.1 + 41)), (1, .int (nI p))] [] := by
    refine x_down _ (pn a) (fun i hi3 ih2 => ?_)
    intro q r hq hr
    refine x_iload 0 d_X4_meanWith_7 rfl ?_
    refine x_aload_n 3 d_X4_meanWith_9 rfl rfl ?_
    refine x_getr (j := 0) 42 x_c4 rfl (Nat.le_of_ble_eq_true rfl) q668 rfl d_X4_meanWith_10 ?_
    refine x_bipush (x := 7) d_X4_meanWith_13 (by decide) ?_
    refine x_ialdN (z := nI (pn a)) 58 7 rfl rfl (by omega) (by decide) ((hR 7 (by decide)).trans hn7) d_X4_meanWith_15 ?_
    refine x_icmp_ge 80 d_X4_meanWith_16 (by decide) (fun c4 => ?_) (fun c4 => ?_)
    · skip
      have hN := x_ge (N := pn a) c4 rfl rfl (by omega) (by omega)
      refine x_iload_n 2 d_X4_meanWith_80 rfl rfl ?_
      refine x_iload_n 1 d_X4_meanWith_81 rfl rfl ?_
      refine x_idiv d_X4_meanWith_82 (num_ne hI hp hr (by omega)) ?_
      refine x_iret rfl d_X4_meanWith_83 ?_
      have e7 : i = pn a := by omega
      subst e7
      subst hq hr
      exact ⟨rfl, rfl⟩
    · skip
      have hN := x_lt (N := pn a) c4 rfl rfl (by omega) (by omega)
      refine x_aload_n 3 d_X4_meanWith_19 rfl rfl ?_
      refine x_iload 0 d_X4_meanWith_20 rfl ?_
      refine x_iconst (x := 1) d_X4_meanWith_22 (by decide) ?_
      refine x_cvip (k := 41) (as := [.int (nI i), .int 1]) (c_X4_told l E μ hR (p := i) (w := 1) (j := 24 + 3 * i + 1) rfl (by omega)) v_X4_told w_X4_told q755 o_M rfl ⟨Nat.le_of_ble_eq_true rfl, Nat.le_of_ble_eq_true rfl⟩ rfl (Nat.le_of_ble_eq_true rfl) d_X4_meanWith_23 ?_
      refine x_aload_n 3 d_X4_meanWith_26 rfl rfl ?_
      refine x_iload_n 4 d_X4_meanWith_27 rfl rfl ?_
      refine x_iconst (x := 1) d_X4_meanWith_28 (by decide) ?_
      refine x_cvip (k := 41) (as := [.int (nI p), .int 1]) (c_X4_told l E μ hR (p := p) (w := 1) (j := 24 + 3 * p + 1) rfl (by omega)) v_X4_told w_X4_told q755 o_M rfl ⟨Nat.le_of_ble_eq_true rfl, Nat.le_of_ble_eq_true rfl⟩ rfl (Nat.le_of_ble_eq_true rfl) d_X4_meanWith_29 ?_
      refine x_icmp_ne 39 d_X4_meanWith_32 (by decide) (fun c5 => ?_) (fun c5 => ?_)
      · skip
        refine x_iconst (x := 0) d_X4_meanWith_39 (by decide) ?_
        refine x_istore [(5, .int 0), (4, .int (nI i)), (3, .int r), (2, .int q), (0, .ref (E.1 + 41)), (1, .int (nI p))] d_X4_meanWith_40 (Nat.le_of_ble_eq_true rfl) rfl ?_
        refine x_iload_n 3 d_X4_meanWith_42 rfl rfl ?_
        refine x_iload 0 d_X4_meanWith_43 rfl ?_
        refine x_if_eq 58 d_X4_meanWith_45 (by decide) (fun c6 => ?_) (fun c6 => ?_)
        rotate_left
        · exact absurd c6 (by decide)
        refine x_iconst (x := 0) d_X4_meanWith_58 (by decide) ?_
        refine x_iadd d_X4_meanWith_59 ?_
        refine x_istore_n [(2, .int (q + 0)), (5, .int 0), (4, .int (nI i)), (3, .int r), (0, .ref (E.1 + 41)), (1, .int (nI p))] d_X4_meanWith_60 rfl (Nat.le_of_ble_eq_true rfl) rfl ?_
        refine x_iload_n 3 d_X4_meanWith_61 rfl rfl ?_
        refine x_iload 1 d_X4_meanWith_62 rfl ?_
        refine x_if_eq 71 d_X4_meanWith_64 (by decide) (fun c7 => ?_) (fun c7 => ?_)
        rotate_left
        · exact absurd c7 (by decide)
        refine x_iconst (x := 0) d_X4_meanWith_71 (by decide) ?_
        refine x_iadd d_X4_meanWith_72 ?_
        refine x_istore_n [(3, .int (r + 0)), (2, .int (q + 0)), (5, .int 0), (4, .int (nI i)), (0, .ref (E.1 + 41)), (1, .int (nI p))] d_X4_meanWith_73 rfl (Nat.le_of_ble_eq_true rfl) rfl ?_
        refine x_iinc [(4, .int (nI (i + 1))), (3, .int (r + 0)), (2, .int (q + 0)), (5, .int 0), (0, .ref (E.1 + 41)), (1, .int (nI p))] 3 d_X4_meanWith_74 rfl (x_inc _) (Nat.le_of_ble_eq_true rfl) rfl ?_
        refine x_goto 7 d_X4_meanWith_77 (by decide) ?_
        refine x_lv [0, 1, 2, 4, 5] rfl ?_
        exact ih2 (i + 1) (by omega) (by omega) (q + 0) (r + 0) (by rw [hq, sumTo, if_neg (by unfold withB; rw [decide_eq_false c5]; decide)]) (by rw [hr, cntTo, if_neg (by unfold withB; rw [decide_eq_false c5]; decide), Int32.add_zero])
      · skip
        refine x_iconst (x := 1) d_X4_meanWith_35 (by decide) ?_
        refine x_goto 40 d_X4_meanWith_36 (by decide) ?_
        refine x_istore [(5, .int 1), (4, .int (nI i)), (3, .int r), (2, .int q), (0, .ref (E.1 + 41)), (1, .int (nI p))] d_X4_meanWith_40 (Nat.le_of_ble_eq_true rfl) rfl ?_
        refine x_iload_n 3 d_X4_meanWith_42 rfl rfl ?_
        refine x_iload 0 d_X4_meanWith_43 rfl ?_
        refine x_if_eq 58 d_X4_meanWith_45 (by decide) (fun c8 => ?_) (fun c8 => ?_)
        · exact absurd c8 (by decide)
        refine x_aload_n 4 d_X4_meanWith_48 rfl rfl ?_
        refine x_iload 1 d_X4_meanWith_49 rfl ?_
        refine x_iconst (x := 2) d_X4_meanWith_51 (by decide) ?_
        refine x_cvip (k := 41) (as := [.int (nI i), .int 2]) (c_X4_told l E μ hR (p := i) (w := 2) (j := 24 + 3 * i + 2) rfl (by omega)) v_X4_told w_X4_told q755 o_M rfl ⟨Nat.le_of_ble_eq_true rfl, Nat.le_of_ble_eq_true rfl⟩ rfl (Nat.le_of_ble_eq_true rfl) d_X4_meanWith_52 ?_
        refine x_goto 59 d_X4_meanWith_55 (by decide) ?_
        refine x_iadd d_X4_meanWith_59 ?_
        refine x_istore_n [(2, .int (q + (a (24 + 3 * i + 2)))), (5, .int 1), (4, .int (nI i)), (3, .int r), (0, .ref (E.1 + 41)), (1, .int (nI p))] d_X4_meanWith_60 rfl (Nat.le_of_ble_eq_true rfl) rfl ?_
        refine x_iload_n 3 d_X4_meanWith_61 rfl rfl ?_
        refine x_iload 1 d_X4_meanWith_62 rfl ?_
        refine x_if_eq 71 d_X4_meanWith_64 (by decide) (fun c9 => ?_) (fun c9 => ?_)
        · exact absurd c9 (by decide)
        refine x_iconst (x := 1) d_X4_meanWith_67 (by decide) ?_
        refine x_goto 72 d_X4_meanWith_68 (by decide) ?_
        refine x_iadd d_X4_meanWith_72 ?_
        refine x_istore_n [(3, .int (r + 1)), (2, .int (q + (a (24 + 3 * i + 2)))), (5, .int 1), (4, .int (nI i)), (0, .ref (E.1 + 41)), (1, .int (nI p))] d_X4_meanWith_73 rfl (Nat.le_of_ble_eq_true rfl) rfl ?_
        refine x_iinc [(4, .int (nI (i + 1))), (3, .int (r + 1)), (2, .int (q + (a (24 + 3 * i + 2)))), (5, .int 1), (0, .ref (E.1 + 41)), (1, .int (nI p))] 3 d_X4_meanWith_74 rfl (x_inc _) (Nat.le_of_ble_eq_true rfl) rfl ?_
        refine x_goto 7 d_X4_meanWith_77 (by decide) ?_
        refine x_lv [0, 1, 2, 4, 5] rfl ?_
        exact ih2 (i + 1) (by omega) (by omega) (q + (a (24 + 3 * i + 2))) (r + 1) (by rw [hq, sumTo, if_pos (show withB a p i = true from decide_eq_true c5)]) (by rw [hr, cntTo, if_pos (show withB a p i = true from decide_eq_true c5)])
  exact L1 0 (by omega) 0 0 (by rfl) (by rfl)
def m_X4_sways : x_M := (yX4_sways, prog_6_method_32_code, 4, none, 2, 47)
theorem v_X4_sways : x_VM m_X4_sways 0 := ⟨q834, q6, by decide +kernel, by decide +kernel, by decide +kernel⟩
theorem w_X4_sways : x_VI m_X4_sways := ⟨q833, qs34⟩
theorem d_X4_sways_0 : x_dec m_X4_sways 0 (.iconst 0) 1 1 := ⟨by decide +kernel, rfl⟩
theorem d_X4_sways_1 : x_dec m_X4_sways 1 (.istore_n 1) 1 2 := ⟨by decide +kernel, rfl⟩
theorem d_X4_sways_2 : x_dec m_X4_sways 2 (.iload_n 1) 1 3 := ⟨by decide +kernel, rfl⟩
theorem d_X4_sways_3 : x_dec m_X4_sways 3 (.aload_n 0) 1 4 := ⟨by decide +kernel, rfl⟩
theorem d_X4_sways_4 : x_dec m_X4_sways 4 (.getfield 9) 3 7 := ⟨by decide +kernel, rfl⟩
theorem d_X4_sways_7 : x_dec m_X4_sways 7 (.bipush 7) 2 9 := ⟨by decide +kernel, rfl⟩
theorem d_X4_sways_9 : x_dec m_X4_sways 9 (.iaload) 1 10 := ⟨by decide +kernel, rfl⟩
theorem d_X4_sways_10 : x_dec m_X4_sways 10 (.if_icmp .ge 51) 3 13 := ⟨by decide +kernel, rfl⟩
theorem d_X4_sways_13 : x_dec m_X4_sways 13 (.aload_n 0) 1 14 := ⟨by decide +kernel, rfl⟩
theorem d_X4_sways_14 : x_dec m_X4_sways 14 (.iload_n 1) 1 15 := ⟨by decide +kernel, rfl⟩
theorem d_X4_sways_15 : x_dec m_X4_sways 15 (.invokevirtual 100) 3 18 := ⟨by decide +kernel, rfl⟩
theorem d_X4_sways_18 : x_dec m_X4_sways 18 (.istore_n 2) 1 19 := ⟨by decide +kernel, rfl⟩
theorem d_X4_sways_19 : x_dec m_X4_sways 19 (.aload_n 0) 1 20 := ⟨by decide +kernel, rfl⟩
theorem d_X4_sways_20 : x_dec m_X4_sways 20 (.iload_n 1) 1 21 := ⟨by decide +kernel, rfl⟩
theorem d_X4_sways_21 : x_dec m_X4_sways 21 (.iconst 2) 1 22 := ⟨by decide +kernel, rfl⟩
theorem d_X4_sways_22 : x_dec m_X4_sways 22 (.invokevirtual 50) 3 25 := ⟨by decide +kernel, rfl⟩
theorem d_X4_sways_25 : x_dec m_X4_sways 25 (.istore_n 3) 1 26 := ⟨by decide +kernel, rfl⟩
theorem d_X4_sways_26 : x_dec m_X4_sways 26 (.aload_n 0) 1 27 := ⟨by decide +kernel, rfl⟩
theorem d_X4_sways_27 : x_dec m_X4_sways 27 (.getfield 22) 3 30 := ⟨by decide +kernel, rfl⟩
theorem d_X4_sways_30 : x_dec m_X4_sways 30 (.iload_n 1) 1 31 := ⟨by decide +kernel, rfl⟩
theorem d_X4_sways_31 : x_dec m_X4_sways 31 (.iload_n 3) 1 32 := ⟨by decide +kernel, rfl⟩
theorem d_X4_sways_32 : x_dec m_X4_sways 32 (.iload_n 2) 1 33 := ⟨by decide +kernel, rfl⟩
theorem d_X4_sways_33 : x_dec m_X4_sways 33 (.if_icmp .ge 9) 3 36 := ⟨by decide +kernel, rfl⟩
theorem d_X4_sways_36 : x_dec m_X4_sways 36 (.iload_n 3) 1 37 := ⟨by decide +kernel, rfl⟩
theorem d_X4_sways_37 : x_dec m_X4_sways 37 (.iconst 1) 1 38 := ⟨by decide +kernel, rfl⟩
theorem d_X4_sways_38 : x_dec m_X4_sways 38 (.iadd) 1 39 := ⟨by decide +kernel, rfl⟩
theorem d_X4_sways_39 : x_dec m_X4_sways 39 (.goto 15) 3 42 := ⟨by decide +kernel, rfl⟩
theorem d_X4_sways_42 : x_dec m_X4_sways 42 (.iload_n 3) 1 43 := ⟨by decide +kernel, rfl⟩
theorem d_X4_sways_43 : x_dec m_X4_sways 43 (.iload_n 2) 1 44 := ⟨by decide +kernel, rfl⟩
theorem d_X4_sways_44 : x_dec m_X4_sways 44 (.if_icmp .le 9) 3 47 := ⟨by decide +kernel, rfl⟩
theorem d_X4_sways_47 : x_dec m_X4_sways 47 (.iload_n 3) 1 48 := ⟨by decide +kernel, rfl⟩
theorem d_X4_sways_48 : x_dec m_X4_sways 48 (.iconst 1) 1 49 := ⟨by decide +kernel, rfl⟩
theorem d_X4_sways_49 : x_dec m_X4_sways 49 (.isub) 1 50 := ⟨by decide +kernel, rfl⟩
theorem d_X4_sways_50 : x_dec m_X4_sways 50 (.goto 4) 3 53 := ⟨by decide +kernel, rfl⟩
theorem d_X4_sways_53 : x_dec m_X4_sways 53 (.iload_n 3) 1 54 := ⟨by decide +kernel, rfl⟩
theorem d_X4_sways_54 : x_dec m_X4_sways 54 (.iastore) 1 55 := ⟨by decide +kernel, rfl⟩
theorem d_X4_sways_55 : x_dec m_X4_sways 55 (.iinc 1 1) 3 58 := ⟨by decide +kernel, rfl⟩
theorem d_X4_sways_58 : x_dec m_X4_sways 58 (.goto (-56)) 3 61 := ⟨by decide +kernel, rfl⟩
theorem d_X4_sways_61 : x_dec m_X4_sways 61 (.iconst 0) 1 62 := ⟨by decide +kernel, rfl⟩
theorem d_X4_sways_62 : x_dec m_X4_sways 62 (.istore_n 1) 1 63 := ⟨by decide +kernel, rfl⟩
theorem d_X4_sways_63 : x_dec m_X4_sways 63 (.iload_n 1) 1 64 := ⟨by decide +kernel, rfl⟩
theorem d_X4_sways_64 : x_dec m_X4_sways 64 (.aload_n 0) 1 65 := ⟨by decide +kernel, rfl⟩
theorem d_X4_sways_65 : x_dec m_X4_sways 65 (.getfield 9) 3 68 := ⟨by decide +kernel, rfl⟩
theorem d_X4_sways_68 : x_dec m_X4_sways 68 (.bipush 7) 2 70 := ⟨by decide +kernel, rfl⟩
theorem d_X4_sways_70 : x_dec m_X4_sways 70 (.iaload) 1 71 := ⟨by decide +kernel, rfl⟩
theorem d_X4_sways_71 : x_dec m_X4_sways 71 (.if_icmp .ge 21) 3 74 := ⟨by decide +kernel, rfl⟩
theorem d_X4_sways_74 : x_dec m_X4_sways 74 (.aload_n 0) 1 75 := ⟨by decide +kernel, rfl⟩
theorem d_X4_sways_75 : x_dec m_X4_sways 75 (.iload_n 1) 1 76 := ⟨by decide +kernel, rfl⟩
theorem d_X4_sways_76 : x_dec m_X4_sways 76 (.iconst 2) 1 77 := ⟨by decide +kernel, rfl⟩
theorem d_X4_sways_77 : x_dec m_X4_sways 77 (.aload_n 0) 1 78 := ⟨by decide +kernel, rfl⟩
theorem d_X4_sways_78 : x_dec m_X4_sways 78 (.getfield 22) 3 81 := ⟨by decide +kernel, rfl⟩
theorem d_X4_sways_81 : x_dec m_X4_sways 81 (.iload_n 1) 1 82 := ⟨by decide +kernel, rfl⟩
theorem d_X4_sways_82 : x_dec m_X4_sways 82 (.iaload) 1 83 := ⟨by decide +kernel, rfl⟩
theorem d_X4_sways_83 : x_dec m_X4_sways 83 (.invokevirtual 84) 3 86 := ⟨by decide +kernel, rfl⟩
theorem d_X4_sways_86 : x_dec m_X4_sways 86 (.iinc 1 1) 3 89 := ⟨by decide +kernel, rfl⟩
theorem d_X4_sways_89 : x_dec m_X4_sways 89 (.goto (-26)) 3 92 := ⟨by decide +kernel, rfl⟩
theorem d_X4_sways_92 : x_dec m_X4_sways 92 (.return_) 1 93 := ⟨by decide +kernel, rfl⟩
set_option maxHeartbeats 4000000 in
set_option maxRecDepth 100000 in
theorem c_X4_sways (l : Launch) (E : x_E) (μ : x_Mem) {a : x_St} (hR : MR a μ) (hI : WF a) : x_Met l m_X4_sways E [.ref (E.1 + 41)] μ (x_J (fun m => MR (swayF a) m ∧ ∀ id, (id ≠ 42 ∧ id ≠ 46) → m id = μ id)) := by
  have hn7 := hI.2.1
  have hpn := hI.1
  have hF : ∀ id, (id ≠ 42 ∧ id ≠ 46) → μ id = μ id := fun _ _ => rfl
  refine x_enter (lv := [(0, .ref (E.1 + 41))]) (by decide +kernel) (Nat.le_of_ble_eq_true rfl) rfl ?_
  refine x_iconst (x := 0) d_X4_sways_0 (by decide) ?_
  refine x_istore_n [(1, .int 0), (0, .ref (E.1 + 41))] d_X4_sways_1 rfl (Nat.le_of_ble_eq_true rfl) rfl ?_
  have L1 : ∀ i : Nat, i ≤ pn a → ∀ μ4 : x_Mem, (MR a μ4) → (∀ j, j < i → μ4 46 j = swayV a j) → (∀ id, (id ≠ 42 ∧ id ≠ 46) → μ4 id = μ id) → x_G l E m_X4_sways (x_mv E m_X4_sways (x_J (fun m => MR (swayF a) m ∧ ∀ id, (id ≠ 42 ∧ id ≠ 46) → m id = μ id))) μ4 2 [(1, .int (nI i)), (0, .ref (E.1 + 41))] [] := by
    refine x_down _ (pn a) (fun i hi3 ih2 => ?_)
    intro μ4 hR1 hT1 hF1
    refine x_iload_n 0 d_X4_sways_2 rfl rfl ?_
    refine x_aload_n 1 d_X4_sways_3 rfl rfl ?_
    refine x_getr (j := 0) 42 x_c4 rfl (Nat.le_of_ble_eq_true rfl) q668 rfl d_X4_sways_4 ?_
    refine x_bipush (x := 7) d_X4_sways_7 (by decide) ?_
    refine x_ialdN (z := nI (pn a)) 58 7 rfl rfl (by omega) (by decide) ((hR1 7 (by decide)).trans hn7) d_X4_sways_9 ?_
    refine x_icmp_ge 61 d_X4_sways_10 (by decide) (fun c5 => ?_) (fun c5 => ?_)
    · skip
      have hN := x_ge (N := pn a) c5 rfl rfl (by omega) (by omega)
      refine x_iconst (x := 0) d_X4_sways_61 (by decide) ?_
      refine x_istore_n [(1, .int 0), (0, .ref (E.1 + 41))] d_X4_sways_62 rfl (Nat.le_of_ble_eq_true rfl) rfl ?_
      have L6 : ∀ i : Nat, i ≤ pn a → ∀ μ9 : x_Mem, (MR (swayTo a i) μ9) → (∀ j, j < pn a → μ9 46 j = swayV a j) → (∀ id, (id ≠ 42 ∧ id ≠ 46) → μ9 id = μ id) → x_G l E m_X4_sways (x_mv E m_X4_sways (x_J (fun m => MR (swayF a) m ∧ ∀ id, (id ≠ 42 ∧ id ≠ 46) → m id = μ id))) μ9 63 [(1, .int (nI i)), (0, .ref (E.1 + 41))] [] := by
        refine x_down _ (pn a) (fun i hi8 ih7 => ?_)
        intro μ9 hR1 hT1 hF1
        refine x_iload_n 0 d_X4_sways_63 rfl rfl ?_
        refine x_aload_n 1 d_X4_sways_64 rfl rfl ?_
        refine x_getr (j := 0) 42 x_c4 rfl (Nat.le_of_ble_eq_true rfl) q668 rfl d_X4_sways_65 ?_
        refine x_bipush (x := 7) d_X4_sways_68 (by decide) ?_
        refine x_ialdN (z := nI (pn a)) 58 7 rfl rfl (by omega) (by decide) ((hR1 7 (by decide)).trans ((sway_7 a _).trans hn7)) d_X4_sways_70 ?_
        refine x_icmp_ge 92 d_X4_sways_71 (by decide) (fun c10 => ?_) (fun c10 => ?_)
        · skip
          have hN := x_ge (N := pn a) c10 rfl rfl (by omega) (by omega)
          refine x_vret rfl d_X4_sways_92 ?_
          have e7 : i = pn a := by omega
          subst e7
          exact ⟨hR1, hF1⟩
        · skip
          have hN := x_lt (N := pn a) c10 rfl rfl (by omega) (by omega)
          refine x_aload_n 1 d_X4_sways_74 rfl rfl ?_
          refine x_iload_n 0 d_X4_sways_75 rfl rfl ?_
          refine x_iconst (x := 2) d_X4_sways_76 (by decide) ?_
          refine x_aload_n 1 d_X4_sways_77 rfl rfl ?_
          refine x_getr (j := 5) 46 x_c4 rfl (Nat.le_of_ble_eq_true rfl) q673 rfl d_X4_sways_78 ?_
          refine x_iload_n 0 d_X4_sways_81 rfl rfl ?_
          refine x_ialdN (z := swayV a i) 8 i rfl rfl (by omega) (by decide) (hT1 i (by omega)) d_X4_sways_82 ?_
          refine x_cvv (k := 41) (as := [.int (nI i), .int 2, .int (swayV a i)]) (c_X4_put l E μ9 (p := i) (w := 2) (j := 24 + 3 * i + 2) rfl (by omega) (swayV a i)) v_X4_put w_X4_put q783 o_M rfl ⟨Nat.le_of_ble_eq_true rfl, Nat.le_of_ble_eq_true rfl⟩ rfl (Nat.le_of_ble_eq_true rfl) d_X4_sways_83 ?_
          intro μ11 eμ11
          have hR12 : MR (upd (swayTo a i) (24 + 3 * i + 2) (swayV a i)) μ11 := MR.w hR1 eμ11
          have hF13 : ∀ id, (id ≠ 42 ∧ id ≠ 46) → μ11 id = μ id := fun id hid => (show μ11 id = μ9 id from (by rw [eμ11, upd2_ne _ _ _ (by omega)])).trans (hF1 id hid)
          have hT14 := T46.cg hT1 (μ' := μ11) (fun id hid => (by rw [eμ11, upd2_ne _ _ _ (by omega)]))
          refine x_iinc [(1, .int (nI (i + 1))), (0, .ref (E.1 + 41))] 0 d_X4_sways_86 rfl (x_inc _) (Nat.le_of_ble_eq_true rfl) rfl ?_
          refine x_goto 63 d_X4_sways_89 (by decide) ?_
          exact ih7 (i + 1) (by omega) (by omega) μ11 hR12 hT14 hF13
      exact L6 0 (by omega) μ4 hR1 (fun j hj => hT1 j (by omega)) hF1
    · skip
      have hN := x_lt (N := pn a) c5 rfl rfl (by omega) (by omega)
      refine x_aload_n 1 d_X4_sways_13 rfl rfl ?_
      refine x_iload_n 0 d_X4_sways_14 rfl rfl ?_
      refine x_cvip (k := 41) (as := [.int (nI i)]) (c_X4_meanWith l E μ4 hR1 hI (p := i) (by omega)) v_X4_meanWith w_X4_meanWith q835 o_M rfl ⟨Nat.le_of_ble_eq_true rfl, Nat.le_of_ble_eq_true rfl⟩ rfl (Nat.le_of_ble_eq_true rfl) d_X4_sways_15 ?_
      refine x_istore_n [(2, .int (meanF a i)), (1, .int (nI i)), (0, .ref (E.1 + 41))] d_X4_sways_18 rfl (Nat.le_of_ble_eq_true rfl) rfl ?_
      refine x_aload_n 2 d_X4_sways_19 rfl rfl ?_
      refine x_iload_n 1 d_X4_sways_20 rfl rfl ?_
      refine x_iconst (x := 2) d_X4_sways_21 (by decide) ?_
      refine x_cvip (k := 41) (as := [.int (nI i), .int 2]) (c_X4_told l E μ4 hR1 (p := i) (w := 2) (j := 24 + 3 * i + 2) rfl (by omega)) v_X4_told w_X4_told q755 o_M rfl ⟨Nat.le_of_ble_eq_true rfl, Nat.le_of_ble_eq_true rfl⟩ rfl (Nat.le_of_ble_eq_true rfl) d_X4_sways_22 ?_
      refine x_istore_n [(3, .int (a (24 + 3 * i + 2))), (2, .int (meanF a i)), (1, .int (nI i)), (0, .ref (E.1 + 41))] d_X4_sways_25 rfl (Nat.le_of_ble_eq_true rfl) rfl ?_
      refine x_aload_n 3 d_X4_sways_26 rfl rfl ?_
      refine x_getr (j := 5) 46 x_c4 rfl (Nat.le_of_ble_eq_true rfl) q673 rfl d_X4_sways_27 ?_
      refine x_iload_n 2 d_X4_sways_30 rfl rfl ?_
      refine x_iload_n 0 d_X4_sways_31 rfl rfl ?_
      refine x_iload_n 1 d_X4_sways_32 rfl rfl ?_
      refine x_icmp_ge 42 d_X4_sways_33 (by decide) (fun c15 => ?_) (fun c15 => ?_)
      · skip
        refine x_iload_n 0 d_X4_sways_42 rfl rfl ?_
        refine x_iload_n 1 d_X4_sways_43 rfl rfl ?_
        refine x_icmp_le 53 d_X4_sways_44 (by decide) (fun c16 => ?_) (fun c16 => ?_)
        · skip
          refine x_iload_n 0 d_X4_sways_53 rfl rfl ?_
          refine x_iastNG 8 i rfl rfl (by omega) (by decide) d_X4_sways_54 (fun μ17 eμ17 => ?_)
          have hT9 : ∀ j, j < i + 1 → μ17 46 j = swayV a j := fun j hj => by rw [eμ17, upd2_at]; unfold upd; split; (rename_i q; rw [q]; exact (sv_3 c15 c16).symm); exact hT1 j (by omega)
          have hR18 := MR.cg hR1 (μ' := μ17) (fun id hid => (by rw [eμ17, upd2_ne _ _ _ (by omega)]))
          have hF19 : ∀ id, (id ≠ 42 ∧ id ≠ 46) → μ17 id = μ id := fun id hid => (show μ17 id = μ4 id from (by rw [eμ17, upd2_ne _ _ _ (by omega)])).trans (hF1 id hid)
          refine x_iinc [(1, .int (nI (i + 1))), (3, .int (a (24 + 3 * i + 2))), (2, .int (meanF a i)), (0, .ref (E.1 + 41))] 2 d_X4_sways_55 rfl (x_inc _) (Nat.le_of_ble_eq_true rfl) rfl ?_
          refine x_goto 2 d_X4_sways_58 (by decide) ?_
          refine x_lv [0, 3] rfl ?_
          exact ih2 (i + 1) (by omega) (by omega) μ17 hR18 hT9 hF19
        · skip
          refine x_iload_n 0 d_X4_sways_47 rfl rfl ?_
          refine x_iconst (x := 1) d_X4_sways_48 (by decide) ?_
          refine x_isub d_X4_sways_49 ?_
          refine x_goto 54 d_X4_sways_50 (by decide) ?_
          refine x_iastNG 8 i rfl rfl (by omega) (by decide) d_X4_sways_54 (fun μ20 eμ20 => ?_)
          have hT9 : ∀ j, j < i + 1 → μ20 46 j = swayV a j := fun j hj => by rw [eμ20, upd2_at]; unfold upd; split; (rename_i q; rw [q]; exact (sv_2 c15 c16).symm); exact hT1 j (by omega)
          have hR21 := MR.cg hR1 (μ' := μ20) (fun id hid => (by rw [eμ20, upd2_ne _ _ _ (by omega)]))
          have hF22 : ∀ id, (id ≠ 42 ∧ id ≠ 46) → μ20 id = μ id := fun id hid => (show μ20 id = μ4 id from (by rw [eμ20, upd2_ne _ _ _ (by omega)])).trans (hF1 id hid)
          refine x_iinc [(1, .int (nI (i + 1))), (3, .int (a (24 + 3 * i + 2))), (2, .int (meanF a i)), (0, .ref (E.1 + 41))] 2 d_X4_sways_55 rfl (x_inc _) (Nat.le_of_ble_eq_true rfl) rfl ?_
          refine x_goto 2 d_X4_sways_58 (by decide) ?_
          refine x_lv [0, 3] rfl ?_
          exact ih2 (i + 1) (by omega) (by omega) μ20 hR21 hT9 hF22
      · skip
        refine x_iload_n 0 d_X4_sways_36 rfl rfl ?_
        refine x_iconst (x := 1) d_X4_sways_37 (by decide) ?_
        refine x_iadd d_X4_sways_38 ?_
        refine x_goto 54 d_X4_sways_39 (by decide) ?_
        refine x_iastNG 8 i rfl rfl (by omega) (by decide) d_X4_sways_54 (fun μ23 eμ23 => ?_)
        have hT9 : ∀ j, j < i + 1 → μ23 46 j = swayV a j := fun j hj => by rw [eμ23, upd2_at]; unfold upd; split; (rename_i q; rw [q]; exact (sv_1 (Int32.not_le.mp c15)).symm); exact hT1 j (by omega)
        have hR24 := MR.cg hR1 (μ' := μ23) (fun id hid => (by rw [eμ23, upd2_ne _ _ _ (by omega)]))
        have hF25 : ∀ id, (id ≠ 42 ∧ id ≠ 46) → μ23 id = μ id := fun id hid => (show μ23 id = μ4 id from (by rw [eμ23, upd2_ne _ _ _ (by omega)])).trans (hF1 id hid)
        refine x_iinc [(1, .int (nI (i + 1))), (3, .int (a (24 + 3 * i + 2))), (2, .int (meanF a i)), (0, .ref (E.1 + 41))] 2 d_X4_sways_55 rfl (x_inc _) (Nat.le_of_ble_eq_true rfl) rfl ?_
        refine x_goto 2 d_X4_sways_58 (by decide) ?_
        refine x_lv [0, 3] rfl ?_
        exact ih2 (i + 1) (by omega) (by omega) μ23 hR24 hT9 hF25
  exact L1 0 (by omega) μ hR (fun _ hj => absurd hj (Nat.not_lt_zero _)) hF
def m_X4_willFall : x_M := (yX4_willFall, prog_6_method_33_code, 1, (some FieldType.boolean), 6, 136)
theorem v_X4_willFall : x_VM m_X4_willFall 0 := ⟨q830, q6, by decide +kernel, by decide +kernel, by decide +kernel⟩
theorem w_X4_willFall : x_VI m_X4_willFall := ⟨q829, qs33⟩
theorem d_X4_willFall_0 : x_dec m_X4_willFall 0 (.aload_n 0) 1 1 := ⟨by decide +kernel, rfl⟩
theorem d_X4_willFall_1 : x_dec m_X4_willFall 1 (.getfield 9) 3 4 := ⟨by decide +kernel, rfl⟩
theorem d_X4_willFall_4 : x_dec m_X4_willFall 4 (.iconst 1) 1 5 := ⟨by decide +kernel, rfl⟩
theorem d_X4_willFall_5 : x_dec m_X4_willFall 5 (.iaload) 1 6 := ⟨by decide +kernel, rfl⟩
theorem d_X4_willFall_6 : x_dec m_X4_willFall 6 (.bipush 16) 2 8 := ⟨by decide +kernel, rfl⟩
theorem d_X4_willFall_8 : x_dec m_X4_willFall 8 (.if_icmp .ge 20) 3 11 := ⟨by decide +kernel, rfl⟩
theorem d_X4_willFall_11 : x_dec m_X4_willFall 11 (.aload_n 0) 1 12 := ⟨by decide +kernel, rfl⟩
theorem d_X4_willFall_12 : x_dec m_X4_willFall 12 (.aload_n 0) 1 13 := ⟨by decide +kernel, rfl⟩
theorem d_X4_willFall_13 : x_dec m_X4_willFall 13 (.getfield 9) 3 16 := ⟨by decide +kernel, rfl⟩
theorem d_X4_willFall_16 : x_dec m_X4_willFall 16 (.iconst 1) 1 17 := ⟨by decide +kernel, rfl⟩
theorem d_X4_willFall_17 : x_dec m_X4_willFall 17 (.iaload) 1 18 := ⟨by decide +kernel, rfl⟩
theorem d_X4_willFall_18 : x_dec m_X4_willFall 18 (.invokevirtual 74) 3 21 := ⟨by decide +kernel, rfl⟩
theorem d_X4_willFall_21 : x_dec m_X4_willFall 21 (.ifCond .ne 7) 3 24 := ⟨by decide +kernel, rfl⟩
theorem d_X4_willFall_24 : x_dec m_X4_willFall 24 (.iconst 1) 1 25 := ⟨by decide +kernel, rfl⟩
theorem d_X4_willFall_25 : x_dec m_X4_willFall 25 (.goto 4) 3 28 := ⟨by decide +kernel, rfl⟩
theorem d_X4_willFall_28 : x_dec m_X4_willFall 28 (.iconst 0) 1 29 := ⟨by decide +kernel, rfl⟩
theorem d_X4_willFall_29 : x_dec m_X4_willFall 29 (.ireturn) 1 30 := ⟨by decide +kernel, rfl⟩
set_option maxHeartbeats 4000000 in
set_option maxRecDepth 100000 in
theorem c_X4_willFall (l : Launch) (E : x_E) (μ : x_Mem) {a : x_St} (hR : MR a μ) (hI : WF a) : x_Met l m_X4_willFall E [.ref (E.1 + 41)] μ (x_I (fun z m => z = x_b (fallB a) ∧ m = μ)) := by
  have hn7 := hI.2.1
  have hpn := hI.1
  obtain ⟨t, ht17, ht⟩ := hI.2.2.2.2.2.1
  refine x_enter (lv := [(0, .ref (E.1 + 41))]) (by decide +kernel) (Nat.le_of_ble_eq_true rfl) rfl ?_
  refine x_aload_n 0 d_X4_willFall_0 rfl rfl ?_
  refine x_getr (j := 0) 42 x_c4 rfl (Nat.le_of_ble_eq_true rfl) q668 rfl d_X4_willFall_1 ?_
  refine x_iconst (x := 1) d_X4_willFall_4 (by decide) ?_
  refine x_ialdN (z := nI t) 58 1 rfl rfl (by omega) (by decide) ((hR 1 (by decide)).trans ht) d_X4_willFall_5 ?_
  refine x_bipush (x := 16) d_X4_willFall_6 (by decide) ?_
  refine x_icmp_ge 28 d_X4_willFall_8 (by decide) (fun c1 => ?_) (fun c1 => ?_)
  · skip
    refine x_iconst (x := 0) d_X4_willFall_28 (by decide) ?_
    refine x_zret0 rfl d_X4_willFall_29 ?_
    exact ⟨congrArg x_b (fallB_f1 ht (x_ge (N := 16) c1 rfl rfl (by omega) (by omega)) ht17).symm, rfl⟩
  · skip
    have h16 := x_lt (N := 16) c1 rfl rfl (by omega) (by omega)
    refine x_aload_n 0 d_X4_willFall_11 rfl rfl ?_
    refine x_aload_n 0 d_X4_willFall_12 rfl rfl ?_
    refine x_getr (j := 0) 42 x_c4 rfl (Nat.le_of_ble_eq_true rfl) q668 rfl d_X4_willFall_13 ?_
    refine x_iconst (x := 1) d_X4_willFall_16 (by decide) ?_
    refine x_ialdN (z := nI t) 58 1 rfl rfl (by omega) (by decide) ((hR 1 (by decide)).trans ht) d_X4_willFall_17 ?_
    refine x_cvip (k := 41) (as := [.int (nI t)]) (c_X4_isThere l E μ hR hI (k := t) (by omega)) v_X4_isThere w_X4_isThere q770 o_M rfl ⟨Nat.le_of_ble_eq_true rfl, Nat.le_of_ble_eq_true rfl⟩ rfl (Nat.le_of_ble_eq_true rfl) d_X4_willFall_18 ?_
    refine x_ifb_ne 28 d_X4_willFall_21 (by decide) (fun c2 => ?_) (fun c2 => ?_)
    · skip
      refine x_iconst (x := 0) d_X4_willFall_28 (by decide) ?_
      refine x_zret0 rfl d_X4_willFall_29 ?_
      exact ⟨congrArg x_b (fallB_f2 ht ht17 c2).symm, rfl⟩
    · skip
      refine x_iconst (x := 1) d_X4_willFall_24 (by decide) ?_
      refine x_goto 29 d_X4_willFall_25 (by decide) ?_
      refine x_zret1 rfl d_X4_willFall_29 ?_
      exact ⟨congrArg x_b (fallB_t ht h16 c2).symm, rfl⟩
def m_X4_hour : x_M := (yX4_hour, prog_6_method_34_code, 4, none, 7, 156)
theorem v_X4_hour : x_VM m_X4_hour 0 := ⟨q826, q6, by decide +kernel, by decide +kernel, by decide +kernel⟩
theorem w_X4_hour : x_VI m_X4_hour := ⟨q825, qs32⟩
theorem d_X4_hour_0 : x_dec m_X4_hour 0 (.aload_n 0) 1 1 := ⟨by decide +kernel, rfl⟩
theorem d_X4_hour_1 : x_dec m_X4_hour 1 (.invokevirtual 103) 3 4 := ⟨by decide +kernel, rfl⟩
theorem d_X4_hour_4 : x_dec m_X4_hour 4 (.istore_n 1) 1 5 := ⟨by decide +kernel, rfl⟩
theorem d_X4_hour_5 : x_dec m_X4_hour 5 (.aload_n 0) 1 6 := ⟨by decide +kernel, rfl⟩
theorem d_X4_hour_6 : x_dec m_X4_hour 6 (.getfield 9) 3 9 := ⟨by decide +kernel, rfl⟩
theorem d_X4_hour_9 : x_dec m_X4_hour 9 (.iconst 1) 1 10 := ⟨by decide +kernel, rfl⟩
theorem d_X4_hour_10 : x_dec m_X4_hour 10 (.iaload) 1 11 := ⟨by decide +kernel, rfl⟩
theorem d_X4_hour_11 : x_dec m_X4_hour 11 (.bipush 16) 2 13 := ⟨by decide +kernel, rfl⟩
theorem d_X4_hour_13 : x_dec m_X4_hour 13 (.if_icmp .ne 7) 3 16 := ⟨by decide +kernel, rfl⟩
theorem d_X4_hour_16 : x_dec m_X4_hour 16 (.iconst 0) 1 17 := ⟨by decide +kernel, rfl⟩
theorem d_X4_hour_17 : x_dec m_X4_hour 17 (.goto 23) 3 20 := ⟨by decide +kernel, rfl⟩
theorem d_X4_hour_20 : x_dec m_X4_hour 20 (.iload_n 1) 1 21 := ⟨by decide +kernel, rfl⟩
theorem d_X4_hour_21 : x_dec m_X4_hour 21 (.ifCond .eq 13) 3 24 := ⟨by decide +kernel, rfl⟩
theorem d_X4_hour_24 : x_dec m_X4_hour 24 (.aload_n 0) 1 25 := ⟨by decide +kernel, rfl⟩
theorem d_X4_hour_25 : x_dec m_X4_hour 25 (.getfield 9) 3 28 := ⟨by decide +kernel, rfl⟩
theorem d_X4_hour_28 : x_dec m_X4_hour 28 (.iconst 4) 1 29 := ⟨by decide +kernel, rfl⟩
theorem d_X4_hour_29 : x_dec m_X4_hour 29 (.iaload) 1 30 := ⟨by decide +kernel, rfl⟩
theorem d_X4_hour_30 : x_dec m_X4_hour 30 (.ineg) 1 31 := ⟨by decide +kernel, rfl⟩
theorem d_X4_hour_31 : x_dec m_X4_hour 31 (.goto 9) 3 34 := ⟨by decide +kernel, rfl⟩
theorem d_X4_hour_34 : x_dec m_X4_hour 34 (.aload_n 0) 1 35 := ⟨by decide +kernel, rfl⟩
theorem d_X4_hour_35 : x_dec m_X4_hour 35 (.getfield 9) 3 38 := ⟨by decide +kernel, rfl⟩
theorem d_X4_hour_38 : x_dec m_X4_hour 38 (.iconst 3) 1 39 := ⟨by decide +kernel, rfl⟩
theorem d_X4_hour_39 : x_dec m_X4_hour 39 (.iaload) 1 40 := ⟨by decide +kernel, rfl⟩
theorem d_X4_hour_40 : x_dec m_X4_hour 40 (.istore_n 2) 1 41 := ⟨by decide +kernel, rfl⟩
theorem d_X4_hour_41 : x_dec m_X4_hour 41 (.aload_n 0) 1 42 := ⟨by decide +kernel, rfl⟩
theorem d_X4_hour_42 : x_dec m_X4_hour 42 (.getfield 9) 3 45 := ⟨by decide +kernel, rfl⟩
theorem d_X4_hour_45 : x_dec m_X4_hour 45 (.iconst 1) 1 46 := ⟨by decide +kernel, rfl⟩
theorem d_X4_hour_46 : x_dec m_X4_hour 46 (.dup2) 1 47 := ⟨by decide +kernel, rfl⟩
theorem d_X4_hour_47 : x_dec m_X4_hour 47 (.iaload) 1 48 := ⟨by decide +kernel, rfl⟩
theorem d_X4_hour_48 : x_dec m_X4_hour 48 (.aload_n 0) 1 49 := ⟨by decide +kernel, rfl⟩
theorem d_X4_hour_49 : x_dec m_X4_hour 49 (.getfield 9) 3 52 := ⟨by decide +kernel, rfl⟩
theorem d_X4_hour_52 : x_dec m_X4_hour 52 (.iconst 1) 1 53 := ⟨by decide +kernel, rfl⟩
theorem d_X4_hour_53 : x_dec m_X4_hour 53 (.iaload) 1 54 := ⟨by decide +kernel, rfl⟩
theorem d_X4_hour_54 : x_dec m_X4_hour 54 (.bipush 16) 2 56 := ⟨by decide +kernel, rfl⟩
theorem d_X4_hour_56 : x_dec m_X4_hour 56 (.if_icmp .eq 7) 3 59 := ⟨by decide +kernel, rfl⟩
theorem d_X4_hour_59 : x_dec m_X4_hour 59 (.iload_n 1) 1 60 := ⟨by decide +kernel, rfl⟩
theorem d_X4_hour_60 : x_dec m_X4_hour 60 (.ifCond .eq 7) 3 63 := ⟨by decide +kernel, rfl⟩
theorem d_X4_hour_63 : x_dec m_X4_hour 63 (.iconst 0) 1 64 := ⟨by decide +kernel, rfl⟩
theorem d_X4_hour_64 : x_dec m_X4_hour 64 (.goto 4) 3 67 := ⟨by decide +kernel, rfl⟩
theorem d_X4_hour_67 : x_dec m_X4_hour 67 (.iconst 1) 1 68 := ⟨by decide +kernel, rfl⟩
theorem d_X4_hour_68 : x_dec m_X4_hour 68 (.iadd) 1 69 := ⟨by decide +kernel, rfl⟩
theorem d_X4_hour_69 : x_dec m_X4_hour 69 (.iastore) 1 70 := ⟨by decide +kernel, rfl⟩
theorem d_X4_hour_70 : x_dec m_X4_hour 70 (.aload_n 0) 1 71 := ⟨by decide +kernel, rfl⟩
theorem d_X4_hour_71 : x_dec m_X4_hour 71 (.getfield 9) 3 74 := ⟨by decide +kernel, rfl⟩
theorem d_X4_hour_74 : x_dec m_X4_hour 74 (.iconst 5) 1 75 := ⟨by decide +kernel, rfl⟩
theorem d_X4_hour_75 : x_dec m_X4_hour 75 (.aload_n 0) 1 76 := ⟨by decide +kernel, rfl⟩
theorem d_X4_hour_76 : x_dec m_X4_hour 76 (.getfield 9) 3 79 := ⟨by decide +kernel, rfl⟩
theorem d_X4_hour_79 : x_dec m_X4_hour 79 (.iconst 5) 1 80 := ⟨by decide +kernel, rfl⟩
theorem d_X4_hour_80 : x_dec m_X4_hour 80 (.iaload) 1 81 := ⟨by decide +kernel, rfl⟩
theorem d_X4_hour_81 : x_dec m_X4_hour 81 (.iload_n 1) 1 82 := ⟨by decide +kernel, rfl⟩
theorem d_X4_hour_82 : x_dec m_X4_hour 82 (.ifCond .eq 7) 3 85 := ⟨by decide +kernel, rfl⟩
theorem d_X4_hour_85 : x_dec m_X4_hour 85 (.iconst 1) 1 86 := ⟨by decide +kernel, rfl⟩
theorem d_X4_hour_86 : x_dec m_X4_hour 86 (.goto 4) 3 89 := ⟨by decide +kernel, rfl⟩
theorem d_X4_hour_89 : x_dec m_X4_hour 89 (.iconst 0) 1 90 := ⟨by decide +kernel, rfl⟩
theorem d_X4_hour_90 : x_dec m_X4_hour 90 (.iadd) 1 91 := ⟨by decide +kernel, rfl⟩
theorem d_X4_hour_91 : x_dec m_X4_hour 91 (.iconst 0) 1 92 := ⟨by decide +kernel, rfl⟩
theorem d_X4_hour_92 : x_dec m_X4_hour 92 (.ldc 67) 2 94 := ⟨by decide +kernel, rfl⟩
theorem d_X4_hour_94 : x_dec m_X4_hour 94 (.invokestatic 54) 3 97 := ⟨by decide +kernel, rfl⟩
theorem d_X4_hour_97 : x_dec m_X4_hour 97 (.iastore) 1 98 := ⟨by decide +kernel, rfl⟩
theorem d_X4_hour_98 : x_dec m_X4_hour 98 (.iconst 0) 1 99 := ⟨by decide +kernel, rfl⟩
theorem d_X4_hour_99 : x_dec m_X4_hour 99 (.istore_n 3) 1 100 := ⟨by decide +kernel, rfl⟩
theorem d_X4_hour_100 : x_dec m_X4_hour 100 (.iload_n 3) 1 101 := ⟨by decide +kernel, rfl⟩
theorem d_X4_hour_101 : x_dec m_X4_hour 101 (.aload_n 0) 1 102 := ⟨by decide +kernel, rfl⟩
theorem d_X4_hour_102 : x_dec m_X4_hour 102 (.getfield 9) 3 105 := ⟨by decide +kernel, rfl⟩
theorem d_X4_hour_105 : x_dec m_X4_hour 105 (.bipush 7) 2 107 := ⟨by decide +kernel, rfl⟩
theorem d_X4_hour_107 : x_dec m_X4_hour 107 (.iaload) 1 108 := ⟨by decide +kernel, rfl⟩
theorem d_X4_hour_108 : x_dec m_X4_hour 108 (.if_icmp .ge 39) 3 111 := ⟨by decide +kernel, rfl⟩
theorem d_X4_hour_111 : x_dec m_X4_hour 111 (.aload_n 0) 1 112 := ⟨by decide +kernel, rfl⟩
theorem d_X4_hour_112 : x_dec m_X4_hour 112 (.iload_n 3) 1 113 := ⟨by decide +kernel, rfl⟩
theorem d_X4_hour_113 : x_dec m_X4_hour 113 (.iconst 1) 1 114 := ⟨by decide +kernel, rfl⟩
theorem d_X4_hour_114 : x_dec m_X4_hour 114 (.invokevirtual 50) 3 117 := ⟨by decide +kernel, rfl⟩
theorem d_X4_hour_117 : x_dec m_X4_hour 117 (.iconst (-1)) 1 118 := ⟨by decide +kernel, rfl⟩
theorem d_X4_hour_118 : x_dec m_X4_hour 118 (.if_icmp .ne 23) 3 121 := ⟨by decide +kernel, rfl⟩
theorem d_X4_hour_121 : x_dec m_X4_hour 121 (.aload_n 0) 1 122 := ⟨by decide +kernel, rfl⟩
theorem d_X4_hour_122 : x_dec m_X4_hour 122 (.iload_n 3) 1 123 := ⟨by decide +kernel, rfl⟩
theorem d_X4_hour_123 : x_dec m_X4_hour 123 (.iconst 2) 1 124 := ⟨by decide +kernel, rfl⟩
theorem d_X4_hour_124 : x_dec m_X4_hour 124 (.aload_n 0) 1 125 := ⟨by decide +kernel, rfl⟩
theorem d_X4_hour_125 : x_dec m_X4_hour 125 (.iload_n 3) 1 126 := ⟨by decide +kernel, rfl⟩
theorem d_X4_hour_126 : x_dec m_X4_hour 126 (.iconst 2) 1 127 := ⟨by decide +kernel, rfl⟩
theorem d_X4_hour_127 : x_dec m_X4_hour 127 (.invokevirtual 50) 3 130 := ⟨by decide +kernel, rfl⟩
theorem d_X4_hour_130 : x_dec m_X4_hour 130 (.iload_n 2) 1 131 := ⟨by decide +kernel, rfl⟩
theorem d_X4_hour_131 : x_dec m_X4_hour 131 (.iadd) 1 132 := ⟨by decide +kernel, rfl⟩
theorem d_X4_hour_132 : x_dec m_X4_hour 132 (.iconst 0) 1 133 := ⟨by decide +kernel, rfl⟩
theorem d_X4_hour_133 : x_dec m_X4_hour 133 (.bipush 99) 2 135 := ⟨by decide +kernel, rfl⟩
theorem d_X4_hour_135 : x_dec m_X4_hour 135 (.invokestatic 54) 3 138 := ⟨by decide +kernel, rfl⟩
theorem d_X4_hour_138 : x_dec m_X4_hour 138 (.invokevirtual 84) 3 141 := ⟨by decide +kernel, rfl⟩
theorem d_X4_hour_141 : x_dec m_X4_hour 141 (.iinc 3 1) 3 144 := ⟨by decide +kernel, rfl⟩
theorem d_X4_hour_144 : x_dec m_X4_hour 144 (.goto (-44)) 3 147 := ⟨by decide +kernel, rfl⟩
theorem d_X4_hour_147 : x_dec m_X4_hour 147 (.aload_n 0) 1 148 := ⟨by decide +kernel, rfl⟩
theorem d_X4_hour_148 : x_dec m_X4_hour 148 (.invokevirtual 107) 3 151 := ⟨by decide +kernel, rfl⟩
theorem d_X4_hour_151 : x_dec m_X4_hour 151 (.aload_n 0) 1 152 := ⟨by decide +kernel, rfl⟩
theorem d_X4_hour_152 : x_dec m_X4_hour 152 (.getfield 9) 3 155 := ⟨by decide +kernel, rfl⟩
theorem d_X4_hour_155 : x_dec m_X4_hour 155 (.iconst 0) 1 156 := ⟨by decide +kernel, rfl⟩
theorem d_X4_hour_156 : x_dec m_X4_hour 156 (.dup2) 1 157 := ⟨by decide +kernel, rfl⟩
theorem d_X4_hour_157 : x_dec m_X4_hour 157 (.iaload) 1 158 := ⟨by decide +kernel, rfl⟩
theorem d_X4_hour_158 : x_dec m_X4_hour 158 (.iconst 1) 1 159 := ⟨by decide +kernel, rfl⟩
theorem d_X4_hour_159 : x_dec m_X4_hour 159 (.iadd) 1 160 := ⟨by decide +kernel, rfl⟩
theorem d_X4_hour_160 : x_dec m_X4_hour 160 (.iastore) 1 161 := ⟨by decide +kernel, rfl⟩
theorem d_X4_hour_161 : x_dec m_X4_hour 161 (.return_) 1 162 := ⟨by decide +kernel, rfl⟩
set_option maxHeartbeats 4000000 in
set_option maxRecDepth 100000 in
theorem c_X4_hour (l : Launch) (E : x_E) (μ : x_Mem) {a : x_St} (hR : MR a μ) (hI : WF a) : x_Met l m_X4_hour E [.ref (E.1 + 41)] μ (x_J (fun m => MR (hourF a) m ∧ ∀ id, (id ≠ 42 ∧ id ≠ 46) → m id = μ id)) := by
  have hn7 := hI.2.1
  have hpn := hI.1
  have hF : ∀ id, (id ≠ 42 ∧ id ≠ 46) → μ id = μ id := fun _ _ => rfl
  refine x_enter (lv := [(0, .ref (E.1 + 41))]) (by decide +kernel) (Nat.le_of_ble_eq_true rfl) rfl ?_
  refine x_aload_n 0 d_X4_hour_0 rfl rfl ?_
  refine x_cvip (k := 41) (as := []) (c_X4_willFall l E μ hR hI) v_X4_willFall w_X4_willFall q827 o_M rfl ⟨Nat.le_of_ble_eq_true rfl, Nat.le_of_ble_eq_true rfl⟩ rfl (Nat.le_of_ble_eq_true rfl) d_X4_hour_1 ?_
  refine x_istore_n [(1, .int (x_b (fallB a))), (0, .ref (E.1 + 41))] d_X4_hour_4 rfl (Nat.le_of_ble_eq_true rfl) rfl ?_
  refine x_aload_n 1 d_X4_hour_5 rfl rfl ?_
  refine x_getr (j := 0) 42 x_c4 rfl (Nat.le_of_ble_eq_true rfl) q668 rfl d_X4_hour_6 ?_
  refine x_iconst (x := 1) d_X4_hour_9 (by decide) ?_
  refine x_ialdN (z := a 1) 58 1 rfl rfl (by omega) (by decide) (hR 1 (by omega)) d_X4_hour_10 ?_
  refine x_bipush (x := 16) d_X4_hour_11 (by decide) ?_
  refine x_icmp_ne 20 d_X4_hour_13 (by decide) (fun c1 => ?_) (fun c1 => ?_)
  · skip
    refine x_iload_n 0 d_X4_hour_20 rfl rfl ?_
    refine x_ifb_eq 34 d_X4_hour_21 (by decide) (fun c2 => ?_) (fun c2 => ?_)
    · skip
      refine x_aload_n 1 d_X4_hour_34 rfl rfl ?_
      refine x_getr (j := 0) 42 x_c4 rfl (Nat.le_of_ble_eq_true rfl) q668 rfl d_X4_hour_35 ?_
      refine x_iconst (x := 3) d_X4_hour_38 (by decide) ?_
      refine x_ialdN (z := a 3) 58 3 rfl rfl (by omega) (by decide) (hR 3 (by omega)) d_X4_hour_39 ?_
      refine x_istore_n [(2, .int (a 3)), (1, .int (x_b (fallB a))), (0, .ref (E.1 + 41))] d_X4_hour_40 rfl (Nat.le_of_ble_eq_true rfl) rfl ?_
      refine x_aload_n 2 d_X4_hour_41 rfl rfl ?_
      refine x_getr (j := 0) 42 x_c4 rfl (Nat.le_of_ble_eq_true rfl) q668 rfl d_X4_hour_42 ?_
      refine x_iconst (x := 1) d_X4_hour_45 (by decide) ?_
      refine x_dup2 d_X4_hour_46 rfl rfl ?_
      refine x_ialdN (z := a 1) 58 1 rfl rfl (by omega) (by decide) (hR 1 (by omega)) d_X4_hour_47 ?_
      refine x_aload_n 2 d_X4_hour_48 rfl rfl ?_
      refine x_getr (j := 0) 42 x_c4 rfl (Nat.le_of_ble_eq_true rfl) q668 rfl d_X4_hour_49 ?_
      refine x_iconst (x := 1) d_X4_hour_52 (by decide) ?_
      refine x_ialdN (z := a 1) 58 1 rfl rfl (by omega) (by decide) (hR 1 (by omega)) d_X4_hour_53 ?_
      refine x_bipush (x := 16) d_X4_hour_54 (by decide) ?_
      refine x_icmp_eq 63 d_X4_hour_56 (by decide) (fun c3 => ?_) (fun c3 => ?_)
      · skip
        exact absurd c3 c1
      · skip
        refine x_iload_n 1 d_X4_hour_59 rfl rfl ?_
        refine x_ifb_eq 67 d_X4_hour_60 (by decide) (fun c4 => ?_) (fun c4 => ?_)
        · skip
          refine x_iconst (x := 1) d_X4_hour_67 (by decide) ?_
          refine x_iadd d_X4_hour_68 ?_
          refine x_iastNG 58 1 rfl rfl (by omega) (by decide) d_X4_hour_69 (fun μ5 eμ5 => ?_)
          have hR6 : MR (upd a (1) ((a 1) + 1)) μ5 := MR.w hR eμ5
          have hF7 : ∀ id, (id ≠ 42 ∧ id ≠ 46) → μ5 id = μ id := fun id hid => (show μ5 id = μ id from (by rw [eμ5, upd2_ne _ _ _ (by omega)])).trans (hF id hid)
          refine x_aload_n 2 d_X4_hour_70 rfl rfl ?_
          refine x_getr (j := 0) 42 x_c4 rfl (Nat.le_of_ble_eq_true rfl) q668 rfl d_X4_hour_71 ?_
          refine x_iconst (x := 5) d_X4_hour_74 (by decide) ?_
          refine x_aload_n 2 d_X4_hour_75 rfl rfl ?_
          refine x_getr (j := 0) 42 x_c4 rfl (Nat.le_of_ble_eq_true rfl) q668 rfl d_X4_hour_76 ?_
          refine x_iconst (x := 5) d_X4_hour_79 (by decide) ?_
          refine x_ialdN (z := (upd a (1) ((a 1) + 1)) 5) 58 5 rfl rfl (by omega) (by decide) (hR6 5 (by omega)) d_X4_hour_80 ?_
          refine x_iload_n 1 d_X4_hour_81 rfl rfl ?_
          refine x_ifb_eq 89 d_X4_hour_82 (by decide) (fun c8 => ?_) (fun c8 => ?_)
          · skip
            refine x_iconst (x := 0) d_X4_hour_89 (by decide) ?_
            refine x_iadd d_X4_hour_90 ?_
            refine x_iconst (x := 0) d_X4_hour_91 (by decide) ?_
            refine x_ldc q769 d_X4_hour_92 ?_
            refine x_csip (as := [.int (((upd a (1) ((a 1) + 1)) 5) + 0), .int 0, .int 99999]) (c_X4_held l E μ5 (((upd a (1) ((a 1) + 1)) 5) + 0) 0 99999) v_X4_held q760 q759 rfl ⟨Nat.le_of_ble_eq_true rfl, Nat.le_of_ble_eq_true rfl⟩ rfl (Nat.le_of_ble_eq_true rfl) d_X4_hour_94 ?_
            refine x_iastNG 58 5 rfl rfl (by omega) (by decide) d_X4_hour_97 (fun μ9 eμ9 => ?_)
            have hR10 : MR (upd (upd a (1) ((a 1) + 1)) (5) (heldF (((upd a (1) ((a 1) + 1)) 5) + 0) 0 99999)) μ9 := MR.w hR6 eμ9
            have hF11 : ∀ id, (id ≠ 42 ∧ id ≠ 46) → μ9 id = μ id := fun id hid => (show μ9 id = μ5 id from (by rw [eμ9, upd2_ne _ _ _ (by omega)])).trans (hF7 id hid)
            have hn16 : ¬ a 1 = 16 := c1
            have hfb := c2
            have hR12 : MR (upd a 1 (a 1 + 1)) μ9 := MR.eq hR10 (fun j _ => hr_C hI j)
            have hpb : pn (upd a 1 (a 1 + 1)) = pn a := upd_pn (by decide) _
            have hb7 : (upd a 1 (a 1 + 1)) 7 = nI (pn a) := (upd_n _ _ (by decide)).trans hn7
            refine x_iconst (x := 0) d_X4_hour_98 (by decide) ?_
            refine x_istore_n [(3, .int 0), (2, .int (a 3)), (1, .int (x_b (fallB a))), (0, .ref (E.1 + 41))] d_X4_hour_99 rfl (Nat.le_of_ble_eq_true rfl) rfl ?_
            have L13 : ∀ i : Nat, i ≤ pn a → ∀ μ16 : x_Mem, (MR (moveTo (upd a 1 (a 1 + 1)) (a 3) i) μ16) → (∀ id, (id ≠ 42 ∧ id ≠ 46) → μ16 id = μ id) → x_G l E m_X4_hour (x_mv E m_X4_hour (x_J (fun m => MR (hourF a) m ∧ ∀ id, (id ≠ 42 ∧ id ≠ 46) → m id = μ id))) μ16 100 [(3, .int (nI i)), (2, .int (a 3)), (0, .ref (E.1 + 41))] [] := by
              refine x_down _ (pn a) (fun i hi15 ih14 => ?_)
              intro μ16 hR1 hF1
              refine x_iload_n 0 d_X4_hour_100 rfl rfl ?_
              refine x_aload_n 2 d_X4_hour_101 rfl rfl ?_
              refine x_getr (j := 0) 42 x_c4 rfl (Nat.le_of_ble_eq_true rfl) q668 rfl d_X4_hour_102 ?_
              refine x_bipush (x := 7) d_X4_hour_105 (by decide) ?_
              refine x_ialdN (z := nI (pn a)) 58 7 rfl rfl (by omega) (by decide) ((hR1 7 (by decide)).trans ((move_lo _ _ (by decide) _).trans hb7)) d_X4_hour_107 ?_
              refine x_icmp_ge 147 d_X4_hour_108 (by decide) (fun c17 => ?_) (fun c17 => ?_)
              · skip
                have hN := x_ge (N := pn a) c17 rfl rfl (by omega) (by omega)
                have e7 : i = pn a := by omega
                subst e7
                have hR18 : MR (rideF a) μ16 := by rw [← hr_eC hI hn16 hfb]; exact hR1
                refine x_aload_n 2 d_X4_hour_147 rfl rfl ?_
                refine x_cvv (k := 41) (as := []) (c_X4_sways l E μ16 hR18 hI.ride.1) v_X4_sways w_X4_sways q831 o_M rfl ⟨Nat.le_of_ble_eq_true rfl, Nat.le_of_ble_eq_true rfl⟩ rfl (Nat.le_of_ble_eq_true rfl) d_X4_hour_148 ?_
                rintro μ19 ⟨hR20, hF21⟩
                have hF22 : ∀ id, (id ≠ 42 ∧ id ≠ 46) → μ19 id = μ id := fun id hid => (show μ19 id = μ16 id from (hF21 _ (by omega))).trans (hF1 id hid)
                refine x_aload_n 2 d_X4_hour_151 rfl rfl ?_
                refine x_getr (j := 0) 42 x_c4 rfl (Nat.le_of_ble_eq_true rfl) q668 rfl d_X4_hour_152 ?_
                refine x_iconst (x := 0) d_X4_hour_155 (by decide) ?_
                refine x_dup2 d_X4_hour_156 rfl rfl ?_
                refine x_ialdN (z := (swayF (rideF a)) 0) 58 0 rfl rfl (by omega) (by decide) (hR20 0 (by omega)) d_X4_hour_157 ?_
                refine x_iconst (x := 1) d_X4_hour_158 (by decide) ?_
                refine x_iadd d_X4_hour_159 ?_
                refine x_iastNG 58 0 rfl rfl (by omega) (by decide) d_X4_hour_160 (fun μ23 eμ23 => ?_)
                have hR24 : MR (upd (swayF (rideF a)) (0) (((swayF (rideF a)) 0) + 1)) μ23 := MR.w hR20 eμ23
                have hF25 : ∀ id, (id ≠ 42 ∧ id ≠ 46) → μ23 id = μ id := fun id hid => (show μ23 id = μ19 id from (by rw [eμ23, upd2_ne _ _ _ (by omega)])).trans (hF22 id hid)
                refine x_vret rfl d_X4_hour_161 ?_
                rw [hour_end hI] at hR24
                exact ⟨hR24, hF25⟩
              · skip
                have hN := x_lt (N := pn a) c17 rfl rfl (by omega) (by omega)
                refine x_aload_n 2 d_X4_hour_111 rfl rfl ?_
                refine x_iload_n 0 d_X4_hour_112 rfl rfl ?_
                refine x_iconst (x := 1) d_X4_hour_113 (by decide) ?_
                refine x_cvip (k := 41) (as := [.int (nI i), .int 1]) (c_X4_told l E μ16 hR1 (p := i) (w := 1) (j := 24 + 3 * i + 1) rfl (by omega)) v_X4_told w_X4_told q755 o_M rfl ⟨Nat.le_of_ble_eq_true rfl, Nat.le_of_ble_eq_true rfl⟩ rfl (Nat.le_of_ble_eq_true rfl) d_X4_hour_114 ?_
                rw [move_w]
                refine x_iconst (x := (-1)) d_X4_hour_117 (by decide) ?_
                refine x_icmp_ne 141 d_X4_hour_118 (by decide) (fun c26 => ?_) (fun c26 => ?_)
                · skip
                  refine x_iinc [(3, .int (nI (i + 1))), (2, .int (a 3)), (0, .ref (E.1 + 41))] 0 d_X4_hour_141 rfl (x_inc _) (Nat.le_of_ble_eq_true rfl) rfl ?_
                  refine x_goto 100 d_X4_hour_144 (by decide) ?_
                  exact ih14 (i + 1) (by omega) (by omega) μ16 (by rw [moveTo_f c26]; exact hR1) hF1
                · skip
                  refine x_aload_n 2 d_X4_hour_121 rfl rfl ?_
                  refine x_iload_n 0 d_X4_hour_122 rfl rfl ?_
                  refine x_iconst (x := 2) d_X4_hour_123 (by decide) ?_
                  refine x_aload_n 2 d_X4_hour_124 rfl rfl ?_
                  refine x_iload_n 0 d_X4_hour_125 rfl rfl ?_
                  refine x_iconst (x := 2) d_X4_hour_126 (by decide) ?_
                  refine x_cvip (k := 41) (as := [.int (nI i), .int 2]) (c_X4_told l E μ16 hR1 (p := i) (w := 2) (j := 24 + 3 * i + 2) rfl (by omega)) v_X4_told w_X4_told q755 o_M rfl ⟨Nat.le_of_ble_eq_true rfl, Nat.le_of_ble_eq_true rfl⟩ rfl (Nat.le_of_ble_eq_true rfl) d_X4_hour_127 ?_
                  rw [moveTo_hi _ _ i i (Nat.le_refl i)]
                  refine x_iload_n 1 d_X4_hour_130 rfl rfl ?_
                  refine x_iadd d_X4_hour_131 ?_
                  refine x_iconst (x := 0) d_X4_hour_132 (by decide) ?_
                  refine x_bipush (x := 99) d_X4_hour_133 (by decide) ?_
                  refine x_csip (as := [.int (((upd a 1 (a 1 + 1)) (24 + 3 * i + 2)) + (a 3)), .int 0, .int 99]) (c_X4_held l E μ16 (((upd a 1 (a 1 + 1)) (24 + 3 * i + 2)) + (a 3)) 0 99) v_X4_held q760 q759 rfl ⟨Nat.le_of_ble_eq_true rfl, Nat.le_of_ble_eq_true rfl⟩ rfl (Nat.le_of_ble_eq_true rfl) d_X4_hour_135 ?_
                  refine x_cvv (k := 41) (as := [.int (nI i), .int 2, .int (heldF (((upd a 1 (a 1 + 1)) (24 + 3 * i + 2)) + (a 3)) 0 99)]) (c_X4_put l E μ16 (p := i) (w := 2) (j := 24 + 3 * i + 2) rfl (by omega) (heldF (((upd a 1 (a 1 + 1)) (24 + 3 * i + 2)) + (a 3)) 0 99)) v_X4_put w_X4_put q783 o_M rfl ⟨Nat.le_of_ble_eq_true rfl, Nat.le_of_ble_eq_true rfl⟩ rfl (Nat.le_of_ble_eq_true rfl) d_X4_hour_138 ?_
                  intro μ27 eμ27
                  have hR28 : MR (upd (moveTo (upd a 1 (a 1 + 1)) (a 3) i) (24 + 3 * i + 2) (heldF (((upd a 1 (a 1 + 1)) (24 + 3 * i + 2)) + (a 3)) 0 99)) μ27 := MR.w hR1 eμ27
                  have hF29 : ∀ id, (id ≠ 42 ∧ id ≠ 46) → μ27 id = μ id := fun id hid => (show μ27 id = μ16 id from (by rw [eμ27, upd2_ne _ _ _ (by omega)])).trans (hF1 id hid)
                  refine x_iinc [(3, .int (nI (i + 1))), (2, .int (a 3)), (0, .ref (E.1 + 41))] 0 d_X4_hour_141 rfl (x_inc _) (Nat.le_of_ble_eq_true rfl) rfl ?_
                  refine x_goto 100 d_X4_hour_144 (by decide) ?_
                  exact ih14 (i + 1) (by omega) (by omega) μ27 (by rw [moveTo_t c26, ← show heldF _ 0 99 = maxI 0 (minI 99 _) from held_clamp _]; exact hR28) hF29
            refine x_lv [0, 1, 3] rfl ?_
            exact L13 0 (by omega) μ9 hR12 hF11
          · skip
            exact absurd (c2.symm.trans c8) (by decide)
        · skip
          exact absurd (c2.symm.trans c4) (by decide)
    · skip
      refine x_aload_n 1 d_X4_hour_24 rfl rfl ?_
      refine x_getr (j := 0) 42 x_c4 rfl (Nat.le_of_ble_eq_true rfl) q668 rfl d_X4_hour_25 ?_
      refine x_iconst (x := 4) d_X4_hour_28 (by decide) ?_
      refine x_ialdN (z := a 4) 58 4 rfl rfl (by omega) (by decide) (hR 4 (by omega)) d_X4_hour_29 ?_
      refine x_ineg d_X4_hour_30 ?_
      refine x_goto 40 d_X4_hour_31 (by decide) ?_
      refine x_istore_n [(2, .int (-(a 4))), (1, .int (x_b (fallB a))), (0, .ref (E.1 + 41))] d_X4_hour_40 rfl (Nat.le_of_ble_eq_true rfl) rfl ?_
      refine x_aload_n 2 d_X4_hour_41 rfl rfl ?_
      refine x_getr (j := 0) 42 x_c4 rfl (Nat.le_of_ble_eq_true rfl) q668 rfl d_X4_hour_42 ?_
      refine x_iconst (x := 1) d_X4_hour_45 (by decide) ?_
      refine x_dup2 d_X4_hour_46 rfl rfl ?_
      refine x_ialdN (z := a 1) 58 1 rfl rfl (by omega) (by decide) (hR 1 (by omega)) d_X4_hour_47 ?_
      refine x_aload_n 2 d_X4_hour_48 rfl rfl ?_
      refine x_getr (j := 0) 42 x_c4 rfl (Nat.le_of_ble_eq_true rfl) q668 rfl d_X4_hour_49 ?_
      refine x_iconst (x := 1) d_X4_hour_52 (by decide) ?_
      refine x_ialdN (z := a 1) 58 1 rfl rfl (by omega) (by decide) (hR 1 (by omega)) d_X4_hour_53 ?_
      refine x_bipush (x := 16) d_X4_hour_54 (by decide) ?_
      refine x_icmp_eq 63 d_X4_hour_56 (by decide) (fun c30 => ?_) (fun c30 => ?_)
      · skip
        exact absurd c30 c1
      · skip
        refine x_iload_n 1 d_X4_hour_59 rfl rfl ?_
        refine x_ifb_eq 67 d_X4_hour_60 (by decide) (fun c31 => ?_) (fun c31 => ?_)
        · skip
          exact absurd (c2.symm.trans c31) (by decide)
        · skip
          refine x_iconst (x := 0) d_X4_hour_63 (by decide) ?_
          refine x_goto 68 d_X4_hour_64 (by decide) ?_
          refine x_iadd d_X4_hour_68 ?_
          refine x_iastNG 58 1 rfl rfl (by omega) (by decide) d_X4_hour_69 (fun μ32 eμ32 => ?_)
          have hR33 : MR (upd a (1) ((a 1) + 0)) μ32 := MR.w hR eμ32
          have hF34 : ∀ id, (id ≠ 42 ∧ id ≠ 46) → μ32 id = μ id := fun id hid => (show μ32 id = μ id from (by rw [eμ32, upd2_ne _ _ _ (by omega)])).trans (hF id hid)
          refine x_aload_n 2 d_X4_hour_70 rfl rfl ?_
          refine x_getr (j := 0) 42 x_c4 rfl (Nat.le_of_ble_eq_true rfl) q668 rfl d_X4_hour_71 ?_
          refine x_iconst (x := 5) d_X4_hour_74 (by decide) ?_
          refine x_aload_n 2 d_X4_hour_75 rfl rfl ?_
          refine x_getr (j := 0) 42 x_c4 rfl (Nat.le_of_ble_eq_true rfl) q668 rfl d_X4_hour_76 ?_
          refine x_iconst (x := 5) d_X4_hour_79 (by decide) ?_
          refine x_ialdN (z := (upd a (1) ((a 1) + 0)) 5) 58 5 rfl rfl (by omega) (by decide) (hR33 5 (by omega)) d_X4_hour_80 ?_
          refine x_iload_n 1 d_X4_hour_81 rfl rfl ?_
          refine x_ifb_eq 89 d_X4_hour_82 (by decide) (fun c35 => ?_) (fun c35 => ?_)
          · skip
            exact absurd (c2.symm.trans c35) (by decide)
          · skip
            refine x_iconst (x := 1) d_X4_hour_85 (by decide) ?_
            refine x_goto 90 d_X4_hour_86 (by decide) ?_
            refine x_iadd d_X4_hour_90 ?_
            refine x_iconst (x := 0) d_X4_hour_91 (by decide) ?_
            refine x_ldc q769 d_X4_hour_92 ?_
            refine x_csip (as := [.int (((upd a (1) ((a 1) + 0)) 5) + 1), .int 0, .int 99999]) (c_X4_held l E μ32 (((upd a (1) ((a 1) + 0)) 5) + 1) 0 99999) v_X4_held q760 q759 rfl ⟨Nat.le_of_ble_eq_true rfl, Nat.le_of_ble_eq_true rfl⟩ rfl (Nat.le_of_ble_eq_true rfl) d_X4_hour_94 ?_
            refine x_iastNG 58 5 rfl rfl (by omega) (by decide) d_X4_hour_97 (fun μ36 eμ36 => ?_)
            have hR37 : MR (upd (upd a (1) ((a 1) + 0)) (5) (heldF (((upd a (1) ((a 1) + 0)) 5) + 1) 0 99999)) μ36 := MR.w hR33 eμ36
            have hF38 : ∀ id, (id ≠ 42 ∧ id ≠ 46) → μ36 id = μ id := fun id hid => (show μ36 id = μ32 id from (by rw [eμ36, upd2_ne _ _ _ (by omega)])).trans (hF34 id hid)
            have hR39 : MR (upd a 5 (minI (a 5 + 1) 99999)) μ36 := MR.eq hR37 (fun j _ => hr_B hI j)
            have hpb : pn (upd a 5 (minI (a 5 + 1) 99999)) = pn a := upd_pn (by decide) _
            have hb7 : (upd a 5 (minI (a 5 + 1) 99999)) 7 = nI (pn a) := (upd_n _ _ (by decide)).trans hn7
            refine x_iconst (x := 0) d_X4_hour_98 (by decide) ?_
            refine x_istore_n [(3, .int 0), (2, .int (-(a 4))), (1, .int (x_b (fallB a))), (0, .ref (E.1 + 41))] d_X4_hour_99 rfl (Nat.le_of_ble_eq_true rfl) rfl ?_
            have L40 : ∀ i : Nat, i ≤ pn a → ∀ μ43 : x_Mem, (MR (moveTo (upd a 5 (minI (a 5 + 1) 99999)) (-a 4) i) μ43) → (∀ id, (id ≠ 42 ∧ id ≠ 46) → μ43 id = μ id) → x_G l E m_X4_hour (x_mv E m_X4_hour (x_J (fun m => MR (hourF a) m ∧ ∀ id, (id ≠ 42 ∧ id ≠ 46) → m id = μ id))) μ43 100 [(3, .int (nI i)), (2, .int (-(a 4))), (0, .ref (E.1 + 41))] [] := by
              refine x_down _ (pn a) (fun i hi42 ih41 => ?_)
              intro μ43 hR1 hF1
              refine x_iload_n 0 d_X4_hour_100 rfl rfl ?_
              refine x_aload_n 2 d_X4_hour_101 rfl rfl ?_
              refine x_getr (j := 0) 42 x_c4 rfl (Nat.le_of_ble_eq_true rfl) q668 rfl d_X4_hour_102 ?_
              refine x_bipush (x := 7) d_X4_hour_105 (by decide) ?_
              refine x_ialdN (z := nI (pn a)) 58 7 rfl rfl (by omega) (by decide) ((hR1 7 (by decide)).trans ((move_lo _ _ (by decide) _).trans hb7)) d_X4_hour_107 ?_
              refine x_icmp_ge 147 d_X4_hour_108 (by decide) (fun c44 => ?_) (fun c44 => ?_)
              · skip
                have hN := x_ge (N := pn a) c44 rfl rfl (by omega) (by omega)
                have e7 : i = pn a := by omega
                subst e7
                have hR45 : MR (rideF a) μ43 := by rw [← hr_eB c2]; exact hR1
                refine x_aload_n 2 d_X4_hour_147 rfl rfl ?_
                refine x_cvv (k := 41) (as := []) (c_X4_sways l E μ43 hR45 hI.ride.1) v_X4_sways w_X4_sways q831 o_M rfl ⟨Nat.le_of_ble_eq_true rfl, Nat.le_of_ble_eq_true rfl⟩ rfl (Nat.le_of_ble_eq_true rfl) d_X4_hour_148 ?_
                rintro μ46 ⟨hR47, hF48⟩
                have hF49 : ∀ id, (id ≠ 42 ∧ id ≠ 46) → μ46 id = μ id := fun id hid => (show μ46 id = μ43 id from (hF48 _ (by omega))).trans (hF1 id hid)
                refine x_aload_n 2 d_X4_hour_151 rfl rfl ?_
                refine x_getr (j := 0) 42 x_c4 rfl (Nat.le_of_ble_eq_true rfl) q668 rfl d_X4_hour_152 ?_
                refine x_iconst (x := 0) d_X4_hour_155 (by decide) ?_
                refine x_dup2 d_X4_hour_156 rfl rfl ?_
                refine x_ialdN (z := (swayF (rideF a)) 0) 58 0 rfl rfl (by omega) (by decide) (hR47 0 (by omega)) d_X4_hour_157 ?_
                refine x_iconst (x := 1) d_X4_hour_158 (by decide) ?_
                refine x_iadd d_X4_hour_159 ?_
                refine x_iastNG 58 0 rfl rfl (by omega) (by decide) d_X4_hour_160 (fun μ50 eμ50 => ?_)
                have hR51 : MR (upd (swayF (rideF a)) (0) (((swayF (rideF a)) 0) + 1)) μ50 := MR.w hR47 eμ50
                have hF52 : ∀ id, (id ≠ 42 ∧ id ≠ 46) → μ50 id = μ id := fun id hid => (show μ50 id = μ46 id from (by rw [eμ50, upd2_ne _ _ _ (by omega)])).trans (hF49 id hid)
                refine x_vret rfl d_X4_hour_161 ?_
                rw [hour_end hI] at hR51
                exact ⟨hR51, hF52⟩
              · skip
                have hN := x_lt (N := pn a) c44 rfl rfl (by omega) (by omega)
                refine x_aload_n 2 d_X4_hour_111 rfl rfl ?_
                refine x_iload_n 0 d_X4_hour_112 rfl rfl ?_
                refine x_iconst (x := 1) d_X4_hour_113 (by decide) ?_
                refine x_cvip (k := 41) (as := [.int (nI i), .int 1]) (c_X4_told l E μ43 hR1 (p := i) (w := 1) (j := 24 + 3 * i + 1) rfl (by omega)) v_X4_told w_X4_told q755 o_M rfl ⟨Nat.le_of_ble_eq_true rfl, Nat.le_of_ble_eq_true rfl⟩ rfl (Nat.le_of_ble_eq_true rfl) d_X4_hour_114 ?_
                rw [move_w]
                refine x_iconst (x := (-1)) d_X4_hour_117 (by decide) ?_
                refine x_icmp_ne 141 d_X4_hour_118 (by decide) (fun c53 => ?_) (fun c53 => ?_)
                · skip
                  refine x_iinc [(3, .int (nI (i + 1))), (2, .int (-(a 4))), (0, .ref (E.1 + 41))] 0 d_X4_hour_141 rfl (x_inc _) (Nat.le_of_ble_eq_true rfl) rfl ?_
                  refine x_goto 100 d_X4_hour_144 (by decide) ?_
                  exact ih41 (i + 1) (by omega) (by omega) μ43 (by rw [moveTo_f c53]; exact hR1) hF1
                · skip
                  refine x_aload_n 2 d_X4_hour_121 rfl rfl ?_
                  refine x_iload_n 0 d_X4_hour_122 rfl rfl ?_
                  refine x_iconst (x := 2) d_X4_hour_123 (by decide) ?_
                  refine x_aload_n 2 d_X4_hour_124 rfl rfl ?_
                  refine x_iload_n 0 d_X4_hour_125 rfl rfl ?_
                  refine x_iconst (x := 2) d_X4_hour_126 (by decide) ?_
                  refine x_cvip (k := 41) (as := [.int (nI i), .int 2]) (c_X4_told l E μ43 hR1 (p := i) (w := 2) (j := 24 + 3 * i + 2) rfl (by omega)) v_X4_told w_X4_told q755 o_M rfl ⟨Nat.le_of_ble_eq_true rfl, Nat.le_of_ble_eq_true rfl⟩ rfl (Nat.le_of_ble_eq_true rfl) d_X4_hour_127 ?_
                  rw [moveTo_hi _ _ i i (Nat.le_refl i)]
                  refine x_iload_n 1 d_X4_hour_130 rfl rfl ?_
                  refine x_iadd d_X4_hour_131 ?_
                  refine x_iconst (x := 0) d_X4_hour_132 (by decide) ?_
                  refine x_bipush (x := 99) d_X4_hour_133 (by decide) ?_
                  refine x_csip (as := [.int (((upd a 5 (minI (a 5 + 1) 99999)) (24 + 3 * i + 2)) + (-(a 4))), .int 0, .int 99]) (c_X4_held l E μ43 (((upd a 5 (minI (a 5 + 1) 99999)) (24 + 3 * i + 2)) + (-(a 4))) 0 99) v_X4_held q760 q759 rfl ⟨Nat.le_of_ble_eq_true rfl, Nat.le_of_ble_eq_true rfl⟩ rfl (Nat.le_of_ble_eq_true rfl) d_X4_hour_135 ?_
                  refine x_cvv (k := 41) (as := [.int (nI i), .int 2, .int (heldF (((upd a 5 (minI (a 5 + 1) 99999)) (24 + 3 * i + 2)) + (-(a 4))) 0 99)]) (c_X4_put l E μ43 (p := i) (w := 2) (j := 24 + 3 * i + 2) rfl (by omega) (heldF (((upd a 5 (minI (a 5 + 1) 99999)) (24 + 3 * i + 2)) + (-(a 4))) 0 99)) v_X4_put w_X4_put q783 o_M rfl ⟨Nat.le_of_ble_eq_true rfl, Nat.le_of_ble_eq_true rfl⟩ rfl (Nat.le_of_ble_eq_true rfl) d_X4_hour_138 ?_
                  intro μ54 eμ54
                  have hR55 : MR (upd (moveTo (upd a 5 (minI (a 5 + 1) 99999)) (-a 4) i) (24 + 3 * i + 2) (heldF (((upd a 5 (minI (a 5 + 1) 99999)) (24 + 3 * i + 2)) + (-(a 4))) 0 99)) μ54 := MR.w hR1 eμ54
                  have hF56 : ∀ id, (id ≠ 42 ∧ id ≠ 46) → μ54 id = μ id := fun id hid => (show μ54 id = μ43 id from (by rw [eμ54, upd2_ne _ _ _ (by omega)])).trans (hF1 id hid)
                  refine x_iinc [(3, .int (nI (i + 1))), (2, .int (-(a 4))), (0, .ref (E.1 + 41))] 0 d_X4_hour_141 rfl (x_inc _) (Nat.le_of_ble_eq_true rfl) rfl ?_
                  refine x_goto 100 d_X4_hour_144 (by decide) ?_
                  exact ih41 (i + 1) (by omega) (by omega) μ54 (by rw [moveTo_t c53, ← show heldF _ 0 99 = maxI 0 (minI 99 _) from held_clamp _]; exact hR55) hF56
            refine x_lv [0, 1, 3] rfl ?_
            exact L40 0 (by omega) μ36 hR39 hF38
  · skip
    refine x_iconst (x := 0) d_X4_hour_16 (by decide) ?_
    refine x_goto 40 d_X4_hour_17 (by decide) ?_
    refine x_istore_n [(2, .int 0), (1, .int (x_b (fallB a))), (0, .ref (E.1 + 41))] d_X4_hour_40 rfl (Nat.le_of_ble_eq_true rfl) rfl ?_
    refine x_aload_n 2 d_X4_hour_41 rfl rfl ?_
    refine x_getr (j := 0) 42 x_c4 rfl (Nat.le_of_ble_eq_true rfl) q668 rfl d_X4_hour_42 ?_
    refine x_iconst (x := 1) d_X4_hour_45 (by decide) ?_
    refine x_dup2 d_X4_hour_46 rfl rfl ?_
    refine x_ialdN (z := a 1) 58 1 rfl rfl (by omega) (by decide) (hR 1 (by omega)) d_X4_hour_47 ?_
    refine x_aload_n 2 d_X4_hour_48 rfl rfl ?_
    refine x_getr (j := 0) 42 x_c4 rfl (Nat.le_of_ble_eq_true rfl) q668 rfl d_X4_hour_49 ?_
    refine x_iconst (x := 1) d_X4_hour_52 (by decide) ?_
    refine x_ialdN (z := a 1) 58 1 rfl rfl (by omega) (by decide) (hR 1 (by omega)) d_X4_hour_53 ?_
    refine x_bipush (x := 16) d_X4_hour_54 (by decide) ?_
    refine x_icmp_eq 63 d_X4_hour_56 (by decide) (fun c57 => ?_) (fun c57 => ?_)
    · skip
      refine x_iconst (x := 0) d_X4_hour_63 (by decide) ?_
      refine x_goto 68 d_X4_hour_64 (by decide) ?_
      refine x_iadd d_X4_hour_68 ?_
      refine x_iastNG 58 1 rfl rfl (by omega) (by decide) d_X4_hour_69 (fun μ58 eμ58 => ?_)
      have hR59 : MR (upd a (1) ((a 1) + 0)) μ58 := MR.w hR eμ58
      have hF60 : ∀ id, (id ≠ 42 ∧ id ≠ 46) → μ58 id = μ id := fun id hid => (show μ58 id = μ id from (by rw [eμ58, upd2_ne _ _ _ (by omega)])).trans (hF id hid)
      refine x_aload_n 2 d_X4_hour_70 rfl rfl ?_
      refine x_getr (j := 0) 42 x_c4 rfl (Nat.le_of_ble_eq_true rfl) q668 rfl d_X4_hour_71 ?_
      refine x_iconst (x := 5) d_X4_hour_74 (by decide) ?_
      refine x_aload_n 2 d_X4_hour_75 rfl rfl ?_
      refine x_getr (j := 0) 42 x_c4 rfl (Nat.le_of_ble_eq_true rfl) q668 rfl d_X4_hour_76 ?_
      refine x_iconst (x := 5) d_X4_hour_79 (by decide) ?_
      refine x_ialdN (z := (upd a (1) ((a 1) + 0)) 5) 58 5 rfl rfl (by omega) (by decide) (hR59 5 (by omega)) d_X4_hour_80 ?_
      refine x_iload_n 1 d_X4_hour_81 rfl rfl ?_
      refine x_ifb_eq 89 d_X4_hour_82 (by decide) (fun c61 => ?_) (fun c61 => ?_)
      · skip
        refine x_iconst (x := 0) d_X4_hour_89 (by decide) ?_
        refine x_iadd d_X4_hour_90 ?_
        refine x_iconst (x := 0) d_X4_hour_91 (by decide) ?_
        refine x_ldc q769 d_X4_hour_92 ?_
        refine x_csip (as := [.int (((upd a (1) ((a 1) + 0)) 5) + 0), .int 0, .int 99999]) (c_X4_held l E μ58 (((upd a (1) ((a 1) + 0)) 5) + 0) 0 99999) v_X4_held q760 q759 rfl ⟨Nat.le_of_ble_eq_true rfl, Nat.le_of_ble_eq_true rfl⟩ rfl (Nat.le_of_ble_eq_true rfl) d_X4_hour_94 ?_
        refine x_iastNG 58 5 rfl rfl (by omega) (by decide) d_X4_hour_97 (fun μ62 eμ62 => ?_)
        have hR63 : MR (upd (upd a (1) ((a 1) + 0)) (5) (heldF (((upd a (1) ((a 1) + 0)) 5) + 0) 0 99999)) μ62 := MR.w hR59 eμ62
        have hF64 : ∀ id, (id ≠ 42 ∧ id ≠ 46) → μ62 id = μ id := fun id hid => (show μ62 id = μ58 id from (by rw [eμ62, upd2_ne _ _ _ (by omega)])).trans (hF60 id hid)
        have hR65 : MR a μ62 := MR.eq hR63 (fun j _ => hr_A hI j)
        have hpb : pn a = pn a := rfl
        have hb7 : a 7 = nI (pn a) := hn7
        refine x_iconst (x := 0) d_X4_hour_98 (by decide) ?_
        refine x_istore_n [(3, .int 0), (2, .int 0), (1, .int (x_b (fallB a))), (0, .ref (E.1 + 41))] d_X4_hour_99 rfl (Nat.le_of_ble_eq_true rfl) rfl ?_
        have L66 : ∀ i : Nat, i ≤ pn a → ∀ μ69 : x_Mem, (MR (moveTo a 0 i) μ69) → (∀ id, (id ≠ 42 ∧ id ≠ 46) → μ69 id = μ id) → x_G l E m_X4_hour (x_mv E m_X4_hour (x_J (fun m => MR (hourF a) m ∧ ∀ id, (id ≠ 42 ∧ id ≠ 46) → m id = μ id))) μ69 100 [(3, .int (nI i)), (2, .int 0), (0, .ref (E.1 + 41))] [] := by
          refine x_down _ (pn a) (fun i hi68 ih67 => ?_)
          intro μ69 hR1 hF1
          refine x_iload_n 0 d_X4_hour_100 rfl rfl ?_
          refine x_aload_n 2 d_X4_hour_101 rfl rfl ?_
          refine x_getr (j := 0) 42 x_c4 rfl (Nat.le_of_ble_eq_true rfl) q668 rfl d_X4_hour_102 ?_
          refine x_bipush (x := 7) d_X4_hour_105 (by decide) ?_
          refine x_ialdN (z := nI (pn a)) 58 7 rfl rfl (by omega) (by decide) ((hR1 7 (by decide)).trans ((move_lo _ _ (by decide) _).trans hb7)) d_X4_hour_107 ?_
          refine x_icmp_ge 147 d_X4_hour_108 (by decide) (fun c70 => ?_) (fun c70 => ?_)
          · skip
            have hN := x_ge (N := pn a) c70 rfl rfl (by omega) (by omega)
            have e7 : i = pn a := by omega
            subst e7
            have hR71 : MR (rideF a) μ69 := MR.eq hR1 (fun j _ => hr_eA hI (by simpa using c1) j)
            refine x_aload_n 2 d_X4_hour_147 rfl rfl ?_
            refine x_cvv (k := 41) (as := []) (c_X4_sways l E μ69 hR71 hI.ride.1) v_X4_sways w_X4_sways q831 o_M rfl ⟨Nat.le_of_ble_eq_true rfl, Nat.le_of_ble_eq_true rfl⟩ rfl (Nat.le_of_ble_eq_true rfl) d_X4_hour_148 ?_
            rintro μ72 ⟨hR73, hF74⟩
            have hF75 : ∀ id, (id ≠ 42 ∧ id ≠ 46) → μ72 id = μ id := fun id hid => (show μ72 id = μ69 id from (hF74 _ (by omega))).trans (hF1 id hid)
            refine x_aload_n 2 d_X4_hour_151 rfl rfl ?_
            refine x_getr (j := 0) 42 x_c4 rfl (Nat.le_of_ble_eq_true rfl) q668 rfl d_X4_hour_152 ?_
            refine x_iconst (x := 0) d_X4_hour_155 (by decide) ?_
            refine x_dup2 d_X4_hour_156 rfl rfl ?_
            refine x_ialdN (z := (swayF (rideF a)) 0) 58 0 rfl rfl (by omega) (by decide) (hR73 0 (by omega)) d_X4_hour_157 ?_
            refine x_iconst (x := 1) d_X4_hour_158 (by decide) ?_
            refine x_iadd d_X4_hour_159 ?_
            refine x_iastNG 58 0 rfl rfl (by omega) (by decide) d_X4_hour_160 (fun μ76 eμ76 => ?_)
            have hR77 : MR (upd (swayF (rideF a)) (0) (((swayF (rideF a)) 0) + 1)) μ76 := MR.w hR73 eμ76
            have hF78 : ∀ id, (id ≠ 42 ∧ id ≠ 46) → μ76 id = μ id := fun id hid => (show μ76 id = μ72 id from (by rw [eμ76, upd2_ne _ _ _ (by omega)])).trans (hF75 id hid)
            refine x_vret rfl d_X4_hour_161 ?_
            rw [hour_end hI] at hR77
            exact ⟨hR77, hF78⟩
          · skip
            have hN := x_lt (N := pn a) c70 rfl rfl (by omega) (by omega)
            refine x_aload_n 2 d_X4_hour_111 rfl rfl ?_
            refine x_iload_n 0 d_X4_hour_112 rfl rfl ?_
            refine x_iconst (x := 1) d_X4_hour_113 (by decide) ?_
            refine x_cvip (k := 41) (as := [.int (nI i), .int 1]) (c_X4_told l E μ69 hR1 (p := i) (w := 1) (j := 24 + 3 * i + 1) rfl (by omega)) v_X4_told w_X4_told q755 o_M rfl ⟨Nat.le_of_ble_eq_true rfl, Nat.le_of_ble_eq_true rfl⟩ rfl (Nat.le_of_ble_eq_true rfl) d_X4_hour_114 ?_
            rw [move_w]
            refine x_iconst (x := (-1)) d_X4_hour_117 (by decide) ?_
            refine x_icmp_ne 141 d_X4_hour_118 (by decide) (fun c79 => ?_) (fun c79 => ?_)
            · skip
              refine x_iinc [(3, .int (nI (i + 1))), (2, .int 0), (0, .ref (E.1 + 41))] 0 d_X4_hour_141 rfl (x_inc _) (Nat.le_of_ble_eq_true rfl) rfl ?_
              refine x_goto 100 d_X4_hour_144 (by decide) ?_
              exact ih67 (i + 1) (by omega) (by omega) μ69 (by rw [moveTo_f c79]; exact hR1) hF1
            · skip
              refine x_aload_n 2 d_X4_hour_121 rfl rfl ?_
              refine x_iload_n 0 d_X4_hour_122 rfl rfl ?_
              refine x_iconst (x := 2) d_X4_hour_123 (by decide) ?_
              refine x_aload_n 2 d_X4_hour_124 rfl rfl ?_
              refine x_iload_n 0 d_X4_hour_125 rfl rfl ?_
              refine x_iconst (x := 2) d_X4_hour_126 (by decide) ?_
              refine x_cvip (k := 41) (as := [.int (nI i), .int 2]) (c_X4_told l E μ69 hR1 (p := i) (w := 2) (j := 24 + 3 * i + 2) rfl (by omega)) v_X4_told w_X4_told q755 o_M rfl ⟨Nat.le_of_ble_eq_true rfl, Nat.le_of_ble_eq_true rfl⟩ rfl (Nat.le_of_ble_eq_true rfl) d_X4_hour_127 ?_
              rw [moveTo_hi _ _ i i (Nat.le_refl i)]
              refine x_iload_n 1 d_X4_hour_130 rfl rfl ?_
              refine x_iadd d_X4_hour_131 ?_
              refine x_iconst (x := 0) d_X4_hour_132 (by decide) ?_
              refine x_bipush (x := 99) d_X4_hour_133 (by decide) ?_
              refine x_csip (as := [.int ((a (24 + 3 * i + 2)) + 0), .int 0, .int 99]) (c_X4_held l E μ69 ((a (24 + 3 * i + 2)) + 0) 0 99) v_X4_held q760 q759 rfl ⟨Nat.le_of_ble_eq_true rfl, Nat.le_of_ble_eq_true rfl⟩ rfl (Nat.le_of_ble_eq_true rfl) d_X4_hour_135 ?_
              refine x_cvv (k := 41) (as := [.int (nI i), .int 2, .int (heldF ((a (24 + 3 * i + 2)) + 0) 0 99)]) (c_X4_put l E μ69 (p := i) (w := 2) (j := 24 + 3 * i + 2) rfl (by omega) (heldF ((a (24 + 3 * i + 2)) + 0) 0 99)) v_X4_put w_X4_put q783 o_M rfl ⟨Nat.le_of_ble_eq_true rfl, Nat.le_of_ble_eq_true rfl⟩ rfl (Nat.le_of_ble_eq_true rfl) d_X4_hour_138 ?_
              intro μ80 eμ80
              have hR81 : MR (upd (moveTo a 0 i) (24 + 3 * i + 2) (heldF ((a (24 + 3 * i + 2)) + 0) 0 99)) μ80 := MR.w hR1 eμ80
              have hF82 : ∀ id, (id ≠ 42 ∧ id ≠ 46) → μ80 id = μ id := fun id hid => (show μ80 id = μ69 id from (by rw [eμ80, upd2_ne _ _ _ (by omega)])).trans (hF1 id hid)
              refine x_iinc [(3, .int (nI (i + 1))), (2, .int 0), (0, .ref (E.1 + 41))] 0 d_X4_hour_141 rfl (x_inc _) (Nat.le_of_ble_eq_true rfl) rfl ?_
              refine x_goto 100 d_X4_hour_144 (by decide) ?_
              exact ih67 (i + 1) (by omega) (by omega) μ80 (by rw [moveTo_t c79, ← show heldF _ 0 99 = maxI 0 (minI 99 _) from held_clamp _]; exact hR81) hF82
        refine x_lv [0, 1, 3] rfl ?_
        exact L66 0 (by omega) μ62 hR65 hF64
      · skip
        exact absurd ((fallB_16 (by simpa using c1)).symm.trans c61) (by decide)
    · skip
      exact absurd c1 c57
end
section
/-! THE REFERENCE'S OTHER ROWS -/
def MW (a : x_St) (μ : x_Mem) : Prop := ∀ j, j < 58 → μ 44 j = a j
def ME (a : x_St) (μ : x_Mem) : Prop := ∀ j, j < 58 → μ 47 j = a j
def MKp (a : x_St) (μ : x_Mem) : Prop := ∀ j, j < 58 → μ 43 j = a j
theorem MW.cg {a : x_St} {μ μ' : x_Mem} (h : MW a μ) (e : ∀ id, id = 44 → μ' id = μ id) : MW a μ' := fun j hj => by rw [e 44 rfl]; exact h j hj
theorem ME.cg {a : x_St} {μ μ' : x_Mem} (h : ME a μ) (e : ∀ id, id = 47 → μ' id = μ id) : ME a μ' := fun j hj => by rw [e 47 rfl]; exact h j hj
theorem MKp.cg {a : x_St} {μ μ' : x_Mem} (h : MKp a μ) (e : ∀ id, id = 43 → μ' id = μ id) : MKp a μ' := fun j hj => by rw [e 43 rfl]; exact h j hj
end
section
def m_X4_goesOn : x_M := (yX4_goesOn, prog_6_method_35_code, 3, none, 8, 179)
theorem v_X4_goesOn : x_VM m_X4_goesOn 1 := ⟨q822, q6, by decide +kernel, by decide +kernel, by decide +kernel⟩
theorem w_X4_goesOn : x_VI m_X4_goesOn := ⟨q821, qs31⟩
theorem d_X4_goesOn_0 : x_dec m_X4_goesOn 0 (.iconst 0) 1 1 := ⟨by decide +kernel, rfl⟩
theorem d_X4_goesOn_1 : x_dec m_X4_goesOn 1 (.istore_n 2) 1 2 := ⟨by decide +kernel, rfl⟩
theorem d_X4_goesOn_2 : x_dec m_X4_goesOn 2 (.iload_n 2) 1 3 := ⟨by decide +kernel, rfl⟩
theorem d_X4_goesOn_3 : x_dec m_X4_goesOn 3 (.iload_n 1) 1 4 := ⟨by decide +kernel, rfl⟩
theorem d_X4_goesOn_4 : x_dec m_X4_goesOn 4 (.if_icmp .ge 13) 3 7 := ⟨by decide +kernel, rfl⟩
theorem d_X4_goesOn_7 : x_dec m_X4_goesOn 7 (.aload_n 0) 1 8 := ⟨by decide +kernel, rfl⟩
theorem d_X4_goesOn_8 : x_dec m_X4_goesOn 8 (.invokevirtual 110) 3 11 := ⟨by decide +kernel, rfl⟩
theorem d_X4_goesOn_11 : x_dec m_X4_goesOn 11 (.iinc 2 1) 3 14 := ⟨by decide +kernel, rfl⟩
theorem d_X4_goesOn_14 : x_dec m_X4_goesOn 14 (.goto (-12)) 3 17 := ⟨by decide +kernel, rfl⟩
theorem d_X4_goesOn_17 : x_dec m_X4_goesOn 17 (.return_) 1 18 := ⟨by decide +kernel, rfl⟩
set_option maxHeartbeats 4000000 in
set_option maxRecDepth 100000 in
theorem c_X4_goesOn (l : Launch) (E : x_E) (μ : x_Mem) {a : x_St} (hR : MR a μ) (hI : WF a) {h : Nat} (hh : h < 1000) : x_Met l m_X4_goesOn E [.ref (E.1 + 41), .int (nI h)] μ (x_J (fun m => MR (hoursF a h) m ∧ ∀ id, (id ≠ 42 ∧ id ≠ 46) → m id = μ id)) := by
  have hn7 := hI.2.1
  have hpn := hI.1
  have hF : ∀ id, (id ≠ 42 ∧ id ≠ 46) → μ id = μ id := fun _ _ => rfl
  refine x_enter (lv := [(0, .ref (E.1 + 41)), (1, .int (nI h))]) (by decide +kernel) (Nat.le_of_ble_eq_true rfl) rfl ?_
  refine x_iconst (x := 0) d_X4_goesOn_0 (by decide) ?_
  refine x_istore_n [(2, .int 0), (0, .ref (E.1 + 41)), (1, .int (nI h))] d_X4_goesOn_1 rfl (Nat.le_of_ble_eq_true rfl) rfl ?_
  have L1 : ∀ i : Nat, i ≤ h → ∀ μ4 : x_Mem, (MR (hoursF a i) μ4) → (∀ id, (id ≠ 42 ∧ id ≠ 46) → μ4 id = μ id) → x_G l E m_X4_goesOn (x_mv E m_X4_goesOn (x_J (fun m => MR (hoursF a h) m ∧ ∀ id, (id ≠ 42 ∧ id ≠ 46) → m id = μ id))) μ4 2 [(2, .int (nI i)), (0, .ref (E.1 + 41)), (1, .int (nI h))] [] := by
    refine x_down _ h (fun i hi3 ih2 => ?_)
    intro μ4 hR1 hF1
    refine x_iload_n 0 d_X4_goesOn_2 rfl rfl ?_
    refine x_iload_n 2 d_X4_goesOn_3 rfl rfl ?_
    refine x_icmp_ge 17 d_X4_goesOn_4 (by decide) (fun c5 => ?_) (fun c5 => ?_)
    · skip
      have hN := x_ge (N := h) c5 rfl rfl (by omega) (by omega)
      refine x_vret rfl d_X4_goesOn_17 ?_
      have e7 : i = h := by omega
      subst e7
      exact ⟨hR1, hF1⟩
    · skip
      have hN := x_lt (N := h) c5 rfl rfl (by omega) (by omega)
      refine x_aload_n 1 d_X4_goesOn_7 rfl rfl ?_
      refine x_cvv (k := 41) (as := []) (c_X4_hour l E μ4 hR1 (hI.hours i)) v_X4_hour w_X4_hour q823 o_M rfl ⟨Nat.le_of_ble_eq_true rfl, Nat.le_of_ble_eq_true rfl⟩ rfl (Nat.le_of_ble_eq_true rfl) d_X4_goesOn_8 ?_
      rintro μ6 ⟨hR7, hF8⟩
      have hF9 : ∀ id, (id ≠ 42 ∧ id ≠ 46) → μ6 id = μ id := fun id hid => (show μ6 id = μ4 id from (hF8 _ (by omega))).trans (hF1 id hid)
      refine x_iinc [(2, .int (nI (i + 1))), (0, .ref (E.1 + 41)), (1, .int (nI h))] 0 d_X4_goesOn_11 rfl (x_inc _) (Nat.le_of_ble_eq_true rfl) rfl ?_
      refine x_goto 2 d_X4_goesOn_14 (by decide) ?_
      exact ih2 (i + 1) (by omega) (by omega) μ6 hR7 hF9
  exact L1 0 (by omega) μ hR hF
def m_X4_aboard : x_M := (yX4_aboard, prog_6_method_36_code, 3, (some FieldType.int), 1, 22)
theorem v_X4_aboard : x_VM m_X4_aboard 0 := ⟨q846, q6, by decide +kernel, by decide +kernel, by decide +kernel⟩
theorem w_X4_aboard : x_VI m_X4_aboard := ⟨q845, qs36⟩
theorem d_X4_aboard_0 : x_dec m_X4_aboard 0 (.iconst 0) 1 1 := ⟨by decide +kernel, rfl⟩
theorem d_X4_aboard_1 : x_dec m_X4_aboard 1 (.istore_n 1) 1 2 := ⟨by decide +kernel, rfl⟩
theorem d_X4_aboard_2 : x_dec m_X4_aboard 2 (.iconst 0) 1 3 := ⟨by decide +kernel, rfl⟩
theorem d_X4_aboard_3 : x_dec m_X4_aboard 3 (.istore_n 2) 1 4 := ⟨by decide +kernel, rfl⟩
theorem d_X4_aboard_4 : x_dec m_X4_aboard 4 (.iload_n 2) 1 5 := ⟨by decide +kernel, rfl⟩
theorem d_X4_aboard_5 : x_dec m_X4_aboard 5 (.aload_n 0) 1 6 := ⟨by decide +kernel, rfl⟩
theorem d_X4_aboard_6 : x_dec m_X4_aboard 6 (.getfield 9) 3 9 := ⟨by decide +kernel, rfl⟩
theorem d_X4_aboard_9 : x_dec m_X4_aboard 9 (.bipush 7) 2 11 := ⟨by decide +kernel, rfl⟩
theorem d_X4_aboard_11 : x_dec m_X4_aboard 11 (.iaload) 1 12 := ⟨by decide +kernel, rfl⟩
theorem d_X4_aboard_12 : x_dec m_X4_aboard 12 (.if_icmp .ge 29) 3 15 := ⟨by decide +kernel, rfl⟩
theorem d_X4_aboard_15 : x_dec m_X4_aboard 15 (.iload_n 1) 1 16 := ⟨by decide +kernel, rfl⟩
theorem d_X4_aboard_16 : x_dec m_X4_aboard 16 (.aload_n 0) 1 17 := ⟨by decide +kernel, rfl⟩
theorem d_X4_aboard_17 : x_dec m_X4_aboard 17 (.iload_n 2) 1 18 := ⟨by decide +kernel, rfl⟩
theorem d_X4_aboard_18 : x_dec m_X4_aboard 18 (.iconst 1) 1 19 := ⟨by decide +kernel, rfl⟩
theorem d_X4_aboard_19 : x_dec m_X4_aboard 19 (.invokevirtual 50) 3 22 := ⟨by decide +kernel, rfl⟩
theorem d_X4_aboard_22 : x_dec m_X4_aboard 22 (.iconst (-1)) 1 23 := ⟨by decide +kernel, rfl⟩
theorem d_X4_aboard_23 : x_dec m_X4_aboard 23 (.if_icmp .ne 9) 3 26 := ⟨by decide +kernel, rfl⟩
theorem d_X4_aboard_26 : x_dec m_X4_aboard 26 (.iconst 1) 1 27 := ⟨by decide +kernel, rfl⟩
theorem d_X4_aboard_27 : x_dec m_X4_aboard 27 (.iload_n 2) 1 28 := ⟨by decide +kernel, rfl⟩
theorem d_X4_aboard_28 : x_dec m_X4_aboard 28 (.ishl) 1 29 := ⟨by decide +kernel, rfl⟩
theorem d_X4_aboard_29 : x_dec m_X4_aboard 29 (.goto 4) 3 32 := ⟨by decide +kernel, rfl⟩
theorem d_X4_aboard_32 : x_dec m_X4_aboard 32 (.iconst 0) 1 33 := ⟨by decide +kernel, rfl⟩
theorem d_X4_aboard_33 : x_dec m_X4_aboard 33 (.ior) 1 34 := ⟨by decide +kernel, rfl⟩
theorem d_X4_aboard_34 : x_dec m_X4_aboard 34 (.istore_n 1) 1 35 := ⟨by decide +kernel, rfl⟩
theorem d_X4_aboard_35 : x_dec m_X4_aboard 35 (.iinc 2 1) 3 38 := ⟨by decide +kernel, rfl⟩
theorem d_X4_aboard_38 : x_dec m_X4_aboard 38 (.goto (-34)) 3 41 := ⟨by decide +kernel, rfl⟩
theorem d_X4_aboard_41 : x_dec m_X4_aboard 41 (.iload_n 1) 1 42 := ⟨by decide +kernel, rfl⟩
theorem d_X4_aboard_42 : x_dec m_X4_aboard 42 (.ireturn) 1 43 := ⟨by decide +kernel, rfl⟩
set_option maxHeartbeats 4000000 in
set_option maxRecDepth 100000 in
theorem c_X4_aboard (l : Launch) (E : x_E) (μ : x_Mem) {a : x_St} (hR : MR a μ) (hI : WF a) : x_Met l m_X4_aboard E [.ref (E.1 + 41)] μ (x_I (fun z m => z = aboardF a ∧ m = μ)) := by
  have hn7 := hI.2.1
  have hpn := hI.1
  refine x_enter (lv := [(0, .ref (E.1 + 41))]) (by decide +kernel) (Nat.le_of_ble_eq_true rfl) rfl ?_
  refine x_iconst (x := 0) d_X4_aboard_0 (by decide) ?_
  refine x_istore_n [(1, .int 0), (0, .ref (E.1 + 41))] d_X4_aboard_1 rfl (Nat.le_of_ble_eq_true rfl) rfl ?_
  refine x_iconst (x := 0) d_X4_aboard_2 (by decide) ?_
  refine x_istore_n [(2, .int 0), (1, .int 0), (0, .ref (E.1 + 41))] d_X4_aboard_3 rfl (Nat.le_of_ble_eq_true rfl) rfl ?_
  have L1 : ∀ i : Nat, i ≤ pn a → ∀ r : Int32, (r = setTo (fun p => decide (a (24 + 3 * p + 1) = -1)) i) → x_G l E m_X4_aboard (x_mv E m_X4_aboard (x_I (fun z m => z = aboardF a ∧ m = μ))) μ 4 [(2, .int (nI i)), (1, .int r), (0, .ref (E.1 + 41))] [] := by
    refine x_down _ (pn a) (fun i hi3 ih2 => ?_)
    intro r hr
    refine x_iload_n 0 d_X4_aboard_4 rfl rfl ?_
    refine x_aload_n 2 d_X4_aboard_5 rfl rfl ?_
    refine x_getr (j := 0) 42 x_c4 rfl (Nat.le_of_ble_eq_true rfl) q668 rfl d_X4_aboard_6 ?_
    refine x_bipush (x := 7) d_X4_aboard_9 (by decide) ?_
    refine x_ialdN (z := nI (pn a)) 58 7 rfl rfl (by omega) (by decide) ((hR 7 (by decide)).trans hn7) d_X4_aboard_11 ?_
    refine x_icmp_ge 41 d_X4_aboard_12 (by decide) (fun c4 => ?_) (fun c4 => ?_)
    · skip
      have hN := x_ge (N := pn a) c4 rfl rfl (by omega) (by omega)
      refine x_iload_n 1 d_X4_aboard_41 rfl rfl ?_
      refine x_iret rfl d_X4_aboard_42 ?_
      have e7 : i = pn a := by omega
      subst e7
      exact ⟨hr, rfl⟩
    · skip
      have hN := x_lt (N := pn a) c4 rfl rfl (by omega) (by omega)
      refine x_iload_n 1 d_X4_aboard_15 rfl rfl ?_
      refine x_aload_n 2 d_X4_aboard_16 rfl rfl ?_
      refine x_iload_n 0 d_X4_aboard_17 rfl rfl ?_
      refine x_iconst (x := 1) d_X4_aboard_18 (by decide) ?_
      refine x_cvip (k := 41) (as := [.int (nI i), .int 1]) (c_X4_told l E μ hR (p := i) (w := 1) (j := 24 + 3 * i + 1) rfl (by omega)) v_X4_told w_X4_told q755 o_M rfl ⟨Nat.le_of_ble_eq_true rfl, Nat.le_of_ble_eq_true rfl⟩ rfl (Nat.le_of_ble_eq_true rfl) d_X4_aboard_19 ?_
      refine x_iconst (x := (-1)) d_X4_aboard_22 (by decide) ?_
      refine x_icmp_ne 32 d_X4_aboard_23 (by decide) (fun c5 => ?_) (fun c5 => ?_)
      · skip
        refine x_iconst (x := 0) d_X4_aboard_32 (by decide) ?_
        refine x_ior d_X4_aboard_33 ?_
        refine x_istore_n [(1, .int (r ||| 0)), (2, .int (nI i)), (0, .ref (E.1 + 41))] d_X4_aboard_34 rfl (Nat.le_of_ble_eq_true rfl) rfl ?_
        refine x_iinc [(2, .int (nI (i + 1))), (1, .int (r ||| 0)), (0, .ref (E.1 + 41))] 1 d_X4_aboard_35 rfl (x_inc _) (Nat.le_of_ble_eq_true rfl) rfl ?_
        refine x_goto 4 d_X4_aboard_38 (by decide) ?_
        exact ih2 (i + 1) (by omega) (by omega) (r ||| 0) (by rw [hr, setTo, if_neg (by rw [decide_eq_false c5]; decide)]; exact or_0 _)
      · skip
        refine x_iconst (x := 1) d_X4_aboard_26 (by decide) ?_
        refine x_iload_n 0 d_X4_aboard_27 rfl rfl ?_
        refine x_ishl d_X4_aboard_28 ?_
        refine x_goto 33 d_X4_aboard_29 (by decide) ?_
        refine x_ior d_X4_aboard_33 ?_
        refine x_istore_n [(1, .int (r ||| (1 <<< ((nI i) &&& 31)))), (2, .int (nI i)), (0, .ref (E.1 + 41))] d_X4_aboard_34 rfl (Nat.le_of_ble_eq_true rfl) rfl ?_
        refine x_iinc [(2, .int (nI (i + 1))), (1, .int (r ||| (1 <<< ((nI i) &&& 31)))), (0, .ref (E.1 + 41))] 1 d_X4_aboard_35 rfl (x_inc _) (Nat.le_of_ble_eq_true rfl) rfl ?_
        refine x_goto 4 d_X4_aboard_38 (by decide) ?_
        exact ih2 (i + 1) (by omega) (by omega) (r ||| (1 <<< ((nI i) &&& 31))) (by rw [hr, setTo, if_pos (decide_eq_true c5)])
  exact L1 0 (by omega) 0 (by rfl)
def m_X4_allBelief : x_M := (yX4_allBelief, prog_6_method_37_code, 3, (some FieldType.int), 1, 22)
theorem v_X4_allBelief : x_VM m_X4_allBelief 0 := ⟨q854, q6, by decide +kernel, by decide +kernel, by decide +kernel⟩
theorem w_X4_allBelief : x_VI m_X4_allBelief := ⟨q853, qs38⟩
theorem d_X4_allBelief_0 : x_dec m_X4_allBelief 0 (.iconst 0) 1 1 := ⟨by decide +kernel, rfl⟩
theorem d_X4_allBelief_1 : x_dec m_X4_allBelief 1 (.istore_n 1) 1 2 := ⟨by decide +kernel, rfl⟩
theorem d_X4_allBelief_2 : x_dec m_X4_allBelief 2 (.iconst 0) 1 3 := ⟨by decide +kernel, rfl⟩
theorem d_X4_allBelief_3 : x_dec m_X4_allBelief 3 (.istore_n 2) 1 4 := ⟨by decide +kernel, rfl⟩
theorem d_X4_allBelief_4 : x_dec m_X4_allBelief 4 (.iload_n 2) 1 5 := ⟨by decide +kernel, rfl⟩
theorem d_X4_allBelief_5 : x_dec m_X4_allBelief 5 (.aload_n 0) 1 6 := ⟨by decide +kernel, rfl⟩
theorem d_X4_allBelief_6 : x_dec m_X4_allBelief 6 (.getfield 9) 3 9 := ⟨by decide +kernel, rfl⟩
theorem d_X4_allBelief_9 : x_dec m_X4_allBelief 9 (.bipush 7) 2 11 := ⟨by decide +kernel, rfl⟩
theorem d_X4_allBelief_11 : x_dec m_X4_allBelief 11 (.iaload) 1 12 := ⟨by decide +kernel, rfl⟩
theorem d_X4_allBelief_12 : x_dec m_X4_allBelief 12 (.if_icmp .ge 18) 3 15 := ⟨by decide +kernel, rfl⟩
theorem d_X4_allBelief_15 : x_dec m_X4_allBelief 15 (.iload_n 1) 1 16 := ⟨by decide +kernel, rfl⟩
theorem d_X4_allBelief_16 : x_dec m_X4_allBelief 16 (.aload_n 0) 1 17 := ⟨by decide +kernel, rfl⟩
theorem d_X4_allBelief_17 : x_dec m_X4_allBelief 17 (.iload_n 2) 1 18 := ⟨by decide +kernel, rfl⟩
theorem d_X4_allBelief_18 : x_dec m_X4_allBelief 18 (.iconst 2) 1 19 := ⟨by decide +kernel, rfl⟩
theorem d_X4_allBelief_19 : x_dec m_X4_allBelief 19 (.invokevirtual 50) 3 22 := ⟨by decide +kernel, rfl⟩
theorem d_X4_allBelief_22 : x_dec m_X4_allBelief 22 (.iadd) 1 23 := ⟨by decide +kernel, rfl⟩
theorem d_X4_allBelief_23 : x_dec m_X4_allBelief 23 (.istore_n 1) 1 24 := ⟨by decide +kernel, rfl⟩
theorem d_X4_allBelief_24 : x_dec m_X4_allBelief 24 (.iinc 2 1) 3 27 := ⟨by decide +kernel, rfl⟩
theorem d_X4_allBelief_27 : x_dec m_X4_allBelief 27 (.goto (-23)) 3 30 := ⟨by decide +kernel, rfl⟩
theorem d_X4_allBelief_30 : x_dec m_X4_allBelief 30 (.iload_n 1) 1 31 := ⟨by decide +kernel, rfl⟩
theorem d_X4_allBelief_31 : x_dec m_X4_allBelief 31 (.ireturn) 1 32 := ⟨by decide +kernel, rfl⟩
set_option maxHeartbeats 4000000 in
set_option maxRecDepth 100000 in
theorem c_X4_allBelief (l : Launch) (E : x_E) (μ : x_Mem) {a : x_St} (hR : MR a μ) (hI : WF a) : x_Met l m_X4_allBelief E [.ref (E.1 + 41)] μ (x_I (fun z m => z = beliefsF a ∧ m = μ)) := by
  have hn7 := hI.2.1
  have hpn := hI.1
  refine x_enter (lv := [(0, .ref (E.1 + 41))]) (by decide +kernel) (Nat.le_of_ble_eq_true rfl) rfl ?_
  refine x_iconst (x := 0) d_X4_allBelief_0 (by decide) ?_
  refine x_istore_n [(1, .int 0), (0, .ref (E.1 + 41))] d_X4_allBelief_1 rfl (Nat.le_of_ble_eq_true rfl) rfl ?_
  refine x_iconst (x := 0) d_X4_allBelief_2 (by decide) ?_
  refine x_istore_n [(2, .int 0), (1, .int 0), (0, .ref (E.1 + 41))] d_X4_allBelief_3 rfl (Nat.le_of_ble_eq_true rfl) rfl ?_
  have L1 : ∀ i : Nat, i ≤ pn a → ∀ r : Int32, (r = sumTo (fun p => a (24 + 3 * p + 2)) i) → x_G l E m_X4_allBelief (x_mv E m_X4_allBelief (x_I (fun z m => z = beliefsF a ∧ m = μ))) μ 4 [(2, .int (nI i)), (1, .int r), (0, .ref (E.1 + 41))] [] := by
    refine x_down _ (pn a) (fun i hi3 ih2 => ?_)
    intro r hr
    refine x_iload_n 0 d_X4_allBelief_4 rfl rfl ?_
    refine x_aload_n 2 d_X4_allBelief_5 rfl rfl ?_
    refine x_getr (j := 0) 42 x_c4 rfl (Nat.le_of_ble_eq_true rfl) q668 rfl d_X4_allBelief_6 ?_
    refine x_bipush (x := 7) d_X4_allBelief_9 (by decide) ?_
    refine x_ialdN (z := nI (pn a)) 58 7 rfl rfl (by omega) (by decide) ((hR 7 (by decide)).trans hn7) d_X4_allBelief_11 ?_
    refine x_icmp_ge 30 d_X4_allBelief_12 (by decide) (fun c4 => ?_) (fun c4 => ?_)
    · skip
      have hN := x_ge (N := pn a) c4 rfl rfl (by omega) (by omega)
      refine x_iload_n 1 d_X4_allBelief_30 rfl rfl ?_
      refine x_iret rfl d_X4_allBelief_31 ?_
      have e7 : i = pn a := by omega
      subst e7
      exact ⟨hr, rfl⟩
    · skip
      have hN := x_lt (N := pn a) c4 rfl rfl (by omega) (by omega)
      refine x_iload_n 1 d_X4_allBelief_15 rfl rfl ?_
      refine x_aload_n 2 d_X4_allBelief_16 rfl rfl ?_
      refine x_iload_n 0 d_X4_allBelief_17 rfl rfl ?_
      refine x_iconst (x := 2) d_X4_allBelief_18 (by decide) ?_
      refine x_cvip (k := 41) (as := [.int (nI i), .int 2]) (c_X4_told l E μ hR (p := i) (w := 2) (j := 24 + 3 * i + 2) rfl (by omega)) v_X4_told w_X4_told q755 o_M rfl ⟨Nat.le_of_ble_eq_true rfl, Nat.le_of_ble_eq_true rfl⟩ rfl (Nat.le_of_ble_eq_true rfl) d_X4_allBelief_19 ?_
      refine x_iadd d_X4_allBelief_22 ?_
      refine x_istore_n [(1, .int (r + (a (24 + 3 * i + 2)))), (2, .int (nI i)), (0, .ref (E.1 + 41))] d_X4_allBelief_23 rfl (Nat.le_of_ble_eq_true rfl) rfl ?_
      refine x_iinc [(2, .int (nI (i + 1))), (1, .int (r + (a (24 + 3 * i + 2)))), (0, .ref (E.1 + 41))] 1 d_X4_allBelief_24 rfl (x_inc _) (Nat.le_of_ble_eq_true rfl) rfl ?_
      refine x_goto 4 d_X4_allBelief_27 (by decide) ?_
      exact ih2 (i + 1) (by omega) (by omega) (r + (a (24 + 3 * i + 2))) (by rw [hr, sumTo])
  exact L1 0 (by omega) 0 (by rfl)
def m_X4_thinks : x_M := (yX4_thinks, prog_6_method_40_code, 1, none, 1, 22)
theorem v_X4_thinks : x_VM m_X4_thinks 0 := ⟨q862, q6, by decide +kernel, by decide +kernel, by decide +kernel⟩
theorem w_X4_thinks : x_VI m_X4_thinks := ⟨q861, qs39⟩
theorem d_X4_thinks_0 : x_dec m_X4_thinks 0 (.aload_n 0) 1 1 := ⟨by decide +kernel, rfl⟩
theorem d_X4_thinks_1 : x_dec m_X4_thinks 1 (.getfield 9) 3 4 := ⟨by decide +kernel, rfl⟩
theorem d_X4_thinks_4 : x_dec m_X4_thinks 4 (.aload_n 0) 1 5 := ⟨by decide +kernel, rfl⟩
theorem d_X4_thinks_5 : x_dec m_X4_thinks 5 (.getfield 16) 3 8 := ⟨by decide +kernel, rfl⟩
theorem d_X4_thinks_8 : x_dec m_X4_thinks 8 (.invokestatic 127) 3 11 := ⟨by decide +kernel, rfl⟩
theorem d_X4_thinks_11 : x_dec m_X4_thinks 11 (.return_) 1 12 := ⟨by decide +kernel, rfl⟩
set_option maxHeartbeats 4000000 in
set_option maxRecDepth 100000 in
theorem c_X4_thinks (l : Launch) (E : x_E) (μ : x_Mem) {a : x_St} (hR : MR a μ) : x_Met l m_X4_thinks E [.ref (E.1 + 41)] μ (x_J (fun m => MW a m ∧ ∀ id, id ≠ 44 → m id = μ id)) := by
  have hF : ∀ id, id ≠ 44 → μ id = μ id := fun _ _ => rfl
  refine x_enter (lv := [(0, .ref (E.1 + 41))]) (by decide +kernel) (Nat.le_of_ble_eq_true rfl) rfl ?_
  refine x_aload_n 0 d_X4_thinks_0 rfl rfl ?_
  refine x_getr (j := 0) 42 x_c4 rfl (Nat.le_of_ble_eq_true rfl) q668 rfl d_X4_thinks_1 ?_
  refine x_aload_n 0 d_X4_thinks_4 rfl rfl ?_
  refine x_getr (j := 2) 44 x_c4 rfl (Nat.le_of_ble_eq_true rfl) q670 rfl d_X4_thinks_5 ?_
  refine x_csv (as := [.ref (E.1 + 42), .ref (E.1 + 44)]) (c_X4_copyAll l E μ (k1 := 42) (k2 := 44) (by decide) rfl rfl rfl rfl) v_X4_copyAll q864 q863 rfl ⟨Nat.le_of_ble_eq_true rfl, Nat.le_of_ble_eq_true rfl⟩ rfl (Nat.le_of_ble_eq_true rfl) d_X4_thinks_8 ?_
  rintro μ1 ⟨hq2, hF3⟩
  have hW4 : MW a μ1 := fun j hj => (hq2 j hj).trans (hR j hj)
  have hR5 := MR.cg hR (μ' := μ1) (fun id hid => (hF3 _ (by omega)))
  have hF6 : ∀ id, id ≠ 44 → μ1 id = μ id := fun id hid => (show μ1 id = μ id from (hF3 _ (by omega))).trans (hF id hid)
  refine x_vret rfl d_X4_thinks_11 ?_
  exact ⟨hW4, hF6⟩
def m_X4_putsBack : x_M := (yX4_putsBack, prog_6_method_41_code, 1, none, 1, 22)
theorem v_X4_putsBack : x_VM m_X4_putsBack 0 := ⟨q873, q6, by decide +kernel, by decide +kernel, by decide +kernel⟩
theorem w_X4_putsBack : x_VI m_X4_putsBack := ⟨q872, qs41⟩
theorem d_X4_putsBack_0 : x_dec m_X4_putsBack 0 (.aload_n 0) 1 1 := ⟨by decide +kernel, rfl⟩
theorem d_X4_putsBack_1 : x_dec m_X4_putsBack 1 (.getfield 16) 3 4 := ⟨by decide +kernel, rfl⟩
theorem d_X4_putsBack_4 : x_dec m_X4_putsBack 4 (.aload_n 0) 1 5 := ⟨by decide +kernel, rfl⟩
theorem d_X4_putsBack_5 : x_dec m_X4_putsBack 5 (.getfield 9) 3 8 := ⟨by decide +kernel, rfl⟩
theorem d_X4_putsBack_8 : x_dec m_X4_putsBack 8 (.invokestatic 127) 3 11 := ⟨by decide +kernel, rfl⟩
theorem d_X4_putsBack_11 : x_dec m_X4_putsBack 11 (.return_) 1 12 := ⟨by decide +kernel, rfl⟩
set_option maxHeartbeats 4000000 in
set_option maxRecDepth 100000 in
theorem c_X4_putsBack (l : Launch) (E : x_E) (μ : x_Mem) {b : x_St} (hW : MW b μ) : x_Met l m_X4_putsBack E [.ref (E.1 + 41)] μ (x_J (fun m => MR b m ∧ ∀ id, id ≠ 42 → m id = μ id)) := by
  have hF : ∀ id, id ≠ 42 → μ id = μ id := fun _ _ => rfl
  refine x_enter (lv := [(0, .ref (E.1 + 41))]) (by decide +kernel) (Nat.le_of_ble_eq_true rfl) rfl ?_
  refine x_aload_n 0 d_X4_putsBack_0 rfl rfl ?_
  refine x_getr (j := 2) 44 x_c4 rfl (Nat.le_of_ble_eq_true rfl) q670 rfl d_X4_putsBack_1 ?_
  refine x_aload_n 0 d_X4_putsBack_4 rfl rfl ?_
  refine x_getr (j := 0) 42 x_c4 rfl (Nat.le_of_ble_eq_true rfl) q668 rfl d_X4_putsBack_5 ?_
  refine x_csv (as := [.ref (E.1 + 44), .ref (E.1 + 42)]) (c_X4_copyAll l E μ (k1 := 44) (k2 := 42) (by decide) rfl rfl rfl rfl) v_X4_copyAll q864 q863 rfl ⟨Nat.le_of_ble_eq_true rfl, Nat.le_of_ble_eq_true rfl⟩ rfl (Nat.le_of_ble_eq_true rfl) d_X4_putsBack_8 ?_
  rintro μ1 ⟨hq2, hF3⟩
  have hR4 : MR b μ1 := fun j hj => (hq2 j hj).trans (hW j hj)
  have hW5 := MW.cg hW (μ' := μ1) (fun id hid => (hF3 _ (by omega)))
  have hF6 : ∀ id, id ≠ 42 → μ1 id = μ id := fun id hid => (show μ1 id = μ id from (hF3 _ (by omega))).trans (hF id hid)
  refine x_vret rfl d_X4_putsBack_11 ?_
  exact ⟨hR4, hF6⟩
def m_X4_getsTo : x_M := (yX4_getsTo, prog_6_method_42_code, 3, (some FieldType.int), 9, 201)
theorem v_X4_getsTo : x_VM m_X4_getsTo 1 := ⟨q869, q6, by decide +kernel, by decide +kernel, by decide +kernel⟩
theorem w_X4_getsTo : x_VI m_X4_getsTo := ⟨q868, qs40⟩
theorem d_X4_getsTo_0 : x_dec m_X4_getsTo 0 (.aload_n 0) 1 1 := ⟨by decide +kernel, rfl⟩
theorem d_X4_getsTo_1 : x_dec m_X4_getsTo 1 (.iload_n 1) 1 2 := ⟨by decide +kernel, rfl⟩
theorem d_X4_getsTo_2 : x_dec m_X4_getsTo 2 (.invokevirtual 113) 3 5 := ⟨by decide +kernel, rfl⟩
theorem d_X4_getsTo_5 : x_dec m_X4_getsTo 5 (.aload_n 0) 1 6 := ⟨by decide +kernel, rfl⟩
theorem d_X4_getsTo_6 : x_dec m_X4_getsTo 6 (.getfield 9) 3 9 := ⟨by decide +kernel, rfl⟩
theorem d_X4_getsTo_9 : x_dec m_X4_getsTo 9 (.iconst 1) 1 10 := ⟨by decide +kernel, rfl⟩
theorem d_X4_getsTo_10 : x_dec m_X4_getsTo 10 (.iaload) 1 11 := ⟨by decide +kernel, rfl⟩
theorem d_X4_getsTo_11 : x_dec m_X4_getsTo 11 (.istore_n 2) 1 12 := ⟨by decide +kernel, rfl⟩
theorem d_X4_getsTo_12 : x_dec m_X4_getsTo 12 (.aload_n 0) 1 13 := ⟨by decide +kernel, rfl⟩
theorem d_X4_getsTo_13 : x_dec m_X4_getsTo 13 (.invokevirtual 131) 3 16 := ⟨by decide +kernel, rfl⟩
theorem d_X4_getsTo_16 : x_dec m_X4_getsTo 16 (.iload_n 2) 1 17 := ⟨by decide +kernel, rfl⟩
theorem d_X4_getsTo_17 : x_dec m_X4_getsTo 17 (.ireturn) 1 18 := ⟨by decide +kernel, rfl⟩
set_option maxHeartbeats 4000000 in
set_option maxRecDepth 100000 in
theorem c_X4_getsTo (l : Launch) (E : x_E) (μ : x_Mem) {a : x_St} (hR : MR a μ) (hI : WF a) {b : x_St} (hW : MW b μ) {h : Nat} (hh : h < 1000) : x_Met l m_X4_getsTo E [.ref (E.1 + 41), .int (nI h)] μ (x_I (fun z m => z = hoursF a h 1 ∧ MR b m ∧ MW b m ∧ ∀ id, (id ≠ 42 ∧ id ≠ 46) → m id = μ id)) := by
  have hn7 := hI.2.1
  have hpn := hI.1
  have hF : ∀ id, (id ≠ 42 ∧ id ≠ 46) → μ id = μ id := fun _ _ => rfl
  refine x_enter (lv := [(0, .ref (E.1 + 41)), (1, .int (nI h))]) (by decide +kernel) (Nat.le_of_ble_eq_true rfl) rfl ?_
  refine x_aload_n 0 d_X4_getsTo_0 rfl rfl ?_
  refine x_iload_n 1 d_X4_getsTo_1 rfl rfl ?_
  refine x_cvv (k := 41) (as := [.int (nI h)]) (c_X4_goesOn l E μ hR hI (h := h) (by omega)) v_X4_goesOn w_X4_goesOn q819 o_M rfl ⟨Nat.le_of_ble_eq_true rfl, Nat.le_of_ble_eq_true rfl⟩ rfl (Nat.le_of_ble_eq_true rfl) d_X4_getsTo_2 ?_
  rintro μ1 ⟨hR2, hF3⟩
  have hW4 := MW.cg hW (μ' := μ1) (fun id hid => (hF3 _ (by omega)))
  have hF5 : ∀ id, (id ≠ 42 ∧ id ≠ 46) → μ1 id = μ id := fun id hid => (show μ1 id = μ id from (hF3 _ (by omega))).trans (hF id hid)
  refine x_aload_n 0 d_X4_getsTo_5 rfl rfl ?_
  refine x_getr (j := 0) 42 x_c4 rfl (Nat.le_of_ble_eq_true rfl) q668 rfl d_X4_getsTo_6 ?_
  refine x_iconst (x := 1) d_X4_getsTo_9 (by decide) ?_
  refine x_ialdN (z := (hoursF a h) 1) 58 1 rfl rfl (by omega) (by decide) (hR2 1 (by omega)) d_X4_getsTo_10 ?_
  refine x_istore_n [(2, .int ((hoursF a h) 1)), (0, .ref (E.1 + 41)), (1, .int (nI h))] d_X4_getsTo_11 rfl (Nat.le_of_ble_eq_true rfl) rfl ?_
  refine x_aload_n 1 d_X4_getsTo_12 rfl rfl ?_
  refine x_cvv (k := 41) (as := []) (c_X4_putsBack l E μ1 hW4) v_X4_putsBack w_X4_putsBack q870 o_M rfl ⟨Nat.le_of_ble_eq_true rfl, Nat.le_of_ble_eq_true rfl⟩ rfl (Nat.le_of_ble_eq_true rfl) d_X4_getsTo_13 ?_
  rintro μ6 ⟨hR7, hF8⟩
  have hW9 := MW.cg hW4 (μ' := μ6) (fun id hid => (hF8 _ (by omega)))
  have hF10 : ∀ id, (id ≠ 42 ∧ id ≠ 46) → μ6 id = μ id := fun id hid => (show μ6 id = μ1 id from (hF8 _ (by omega))).trans (hF5 id hid)
  refine x_iload_n 0 d_X4_getsTo_16 rfl rfl ?_
  refine x_iret rfl d_X4_getsTo_17 ?_
  exact ⟨rfl, hR7, hW9, hF10⟩
def m_X4_need : x_M := (yX4_need, prog_6_method_21_code, 3, (some FieldType.int), 2, 42)
theorem v_X4_need : x_VM m_X4_need 2 := ⟨q723, q6, by decide +kernel, by decide +kernel, by decide +kernel⟩
theorem w_X4_need : x_VI m_X4_need := ⟨q721, q722⟩
theorem d_X4_need_0 : x_dec m_X4_need 0 (.iload_n 1) 1 1 := ⟨by decide +kernel, rfl⟩
theorem d_X4_need_1 : x_dec m_X4_need 1 (.invokestatic 78) 3 4 := ⟨by decide +kernel, rfl⟩
theorem d_X4_need_4 : x_dec m_X4_need 4 (.ifCond .eq 26) 3 7 := ⟨by decide +kernel, rfl⟩
theorem d_X4_need_7 : x_dec m_X4_need 7 (.iload_n 2) 1 8 := ⟨by decide +kernel, rfl⟩
theorem d_X4_need_8 : x_dec m_X4_need 8 (.iconst 0) 1 9 := ⟨by decide +kernel, rfl⟩
theorem d_X4_need_9 : x_dec m_X4_need 9 (.sipush 999) 3 12 := ⟨by decide +kernel, rfl⟩
theorem d_X4_need_12 : x_dec m_X4_need 12 (.invokestatic 46) 3 15 := ⟨by decide +kernel, rfl⟩
theorem d_X4_need_15 : x_dec m_X4_need 15 (.ifCond .eq 15) 3 18 := ⟨by decide +kernel, rfl⟩
theorem d_X4_need_18 : x_dec m_X4_need 18 (.aload_n 0) 1 19 := ⟨by decide +kernel, rfl⟩
theorem d_X4_need_19 : x_dec m_X4_need 19 (.bipush 8) 2 21 := ⟨by decide +kernel, rfl⟩
theorem d_X4_need_21 : x_dec m_X4_need 21 (.iload_n 1) 1 22 := ⟨by decide +kernel, rfl⟩
theorem d_X4_need_22 : x_dec m_X4_need 22 (.iadd) 1 23 := ⟨by decide +kernel, rfl⟩
theorem d_X4_need_23 : x_dec m_X4_need 23 (.iload_n 2) 1 24 := ⟨by decide +kernel, rfl⟩
theorem d_X4_need_24 : x_dec m_X4_need 24 (.invokevirtual 81) 3 27 := ⟨by decide +kernel, rfl⟩
theorem d_X4_need_27 : x_dec m_X4_need 27 (.goto 9) 3 30 := ⟨by decide +kernel, rfl⟩
theorem d_X4_need_30 : x_dec m_X4_need 30 (.aload_n 0) 1 31 := ⟨by decide +kernel, rfl⟩
theorem d_X4_need_31 : x_dec m_X4_need 31 (.ldc 40) 2 33 := ⟨by decide +kernel, rfl⟩
theorem d_X4_need_33 : x_dec m_X4_need 33 (.invokevirtual 42) 3 36 := ⟨by decide +kernel, rfl⟩
theorem d_X4_need_36 : x_dec m_X4_need 36 (.ireturn) 1 37 := ⟨by decide +kernel, rfl⟩
set_option maxHeartbeats 4000000 in
set_option maxRecDepth 100000 in
theorem c_X4_need (l : Launch) (E : x_E) (μ : x_Mem) (g : x_SG) (hS : MS g μ) (hI : Inv g) (k v : Int32) : x_Met l m_X4_need E [.ref (E.1 + 41), .int k, .int v] μ (x_I (fun z m => z = (F_need g k v).1 ∧ MS (F_need g k v).2 m ∧ ∀ id, id < 41 → m id = μ id)) := by
  obtain ⟨hR, hX, hD⟩ := hS
  have hWF := hI.1.1
  have hn7 := hWF.2.1
  have hpn := hWF.1
  have hF : ∀ id, id < 41 → μ id = μ id := fun _ _ => rfl
  refine x_enter (lv := [(0, .ref (E.1 + 41)), (1, .int k), (2, .int v)]) (by decide +kernel) (Nat.le_of_ble_eq_true rfl) rfl ?_
  refine x_iload_n 1 d_X4_need_0 rfl rfl ?_
  refine x_csip (as := [.int k]) (c_X4_isStretch l E μ k) v_X4_isStretch q725 q724 rfl ⟨Nat.le_of_ble_eq_true rfl, Nat.le_of_ble_eq_true rfl⟩ rfl (Nat.le_of_ble_eq_true rfl) d_X4_need_1 ?_
  refine x_ifb_eq 30 d_X4_need_4 (by decide) (fun c1 => ?_) (fun c1 => ?_)
  · skip
    refine x_aload_n 0 d_X4_need_30 rfl rfl ?_
    refine x_ldc q734 d_X4_need_31 ?_
    refine x_cvi (k := 41) (as := [.int (-1000001)]) (c_X4_finds l E μ (i := 0) hD (by decide) (w := (-1000001)) (by decide)) v_X4_finds w_X4_finds q735 o_M rfl ⟨Nat.le_of_ble_eq_true rfl, Nat.le_of_ble_eq_true rfl⟩ rfl (Nat.le_of_ble_eq_true rfl) d_X4_need_33 ?_
    rintro _ μ2 ⟨rfl, hD3, hF4⟩
    have hR5 := MR.cg hR (μ' := μ2) (fun id hid => (hF4 _ (by omega)))
    have hX6 := MX.cg hX (μ' := μ2) (fun id hid => (hF4 _ (by omega)))
    have hF7 : ∀ id, id < 41 → μ2 id = μ id := fun id hid => (show μ2 id = μ id from (hF4 _ (by omega))).trans (hF id hid)
    refine x_iret rfl d_X4_need_36 ?_
    have e9 : F_need g k v = fin g 0 := by simp [F_need, x_b_f, x_b_t, c1]
    rw [e9]
    exact ⟨rfl, MS.fin hR5 hX6 hD3, hF7⟩
  · skip
    obtain ⟨n, hn, rfl⟩ := inR_nat (n := 15) (by decide) c1
    refine x_iload_n 2 d_X4_need_7 rfl rfl ?_
    refine x_iconst (x := 0) d_X4_need_8 (by decide) ?_
    refine x_sipush (x := 999) d_X4_need_9 (by decide) ?_
    refine x_csip (as := [.int v, .int 0, .int 999]) (c_X4_in l E μ v 0 999) v_X4_in q728 q727 rfl ⟨Nat.le_of_ble_eq_true rfl, Nat.le_of_ble_eq_true rfl⟩ rfl (Nat.le_of_ble_eq_true rfl) d_X4_need_12 ?_
    refine x_ifb_eq 30 d_X4_need_15 (by decide) (fun c8 => ?_) (fun c8 => ?_)
    · skip
      refine x_aload_n 0 d_X4_need_30 rfl rfl ?_
      refine x_ldc q734 d_X4_need_31 ?_
      refine x_cvi (k := 41) (as := [.int (-1000001)]) (c_X4_finds l E μ (i := 0) hD (by decide) (w := (-1000001)) (by decide)) v_X4_finds w_X4_finds q735 o_M rfl ⟨Nat.le_of_ble_eq_true rfl, Nat.le_of_ble_eq_true rfl⟩ rfl (Nat.le_of_ble_eq_true rfl) d_X4_need_33 ?_
      rintro _ μ9 ⟨rfl, hD10, hF11⟩
      have hR12 := MR.cg hR (μ' := μ9) (fun id hid => (hF11 _ (by omega)))
      have hX13 := MX.cg hX (μ' := μ9) (fun id hid => (hF11 _ (by omega)))
      have hF14 : ∀ id, id < 41 → μ9 id = μ id := fun id hid => (show μ9 id = μ id from (hF11 _ (by omega))).trans (hF id hid)
      refine x_iret rfl d_X4_need_36 ?_
      have e9 : F_need g (nI n) v = fin g 0 := by simp [F_need, x_b_f, x_b_t, c1, c8, nI_clamp (n := n) (by omega)]
      rw [e9]
      exact ⟨rfl, MS.fin hR12 hX13 hD10, hF14⟩
    · skip
      refine x_aload_n 0 d_X4_need_18 rfl rfl ?_
      refine x_bipush (x := 8) d_X4_need_19 (by decide) ?_
      refine x_iload_n 1 d_X4_need_21 rfl rfl ?_
      refine x_iadd d_X4_need_22 ?_
      rw [show (8 : Int32) + (nI n) = nI (8 + n) from nI_add 8 n]
      refine x_iload_n 2 d_X4_need_23 rfl rfl ?_
      refine x_cvi (k := 41) (as := [.int (nI (8 + n)), .int v]) (c_X4_becomes l E μ hR (j := (8 + n)) (by omega) v) v_X4_becomes w_X4_becomes q730 o_M rfl ⟨Nat.le_of_ble_eq_true rfl, Nat.le_of_ble_eq_true rfl⟩ rfl (Nat.le_of_ble_eq_true rfl) d_X4_need_24 ?_
      rintro _ μ15 ⟨rfl, eμ15⟩
      have hR16 : MR (upd (gA g) ((8 + n)) v) μ15 := MR.w hR eμ15
      have hX17 := MX.cg hX (μ' := μ15) (fun id hid => (by rw [eμ15, upd2_ne _ _ _ (by omega)]))
      have hD18 := MD.cg hD (μ' := μ15) (fun id hid => (by rw [eμ15, upd2_ne _ _ _ (by omega)]))
      have hF19 : ∀ id, id < 41 → μ15 id = μ id := fun id hid => (show μ15 id = μ id from (by rw [eμ15, upd2_ne _ _ _ (by omega)])).trans (hF id hid)
      refine x_goto 36 d_X4_need_27 (by decide) ?_
      refine x_iret rfl d_X4_need_36 ?_
      have e9 : F_need g (nI n) v = ((gA g) ((8 + n)), sA g (upd (gA g) ((8 + n)) v)) := by simp [F_need, x_b_f, x_b_t, c1, c8, nI_clamp (n := n) (by omega)]
      rw [e9]
      exact ⟨rfl, MS.line hR16 hX17 hD18, hF19⟩
def m_X4_board : x_M := (yX4_board, prog_6_method_29_code, 2, (some FieldType.int), 2, 43)
theorem v_X4_board : x_VM m_X4_board 1 := ⟨q809, q6, by decide +kernel, by decide +kernel, by decide +kernel⟩
theorem w_X4_board : x_VI m_X4_board := ⟨q807, q808⟩
theorem d_X4_board_0 : x_dec m_X4_board 0 (.aload_n 0) 1 1 := ⟨by decide +kernel, rfl⟩
theorem d_X4_board_1 : x_dec m_X4_board 1 (.iload_n 1) 1 2 := ⟨by decide +kernel, rfl⟩
theorem d_X4_board_2 : x_dec m_X4_board 2 (.invokevirtual 92) 3 5 := ⟨by decide +kernel, rfl⟩
theorem d_X4_board_5 : x_dec m_X4_board 5 (.ifCond .ne 10) 3 8 := ⟨by decide +kernel, rfl⟩
theorem d_X4_board_8 : x_dec m_X4_board 8 (.aload_n 0) 1 9 := ⟨by decide +kernel, rfl⟩
theorem d_X4_board_9 : x_dec m_X4_board 9 (.ldc 40) 2 11 := ⟨by decide +kernel, rfl⟩
theorem d_X4_board_11 : x_dec m_X4_board 11 (.invokevirtual 42) 3 14 := ⟨by decide +kernel, rfl⟩
theorem d_X4_board_14 : x_dec m_X4_board 14 (.ireturn) 1 15 := ⟨by decide +kernel, rfl⟩
theorem d_X4_board_15 : x_dec m_X4_board 15 (.aload_n 0) 1 16 := ⟨by decide +kernel, rfl⟩
theorem d_X4_board_16 : x_dec m_X4_board 16 (.iload_n 1) 1 17 := ⟨by decide +kernel, rfl⟩
theorem d_X4_board_17 : x_dec m_X4_board 17 (.iconst 1) 1 18 := ⟨by decide +kernel, rfl⟩
theorem d_X4_board_18 : x_dec m_X4_board 18 (.invokevirtual 50) 3 21 := ⟨by decide +kernel, rfl⟩
theorem d_X4_board_21 : x_dec m_X4_board 21 (.aload_n 0) 1 22 := ⟨by decide +kernel, rfl⟩
theorem d_X4_board_22 : x_dec m_X4_board 22 (.getfield 9) 3 25 := ⟨by decide +kernel, rfl⟩
theorem d_X4_board_25 : x_dec m_X4_board 25 (.iconst 1) 1 26 := ⟨by decide +kernel, rfl⟩
theorem d_X4_board_26 : x_dec m_X4_board 26 (.iaload) 1 27 := ⟨by decide +kernel, rfl⟩
theorem d_X4_board_27 : x_dec m_X4_board 27 (.if_icmp .eq 10) 3 30 := ⟨by decide +kernel, rfl⟩
theorem d_X4_board_30 : x_dec m_X4_board 30 (.aload_n 0) 1 31 := ⟨by decide +kernel, rfl⟩
theorem d_X4_board_31 : x_dec m_X4_board 31 (.ldc 99) 2 33 := ⟨by decide +kernel, rfl⟩
theorem d_X4_board_33 : x_dec m_X4_board 33 (.invokevirtual 42) 3 36 := ⟨by decide +kernel, rfl⟩
theorem d_X4_board_36 : x_dec m_X4_board 36 (.ireturn) 1 37 := ⟨by decide +kernel, rfl⟩
theorem d_X4_board_37 : x_dec m_X4_board 37 (.aload_n 0) 1 38 := ⟨by decide +kernel, rfl⟩
theorem d_X4_board_38 : x_dec m_X4_board 38 (.iload_n 1) 1 39 := ⟨by decide +kernel, rfl⟩
theorem d_X4_board_39 : x_dec m_X4_board 39 (.iconst 1) 1 40 := ⟨by decide +kernel, rfl⟩
theorem d_X4_board_40 : x_dec m_X4_board 40 (.iconst (-1)) 1 41 := ⟨by decide +kernel, rfl⟩
theorem d_X4_board_41 : x_dec m_X4_board 41 (.invokevirtual 84) 3 44 := ⟨by decide +kernel, rfl⟩
theorem d_X4_board_44 : x_dec m_X4_board 44 (.iconst 1) 1 45 := ⟨by decide +kernel, rfl⟩
theorem d_X4_board_45 : x_dec m_X4_board 45 (.ireturn) 1 46 := ⟨by decide +kernel, rfl⟩
set_option maxHeartbeats 4000000 in
set_option maxRecDepth 100000 in
theorem c_X4_board (l : Launch) (E : x_E) (μ : x_Mem) (g : x_SG) (hS : MS g μ) (hI : Inv g) (p : Int32) : x_Met l m_X4_board E [.ref (E.1 + 41), .int p] μ (x_I (fun z m => z = (F_board g p).1 ∧ MS (F_board g p).2 m ∧ ∀ id, id < 41 → m id = μ id)) := by
  obtain ⟨hR, hX, hD⟩ := hS
  have hWF := hI.1.1
  have hn7 := hWF.2.1
  have hpn := hWF.1
  have hF : ∀ id, id < 41 → μ id = μ id := fun _ _ => rfl
  refine x_enter (lv := [(0, .ref (E.1 + 41)), (1, .int p)]) (by decide +kernel) (Nat.le_of_ble_eq_true rfl) rfl ?_
  refine x_aload_n 0 d_X4_board_0 rfl rfl ?_
  refine x_iload_n 1 d_X4_board_1 rfl rfl ?_
  refine x_cvip (k := 41) (as := [.int p]) (c_X4_isOne l E μ hR hWF p) v_X4_isOne w_X4_isOne q791 o_M rfl ⟨Nat.le_of_ble_eq_true rfl, Nat.le_of_ble_eq_true rfl⟩ rfl (Nat.le_of_ble_eq_true rfl) d_X4_board_2 ?_
  refine x_ifb_ne 15 d_X4_board_5 (by decide) (fun c1 => ?_) (fun c1 => ?_)
  · skip
    obtain ⟨q, hq, rfl⟩ := isP_nat hWF c1
    refine x_aload_n 0 d_X4_board_15 rfl rfl ?_
    refine x_iload_n 1 d_X4_board_16 rfl rfl ?_
    refine x_iconst (x := 1) d_X4_board_17 (by decide) ?_
    refine x_cvip (k := 41) (as := [.int (nI q), .int 1]) (c_X4_told l E μ hR (p := q) (w := 1) (j := 24 + 3 * q + 1) rfl (by omega)) v_X4_told w_X4_told q755 o_M rfl ⟨Nat.le_of_ble_eq_true rfl, Nat.le_of_ble_eq_true rfl⟩ rfl (Nat.le_of_ble_eq_true rfl) d_X4_board_18 ?_
    refine x_aload_n 0 d_X4_board_21 rfl rfl ?_
    refine x_getr (j := 0) 42 x_c4 rfl (Nat.le_of_ble_eq_true rfl) q668 rfl d_X4_board_22 ?_
    refine x_iconst (x := 1) d_X4_board_25 (by decide) ?_
    refine x_ialdN (z := (gA g) 1) 58 1 rfl rfl (by omega) (by decide) (hR 1 (by omega)) d_X4_board_26 ?_
    refine x_icmp_eq 37 d_X4_board_27 (by decide) (fun c2 => ?_) (fun c2 => ?_)
    · skip
      refine x_aload_n 0 d_X4_board_37 rfl rfl ?_
      refine x_iload_n 1 d_X4_board_38 rfl rfl ?_
      refine x_iconst (x := 1) d_X4_board_39 (by decide) ?_
      refine x_iconst (x := (-1)) d_X4_board_40 (by decide) ?_
      refine x_cvv (k := 41) (as := [.int (nI q), .int 1, .int (-1)]) (c_X4_put l E μ (p := q) (w := 1) (j := 24 + 3 * q + 1) rfl (by omega) (-1)) v_X4_put w_X4_put q783 o_M rfl ⟨Nat.le_of_ble_eq_true rfl, Nat.le_of_ble_eq_true rfl⟩ rfl (Nat.le_of_ble_eq_true rfl) d_X4_board_41 ?_
      intro μ3 eμ3
      have hR4 : MR (upd (gA g) (24 + 3 * q + 1) (-1)) μ3 := MR.w hR eμ3
      have hX5 := MX.cg hX (μ' := μ3) (fun id hid => (by rw [eμ3, upd2_ne _ _ _ (by omega)]))
      have hD6 := MD.cg hD (μ' := μ3) (fun id hid => (by rw [eμ3, upd2_ne _ _ _ (by omega)]))
      have hF7 : ∀ id, id < 41 → μ3 id = μ id := fun id hid => (show μ3 id = μ id from (by rw [eμ3, upd2_ne _ _ _ (by omega)])).trans (hF id hid)
      refine x_iconst (x := 1) d_X4_board_44 (by decide) ?_
      refine x_iret rfl d_X4_board_45 ?_
      have e9 : F_board g (nI q) = (1, sA g (upd (gA g) (24 + 3 * q + 1) (-1))) := by simp [F_board, x_b_f, x_b_t, c1, c2, nI_clamp (n := q) (by omega)]
      rw [e9]
      exact ⟨rfl, MS.line hR4 hX5 hD6, hF7⟩
    · skip
      refine x_aload_n 0 d_X4_board_30 rfl rfl ?_
      refine x_ldc q810 d_X4_board_31 ?_
      refine x_cvi (k := 41) (as := [.int (-1000005)]) (c_X4_finds l E μ (i := 4) hD (by decide) (w := (-1000005)) (by decide)) v_X4_finds w_X4_finds q735 o_M rfl ⟨Nat.le_of_ble_eq_true rfl, Nat.le_of_ble_eq_true rfl⟩ rfl (Nat.le_of_ble_eq_true rfl) d_X4_board_33 ?_
      rintro _ μ8 ⟨rfl, hD9, hF10⟩
      have hR11 := MR.cg hR (μ' := μ8) (fun id hid => (hF10 _ (by omega)))
      have hX12 := MX.cg hX (μ' := μ8) (fun id hid => (hF10 _ (by omega)))
      have hF13 : ∀ id, id < 41 → μ8 id = μ id := fun id hid => (show μ8 id = μ id from (hF10 _ (by omega))).trans (hF id hid)
      refine x_iret rfl d_X4_board_36 ?_
      have e9 : F_board g (nI q) = fin g 4 := by simp [F_board, x_b_f, x_b_t, c1, c2, nI_clamp (n := q) (by omega)]
      rw [e9]
      exact ⟨rfl, MS.fin hR11 hX12 hD9, hF13⟩
  · skip
    refine x_aload_n 0 d_X4_board_8 rfl rfl ?_
    refine x_ldc q734 d_X4_board_9 ?_
    refine x_cvi (k := 41) (as := [.int (-1000001)]) (c_X4_finds l E μ (i := 0) hD (by decide) (w := (-1000001)) (by decide)) v_X4_finds w_X4_finds q735 o_M rfl ⟨Nat.le_of_ble_eq_true rfl, Nat.le_of_ble_eq_true rfl⟩ rfl (Nat.le_of_ble_eq_true rfl) d_X4_board_11 ?_
    rintro _ μ14 ⟨rfl, hD15, hF16⟩
    have hR17 := MR.cg hR (μ' := μ14) (fun id hid => (hF16 _ (by omega)))
    have hX18 := MX.cg hX (μ' := μ14) (fun id hid => (hF16 _ (by omega)))
    have hF19 : ∀ id, id < 41 → μ14 id = μ id := fun id hid => (show μ14 id = μ id from (hF16 _ (by omega))).trans (hF id hid)
    refine x_iret rfl d_X4_board_14 ?_
    have e9 : F_board g p = fin g 0 := by simp [F_board, x_b_f, x_b_t, c1]
    rw [e9]
    exact ⟨rfl, MS.fin hR17 hX18 hD15, hF19⟩
def m_X4_leave : x_M := (yX4_leave, prog_6_method_30_code, 2, (some FieldType.int), 2, 43)
theorem v_X4_leave : x_VM m_X4_leave 1 := ⟨q814, q6, by decide +kernel, by decide +kernel, by decide +kernel⟩
theorem w_X4_leave : x_VI m_X4_leave := ⟨q812, q813⟩
theorem d_X4_leave_0 : x_dec m_X4_leave 0 (.aload_n 0) 1 1 := ⟨by decide +kernel, rfl⟩
theorem d_X4_leave_1 : x_dec m_X4_leave 1 (.iload_n 1) 1 2 := ⟨by decide +kernel, rfl⟩
theorem d_X4_leave_2 : x_dec m_X4_leave 2 (.invokevirtual 92) 3 5 := ⟨by decide +kernel, rfl⟩
theorem d_X4_leave_5 : x_dec m_X4_leave 5 (.ifCond .ne 10) 3 8 := ⟨by decide +kernel, rfl⟩
theorem d_X4_leave_8 : x_dec m_X4_leave 8 (.aload_n 0) 1 9 := ⟨by decide +kernel, rfl⟩
theorem d_X4_leave_9 : x_dec m_X4_leave 9 (.ldc 40) 2 11 := ⟨by decide +kernel, rfl⟩
theorem d_X4_leave_11 : x_dec m_X4_leave 11 (.invokevirtual 42) 3 14 := ⟨by decide +kernel, rfl⟩
theorem d_X4_leave_14 : x_dec m_X4_leave 14 (.ireturn) 1 15 := ⟨by decide +kernel, rfl⟩
theorem d_X4_leave_15 : x_dec m_X4_leave 15 (.aload_n 0) 1 16 := ⟨by decide +kernel, rfl⟩
theorem d_X4_leave_16 : x_dec m_X4_leave 16 (.iload_n 1) 1 17 := ⟨by decide +kernel, rfl⟩
theorem d_X4_leave_17 : x_dec m_X4_leave 17 (.iconst 1) 1 18 := ⟨by decide +kernel, rfl⟩
theorem d_X4_leave_18 : x_dec m_X4_leave 18 (.invokevirtual 50) 3 21 := ⟨by decide +kernel, rfl⟩
theorem d_X4_leave_21 : x_dec m_X4_leave 21 (.iconst (-1)) 1 22 := ⟨by decide +kernel, rfl⟩
theorem d_X4_leave_22 : x_dec m_X4_leave 22 (.if_icmp .eq 10) 3 25 := ⟨by decide +kernel, rfl⟩
theorem d_X4_leave_25 : x_dec m_X4_leave 25 (.aload_n 0) 1 26 := ⟨by decide +kernel, rfl⟩
theorem d_X4_leave_26 : x_dec m_X4_leave 26 (.ldc 99) 2 28 := ⟨by decide +kernel, rfl⟩
theorem d_X4_leave_28 : x_dec m_X4_leave 28 (.invokevirtual 42) 3 31 := ⟨by decide +kernel, rfl⟩
theorem d_X4_leave_31 : x_dec m_X4_leave 31 (.ireturn) 1 32 := ⟨by decide +kernel, rfl⟩
theorem d_X4_leave_32 : x_dec m_X4_leave 32 (.aload_n 0) 1 33 := ⟨by decide +kernel, rfl⟩
theorem d_X4_leave_33 : x_dec m_X4_leave 33 (.iload_n 1) 1 34 := ⟨by decide +kernel, rfl⟩
theorem d_X4_leave_34 : x_dec m_X4_leave 34 (.iconst 1) 1 35 := ⟨by decide +kernel, rfl⟩
theorem d_X4_leave_35 : x_dec m_X4_leave 35 (.aload_n 0) 1 36 := ⟨by decide +kernel, rfl⟩
theorem d_X4_leave_36 : x_dec m_X4_leave 36 (.getfield 9) 3 39 := ⟨by decide +kernel, rfl⟩
theorem d_X4_leave_39 : x_dec m_X4_leave 39 (.iconst 1) 1 40 := ⟨by decide +kernel, rfl⟩
theorem d_X4_leave_40 : x_dec m_X4_leave 40 (.iaload) 1 41 := ⟨by decide +kernel, rfl⟩
theorem d_X4_leave_41 : x_dec m_X4_leave 41 (.invokevirtual 84) 3 44 := ⟨by decide +kernel, rfl⟩
theorem d_X4_leave_44 : x_dec m_X4_leave 44 (.aload_n 0) 1 45 := ⟨by decide +kernel, rfl⟩
theorem d_X4_leave_45 : x_dec m_X4_leave 45 (.getfield 9) 3 48 := ⟨by decide +kernel, rfl⟩
theorem d_X4_leave_48 : x_dec m_X4_leave 48 (.iconst 1) 1 49 := ⟨by decide +kernel, rfl⟩
theorem d_X4_leave_49 : x_dec m_X4_leave 49 (.iaload) 1 50 := ⟨by decide +kernel, rfl⟩
theorem d_X4_leave_50 : x_dec m_X4_leave 50 (.ireturn) 1 51 := ⟨by decide +kernel, rfl⟩
set_option maxHeartbeats 4000000 in
set_option maxRecDepth 100000 in
theorem c_X4_leave (l : Launch) (E : x_E) (μ : x_Mem) (g : x_SG) (hS : MS g μ) (hI : Inv g) (p : Int32) : x_Met l m_X4_leave E [.ref (E.1 + 41), .int p] μ (x_I (fun z m => z = (F_leave g p).1 ∧ MS (F_leave g p).2 m ∧ ∀ id, id < 41 → m id = μ id)) := by
  obtain ⟨hR, hX, hD⟩ := hS
  have hWF := hI.1.1
  have hn7 := hWF.2.1
  have hpn := hWF.1
  have hF : ∀ id, id < 41 → μ id = μ id := fun _ _ => rfl
  refine x_enter (lv := [(0, .ref (E.1 + 41)), (1, .int p)]) (by decide +kernel) (Nat.le_of_ble_eq_true rfl) rfl ?_
  refine x_aload_n 0 d_X4_leave_0 rfl rfl ?_
  refine x_iload_n 1 d_X4_leave_1 rfl rfl ?_
  refine x_cvip (k := 41) (as := [.int p]) (c_X4_isOne l E μ hR hWF p) v_X4_isOne w_X4_isOne q791 o_M rfl ⟨Nat.le_of_ble_eq_true rfl, Nat.le_of_ble_eq_true rfl⟩ rfl (Nat.le_of_ble_eq_true rfl) d_X4_leave_2 ?_
  refine x_ifb_ne 15 d_X4_leave_5 (by decide) (fun c1 => ?_) (fun c1 => ?_)
  · skip
    obtain ⟨q, hq, rfl⟩ := isP_nat hWF c1
    refine x_aload_n 0 d_X4_leave_15 rfl rfl ?_
    refine x_iload_n 1 d_X4_leave_16 rfl rfl ?_
    refine x_iconst (x := 1) d_X4_leave_17 (by decide) ?_
    refine x_cvip (k := 41) (as := [.int (nI q), .int 1]) (c_X4_told l E μ hR (p := q) (w := 1) (j := 24 + 3 * q + 1) rfl (by omega)) v_X4_told w_X4_told q755 o_M rfl ⟨Nat.le_of_ble_eq_true rfl, Nat.le_of_ble_eq_true rfl⟩ rfl (Nat.le_of_ble_eq_true rfl) d_X4_leave_18 ?_
    refine x_iconst (x := (-1)) d_X4_leave_21 (by decide) ?_
    refine x_icmp_eq 32 d_X4_leave_22 (by decide) (fun c2 => ?_) (fun c2 => ?_)
    · skip
      refine x_aload_n 0 d_X4_leave_32 rfl rfl ?_
      refine x_iload_n 1 d_X4_leave_33 rfl rfl ?_
      refine x_iconst (x := 1) d_X4_leave_34 (by decide) ?_
      refine x_aload_n 0 d_X4_leave_35 rfl rfl ?_
      refine x_getr (j := 0) 42 x_c4 rfl (Nat.le_of_ble_eq_true rfl) q668 rfl d_X4_leave_36 ?_
      refine x_iconst (x := 1) d_X4_leave_39 (by decide) ?_
      refine x_ialdN (z := (gA g) 1) 58 1 rfl rfl (by omega) (by decide) (hR 1 (by omega)) d_X4_leave_40 ?_
      refine x_cvv (k := 41) (as := [.int (nI q), .int 1, .int ((gA g) 1)]) (c_X4_put l E μ (p := q) (w := 1) (j := 24 + 3 * q + 1) rfl (by omega) ((gA g) 1)) v_X4_put w_X4_put q783 o_M rfl ⟨Nat.le_of_ble_eq_true rfl, Nat.le_of_ble_eq_true rfl⟩ rfl (Nat.le_of_ble_eq_true rfl) d_X4_leave_41 ?_
      intro μ3 eμ3
      have hR4 : MR (upd (gA g) (24 + 3 * q + 1) ((gA g) 1)) μ3 := MR.w hR eμ3
      have hX5 := MX.cg hX (μ' := μ3) (fun id hid => (by rw [eμ3, upd2_ne _ _ _ (by omega)]))
      have hD6 := MD.cg hD (μ' := μ3) (fun id hid => (by rw [eμ3, upd2_ne _ _ _ (by omega)]))
      have hF7 : ∀ id, id < 41 → μ3 id = μ id := fun id hid => (show μ3 id = μ id from (by rw [eμ3, upd2_ne _ _ _ (by omega)])).trans (hF id hid)
      refine x_aload_n 0 d_X4_leave_44 rfl rfl ?_
      refine x_getr (j := 0) 42 x_c4 rfl (Nat.le_of_ble_eq_true rfl) q668 rfl d_X4_leave_45 ?_
      refine x_iconst (x := 1) d_X4_leave_48 (by decide) ?_
      refine x_ialdN (z := (upd (gA g) (24 + 3 * q + 1) ((gA g) 1)) 1) 58 1 rfl rfl (by omega) (by decide) (hR4 1 (by omega)) d_X4_leave_49 ?_
      refine x_iret rfl d_X4_leave_50 ?_
      have e9 : F_leave g (nI q) = ((upd (gA g) (24 + 3 * q + 1) ((gA g) 1)) 1, sA g (upd (gA g) (24 + 3 * q + 1) ((gA g) 1))) := by simp [F_leave, x_b_f, x_b_t, c1, c2, nI_clamp (n := q) (by omega), show upd (gA g) (24 + 3 * q + 1) (gA g 1) 1 = gA g 1 from upd_n _ _ (by omega)]
      rw [e9]
      exact ⟨rfl, MS.line hR4 hX5 hD6, hF7⟩
    · skip
      refine x_aload_n 0 d_X4_leave_25 rfl rfl ?_
      refine x_ldc q810 d_X4_leave_26 ?_
      refine x_cvi (k := 41) (as := [.int (-1000005)]) (c_X4_finds l E μ (i := 4) hD (by decide) (w := (-1000005)) (by decide)) v_X4_finds w_X4_finds q735 o_M rfl ⟨Nat.le_of_ble_eq_true rfl, Nat.le_of_ble_eq_true rfl⟩ rfl (Nat.le_of_ble_eq_true rfl) d_X4_leave_28 ?_
      rintro _ μ8 ⟨rfl, hD9, hF10⟩
      have hR11 := MR.cg hR (μ' := μ8) (fun id hid => (hF10 _ (by omega)))
      have hX12 := MX.cg hX (μ' := μ8) (fun id hid => (hF10 _ (by omega)))
      have hF13 : ∀ id, id < 41 → μ8 id = μ id := fun id hid => (show μ8 id = μ id from (hF10 _ (by omega))).trans (hF id hid)
      refine x_iret rfl d_X4_leave_31 ?_
      have e9 : F_leave g (nI q) = fin g 4 := by simp [F_leave, x_b_f, x_b_t, c1, c2, nI_clamp (n := q) (by omega)]
      rw [e9]
      exact ⟨rfl, MS.fin hR11 hX12 hD9, hF13⟩
  · skip
    refine x_aload_n 0 d_X4_leave_8 rfl rfl ?_
    refine x_ldc q734 d_X4_leave_9 ?_
    refine x_cvi (k := 41) (as := [.int (-1000001)]) (c_X4_finds l E μ (i := 0) hD (by decide) (w := (-1000001)) (by decide)) v_X4_finds w_X4_finds q735 o_M rfl ⟨Nat.le_of_ble_eq_true rfl, Nat.le_of_ble_eq_true rfl⟩ rfl (Nat.le_of_ble_eq_true rfl) d_X4_leave_11 ?_
    rintro _ μ14 ⟨rfl, hD15, hF16⟩
    have hR17 := MR.cg hR (μ' := μ14) (fun id hid => (hF16 _ (by omega)))
    have hX18 := MX.cg hX (μ' := μ14) (fun id hid => (hF16 _ (by omega)))
    have hF19 : ∀ id, id < 41 → μ14 id = μ id := fun id hid => (show μ14 id = μ id from (hF16 _ (by omega))).trans (hF id hid)
    refine x_iret rfl d_X4_leave_14 ?_
    have e9 : F_leave g p = fin g 0 := by simp [F_leave, x_b_f, x_b_t, c1]
    rw [e9]
    exact ⟨rfl, MS.fin hR17 hX18 hD15, hF19⟩
def m_X4_now : x_M := (yX4_now, prog_6_method_39_code, 2, (some FieldType.int), 7, 158)
theorem v_X4_now : x_VM m_X4_now 1 := ⟨q842, q6, by decide +kernel, by decide +kernel, by decide +kernel⟩
theorem w_X4_now : x_VI m_X4_now := ⟨q840, q841⟩
theorem d_X4_now_0 : x_dec m_X4_now 0 (.iload_n 1) 1 1 := ⟨by decide +kernel, rfl⟩
theorem d_X4_now_1 : x_dec m_X4_now 1 (.tableswitch 86 0 6 #[43, 50, 57, 62, 67, 74, 81]) 43 44 := ⟨by decide +kernel, rfl⟩
theorem d_X4_now_44 : x_dec m_X4_now 44 (.aload_n 0) 1 45 := ⟨by decide +kernel, rfl⟩
theorem d_X4_now_45 : x_dec m_X4_now 45 (.getfield 9) 3 48 := ⟨by decide +kernel, rfl⟩
theorem d_X4_now_48 : x_dec m_X4_now 48 (.iconst 0) 1 49 := ⟨by decide +kernel, rfl⟩
theorem d_X4_now_49 : x_dec m_X4_now 49 (.iaload) 1 50 := ⟨by decide +kernel, rfl⟩
theorem d_X4_now_50 : x_dec m_X4_now 50 (.ireturn) 1 51 := ⟨by decide +kernel, rfl⟩
theorem d_X4_now_51 : x_dec m_X4_now 51 (.aload_n 0) 1 52 := ⟨by decide +kernel, rfl⟩
theorem d_X4_now_52 : x_dec m_X4_now 52 (.getfield 9) 3 55 := ⟨by decide +kernel, rfl⟩
theorem d_X4_now_55 : x_dec m_X4_now 55 (.iconst 1) 1 56 := ⟨by decide +kernel, rfl⟩
theorem d_X4_now_56 : x_dec m_X4_now 56 (.iaload) 1 57 := ⟨by decide +kernel, rfl⟩
theorem d_X4_now_57 : x_dec m_X4_now 57 (.ireturn) 1 58 := ⟨by decide +kernel, rfl⟩
theorem d_X4_now_58 : x_dec m_X4_now 58 (.aload_n 0) 1 59 := ⟨by decide +kernel, rfl⟩
theorem d_X4_now_59 : x_dec m_X4_now 59 (.invokevirtual 117) 3 62 := ⟨by decide +kernel, rfl⟩
theorem d_X4_now_62 : x_dec m_X4_now 62 (.ireturn) 1 63 := ⟨by decide +kernel, rfl⟩
theorem d_X4_now_63 : x_dec m_X4_now 63 (.aload_n 0) 1 64 := ⟨by decide +kernel, rfl⟩
theorem d_X4_now_64 : x_dec m_X4_now 64 (.invokevirtual 121) 3 67 := ⟨by decide +kernel, rfl⟩
theorem d_X4_now_67 : x_dec m_X4_now 67 (.ireturn) 1 68 := ⟨by decide +kernel, rfl⟩
theorem d_X4_now_68 : x_dec m_X4_now 68 (.aload_n 0) 1 69 := ⟨by decide +kernel, rfl⟩
theorem d_X4_now_69 : x_dec m_X4_now 69 (.getfield 9) 3 72 := ⟨by decide +kernel, rfl⟩
theorem d_X4_now_72 : x_dec m_X4_now 72 (.iconst 5) 1 73 := ⟨by decide +kernel, rfl⟩
theorem d_X4_now_73 : x_dec m_X4_now 73 (.iaload) 1 74 := ⟨by decide +kernel, rfl⟩
theorem d_X4_now_74 : x_dec m_X4_now 74 (.ireturn) 1 75 := ⟨by decide +kernel, rfl⟩
theorem d_X4_now_75 : x_dec m_X4_now 75 (.aload_n 0) 1 76 := ⟨by decide +kernel, rfl⟩
theorem d_X4_now_76 : x_dec m_X4_now 76 (.getfield 9) 3 79 := ⟨by decide +kernel, rfl⟩
theorem d_X4_now_79 : x_dec m_X4_now 79 (.iconst 2) 1 80 := ⟨by decide +kernel, rfl⟩
theorem d_X4_now_80 : x_dec m_X4_now 80 (.iaload) 1 81 := ⟨by decide +kernel, rfl⟩
theorem d_X4_now_81 : x_dec m_X4_now 81 (.ireturn) 1 82 := ⟨by decide +kernel, rfl⟩
theorem d_X4_now_82 : x_dec m_X4_now 82 (.aload_n 0) 1 83 := ⟨by decide +kernel, rfl⟩
theorem d_X4_now_83 : x_dec m_X4_now 83 (.invokevirtual 124) 3 86 := ⟨by decide +kernel, rfl⟩
theorem d_X4_now_86 : x_dec m_X4_now 86 (.ireturn) 1 87 := ⟨by decide +kernel, rfl⟩
theorem d_X4_now_87 : x_dec m_X4_now 87 (.aload_n 0) 1 88 := ⟨by decide +kernel, rfl⟩
theorem d_X4_now_88 : x_dec m_X4_now 88 (.ldc 40) 2 90 := ⟨by decide +kernel, rfl⟩
theorem d_X4_now_90 : x_dec m_X4_now 90 (.invokevirtual 42) 3 93 := ⟨by decide +kernel, rfl⟩
theorem d_X4_now_93 : x_dec m_X4_now 93 (.ireturn) 1 94 := ⟨by decide +kernel, rfl⟩
set_option maxHeartbeats 4000000 in
set_option maxRecDepth 100000 in
theorem c_X4_now (l : Launch) (E : x_E) (μ : x_Mem) (g : x_SG) (hS : MS g μ) (hI : Inv g) (w : Int32) : x_Met l m_X4_now E [.ref (E.1 + 41), .int w] μ (x_I (fun z m => z = (F_now g w).1 ∧ MS (F_now g w).2 m ∧ ∀ id, id < 41 → m id = μ id)) := by
  obtain ⟨hR, hX, hD⟩ := hS
  have hWF := hI.1.1
  have hn7 := hWF.2.1
  have hpn := hWF.1
  have hF : ∀ id, id < 41 → μ id = μ id := fun _ _ => rfl
  refine x_enter (lv := [(0, .ref (E.1 + 41)), (1, .int w)]) (by decide +kernel) (Nat.le_of_ble_eq_true rfl) rfl ?_
  refine x_iload_n 1 d_X4_now_0 rfl rfl ?_
  by_cases k1 : w = 0
  · have k1T : (w).toInt = 0 := by rw [k1]; decide
    refine x_tswIn 44 (off := 43) d_X4_now_1 (by rw [k1T]; decide) (by rw [k1T]; decide) (by rw [k1T]; decide) (by decide) ?_
    refine x_aload_n 0 d_X4_now_44 rfl rfl ?_
    refine x_getr (j := 0) 42 x_c4 rfl (Nat.le_of_ble_eq_true rfl) q668 rfl d_X4_now_45 ?_
    refine x_iconst (x := 0) d_X4_now_48 (by decide) ?_
    refine x_ialdN (z := (gA g) 0) 58 0 rfl rfl (by omega) (by decide) (hR 0 (by omega)) d_X4_now_49 ?_
    refine x_iret rfl d_X4_now_50 ?_
    have e9 : F_now g w = ((gA g) 0, g) := by simp [F_now, x_b_f, x_b_t, k1]
    rw [e9]
    exact ⟨rfl, ⟨hR, hX, hD⟩, hF⟩
  by_cases k2 : w = 1
  · have k2T : (w).toInt = 1 := by rw [k2]; decide
    refine x_tswIn 51 (off := 50) d_X4_now_1 (by rw [k2T]; decide) (by rw [k2T]; decide) (by rw [k2T]; decide) (by decide) ?_
    refine x_aload_n 0 d_X4_now_51 rfl rfl ?_
    refine x_getr (j := 0) 42 x_c4 rfl (Nat.le_of_ble_eq_true rfl) q668 rfl d_X4_now_52 ?_
    refine x_iconst (x := 1) d_X4_now_55 (by decide) ?_
    refine x_ialdN (z := (gA g) 1) 58 1 rfl rfl (by omega) (by decide) (hR 1 (by omega)) d_X4_now_56 ?_
    refine x_iret rfl d_X4_now_57 ?_
    have e9 : F_now g w = ((gA g) 1, g) := by simp [F_now, x_b_f, x_b_t, k2]
    rw [e9]
    exact ⟨rfl, ⟨hR, hX, hD⟩, hF⟩
  by_cases k3 : w = 2
  · have k3T : (w).toInt = 2 := by rw [k3]; decide
    refine x_tswIn 58 (off := 57) d_X4_now_1 (by rw [k3T]; decide) (by rw [k3T]; decide) (by rw [k3T]; decide) (by decide) ?_
    refine x_aload_n 0 d_X4_now_58 rfl rfl ?_
    refine x_cvip (k := 41) (as := []) (c_X4_aboard l E μ hR hWF) v_X4_aboard w_X4_aboard q843 o_M rfl ⟨Nat.le_of_ble_eq_true rfl, Nat.le_of_ble_eq_true rfl⟩ rfl (Nat.le_of_ble_eq_true rfl) d_X4_now_59 ?_
    refine x_iret rfl d_X4_now_62 ?_
    have e9 : F_now g w = (aboardF (gA g), g) := by simp [F_now, x_b_f, x_b_t, k3]
    rw [e9]
    exact ⟨rfl, ⟨hR, hX, hD⟩, hF⟩
  by_cases k4 : w = 3
  · have k4T : (w).toInt = 3 := by rw [k4]; decide
    refine x_tswIn 63 (off := 62) d_X4_now_1 (by rw [k4T]; decide) (by rw [k4T]; decide) (by rw [k4T]; decide) (by decide) ?_
    refine x_aload_n 0 d_X4_now_63 rfl rfl ?_
    refine x_cvip (k := 41) (as := []) (c_X4_allThere l E μ hR hWF) v_X4_allThere w_X4_allThere q847 o_M rfl ⟨Nat.le_of_ble_eq_true rfl, Nat.le_of_ble_eq_true rfl⟩ rfl (Nat.le_of_ble_eq_true rfl) d_X4_now_64 ?_
    refine x_iret rfl d_X4_now_67 ?_
    have e9 : F_now g w = (thereF (gA g), g) := by simp [F_now, x_b_f, x_b_t, k4]
    rw [e9]
    exact ⟨rfl, ⟨hR, hX, hD⟩, hF⟩
  by_cases k5 : w = 4
  · have k5T : (w).toInt = 4 := by rw [k5]; decide
    refine x_tswIn 68 (off := 67) d_X4_now_1 (by rw [k5T]; decide) (by rw [k5T]; decide) (by rw [k5T]; decide) (by decide) ?_
    refine x_aload_n 0 d_X4_now_68 rfl rfl ?_
    refine x_getr (j := 0) 42 x_c4 rfl (Nat.le_of_ble_eq_true rfl) q668 rfl d_X4_now_69 ?_
    refine x_iconst (x := 5) d_X4_now_72 (by decide) ?_
    refine x_ialdN (z := (gA g) 5) 58 5 rfl rfl (by omega) (by decide) (hR 5 (by omega)) d_X4_now_73 ?_
    refine x_iret rfl d_X4_now_74 ?_
    have e9 : F_now g w = ((gA g) 5, g) := by simp [F_now, x_b_f, x_b_t, k5]
    rw [e9]
    exact ⟨rfl, ⟨hR, hX, hD⟩, hF⟩
  by_cases k6 : w = 5
  · have k6T : (w).toInt = 5 := by rw [k6]; decide
    refine x_tswIn 75 (off := 74) d_X4_now_1 (by rw [k6T]; decide) (by rw [k6T]; decide) (by rw [k6T]; decide) (by decide) ?_
    refine x_aload_n 0 d_X4_now_75 rfl rfl ?_
    refine x_getr (j := 0) 42 x_c4 rfl (Nat.le_of_ble_eq_true rfl) q668 rfl d_X4_now_76 ?_
    refine x_iconst (x := 2) d_X4_now_79 (by decide) ?_
    refine x_ialdN (z := (gA g) 2) 58 2 rfl rfl (by omega) (by decide) (hR 2 (by omega)) d_X4_now_80 ?_
    refine x_iret rfl d_X4_now_81 ?_
    have e9 : F_now g w = ((gA g) 2, g) := by simp [F_now, x_b_f, x_b_t, k6]
    rw [e9]
    exact ⟨rfl, ⟨hR, hX, hD⟩, hF⟩
  by_cases k7 : w = 6
  · have k7T : (w).toInt = 6 := by rw [k7]; decide
    refine x_tswIn 82 (off := 81) d_X4_now_1 (by rw [k7T]; decide) (by rw [k7T]; decide) (by rw [k7T]; decide) (by decide) ?_
    refine x_aload_n 0 d_X4_now_82 rfl rfl ?_
    refine x_cvip (k := 41) (as := []) (c_X4_allBelief l E μ hR hWF) v_X4_allBelief w_X4_allBelief q851 o_M rfl ⟨Nat.le_of_ble_eq_true rfl, Nat.le_of_ble_eq_true rfl⟩ rfl (Nat.le_of_ble_eq_true rfl) d_X4_now_83 ?_
    refine x_iret rfl d_X4_now_86 ?_
    have e9 : F_now g w = (beliefsF (gA g), g) := by simp [F_now, x_b_f, x_b_t, k7]
    rw [e9]
    exact ⟨rfl, ⟨hR, hX, hD⟩, hF⟩
  have k1T : ¬ (w).toInt = 0 := lv_neT k1 (by decide)
  have k2T : ¬ (w).toInt = 1 := lv_neT k2 (by decide)
  have k3T : ¬ (w).toInt = 2 := lv_neT k3 (by decide)
  have k4T : ¬ (w).toInt = 3 := lv_neT k4 (by decide)
  have k5T : ¬ (w).toInt = 4 := lv_neT k5 (by decide)
  have k6T : ¬ (w).toInt = 5 := lv_neT k6 (by decide)
  have k7T : ¬ (w).toInt = 6 := lv_neT k7 (by decide)
  refine x_tswOut 87 d_X4_now_1 (by omega) (by decide) ?_
  refine x_aload_n 0 d_X4_now_87 rfl rfl ?_
  refine x_ldc q734 d_X4_now_88 ?_
  refine x_cvi (k := 41) (as := [.int (-1000001)]) (c_X4_finds l E μ (i := 0) hD (by decide) (w := (-1000001)) (by decide)) v_X4_finds w_X4_finds q735 o_M rfl ⟨Nat.le_of_ble_eq_true rfl, Nat.le_of_ble_eq_true rfl⟩ rfl (Nat.le_of_ble_eq_true rfl) d_X4_now_90 ?_
  rintro _ μ8 ⟨rfl, hD9, hF10⟩
  have hR11 := MR.cg hR (μ' := μ8) (fun id hid => (hF10 _ (by omega)))
  have hX12 := MX.cg hX (μ' := μ8) (fun id hid => (hF10 _ (by omega)))
  have hF13 : ∀ id, id < 41 → μ8 id = μ id := fun id hid => (show μ8 id = μ id from (hF10 _ (by omega))).trans (hF id hid)
  refine x_iret rfl d_X4_now_93 ?_
  have e9 : F_now g w = fin g 0 := by simp [F_now, x_b_f, x_b_t, k1, k2, k3, k4, k5, k6, k7]
  rw [e9]
  exact ⟨rfl, MS.fin hR11 hX12 hD9, hF13⟩
def m_X4_ahead : x_M := (yX4_ahead, prog_6_method_43_code, 2, (some FieldType.int), 10, 223)
theorem v_X4_ahead : x_VM m_X4_ahead 1 := ⟨q858, q6, by decide +kernel, by decide +kernel, by decide +kernel⟩
theorem w_X4_ahead : x_VI m_X4_ahead := ⟨q856, q857⟩
theorem d_X4_ahead_0 : x_dec m_X4_ahead 0 (.iload_n 1) 1 1 := ⟨by decide +kernel, rfl⟩
theorem d_X4_ahead_1 : x_dec m_X4_ahead 1 (.iconst 0) 1 2 := ⟨by decide +kernel, rfl⟩
theorem d_X4_ahead_2 : x_dec m_X4_ahead 2 (.bipush 100) 2 4 := ⟨by decide +kernel, rfl⟩
theorem d_X4_ahead_4 : x_dec m_X4_ahead 4 (.invokestatic 46) 3 7 := ⟨by decide +kernel, rfl⟩
theorem d_X4_ahead_7 : x_dec m_X4_ahead 7 (.ifCond .ne 10) 3 10 := ⟨by decide +kernel, rfl⟩
theorem d_X4_ahead_10 : x_dec m_X4_ahead 10 (.aload_n 0) 1 11 := ⟨by decide +kernel, rfl⟩
theorem d_X4_ahead_11 : x_dec m_X4_ahead 11 (.ldc 40) 2 13 := ⟨by decide +kernel, rfl⟩
theorem d_X4_ahead_13 : x_dec m_X4_ahead 13 (.invokevirtual 42) 3 16 := ⟨by decide +kernel, rfl⟩
theorem d_X4_ahead_16 : x_dec m_X4_ahead 16 (.ireturn) 1 17 := ⟨by decide +kernel, rfl⟩
theorem d_X4_ahead_17 : x_dec m_X4_ahead 17 (.aload_n 0) 1 18 := ⟨by decide +kernel, rfl⟩
theorem d_X4_ahead_18 : x_dec m_X4_ahead 18 (.invokevirtual 134) 3 21 := ⟨by decide +kernel, rfl⟩
theorem d_X4_ahead_21 : x_dec m_X4_ahead 21 (.aload_n 0) 1 22 := ⟨by decide +kernel, rfl⟩
theorem d_X4_ahead_22 : x_dec m_X4_ahead 22 (.iload_n 1) 1 23 := ⟨by decide +kernel, rfl⟩
theorem d_X4_ahead_23 : x_dec m_X4_ahead 23 (.invokevirtual 137) 3 26 := ⟨by decide +kernel, rfl⟩
theorem d_X4_ahead_26 : x_dec m_X4_ahead 26 (.ireturn) 1 27 := ⟨by decide +kernel, rfl⟩
set_option maxHeartbeats 4000000 in
set_option maxRecDepth 100000 in
theorem c_X4_ahead (l : Launch) (E : x_E) (μ : x_Mem) (g : x_SG) (hS : MS g μ) (hI : Inv g) (n : Int32) : x_Met l m_X4_ahead E [.ref (E.1 + 41), .int n] μ (x_I (fun z m => z = (F_ahead g n).1 ∧ MS (F_ahead g n).2 m ∧ ∀ id, id < 41 → m id = μ id)) := by
  obtain ⟨hR, hX, hD⟩ := hS
  have hWF := hI.1.1
  have hn7 := hWF.2.1
  have hpn := hWF.1
  have hF : ∀ id, id < 41 → μ id = μ id := fun _ _ => rfl
  refine x_enter (lv := [(0, .ref (E.1 + 41)), (1, .int n)]) (by decide +kernel) (Nat.le_of_ble_eq_true rfl) rfl ?_
  refine x_iload_n 1 d_X4_ahead_0 rfl rfl ?_
  refine x_iconst (x := 0) d_X4_ahead_1 (by decide) ?_
  refine x_bipush (x := 100) d_X4_ahead_2 (by decide) ?_
  refine x_csip (as := [.int n, .int 0, .int 100]) (c_X4_in l E μ n 0 100) v_X4_in q728 q727 rfl ⟨Nat.le_of_ble_eq_true rfl, Nat.le_of_ble_eq_true rfl⟩ rfl (Nat.le_of_ble_eq_true rfl) d_X4_ahead_4 ?_
  refine x_ifb_ne 17 d_X4_ahead_7 (by decide) (fun c1 => ?_) (fun c1 => ?_)
  · skip
    obtain ⟨h, hh, rfl⟩ := inR_nat (n := 100) (by decide) c1
    refine x_aload_n 0 d_X4_ahead_17 rfl rfl ?_
    refine x_cvv (k := 41) (as := []) (c_X4_thinks l E μ hR) v_X4_thinks w_X4_thinks q859 o_M rfl ⟨Nat.le_of_ble_eq_true rfl, Nat.le_of_ble_eq_true rfl⟩ rfl (Nat.le_of_ble_eq_true rfl) d_X4_ahead_18 ?_
    rintro μ2 ⟨hW3, hF4⟩
    have hR5 := MR.cg hR (μ' := μ2) (fun id hid => (hF4 _ (by omega)))
    have hX6 := MX.cg hX (μ' := μ2) (fun id hid => (hF4 _ (by omega)))
    have hD7 := MD.cg hD (μ' := μ2) (fun id hid => (hF4 _ (by omega)))
    have hF8 : ∀ id, id < 41 → μ2 id = μ id := fun id hid => (show μ2 id = μ id from (hF4 _ (by omega))).trans (hF id hid)
    refine x_aload_n 0 d_X4_ahead_21 rfl rfl ?_
    refine x_iload_n 1 d_X4_ahead_22 rfl rfl ?_
    refine x_cvi (k := 41) (as := [.int (nI h)]) (c_X4_getsTo l E μ2 hR5 hWF hW3 (h := h) (by omega)) v_X4_getsTo w_X4_getsTo q866 o_M rfl ⟨Nat.le_of_ble_eq_true rfl, Nat.le_of_ble_eq_true rfl⟩ rfl (Nat.le_of_ble_eq_true rfl) d_X4_ahead_23 ?_
    rintro _ μ9 ⟨rfl, hR10, hW11, hF12⟩
    have hX13 := MX.cg hX6 (μ' := μ9) (fun id hid => (hF12 _ (by omega)))
    have hD14 := MD.cg hD7 (μ' := μ9) (fun id hid => (hF12 _ (by omega)))
    have hF15 : ∀ id, id < 41 → μ9 id = μ id := fun id hid => (show μ9 id = μ2 id from (hF12 _ (by omega))).trans (hF8 id hid)
    refine x_iret rfl d_X4_ahead_26 ?_
    have e9 : F_ahead g (nI h) = (hoursF (gA g) h 1, g) := by simp [F_ahead, x_b_f, x_b_t, c1, nI_clamp (n := h) (by omega)]
    rw [e9]
    exact ⟨rfl, ⟨hR10, hX13, hD14⟩, hF15⟩
  · skip
    refine x_aload_n 0 d_X4_ahead_10 rfl rfl ?_
    refine x_ldc q734 d_X4_ahead_11 ?_
    refine x_cvi (k := 41) (as := [.int (-1000001)]) (c_X4_finds l E μ (i := 0) hD (by decide) (w := (-1000001)) (by decide)) v_X4_finds w_X4_finds q735 o_M rfl ⟨Nat.le_of_ble_eq_true rfl, Nat.le_of_ble_eq_true rfl⟩ rfl (Nat.le_of_ble_eq_true rfl) d_X4_ahead_13 ?_
    rintro _ μ16 ⟨rfl, hD17, hF18⟩
    have hR19 := MR.cg hR (μ' := μ16) (fun id hid => (hF18 _ (by omega)))
    have hX20 := MX.cg hX (μ' := μ16) (fun id hid => (hF18 _ (by omega)))
    have hF21 : ∀ id, id < 41 → μ16 id = μ id := fun id hid => (show μ16 id = μ id from (hF18 _ (by omega))).trans (hF id hid)
    refine x_iret rfl d_X4_ahead_16 ?_
    have e9 : F_ahead g n = fin g 0 := by simp [F_ahead, x_b_f, x_b_t, c1]
    rw [e9]
    exact ⟨rfl, MS.fin hR19 hX20 hD17, hF21⟩
def m_X4_believes : x_M := (yX4_believes, prog_6_method_44_code, 4, (some FieldType.int), 9, 201)
theorem v_X4_believes : x_VM m_X4_believes 2 := ⟨q877, q6, by decide +kernel, by decide +kernel, by decide +kernel⟩
theorem w_X4_believes : x_VI m_X4_believes := ⟨q875, q876⟩
theorem d_X4_believes_0 : x_dec m_X4_believes 0 (.aload_n 0) 1 1 := ⟨by decide +kernel, rfl⟩
theorem d_X4_believes_1 : x_dec m_X4_believes 1 (.iload_n 1) 1 2 := ⟨by decide +kernel, rfl⟩
theorem d_X4_believes_2 : x_dec m_X4_believes 2 (.invokevirtual 92) 3 5 := ⟨by decide +kernel, rfl⟩
theorem d_X4_believes_5 : x_dec m_X4_believes 5 (.ifCond .eq 13) 3 8 := ⟨by decide +kernel, rfl⟩
theorem d_X4_believes_8 : x_dec m_X4_believes 8 (.iload_n 2) 1 9 := ⟨by decide +kernel, rfl⟩
theorem d_X4_believes_9 : x_dec m_X4_believes 9 (.iconst 0) 1 10 := ⟨by decide +kernel, rfl⟩
theorem d_X4_believes_10 : x_dec m_X4_believes 10 (.bipush 100) 2 12 := ⟨by decide +kernel, rfl⟩
theorem d_X4_believes_12 : x_dec m_X4_believes 12 (.invokestatic 46) 3 15 := ⟨by decide +kernel, rfl⟩
theorem d_X4_believes_15 : x_dec m_X4_believes 15 (.ifCond .ne 10) 3 18 := ⟨by decide +kernel, rfl⟩
theorem d_X4_believes_18 : x_dec m_X4_believes 18 (.aload_n 0) 1 19 := ⟨by decide +kernel, rfl⟩
theorem d_X4_believes_19 : x_dec m_X4_believes 19 (.ldc 40) 2 21 := ⟨by decide +kernel, rfl⟩
theorem d_X4_believes_21 : x_dec m_X4_believes 21 (.invokevirtual 42) 3 24 := ⟨by decide +kernel, rfl⟩
theorem d_X4_believes_24 : x_dec m_X4_believes 24 (.ireturn) 1 25 := ⟨by decide +kernel, rfl⟩
theorem d_X4_believes_25 : x_dec m_X4_believes 25 (.aload_n 0) 1 26 := ⟨by decide +kernel, rfl⟩
theorem d_X4_believes_26 : x_dec m_X4_believes 26 (.invokevirtual 134) 3 29 := ⟨by decide +kernel, rfl⟩
theorem d_X4_believes_29 : x_dec m_X4_believes 29 (.aload_n 0) 1 30 := ⟨by decide +kernel, rfl⟩
theorem d_X4_believes_30 : x_dec m_X4_believes 30 (.iload_n 2) 1 31 := ⟨by decide +kernel, rfl⟩
theorem d_X4_believes_31 : x_dec m_X4_believes 31 (.invokevirtual 113) 3 34 := ⟨by decide +kernel, rfl⟩
theorem d_X4_believes_34 : x_dec m_X4_believes 34 (.aload_n 0) 1 35 := ⟨by decide +kernel, rfl⟩
theorem d_X4_believes_35 : x_dec m_X4_believes 35 (.iload_n 1) 1 36 := ⟨by decide +kernel, rfl⟩
theorem d_X4_believes_36 : x_dec m_X4_believes 36 (.iconst 2) 1 37 := ⟨by decide +kernel, rfl⟩
theorem d_X4_believes_37 : x_dec m_X4_believes 37 (.invokevirtual 50) 3 40 := ⟨by decide +kernel, rfl⟩
theorem d_X4_believes_40 : x_dec m_X4_believes 40 (.istore_n 3) 1 41 := ⟨by decide +kernel, rfl⟩
theorem d_X4_believes_41 : x_dec m_X4_believes 41 (.aload_n 0) 1 42 := ⟨by decide +kernel, rfl⟩
theorem d_X4_believes_42 : x_dec m_X4_believes 42 (.invokevirtual 131) 3 45 := ⟨by decide +kernel, rfl⟩
theorem d_X4_believes_45 : x_dec m_X4_believes 45 (.iload_n 3) 1 46 := ⟨by decide +kernel, rfl⟩
theorem d_X4_believes_46 : x_dec m_X4_believes 46 (.ireturn) 1 47 := ⟨by decide +kernel, rfl⟩
set_option maxHeartbeats 4000000 in
set_option maxRecDepth 100000 in
theorem c_X4_believes (l : Launch) (E : x_E) (μ : x_Mem) (g : x_SG) (hS : MS g μ) (hI : Inv g) (p n : Int32) : x_Met l m_X4_believes E [.ref (E.1 + 41), .int p, .int n] μ (x_I (fun z m => z = (F_believes g p n).1 ∧ MS (F_believes g p n).2 m ∧ ∀ id, id < 41 → m id = μ id)) := by
  obtain ⟨hR, hX, hD⟩ := hS
  have hWF := hI.1.1
  have hn7 := hWF.2.1
  have hpn := hWF.1
  have hF : ∀ id, id < 41 → μ id = μ id := fun _ _ => rfl
  refine x_enter (lv := [(0, .ref (E.1 + 41)), (1, .int p), (2, .int n)]) (by decide +kernel) (Nat.le_of_ble_eq_true rfl) rfl ?_
  refine x_aload_n 0 d_X4_believes_0 rfl rfl ?_
  refine x_iload_n 1 d_X4_believes_1 rfl rfl ?_
  refine x_cvip (k := 41) (as := [.int p]) (c_X4_isOne l E μ hR hWF p) v_X4_isOne w_X4_isOne q791 o_M rfl ⟨Nat.le_of_ble_eq_true rfl, Nat.le_of_ble_eq_true rfl⟩ rfl (Nat.le_of_ble_eq_true rfl) d_X4_believes_2 ?_
  refine x_ifb_eq 18 d_X4_believes_5 (by decide) (fun c1 => ?_) (fun c1 => ?_)
  · skip
    refine x_aload_n 0 d_X4_believes_18 rfl rfl ?_
    refine x_ldc q734 d_X4_believes_19 ?_
    refine x_cvi (k := 41) (as := [.int (-1000001)]) (c_X4_finds l E μ (i := 0) hD (by decide) (w := (-1000001)) (by decide)) v_X4_finds w_X4_finds q735 o_M rfl ⟨Nat.le_of_ble_eq_true rfl, Nat.le_of_ble_eq_true rfl⟩ rfl (Nat.le_of_ble_eq_true rfl) d_X4_believes_21 ?_
    rintro _ μ2 ⟨rfl, hD3, hF4⟩
    have hR5 := MR.cg hR (μ' := μ2) (fun id hid => (hF4 _ (by omega)))
    have hX6 := MX.cg hX (μ' := μ2) (fun id hid => (hF4 _ (by omega)))
    have hF7 : ∀ id, id < 41 → μ2 id = μ id := fun id hid => (show μ2 id = μ id from (hF4 _ (by omega))).trans (hF id hid)
    refine x_iret rfl d_X4_believes_24 ?_
    have e9 : F_believes g p n = fin g 0 := by simp [F_believes, x_b_f, x_b_t, c1]
    rw [e9]
    exact ⟨rfl, MS.fin hR5 hX6 hD3, hF7⟩
  · skip
    obtain ⟨q, hq, rfl⟩ := isP_nat hWF c1
    refine x_iload_n 2 d_X4_believes_8 rfl rfl ?_
    refine x_iconst (x := 0) d_X4_believes_9 (by decide) ?_
    refine x_bipush (x := 100) d_X4_believes_10 (by decide) ?_
    refine x_csip (as := [.int n, .int 0, .int 100]) (c_X4_in l E μ n 0 100) v_X4_in q728 q727 rfl ⟨Nat.le_of_ble_eq_true rfl, Nat.le_of_ble_eq_true rfl⟩ rfl (Nat.le_of_ble_eq_true rfl) d_X4_believes_12 ?_
    refine x_ifb_ne 25 d_X4_believes_15 (by decide) (fun c8 => ?_) (fun c8 => ?_)
    · skip
      obtain ⟨h, hh, rfl⟩ := inR_nat (n := 100) (by decide) c8
      refine x_aload_n 0 d_X4_believes_25 rfl rfl ?_
      refine x_cvv (k := 41) (as := []) (c_X4_thinks l E μ hR) v_X4_thinks w_X4_thinks q859 o_M rfl ⟨Nat.le_of_ble_eq_true rfl, Nat.le_of_ble_eq_true rfl⟩ rfl (Nat.le_of_ble_eq_true rfl) d_X4_believes_26 ?_
      rintro μ9 ⟨hW10, hF11⟩
      have hR12 := MR.cg hR (μ' := μ9) (fun id hid => (hF11 _ (by omega)))
      have hX13 := MX.cg hX (μ' := μ9) (fun id hid => (hF11 _ (by omega)))
      have hD14 := MD.cg hD (μ' := μ9) (fun id hid => (hF11 _ (by omega)))
      have hF15 : ∀ id, id < 41 → μ9 id = μ id := fun id hid => (show μ9 id = μ id from (hF11 _ (by omega))).trans (hF id hid)
      refine x_aload_n 0 d_X4_believes_29 rfl rfl ?_
      refine x_iload_n 2 d_X4_believes_30 rfl rfl ?_
      refine x_cvv (k := 41) (as := [.int (nI h)]) (c_X4_goesOn l E μ9 hR12 hWF (h := h) (by omega)) v_X4_goesOn w_X4_goesOn q819 o_M rfl ⟨Nat.le_of_ble_eq_true rfl, Nat.le_of_ble_eq_true rfl⟩ rfl (Nat.le_of_ble_eq_true rfl) d_X4_believes_31 ?_
      rintro μ16 ⟨hR17, hF18⟩
      have hX19 := MX.cg hX13 (μ' := μ16) (fun id hid => (hF18 _ (by omega)))
      have hD20 := MD.cg hD14 (μ' := μ16) (fun id hid => (hF18 _ (by omega)))
      have hF21 : ∀ id, id < 41 → μ16 id = μ id := fun id hid => (show μ16 id = μ9 id from (hF18 _ (by omega))).trans (hF15 id hid)
      have hW22 := MW.cg hW10 (μ' := μ16) (fun id hid => (hF18 _ (by omega)))
      refine x_aload_n 0 d_X4_believes_34 rfl rfl ?_
      refine x_iload_n 1 d_X4_believes_35 rfl rfl ?_
      refine x_iconst (x := 2) d_X4_believes_36 (by decide) ?_
      refine x_cvip (k := 41) (as := [.int (nI q), .int 2]) (c_X4_told l E μ16 hR17 (p := q) (w := 2) (j := 24 + 3 * q + 2) rfl (by omega)) v_X4_told w_X4_told q755 o_M rfl ⟨Nat.le_of_ble_eq_true rfl, Nat.le_of_ble_eq_true rfl⟩ rfl (Nat.le_of_ble_eq_true rfl) d_X4_believes_37 ?_
      refine x_istore_n [(3, .int ((hoursF (gA g) h) (24 + 3 * q + 2))), (0, .ref (E.1 + 41)), (1, .int (nI q)), (2, .int (nI h))] d_X4_believes_40 rfl (Nat.le_of_ble_eq_true rfl) rfl ?_
      refine x_aload_n 1 d_X4_believes_41 rfl rfl ?_
      refine x_cvv (k := 41) (as := []) (c_X4_putsBack l E μ16 hW22) v_X4_putsBack w_X4_putsBack q870 o_M rfl ⟨Nat.le_of_ble_eq_true rfl, Nat.le_of_ble_eq_true rfl⟩ rfl (Nat.le_of_ble_eq_true rfl) d_X4_believes_42 ?_
      rintro μ23 ⟨hR24, hF25⟩
      have hX26 := MX.cg hX19 (μ' := μ23) (fun id hid => (hF25 _ (by omega)))
      have hD27 := MD.cg hD20 (μ' := μ23) (fun id hid => (hF25 _ (by omega)))
      have hF28 : ∀ id, id < 41 → μ23 id = μ id := fun id hid => (show μ23 id = μ16 id from (hF25 _ (by omega))).trans (hF21 id hid)
      have hW29 := MW.cg hW22 (μ' := μ23) (fun id hid => (hF25 _ (by omega)))
      refine x_iload_n 0 d_X4_believes_45 rfl rfl ?_
      refine x_iret rfl d_X4_believes_46 ?_
      have e9 : F_believes g (nI q) (nI h) = ((hoursF (gA g) h) (24 + 3 * q + 2), g) := by simp [F_believes, x_b_f, x_b_t, c1, c8, nI_clamp (n := q) (by omega), nI_clamp (n := h) (by omega)]
      rw [e9]
      exact ⟨rfl, ⟨hR24, hX26, hD27⟩, hF28⟩
    · skip
      refine x_aload_n 0 d_X4_believes_18 rfl rfl ?_
      refine x_ldc q734 d_X4_believes_19 ?_
      refine x_cvi (k := 41) (as := [.int (-1000001)]) (c_X4_finds l E μ (i := 0) hD (by decide) (w := (-1000001)) (by decide)) v_X4_finds w_X4_finds q735 o_M rfl ⟨Nat.le_of_ble_eq_true rfl, Nat.le_of_ble_eq_true rfl⟩ rfl (Nat.le_of_ble_eq_true rfl) d_X4_believes_21 ?_
      rintro _ μ30 ⟨rfl, hD31, hF32⟩
      have hR33 := MR.cg hR (μ' := μ30) (fun id hid => (hF32 _ (by omega)))
      have hX34 := MX.cg hX (μ' := μ30) (fun id hid => (hF32 _ (by omega)))
      have hF35 : ∀ id, id < 41 → μ30 id = μ id := fun id hid => (show μ30 id = μ id from (hF32 _ (by omega))).trans (hF id hid)
      refine x_iret rfl d_X4_believes_24 ?_
      have e9 : F_believes g (nI q) n = fin g 0 := by simp [F_believes, x_b_f, x_b_t, c1, c8, nI_clamp (n := q) (by omega)]
      rw [e9]
      exact ⟨rfl, MS.fin hR33 hX34 hD31, hF35⟩
def m_X4_there : x_M := (yX4_there, prog_6_method_49_code, 3, (some FieldType.int), 9, 201)
theorem v_X4_there : x_VM m_X4_there 1 := ⟨q901, q6, by decide +kernel, by decide +kernel, by decide +kernel⟩
theorem w_X4_there : x_VI m_X4_there := ⟨q899, q900⟩
theorem d_X4_there_0 : x_dec m_X4_there 0 (.iload_n 1) 1 1 := ⟨by decide +kernel, rfl⟩
theorem d_X4_there_1 : x_dec m_X4_there 1 (.iconst 0) 1 2 := ⟨by decide +kernel, rfl⟩
theorem d_X4_there_2 : x_dec m_X4_there 2 (.bipush 100) 2 4 := ⟨by decide +kernel, rfl⟩
theorem d_X4_there_4 : x_dec m_X4_there 4 (.invokestatic 46) 3 7 := ⟨by decide +kernel, rfl⟩
theorem d_X4_there_7 : x_dec m_X4_there 7 (.ifCond .ne 10) 3 10 := ⟨by decide +kernel, rfl⟩
theorem d_X4_there_10 : x_dec m_X4_there 10 (.aload_n 0) 1 11 := ⟨by decide +kernel, rfl⟩
theorem d_X4_there_11 : x_dec m_X4_there 11 (.ldc 40) 2 13 := ⟨by decide +kernel, rfl⟩
theorem d_X4_there_13 : x_dec m_X4_there 13 (.invokevirtual 42) 3 16 := ⟨by decide +kernel, rfl⟩
theorem d_X4_there_16 : x_dec m_X4_there 16 (.ireturn) 1 17 := ⟨by decide +kernel, rfl⟩
theorem d_X4_there_17 : x_dec m_X4_there 17 (.aload_n 0) 1 18 := ⟨by decide +kernel, rfl⟩
theorem d_X4_there_18 : x_dec m_X4_there 18 (.invokevirtual 134) 3 21 := ⟨by decide +kernel, rfl⟩
theorem d_X4_there_21 : x_dec m_X4_there 21 (.aload_n 0) 1 22 := ⟨by decide +kernel, rfl⟩
theorem d_X4_there_22 : x_dec m_X4_there 22 (.iload_n 1) 1 23 := ⟨by decide +kernel, rfl⟩
theorem d_X4_there_23 : x_dec m_X4_there 23 (.invokevirtual 113) 3 26 := ⟨by decide +kernel, rfl⟩
theorem d_X4_there_26 : x_dec m_X4_there 26 (.aload_n 0) 1 27 := ⟨by decide +kernel, rfl⟩
theorem d_X4_there_27 : x_dec m_X4_there 27 (.invokevirtual 121) 3 30 := ⟨by decide +kernel, rfl⟩
theorem d_X4_there_30 : x_dec m_X4_there 30 (.istore_n 2) 1 31 := ⟨by decide +kernel, rfl⟩
theorem d_X4_there_31 : x_dec m_X4_there 31 (.aload_n 0) 1 32 := ⟨by decide +kernel, rfl⟩
theorem d_X4_there_32 : x_dec m_X4_there 32 (.invokevirtual 131) 3 35 := ⟨by decide +kernel, rfl⟩
theorem d_X4_there_35 : x_dec m_X4_there 35 (.iload_n 2) 1 36 := ⟨by decide +kernel, rfl⟩
theorem d_X4_there_36 : x_dec m_X4_there 36 (.ireturn) 1 37 := ⟨by decide +kernel, rfl⟩
set_option maxHeartbeats 4000000 in
set_option maxRecDepth 100000 in
theorem c_X4_there (l : Launch) (E : x_E) (μ : x_Mem) (g : x_SG) (hS : MS g μ) (hI : Inv g) (n : Int32) : x_Met l m_X4_there E [.ref (E.1 + 41), .int n] μ (x_I (fun z m => z = (F_there g n).1 ∧ MS (F_there g n).2 m ∧ ∀ id, id < 41 → m id = μ id)) := by
  obtain ⟨hR, hX, hD⟩ := hS
  have hWF := hI.1.1
  have hn7 := hWF.2.1
  have hpn := hWF.1
  have hF : ∀ id, id < 41 → μ id = μ id := fun _ _ => rfl
  refine x_enter (lv := [(0, .ref (E.1 + 41)), (1, .int n)]) (by decide +kernel) (Nat.le_of_ble_eq_true rfl) rfl ?_
  refine x_iload_n 1 d_X4_there_0 rfl rfl ?_
  refine x_iconst (x := 0) d_X4_there_1 (by decide) ?_
  refine x_bipush (x := 100) d_X4_there_2 (by decide) ?_
  refine x_csip (as := [.int n, .int 0, .int 100]) (c_X4_in l E μ n 0 100) v_X4_in q728 q727 rfl ⟨Nat.le_of_ble_eq_true rfl, Nat.le_of_ble_eq_true rfl⟩ rfl (Nat.le_of_ble_eq_true rfl) d_X4_there_4 ?_
  refine x_ifb_ne 17 d_X4_there_7 (by decide) (fun c1 => ?_) (fun c1 => ?_)
  · skip
    obtain ⟨h, hh, rfl⟩ := inR_nat (n := 100) (by decide) c1
    refine x_aload_n 0 d_X4_there_17 rfl rfl ?_
    refine x_cvv (k := 41) (as := []) (c_X4_thinks l E μ hR) v_X4_thinks w_X4_thinks q859 o_M rfl ⟨Nat.le_of_ble_eq_true rfl, Nat.le_of_ble_eq_true rfl⟩ rfl (Nat.le_of_ble_eq_true rfl) d_X4_there_18 ?_
    rintro μ2 ⟨hW3, hF4⟩
    have hR5 := MR.cg hR (μ' := μ2) (fun id hid => (hF4 _ (by omega)))
    have hX6 := MX.cg hX (μ' := μ2) (fun id hid => (hF4 _ (by omega)))
    have hD7 := MD.cg hD (μ' := μ2) (fun id hid => (hF4 _ (by omega)))
    have hF8 : ∀ id, id < 41 → μ2 id = μ id := fun id hid => (show μ2 id = μ id from (hF4 _ (by omega))).trans (hF id hid)
    refine x_aload_n 0 d_X4_there_21 rfl rfl ?_
    refine x_iload_n 1 d_X4_there_22 rfl rfl ?_
    refine x_cvv (k := 41) (as := [.int (nI h)]) (c_X4_goesOn l E μ2 hR5 hWF (h := h) (by omega)) v_X4_goesOn w_X4_goesOn q819 o_M rfl ⟨Nat.le_of_ble_eq_true rfl, Nat.le_of_ble_eq_true rfl⟩ rfl (Nat.le_of_ble_eq_true rfl) d_X4_there_23 ?_
    rintro μ9 ⟨hR10, hF11⟩
    have hX12 := MX.cg hX6 (μ' := μ9) (fun id hid => (hF11 _ (by omega)))
    have hD13 := MD.cg hD7 (μ' := μ9) (fun id hid => (hF11 _ (by omega)))
    have hF14 : ∀ id, id < 41 → μ9 id = μ id := fun id hid => (show μ9 id = μ2 id from (hF11 _ (by omega))).trans (hF8 id hid)
    have hW15 := MW.cg hW3 (μ' := μ9) (fun id hid => (hF11 _ (by omega)))
    refine x_aload_n 0 d_X4_there_26 rfl rfl ?_
    refine x_cvip (k := 41) (as := []) (c_X4_allThere l E μ9 hR10 (WF.hours hWF h)) v_X4_allThere w_X4_allThere q847 o_M rfl ⟨Nat.le_of_ble_eq_true rfl, Nat.le_of_ble_eq_true rfl⟩ rfl (Nat.le_of_ble_eq_true rfl) d_X4_there_27 ?_
    refine x_istore_n [(2, .int (thereF (hoursF (gA g) h))), (0, .ref (E.1 + 41)), (1, .int (nI h))] d_X4_there_30 rfl (Nat.le_of_ble_eq_true rfl) rfl ?_
    refine x_aload_n 1 d_X4_there_31 rfl rfl ?_
    refine x_cvv (k := 41) (as := []) (c_X4_putsBack l E μ9 hW15) v_X4_putsBack w_X4_putsBack q870 o_M rfl ⟨Nat.le_of_ble_eq_true rfl, Nat.le_of_ble_eq_true rfl⟩ rfl (Nat.le_of_ble_eq_true rfl) d_X4_there_32 ?_
    rintro μ16 ⟨hR17, hF18⟩
    have hX19 := MX.cg hX12 (μ' := μ16) (fun id hid => (hF18 _ (by omega)))
    have hD20 := MD.cg hD13 (μ' := μ16) (fun id hid => (hF18 _ (by omega)))
    have hF21 : ∀ id, id < 41 → μ16 id = μ id := fun id hid => (show μ16 id = μ9 id from (hF18 _ (by omega))).trans (hF14 id hid)
    have hW22 := MW.cg hW15 (μ' := μ16) (fun id hid => (hF18 _ (by omega)))
    refine x_iload_n 0 d_X4_there_35 rfl rfl ?_
    refine x_iret rfl d_X4_there_36 ?_
    have e9 : F_there g (nI h) = (thereF (hoursF (gA g) h), g) := by simp [F_there, x_b_f, x_b_t, c1, nI_clamp (n := h) (by omega)]
    rw [e9]
    exact ⟨rfl, ⟨hR17, hX19, hD20⟩, hF21⟩
  · skip
    refine x_aload_n 0 d_X4_there_10 rfl rfl ?_
    refine x_ldc q734 d_X4_there_11 ?_
    refine x_cvi (k := 41) (as := [.int (-1000001)]) (c_X4_finds l E μ (i := 0) hD (by decide) (w := (-1000001)) (by decide)) v_X4_finds w_X4_finds q735 o_M rfl ⟨Nat.le_of_ble_eq_true rfl, Nat.le_of_ble_eq_true rfl⟩ rfl (Nat.le_of_ble_eq_true rfl) d_X4_there_13 ?_
    rintro _ μ23 ⟨rfl, hD24, hF25⟩
    have hR26 := MR.cg hR (μ' := μ23) (fun id hid => (hF25 _ (by omega)))
    have hX27 := MX.cg hX (μ' := μ23) (fun id hid => (hF25 _ (by omega)))
    have hF28 : ∀ id, id < 41 → μ23 id = μ id := fun id hid => (show μ23 id = μ id from (hF25 _ (by omega))).trans (hF id hid)
    refine x_iret rfl d_X4_there_16 ?_
    have e9 : F_there g n = fin g 0 := by simp [F_there, x_b_f, x_b_t, c1]
    rw [e9]
    exact ⟨rfl, MS.fin hR26 hX27 hD24, hF28⟩
def m_X4_seed : x_M := (yX4_seed, prog_6_method_74_code, 2, (some FieldType.int), 1, 23)
theorem v_X4_seed : x_VM m_X4_seed 1 := ⟨q1011, q6, by decide +kernel, by decide +kernel, by decide +kernel⟩
theorem w_X4_seed : x_VI m_X4_seed := ⟨q1009, q1010⟩
theorem d_X4_seed_0 : x_dec m_X4_seed 0 (.aload_n 0) 1 1 := ⟨by decide +kernel, rfl⟩
theorem d_X4_seed_1 : x_dec m_X4_seed 1 (.bipush 6) 2 3 := ⟨by decide +kernel, rfl⟩
theorem d_X4_seed_3 : x_dec m_X4_seed 3 (.iload_n 1) 1 4 := ⟨by decide +kernel, rfl⟩
theorem d_X4_seed_4 : x_dec m_X4_seed 4 (.invokevirtual 81) 3 7 := ⟨by decide +kernel, rfl⟩
theorem d_X4_seed_7 : x_dec m_X4_seed 7 (.ireturn) 1 8 := ⟨by decide +kernel, rfl⟩
set_option maxHeartbeats 4000000 in
set_option maxRecDepth 100000 in
theorem c_X4_seed (l : Launch) (E : x_E) (μ : x_Mem) (g : x_SG) (hS : MS g μ) (hI : Inv g) (v : Int32) : x_Met l m_X4_seed E [.ref (E.1 + 41), .int v] μ (x_I (fun z m => z = (F_seed g v).1 ∧ MS (F_seed g v).2 m ∧ ∀ id, id < 41 → m id = μ id)) := by
  obtain ⟨hR, hX, hD⟩ := hS
  have hWF := hI.1.1
  have hn7 := hWF.2.1
  have hpn := hWF.1
  have hF : ∀ id, id < 41 → μ id = μ id := fun _ _ => rfl
  refine x_enter (lv := [(0, .ref (E.1 + 41)), (1, .int v)]) (by decide +kernel) (Nat.le_of_ble_eq_true rfl) rfl ?_
  refine x_aload_n 0 d_X4_seed_0 rfl rfl ?_
  refine x_bipush (x := 6) d_X4_seed_1 (by decide) ?_
  refine x_iload_n 1 d_X4_seed_3 rfl rfl ?_
  refine x_cvi (k := 41) (as := [.int 6, .int v]) (c_X4_becomes l E μ hR (j := 6) (by omega) v) v_X4_becomes w_X4_becomes q730 o_M rfl ⟨Nat.le_of_ble_eq_true rfl, Nat.le_of_ble_eq_true rfl⟩ rfl (Nat.le_of_ble_eq_true rfl) d_X4_seed_4 ?_
  rintro _ μ1 ⟨rfl, eμ1⟩
  have hR2 : MR (upd (gA g) (6) v) μ1 := MR.w hR eμ1
  have hX3 := MX.cg hX (μ' := μ1) (fun id hid => (by rw [eμ1, upd2_ne _ _ _ (by omega)]))
  have hD4 := MD.cg hD (μ' := μ1) (fun id hid => (by rw [eμ1, upd2_ne _ _ _ (by omega)]))
  have hF5 : ∀ id, id < 41 → μ1 id = μ id := fun id hid => (show μ1 id = μ id from (by rw [eμ1, upd2_ne _ _ _ (by omega)])).trans (hF id hid)
  refine x_iret rfl d_X4_seed_7 ?_
  have e9 : F_seed g v = ((gA g) (6), sA g (upd (gA g) (6) v)) := by simp [F_seed, x_b_f, x_b_t, setL]
  rw [e9]
  exact ⟨rfl, MS.line hR2 hX3 hD4, hF5⟩
end
section
def m_X4_go : x_M := (yX4_go, prog_6_method_38_code, 2, (some FieldType.int), 9, 201)
theorem v_X4_go : x_VM m_X4_go 1 := ⟨q818, q6, by decide +kernel, by decide +kernel, by decide +kernel⟩
theorem w_X4_go : x_VI m_X4_go := ⟨q816, q817⟩
theorem d_X4_go_0 : x_dec m_X4_go 0 (.iload_n 1) 1 1 := ⟨by decide +kernel, rfl⟩
theorem d_X4_go_1 : x_dec m_X4_go 1 (.iconst 1) 1 2 := ⟨by decide +kernel, rfl⟩
theorem d_X4_go_2 : x_dec m_X4_go 2 (.bipush 60) 2 4 := ⟨by decide +kernel, rfl⟩
theorem d_X4_go_4 : x_dec m_X4_go 4 (.invokestatic 46) 3 7 := ⟨by decide +kernel, rfl⟩
theorem d_X4_go_7 : x_dec m_X4_go 7 (.ifCond .ne 10) 3 10 := ⟨by decide +kernel, rfl⟩
theorem d_X4_go_10 : x_dec m_X4_go 10 (.aload_n 0) 1 11 := ⟨by decide +kernel, rfl⟩
theorem d_X4_go_11 : x_dec m_X4_go 11 (.ldc 40) 2 13 := ⟨by decide +kernel, rfl⟩
theorem d_X4_go_13 : x_dec m_X4_go 13 (.invokevirtual 42) 3 16 := ⟨by decide +kernel, rfl⟩
theorem d_X4_go_16 : x_dec m_X4_go 16 (.ireturn) 1 17 := ⟨by decide +kernel, rfl⟩
theorem d_X4_go_17 : x_dec m_X4_go 17 (.aload_n 0) 1 18 := ⟨by decide +kernel, rfl⟩
theorem d_X4_go_18 : x_dec m_X4_go 18 (.getfield 9) 3 21 := ⟨by decide +kernel, rfl⟩
theorem d_X4_go_21 : x_dec m_X4_go 21 (.iconst 0) 1 22 := ⟨by decide +kernel, rfl⟩
theorem d_X4_go_22 : x_dec m_X4_go 22 (.iaload) 1 23 := ⟨by decide +kernel, rfl⟩
theorem d_X4_go_23 : x_dec m_X4_go 23 (.iload_n 1) 1 24 := ⟨by decide +kernel, rfl⟩
theorem d_X4_go_24 : x_dec m_X4_go 24 (.iadd) 1 25 := ⟨by decide +kernel, rfl⟩
theorem d_X4_go_25 : x_dec m_X4_go 25 (.ldc 67) 2 27 := ⟨by decide +kernel, rfl⟩
theorem d_X4_go_27 : x_dec m_X4_go 27 (.if_icmp .le 10) 3 30 := ⟨by decide +kernel, rfl⟩
theorem d_X4_go_30 : x_dec m_X4_go 30 (.aload_n 0) 1 31 := ⟨by decide +kernel, rfl⟩
theorem d_X4_go_31 : x_dec m_X4_go 31 (.ldc 99) 2 33 := ⟨by decide +kernel, rfl⟩
theorem d_X4_go_33 : x_dec m_X4_go 33 (.invokevirtual 42) 3 36 := ⟨by decide +kernel, rfl⟩
theorem d_X4_go_36 : x_dec m_X4_go 36 (.ireturn) 1 37 := ⟨by decide +kernel, rfl⟩
theorem d_X4_go_37 : x_dec m_X4_go 37 (.aload_n 0) 1 38 := ⟨by decide +kernel, rfl⟩
theorem d_X4_go_38 : x_dec m_X4_go 38 (.iload_n 1) 1 39 := ⟨by decide +kernel, rfl⟩
theorem d_X4_go_39 : x_dec m_X4_go 39 (.invokevirtual 113) 3 42 := ⟨by decide +kernel, rfl⟩
theorem d_X4_go_42 : x_dec m_X4_go 42 (.aload_n 0) 1 43 := ⟨by decide +kernel, rfl⟩
theorem d_X4_go_43 : x_dec m_X4_go 43 (.getfield 9) 3 46 := ⟨by decide +kernel, rfl⟩
theorem d_X4_go_46 : x_dec m_X4_go 46 (.iconst 1) 1 47 := ⟨by decide +kernel, rfl⟩
theorem d_X4_go_47 : x_dec m_X4_go 47 (.iaload) 1 48 := ⟨by decide +kernel, rfl⟩
theorem d_X4_go_48 : x_dec m_X4_go 48 (.ireturn) 1 49 := ⟨by decide +kernel, rfl⟩
set_option maxHeartbeats 4000000 in
set_option maxRecDepth 100000 in
theorem c_X4_go (l : Launch) (E : x_E) (μ : x_Mem) (g : x_SG) (hS : MS g μ) (hI : Inv g) (n : Int32) : x_Met l m_X4_go E [.ref (E.1 + 41), .int n] μ (x_I (fun z m => z = (F_go g n).1 ∧ MS (F_go g n).2 m ∧ ∀ id, id < 41 → m id = μ id)) := by
  obtain ⟨hR, hX, hD⟩ := hS
  have hWF := hI.1.1
  have hn7 := hWF.2.1
  have hpn := hWF.1
  have hF : ∀ id, id < 41 → μ id = μ id := fun _ _ => rfl
  refine x_enter (lv := [(0, .ref (E.1 + 41)), (1, .int n)]) (by decide +kernel) (Nat.le_of_ble_eq_true rfl) rfl ?_
  refine x_iload_n 1 d_X4_go_0 rfl rfl ?_
  refine x_iconst (x := 1) d_X4_go_1 (by decide) ?_
  refine x_bipush (x := 60) d_X4_go_2 (by decide) ?_
  refine x_csip (as := [.int n, .int 1, .int 60]) (c_X4_in l E μ n 1 60) v_X4_in q728 q727 rfl ⟨Nat.le_of_ble_eq_true rfl, Nat.le_of_ble_eq_true rfl⟩ rfl (Nat.le_of_ble_eq_true rfl) d_X4_go_4 ?_
  refine x_ifb_ne 17 d_X4_go_7 (by decide) (fun c1 => ?_) (fun c1 => ?_)
  · skip
    obtain ⟨h, hh, rfl⟩ := (inR_nat2 (a := 1) (n := 60) (by decide) (by decide) c1)
    refine x_aload_n 0 d_X4_go_17 rfl rfl ?_
    refine x_getr (j := 0) 42 x_c4 rfl (Nat.le_of_ble_eq_true rfl) q668 rfl d_X4_go_18 ?_
    refine x_iconst (x := 0) d_X4_go_21 (by decide) ?_
    refine x_ialdN (z := (gA g) 0) 58 0 rfl rfl (by omega) (by decide) (hR 0 (by omega)) d_X4_go_22 ?_
    refine x_iload_n 1 d_X4_go_23 rfl rfl ?_
    refine x_iadd d_X4_go_24 ?_
    refine x_ldc q769 d_X4_go_25 ?_
    refine x_icmp_le 37 d_X4_go_27 (by decide) (fun c2 => ?_) (fun c2 => ?_)
    · skip
      refine x_aload_n 0 d_X4_go_37 rfl rfl ?_
      refine x_iload_n 1 d_X4_go_38 rfl rfl ?_
      refine x_cvv (k := 41) (as := [.int (nI h)]) (c_X4_goesOn l E μ hR hWF (h := h) (by omega)) v_X4_goesOn w_X4_goesOn q819 o_M rfl ⟨Nat.le_of_ble_eq_true rfl, Nat.le_of_ble_eq_true rfl⟩ rfl (Nat.le_of_ble_eq_true rfl) d_X4_go_39 ?_
      rintro μ3 ⟨hR4, hF5⟩
      have hX6 := MX.cg hX (μ' := μ3) (fun id hid => (hF5 _ (by omega)))
      have hD7 := MD.cg hD (μ' := μ3) (fun id hid => (hF5 _ (by omega)))
      have hF8 : ∀ id, id < 41 → μ3 id = μ id := fun id hid => (show μ3 id = μ id from (hF5 _ (by omega))).trans (hF id hid)
      refine x_aload_n 0 d_X4_go_42 rfl rfl ?_
      refine x_getr (j := 0) 42 x_c4 rfl (Nat.le_of_ble_eq_true rfl) q668 rfl d_X4_go_43 ?_
      refine x_iconst (x := 1) d_X4_go_46 (by decide) ?_
      refine x_ialdN (z := (hoursF (gA g) h) 1) 58 1 rfl rfl (by omega) (by decide) (hR4 1 (by omega)) d_X4_go_47 ?_
      refine x_iret rfl d_X4_go_48 ?_
      have e9 : F_go g (nI h) = ((hoursF (gA g) h) 1, sA g (hoursF (gA g) h)) := by simp [F_go, x_b_f, x_b_t, c1, nI_clamp (n := h) (by omega), show ¬ 99999 < gA g 0 + nI h from Int32.not_lt.mpr c2]
      rw [e9]
      exact ⟨rfl, MS.line hR4 hX6 hD7, hF8⟩
    · skip
      refine x_aload_n 0 d_X4_go_30 rfl rfl ?_
      refine x_ldc q810 d_X4_go_31 ?_
      refine x_cvi (k := 41) (as := [.int (-1000005)]) (c_X4_finds l E μ (i := 4) hD (by decide) (w := (-1000005)) (by decide)) v_X4_finds w_X4_finds q735 o_M rfl ⟨Nat.le_of_ble_eq_true rfl, Nat.le_of_ble_eq_true rfl⟩ rfl (Nat.le_of_ble_eq_true rfl) d_X4_go_33 ?_
      rintro _ μ9 ⟨rfl, hD10, hF11⟩
      have hR12 := MR.cg hR (μ' := μ9) (fun id hid => (hF11 _ (by omega)))
      have hX13 := MX.cg hX (μ' := μ9) (fun id hid => (hF11 _ (by omega)))
      have hF14 : ∀ id, id < 41 → μ9 id = μ id := fun id hid => (show μ9 id = μ id from (hF11 _ (by omega))).trans (hF id hid)
      refine x_iret rfl d_X4_go_36 ?_
      have e9 : F_go g (nI h) = fin g 4 := by simp [F_go, x_b_f, x_b_t, c1, nI_clamp (n := h) (by omega), show 99999 < gA g 0 + nI h from Int32.not_le.mp c2]
      rw [e9]
      exact ⟨rfl, MS.fin hR12 hX13 hD10, hF14⟩
  · skip
    refine x_aload_n 0 d_X4_go_10 rfl rfl ?_
    refine x_ldc q734 d_X4_go_11 ?_
    refine x_cvi (k := 41) (as := [.int (-1000001)]) (c_X4_finds l E μ (i := 0) hD (by decide) (w := (-1000001)) (by decide)) v_X4_finds w_X4_finds q735 o_M rfl ⟨Nat.le_of_ble_eq_true rfl, Nat.le_of_ble_eq_true rfl⟩ rfl (Nat.le_of_ble_eq_true rfl) d_X4_go_13 ?_
    rintro _ μ15 ⟨rfl, hD16, hF17⟩
    have hR18 := MR.cg hR (μ' := μ15) (fun id hid => (hF17 _ (by omega)))
    have hX19 := MX.cg hX (μ' := μ15) (fun id hid => (hF17 _ (by omega)))
    have hF20 : ∀ id, id < 41 → μ15 id = μ id := fun id hid => (show μ15 id = μ id from (hF17 _ (by omega))).trans (hF id hid)
    refine x_iret rfl d_X4_go_16 ?_
    have e9 : F_go g n = fin g 0 := by simp [F_go, x_b_f, x_b_t, c1]
    rw [e9]
    exact ⟨rfl, MS.fin hR18 hX19 hD16, hF20⟩
def m_X4_worth : x_M := (yX4_worth, prog_6_method_67_code, 3, (some FieldType.int), 6, 136)
theorem v_X4_worth : x_VM m_X4_worth 0 := ⟨q980, q6, by decide +kernel, by decide +kernel, by decide +kernel⟩
theorem w_X4_worth : x_VI m_X4_worth := ⟨q978, q979⟩
theorem d_X4_worth_0 : x_dec m_X4_worth 0 (.iconst 0) 1 1 := ⟨by decide +kernel, rfl⟩
theorem d_X4_worth_1 : x_dec m_X4_worth 1 (.istore_n 1) 1 2 := ⟨by decide +kernel, rfl⟩
theorem d_X4_worth_2 : x_dec m_X4_worth 2 (.iconst 0) 1 3 := ⟨by decide +kernel, rfl⟩
theorem d_X4_worth_3 : x_dec m_X4_worth 3 (.istore_n 2) 1 4 := ⟨by decide +kernel, rfl⟩
theorem d_X4_worth_4 : x_dec m_X4_worth 4 (.iload_n 2) 1 5 := ⟨by decide +kernel, rfl⟩
theorem d_X4_worth_5 : x_dec m_X4_worth 5 (.bipush 16) 2 7 := ⟨by decide +kernel, rfl⟩
theorem d_X4_worth_7 : x_dec m_X4_worth 7 (.if_icmp .ge 33) 3 10 := ⟨by decide +kernel, rfl⟩
theorem d_X4_worth_10 : x_dec m_X4_worth 10 (.iload_n 1) 1 11 := ⟨by decide +kernel, rfl⟩
theorem d_X4_worth_11 : x_dec m_X4_worth 11 (.aload_n 0) 1 12 := ⟨by decide +kernel, rfl⟩
theorem d_X4_worth_12 : x_dec m_X4_worth 12 (.iload_n 2) 1 13 := ⟨by decide +kernel, rfl⟩
theorem d_X4_worth_13 : x_dec m_X4_worth 13 (.invokevirtual 74) 3 16 := ⟨by decide +kernel, rfl⟩
theorem d_X4_worth_16 : x_dec m_X4_worth 16 (.ifCond .eq 15) 3 19 := ⟨by decide +kernel, rfl⟩
theorem d_X4_worth_19 : x_dec m_X4_worth 19 (.aload_n 0) 1 20 := ⟨by decide +kernel, rfl⟩
theorem d_X4_worth_20 : x_dec m_X4_worth 20 (.getfield 9) 3 23 := ⟨by decide +kernel, rfl⟩
theorem d_X4_worth_23 : x_dec m_X4_worth 23 (.bipush 8) 2 25 := ⟨by decide +kernel, rfl⟩
theorem d_X4_worth_25 : x_dec m_X4_worth 25 (.iload_n 2) 1 26 := ⟨by decide +kernel, rfl⟩
theorem d_X4_worth_26 : x_dec m_X4_worth 26 (.iadd) 1 27 := ⟨by decide +kernel, rfl⟩
theorem d_X4_worth_27 : x_dec m_X4_worth 27 (.iaload) 1 28 := ⟨by decide +kernel, rfl⟩
theorem d_X4_worth_28 : x_dec m_X4_worth 28 (.goto 4) 3 31 := ⟨by decide +kernel, rfl⟩
theorem d_X4_worth_31 : x_dec m_X4_worth 31 (.iconst 0) 1 32 := ⟨by decide +kernel, rfl⟩
theorem d_X4_worth_32 : x_dec m_X4_worth 32 (.iadd) 1 33 := ⟨by decide +kernel, rfl⟩
theorem d_X4_worth_33 : x_dec m_X4_worth 33 (.istore_n 1) 1 34 := ⟨by decide +kernel, rfl⟩
theorem d_X4_worth_34 : x_dec m_X4_worth 34 (.iinc 2 1) 3 37 := ⟨by decide +kernel, rfl⟩
theorem d_X4_worth_37 : x_dec m_X4_worth 37 (.goto (-33)) 3 40 := ⟨by decide +kernel, rfl⟩
theorem d_X4_worth_40 : x_dec m_X4_worth 40 (.iload_n 1) 1 41 := ⟨by decide +kernel, rfl⟩
theorem d_X4_worth_41 : x_dec m_X4_worth 41 (.ireturn) 1 42 := ⟨by decide +kernel, rfl⟩
set_option maxHeartbeats 4000000 in
set_option maxRecDepth 100000 in
theorem c_X4_worth (l : Launch) (E : x_E) (μ : x_Mem) (g : x_SG) (hS : MS g μ) (hI : Inv g) : x_Met l m_X4_worth E [.ref (E.1 + 41)] μ (x_I (fun z m => z = (F_worth g).1 ∧ MS (F_worth g).2 m ∧ ∀ id, id < 41 → m id = μ id)) := by
  obtain ⟨hR, hX, hD⟩ := hS
  have hWF := hI.1.1
  have hn7 := hWF.2.1
  have hpn := hWF.1
  have hF : ∀ id, id < 41 → μ id = μ id := fun _ _ => rfl
  refine x_enter (lv := [(0, .ref (E.1 + 41))]) (by decide +kernel) (Nat.le_of_ble_eq_true rfl) rfl ?_
  refine x_iconst (x := 0) d_X4_worth_0 (by decide) ?_
  refine x_istore_n [(1, .int 0), (0, .ref (E.1 + 41))] d_X4_worth_1 rfl (Nat.le_of_ble_eq_true rfl) rfl ?_
  refine x_iconst (x := 0) d_X4_worth_2 (by decide) ?_
  refine x_istore_n [(2, .int 0), (1, .int 0), (0, .ref (E.1 + 41))] d_X4_worth_3 rfl (Nat.le_of_ble_eq_true rfl) rfl ?_
  have L1 : ∀ i : Nat, i ≤ 16 → ∀ r : Int32, (r = sumTo (fun k => if thereB (gA g) k = true then gA g (8 + k) else 0) i) → x_G l E m_X4_worth (x_mv E m_X4_worth (x_I (fun z m => z = (F_worth g).1 ∧ MS (F_worth g).2 m ∧ ∀ id, id < 41 → m id = μ id))) μ 4 [(2, .int (nI i)), (1, .int r), (0, .ref (E.1 + 41))] [] := by
    refine x_down _ 16 (fun i hi3 ih2 => ?_)
    intro r hr
    refine x_iload_n 0 d_X4_worth_4 rfl rfl ?_
    refine x_bipush (x := 16) d_X4_worth_5 (by decide) ?_
    refine x_icmp_ge 40 d_X4_worth_7 (by decide) (fun c4 => ?_) (fun c4 => ?_)
    · skip
      have hN := x_ge (N := 16) c4 rfl rfl (by omega) (by omega)
      refine x_iload_n 1 d_X4_worth_40 rfl rfl ?_
      refine x_iret rfl d_X4_worth_41 ?_
      have e7 : i = 16 := by omega
      subst e7
      exact ⟨hr, ⟨hR, hX, hD⟩, hF⟩
    · skip
      have hN := x_lt (N := 16) c4 rfl rfl (by omega) (by omega)
      refine x_iload_n 1 d_X4_worth_10 rfl rfl ?_
      refine x_aload_n 2 d_X4_worth_11 rfl rfl ?_
      refine x_iload_n 0 d_X4_worth_12 rfl rfl ?_
      refine x_cvip (k := 41) (as := [.int (nI i)]) (c_X4_isThere l E μ hR hWF (k := i) (by omega)) v_X4_isThere w_X4_isThere q770 o_M rfl ⟨Nat.le_of_ble_eq_true rfl, Nat.le_of_ble_eq_true rfl⟩ rfl (Nat.le_of_ble_eq_true rfl) d_X4_worth_13 ?_
      refine x_ifb_eq 31 d_X4_worth_16 (by decide) (fun c5 => ?_) (fun c5 => ?_)
      · skip
        refine x_iconst (x := 0) d_X4_worth_31 (by decide) ?_
        refine x_iadd d_X4_worth_32 ?_
        refine x_istore_n [(1, .int (r + 0)), (2, .int (nI i)), (0, .ref (E.1 + 41))] d_X4_worth_33 rfl (Nat.le_of_ble_eq_true rfl) rfl ?_
        refine x_iinc [(2, .int (nI (i + 1))), (1, .int (r + 0)), (0, .ref (E.1 + 41))] 1 d_X4_worth_34 rfl (x_inc _) (Nat.le_of_ble_eq_true rfl) rfl ?_
        refine x_goto 4 d_X4_worth_37 (by decide) ?_
        exact ih2 (i + 1) (by omega) (by omega) (r + 0) (by rw [hr, sumTo, if_neg (by rw [c5]; decide)])
      · skip
        refine x_aload_n 2 d_X4_worth_19 rfl rfl ?_
        refine x_getr (j := 0) 42 x_c4 rfl (Nat.le_of_ble_eq_true rfl) q668 rfl d_X4_worth_20 ?_
        refine x_bipush (x := 8) d_X4_worth_23 (by decide) ?_
        refine x_iload_n 0 d_X4_worth_25 rfl rfl ?_
        refine x_iadd d_X4_worth_26 ?_
        rw [show (8 : Int32) + (nI i) = nI (8 + i) from nI_add 8 i]
        refine x_ialdN (z := (gA g) (8 + i)) 58 (8 + i) rfl rfl (by omega) (by decide) (hR (8 + i) (by omega)) d_X4_worth_27 ?_
        refine x_goto 32 d_X4_worth_28 (by decide) ?_
        refine x_iadd d_X4_worth_32 ?_
        refine x_istore_n [(1, .int (r + ((gA g) (8 + i)))), (2, .int (nI i)), (0, .ref (E.1 + 41))] d_X4_worth_33 rfl (Nat.le_of_ble_eq_true rfl) rfl ?_
        refine x_iinc [(2, .int (nI (i + 1))), (1, .int (r + ((gA g) (8 + i)))), (0, .ref (E.1 + 41))] 1 d_X4_worth_34 rfl (x_inc _) (Nat.le_of_ble_eq_true rfl) rfl ?_
        refine x_goto 4 d_X4_worth_37 (by decide) ?_
        exact ih2 (i + 1) (by omega) (by omega) (r + ((gA g) (8 + i))) (by rw [hr, sumTo, if_pos c5])
  exact L1 0 (by omega) 0 (by rfl)
def m_X4_hangs : x_M := (yX4_hangs, prog_6_method_68_code, 4, (some FieldType.int), 6, 136)
theorem v_X4_hangs : x_VM m_X4_hangs 1 := ⟨q984, q6, by decide +kernel, by decide +kernel, by decide +kernel⟩
theorem w_X4_hangs : x_VI m_X4_hangs := ⟨q982, q983⟩
theorem d_X4_hangs_0 : x_dec m_X4_hangs 0 (.aload_n 0) 1 1 := ⟨by decide +kernel, rfl⟩
theorem d_X4_hangs_1 : x_dec m_X4_hangs 1 (.iload_n 1) 1 2 := ⟨by decide +kernel, rfl⟩
theorem d_X4_hangs_2 : x_dec m_X4_hangs 2 (.invokevirtual 92) 3 5 := ⟨by decide +kernel, rfl⟩
theorem d_X4_hangs_5 : x_dec m_X4_hangs 5 (.ifCond .ne 10) 3 8 := ⟨by decide +kernel, rfl⟩
theorem d_X4_hangs_8 : x_dec m_X4_hangs 8 (.aload_n 0) 1 9 := ⟨by decide +kernel, rfl⟩
theorem d_X4_hangs_9 : x_dec m_X4_hangs 9 (.ldc 40) 2 11 := ⟨by decide +kernel, rfl⟩
theorem d_X4_hangs_11 : x_dec m_X4_hangs 11 (.invokevirtual 42) 3 14 := ⟨by decide +kernel, rfl⟩
theorem d_X4_hangs_14 : x_dec m_X4_hangs 14 (.ireturn) 1 15 := ⟨by decide +kernel, rfl⟩
theorem d_X4_hangs_15 : x_dec m_X4_hangs 15 (.iconst 0) 1 16 := ⟨by decide +kernel, rfl⟩
theorem d_X4_hangs_16 : x_dec m_X4_hangs 16 (.istore_n 2) 1 17 := ⟨by decide +kernel, rfl⟩
theorem d_X4_hangs_17 : x_dec m_X4_hangs 17 (.iconst 0) 1 18 := ⟨by decide +kernel, rfl⟩
theorem d_X4_hangs_18 : x_dec m_X4_hangs 18 (.istore_n 3) 1 19 := ⟨by decide +kernel, rfl⟩
theorem d_X4_hangs_19 : x_dec m_X4_hangs 19 (.iload_n 3) 1 20 := ⟨by decide +kernel, rfl⟩
theorem d_X4_hangs_20 : x_dec m_X4_hangs 20 (.bipush 16) 2 22 := ⟨by decide +kernel, rfl⟩
theorem d_X4_hangs_22 : x_dec m_X4_hangs 22 (.if_icmp .ge 49) 3 25 := ⟨by decide +kernel, rfl⟩
theorem d_X4_hangs_25 : x_dec m_X4_hangs 25 (.iload_n 2) 1 26 := ⟨by decide +kernel, rfl⟩
theorem d_X4_hangs_26 : x_dec m_X4_hangs 26 (.aload_n 0) 1 27 := ⟨by decide +kernel, rfl⟩
theorem d_X4_hangs_27 : x_dec m_X4_hangs 27 (.iload_n 3) 1 28 := ⟨by decide +kernel, rfl⟩
theorem d_X4_hangs_28 : x_dec m_X4_hangs 28 (.invokevirtual 74) 3 31 := ⟨by decide +kernel, rfl⟩
theorem d_X4_hangs_31 : x_dec m_X4_hangs 31 (.ifCond .eq 31) 3 34 := ⟨by decide +kernel, rfl⟩
theorem d_X4_hangs_34 : x_dec m_X4_hangs 34 (.aload_n 0) 1 35 := ⟨by decide +kernel, rfl⟩
theorem d_X4_hangs_35 : x_dec m_X4_hangs 35 (.iload_n 3) 1 36 := ⟨by decide +kernel, rfl⟩
theorem d_X4_hangs_36 : x_dec m_X4_hangs 36 (.invokevirtual 71) 3 39 := ⟨by decide +kernel, rfl⟩
theorem d_X4_hangs_39 : x_dec m_X4_hangs 39 (.aload_n 0) 1 40 := ⟨by decide +kernel, rfl⟩
theorem d_X4_hangs_40 : x_dec m_X4_hangs 40 (.iload_n 1) 1 41 := ⟨by decide +kernel, rfl⟩
theorem d_X4_hangs_41 : x_dec m_X4_hangs 41 (.iload_n 3) 1 42 := ⟨by decide +kernel, rfl⟩
theorem d_X4_hangs_42 : x_dec m_X4_hangs 42 (.invokevirtual 68) 3 45 := ⟨by decide +kernel, rfl⟩
theorem d_X4_hangs_45 : x_dec m_X4_hangs 45 (.isub) 1 46 := ⟨by decide +kernel, rfl⟩
theorem d_X4_hangs_46 : x_dec m_X4_hangs 46 (.aload_n 0) 1 47 := ⟨by decide +kernel, rfl⟩
theorem d_X4_hangs_47 : x_dec m_X4_hangs 47 (.getfield 9) 3 50 := ⟨by decide +kernel, rfl⟩
theorem d_X4_hangs_50 : x_dec m_X4_hangs 50 (.bipush 8) 2 52 := ⟨by decide +kernel, rfl⟩
theorem d_X4_hangs_52 : x_dec m_X4_hangs 52 (.iload_n 3) 1 53 := ⟨by decide +kernel, rfl⟩
theorem d_X4_hangs_53 : x_dec m_X4_hangs 53 (.iadd) 1 54 := ⟨by decide +kernel, rfl⟩
theorem d_X4_hangs_54 : x_dec m_X4_hangs 54 (.iaload) 1 55 := ⟨by decide +kernel, rfl⟩
theorem d_X4_hangs_55 : x_dec m_X4_hangs 55 (.if_icmp .ge 7) 3 58 := ⟨by decide +kernel, rfl⟩
theorem d_X4_hangs_58 : x_dec m_X4_hangs 58 (.iconst 1) 1 59 := ⟨by decide +kernel, rfl⟩
theorem d_X4_hangs_59 : x_dec m_X4_hangs 59 (.goto 4) 3 62 := ⟨by decide +kernel, rfl⟩
theorem d_X4_hangs_62 : x_dec m_X4_hangs 62 (.iconst 0) 1 63 := ⟨by decide +kernel, rfl⟩
theorem d_X4_hangs_63 : x_dec m_X4_hangs 63 (.iadd) 1 64 := ⟨by decide +kernel, rfl⟩
theorem d_X4_hangs_64 : x_dec m_X4_hangs 64 (.istore_n 2) 1 65 := ⟨by decide +kernel, rfl⟩
theorem d_X4_hangs_65 : x_dec m_X4_hangs 65 (.iinc 3 1) 3 68 := ⟨by decide +kernel, rfl⟩
theorem d_X4_hangs_68 : x_dec m_X4_hangs 68 (.goto (-49)) 3 71 := ⟨by decide +kernel, rfl⟩
theorem d_X4_hangs_71 : x_dec m_X4_hangs 71 (.iload_n 2) 1 72 := ⟨by decide +kernel, rfl⟩
theorem d_X4_hangs_72 : x_dec m_X4_hangs 72 (.ireturn) 1 73 := ⟨by decide +kernel, rfl⟩
set_option maxHeartbeats 4000000 in
set_option maxRecDepth 100000 in
theorem c_X4_hangs (l : Launch) (E : x_E) (μ : x_Mem) (g : x_SG) (hS : MS g μ) (hI : Inv g) (p : Int32) : x_Met l m_X4_hangs E [.ref (E.1 + 41), .int p] μ (x_I (fun z m => z = (F_hangs g p).1 ∧ MS (F_hangs g p).2 m ∧ ∀ id, id < 41 → m id = μ id)) := by
  obtain ⟨hR, hX, hD⟩ := hS
  have hWF := hI.1.1
  have hn7 := hWF.2.1
  have hpn := hWF.1
  have hF : ∀ id, id < 41 → μ id = μ id := fun _ _ => rfl
  refine x_enter (lv := [(0, .ref (E.1 + 41)), (1, .int p)]) (by decide +kernel) (Nat.le_of_ble_eq_true rfl) rfl ?_
  refine x_aload_n 0 d_X4_hangs_0 rfl rfl ?_
  refine x_iload_n 1 d_X4_hangs_1 rfl rfl ?_
  refine x_cvip (k := 41) (as := [.int p]) (c_X4_isOne l E μ hR hWF p) v_X4_isOne w_X4_isOne q791 o_M rfl ⟨Nat.le_of_ble_eq_true rfl, Nat.le_of_ble_eq_true rfl⟩ rfl (Nat.le_of_ble_eq_true rfl) d_X4_hangs_2 ?_
  refine x_ifb_ne 15 d_X4_hangs_5 (by decide) (fun c1 => ?_) (fun c1 => ?_)
  · skip
    obtain ⟨q, hq, rfl⟩ := isP_nat hWF c1
    refine x_iconst (x := 0) d_X4_hangs_15 (by decide) ?_
    refine x_istore_n [(2, .int 0), (0, .ref (E.1 + 41)), (1, .int (nI q))] d_X4_hangs_16 rfl (Nat.le_of_ble_eq_true rfl) rfl ?_
    refine x_iconst (x := 0) d_X4_hangs_17 (by decide) ?_
    refine x_istore_n [(3, .int 0), (2, .int 0), (0, .ref (E.1 + 41)), (1, .int (nI q))] d_X4_hangs_18 rfl (Nat.le_of_ble_eq_true rfl) rfl ?_
    have L2 : ∀ i : Nat, i ≤ 16 → ∀ r : Int32, (r = cntTo 0 (fun k => thereB (gA g) k && decide (sumF (gA g) (nI k) - bringsF (gA g) q (nI k) < gA g (8 + k))) i) → x_G l E m_X4_hangs (x_mv E m_X4_hangs (x_I (fun z m => z = (F_hangs g (nI q)).1 ∧ MS (F_hangs g (nI q)).2 m ∧ ∀ id, id < 41 → m id = μ id))) μ 19 [(3, .int (nI i)), (2, .int r), (0, .ref (E.1 + 41)), (1, .int (nI q))] [] := by
      refine x_down _ 16 (fun i hi4 ih3 => ?_)
      intro r hr
      refine x_iload_n 0 d_X4_hangs_19 rfl rfl ?_
      refine x_bipush (x := 16) d_X4_hangs_20 (by decide) ?_
      refine x_icmp_ge 71 d_X4_hangs_22 (by decide) (fun c5 => ?_) (fun c5 => ?_)
      · skip
        have hN := x_ge (N := 16) c5 rfl rfl (by omega) (by omega)
        refine x_iload_n 1 d_X4_hangs_71 rfl rfl ?_
        refine x_iret rfl d_X4_hangs_72 ?_
        have e7 : i = 16 := by omega
        subst e7
        subst hr
        have e9 : F_hangs g (nI q) = (cntTo 0 (fun k => thereB (gA g) k && decide (sumF (gA g) (nI k) - bringsF (gA g) q (nI k) < gA g (8 + k))) 16, g) := by simp [F_hangs, x_b_f, x_b_t, c1, nI_clamp (n := q) (by omega)]
        rw [e9]
        exact ⟨rfl, ⟨hR, hX, hD⟩, hF⟩
      · skip
        have hN := x_lt (N := 16) c5 rfl rfl (by omega) (by omega)
        refine x_iload_n 1 d_X4_hangs_25 rfl rfl ?_
        refine x_aload_n 2 d_X4_hangs_26 rfl rfl ?_
        refine x_iload_n 0 d_X4_hangs_27 rfl rfl ?_
        refine x_cvip (k := 41) (as := [.int (nI i)]) (c_X4_isThere l E μ hR hWF (k := i) (by omega)) v_X4_isThere w_X4_isThere q770 o_M rfl ⟨Nat.le_of_ble_eq_true rfl, Nat.le_of_ble_eq_true rfl⟩ rfl (Nat.le_of_ble_eq_true rfl) d_X4_hangs_28 ?_
        refine x_ifb_eq 62 d_X4_hangs_31 (by decide) (fun c6 => ?_) (fun c6 => ?_)
        · skip
          refine x_iconst (x := 0) d_X4_hangs_62 (by decide) ?_
          refine x_iadd d_X4_hangs_63 ?_
          refine x_istore_n [(2, .int (r + 0)), (3, .int (nI i)), (0, .ref (E.1 + 41)), (1, .int (nI q))] d_X4_hangs_64 rfl (Nat.le_of_ble_eq_true rfl) rfl ?_
          refine x_iinc [(3, .int (nI (i + 1))), (2, .int (r + 0)), (0, .ref (E.1 + 41)), (1, .int (nI q))] 1 d_X4_hangs_65 rfl (x_inc _) (Nat.le_of_ble_eq_true rfl) rfl ?_
          refine x_goto 19 d_X4_hangs_68 (by decide) ?_
          exact ih3 (i + 1) (by omega) (by omega) (r + 0) (by rw [hr, cntTo, if_neg (by rw [c6]; exact Bool.false_ne_true), Int32.add_zero])
        · skip
          refine x_aload_n 2 d_X4_hangs_34 rfl rfl ?_
          refine x_iload_n 0 d_X4_hangs_35 rfl rfl ?_
          refine x_cvip (k := 41) (as := [.int (nI i)]) (c_X4_sumAt l E μ hR hWF (k := i) (by omega)) v_X4_sumAt w_X4_sumAt q743 o_M rfl ⟨Nat.le_of_ble_eq_true rfl, Nat.le_of_ble_eq_true rfl⟩ rfl (Nat.le_of_ble_eq_true rfl) d_X4_hangs_36 ?_
          refine x_aload_n 2 d_X4_hangs_39 rfl rfl ?_
          refine x_iload_n 3 d_X4_hangs_40 rfl rfl ?_
          refine x_iload_n 0 d_X4_hangs_41 rfl rfl ?_
          refine x_cvip (k := 41) (as := [.int (nI q), .int (nI i)]) (c_X4_brings l E μ hR hWF (p := q) (k := i) (by omega) (by omega)) v_X4_brings w_X4_brings q747 o_M rfl ⟨Nat.le_of_ble_eq_true rfl, Nat.le_of_ble_eq_true rfl⟩ rfl (Nat.le_of_ble_eq_true rfl) d_X4_hangs_42 ?_
          refine x_isub d_X4_hangs_45 ?_
          refine x_aload_n 2 d_X4_hangs_46 rfl rfl ?_
          refine x_getr (j := 0) 42 x_c4 rfl (Nat.le_of_ble_eq_true rfl) q668 rfl d_X4_hangs_47 ?_
          refine x_bipush (x := 8) d_X4_hangs_50 (by decide) ?_
          refine x_iload_n 0 d_X4_hangs_52 rfl rfl ?_
          refine x_iadd d_X4_hangs_53 ?_
          rw [show (8 : Int32) + (nI i) = nI (8 + i) from nI_add 8 i]
          refine x_ialdN (z := (gA g) (8 + i)) 58 (8 + i) rfl rfl (by omega) (by decide) (hR (8 + i) (by omega)) d_X4_hangs_54 ?_
          refine x_icmp_ge 62 d_X4_hangs_55 (by decide) (fun c7 => ?_) (fun c7 => ?_)
          · skip
            refine x_iconst (x := 0) d_X4_hangs_62 (by decide) ?_
            refine x_iadd d_X4_hangs_63 ?_
            refine x_istore_n [(2, .int (r + 0)), (3, .int (nI i)), (0, .ref (E.1 + 41)), (1, .int (nI q))] d_X4_hangs_64 rfl (Nat.le_of_ble_eq_true rfl) rfl ?_
            refine x_iinc [(3, .int (nI (i + 1))), (2, .int (r + 0)), (0, .ref (E.1 + 41)), (1, .int (nI q))] 1 d_X4_hangs_65 rfl (x_inc _) (Nat.le_of_ble_eq_true rfl) rfl ?_
            refine x_goto 19 d_X4_hangs_68 (by decide) ?_
            exact ih3 (i + 1) (by omega) (by omega) (r + 0) (by rw [hr, cntTo, if_neg (by rw [decide_eq_false (Int32.not_lt.mpr c7)]; simp), Int32.add_zero])
          · skip
            refine x_iconst (x := 1) d_X4_hangs_58 (by decide) ?_
            refine x_goto 63 d_X4_hangs_59 (by decide) ?_
            refine x_iadd d_X4_hangs_63 ?_
            refine x_istore_n [(2, .int (r + 1)), (3, .int (nI i)), (0, .ref (E.1 + 41)), (1, .int (nI q))] d_X4_hangs_64 rfl (Nat.le_of_ble_eq_true rfl) rfl ?_
            refine x_iinc [(3, .int (nI (i + 1))), (2, .int (r + 1)), (0, .ref (E.1 + 41)), (1, .int (nI q))] 1 d_X4_hangs_65 rfl (x_inc _) (Nat.le_of_ble_eq_true rfl) rfl ?_
            refine x_goto 19 d_X4_hangs_68 (by decide) ?_
            exact ih3 (i + 1) (by omega) (by omega) (r + 1) (by rw [hr, cntTo, if_pos (by rw [c6, decide_eq_true (Int32.not_le.mp c7)]; rfl)])
    exact L2 0 (by omega) 0 (by rfl)
  · skip
    refine x_aload_n 0 d_X4_hangs_8 rfl rfl ?_
    refine x_ldc q734 d_X4_hangs_9 ?_
    refine x_cvi (k := 41) (as := [.int (-1000001)]) (c_X4_finds l E μ (i := 0) hD (by decide) (w := (-1000001)) (by decide)) v_X4_finds w_X4_finds q735 o_M rfl ⟨Nat.le_of_ble_eq_true rfl, Nat.le_of_ble_eq_true rfl⟩ rfl (Nat.le_of_ble_eq_true rfl) d_X4_hangs_11 ?_
    rintro _ μ8 ⟨rfl, hD9, hF10⟩
    have hR11 := MR.cg hR (μ' := μ8) (fun id hid => (hF10 _ (by omega)))
    have hX12 := MX.cg hX (μ' := μ8) (fun id hid => (hF10 _ (by omega)))
    have hF13 : ∀ id, id < 41 → μ8 id = μ id := fun id hid => (show μ8 id = μ id from (hF10 _ (by omega))).trans (hF id hid)
    refine x_iret rfl d_X4_hangs_14 ?_
    have e9 : F_hangs g p = fin g 0 := by simp [F_hangs, x_b_f, x_b_t, c1]
    rw [e9]
    exact ⟨rfl, MS.fin hR11 hX12 hD9, hF13⟩
def m_X4_when : x_M := (yX4_when, prog_6_method_45_code, 3, (some FieldType.int), 8, 179)
theorem v_X4_when : x_VM m_X4_when 1 := ⟨q881, q6, by decide +kernel, by decide +kernel, by decide +kernel⟩
theorem w_X4_when : x_VI m_X4_when := ⟨q879, q880⟩
theorem d_X4_when_0 : x_dec m_X4_when 0 (.iload_n 1) 1 1 := ⟨by decide +kernel, rfl⟩
theorem d_X4_when_1 : x_dec m_X4_when 1 (.invokestatic 140) 3 4 := ⟨by decide +kernel, rfl⟩
theorem d_X4_when_4 : x_dec m_X4_when 4 (.ifCond .ne 10) 3 7 := ⟨by decide +kernel, rfl⟩
theorem d_X4_when_7 : x_dec m_X4_when 7 (.aload_n 0) 1 8 := ⟨by decide +kernel, rfl⟩
theorem d_X4_when_8 : x_dec m_X4_when 8 (.ldc 40) 2 10 := ⟨by decide +kernel, rfl⟩
theorem d_X4_when_10 : x_dec m_X4_when 10 (.invokevirtual 42) 3 13 := ⟨by decide +kernel, rfl⟩
theorem d_X4_when_13 : x_dec m_X4_when 13 (.ireturn) 1 14 := ⟨by decide +kernel, rfl⟩
theorem d_X4_when_14 : x_dec m_X4_when 14 (.aload_n 0) 1 15 := ⟨by decide +kernel, rfl⟩
theorem d_X4_when_15 : x_dec m_X4_when 15 (.invokevirtual 134) 3 18 := ⟨by decide +kernel, rfl⟩
theorem d_X4_when_18 : x_dec m_X4_when 18 (.iconst 0) 1 19 := ⟨by decide +kernel, rfl⟩
theorem d_X4_when_19 : x_dec m_X4_when 19 (.istore_n 2) 1 20 := ⟨by decide +kernel, rfl⟩
theorem d_X4_when_20 : x_dec m_X4_when 20 (.iload_n 2) 1 21 := ⟨by decide +kernel, rfl⟩
theorem d_X4_when_21 : x_dec m_X4_when 21 (.bipush 100) 2 23 := ⟨by decide +kernel, rfl⟩
theorem d_X4_when_23 : x_dec m_X4_when 23 (.if_icmp .gt 23) 3 26 := ⟨by decide +kernel, rfl⟩
theorem d_X4_when_26 : x_dec m_X4_when 26 (.aload_n 0) 1 27 := ⟨by decide +kernel, rfl⟩
theorem d_X4_when_27 : x_dec m_X4_when 27 (.getfield 9) 3 30 := ⟨by decide +kernel, rfl⟩
theorem d_X4_when_30 : x_dec m_X4_when 30 (.iconst 1) 1 31 := ⟨by decide +kernel, rfl⟩
theorem d_X4_when_31 : x_dec m_X4_when 31 (.iaload) 1 32 := ⟨by decide +kernel, rfl⟩
theorem d_X4_when_32 : x_dec m_X4_when 32 (.iload_n 1) 1 33 := ⟨by decide +kernel, rfl⟩
theorem d_X4_when_33 : x_dec m_X4_when 33 (.if_icmp .eq 13) 3 36 := ⟨by decide +kernel, rfl⟩
theorem d_X4_when_36 : x_dec m_X4_when 36 (.aload_n 0) 1 37 := ⟨by decide +kernel, rfl⟩
theorem d_X4_when_37 : x_dec m_X4_when 37 (.invokevirtual 110) 3 40 := ⟨by decide +kernel, rfl⟩
theorem d_X4_when_40 : x_dec m_X4_when 40 (.iinc 2 1) 3 43 := ⟨by decide +kernel, rfl⟩
theorem d_X4_when_43 : x_dec m_X4_when 43 (.goto (-23)) 3 46 := ⟨by decide +kernel, rfl⟩
theorem d_X4_when_46 : x_dec m_X4_when 46 (.aload_n 0) 1 47 := ⟨by decide +kernel, rfl⟩
theorem d_X4_when_47 : x_dec m_X4_when 47 (.invokevirtual 131) 3 50 := ⟨by decide +kernel, rfl⟩
theorem d_X4_when_50 : x_dec m_X4_when 50 (.iload_n 2) 1 51 := ⟨by decide +kernel, rfl⟩
theorem d_X4_when_51 : x_dec m_X4_when 51 (.bipush 100) 2 53 := ⟨by decide +kernel, rfl⟩
theorem d_X4_when_53 : x_dec m_X4_when 53 (.if_icmp .le 12) 3 56 := ⟨by decide +kernel, rfl⟩
theorem d_X4_when_56 : x_dec m_X4_when 56 (.aload_n 0) 1 57 := ⟨by decide +kernel, rfl⟩
theorem d_X4_when_57 : x_dec m_X4_when 57 (.ldc 41) 2 59 := ⟨by decide +kernel, rfl⟩
theorem d_X4_when_59 : x_dec m_X4_when 59 (.invokevirtual 42) 3 62 := ⟨by decide +kernel, rfl⟩
theorem d_X4_when_62 : x_dec m_X4_when 62 (.goto 4) 3 65 := ⟨by decide +kernel, rfl⟩
theorem d_X4_when_65 : x_dec m_X4_when 65 (.iload_n 2) 1 66 := ⟨by decide +kernel, rfl⟩
theorem d_X4_when_66 : x_dec m_X4_when 66 (.ireturn) 1 67 := ⟨by decide +kernel, rfl⟩
set_option maxHeartbeats 4000000 in
set_option maxRecDepth 100000 in
theorem c_X4_when (l : Launch) (E : x_E) (μ : x_Mem) (g : x_SG) (hS : MS g μ) (hI : Inv g) (y : Int32) : x_Met l m_X4_when E [.ref (E.1 + 41), .int y] μ (x_I (fun z m => z = (F_when g y).1 ∧ MS (F_when g y).2 m ∧ ∀ id, id < 41 → m id = μ id)) := by
  obtain ⟨hR, hX, hD⟩ := hS
  have hWF := hI.1.1
  have hn7 := hWF.2.1
  have hpn := hWF.1
  have hF : ∀ id, id < 41 → μ id = μ id := fun _ _ => rfl
  refine x_enter (lv := [(0, .ref (E.1 + 41)), (1, .int y)]) (by decide +kernel) (Nat.le_of_ble_eq_true rfl) rfl ?_
  refine x_iload_n 1 d_X4_when_0 rfl rfl ?_
  refine x_csip (as := [.int y]) (c_X4_isYard l E μ y) v_X4_isYard q883 q882 rfl ⟨Nat.le_of_ble_eq_true rfl, Nat.le_of_ble_eq_true rfl⟩ rfl (Nat.le_of_ble_eq_true rfl) d_X4_when_1 ?_
  refine x_ifb_ne 14 d_X4_when_4 (by decide) (fun c1 => ?_) (fun c1 => ?_)
  · skip
    refine x_aload_n 0 d_X4_when_14 rfl rfl ?_
    refine x_cvv (k := 41) (as := []) (c_X4_thinks l E μ hR) v_X4_thinks w_X4_thinks q859 o_M rfl ⟨Nat.le_of_ble_eq_true rfl, Nat.le_of_ble_eq_true rfl⟩ rfl (Nat.le_of_ble_eq_true rfl) d_X4_when_15 ?_
    rintro μ2 ⟨hW3, hF4⟩
    have hR5 := MR.cg hR (μ' := μ2) (fun id hid => (hF4 _ (by omega)))
    have hX6 := MX.cg hX (μ' := μ2) (fun id hid => (hF4 _ (by omega)))
    have hD7 := MD.cg hD (μ' := μ2) (fun id hid => (hF4 _ (by omega)))
    have hF8 : ∀ id, id < 41 → μ2 id = μ id := fun id hid => (show μ2 id = μ id from (hF4 _ (by omega))).trans (hF id hid)
    refine x_iconst (x := 0) d_X4_when_18 (by decide) ?_
    refine x_istore_n [(2, .int 0), (0, .ref (E.1 + 41)), (1, .int y)] d_X4_when_19 rfl (Nat.le_of_ble_eq_true rfl) rfl ?_
    have L9 : ∀ i : Nat, i ≤ 101 → ∀ μ12 : x_Mem, (MR (hoursF (gA g) i) μ12) → (MW (gA g) μ12) → (MX g μ12) → (MD (gF g) μ12) → (∀ id, id < 41 → μ12 id = μ id) → (∀ j, j < i → decide (hoursF (gA g) j 1 = y) = false) → x_G l E m_X4_when (x_mv E m_X4_when (x_I (fun z m => z = (F_when g y).1 ∧ MS (F_when g y).2 m ∧ ∀ id, id < 41 → m id = μ id))) μ12 20 [(2, .int (nI i)), (0, .ref (E.1 + 41)), (1, .int y)] [] := by
      refine x_down _ 101 (fun i hi11 ih10 => ?_)
      intro μ12 hR1 hW1 hX1 hD1 hF1 hq
      refine x_iload_n 0 d_X4_when_20 rfl rfl ?_
      refine x_bipush (x := 100) d_X4_when_21 (by decide) ?_
      refine x_icmp_gt 46 d_X4_when_23 (by decide) (fun c13 => ?_) (fun c13 => ?_)
      · skip
        have hN := (nI_ltI (a := 100) (b := i) (by omega) (by omega)).mp c13
        refine x_aload_n 1 d_X4_when_46 rfl rfl ?_
        refine x_cvv (k := 41) (as := []) (c_X4_putsBack l E μ12 hW1) v_X4_putsBack w_X4_putsBack q870 o_M rfl ⟨Nat.le_of_ble_eq_true rfl, Nat.le_of_ble_eq_true rfl⟩ rfl (Nat.le_of_ble_eq_true rfl) d_X4_when_47 ?_
        rintro μ14 ⟨hR15, hF16⟩
        have hX17 := MX.cg hX1 (μ' := μ14) (fun id hid => (hF16 _ (by omega)))
        have hD18 := MD.cg hD1 (μ' := μ14) (fun id hid => (hF16 _ (by omega)))
        have hF19 : ∀ id, id < 41 → μ14 id = μ id := fun id hid => (show μ14 id = μ12 id from (hF16 _ (by omega))).trans (hF1 id hid)
        have hW20 := MW.cg hW1 (μ' := μ14) (fun id hid => (hF16 _ (by omega)))
        refine x_iload_n 0 d_X4_when_50 rfl rfl ?_
        refine x_bipush (x := 100) d_X4_when_51 (by decide) ?_
        refine x_icmp_le 65 d_X4_when_53 (by decide) (fun c21 => ?_) (fun c21 => ?_)
        · skip
          have hM := (nI_leI (a := i) (b := 100) (by omega) (by omega)).mp c21
          refine x_iload_n 0 d_X4_when_65 rfl rfl ?_
          refine x_iret rfl d_X4_when_66 ?_
          exact absurd hM (by omega)
        · skip
          have hM : ¬ i ≤ 100 := fun z => c21 (nI_le (a := i) (b := 100) z (by decide))
          refine x_aload_n 1 d_X4_when_56 rfl rfl ?_
          refine x_ldc q885 d_X4_when_57 ?_
          refine x_cvi (k := 41) (as := [.int (-1000004)]) (c_X4_finds l E μ14 (i := 3) hD18 (by decide) (w := (-1000004)) (by decide)) v_X4_finds w_X4_finds q735 o_M rfl ⟨Nat.le_of_ble_eq_true rfl, Nat.le_of_ble_eq_true rfl⟩ rfl (Nat.le_of_ble_eq_true rfl) d_X4_when_59 ?_
          rintro _ μ22 ⟨rfl, hD23, hF24⟩
          have hR25 := MR.cg hR15 (μ' := μ22) (fun id hid => (hF24 _ (by omega)))
          have hX26 := MX.cg hX17 (μ' := μ22) (fun id hid => (hF24 _ (by omega)))
          have hF27 : ∀ id, id < 41 → μ22 id = μ id := fun id hid => (show μ22 id = μ14 id from (hF24 _ (by omega))).trans (hF19 id hid)
          have hW28 := MW.cg hW20 (μ' := μ22) (fun id hid => (hF24 _ (by omega)))
          refine x_goto 66 d_X4_when_62 (by decide) ?_
          refine x_iret rfl d_X4_when_66 ?_
          have e7 : i = 101 := by omega
          subst e7
          have e8 := firstN_none hq
          have e9 : F_when g y = fin g 3 := by simp [F_when, x_b_f, x_b_t, c1, e8, orN]
          rw [e9]
          exact ⟨rfl, MS.fin hR25 hX26 hD23, hF27⟩
      · skip
        have hN : ¬ 100 < i := fun z => c13 (nI_lt z (by omega))
        refine x_aload_n 1 d_X4_when_26 rfl rfl ?_
        refine x_getr (j := 0) 42 x_c4 rfl (Nat.le_of_ble_eq_true rfl) q668 rfl d_X4_when_27 ?_
        refine x_iconst (x := 1) d_X4_when_30 (by decide) ?_
        refine x_ialdN (z := (hoursF (gA g) i) 1) 58 1 rfl rfl (by omega) (by decide) (hR1 1 (by omega)) d_X4_when_31 ?_
        refine x_iload_n 2 d_X4_when_32 rfl rfl ?_
        refine x_icmp_eq 46 d_X4_when_33 (by decide) (fun c29 => ?_) (fun c29 => ?_)
        · skip
          refine x_aload_n 1 d_X4_when_46 rfl rfl ?_
          refine x_cvv (k := 41) (as := []) (c_X4_putsBack l E μ12 hW1) v_X4_putsBack w_X4_putsBack q870 o_M rfl ⟨Nat.le_of_ble_eq_true rfl, Nat.le_of_ble_eq_true rfl⟩ rfl (Nat.le_of_ble_eq_true rfl) d_X4_when_47 ?_
          rintro μ30 ⟨hR31, hF32⟩
          have hX33 := MX.cg hX1 (μ' := μ30) (fun id hid => (hF32 _ (by omega)))
          have hD34 := MD.cg hD1 (μ' := μ30) (fun id hid => (hF32 _ (by omega)))
          have hF35 : ∀ id, id < 41 → μ30 id = μ id := fun id hid => (show μ30 id = μ12 id from (hF32 _ (by omega))).trans (hF1 id hid)
          have hW36 := MW.cg hW1 (μ' := μ30) (fun id hid => (hF32 _ (by omega)))
          refine x_iload_n 0 d_X4_when_50 rfl rfl ?_
          refine x_bipush (x := 100) d_X4_when_51 (by decide) ?_
          refine x_icmp_le 65 d_X4_when_53 (by decide) (fun c37 => ?_) (fun c37 => ?_)
          · skip
            have hM := (nI_leI (a := i) (b := 100) (by omega) (by omega)).mp c37
            refine x_iload_n 0 d_X4_when_65 rfl rfl ?_
            refine x_iret rfl d_X4_when_66 ?_
            have e8 := firstN_some (n := 101) (i := i) (by omega) (decide_eq_true c29) hq
            have e9 : F_when g y = (nI i, g) := by simp [F_when, x_b_f, x_b_t, c1, e8, orN, show i < 101 by omega]
            rw [e9]
            exact ⟨rfl, ⟨hR31, hX33, hD34⟩, hF35⟩
          · skip
            have hM : ¬ i ≤ 100 := fun z => c37 (nI_le (a := i) (b := 100) z (by decide))
            refine x_aload_n 1 d_X4_when_56 rfl rfl ?_
            refine x_ldc q885 d_X4_when_57 ?_
            refine x_cvi (k := 41) (as := [.int (-1000004)]) (c_X4_finds l E μ30 (i := 3) hD34 (by decide) (w := (-1000004)) (by decide)) v_X4_finds w_X4_finds q735 o_M rfl ⟨Nat.le_of_ble_eq_true rfl, Nat.le_of_ble_eq_true rfl⟩ rfl (Nat.le_of_ble_eq_true rfl) d_X4_when_59 ?_
            rintro _ μ38 ⟨rfl, hD39, hF40⟩
            have hR41 := MR.cg hR31 (μ' := μ38) (fun id hid => (hF40 _ (by omega)))
            have hX42 := MX.cg hX33 (μ' := μ38) (fun id hid => (hF40 _ (by omega)))
            have hF43 : ∀ id, id < 41 → μ38 id = μ id := fun id hid => (show μ38 id = μ30 id from (hF40 _ (by omega))).trans (hF35 id hid)
            have hW44 := MW.cg hW36 (μ' := μ38) (fun id hid => (hF40 _ (by omega)))
            refine x_goto 66 d_X4_when_62 (by decide) ?_
            refine x_iret rfl d_X4_when_66 ?_
            exact absurd hM (by omega)
        · skip
          refine x_aload_n 1 d_X4_when_36 rfl rfl ?_
          refine x_cvv (k := 41) (as := []) (c_X4_hour l E μ12 hR1 (WF.hours hWF i)) v_X4_hour w_X4_hour q823 o_M rfl ⟨Nat.le_of_ble_eq_true rfl, Nat.le_of_ble_eq_true rfl⟩ rfl (Nat.le_of_ble_eq_true rfl) d_X4_when_37 ?_
          rintro μ45 ⟨hR46, hF47⟩
          have hX48 := MX.cg hX1 (μ' := μ45) (fun id hid => (hF47 _ (by omega)))
          have hD49 := MD.cg hD1 (μ' := μ45) (fun id hid => (hF47 _ (by omega)))
          have hF50 : ∀ id, id < 41 → μ45 id = μ id := fun id hid => (show μ45 id = μ12 id from (hF47 _ (by omega))).trans (hF1 id hid)
          have hW51 := MW.cg hW1 (μ' := μ45) (fun id hid => (hF47 _ (by omega)))
          refine x_iinc [(2, .int (nI (i + 1))), (0, .ref (E.1 + 41)), (1, .int y)] 0 d_X4_when_40 rfl (x_inc _) (Nat.le_of_ble_eq_true rfl) rfl ?_
          refine x_goto 20 d_X4_when_43 (by decide) ?_
          exact ih10 (i + 1) (by omega) (by omega) μ45 hR46 hW51 hX48 hD49 hF50 (lt_s hq (decide_eq_false c29))
    exact L9 0 (by omega) μ2 hR5 hW3 hX6 hD7 hF8 (fun _ h => absurd h (Nat.not_lt_zero _))
  · skip
    refine x_aload_n 0 d_X4_when_7 rfl rfl ?_
    refine x_ldc q734 d_X4_when_8 ?_
    refine x_cvi (k := 41) (as := [.int (-1000001)]) (c_X4_finds l E μ (i := 0) hD (by decide) (w := (-1000001)) (by decide)) v_X4_finds w_X4_finds q735 o_M rfl ⟨Nat.le_of_ble_eq_true rfl, Nat.le_of_ble_eq_true rfl⟩ rfl (Nat.le_of_ble_eq_true rfl) d_X4_when_10 ?_
    rintro _ μ52 ⟨rfl, hD53, hF54⟩
    have hR55 := MR.cg hR (μ' := μ52) (fun id hid => (hF54 _ (by omega)))
    have hX56 := MX.cg hX (μ' := μ52) (fun id hid => (hF54 _ (by omega)))
    have hF57 : ∀ id, id < 41 → μ52 id = μ id := fun id hid => (show μ52 id = μ id from (hF54 _ (by omega))).trans (hF id hid)
    refine x_iret rfl d_X4_when_13 ?_
    have e9 : F_when g y = fin g 0 := by simp [F_when, x_b_f, x_b_t, c1]
    rw [e9]
    exact ⟨rfl, MS.fin hR55 hX56 hD53, hF57⟩
def m_X4_falls : x_M := (yX4_falls, prog_6_method_46_code, 2, (some FieldType.int), 8, 179)
theorem v_X4_falls : x_VM m_X4_falls 0 := ⟨q889, q6, by decide +kernel, by decide +kernel, by decide +kernel⟩
theorem w_X4_falls : x_VI m_X4_falls := ⟨q887, q888⟩
theorem d_X4_falls_0 : x_dec m_X4_falls 0 (.aload_n 0) 1 1 := ⟨by decide +kernel, rfl⟩
theorem d_X4_falls_1 : x_dec m_X4_falls 1 (.invokevirtual 134) 3 4 := ⟨by decide +kernel, rfl⟩
theorem d_X4_falls_4 : x_dec m_X4_falls 4 (.iconst 0) 1 5 := ⟨by decide +kernel, rfl⟩
theorem d_X4_falls_5 : x_dec m_X4_falls 5 (.istore_n 1) 1 6 := ⟨by decide +kernel, rfl⟩
theorem d_X4_falls_6 : x_dec m_X4_falls 6 (.iload_n 1) 1 7 := ⟨by decide +kernel, rfl⟩
theorem d_X4_falls_7 : x_dec m_X4_falls 7 (.bipush 100) 2 9 := ⟨by decide +kernel, rfl⟩
theorem d_X4_falls_9 : x_dec m_X4_falls 9 (.if_icmp .gt 20) 3 12 := ⟨by decide +kernel, rfl⟩
theorem d_X4_falls_12 : x_dec m_X4_falls 12 (.aload_n 0) 1 13 := ⟨by decide +kernel, rfl⟩
theorem d_X4_falls_13 : x_dec m_X4_falls 13 (.invokevirtual 103) 3 16 := ⟨by decide +kernel, rfl⟩
theorem d_X4_falls_16 : x_dec m_X4_falls 16 (.ifCond .ne 13) 3 19 := ⟨by decide +kernel, rfl⟩
theorem d_X4_falls_19 : x_dec m_X4_falls 19 (.aload_n 0) 1 20 := ⟨by decide +kernel, rfl⟩
theorem d_X4_falls_20 : x_dec m_X4_falls 20 (.invokevirtual 110) 3 23 := ⟨by decide +kernel, rfl⟩
theorem d_X4_falls_23 : x_dec m_X4_falls 23 (.iinc 1 1) 3 26 := ⟨by decide +kernel, rfl⟩
theorem d_X4_falls_26 : x_dec m_X4_falls 26 (.goto (-20)) 3 29 := ⟨by decide +kernel, rfl⟩
theorem d_X4_falls_29 : x_dec m_X4_falls 29 (.aload_n 0) 1 30 := ⟨by decide +kernel, rfl⟩
theorem d_X4_falls_30 : x_dec m_X4_falls 30 (.invokevirtual 131) 3 33 := ⟨by decide +kernel, rfl⟩
theorem d_X4_falls_33 : x_dec m_X4_falls 33 (.iload_n 1) 1 34 := ⟨by decide +kernel, rfl⟩
theorem d_X4_falls_34 : x_dec m_X4_falls 34 (.bipush 100) 2 36 := ⟨by decide +kernel, rfl⟩
theorem d_X4_falls_36 : x_dec m_X4_falls 36 (.if_icmp .le 12) 3 39 := ⟨by decide +kernel, rfl⟩
theorem d_X4_falls_39 : x_dec m_X4_falls 39 (.aload_n 0) 1 40 := ⟨by decide +kernel, rfl⟩
theorem d_X4_falls_40 : x_dec m_X4_falls 40 (.ldc 41) 2 42 := ⟨by decide +kernel, rfl⟩
theorem d_X4_falls_42 : x_dec m_X4_falls 42 (.invokevirtual 42) 3 45 := ⟨by decide +kernel, rfl⟩
theorem d_X4_falls_45 : x_dec m_X4_falls 45 (.goto 4) 3 48 := ⟨by decide +kernel, rfl⟩
theorem d_X4_falls_48 : x_dec m_X4_falls 48 (.iload_n 1) 1 49 := ⟨by decide +kernel, rfl⟩
theorem d_X4_falls_49 : x_dec m_X4_falls 49 (.ireturn) 1 50 := ⟨by decide +kernel, rfl⟩
set_option maxHeartbeats 4000000 in
set_option maxRecDepth 100000 in
theorem c_X4_falls (l : Launch) (E : x_E) (μ : x_Mem) (g : x_SG) (hS : MS g μ) (hI : Inv g) : x_Met l m_X4_falls E [.ref (E.1 + 41)] μ (x_I (fun z m => z = (F_falls g).1 ∧ MS (F_falls g).2 m ∧ ∀ id, id < 41 → m id = μ id)) := by
  obtain ⟨hR, hX, hD⟩ := hS
  have hWF := hI.1.1
  have hn7 := hWF.2.1
  have hpn := hWF.1
  have hF : ∀ id, id < 41 → μ id = μ id := fun _ _ => rfl
  refine x_enter (lv := [(0, .ref (E.1 + 41))]) (by decide +kernel) (Nat.le_of_ble_eq_true rfl) rfl ?_
  refine x_aload_n 0 d_X4_falls_0 rfl rfl ?_
  refine x_cvv (k := 41) (as := []) (c_X4_thinks l E μ hR) v_X4_thinks w_X4_thinks q859 o_M rfl ⟨Nat.le_of_ble_eq_true rfl, Nat.le_of_ble_eq_true rfl⟩ rfl (Nat.le_of_ble_eq_true rfl) d_X4_falls_1 ?_
  rintro μ1 ⟨hW2, hF3⟩
  have hR4 := MR.cg hR (μ' := μ1) (fun id hid => (hF3 _ (by omega)))
  have hX5 := MX.cg hX (μ' := μ1) (fun id hid => (hF3 _ (by omega)))
  have hD6 := MD.cg hD (μ' := μ1) (fun id hid => (hF3 _ (by omega)))
  have hF7 : ∀ id, id < 41 → μ1 id = μ id := fun id hid => (show μ1 id = μ id from (hF3 _ (by omega))).trans (hF id hid)
  refine x_iconst (x := 0) d_X4_falls_4 (by decide) ?_
  refine x_istore_n [(1, .int 0), (0, .ref (E.1 + 41))] d_X4_falls_5 rfl (Nat.le_of_ble_eq_true rfl) rfl ?_
  have L8 : ∀ i : Nat, i ≤ 101 → ∀ μ11 : x_Mem, (MR (hoursF (gA g) i) μ11) → (MW (gA g) μ11) → (MX g μ11) → (MD (gF g) μ11) → (∀ id, id < 41 → μ11 id = μ id) → (∀ j, j < i → fallB (hoursF (gA g) j) = false) → x_G l E m_X4_falls (x_mv E m_X4_falls (x_I (fun z m => z = (F_falls g).1 ∧ MS (F_falls g).2 m ∧ ∀ id, id < 41 → m id = μ id))) μ11 6 [(1, .int (nI i)), (0, .ref (E.1 + 41))] [] := by
    refine x_down _ 101 (fun i hi10 ih9 => ?_)
    intro μ11 hR1 hW1 hX1 hD1 hF1 hq
    refine x_iload_n 0 d_X4_falls_6 rfl rfl ?_
    refine x_bipush (x := 100) d_X4_falls_7 (by decide) ?_
    refine x_icmp_gt 29 d_X4_falls_9 (by decide) (fun c12 => ?_) (fun c12 => ?_)
    · skip
      have hN := (nI_ltI (a := 100) (b := i) (by omega) (by omega)).mp c12
      refine x_aload_n 1 d_X4_falls_29 rfl rfl ?_
      refine x_cvv (k := 41) (as := []) (c_X4_putsBack l E μ11 hW1) v_X4_putsBack w_X4_putsBack q870 o_M rfl ⟨Nat.le_of_ble_eq_true rfl, Nat.le_of_ble_eq_true rfl⟩ rfl (Nat.le_of_ble_eq_true rfl) d_X4_falls_30 ?_
      rintro μ13 ⟨hR14, hF15⟩
      have hX16 := MX.cg hX1 (μ' := μ13) (fun id hid => (hF15 _ (by omega)))
      have hD17 := MD.cg hD1 (μ' := μ13) (fun id hid => (hF15 _ (by omega)))
      have hF18 : ∀ id, id < 41 → μ13 id = μ id := fun id hid => (show μ13 id = μ11 id from (hF15 _ (by omega))).trans (hF1 id hid)
      have hW19 := MW.cg hW1 (μ' := μ13) (fun id hid => (hF15 _ (by omega)))
      refine x_iload_n 0 d_X4_falls_33 rfl rfl ?_
      refine x_bipush (x := 100) d_X4_falls_34 (by decide) ?_
      refine x_icmp_le 48 d_X4_falls_36 (by decide) (fun c20 => ?_) (fun c20 => ?_)
      · skip
        have hM := (nI_leI (a := i) (b := 100) (by omega) (by omega)).mp c20
        refine x_iload_n 0 d_X4_falls_48 rfl rfl ?_
        refine x_iret rfl d_X4_falls_49 ?_
        exact absurd hM (by omega)
      · skip
        have hM : ¬ i ≤ 100 := fun z => c20 (nI_le (a := i) (b := 100) z (by decide))
        refine x_aload_n 1 d_X4_falls_39 rfl rfl ?_
        refine x_ldc q885 d_X4_falls_40 ?_
        refine x_cvi (k := 41) (as := [.int (-1000004)]) (c_X4_finds l E μ13 (i := 3) hD17 (by decide) (w := (-1000004)) (by decide)) v_X4_finds w_X4_finds q735 o_M rfl ⟨Nat.le_of_ble_eq_true rfl, Nat.le_of_ble_eq_true rfl⟩ rfl (Nat.le_of_ble_eq_true rfl) d_X4_falls_42 ?_
        rintro _ μ21 ⟨rfl, hD22, hF23⟩
        have hR24 := MR.cg hR14 (μ' := μ21) (fun id hid => (hF23 _ (by omega)))
        have hX25 := MX.cg hX16 (μ' := μ21) (fun id hid => (hF23 _ (by omega)))
        have hF26 : ∀ id, id < 41 → μ21 id = μ id := fun id hid => (show μ21 id = μ13 id from (hF23 _ (by omega))).trans (hF18 id hid)
        have hW27 := MW.cg hW19 (μ' := μ21) (fun id hid => (hF23 _ (by omega)))
        refine x_goto 49 d_X4_falls_45 (by decide) ?_
        refine x_iret rfl d_X4_falls_49 ?_
        have e7 : i = 101 := by omega
        subst e7
        have e8 := firstN_none hq
        have e9 : F_falls g = fin g 3 := by simp [F_falls, x_b_f, x_b_t, e8, orN]
        rw [e9]
        exact ⟨rfl, MS.fin hR24 hX25 hD22, hF26⟩
    · skip
      have hN : ¬ 100 < i := fun z => c12 (nI_lt z (by omega))
      refine x_aload_n 1 d_X4_falls_12 rfl rfl ?_
      refine x_cvip (k := 41) (as := []) (c_X4_willFall l E μ11 hR1 (WF.hours hWF i)) v_X4_willFall w_X4_willFall q827 o_M rfl ⟨Nat.le_of_ble_eq_true rfl, Nat.le_of_ble_eq_true rfl⟩ rfl (Nat.le_of_ble_eq_true rfl) d_X4_falls_13 ?_
      refine x_ifb_ne 29 d_X4_falls_16 (by decide) (fun c28 => ?_) (fun c28 => ?_)
      · skip
        refine x_aload_n 1 d_X4_falls_29 rfl rfl ?_
        refine x_cvv (k := 41) (as := []) (c_X4_putsBack l E μ11 hW1) v_X4_putsBack w_X4_putsBack q870 o_M rfl ⟨Nat.le_of_ble_eq_true rfl, Nat.le_of_ble_eq_true rfl⟩ rfl (Nat.le_of_ble_eq_true rfl) d_X4_falls_30 ?_
        rintro μ29 ⟨hR30, hF31⟩
        have hX32 := MX.cg hX1 (μ' := μ29) (fun id hid => (hF31 _ (by omega)))
        have hD33 := MD.cg hD1 (μ' := μ29) (fun id hid => (hF31 _ (by omega)))
        have hF34 : ∀ id, id < 41 → μ29 id = μ id := fun id hid => (show μ29 id = μ11 id from (hF31 _ (by omega))).trans (hF1 id hid)
        have hW35 := MW.cg hW1 (μ' := μ29) (fun id hid => (hF31 _ (by omega)))
        refine x_iload_n 0 d_X4_falls_33 rfl rfl ?_
        refine x_bipush (x := 100) d_X4_falls_34 (by decide) ?_
        refine x_icmp_le 48 d_X4_falls_36 (by decide) (fun c36 => ?_) (fun c36 => ?_)
        · skip
          have hM := (nI_leI (a := i) (b := 100) (by omega) (by omega)).mp c36
          refine x_iload_n 0 d_X4_falls_48 rfl rfl ?_
          refine x_iret rfl d_X4_falls_49 ?_
          have e8 := firstN_some (n := 101) (i := i) (by omega) (c28) hq
          have e9 : F_falls g = (nI i, g) := by simp [F_falls, x_b_f, x_b_t, e8, orN, show i < 101 by omega]
          rw [e9]
          exact ⟨rfl, ⟨hR30, hX32, hD33⟩, hF34⟩
        · skip
          have hM : ¬ i ≤ 100 := fun z => c36 (nI_le (a := i) (b := 100) z (by decide))
          refine x_aload_n 1 d_X4_falls_39 rfl rfl ?_
          refine x_ldc q885 d_X4_falls_40 ?_
          refine x_cvi (k := 41) (as := [.int (-1000004)]) (c_X4_finds l E μ29 (i := 3) hD33 (by decide) (w := (-1000004)) (by decide)) v_X4_finds w_X4_finds q735 o_M rfl ⟨Nat.le_of_ble_eq_true rfl, Nat.le_of_ble_eq_true rfl⟩ rfl (Nat.le_of_ble_eq_true rfl) d_X4_falls_42 ?_
          rintro _ μ37 ⟨rfl, hD38, hF39⟩
          have hR40 := MR.cg hR30 (μ' := μ37) (fun id hid => (hF39 _ (by omega)))
          have hX41 := MX.cg hX32 (μ' := μ37) (fun id hid => (hF39 _ (by omega)))
          have hF42 : ∀ id, id < 41 → μ37 id = μ id := fun id hid => (show μ37 id = μ29 id from (hF39 _ (by omega))).trans (hF34 id hid)
          have hW43 := MW.cg hW35 (μ' := μ37) (fun id hid => (hF39 _ (by omega)))
          refine x_goto 49 d_X4_falls_45 (by decide) ?_
          refine x_iret rfl d_X4_falls_49 ?_
          exact absurd hM (by omega)
      · skip
        refine x_aload_n 1 d_X4_falls_19 rfl rfl ?_
        refine x_cvv (k := 41) (as := []) (c_X4_hour l E μ11 hR1 (WF.hours hWF i)) v_X4_hour w_X4_hour q823 o_M rfl ⟨Nat.le_of_ble_eq_true rfl, Nat.le_of_ble_eq_true rfl⟩ rfl (Nat.le_of_ble_eq_true rfl) d_X4_falls_20 ?_
        rintro μ44 ⟨hR45, hF46⟩
        have hX47 := MX.cg hX1 (μ' := μ44) (fun id hid => (hF46 _ (by omega)))
        have hD48 := MD.cg hD1 (μ' := μ44) (fun id hid => (hF46 _ (by omega)))
        have hF49 : ∀ id, id < 41 → μ44 id = μ id := fun id hid => (show μ44 id = μ11 id from (hF46 _ (by omega))).trans (hF1 id hid)
        have hW50 := MW.cg hW1 (μ' := μ44) (fun id hid => (hF46 _ (by omega)))
        refine x_iinc [(1, .int (nI (i + 1))), (0, .ref (E.1 + 41))] 0 d_X4_falls_23 rfl (x_inc _) (Nat.le_of_ble_eq_true rfl) rfl ?_
        refine x_goto 6 d_X4_falls_26 (by decide) ?_
        exact ih9 (i + 1) (by omega) (by omega) μ44 hR45 hW50 hX47 hD48 hF49 (lt_s hq c28)
  exact L8 0 (by omega) μ1 hR4 hW2 hX5 hD6 hF7 (fun _ h => absurd h (Nat.not_lt_zero _))
end
section
def m_X4_farthestBy : x_M := (yX4_farthestBy, prog_6_method_50_code, 8, (some FieldType.int), 10, 223)
theorem v_X4_farthestBy : x_VM m_X4_farthestBy 3 := ⟨q909, q6, by decide +kernel, by decide +kernel, by decide +kernel⟩
theorem w_X4_farthestBy : x_VI m_X4_farthestBy := ⟨q908, qs43⟩
theorem d_X4_farthestBy_0 : x_dec m_X4_farthestBy 0 (.aload_n 0) 1 1 := ⟨by decide +kernel, rfl⟩
theorem d_X4_farthestBy_1 : x_dec m_X4_farthestBy 1 (.invokevirtual 134) 3 4 := ⟨by decide +kernel, rfl⟩
theorem d_X4_farthestBy_4 : x_dec m_X4_farthestBy 4 (.iconst 0) 1 5 := ⟨by decide +kernel, rfl⟩
theorem d_X4_farthestBy_5 : x_dec m_X4_farthestBy 5 (.istore 4) 2 7 := ⟨by decide +kernel, rfl⟩
theorem d_X4_farthestBy_7 : x_dec m_X4_farthestBy 7 (.iconst (-1)) 1 8 := ⟨by decide +kernel, rfl⟩
theorem d_X4_farthestBy_8 : x_dec m_X4_farthestBy 8 (.istore 5) 2 10 := ⟨by decide +kernel, rfl⟩
theorem d_X4_farthestBy_10 : x_dec m_X4_farthestBy 10 (.iconst 0) 1 11 := ⟨by decide +kernel, rfl⟩
theorem d_X4_farthestBy_11 : x_dec m_X4_farthestBy 11 (.istore 6) 2 13 := ⟨by decide +kernel, rfl⟩
theorem d_X4_farthestBy_13 : x_dec m_X4_farthestBy 13 (.iload 6) 2 15 := ⟨by decide +kernel, rfl⟩
theorem d_X4_farthestBy_15 : x_dec m_X4_farthestBy 15 (.iload_n 2) 1 16 := ⟨by decide +kernel, rfl⟩
theorem d_X4_farthestBy_16 : x_dec m_X4_farthestBy 16 (.if_icmp .ge 56) 3 19 := ⟨by decide +kernel, rfl⟩
theorem d_X4_farthestBy_19 : x_dec m_X4_farthestBy 19 (.aload_n 0) 1 20 := ⟨by decide +kernel, rfl⟩
theorem d_X4_farthestBy_20 : x_dec m_X4_farthestBy 20 (.getfield 9) 3 23 := ⟨by decide +kernel, rfl⟩
theorem d_X4_farthestBy_23 : x_dec m_X4_farthestBy 23 (.iload_n 1) 1 24 := ⟨by decide +kernel, rfl⟩
theorem d_X4_farthestBy_24 : x_dec m_X4_farthestBy 24 (.iload 6) 2 26 := ⟨by decide +kernel, rfl⟩
theorem d_X4_farthestBy_26 : x_dec m_X4_farthestBy 26 (.iastore) 1 27 := ⟨by decide +kernel, rfl⟩
theorem d_X4_farthestBy_27 : x_dec m_X4_farthestBy 27 (.aload_n 0) 1 28 := ⟨by decide +kernel, rfl⟩
theorem d_X4_farthestBy_28 : x_dec m_X4_farthestBy 28 (.iload_n 3) 1 29 := ⟨by decide +kernel, rfl⟩
theorem d_X4_farthestBy_29 : x_dec m_X4_farthestBy 29 (.invokevirtual 137) 3 32 := ⟨by decide +kernel, rfl⟩
theorem d_X4_farthestBy_32 : x_dec m_X4_farthestBy 32 (.istore 7) 2 34 := ⟨by decide +kernel, rfl⟩
theorem d_X4_farthestBy_34 : x_dec m_X4_farthestBy 34 (.iload 7) 2 36 := ⟨by decide +kernel, rfl⟩
theorem d_X4_farthestBy_36 : x_dec m_X4_farthestBy 36 (.iload 5) 2 38 := ⟨by decide +kernel, rfl⟩
theorem d_X4_farthestBy_38 : x_dec m_X4_farthestBy 38 (.if_icmp .le 8) 3 41 := ⟨by decide +kernel, rfl⟩
theorem d_X4_farthestBy_41 : x_dec m_X4_farthestBy 41 (.iload 6) 2 43 := ⟨by decide +kernel, rfl⟩
theorem d_X4_farthestBy_43 : x_dec m_X4_farthestBy 43 (.goto 5) 3 46 := ⟨by decide +kernel, rfl⟩
theorem d_X4_farthestBy_46 : x_dec m_X4_farthestBy 46 (.iload 4) 2 48 := ⟨by decide +kernel, rfl⟩
theorem d_X4_farthestBy_48 : x_dec m_X4_farthestBy 48 (.istore 4) 2 50 := ⟨by decide +kernel, rfl⟩
theorem d_X4_farthestBy_50 : x_dec m_X4_farthestBy 50 (.iload 7) 2 52 := ⟨by decide +kernel, rfl⟩
theorem d_X4_farthestBy_52 : x_dec m_X4_farthestBy 52 (.iload 5) 2 54 := ⟨by decide +kernel, rfl⟩
theorem d_X4_farthestBy_54 : x_dec m_X4_farthestBy 54 (.if_icmp .le 8) 3 57 := ⟨by decide +kernel, rfl⟩
theorem d_X4_farthestBy_57 : x_dec m_X4_farthestBy 57 (.iload 7) 2 59 := ⟨by decide +kernel, rfl⟩
theorem d_X4_farthestBy_59 : x_dec m_X4_farthestBy 59 (.goto 5) 3 62 := ⟨by decide +kernel, rfl⟩
theorem d_X4_farthestBy_62 : x_dec m_X4_farthestBy 62 (.iload 5) 2 64 := ⟨by decide +kernel, rfl⟩
theorem d_X4_farthestBy_64 : x_dec m_X4_farthestBy 64 (.istore 5) 2 66 := ⟨by decide +kernel, rfl⟩
theorem d_X4_farthestBy_66 : x_dec m_X4_farthestBy 66 (.iinc 6 1) 3 69 := ⟨by decide +kernel, rfl⟩
theorem d_X4_farthestBy_69 : x_dec m_X4_farthestBy 69 (.goto (-56)) 3 72 := ⟨by decide +kernel, rfl⟩
theorem d_X4_farthestBy_72 : x_dec m_X4_farthestBy 72 (.iload 4) 2 74 := ⟨by decide +kernel, rfl⟩
theorem d_X4_farthestBy_74 : x_dec m_X4_farthestBy 74 (.ireturn) 1 75 := ⟨by decide +kernel, rfl⟩
set_option maxHeartbeats 4000000 in
set_option maxRecDepth 100000 in
theorem c_X4_farthestBy (l : Launch) (E : x_E) (μ : x_Mem) {a : x_St} (hR : MR a μ) (hI : WF a) {j N h : Nat} (hj : j < 58) (hN0 : N < 100) (hh : h < 1000) (hU : ∀ k, k < N → WF (upd a j (nI k))) : x_Met l m_X4_farthestBy E [.ref (E.1 + 41), .int (nI j), .int (nI N), .int (nI h)] μ (x_I (fun z m => z = (bestTo (fun k => hoursF (upd a j (nI k)) h 1) N).1 ∧ MR a m ∧ ∀ id, (id ≠ 42 ∧ id ≠ 44 ∧ id ≠ 46) → m id = μ id)) := by
  have hn7 := hI.2.1
  have hpn := hI.1
  have hF : ∀ id, (id ≠ 42 ∧ id ≠ 44 ∧ id ≠ 46) → μ id = μ id := fun _ _ => rfl
  refine x_enter (lv := [(0, .ref (E.1 + 41)), (1, .int (nI j)), (2, .int (nI N)), (3, .int (nI h))]) (by decide +kernel) (Nat.le_of_ble_eq_true rfl) rfl ?_
  refine x_aload_n 0 d_X4_farthestBy_0 rfl rfl ?_
  refine x_cvv (k := 41) (as := []) (c_X4_thinks l E μ hR) v_X4_thinks w_X4_thinks q859 o_M rfl ⟨Nat.le_of_ble_eq_true rfl, Nat.le_of_ble_eq_true rfl⟩ rfl (Nat.le_of_ble_eq_true rfl) d_X4_farthestBy_1 ?_
  rintro μ1 ⟨hW2, hF3⟩
  have hR4 := MR.cg hR (μ' := μ1) (fun id hid => (hF3 _ (by omega)))
  have hF5 : ∀ id, (id ≠ 42 ∧ id ≠ 44 ∧ id ≠ 46) → μ1 id = μ id := fun id hid => (show μ1 id = μ id from (hF3 _ (by omega))).trans (hF id hid)
  refine x_iconst (x := 0) d_X4_farthestBy_4 (by decide) ?_
  refine x_istore [(4, .int 0), (0, .ref (E.1 + 41)), (1, .int (nI j)), (2, .int (nI N)), (3, .int (nI h))] d_X4_farthestBy_5 (Nat.le_of_ble_eq_true rfl) rfl ?_
  refine x_iconst (x := (-1)) d_X4_farthestBy_7 (by decide) ?_
  refine x_istore [(5, .int (-1)), (4, .int 0), (0, .ref (E.1 + 41)), (1, .int (nI j)), (2, .int (nI N)), (3, .int (nI h))] d_X4_farthestBy_8 (Nat.le_of_ble_eq_true rfl) rfl ?_
  refine x_iconst (x := 0) d_X4_farthestBy_10 (by decide) ?_
  refine x_istore [(6, .int 0), (5, .int (-1)), (4, .int 0), (0, .ref (E.1 + 41)), (1, .int (nI j)), (2, .int (nI N)), (3, .int (nI h))] d_X4_farthestBy_11 (Nat.le_of_ble_eq_true rfl) rfl ?_
  have L6 : ∀ v : Nat, v ≤ N → ∀ b : Int32, ∀ m : Int32, ∀ μ9 : x_Mem, (b = (bestTo (fun k => hoursF (upd a j (nI k)) h 1) v).1) → (m = (bestTo (fun k => hoursF (upd a j (nI k)) h 1) v).2) → (MR a μ9) → (MW a μ9) → (∀ id, (id ≠ 42 ∧ id ≠ 44 ∧ id ≠ 46) → μ9 id = μ id) → x_G l E m_X4_farthestBy (x_mv E m_X4_farthestBy (x_I (fun z m => z = (bestTo (fun k => hoursF (upd a j (nI k)) h 1) N).1 ∧ MR a m ∧ ∀ id, (id ≠ 42 ∧ id ≠ 44 ∧ id ≠ 46) → m id = μ id))) μ9 13 [(6, .int (nI v)), (5, .int m), (4, .int b), (0, .ref (E.1 + 41)), (1, .int (nI j)), (2, .int (nI N)), (3, .int (nI h))] [] := by
    refine x_down _ N (fun v hi8 ih7 => ?_)
    intro b m μ9 hb hm hR1 hW1 hF1
    refine x_iload 0 d_X4_farthestBy_13 rfl ?_
    refine x_iload_n 5 d_X4_farthestBy_15 rfl rfl ?_
    refine x_icmp_ge 72 d_X4_farthestBy_16 (by decide) (fun c10 => ?_) (fun c10 => ?_)
    · skip
      have hN := x_ge (N := N) c10 rfl rfl (by omega) (by omega)
      refine x_iload 2 d_X4_farthestBy_72 rfl ?_
      refine x_iret rfl d_X4_farthestBy_74 ?_
      have e7 : v = N := by omega
      subst e7
      exact ⟨hb, hR1, hF1⟩
    · skip
      have hN := x_lt (N := N) c10 rfl rfl (by omega) (by omega)
      refine x_aload_n 3 d_X4_farthestBy_19 rfl rfl ?_
      refine x_getr (j := 0) 42 x_c4 rfl (Nat.le_of_ble_eq_true rfl) q668 rfl d_X4_farthestBy_20 ?_
      refine x_iload_n 4 d_X4_farthestBy_23 rfl rfl ?_
      refine x_iload 0 d_X4_farthestBy_24 rfl ?_
      refine x_iastNG 58 j rfl rfl (by omega) (by decide) d_X4_farthestBy_26 (fun μ11 eμ11 => ?_)
      have hR12 : MR (upd a (j) (nI v)) μ11 := MR.w hR1 eμ11
      have hF13 : ∀ id, (id ≠ 42 ∧ id ≠ 44 ∧ id ≠ 46) → μ11 id = μ id := fun id hid => (show μ11 id = μ9 id from (by rw [eμ11, upd2_ne _ _ _ (by omega)])).trans (hF1 id hid)
      have hW14 := MW.cg hW1 (μ' := μ11) (fun id hid => (by rw [eμ11, upd2_ne _ _ _ (by omega)]))
      refine x_aload_n 3 d_X4_farthestBy_27 rfl rfl ?_
      refine x_iload_n 6 d_X4_farthestBy_28 rfl rfl ?_
      refine x_cvi (k := 41) (as := [.int (nI h)]) (c_X4_getsTo l E μ11 hR12 (hU v (by omega)) hW14 (h := h) (by omega)) v_X4_getsTo w_X4_getsTo q866 o_M rfl ⟨Nat.le_of_ble_eq_true rfl, Nat.le_of_ble_eq_true rfl⟩ rfl (Nat.le_of_ble_eq_true rfl) d_X4_farthestBy_29 ?_
      rintro _ μ15 ⟨rfl, hR16, hW17, hF18⟩
      have hF19 : ∀ id, (id ≠ 42 ∧ id ≠ 44 ∧ id ≠ 46) → μ15 id = μ id := fun id hid => (show μ15 id = μ11 id from (hF18 _ (by omega))).trans (hF13 id hid)
      refine x_istore [(7, .int (hoursF (upd a (j) (nI v)) h 1)), (6, .int (nI v)), (5, .int m), (4, .int b), (0, .ref (E.1 + 41)), (1, .int (nI j)), (2, .int (nI N)), (3, .int (nI h))] d_X4_farthestBy_32 (Nat.le_of_ble_eq_true rfl) rfl ?_
      refine x_iload 0 d_X4_farthestBy_34 rfl ?_
      refine x_iload 2 d_X4_farthestBy_36 rfl ?_
      refine x_icmp_le 46 d_X4_farthestBy_38 (by decide) (fun c20 => ?_) (fun c20 => ?_)
      · skip
        refine x_iload 3 d_X4_farthestBy_46 rfl ?_
        refine x_istore [(4, .int b), (7, .int (hoursF (upd a (j) (nI v)) h 1)), (6, .int (nI v)), (5, .int m), (0, .ref (E.1 + 41)), (1, .int (nI j)), (2, .int (nI N)), (3, .int (nI h))] d_X4_farthestBy_48 (Nat.le_of_ble_eq_true rfl) rfl ?_
        refine x_iload 1 d_X4_farthestBy_50 rfl ?_
        refine x_iload 3 d_X4_farthestBy_52 rfl ?_
        refine x_icmp_le 62 d_X4_farthestBy_54 (by decide) (fun c21 => ?_) (fun c21 => ?_)
        · skip
          refine x_iload 3 d_X4_farthestBy_62 rfl ?_
          refine x_istore [(5, .int m), (4, .int b), (7, .int (hoursF (upd a (j) (nI v)) h 1)), (6, .int (nI v)), (0, .ref (E.1 + 41)), (1, .int (nI j)), (2, .int (nI N)), (3, .int (nI h))] d_X4_farthestBy_64 (Nat.le_of_ble_eq_true rfl) rfl ?_
          refine x_iinc [(6, .int (nI (v + 1))), (5, .int m), (4, .int b), (7, .int (hoursF (upd a (j) (nI v)) h 1)), (0, .ref (E.1 + 41)), (1, .int (nI j)), (2, .int (nI N)), (3, .int (nI h))] 3 d_X4_farthestBy_66 rfl (x_inc _) (Nat.le_of_ble_eq_true rfl) rfl ?_
          refine x_goto 13 d_X4_farthestBy_69 (by decide) ?_
          refine x_lv [0, 1, 2, 4, 5, 6, 7] rfl ?_
          exact ih7 (v + 1) (by omega) (by omega) b m μ15 (by rw [bestTo_f (f := (fun k => hoursF (upd a j (nI k)) h 1)) (by rw [← hm]; exact c20)]; exact hb) (by rw [bestTo_f (f := (fun k => hoursF (upd a j (nI k)) h 1)) (by rw [← hm]; exact c20)]; exact hm) hR16 hW17 hF19
        · skip
          refine x_iload 1 d_X4_farthestBy_57 rfl ?_
          refine x_goto 64 d_X4_farthestBy_59 (by decide) ?_
          refine x_istore [(5, .int (hoursF (upd a (j) (nI v)) h 1)), (4, .int b), (7, .int (hoursF (upd a (j) (nI v)) h 1)), (6, .int (nI v)), (0, .ref (E.1 + 41)), (1, .int (nI j)), (2, .int (nI N)), (3, .int (nI h))] d_X4_farthestBy_64 (Nat.le_of_ble_eq_true rfl) rfl ?_
          refine x_iinc [(6, .int (nI (v + 1))), (5, .int (hoursF (upd a (j) (nI v)) h 1)), (4, .int b), (7, .int (hoursF (upd a (j) (nI v)) h 1)), (0, .ref (E.1 + 41)), (1, .int (nI j)), (2, .int (nI N)), (3, .int (nI h))] 3 d_X4_farthestBy_66 rfl (x_inc _) (Nat.le_of_ble_eq_true rfl) rfl ?_
          refine x_goto 13 d_X4_farthestBy_69 (by decide) ?_
          refine x_lv [0, 1, 2, 4, 5, 6, 7] rfl ?_
          exact ih7 (v + 1) (by omega) (by omega) b (hoursF (upd a (j) (nI v)) h 1) μ15 (absurd c20 c21) (absurd c20 c21) hR16 hW17 hF19
      · skip
        refine x_iload 1 d_X4_farthestBy_41 rfl ?_
        refine x_goto 48 d_X4_farthestBy_43 (by decide) ?_
        refine x_istore [(4, .int (nI v)), (7, .int (hoursF (upd a (j) (nI v)) h 1)), (6, .int (nI v)), (5, .int m), (0, .ref (E.1 + 41)), (1, .int (nI j)), (2, .int (nI N)), (3, .int (nI h))] d_X4_farthestBy_48 (Nat.le_of_ble_eq_true rfl) rfl ?_
        refine x_iload 1 d_X4_farthestBy_50 rfl ?_
        refine x_iload 3 d_X4_farthestBy_52 rfl ?_
        refine x_icmp_le 62 d_X4_farthestBy_54 (by decide) (fun c22 => ?_) (fun c22 => ?_)
        · skip
          refine x_iload 3 d_X4_farthestBy_62 rfl ?_
          refine x_istore [(5, .int m), (4, .int (nI v)), (7, .int (hoursF (upd a (j) (nI v)) h 1)), (6, .int (nI v)), (0, .ref (E.1 + 41)), (1, .int (nI j)), (2, .int (nI N)), (3, .int (nI h))] d_X4_farthestBy_64 (Nat.le_of_ble_eq_true rfl) rfl ?_
          refine x_iinc [(6, .int (nI (v + 1))), (5, .int m), (4, .int (nI v)), (7, .int (hoursF (upd a (j) (nI v)) h 1)), (0, .ref (E.1 + 41)), (1, .int (nI j)), (2, .int (nI N)), (3, .int (nI h))] 3 d_X4_farthestBy_66 rfl (x_inc _) (Nat.le_of_ble_eq_true rfl) rfl ?_
          refine x_goto 13 d_X4_farthestBy_69 (by decide) ?_
          refine x_lv [0, 1, 2, 4, 5, 6, 7] rfl ?_
          exact ih7 (v + 1) (by omega) (by omega) (nI v) m μ15 (absurd c22 c20) (absurd c22 c20) hR16 hW17 hF19
        · skip
          refine x_iload 1 d_X4_farthestBy_57 rfl ?_
          refine x_goto 64 d_X4_farthestBy_59 (by decide) ?_
          refine x_istore [(5, .int (hoursF (upd a (j) (nI v)) h 1)), (4, .int (nI v)), (7, .int (hoursF (upd a (j) (nI v)) h 1)), (6, .int (nI v)), (0, .ref (E.1 + 41)), (1, .int (nI j)), (2, .int (nI N)), (3, .int (nI h))] d_X4_farthestBy_64 (Nat.le_of_ble_eq_true rfl) rfl ?_
          refine x_iinc [(6, .int (nI (v + 1))), (5, .int (hoursF (upd a (j) (nI v)) h 1)), (4, .int (nI v)), (7, .int (hoursF (upd a (j) (nI v)) h 1)), (0, .ref (E.1 + 41)), (1, .int (nI j)), (2, .int (nI N)), (3, .int (nI h))] 3 d_X4_farthestBy_66 rfl (x_inc _) (Nat.le_of_ble_eq_true rfl) rfl ?_
          refine x_goto 13 d_X4_farthestBy_69 (by decide) ?_
          refine x_lv [0, 1, 2, 4, 5, 6, 7] rfl ?_
          exact ih7 (v + 1) (by omega) (by omega) (nI v) (hoursF (upd a (j) (nI v)) h 1) μ15 (by rw [bestTo_t (f := (fun k => hoursF (upd a j (nI k)) h 1)) (by rw [← hm]; exact c20)] <;> rfl) (by rw [bestTo_t (f := (fun k => hoursF (upd a j (nI k)) h 1)) (by rw [← hm]; exact c20)] <;> rfl) hR16 hW17 hF19
  exact L6 0 (by omega) 0 (-1) μ1 (by rfl) (by rfl) hR4 hW2 hF5
def m_X4_kindFor : x_M := (yX4_kindFor, prog_6_method_51_code, 3, (some FieldType.int), 11, 250)
theorem v_X4_kindFor : x_VM m_X4_kindFor 2 := ⟨q905, q6, by decide +kernel, by decide +kernel, by decide +kernel⟩
theorem w_X4_kindFor : x_VI m_X4_kindFor := ⟨q903, q904⟩
theorem d_X4_kindFor_0 : x_dec m_X4_kindFor 0 (.aload_n 0) 1 1 := ⟨by decide +kernel, rfl⟩
theorem d_X4_kindFor_1 : x_dec m_X4_kindFor 1 (.iload_n 1) 1 2 := ⟨by decide +kernel, rfl⟩
theorem d_X4_kindFor_2 : x_dec m_X4_kindFor 2 (.invokevirtual 92) 3 5 := ⟨by decide +kernel, rfl⟩
theorem d_X4_kindFor_5 : x_dec m_X4_kindFor 5 (.ifCond .eq 29) 3 8 := ⟨by decide +kernel, rfl⟩
theorem d_X4_kindFor_8 : x_dec m_X4_kindFor 8 (.iload_n 2) 1 9 := ⟨by decide +kernel, rfl⟩
theorem d_X4_kindFor_9 : x_dec m_X4_kindFor 9 (.iconst 0) 1 10 := ⟨by decide +kernel, rfl⟩
theorem d_X4_kindFor_10 : x_dec m_X4_kindFor 10 (.bipush 60) 2 12 := ⟨by decide +kernel, rfl⟩
theorem d_X4_kindFor_12 : x_dec m_X4_kindFor 12 (.invokestatic 46) 3 15 := ⟨by decide +kernel, rfl⟩
theorem d_X4_kindFor_15 : x_dec m_X4_kindFor 15 (.ifCond .eq 19) 3 18 := ⟨by decide +kernel, rfl⟩
theorem d_X4_kindFor_18 : x_dec m_X4_kindFor 18 (.aload_n 0) 1 19 := ⟨by decide +kernel, rfl⟩
theorem d_X4_kindFor_19 : x_dec m_X4_kindFor 19 (.bipush 24) 2 21 := ⟨by decide +kernel, rfl⟩
theorem d_X4_kindFor_21 : x_dec m_X4_kindFor 21 (.iconst 3) 1 22 := ⟨by decide +kernel, rfl⟩
theorem d_X4_kindFor_22 : x_dec m_X4_kindFor 22 (.iload_n 1) 1 23 := ⟨by decide +kernel, rfl⟩
theorem d_X4_kindFor_23 : x_dec m_X4_kindFor 23 (.imul) 1 24 := ⟨by decide +kernel, rfl⟩
theorem d_X4_kindFor_24 : x_dec m_X4_kindFor 24 (.iadd) 1 25 := ⟨by decide +kernel, rfl⟩
theorem d_X4_kindFor_25 : x_dec m_X4_kindFor 25 (.bipush 7) 2 27 := ⟨by decide +kernel, rfl⟩
theorem d_X4_kindFor_27 : x_dec m_X4_kindFor 27 (.iload_n 2) 1 28 := ⟨by decide +kernel, rfl⟩
theorem d_X4_kindFor_28 : x_dec m_X4_kindFor 28 (.invokevirtual 146) 3 31 := ⟨by decide +kernel, rfl⟩
theorem d_X4_kindFor_31 : x_dec m_X4_kindFor 31 (.goto 9) 3 34 := ⟨by decide +kernel, rfl⟩
theorem d_X4_kindFor_34 : x_dec m_X4_kindFor 34 (.aload_n 0) 1 35 := ⟨by decide +kernel, rfl⟩
theorem d_X4_kindFor_35 : x_dec m_X4_kindFor 35 (.ldc 40) 2 37 := ⟨by decide +kernel, rfl⟩
theorem d_X4_kindFor_37 : x_dec m_X4_kindFor 37 (.invokevirtual 42) 3 40 := ⟨by decide +kernel, rfl⟩
theorem d_X4_kindFor_40 : x_dec m_X4_kindFor 40 (.ireturn) 1 41 := ⟨by decide +kernel, rfl⟩
set_option maxHeartbeats 4000000 in
set_option maxRecDepth 100000 in
theorem c_X4_kindFor (l : Launch) (E : x_E) (μ : x_Mem) (g : x_SG) (hS : MS g μ) (hI : Inv g) (p n : Int32) : x_Met l m_X4_kindFor E [.ref (E.1 + 41), .int p, .int n] μ (x_I (fun z m => z = (F_kindFor g p n).1 ∧ MS (F_kindFor g p n).2 m ∧ ∀ id, id < 41 → m id = μ id)) := by
  obtain ⟨hR, hX, hD⟩ := hS
  have hWF := hI.1.1
  have hn7 := hWF.2.1
  have hpn := hWF.1
  have hF : ∀ id, id < 41 → μ id = μ id := fun _ _ => rfl
  refine x_enter (lv := [(0, .ref (E.1 + 41)), (1, .int p), (2, .int n)]) (by decide +kernel) (Nat.le_of_ble_eq_true rfl) rfl ?_
  refine x_aload_n 0 d_X4_kindFor_0 rfl rfl ?_
  refine x_iload_n 1 d_X4_kindFor_1 rfl rfl ?_
  refine x_cvip (k := 41) (as := [.int p]) (c_X4_isOne l E μ hR hWF p) v_X4_isOne w_X4_isOne q791 o_M rfl ⟨Nat.le_of_ble_eq_true rfl, Nat.le_of_ble_eq_true rfl⟩ rfl (Nat.le_of_ble_eq_true rfl) d_X4_kindFor_2 ?_
  refine x_ifb_eq 34 d_X4_kindFor_5 (by decide) (fun c1 => ?_) (fun c1 => ?_)
  · skip
    refine x_aload_n 0 d_X4_kindFor_34 rfl rfl ?_
    refine x_ldc q734 d_X4_kindFor_35 ?_
    refine x_cvi (k := 41) (as := [.int (-1000001)]) (c_X4_finds l E μ (i := 0) hD (by decide) (w := (-1000001)) (by decide)) v_X4_finds w_X4_finds q735 o_M rfl ⟨Nat.le_of_ble_eq_true rfl, Nat.le_of_ble_eq_true rfl⟩ rfl (Nat.le_of_ble_eq_true rfl) d_X4_kindFor_37 ?_
    rintro _ μ2 ⟨rfl, hD3, hF4⟩
    have hR5 := MR.cg hR (μ' := μ2) (fun id hid => (hF4 _ (by omega)))
    have hX6 := MX.cg hX (μ' := μ2) (fun id hid => (hF4 _ (by omega)))
    have hF7 : ∀ id, id < 41 → μ2 id = μ id := fun id hid => (show μ2 id = μ id from (hF4 _ (by omega))).trans (hF id hid)
    refine x_iret rfl d_X4_kindFor_40 ?_
    have e9 : F_kindFor g p n = fin g 0 := by simp [F_kindFor, x_b_f, x_b_t, c1]
    rw [e9]
    exact ⟨rfl, MS.fin hR5 hX6 hD3, hF7⟩
  · skip
    obtain ⟨q, hq, rfl⟩ := isP_nat hWF c1
    refine x_iload_n 2 d_X4_kindFor_8 rfl rfl ?_
    refine x_iconst (x := 0) d_X4_kindFor_9 (by decide) ?_
    refine x_bipush (x := 60) d_X4_kindFor_10 (by decide) ?_
    refine x_csip (as := [.int n, .int 0, .int 60]) (c_X4_in l E μ n 0 60) v_X4_in q728 q727 rfl ⟨Nat.le_of_ble_eq_true rfl, Nat.le_of_ble_eq_true rfl⟩ rfl (Nat.le_of_ble_eq_true rfl) d_X4_kindFor_12 ?_
    refine x_ifb_eq 34 d_X4_kindFor_15 (by decide) (fun c8 => ?_) (fun c8 => ?_)
    · skip
      refine x_aload_n 0 d_X4_kindFor_34 rfl rfl ?_
      refine x_ldc q734 d_X4_kindFor_35 ?_
      refine x_cvi (k := 41) (as := [.int (-1000001)]) (c_X4_finds l E μ (i := 0) hD (by decide) (w := (-1000001)) (by decide)) v_X4_finds w_X4_finds q735 o_M rfl ⟨Nat.le_of_ble_eq_true rfl, Nat.le_of_ble_eq_true rfl⟩ rfl (Nat.le_of_ble_eq_true rfl) d_X4_kindFor_37 ?_
      rintro _ μ9 ⟨rfl, hD10, hF11⟩
      have hR12 := MR.cg hR (μ' := μ9) (fun id hid => (hF11 _ (by omega)))
      have hX13 := MX.cg hX (μ' := μ9) (fun id hid => (hF11 _ (by omega)))
      have hF14 : ∀ id, id < 41 → μ9 id = μ id := fun id hid => (show μ9 id = μ id from (hF11 _ (by omega))).trans (hF id hid)
      refine x_iret rfl d_X4_kindFor_40 ?_
      have e9 : F_kindFor g (nI q) n = fin g 0 := by simp [F_kindFor, x_b_f, x_b_t, c1, c8, nI_clamp (n := q) (by omega)]
      rw [e9]
      exact ⟨rfl, MS.fin hR12 hX13 hD10, hF14⟩
    · skip
      obtain ⟨h, hh, rfl⟩ := inR_nat (n := 60) (by decide) c8
      refine x_aload_n 0 d_X4_kindFor_18 rfl rfl ?_
      refine x_bipush (x := 24) d_X4_kindFor_19 (by decide) ?_
      refine x_iconst (x := 3) d_X4_kindFor_21 (by decide) ?_
      refine x_iload_n 1 d_X4_kindFor_22 rfl rfl ?_
      refine x_imul d_X4_kindFor_23 ?_
      rw [show (3 : Int32) * (nI q) = nI (3 * q) from nI_mulN 3 q]
      refine x_iadd d_X4_kindFor_24 ?_
      rw [show (24 : Int32) + (nI (3 * q)) = nI (24 + (3 * q)) from nI_add 24 (3 * q)]
      refine x_bipush (x := 7) d_X4_kindFor_25 (by decide) ?_
      refine x_iload_n 2 d_X4_kindFor_27 rfl rfl ?_
      refine x_cvi (k := 41) (as := [.int (nI (24 + (3 * q))), .int 7, .int (nI h)]) (c_X4_farthestBy l E μ hR hWF (j := (24 + (3 * q))) (N := 7) (h := h) (by omega) (by omega) (by omega) (fun k hk => hWF.upK (p := q) (k := k) (by omega) (by omega))) v_X4_farthestBy w_X4_farthestBy q906 o_M rfl ⟨Nat.le_of_ble_eq_true rfl, Nat.le_of_ble_eq_true rfl⟩ rfl (Nat.le_of_ble_eq_true rfl) d_X4_kindFor_28 ?_
      rintro _ μ15 ⟨rfl, hR16, hF17⟩
      have hX18 := MX.cg hX (μ' := μ15) (fun id hid => (hF17 _ (by omega)))
      have hD19 := MD.cg hD (μ' := μ15) (fun id hid => (hF17 _ (by omega)))
      have hF20 : ∀ id, id < 41 → μ15 id = μ id := fun id hid => (show μ15 id = μ id from (hF17 _ (by omega))).trans (hF id hid)
      refine x_goto 40 d_X4_kindFor_31 (by decide) ?_
      refine x_iret rfl d_X4_kindFor_40 ?_
      have e9 : F_kindFor g (nI q) (nI h) = ((bestTo (fun k => hoursF (upd (gA g) ((24 + (3 * q))) (nI k)) h 1) 7).1, g) := by simp [F_kindFor, x_b_f, x_b_t, c1, c8, nI_clamp (n := q) (by omega), nI_clamp (n := h) (by omega)]
      rw [e9]
      exact ⟨rfl, ⟨hR16, hX18, hD19⟩, hF20⟩
def m_X4_seat : x_M := (yX4_seat, prog_6_method_59_code, 3, (some FieldType.int), 11, 250)
theorem v_X4_seat : x_VM m_X4_seat 2 := ⟨q948, q6, by decide +kernel, by decide +kernel, by decide +kernel⟩
theorem w_X4_seat : x_VI m_X4_seat := ⟨q946, q947⟩
theorem d_X4_seat_0 : x_dec m_X4_seat 0 (.aload_n 0) 1 1 := ⟨by decide +kernel, rfl⟩
theorem d_X4_seat_1 : x_dec m_X4_seat 1 (.iload_n 1) 1 2 := ⟨by decide +kernel, rfl⟩
theorem d_X4_seat_2 : x_dec m_X4_seat 2 (.invokevirtual 92) 3 5 := ⟨by decide +kernel, rfl⟩
theorem d_X4_seat_5 : x_dec m_X4_seat 5 (.ifCond .eq 31) 3 8 := ⟨by decide +kernel, rfl⟩
theorem d_X4_seat_8 : x_dec m_X4_seat 8 (.iload_n 2) 1 9 := ⟨by decide +kernel, rfl⟩
theorem d_X4_seat_9 : x_dec m_X4_seat 9 (.iconst 0) 1 10 := ⟨by decide +kernel, rfl⟩
theorem d_X4_seat_10 : x_dec m_X4_seat 10 (.bipush 60) 2 12 := ⟨by decide +kernel, rfl⟩
theorem d_X4_seat_12 : x_dec m_X4_seat 12 (.invokestatic 46) 3 15 := ⟨by decide +kernel, rfl⟩
theorem d_X4_seat_15 : x_dec m_X4_seat 15 (.ifCond .eq 21) 3 18 := ⟨by decide +kernel, rfl⟩
theorem d_X4_seat_18 : x_dec m_X4_seat 18 (.aload_n 0) 1 19 := ⟨by decide +kernel, rfl⟩
theorem d_X4_seat_19 : x_dec m_X4_seat 19 (.bipush 24) 2 21 := ⟨by decide +kernel, rfl⟩
theorem d_X4_seat_21 : x_dec m_X4_seat 21 (.iconst 3) 1 22 := ⟨by decide +kernel, rfl⟩
theorem d_X4_seat_22 : x_dec m_X4_seat 22 (.iload_n 1) 1 23 := ⟨by decide +kernel, rfl⟩
theorem d_X4_seat_23 : x_dec m_X4_seat 23 (.imul) 1 24 := ⟨by decide +kernel, rfl⟩
theorem d_X4_seat_24 : x_dec m_X4_seat 24 (.iadd) 1 25 := ⟨by decide +kernel, rfl⟩
theorem d_X4_seat_25 : x_dec m_X4_seat 25 (.iconst 1) 1 26 := ⟨by decide +kernel, rfl⟩
theorem d_X4_seat_26 : x_dec m_X4_seat 26 (.iadd) 1 27 := ⟨by decide +kernel, rfl⟩
theorem d_X4_seat_27 : x_dec m_X4_seat 27 (.bipush 17) 2 29 := ⟨by decide +kernel, rfl⟩
theorem d_X4_seat_29 : x_dec m_X4_seat 29 (.iload_n 2) 1 30 := ⟨by decide +kernel, rfl⟩
theorem d_X4_seat_30 : x_dec m_X4_seat 30 (.invokevirtual 146) 3 33 := ⟨by decide +kernel, rfl⟩
theorem d_X4_seat_33 : x_dec m_X4_seat 33 (.goto 9) 3 36 := ⟨by decide +kernel, rfl⟩
theorem d_X4_seat_36 : x_dec m_X4_seat 36 (.aload_n 0) 1 37 := ⟨by decide +kernel, rfl⟩
theorem d_X4_seat_37 : x_dec m_X4_seat 37 (.ldc 40) 2 39 := ⟨by decide +kernel, rfl⟩
theorem d_X4_seat_39 : x_dec m_X4_seat 39 (.invokevirtual 42) 3 42 := ⟨by decide +kernel, rfl⟩
theorem d_X4_seat_42 : x_dec m_X4_seat 42 (.ireturn) 1 43 := ⟨by decide +kernel, rfl⟩
set_option maxHeartbeats 4000000 in
set_option maxRecDepth 100000 in
theorem c_X4_seat (l : Launch) (E : x_E) (μ : x_Mem) (g : x_SG) (hS : MS g μ) (hI : Inv g) (p n : Int32) : x_Met l m_X4_seat E [.ref (E.1 + 41), .int p, .int n] μ (x_I (fun z m => z = (F_seat g p n).1 ∧ MS (F_seat g p n).2 m ∧ ∀ id, id < 41 → m id = μ id)) := by
  obtain ⟨hR, hX, hD⟩ := hS
  have hWF := hI.1.1
  have hn7 := hWF.2.1
  have hpn := hWF.1
  have hF : ∀ id, id < 41 → μ id = μ id := fun _ _ => rfl
  refine x_enter (lv := [(0, .ref (E.1 + 41)), (1, .int p), (2, .int n)]) (by decide +kernel) (Nat.le_of_ble_eq_true rfl) rfl ?_
  refine x_aload_n 0 d_X4_seat_0 rfl rfl ?_
  refine x_iload_n 1 d_X4_seat_1 rfl rfl ?_
  refine x_cvip (k := 41) (as := [.int p]) (c_X4_isOne l E μ hR hWF p) v_X4_isOne w_X4_isOne q791 o_M rfl ⟨Nat.le_of_ble_eq_true rfl, Nat.le_of_ble_eq_true rfl⟩ rfl (Nat.le_of_ble_eq_true rfl) d_X4_seat_2 ?_
  refine x_ifb_eq 36 d_X4_seat_5 (by decide) (fun c1 => ?_) (fun c1 => ?_)
  · skip
    refine x_aload_n 0 d_X4_seat_36 rfl rfl ?_
    refine x_ldc q734 d_X4_seat_37 ?_
    refine x_cvi (k := 41) (as := [.int (-1000001)]) (c_X4_finds l E μ (i := 0) hD (by decide) (w := (-1000001)) (by decide)) v_X4_finds w_X4_finds q735 o_M rfl ⟨Nat.le_of_ble_eq_true rfl, Nat.le_of_ble_eq_true rfl⟩ rfl (Nat.le_of_ble_eq_true rfl) d_X4_seat_39 ?_
    rintro _ μ2 ⟨rfl, hD3, hF4⟩
    have hR5 := MR.cg hR (μ' := μ2) (fun id hid => (hF4 _ (by omega)))
    have hX6 := MX.cg hX (μ' := μ2) (fun id hid => (hF4 _ (by omega)))
    have hF7 : ∀ id, id < 41 → μ2 id = μ id := fun id hid => (show μ2 id = μ id from (hF4 _ (by omega))).trans (hF id hid)
    refine x_iret rfl d_X4_seat_42 ?_
    have e9 : F_seat g p n = fin g 0 := by simp [F_seat, x_b_f, x_b_t, c1]
    rw [e9]
    exact ⟨rfl, MS.fin hR5 hX6 hD3, hF7⟩
  · skip
    obtain ⟨q, hq, rfl⟩ := isP_nat hWF c1
    refine x_iload_n 2 d_X4_seat_8 rfl rfl ?_
    refine x_iconst (x := 0) d_X4_seat_9 (by decide) ?_
    refine x_bipush (x := 60) d_X4_seat_10 (by decide) ?_
    refine x_csip (as := [.int n, .int 0, .int 60]) (c_X4_in l E μ n 0 60) v_X4_in q728 q727 rfl ⟨Nat.le_of_ble_eq_true rfl, Nat.le_of_ble_eq_true rfl⟩ rfl (Nat.le_of_ble_eq_true rfl) d_X4_seat_12 ?_
    refine x_ifb_eq 36 d_X4_seat_15 (by decide) (fun c8 => ?_) (fun c8 => ?_)
    · skip
      refine x_aload_n 0 d_X4_seat_36 rfl rfl ?_
      refine x_ldc q734 d_X4_seat_37 ?_
      refine x_cvi (k := 41) (as := [.int (-1000001)]) (c_X4_finds l E μ (i := 0) hD (by decide) (w := (-1000001)) (by decide)) v_X4_finds w_X4_finds q735 o_M rfl ⟨Nat.le_of_ble_eq_true rfl, Nat.le_of_ble_eq_true rfl⟩ rfl (Nat.le_of_ble_eq_true rfl) d_X4_seat_39 ?_
      rintro _ μ9 ⟨rfl, hD10, hF11⟩
      have hR12 := MR.cg hR (μ' := μ9) (fun id hid => (hF11 _ (by omega)))
      have hX13 := MX.cg hX (μ' := μ9) (fun id hid => (hF11 _ (by omega)))
      have hF14 : ∀ id, id < 41 → μ9 id = μ id := fun id hid => (show μ9 id = μ id from (hF11 _ (by omega))).trans (hF id hid)
      refine x_iret rfl d_X4_seat_42 ?_
      have e9 : F_seat g (nI q) n = fin g 0 := by simp [F_seat, x_b_f, x_b_t, c1, c8, nI_clamp (n := q) (by omega)]
      rw [e9]
      exact ⟨rfl, MS.fin hR12 hX13 hD10, hF14⟩
    · skip
      obtain ⟨h, hh, rfl⟩ := inR_nat (n := 60) (by decide) c8
      refine x_aload_n 0 d_X4_seat_18 rfl rfl ?_
      refine x_bipush (x := 24) d_X4_seat_19 (by decide) ?_
      refine x_iconst (x := 3) d_X4_seat_21 (by decide) ?_
      refine x_iload_n 1 d_X4_seat_22 rfl rfl ?_
      refine x_imul d_X4_seat_23 ?_
      rw [show (3 : Int32) * (nI q) = nI (3 * q) from nI_mulN 3 q]
      refine x_iadd d_X4_seat_24 ?_
      rw [show (24 : Int32) + (nI (3 * q)) = nI (24 + (3 * q)) from nI_add 24 (3 * q)]
      refine x_iconst (x := 1) d_X4_seat_25 (by decide) ?_
      refine x_iadd d_X4_seat_26 ?_
      rw [show (nI (24 + (3 * q))) + (1 : Int32) = nI ((24 + (3 * q)) + 1) from nI_add (24 + (3 * q)) 1]
      refine x_bipush (x := 17) d_X4_seat_27 (by decide) ?_
      refine x_iload_n 2 d_X4_seat_29 rfl rfl ?_
      refine x_cvi (k := 41) (as := [.int (nI ((24 + (3 * q)) + 1)), .int 17, .int (nI h)]) (c_X4_farthestBy l E μ hR hWF (j := ((24 + (3 * q)) + 1)) (N := 17) (h := h) (by omega) (by omega) (by omega) (fun k hk => hWF.upW (p := q) (by omega) (Or.inr ⟨k, by omega, rfl⟩))) v_X4_farthestBy w_X4_farthestBy q906 o_M rfl ⟨Nat.le_of_ble_eq_true rfl, Nat.le_of_ble_eq_true rfl⟩ rfl (Nat.le_of_ble_eq_true rfl) d_X4_seat_30 ?_
      rintro _ μ15 ⟨rfl, hR16, hF17⟩
      have hX18 := MX.cg hX (μ' := μ15) (fun id hid => (hF17 _ (by omega)))
      have hD19 := MD.cg hD (μ' := μ15) (fun id hid => (hF17 _ (by omega)))
      have hF20 : ∀ id, id < 41 → μ15 id = μ id := fun id hid => (show μ15 id = μ id from (hF17 _ (by omega))).trans (hF id hid)
      refine x_goto 42 d_X4_seat_33 (by decide) ?_
      refine x_iret rfl d_X4_seat_42 ?_
      have e9 : F_seat g (nI q) (nI h) = ((bestTo (fun k => hoursF (upd (gA g) (((24 + (3 * q)) + 1)) (nI k)) h 1) 17).1, g) := by simp [F_seat, x_b_f, x_b_t, c1, c8, nI_clamp (n := q) (by omega), nI_clamp (n := h) (by omega)]
      rw [e9]
      exact ⟨rfl, ⟨hR16, hX18, hD19⟩, hF20⟩
def m_X4_person : x_M := (yX4_person, prog_6_method_24_code, 3, (some FieldType.int), 2, 47)
theorem v_X4_person : x_VM m_X4_person 2 := ⟨q777, q6, by decide +kernel, by decide +kernel, by decide +kernel⟩
theorem w_X4_person : x_VI m_X4_person := ⟨q775, q776⟩
theorem d_X4_person_0 : x_dec m_X4_person 0 (.iload_n 1) 1 1 := ⟨by decide +kernel, rfl⟩
theorem d_X4_person_1 : x_dec m_X4_person 1 (.iconst 0) 1 2 := ⟨by decide +kernel, rfl⟩
theorem d_X4_person_2 : x_dec m_X4_person 2 (.bipush 6) 2 4 := ⟨by decide +kernel, rfl⟩
theorem d_X4_person_4 : x_dec m_X4_person 4 (.invokestatic 46) 3 7 := ⟨by decide +kernel, rfl⟩
theorem d_X4_person_7 : x_dec m_X4_person 7 (.ifCond .eq 13) 3 10 := ⟨by decide +kernel, rfl⟩
theorem d_X4_person_10 : x_dec m_X4_person 10 (.iload_n 2) 1 11 := ⟨by decide +kernel, rfl⟩
theorem d_X4_person_11 : x_dec m_X4_person 11 (.iconst (-1)) 1 12 := ⟨by decide +kernel, rfl⟩
theorem d_X4_person_12 : x_dec m_X4_person 12 (.bipush 16) 2 14 := ⟨by decide +kernel, rfl⟩
theorem d_X4_person_14 : x_dec m_X4_person 14 (.invokestatic 46) 3 17 := ⟨by decide +kernel, rfl⟩
theorem d_X4_person_17 : x_dec m_X4_person 17 (.ifCond .ne 10) 3 20 := ⟨by decide +kernel, rfl⟩
theorem d_X4_person_20 : x_dec m_X4_person 20 (.aload_n 0) 1 21 := ⟨by decide +kernel, rfl⟩
theorem d_X4_person_21 : x_dec m_X4_person 21 (.ldc 40) 2 23 := ⟨by decide +kernel, rfl⟩
theorem d_X4_person_23 : x_dec m_X4_person 23 (.invokevirtual 42) 3 26 := ⟨by decide +kernel, rfl⟩
theorem d_X4_person_26 : x_dec m_X4_person 26 (.ireturn) 1 27 := ⟨by decide +kernel, rfl⟩
theorem d_X4_person_27 : x_dec m_X4_person 27 (.aload_n 0) 1 28 := ⟨by decide +kernel, rfl⟩
theorem d_X4_person_28 : x_dec m_X4_person 28 (.getfield 9) 3 31 := ⟨by decide +kernel, rfl⟩
theorem d_X4_person_31 : x_dec m_X4_person 31 (.bipush 7) 2 33 := ⟨by decide +kernel, rfl⟩
theorem d_X4_person_33 : x_dec m_X4_person 33 (.iaload) 1 34 := ⟨by decide +kernel, rfl⟩
theorem d_X4_person_34 : x_dec m_X4_person 34 (.bipush 8) 2 36 := ⟨by decide +kernel, rfl⟩
theorem d_X4_person_36 : x_dec m_X4_person 36 (.if_icmp .ne 12) 3 39 := ⟨by decide +kernel, rfl⟩
theorem d_X4_person_39 : x_dec m_X4_person 39 (.aload_n 0) 1 40 := ⟨by decide +kernel, rfl⟩
theorem d_X4_person_40 : x_dec m_X4_person 40 (.ldc 88) 2 42 := ⟨by decide +kernel, rfl⟩
theorem d_X4_person_42 : x_dec m_X4_person 42 (.invokevirtual 42) 3 45 := ⟨by decide +kernel, rfl⟩
theorem d_X4_person_45 : x_dec m_X4_person 45 (.goto 11) 3 48 := ⟨by decide +kernel, rfl⟩
theorem d_X4_person_48 : x_dec m_X4_person 48 (.aload_n 0) 1 49 := ⟨by decide +kernel, rfl⟩
theorem d_X4_person_49 : x_dec m_X4_person 49 (.iload_n 1) 1 50 := ⟨by decide +kernel, rfl⟩
theorem d_X4_person_50 : x_dec m_X4_person 50 (.iload_n 2) 1 51 := ⟨by decide +kernel, rfl⟩
theorem d_X4_person_51 : x_dec m_X4_person 51 (.bipush 50) 2 53 := ⟨by decide +kernel, rfl⟩
theorem d_X4_person_53 : x_dec m_X4_person 53 (.invokevirtual 89) 3 56 := ⟨by decide +kernel, rfl⟩
theorem d_X4_person_56 : x_dec m_X4_person 56 (.ireturn) 1 57 := ⟨by decide +kernel, rfl⟩
set_option maxHeartbeats 4000000 in
set_option maxRecDepth 100000 in
theorem c_X4_person (l : Launch) (E : x_E) (μ : x_Mem) (g : x_SG) (hS : MS g μ) (hI : Inv g) (k w : Int32) : x_Met l m_X4_person E [.ref (E.1 + 41), .int k, .int w] μ (x_I (fun z m => z = (F_person g k w).1 ∧ MS (F_person g k w).2 m ∧ ∀ id, id < 41 → m id = μ id)) := by
  obtain ⟨hR, hX, hD⟩ := hS
  have hWF := hI.1.1
  have hn7 := hWF.2.1
  have hpn := hWF.1
  have hF : ∀ id, id < 41 → μ id = μ id := fun _ _ => rfl
  refine x_enter (lv := [(0, .ref (E.1 + 41)), (1, .int k), (2, .int w)]) (by decide +kernel) (Nat.le_of_ble_eq_true rfl) rfl ?_
  refine x_iload_n 1 d_X4_person_0 rfl rfl ?_
  refine x_iconst (x := 0) d_X4_person_1 (by decide) ?_
  refine x_bipush (x := 6) d_X4_person_2 (by decide) ?_
  refine x_csip (as := [.int k, .int 0, .int 6]) (c_X4_in l E μ k 0 6) v_X4_in q728 q727 rfl ⟨Nat.le_of_ble_eq_true rfl, Nat.le_of_ble_eq_true rfl⟩ rfl (Nat.le_of_ble_eq_true rfl) d_X4_person_4 ?_
  refine x_ifb_eq 20 d_X4_person_7 (by decide) (fun c1 => ?_) (fun c1 => ?_)
  · skip
    refine x_aload_n 0 d_X4_person_20 rfl rfl ?_
    refine x_ldc q734 d_X4_person_21 ?_
    refine x_cvi (k := 41) (as := [.int (-1000001)]) (c_X4_finds l E μ (i := 0) hD (by decide) (w := (-1000001)) (by decide)) v_X4_finds w_X4_finds q735 o_M rfl ⟨Nat.le_of_ble_eq_true rfl, Nat.le_of_ble_eq_true rfl⟩ rfl (Nat.le_of_ble_eq_true rfl) d_X4_person_23 ?_
    rintro _ μ2 ⟨rfl, hD3, hF4⟩
    have hR5 := MR.cg hR (μ' := μ2) (fun id hid => (hF4 _ (by omega)))
    have hX6 := MX.cg hX (μ' := μ2) (fun id hid => (hF4 _ (by omega)))
    have hF7 : ∀ id, id < 41 → μ2 id = μ id := fun id hid => (show μ2 id = μ id from (hF4 _ (by omega))).trans (hF id hid)
    refine x_iret rfl d_X4_person_26 ?_
    have e9 : F_person g k w = fin g 0 := by simp [F_person, x_b_f, x_b_t, c1]
    rw [e9]
    exact ⟨rfl, MS.fin hR5 hX6 hD3, hF7⟩
  · skip
    refine x_iload_n 2 d_X4_person_10 rfl rfl ?_
    refine x_iconst (x := (-1)) d_X4_person_11 (by decide) ?_
    refine x_bipush (x := 16) d_X4_person_12 (by decide) ?_
    refine x_csip (as := [.int w, .int (-1), .int 16]) (c_X4_in l E μ w (-1) 16) v_X4_in q728 q727 rfl ⟨Nat.le_of_ble_eq_true rfl, Nat.le_of_ble_eq_true rfl⟩ rfl (Nat.le_of_ble_eq_true rfl) d_X4_person_14 ?_
    refine x_ifb_ne 27 d_X4_person_17 (by decide) (fun c8 => ?_) (fun c8 => ?_)
    · skip
      refine x_aload_n 0 d_X4_person_27 rfl rfl ?_
      refine x_getr (j := 0) 42 x_c4 rfl (Nat.le_of_ble_eq_true rfl) q668 rfl d_X4_person_28 ?_
      refine x_bipush (x := 7) d_X4_person_31 (by decide) ?_
      refine x_ialdN (z := nI (pn (gA g))) 58 7 rfl rfl (by omega) (by decide) ((hR 7 (by decide)).trans hn7) d_X4_person_33 ?_
      refine x_bipush (x := 8) d_X4_person_34 (by decide) ?_
      refine x_icmp_ne 48 d_X4_person_36 (by decide) (fun c9 => ?_) (fun c9 => ?_)
      · skip
        refine x_aload_n 0 d_X4_person_48 rfl rfl ?_
        refine x_iload_n 1 d_X4_person_49 rfl rfl ?_
        refine x_iload_n 2 d_X4_person_50 rfl rfl ?_
        refine x_bipush (x := 50) d_X4_person_51 (by decide) ?_
        have hlt : pn (gA g) < 8 := by have z : pn (gA g) ≠ 8 := fun z => c9 (by rw [z]; rfl); omega
        refine x_cvi (k := 41) (as := [.int k, .int w, .int 50]) (c_X4_comes l E μ hR hWF hlt k w 50) v_X4_comes w_X4_comes q779 o_M rfl ⟨Nat.le_of_ble_eq_true rfl, Nat.le_of_ble_eq_true rfl⟩ rfl (Nat.le_of_ble_eq_true rfl) d_X4_person_53 ?_
        rintro _ μ10 ⟨rfl, hR11, hF12⟩
        have hX13 := MX.cg hX (μ' := μ10) (fun id hid => (hF12 _ (by omega)))
        have hD14 := MD.cg hD (μ' := μ10) (fun id hid => (hF12 _ (by omega)))
        have hF15 : ∀ id, id < 41 → μ10 id = μ id := fun id hid => (show μ10 id = μ id from (hF12 _ (by omega))).trans (hF id hid)
        refine x_iret rfl d_X4_person_56 ?_
        have e9 : F_person g k w = (nI (pn (gA g)), sA g (comeF (gA g) k w 50)) := by simp [F_person, x_b_f, x_b_t, c1, c8, hlt]
        rw [e9]
        exact ⟨rfl, MS.line hR11 hX13 hD14, hF15⟩
      · skip
        refine x_aload_n 0 d_X4_person_39 rfl rfl ?_
        refine x_ldc q778 d_X4_person_40 ?_
        refine x_cvi (k := 41) (as := [.int (-1000002)]) (c_X4_finds l E μ (i := 1) hD (by decide) (w := (-1000002)) (by decide)) v_X4_finds w_X4_finds q735 o_M rfl ⟨Nat.le_of_ble_eq_true rfl, Nat.le_of_ble_eq_true rfl⟩ rfl (Nat.le_of_ble_eq_true rfl) d_X4_person_42 ?_
        rintro _ μ16 ⟨rfl, hD17, hF18⟩
        have hR19 := MR.cg hR (μ' := μ16) (fun id hid => (hF18 _ (by omega)))
        have hX20 := MX.cg hX (μ' := μ16) (fun id hid => (hF18 _ (by omega)))
        have hF21 : ∀ id, id < 41 → μ16 id = μ id := fun id hid => (show μ16 id = μ id from (hF18 _ (by omega))).trans (hF id hid)
        refine x_goto 56 d_X4_person_45 (by decide) ?_
        refine x_iret rfl d_X4_person_56 ?_
        have e8 := (nI_eq (by omega) (by omega)).mp (show nI (pn (gA g)) = nI 8 from c9)
        have e9 : F_person g k w = fin g 1 := by simp [F_person, x_b_f, x_b_t, c1, c8, show ¬ pn (gA g) < 8 by omega]
        rw [e9]
        exact ⟨rfl, MS.fin hR19 hX20 hD17, hF21⟩
    · skip
      refine x_aload_n 0 d_X4_person_20 rfl rfl ?_
      refine x_ldc q734 d_X4_person_21 ?_
      refine x_cvi (k := 41) (as := [.int (-1000001)]) (c_X4_finds l E μ (i := 0) hD (by decide) (w := (-1000001)) (by decide)) v_X4_finds w_X4_finds q735 o_M rfl ⟨Nat.le_of_ble_eq_true rfl, Nat.le_of_ble_eq_true rfl⟩ rfl (Nat.le_of_ble_eq_true rfl) d_X4_person_23 ?_
      rintro _ μ22 ⟨rfl, hD23, hF24⟩
      have hR25 := MR.cg hR (μ' := μ22) (fun id hid => (hF24 _ (by omega)))
      have hX26 := MX.cg hX (μ' := μ22) (fun id hid => (hF24 _ (by omega)))
      have hF27 : ∀ id, id < 41 → μ22 id = μ id := fun id hid => (show μ22 id = μ id from (hF24 _ (by omega))).trans (hF id hid)
      refine x_iret rfl d_X4_person_26 ?_
      have e9 : F_person g k w = fin g 0 := by simp [F_person, x_b_f, x_b_t, c1, c8]
      rw [e9]
      exact ⟨rfl, MS.fin hR25 hX26 hD23, hF27⟩
end
section
def m_X4_status : x_M := (yX4_status, prog_6_method_102_code, 4, (some FieldType.int), 1, 22)
theorem v_X4_status : x_VM m_X4_status 1 := ⟨q1126, q6, by decide +kernel, by decide +kernel, by decide +kernel⟩
theorem w_X4_status : x_VI m_X4_status := ⟨q1124, q1125⟩
theorem d_X4_status_0 : x_dec m_X4_status 0 (.iload_n 1) 1 1 := ⟨by decide +kernel, rfl⟩
theorem d_X4_status_1 : x_dec m_X4_status 1 (.iconst (-1)) 1 2 := ⟨by decide +kernel, rfl⟩
theorem d_X4_status_2 : x_dec m_X4_status 2 (.bipush 6) 2 4 := ⟨by decide +kernel, rfl⟩
theorem d_X4_status_4 : x_dec m_X4_status 4 (.invokestatic 46) 3 7 := ⟨by decide +kernel, rfl⟩
theorem d_X4_status_7 : x_dec m_X4_status 7 (.ifCond .ne 10) 3 10 := ⟨by decide +kernel, rfl⟩
theorem d_X4_status_10 : x_dec m_X4_status 10 (.aload_n 0) 1 11 := ⟨by decide +kernel, rfl⟩
theorem d_X4_status_11 : x_dec m_X4_status 11 (.ldc 40) 2 13 := ⟨by decide +kernel, rfl⟩
theorem d_X4_status_13 : x_dec m_X4_status 13 (.invokevirtual 42) 3 16 := ⟨by decide +kernel, rfl⟩
theorem d_X4_status_16 : x_dec m_X4_status 16 (.ireturn) 1 17 := ⟨by decide +kernel, rfl⟩
theorem d_X4_status_17 : x_dec m_X4_status 17 (.iconst 0) 1 18 := ⟨by decide +kernel, rfl⟩
theorem d_X4_status_18 : x_dec m_X4_status 18 (.istore_n 2) 1 19 := ⟨by decide +kernel, rfl⟩
theorem d_X4_status_19 : x_dec m_X4_status 19 (.iconst 0) 1 20 := ⟨by decide +kernel, rfl⟩
theorem d_X4_status_20 : x_dec m_X4_status 20 (.istore_n 3) 1 21 := ⟨by decide +kernel, rfl⟩
theorem d_X4_status_21 : x_dec m_X4_status 21 (.iload_n 3) 1 22 := ⟨by decide +kernel, rfl⟩
theorem d_X4_status_22 : x_dec m_X4_status 22 (.bipush 7) 2 24 := ⟨by decide +kernel, rfl⟩
theorem d_X4_status_24 : x_dec m_X4_status 24 (.if_icmp .ge 31) 3 27 := ⟨by decide +kernel, rfl⟩
theorem d_X4_status_27 : x_dec m_X4_status 27 (.iload_n 2) 1 28 := ⟨by decide +kernel, rfl⟩
theorem d_X4_status_28 : x_dec m_X4_status 28 (.iload_n 1) 1 29 := ⟨by decide +kernel, rfl⟩
theorem d_X4_status_29 : x_dec m_X4_status 29 (.ifCond .lt 8) 3 32 := ⟨by decide +kernel, rfl⟩
theorem d_X4_status_32 : x_dec m_X4_status 32 (.iload_n 1) 1 33 := ⟨by decide +kernel, rfl⟩
theorem d_X4_status_33 : x_dec m_X4_status 33 (.iload_n 3) 1 34 := ⟨by decide +kernel, rfl⟩
theorem d_X4_status_34 : x_dec m_X4_status 34 (.if_icmp .ne 12) 3 37 := ⟨by decide +kernel, rfl⟩
theorem d_X4_status_37 : x_dec m_X4_status 37 (.aload_n 0) 1 38 := ⟨by decide +kernel, rfl⟩
theorem d_X4_status_38 : x_dec m_X4_status 38 (.getfield 19) 3 41 := ⟨by decide +kernel, rfl⟩
theorem d_X4_status_41 : x_dec m_X4_status 41 (.iload_n 3) 1 42 := ⟨by decide +kernel, rfl⟩
theorem d_X4_status_42 : x_dec m_X4_status 42 (.iaload) 1 43 := ⟨by decide +kernel, rfl⟩
theorem d_X4_status_43 : x_dec m_X4_status 43 (.goto 4) 3 46 := ⟨by decide +kernel, rfl⟩
theorem d_X4_status_46 : x_dec m_X4_status 46 (.iconst 0) 1 47 := ⟨by decide +kernel, rfl⟩
theorem d_X4_status_47 : x_dec m_X4_status 47 (.iadd) 1 48 := ⟨by decide +kernel, rfl⟩
theorem d_X4_status_48 : x_dec m_X4_status 48 (.istore_n 2) 1 49 := ⟨by decide +kernel, rfl⟩
theorem d_X4_status_49 : x_dec m_X4_status 49 (.iinc 3 1) 3 52 := ⟨by decide +kernel, rfl⟩
theorem d_X4_status_52 : x_dec m_X4_status 52 (.goto (-31)) 3 55 := ⟨by decide +kernel, rfl⟩
theorem d_X4_status_55 : x_dec m_X4_status 55 (.iload_n 2) 1 56 := ⟨by decide +kernel, rfl⟩
theorem d_X4_status_56 : x_dec m_X4_status 56 (.ireturn) 1 57 := ⟨by decide +kernel, rfl⟩
set_option maxHeartbeats 4000000 in
set_option maxRecDepth 100000 in
theorem c_X4_status (l : Launch) (E : x_E) (μ : x_Mem) (g : x_SG) (hS : MS g μ) (hI : Inv g) (w : Int32) : x_Met l m_X4_status E [.ref (E.1 + 41), .int w] μ (x_I (fun z m => z = (F_status g w).1 ∧ MS (F_status g w).2 m ∧ ∀ id, id < 41 → m id = μ id)) := by
  obtain ⟨hR, hX, hD⟩ := hS
  have hWF := hI.1.1
  have hn7 := hWF.2.1
  have hpn := hWF.1
  have hF : ∀ id, id < 41 → μ id = μ id := fun _ _ => rfl
  refine x_enter (lv := [(0, .ref (E.1 + 41)), (1, .int w)]) (by decide +kernel) (Nat.le_of_ble_eq_true rfl) rfl ?_
  refine x_iload_n 1 d_X4_status_0 rfl rfl ?_
  refine x_iconst (x := (-1)) d_X4_status_1 (by decide) ?_
  refine x_bipush (x := 6) d_X4_status_2 (by decide) ?_
  refine x_csip (as := [.int w, .int (-1), .int 6]) (c_X4_in l E μ w (-1) 6) v_X4_in q728 q727 rfl ⟨Nat.le_of_ble_eq_true rfl, Nat.le_of_ble_eq_true rfl⟩ rfl (Nat.le_of_ble_eq_true rfl) d_X4_status_4 ?_
  refine x_ifb_ne 17 d_X4_status_7 (by decide) (fun c1 => ?_) (fun c1 => ?_)
  · skip
    refine x_iconst (x := 0) d_X4_status_17 (by decide) ?_
    refine x_istore_n [(2, .int 0), (0, .ref (E.1 + 41)), (1, .int w)] d_X4_status_18 rfl (Nat.le_of_ble_eq_true rfl) rfl ?_
    refine x_iconst (x := 0) d_X4_status_19 (by decide) ?_
    refine x_istore_n [(3, .int 0), (2, .int 0), (0, .ref (E.1 + 41)), (1, .int w)] d_X4_status_20 rfl (Nat.le_of_ble_eq_true rfl) rfl ?_
    have L2 : ∀ i : Nat, i ≤ 7 → ∀ r : Int32, (r = sumTo (fun k => if (w < 0 ∨ w = nI k) then gF g k else 0) i) → x_G l E m_X4_status (x_mv E m_X4_status (x_I (fun z m => z = (F_status g w).1 ∧ MS (F_status g w).2 m ∧ ∀ id, id < 41 → m id = μ id))) μ 21 [(3, .int (nI i)), (2, .int r), (0, .ref (E.1 + 41)), (1, .int w)] [] := by
      refine x_down _ 7 (fun i hi4 ih3 => ?_)
      intro r hr
      refine x_iload_n 0 d_X4_status_21 rfl rfl ?_
      refine x_bipush (x := 7) d_X4_status_22 (by decide) ?_
      refine x_icmp_ge 55 d_X4_status_24 (by decide) (fun c5 => ?_) (fun c5 => ?_)
      · skip
        have hN := x_ge (N := 7) c5 rfl rfl (by omega) (by omega)
        refine x_iload_n 1 d_X4_status_55 rfl rfl ?_
        refine x_iret rfl d_X4_status_56 ?_
        have e7 : i = 7 := by omega
        subst e7
        have e9 : F_status g w = (r, g) := by unfold F_status; rw [if_pos c1, hr]
        rw [e9]
        exact ⟨rfl, ⟨hR, hX, hD⟩, hF⟩
      · skip
        have hN := x_lt (N := 7) c5 rfl rfl (by omega) (by omega)
        refine x_iload_n 1 d_X4_status_27 rfl rfl ?_
        refine x_iload_n 3 d_X4_status_28 rfl rfl ?_
        refine x_if_lt 37 d_X4_status_29 (by decide) (fun c6 => ?_) (fun c6 => ?_)
        · skip
          refine x_aload_n 2 d_X4_status_37 rfl rfl ?_
          refine x_getr (j := 4) 45 x_c4 rfl (Nat.le_of_ble_eq_true rfl) q672 rfl d_X4_status_38 ?_
          refine x_iload_n 0 d_X4_status_41 rfl rfl ?_
          refine x_ialdN (z := gF g i) 7 i rfl rfl (by omega) (by decide) (hD i (by omega)) d_X4_status_42 ?_
          refine x_goto 47 d_X4_status_43 (by decide) ?_
          refine x_iadd d_X4_status_47 ?_
          refine x_istore_n [(2, .int (r + (gF g i))), (3, .int (nI i)), (0, .ref (E.1 + 41)), (1, .int w)] d_X4_status_48 rfl (Nat.le_of_ble_eq_true rfl) rfl ?_
          refine x_iinc [(3, .int (nI (i + 1))), (2, .int (r + (gF g i))), (0, .ref (E.1 + 41)), (1, .int w)] 1 d_X4_status_49 rfl (x_inc _) (Nat.le_of_ble_eq_true rfl) rfl ?_
          refine x_goto 21 d_X4_status_52 (by decide) ?_
          exact ih3 (i + 1) (by omega) (by omega) (r + (gF g i)) (by rw [hr, sumTo, if_pos (Or.inl c6)])
        · skip
          refine x_iload_n 3 d_X4_status_32 rfl rfl ?_
          refine x_iload_n 0 d_X4_status_33 rfl rfl ?_
          refine x_icmp_ne 46 d_X4_status_34 (by decide) (fun c7 => ?_) (fun c7 => ?_)
          · skip
            refine x_iconst (x := 0) d_X4_status_46 (by decide) ?_
            refine x_iadd d_X4_status_47 ?_
            refine x_istore_n [(2, .int (r + 0)), (3, .int (nI i)), (0, .ref (E.1 + 41)), (1, .int w)] d_X4_status_48 rfl (Nat.le_of_ble_eq_true rfl) rfl ?_
            refine x_iinc [(3, .int (nI (i + 1))), (2, .int (r + 0)), (0, .ref (E.1 + 41)), (1, .int w)] 1 d_X4_status_49 rfl (x_inc _) (Nat.le_of_ble_eq_true rfl) rfl ?_
            refine x_goto 21 d_X4_status_52 (by decide) ?_
            exact ih3 (i + 1) (by omega) (by omega) (r + 0) (by rw [hr, sumTo, if_neg (fun z => z.elim c6 c7)])
          · skip
            refine x_aload_n 2 d_X4_status_37 rfl rfl ?_
            refine x_getr (j := 4) 45 x_c4 rfl (Nat.le_of_ble_eq_true rfl) q672 rfl d_X4_status_38 ?_
            refine x_iload_n 0 d_X4_status_41 rfl rfl ?_
            refine x_ialdN (z := gF g i) 7 i rfl rfl (by omega) (by decide) (hD i (by omega)) d_X4_status_42 ?_
            refine x_goto 47 d_X4_status_43 (by decide) ?_
            refine x_iadd d_X4_status_47 ?_
            refine x_istore_n [(2, .int (r + (gF g i))), (3, .int (nI i)), (0, .ref (E.1 + 41)), (1, .int w)] d_X4_status_48 rfl (Nat.le_of_ble_eq_true rfl) rfl ?_
            refine x_iinc [(3, .int (nI (i + 1))), (2, .int (r + (gF g i))), (0, .ref (E.1 + 41)), (1, .int w)] 1 d_X4_status_49 rfl (x_inc _) (Nat.le_of_ble_eq_true rfl) rfl ?_
            refine x_goto 21 d_X4_status_52 (by decide) ?_
            exact ih3 (i + 1) (by omega) (by omega) (r + (gF g i)) (by rw [hr, sumTo, if_pos (Or.inr (Classical.not_not.mp (fun z => z c7)))])
    exact L2 0 (by omega) 0 (by rfl)
  · skip
    refine x_aload_n 0 d_X4_status_10 rfl rfl ?_
    refine x_ldc q734 d_X4_status_11 ?_
    refine x_cvi (k := 41) (as := [.int (-1000001)]) (c_X4_finds l E μ (i := 0) hD (by decide) (w := (-1000001)) (by decide)) v_X4_finds w_X4_finds q735 o_M rfl ⟨Nat.le_of_ble_eq_true rfl, Nat.le_of_ble_eq_true rfl⟩ rfl (Nat.le_of_ble_eq_true rfl) d_X4_status_13 ?_
    rintro _ μ8 ⟨rfl, hD9, hF10⟩
    have hR11 := MR.cg hR (μ' := μ8) (fun id hid => (hF10 _ (by omega)))
    have hX12 := MX.cg hX (μ' := μ8) (fun id hid => (hF10 _ (by omega)))
    have hF13 : ∀ id, id < 41 → μ8 id = μ id := fun id hid => (show μ8 id = μ id from (hF10 _ (by omega))).trans (hF id hid)
    refine x_iret rfl d_X4_status_16 ?_
    have e9 : F_status g w = fin g 0 := by simp [F_status, x_b_f, x_b_t, c1]
    rw [e9]
    exact ⟨rfl, MS.fin hR11 hX12 hD9, hF13⟩
def m_X4_hold : x_M := (yX4_hold, prog_6_method_88_code, 3, (some FieldType.int), 2, 43)
theorem v_X4_hold : x_VM m_X4_hold 2 := ⟨q1069, q6, by decide +kernel, by decide +kernel, by decide +kernel⟩
theorem w_X4_hold : x_VI m_X4_hold := ⟨q1067, q1068⟩
theorem d_X4_hold_0 : x_dec m_X4_hold 0 (.iload_n 1) 1 1 := ⟨by decide +kernel, rfl⟩
theorem d_X4_hold_1 : x_dec m_X4_hold 1 (.iconst 0) 1 2 := ⟨by decide +kernel, rfl⟩
theorem d_X4_hold_2 : x_dec m_X4_hold 2 (.bipush 9) 2 4 := ⟨by decide +kernel, rfl⟩
theorem d_X4_hold_4 : x_dec m_X4_hold 4 (.invokestatic 46) 3 7 := ⟨by decide +kernel, rfl⟩
theorem d_X4_hold_7 : x_dec m_X4_hold 7 (.ifCond .eq 16) 3 10 := ⟨by decide +kernel, rfl⟩
theorem d_X4_hold_10 : x_dec m_X4_hold 10 (.iload_n 2) 1 11 := ⟨by decide +kernel, rfl⟩
theorem d_X4_hold_11 : x_dec m_X4_hold 11 (.iconst (-1)) 1 12 := ⟨by decide +kernel, rfl⟩
theorem d_X4_hold_12 : x_dec m_X4_hold 12 (.if_icmp .eq 18) 3 15 := ⟨by decide +kernel, rfl⟩
theorem d_X4_hold_15 : x_dec m_X4_hold 15 (.aload_n 0) 1 16 := ⟨by decide +kernel, rfl⟩
theorem d_X4_hold_16 : x_dec m_X4_hold 16 (.iload_n 2) 1 17 := ⟨by decide +kernel, rfl⟩
theorem d_X4_hold_17 : x_dec m_X4_hold 17 (.invokevirtual 92) 3 20 := ⟨by decide +kernel, rfl⟩
theorem d_X4_hold_20 : x_dec m_X4_hold 20 (.ifCond .ne 10) 3 23 := ⟨by decide +kernel, rfl⟩
theorem d_X4_hold_23 : x_dec m_X4_hold 23 (.aload_n 0) 1 24 := ⟨by decide +kernel, rfl⟩
theorem d_X4_hold_24 : x_dec m_X4_hold 24 (.ldc 40) 2 26 := ⟨by decide +kernel, rfl⟩
theorem d_X4_hold_26 : x_dec m_X4_hold 26 (.invokevirtual 42) 3 29 := ⟨by decide +kernel, rfl⟩
theorem d_X4_hold_29 : x_dec m_X4_hold 29 (.ireturn) 1 30 := ⟨by decide +kernel, rfl⟩
theorem d_X4_hold_30 : x_dec m_X4_hold 30 (.aload_n 0) 1 31 := ⟨by decide +kernel, rfl⟩
theorem d_X4_hold_31 : x_dec m_X4_hold 31 (.getfield 9) 3 34 := ⟨by decide +kernel, rfl⟩
theorem d_X4_hold_34 : x_dec m_X4_hold 34 (.bipush 48) 2 36 := ⟨by decide +kernel, rfl⟩
theorem d_X4_hold_36 : x_dec m_X4_hold 36 (.iload_n 1) 1 37 := ⟨by decide +kernel, rfl⟩
theorem d_X4_hold_37 : x_dec m_X4_hold 37 (.iadd) 1 38 := ⟨by decide +kernel, rfl⟩
theorem d_X4_hold_38 : x_dec m_X4_hold 38 (.iload_n 2) 1 39 := ⟨by decide +kernel, rfl⟩
theorem d_X4_hold_39 : x_dec m_X4_hold 39 (.iastore) 1 40 := ⟨by decide +kernel, rfl⟩
theorem d_X4_hold_40 : x_dec m_X4_hold 40 (.iconst 1) 1 41 := ⟨by decide +kernel, rfl⟩
theorem d_X4_hold_41 : x_dec m_X4_hold 41 (.ireturn) 1 42 := ⟨by decide +kernel, rfl⟩
set_option maxHeartbeats 4000000 in
set_option maxRecDepth 100000 in
theorem c_X4_hold (l : Launch) (E : x_E) (μ : x_Mem) (g : x_SG) (hS : MS g μ) (hI : Inv g) (j p : Int32) : x_Met l m_X4_hold E [.ref (E.1 + 41), .int j, .int p] μ (x_I (fun z m => z = (F_hold g j p).1 ∧ MS (F_hold g j p).2 m ∧ ∀ id, id < 41 → m id = μ id)) := by
  obtain ⟨hR, hX, hD⟩ := hS
  have hWF := hI.1.1
  have hn7 := hWF.2.1
  have hpn := hWF.1
  have hF : ∀ id, id < 41 → μ id = μ id := fun _ _ => rfl
  refine x_enter (lv := [(0, .ref (E.1 + 41)), (1, .int j), (2, .int p)]) (by decide +kernel) (Nat.le_of_ble_eq_true rfl) rfl ?_
  refine x_iload_n 1 d_X4_hold_0 rfl rfl ?_
  refine x_iconst (x := 0) d_X4_hold_1 (by decide) ?_
  refine x_bipush (x := 9) d_X4_hold_2 (by decide) ?_
  refine x_csip (as := [.int j, .int 0, .int 9]) (c_X4_in l E μ j 0 9) v_X4_in q728 q727 rfl ⟨Nat.le_of_ble_eq_true rfl, Nat.le_of_ble_eq_true rfl⟩ rfl (Nat.le_of_ble_eq_true rfl) d_X4_hold_4 ?_
  refine x_ifb_eq 23 d_X4_hold_7 (by decide) (fun c1 => ?_) (fun c1 => ?_)
  · skip
    refine x_aload_n 0 d_X4_hold_23 rfl rfl ?_
    refine x_ldc q734 d_X4_hold_24 ?_
    refine x_cvi (k := 41) (as := [.int (-1000001)]) (c_X4_finds l E μ (i := 0) hD (by decide) (w := (-1000001)) (by decide)) v_X4_finds w_X4_finds q735 o_M rfl ⟨Nat.le_of_ble_eq_true rfl, Nat.le_of_ble_eq_true rfl⟩ rfl (Nat.le_of_ble_eq_true rfl) d_X4_hold_26 ?_
    rintro _ μ2 ⟨rfl, hD3, hF4⟩
    have hR5 := MR.cg hR (μ' := μ2) (fun id hid => (hF4 _ (by omega)))
    have hX6 := MX.cg hX (μ' := μ2) (fun id hid => (hF4 _ (by omega)))
    have hF7 : ∀ id, id < 41 → μ2 id = μ id := fun id hid => (show μ2 id = μ id from (hF4 _ (by omega))).trans (hF id hid)
    refine x_iret rfl d_X4_hold_29 ?_
    have e9 : F_hold g j p = fin g 0 := by simp [F_hold, x_b_f, x_b_t, c1]
    rw [e9]
    exact ⟨rfl, MS.fin hR5 hX6 hD3, hF7⟩
  · skip
    obtain ⟨jj, hjj, rfl⟩ := inR_nat (n := 9) (by decide) c1
    refine x_iload_n 2 d_X4_hold_10 rfl rfl ?_
    refine x_iconst (x := (-1)) d_X4_hold_11 (by decide) ?_
    refine x_icmp_eq 30 d_X4_hold_12 (by decide) (fun c8 => ?_) (fun c8 => ?_)
    · skip
      refine x_aload_n 0 d_X4_hold_30 rfl rfl ?_
      refine x_getr (j := 0) 42 x_c4 rfl (Nat.le_of_ble_eq_true rfl) q668 rfl d_X4_hold_31 ?_
      refine x_bipush (x := 48) d_X4_hold_34 (by decide) ?_
      refine x_iload_n 1 d_X4_hold_36 rfl rfl ?_
      refine x_iadd d_X4_hold_37 ?_
      rw [show (48 : Int32) + (nI jj) = nI (48 + jj) from nI_add 48 jj]
      refine x_iload_n 2 d_X4_hold_38 rfl rfl ?_
      refine x_iastNG 58 (48 + jj) rfl rfl (by omega) (by decide) d_X4_hold_39 (fun μ9 eμ9 => ?_)
      have hR10 : MR (upd (gA g) ((48 + jj)) p) μ9 := MR.w hR eμ9
      have hX11 := MX.cg hX (μ' := μ9) (fun id hid => (by rw [eμ9, upd2_ne _ _ _ (by omega)]))
      have hD12 := MD.cg hD (μ' := μ9) (fun id hid => (by rw [eμ9, upd2_ne _ _ _ (by omega)]))
      have hF13 : ∀ id, id < 41 → μ9 id = μ id := fun id hid => (show μ9 id = μ id from (by rw [eμ9, upd2_ne _ _ _ (by omega)])).trans (hF id hid)
      refine x_iconst (x := 1) d_X4_hold_40 (by decide) ?_
      refine x_iret rfl d_X4_hold_41 ?_
      have e9 : F_hold g (nI jj) p = (1, sA g (upd (gA g) ((48 + jj)) p)) := by simp [F_hold, x_b_f, x_b_t, c1, c8, nI_clamp (n := jj) (by omega)]
      rw [e9]
      exact ⟨rfl, MS.line hR10 hX11 hD12, hF13⟩
    · skip
      refine x_aload_n 0 d_X4_hold_15 rfl rfl ?_
      refine x_iload_n 2 d_X4_hold_16 rfl rfl ?_
      refine x_cvip (k := 41) (as := [.int p]) (c_X4_isOne l E μ hR hWF p) v_X4_isOne w_X4_isOne q791 o_M rfl ⟨Nat.le_of_ble_eq_true rfl, Nat.le_of_ble_eq_true rfl⟩ rfl (Nat.le_of_ble_eq_true rfl) d_X4_hold_17 ?_
      refine x_ifb_ne 30 d_X4_hold_20 (by decide) (fun c14 => ?_) (fun c14 => ?_)
      · skip
        obtain ⟨q, hq, rfl⟩ := isP_nat hWF c14
        refine x_aload_n 0 d_X4_hold_30 rfl rfl ?_
        refine x_getr (j := 0) 42 x_c4 rfl (Nat.le_of_ble_eq_true rfl) q668 rfl d_X4_hold_31 ?_
        refine x_bipush (x := 48) d_X4_hold_34 (by decide) ?_
        refine x_iload_n 1 d_X4_hold_36 rfl rfl ?_
        refine x_iadd d_X4_hold_37 ?_
        rw [show (48 : Int32) + (nI jj) = nI (48 + jj) from nI_add 48 jj]
        refine x_iload_n 2 d_X4_hold_38 rfl rfl ?_
        refine x_iastNG 58 (48 + jj) rfl rfl (by omega) (by decide) d_X4_hold_39 (fun μ15 eμ15 => ?_)
        have hR16 : MR (upd (gA g) ((48 + jj)) (nI q)) μ15 := MR.w hR eμ15
        have hX17 := MX.cg hX (μ' := μ15) (fun id hid => (by rw [eμ15, upd2_ne _ _ _ (by omega)]))
        have hD18 := MD.cg hD (μ' := μ15) (fun id hid => (by rw [eμ15, upd2_ne _ _ _ (by omega)]))
        have hF19 : ∀ id, id < 41 → μ15 id = μ id := fun id hid => (show μ15 id = μ id from (by rw [eμ15, upd2_ne _ _ _ (by omega)])).trans (hF id hid)
        refine x_iconst (x := 1) d_X4_hold_40 (by decide) ?_
        refine x_iret rfl d_X4_hold_41 ?_
        have e9 : F_hold g (nI jj) (nI q) = (1, sA g (upd (gA g) ((48 + jj)) (nI q))) := by simp [F_hold, x_b_f, x_b_t, c1, c8, c14, nI_clamp (n := jj) (by omega), nI_clamp (n := q) (by omega)]
        rw [e9]
        exact ⟨rfl, MS.line hR16 hX17 hD18, hF19⟩
      · skip
        refine x_aload_n 0 d_X4_hold_23 rfl rfl ?_
        refine x_ldc q734 d_X4_hold_24 ?_
        refine x_cvi (k := 41) (as := [.int (-1000001)]) (c_X4_finds l E μ (i := 0) hD (by decide) (w := (-1000001)) (by decide)) v_X4_finds w_X4_finds q735 o_M rfl ⟨Nat.le_of_ble_eq_true rfl, Nat.le_of_ble_eq_true rfl⟩ rfl (Nat.le_of_ble_eq_true rfl) d_X4_hold_26 ?_
        rintro _ μ20 ⟨rfl, hD21, hF22⟩
        have hR23 := MR.cg hR (μ' := μ20) (fun id hid => (hF22 _ (by omega)))
        have hX24 := MX.cg hX (μ' := μ20) (fun id hid => (hF22 _ (by omega)))
        have hF25 : ∀ id, id < 41 → μ20 id = μ id := fun id hid => (show μ20 id = μ id from (hF22 _ (by omega))).trans (hF id hid)
        refine x_iret rfl d_X4_hold_29 ?_
        have e9 : F_hold g (nI jj) p = fin g 0 := by simp [F_hold, x_b_f, x_b_t, c1, c8, c14, nI_clamp (n := jj) (by omega)]
        rw [e9]
        exact ⟨rfl, MS.fin hR23 hX24 hD21, hF25⟩
end
